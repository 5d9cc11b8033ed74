-- 15b.pure0b
section
/-! THE CLASS' WORDS: one letter more -/
theorem zwch : ∀ k : Fin 116, (F_J0_charAt_5068e 0 (Int32.ofNat k.val)).toInt = zwt.getD k.val 0 := by decide +kernel
theorem zwt_len : zwt.length = 116 := by decide +kernel
theorem zwt_rng : ∀ k : Fin 116, zwt.getD k.val 0 = 32 ∨ (97 ≤ zwt.getD k.val 0 ∧ zwt.getD k.val 0 ≤ 122) := by decide +kernel
theorem zwf_g {α : Type} (f : α → Int → α) (x : α) (l : List Int) {k : Nat} (hk : k < l.length) : (l.take (k + 1)).foldl f x = f ((l.take k).foldl f x) (l.getD k 0) := by
  rw [List.take_add_one, List.foldl_append, List.getD_eq_getElem?_getD, List.getElem?_eq_getElem hk]
  rfl
theorem zwf_s {k : Nat} (hk : k < 116) : zwf (k + 1) = zwa (zwf k) (zwt.getD k 0) := zwf_g zwa (0, fun _ => 0) zwt (by rw [zwt_len]; exact hk)
theorem zwc_at {x : Int32} {k : Nat} (hx : x.toInt = k) (hk : k < 116) : (F_J0_charAt_5068e 0 x).toInt = zwt.getD k 0 := by
  have e : x = Int32.ofNat k := Int32.toInt_inj.mp (by rw [hx, Int32.toInt_ofNat_of_lt (by omega)])
  rw [e]
  exact zwch ⟨k, hk⟩
theorem zwl_w {x : Int64} {c : Int32} (hc : 97 ≤ c.toInt ∧ c.toInt ≤ 122) : F_X8_withLetter x c = x * 32 + Int64.ofInt (c.toInt - 96) := by
  unfold F_X8_withLetter
  have e97 : (97 : Int32).toInt = 97 := by decide
  have e1 : (1 : Int32).toInt = 1 := by decide
  have e : (c - (97 : Int32) + (1 : Int32)).toInt = c.toInt - 96 := by
    have h1 : (c - (97 : Int32)).toInt = c.toInt - 97 := by rw [zb_sub (by rw [e97]; omega) (by rw [e97]; omega), e97]
    rw [zb_add (by rw [h1, e1]; omega) (by rw [h1, e1]; omega), h1, e1]
    omega
  show x * 32 + (c - (97 : Int32) + (1 : Int32)).toInt64 = _
  congr 1
  refine Int64.toInt_inj.mp ?_
  rw [Int32.toInt_toInt64, e, Int64.toInt_ofInt_of_le (by omega) (by omega)]
/-- the state of the reading of the words -/
def zwS (y : Nat) (x8 x9 : Int32) (τ : zS) : Prop := ∃ k : Nat, x8.toInt = k ∧ k ≤ 116 ∧ x9.toInt = (zwf k).1 ∧ ∀ j, τ.2.1 y j = (zwf k).2 j
theorem zwS.blank {y : Nat} {x8 x9 c a8 a9 : Int32} {τ : zS} (h : zwS y x8 x9 τ) (h8 : x8.toInt < 116) (hc : c = F_J0_charAt_5068e 0 x8) (c32 : c.toInt = 32) (ha8 : a8.toInt = x8.toInt + 1) (ha9 : a9.toInt = x9.toInt + 1) : zwS y a8 a9 τ := by
  obtain ⟨k, h1, h2, h3, h4⟩ := h
  have ec := zwc_at h1 (by omega)
  rw [← hc, c32] at ec
  have es := zwf_s (k := k) (by omega)
  rw [← ec] at es
  have e2 : zwf (k + 1) = ((zwf k).1 + 1, (zwf k).2) := es
  refine ⟨k + 1, by omega, by omega, ?_, fun j => ?_⟩
  · rw [e2]; show a9.toInt = (((zwf k).1 + 1 : Nat) : Int); omega
  · rw [e2]; exact h4 j
theorem zwS.letter {y : Nat} {x8 x9 c a8 : Int32} {τ τ' : zS} (h : zwS y x8 x9 τ) (h8 : x8.toInt < 116) (hc : c = F_J0_charAt_5068e 0 x8) (c32 : ¬ c.toInt = 32) (ha8 : a8.toInt = x8.toInt + 1) (es : τ' = (τ.1, zu τ.2.1 y x9.toNatClampNeg (F_X8_withLetter (τ.2.1 y x9.toNatClampNeg) c), τ.2.2)) : zwS y a8 x9 τ' := by
  obtain ⟨k, h1, h2, h3, h4⟩ := h
  have ec := zwc_at h1 (by omega)
  rw [← hc] at ec
  have ez := zwf_s (k := k) (by omega)
  have rg := zwt_rng ⟨k, by omega⟩
  have rg2 : 97 ≤ c.toInt ∧ c.toInt ≤ 122 := by
    rw [ec]
    rcases rg with z | z
    · exact absurd (ec.trans z) c32
    · exact z
  rw [← ec] at ez
  have e2 : zwf (k + 1) = ((zwf k).1, fun j => if j = (zwf k).1 then (zwf k).2 (zwf k).1 * 32 + Int64.ofInt (c.toInt - 96) else (zwf k).2 j) := ez.trans (if_neg c32)
  have en : x9.toNatClampNeg = (zwf k).1 := by rw [ztn, h3]; rfl
  refine ⟨k + 1, by omega, by omega, ?_, fun j => ?_⟩
  · rw [e2]; exact h3
  · rw [es, e2, en]
    show zu τ.2.1 y (zwf k).1 _ y j = if j = (zwf k).1 then _ else _
    rw [zwl_w rg2, h4]
    by_cases cj : j = (zwf k).1
    · rw [if_pos cj, cj, zu_s]
    · rw [if_neg cj, zu_j _ _ _ _ _ (fun z => cj z.symm), h4]
theorem zwf_lt : ∀ k : Fin 116, (zwf k.val).1 < 22 := by decide +kernel
theorem zwf_e2 : ∀ j, j < 22 → (zwf 116).2 j = zw32 j := by decide +kernel
theorem zwS.first {y : Nat} {x8 x9 : Int32} {τ : zS} (h8 : x8.toInt = 0) (h9 : x9.toInt = 0) (hz : ∀ j, τ.2.1 y j = 0) : zwS y x8 x9 τ := ⟨0, h8, by omega, h9, fun j => hz j⟩
theorem zwS.fin {y : Nat} {x8 x9 : Int32} {τ : zS} (h : zwS y x8 x9 τ) (h2 : 116 ≤ x8.toInt ∨ 22 ≤ x9.toInt) : ∀ j, j < 22 → τ.2.1 y j = zw32 j := by
  obtain ⟨k, h1, hk, h3, h4⟩ := h
  have e : k = 116 := by
    by_cases c : k = 116
    · exact c
    · have q := zwf_lt ⟨k, by omega⟩
      have q2 : (zwf k).1 < 22 := q
      omega
  intro j hj
  subst e
  exact (h4 j).trans (zwf_e2 j hj)
end
-- 16.making
section
/-! MAKING: a constructor's world is the blank object alone; what it makes joins a typed world of its own -/
def zja {α : Type} (M : List Nat) (f g : Nat → α) : Nat → α := fun a => if a ∈ M then g a else f a
def zjs (M : List Nat) (σ1 σ2 : zS) : zS := (zja M σ1.1 σ2.1, zja M σ1.2.1 σ2.2.1, zja M σ1.2.2 σ2.2.2)
theorem zja_l {α : Type} {M : List Nat} {f g : Nat → α} {a : Nat} (h : a ∉ M) : zja M f g a = f a := if_neg h
theorem zja_r {α : Type} {M : List Nat} {f g : Nat → α} {a : Nat} (h : a ∈ M) : zja M f g a = g a := if_pos h
theorem zW_app {dA : Nat → ClassId} {L1 L2 : List Nat} {kd1 kd2 : Nat → Nat} {σ1 σ2 : zS} (h : ∀ a ∈ L1, a ∉ L2) : zW dA (L1 ++ L2) (zja L2 kd1 kd2) (zjs L2 σ1 σ2) = zW dA L1 kd1 σ1 ++ zW dA L2 kd2 σ2 := by
  unfold zW va_pl
  rw [List.map_append]
  congr 1
  · refine List.map_congr_left (fun a ha => ?_)
    simp only [zF, zjs, zja_l (h a ha)]
  · refine List.map_congr_left (fun a ha => ?_)
    simp only [zF, zjs, zja_r ha]
/-- what is there stays as it is -/
def zEx0 (L : List Nat) (kd : Nat → Nat) (σ : zS) (L2 : List Nat) (kd2 : Nat → Nat) (σ2 : zS) : Prop := ∀ a ∈ L, a ∈ L2 ∧ kd2 a = kd a ∧ σ2.1 a = σ.1 a ∧ σ2.2.1 a = σ.2.1 a ∧ σ2.2.2 a = σ.2.2 a
/-- nobody refers to it -/
def zrt (L : List Nat) (σ : zS) (y : Nat) : Prop := ∀ a ∈ L, ∀ j, σ.2.2 a j ≠ some y
/-- and to whom nobody referred, nobody refers still -/
def zExt (L : List Nat) (kd : Nat → Nat) (σ : zS) (L2 : List Nat) (kd2 : Nat → Nat) (σ2 : zS) : Prop := zEx0 L kd σ L2 kd2 σ2 ∧ ∀ y ∈ L, zrt L σ y → zrt L2 σ2 y
theorem zEx0.rf {L : List Nat} {kd : Nat → Nat} {σ : zS} : zEx0 L kd σ L kd σ := fun _ h => ⟨h, rfl, rfl, rfl, rfl⟩
theorem zExt.rf {L : List Nat} {kd : Nat → Nat} {σ : zS} : zExt L kd σ L kd σ := ⟨zEx0.rf, fun _ _ h => h⟩
theorem zEx0.tr {L1 L2 L3 : List Nat} {kd1 kd2 kd3 : Nat → Nat} {σ1 σ2 σ3 : zS} (h : zEx0 L1 kd1 σ1 L2 kd2 σ2) (g : zEx0 L2 kd2 σ2 L3 kd3 σ3) : zEx0 L1 kd1 σ1 L3 kd3 σ3 := fun a ha => by
  obtain ⟨h1, h2, h3, h4, h5⟩ := h a ha
  obtain ⟨g1, g2, g3, g4, g5⟩ := g a h1
  exact ⟨g1, g2.trans h2, g3.trans h3, g4.trans h4, g5.trans h5⟩
theorem zEx0.t {L1 L2 : List Nat} {kd1 kd2 : Nat → Nat} {σ1 σ2 : zS} {a k : Nat} (h : zEx0 L1 kd1 σ1 L2 kd2 σ2) (ha : zT L1 kd1 a k) : zT L2 kd2 a k := ⟨(h a ha.1).1, (h a ha.1).2.1.trans ha.2⟩
theorem zExt.t {L1 L2 : List Nat} {kd1 kd2 : Nat → Nat} {σ1 σ2 : zS} {a k : Nat} (h : zExt L1 kd1 σ1 L2 kd2 σ2) (ha : zT L1 kd1 a k) : zT L2 kd2 a k := h.1.t ha
theorem zExt.rr {L1 L2 : List Nat} {kd1 kd2 : Nat → Nat} {σ1 σ2 : zS} {a k : Nat} (h : zExt L1 kd1 σ1 L2 kd2 σ2) (ha : zT L1 kd1 a k) (r : zrt L1 σ1 a) : zrt L2 σ2 a := h.2 a ha.1 r
/-- how many places of a row count -/
def zro (k j : Nat) : Prop := zb k ≠ 16 ∨ j < zn k
/-- what a cell of a kind holds where all has been made and nothing has happened (b: the words have been read) -/
def zini (b : Bool) (k : Nat) (f : Nat → Int32) (g : Nat → Int64) : Prop := (k = 1 → f 3 = 0 ∧ f 4 = 0 ∧ f 5 = 0) ∧ (k = 2 → f 4 = 0) ∧ (k = 4 → f 1 = 0 ∧ f 2 = 0) ∧ (k = 9 → f 0 = 0 ∧ f 10 = 0) ∧ (k = 10 → f 12 = 0 ∧ f 13 = -1) ∧ (k = 40 → b = true → ∀ j, j < 22 → g j = zw32 j)
/-- refers to what is there; each but for a shape is referred to by one -/
def zcl (L : List Nat) (σ : zS) : Prop := ∀ a ∈ L, ∀ j y, σ.2.2 a j = some y → y ∈ L
def zow (L : List Nat) (kd : Nat → Nat) (σ : zS) : Prop := ∀ a ∈ L, ∀ a' ∈ L, ∀ j j' y, σ.2.2 a j = some y → σ.2.2 a' j' = some y → kd y ≠ 6 → zro (kd a) j → zro (kd a') j' → a = a' ∧ j = j'
/-- kinds of which one is made -/
def zs1 (k : Nat) : Bool := k == 0 || k == 2 || k == 4 || k == 6 || k == 8 || k == 10 || k == 29 || k == 40 || k == 52
def zKb (b : Bool) (ks : List Nat) (L : List Nat) (kd : Nat → Nat) (σ : zS) : Prop := zI 0 0 L kd σ ∧ (∀ a ∈ L, kd a ∈ ks) ∧ (∀ a ∈ L, zini b (kd a) (σ.1 a) (σ.2.1 a)) ∧ zcl L σ ∧ zow L kd σ ∧ ∀ a ∈ L, ∀ a' ∈ L, zs1 (kd a) = true → kd a = kd a' → a = a'
def zK (ks : List Nat) (L : List Nat) (kd : Nat → Nat) (σ : zS) : Prop := zKb (ks.contains 8) ks L kd σ
def zsole (k : Nat) : Bool := k == 3 || k == 5 || k == 7
theorem zEx0.l {L1 L2 : List Nat} {kd1 kd2 : Nat → Nat} {σ1 σ2 : zS} (hd : ∀ a ∈ L1, a ∉ L2) : zEx0 L1 kd1 σ1 (L1 ++ L2) (zja L2 kd1 kd2) (zjs L2 σ1 σ2) := fun a ha => ⟨List.mem_append_left _ ha, zja_l (hd a ha), zja_l (hd a ha), zja_l (hd a ha), zja_l (hd a ha)⟩
theorem zEx0.r {L1 L2 : List Nat} {kd1 kd2 : Nat → Nat} {σ1 σ2 : zS} : zEx0 L2 kd2 σ2 (L1 ++ L2) (zja L2 kd1 kd2) (zjs L2 σ1 σ2) := fun a ha => ⟨List.mem_append_right _ ha, zja_r ha, zja_r ha, zja_r ha, zja_r ha⟩
theorem zExt.l {L1 L2 : List Nat} {kd1 kd2 : Nat → Nat} {σ1 σ2 : zS} (hd : ∀ a ∈ L1, a ∉ L2) (hc : zcl L2 σ2) : zExt L1 kd1 σ1 (L1 ++ L2) (zja L2 kd1 kd2) (zjs L2 σ1 σ2) := ⟨zEx0.l hd, fun y hy hr a ha j e => by
  by_cases q : a ∈ L2
  · rw [show (zjs L2 σ1 σ2).2.2 a = σ2.2.2 a from zja_r q] at e
    exact hd y hy (hc a q j y e)
  · rw [show (zjs L2 σ1 σ2).2.2 a = σ1.2.2 a from zja_l q] at e
    rcases List.mem_append.mp ha with u | u
    · exact hr a u j e
    · exact q u⟩
theorem zExt.r {L1 L2 : List Nat} {kd1 kd2 : Nat → Nat} {σ1 σ2 : zS} (hd : ∀ a ∈ L1, a ∉ L2) (hc : zcl L1 σ1) : zExt L2 kd2 σ2 (L1 ++ L2) (zja L2 kd1 kd2) (zjs L2 σ1 σ2) := ⟨zEx0.r, fun y hy hr a ha j e => by
  by_cases q : a ∈ L2
  · rw [show (zjs L2 σ1 σ2).2.2 a = σ2.2.2 a from zja_r q] at e
    exact hr a q j e
  · rw [show (zjs L2 σ1 σ2).2.2 a = σ1.2.2 a from zja_l q] at e
    rcases List.mem_append.mp ha with u | u
    · exact hd y (hc a u j y e) hy
    · exact q u⟩
/-- two worlds side by side: what the words' flag must be -/
def zwk (b b1 b2 : Bool) (ks1 ks2 : List Nat) : Bool := (!b || ((b1 || !ks1.contains 40) && (b2 || !ks2.contains 40))) && (ks1.filter zs1).all (fun k => !(ks2.contains k))
theorem zini.up {b b1 : Bool} {ks : List Nat} {k : Nat} {f : Nat → Int32} {g : Nat → Int64} (h : zini b1 k f g) (hk : k ∈ ks) (hb : b = true → b1 = true ∨ ks.contains 40 = false) : zini b k f g := by
  obtain ⟨h1, h2, h3, h4, h5, h6⟩ := h
  refine ⟨h1, h2, h3, h4, h5, fun e c => h6 e ?_⟩
  rcases hb c with q | q
  · exact q
  · rw [e] at hk
    simp [hk] at q
theorem zKb.app {b b1 b2 : Bool} {ks1 ks2 L1 L2 : List Nat} {kd1 kd2 : Nat → Nat} {σ1 σ2 : zS} (h1 : zKb b1 ks1 L1 kd1 σ1) (h2 : zKb b2 ks2 L2 kd2 σ2) (hd : ∀ a ∈ L1, a ∉ L2) (hk : (ks1.filter zsole).all (fun k => !(ks2.contains k)) = true) (hw : zwk b b1 b2 ks1 ks2 = true) : zKb b (ks1 ++ ks2) (L1 ++ L2) (zja L2 kd1 kd2) (zjs L2 σ1 σ2) := by
  have el := zEx0.l (kd1 := kd1) (kd2 := kd2) (σ1 := σ1) (σ2 := σ2) hd
  have er := zEx0.r (L1 := L1) (L2 := L2) (kd1 := kd1) (kd2 := kd2) (σ1 := σ1) (σ2 := σ2)
  have hx : ∀ k, (k = 3 ∨ k = 5 ∨ k = 7) → k ∈ ks1 → k ∈ ks2 → False := fun k hs m1 m2 => by
    have q := List.all_eq_true.mp hk k (List.mem_filter.mpr ⟨m1, by rcases hs with rfl | rfl | rfl <;> rfl⟩)
    simp [m2] at q
  refine ⟨⟨fun a ha j => ?_, fun a ha j k hf => ?_, by omega, fun a ha a' ha' e hs => ?_, fun a ha => ?_⟩, fun a ha => ?_, fun a ha => ?_, fun a ha j y e => ?_, fun a ha a' ha' j j' y e e' n6 z z' => ?_, fun a ha a' ha' e e' => ?_⟩
  · rcases List.mem_append.mp ha with q | q
    · rw [(el a q).2.1, (el a q).2.2.1]; exact h1.1.1 a q j
    · rw [(er a q).2.1, (er a q).2.2.1]; exact h2.1.1 a q j
  · rcases List.mem_append.mp ha with q | q
    · rw [(el a q).2.1] at hf
      rw [(el a q).2.2.2.2]
      obtain ⟨y, hy, ht⟩ := h1.1.2.1 a q j k hf
      exact ⟨y, hy, el.t ht⟩
    · rw [(er a q).2.1] at hf
      rw [(er a q).2.2.2.2]
      obtain ⟨y, hy, ht⟩ := h2.1.2.1 a q j k hf
      exact ⟨y, hy, er.t ht⟩
  · rcases List.mem_append.mp ha with q | q <;> rcases List.mem_append.mp ha' with q' | q'
    · rw [(el a q).2.1] at e hs
      rw [(el a' q').2.1] at e
      exact h1.1.2.2.2.1 a q a' q' e hs
    · rw [(el a q).2.1] at e hs
      rw [(er a' q').2.1] at e
      exact absurd (hx _ hs (h1.2.1 a q) (by rw [e]; exact h2.2.1 a' q')) id
    · rw [(er a q).2.1] at e hs
      rw [(el a' q').2.1] at e
      exact absurd (hx _ hs (by rw [e]; exact h1.2.1 a' q') (h2.2.1 a q)) id
    · rw [(er a q).2.1] at e hs
      rw [(er a' q').2.1] at e
      exact h2.1.2.2.2.1 a q a' q' e hs
  · rcases List.mem_append.mp ha with q | q
    · rw [(el a q).2.1]; exact h1.1.2.2.2.2 a q
    · rw [(er a q).2.1]; exact h2.1.2.2.2.2 a q
  · rcases List.mem_append.mp ha with q | q
    · rw [(el a q).2.1]; exact List.mem_append_left _ (h1.2.1 a q)
    · rw [(er a q).2.1]; exact List.mem_append_right _ (h2.2.1 a q)
  · unfold zwk at hw
    simp only [Bool.and_eq_true, Bool.or_eq_true, Bool.not_eq_true'] at hw
    rcases List.mem_append.mp ha with q | q
    · rw [(el a q).2.1, (el a q).2.2.1, (el a q).2.2.2.1]
      exact (h1.2.2.1 a q).up (h1.2.1 a q) (fun c => by
        rcases hw.1 with w | w
        · rw [w] at c; cases c
        · exact w.1)
    · rw [(er a q).2.1, (er a q).2.2.1, (er a q).2.2.2.1]
      exact (h2.2.2.1 a q).up (h2.2.1 a q) (fun c => by
        rcases hw.1 with w | w
        · rw [w] at c; cases c
        · exact w.2)
  · rcases List.mem_append.mp ha with q | q
    · rw [(el a q).2.2.2.2] at e; exact List.mem_append_left _ (h1.2.2.2.1 a q j y e)
    · rw [(er a q).2.2.2.2] at e; exact List.mem_append_right _ (h2.2.2.2.1 a q j y e)
  · rcases List.mem_append.mp ha with q | q <;> rcases List.mem_append.mp ha' with q' | q'
    · rw [(el a q).2.2.2.2] at e
      rw [(el a' q').2.2.2.2] at e'
      rw [(el a q).2.1] at z
      rw [(el a' q').2.1] at z'
      rw [(el y (h1.2.2.2.1 a q j y e)).2.1] at n6
      exact h1.2.2.2.2.1 a q a' q' j j' y e e' n6 z z'
    · rw [(el a q).2.2.2.2] at e
      rw [(er a' q').2.2.2.2] at e'
      exact absurd (h2.2.2.2.1 a' q' j' y e') (hd y (h1.2.2.2.1 a q j y e))
    · rw [(er a q).2.2.2.2] at e
      rw [(el a' q').2.2.2.2] at e'
      exact absurd (h2.2.2.2.1 a q j y e) (hd y (h1.2.2.2.1 a' q' j' y e'))
    · rw [(er a q).2.2.2.2] at e
      rw [(er a' q').2.2.2.2] at e'
      rw [(er a q).2.1] at z
      rw [(er a' q').2.1] at z'
      rw [(er y (h2.2.2.2.1 a q j y e)).2.1] at n6
      exact h2.2.2.2.2.1 a q a' q' j j' y e e' n6 z z'
  · have n : ∀ k, zs1 k = true → k ∈ ks1 → k ∈ ks2 → False := fun k z1 w1 w2 => by
      unfold zwk at hw
      have hw2 := (Bool.and_eq_true_iff.mp hw).2
      have q := List.all_eq_true.mp hw2 k (List.mem_filter.mpr ⟨w1, z1⟩)
      simp [w2] at q
    rcases List.mem_append.mp ha with q | q <;> rcases List.mem_append.mp ha' with q' | q'
    · rw [(el a q).2.1] at e e'
      rw [(el a' q').2.1] at e'
      exact h1.2.2.2.2.2 a q a' q' e e'
    · rw [(el a q).2.1] at e e'
      rw [(er a' q').2.1] at e'
      exact absurd (n _ e (h1.2.1 a q) (by rw [e']; exact h2.2.1 a' q')) id
    · rw [(er a q).2.1] at e e'
      rw [(el a' q').2.1] at e'
      exact absurd (n _ e (by rw [e']; exact h1.2.1 a' q') (h2.2.1 a q)) id
    · rw [(er a q).2.1] at e e'
      rw [(er a' q').2.1] at e'
      exact h2.2.2.2.2.2 a q a' q' e e'
theorem zK.app {ks1 ks2 L1 L2 : List Nat} {kd1 kd2 : Nat → Nat} {σ1 σ2 : zS} (h1 : zK ks1 L1 kd1 σ1) (h2 : zK ks2 L2 kd2 σ2) (hd : ∀ a ∈ L1, a ∉ L2) (hk : (ks1.filter zsole).all (fun k => !(ks2.contains k)) = true) (hw : zwk ((ks1 ++ ks2).contains 8) (ks1.contains 8) (ks2.contains 8) ks1 ks2 = true) : zK (ks1 ++ ks2) (L1 ++ L2) (zja L2 kd1 kd2) (zjs L2 σ1 σ2) := zKb.app h1 h2 hd hk hw
theorem zKb.nil {b : Bool} : zKb b [] [] (fun _ => 0) (fun _ _ => 0, fun _ _ => 0, fun _ _ => none) := ⟨⟨fun _ h => absurd h List.not_mem_nil, fun _ h => absurd h List.not_mem_nil, by omega, fun _ h => absurd h List.not_mem_nil, fun _ h => absurd h List.not_mem_nil⟩, fun _ h => absurd h List.not_mem_nil, fun _ h => absurd h List.not_mem_nil, fun _ h => absurd h List.not_mem_nil, fun _ h => absurd h List.not_mem_nil, fun _ h => absurd h List.not_mem_nil⟩
theorem zK.nil : zK [] [] (fun _ => 0) (fun _ _ => 0, fun _ _ => 0, fun _ _ => none) := zKb.nil
/-- one cell: an array of zeros -/
theorem zKb.one {b : Bool} {k q : Nat} (hr : ∀ j, (zr 0 k j).1 ≤ 0 ∧ 0 ≤ (zr 0 k j).2) (hf : ∀ j, zf 0 k j = none) (h11 : k ≠ 11) (hk : 12 ≤ k) (hw : k = 40 → b = false) : zKb b [k] [q] (fun _ => k) (fun _ _ => 0, fun _ _ => 0, fun _ _ => none) := by
  refine ⟨⟨fun a ha j => ?_, fun a ha j k2 h => ?_, by omega, fun a ha a' ha' _ _ => ?_, fun a ha => h11⟩, fun a ha => List.mem_cons_self, fun a ha => ?_, fun a ha j y e => ?_, fun a ha a' ha' j j' y e => ?_, fun a ha a' ha' _ _ => ?_⟩
  · exact hr j
  · rw [hf j] at h; cases h
  · rw [List.mem_singleton.mp ha, List.mem_singleton.mp ha']
  · exact ⟨fun e => absurd (show k = 1 from e) (by omega), fun e => absurd (show k = 2 from e) (by omega), fun e => absurd (show k = 4 from e) (by omega), fun e => absurd (show k = 9 from e) (by omega), fun e => absurd (show k = 10 from e) (by omega), fun e c => by rw [hw e] at c; cases c⟩
  · cases e
  · cases e
  · rw [List.mem_singleton.mp ha, List.mem_singleton.mp ha']
theorem zb12 {k b : Nat} (hb : zb k = b) (h : 12 ≤ b) : 12 ≤ k := by
  rcases Nat.lt_or_ge k 12 with c | c
  · have q : ∀ i : Fin 12, zb i.val = i.val := by decide
    have := q ⟨k, c⟩
    have q2 : zb k = k := this
    omega
  · exact c
theorem zK.one {k q : Nat} (hr : ∀ j, (zr 0 k j).1 ≤ 0 ∧ 0 ≤ (zr 0 k j).2) (hf : ∀ j, zf 0 k j = none) (h11 : k ≠ 11) (hk : 12 ≤ k) : zK [k] [q] (fun _ => k) (fun _ _ => 0, fun _ _ => 0, fun _ _ => none) := zKb.one hr hf h11 hk (fun e => by subst e; rfl)
/-- a made object, all its fields set, joins the world that it stands on -/
theorem zKb.obj {b b2 : Bool} {ks L : List Nat} {kd : Nat → Nat} {σ τ : zS} {a0 k : Nat} (h : zKb b ks L kd σ) (hd : ∀ a ∈ [a0], a ∉ L) (hr : ∀ j, (zr 0 k j).1 ≤ (τ.1 a0 j).toInt ∧ (τ.1 a0 j).toInt ≤ (zr 0 k j).2) (hf : ∀ j k2, zf 0 k j = some k2 → ∃ y, τ.2.2 a0 j = some y ∧ zT L kd y k2) (hk : zsole k = true → ks.contains k = false) (h11 : k ≠ 11) (hb2 : b2 = true → b = true) (h40 : k ≠ 40) (h1s : zs1 k = true → ks.contains k = false) (hin : zini b2 k (τ.1 a0) (τ.2.1 a0)) (hq : ∀ j y, τ.2.2 a0 j = some y → y ∈ L ∧ (kd y ≠ 6 → zrt L σ y)) (hi : ∀ j j' y, τ.2.2 a0 j = some y → τ.2.2 a0 j' = some y → kd y ≠ 6 → zro k j → zro k j' → j = j') : zKb b2 (k :: ks) ([a0] ++ L) (zja L (fun _ => k) kd) (zjs L τ σ) := by
  have el := zEx0.l (L1 := [a0]) (L2 := L) (kd1 := fun _ => k) (kd2 := kd) (σ1 := τ) (σ2 := σ) hd
  have er := zEx0.r (L1 := [a0]) (L2 := L) (kd1 := fun _ => k) (kd2 := kd) (σ1 := τ) (σ2 := σ)
  have m0 : ∀ a, a ∈ [a0] → a = a0 := fun a h => List.mem_singleton.mp h
  have hx : ∀ a ∈ L, kd a = k → (k = 3 ∨ k = 5 ∨ k = 7) → False := fun a ha e hs => by
    have q := hk (by rcases hs with rfl | rfl | rfl <;> rfl)
    have q2 := h.2.1 a ha
    rw [e] at q2
    simp [q2] at q
  refine ⟨⟨fun a ha j => ?_, fun a ha j k2 hf2 => ?_, by omega, fun a ha a' ha' e hs => ?_, fun a ha => ?_⟩, fun a ha => ?_, fun a ha => ?_, fun a ha j y e => ?_, fun a ha a' ha' j j' y e e' n6 z z' => ?_, fun a ha a' ha' e e' => ?_⟩
  · rcases List.mem_append.mp ha with q | q
    · rw [(el a q).2.1, (el a q).2.2.1, m0 a q]; exact hr j
    · rw [(er a q).2.1, (er a q).2.2.1]; exact h.1.1 a q j
  · rcases List.mem_append.mp ha with q | q
    · rw [(el a q).2.1] at hf2
      rw [(el a q).2.2.2.2, m0 a q]
      obtain ⟨y, hy, ht⟩ := hf j k2 hf2
      exact ⟨y, hy, er.t ht⟩
    · rw [(er a q).2.1] at hf2
      rw [(er a q).2.2.2.2]
      obtain ⟨y, hy, ht⟩ := h.1.2.1 a q j k2 hf2
      exact ⟨y, hy, er.t ht⟩
  · rcases List.mem_append.mp ha with q | q <;> rcases List.mem_append.mp ha' with q' | q'
    · rw [m0 a q, m0 a' q']
    · rw [(el a q).2.1] at e hs
      rw [(er a' q').2.1] at e
      exact absurd (hx a' q' e.symm hs) id
    · rw [(er a q).2.1] at e hs
      rw [(el a' q').2.1] at e
      have e2 : kd a = k := e
      exact absurd (hx a q e2 (by rw [← e2]; exact hs)) id
    · rw [(er a q).2.1] at e hs
      rw [(er a' q').2.1] at e
      exact h.1.2.2.2.1 a q a' q' e hs
  · rcases List.mem_append.mp ha with q | q
    · rw [(el a q).2.1]; exact h11
    · rw [(er a q).2.1]; exact h.1.2.2.2.2 a q
  · rcases List.mem_append.mp ha with q | q
    · rw [(el a q).2.1]; exact List.mem_cons_self
    · rw [(er a q).2.1]; exact List.mem_cons_of_mem _ (h.2.1 a q)
  · rcases List.mem_append.mp ha with q | q
    · rw [(el a q).2.1, (el a q).2.2.1, (el a q).2.2.2.1, m0 a q]; exact hin
    · rw [(er a q).2.1, (er a q).2.2.1, (er a q).2.2.2.1]
      obtain ⟨i1, i2, i3, i4, i5, i6⟩ := h.2.2.1 a q
      exact ⟨i1, i2, i3, i4, i5, fun e c => i6 e (hb2 c)⟩
  · rcases List.mem_append.mp ha with q | q
    · rw [(el a q).2.2.2.2, m0 a q] at e; exact List.mem_append_right _ (hq j y e).1
    · rw [(er a q).2.2.2.2] at e; exact List.mem_append_right _ (h.2.2.2.1 a q j y e)
  · rcases List.mem_append.mp ha with q | q <;> rcases List.mem_append.mp ha' with q' | q'
    · rw [(el a q).2.2.2.2, m0 a q] at e
      rw [(el a' q').2.2.2.2, m0 a' q'] at e'
      rw [(el a q).2.1] at z
      rw [(el a' q').2.1] at z'
      rw [(er y (hq j y e).1).2.1] at n6
      exact ⟨by rw [m0 a q, m0 a' q'], hi j j' y e e' n6 z z'⟩
    · rw [(el a q).2.2.2.2, m0 a q] at e
      rw [(er a' q').2.2.2.2] at e'
      rw [(er y (hq j y e).1).2.1] at n6
      exact absurd e' ((hq j y e).2 n6 a' q' j')
    · rw [(er a q).2.2.2.2] at e
      rw [(el a' q').2.2.2.2, m0 a' q'] at e'
      rw [(er y (hq j' y e').1).2.1] at n6
      exact absurd e ((hq j' y e').2 n6 a q j)
    · rw [(er a q).2.2.2.2] at e
      rw [(er a' q').2.2.2.2] at e'
      rw [(er a q).2.1] at z
      rw [(er a' q').2.1] at z'
      rw [(er y (h.2.2.2.1 a q j y e)).2.1] at n6
      exact h.2.2.2.2.1 a q a' q' j j' y e e' n6 z z'
  · have hx1 : ∀ c ∈ L, kd c = k → zs1 k = true → False := fun c hc e1 z1 => by
      have q := h1s z1
      have q2 := h.2.1 c hc
      rw [e1] at q2
      simp [q2] at q
    rcases List.mem_append.mp ha with q | q <;> rcases List.mem_append.mp ha' with q' | q'
    · rw [m0 a q, m0 a' q']
    · rw [(el a q).2.1] at e e'
      rw [(er a' q').2.1] at e'
      exact absurd (hx1 a' q' e'.symm e) id
    · rw [(er a q).2.1] at e e'
      rw [(el a' q').2.1] at e'
      have e2 : kd a = k := e'
      exact absurd (hx1 a q e2 (by rw [← e2]; exact e)) id
    · rw [(er a q).2.1] at e e'
      rw [(er a' q').2.1] at e'
      exact h.2.2.2.2.2 a q a' q' e e'
theorem zdis {A : Nat → Prop} {rs : va_W} {dA : Nat → ClassId} {L1 L2 : List Nat} {kd1 kd2 : Nat → Nat} {σ1 σ2 : zS} (h : va_D A ((rs ++ zW dA L1 kd1 σ1) ++ zW dA L2 kd2 σ2)) : ∀ a ∈ L1, a ∉ L2 := by
  intro a h1 h2
  obtain ⟨k1, hk1⟩ := zR_at (dA := dA) (kd := kd1) rs σ1 h1
  obtain ⟨k2, hk2⟩ := zW_at (dA := dA) (kd := kd2) σ2 h2
  have hlt : k1 < (rs ++ zW dA L1 kd1 σ1).length := (List.getElem?_eq_some_iff.mp hk1).1
  have e1 : ((rs ++ zW dA L1 kd1 σ1) ++ zW dA L2 kd2 σ2)[k1]? = some (a, zF dA kd1 σ1 a) := by rw [List.getElem?_append_left hlt]; exact hk1
  have e2 : ((rs ++ zW dA L1 kd1 σ1) ++ zW dA L2 kd2 σ2)[(rs ++ zW dA L1 kd1 σ1).length + k2]? = some (a, zF dA kd2 σ2 a) := by rw [List.getElem?_append_right (by omega), Nat.add_sub_cancel_left]; exact hk2
  have := h.1 _ _ _ _ e1 e2 rfl
  omega
abbrev zS0 : zS := (fun _ _ => 0, fun _ _ => 0, fun _ _ => none)
theorem zRA_eq {d : zD2} {s : State} {cA : ClassId} {ty : FieldType} {i : Nat} {c1 : ClassId} (hK : va_K (d.1, d.2.1) vwCl (zty d.2.2) s) (hK2 : va_K (d.1, d.2.1) vwCl (zty d.2.2 ++ [(cA, ty)]) s) (hi : (zty d.2.2)[i]? = some (c1, ty)) : cA = c1 := by
  have h1 := (hK.2 i _ hi).2
  have h2 := (hK2.2 5 (cA, ty) rfl).2
  cases ty with
  | object C =>
    obtain ⟨_, _, -, -, -, e1⟩ := h1
    obtain ⟨_, _, -, -, -, e2⟩ := h2
    exact Option.some.inj (e2.symm.trans e1)
  | _ => exact Option.some.inj (Eq.trans (Eq.symm h2) h1)
section ZNEW
variable {rs : va_W} {cs sl : Nat} {d : zD2} {L ks : List Nat} {kd : Nat → Nat} {A : Nat → Prop} {nL : Nat} {p : Program} {l : Launch} {e : Env} {R : Room} {s : State} {m : MethodId} {args : Array Value} {below : List Frame} {meth : Method} {c : Code} {cc : ByteArray} {own : String} {Q : State → Prop} {σ : zS} {pc : Nat} {lv : List (Nat × Value)} {st : List Value}
/-- what came beside the world joins it -/
theorem zc_join {L2 ks2 : List Nat} {kd2 : Nat → Nat} {σ2 : zS} {H : Heap} (hk : zK ks L kd σ) (hk2 : zK ks2 L2 kd2 σ2) (hs : (ks.filter zsole).all (fun k => !(ks2.contains k)) = true) (hw : zwk ((ks ++ ks2).contains 8) (ks.contains 8) (ks2.contains 8) ks ks2 = true) (hP : va_P (d.1, d.2.1) vwCl ((rs ++ zW d.2.2 L kd σ) ++ zW d.2.2 L2 kd2 σ2) H) (hD : va_D A ((rs ++ zW d.2.2 L kd σ) ++ zW d.2.2 L2 kd2 σ2)) : ∃ (L3 : List Nat) (kd3 : Nat → Nat) (σ3 : zS), zExt L kd σ L3 kd3 σ3 ∧ zExt L2 kd2 σ2 L3 kd3 σ3 ∧ zK (ks ++ ks2) L3 kd3 σ3 ∧ (∀ y ∈ L2, y ∉ L) ∧ va_P (d.1, d.2.1) vwCl (rs ++ zW d.2.2 L3 kd3 σ3) H ∧ va_D A (rs ++ zW d.2.2 L3 kd3 σ3) := by
  have hd := zdis hD
  refine ⟨L ++ L2, zja L2 kd kd2, zjs L2 σ σ2, zExt.l hd hk2.2.2.2.1, zExt.r hd hk.2.2.2.1, hk.app hk2 hd hs hw, fun y hy h => hd y h hy, ?_, ?_⟩
  · rw [zW_app hd, ← List.append_assoc]; exact hP
  · rw [zW_app hd, ← List.append_assoc]; exact hD
end ZNEW
end
-- 17.making2
section
section ZNEW2
variable {rs : va_W} {cs sl : Nat} {d : zD2} {L ks : List Nat} {kd : Nat → Nat} {A : Nat → Prop} {nL : Nat} {p : Program} {l : Launch} {e : Env} {R : Room} {s : State} {m : MethodId} {args : Array Value} {below : List Frame} {meth : Method} {c : Code} {cc : ByteArray} {own : String} {Q : State → Prop} {σ : zS} {pc : Nat} {lv : List (Nat × Value)} {st : List Value}
/-- a new array of whole numbers (bytes, booleans) -/
theorem zc_newi (X : zX d L kd A nL p s m args c cc own) {atype : ArrayType} {n : Int32} (k b i : Nat) {ty : FieldType} (hk : zK ks L kd σ) (harr : Cond.arrayClass ty ∈ zWL) (hty : newarray.typeOf atype = ty) (hb : zb k = b) (hb2 : b = 12 ∨ b = 13 ∨ b = 15) (hi : (zty d.2.2)[i]? = some (d.2.2 b, ty)) (hdef : defaultValue ty = .int 0) (hn : n.toInt = zn k) (hby : zn k * componentBytes ty ≤ 536870912) (hr : ∀ j, (zr 0 k j).1 ≤ 0 ∧ 0 ≤ (zr 0 k j).2) (hf : ∀ j, zf 0 k j = none) (h11 : k ≠ 11) (hs : (ks.filter zsole).all (fun q => !([k].contains q)) = true) (hwk : zwk ((ks ++ [k]).contains 8) (ks.contains 8) ([k].contains 8) ks [k] = true) (hroom : cs + 1 ≤ R.cells ∧ sl + zn k ≤ R.slots) (hdg : decode cc pc = .ok (.newarray atype, 2))
    (kk : ∀ (q : Nat) (L2 : List Nat) (kd2 : Nat → Nat) (σ2 : zS), zExt L kd σ L2 kd2 σ2 → zT L2 kd2 q k → zrt L2 σ2 q ∧ q ∉ L → zK (ks ++ [k]) L2 kd2 σ2 → zGc rs (cs + 1) (sl + zn k) d L2 kd2 A nL p l e R s m args below meth c Q σ2 (pc + 2) lv (.ref q :: st)) : zGc rs cs sl d L kd A nL p l e R s m args below meth c Q σ pc lv (.int n :: st) := by
  intro hz H locs ls hP hD hS hl
  subst hty
  have hnn : ¬ n < 0 := fun h => by
    have h2 := Int32.lt_iff_toInt_lt.mp h
    rw [hn, show (0 : Int32).toInt = 0 from rfl] at h2
    omega
  have hnc : n.toNatClampNeg = zn k := by
    show n.toInt.toNat = zn k
    rw [hn]
    rfl
  refine va_newa (a0 := (zn k, .inl (fun _ => 0))) X.1 X.2.1 (X.2.2.2.2.1 _ harr) rfl X.2.2.2.2.2.1 hP hD hS X.2.2.2.2.2.2.2.2.1 (fun cA => by rw [hdef]; rfl) hnn hnc hby hroom.1 hroom.2 hdg (fun q cA H1 hK1 hP1 hD1 hS1 => ?_)
  have hc : cA = d.2.2 b := zRA_eq X.2.2.2.2.2.1 hK1 hi
  subst hc
  have hw : zW d.2.2 [q] (fun _ => k) zS0 = [(q, .inl (d.2.2 b, zn k, .inl (fun _ => 0)))] := by
    show [(q, zE d.2.2 k (fun _ => 0) (fun _ => 0) (fun _ => none))] = _
    rw [zE_i hb hb2]
  rw [← hw] at hP1 hD1
  obtain ⟨L3, kd3, σ3, e1, e2, k3, nn, hP3, hD3⟩ := zc_join hk (zK.one (q := q) hr hf h11 (zb12 hb (by omega))) hs hwk hP1 hD1
  exact kk q L3 kd3 σ3 e1 (e2.t ⟨List.mem_cons_self, rfl⟩) ⟨e2.2 q List.mem_cons_self (fun _ _ _ e => by cases e), nn q List.mem_cons_self⟩ k3 hroom H1 locs ls hP3 hD3 hS1 hl
theorem zc_newl (X : zX d L kd A nL p s m args c cc own) {atype : ArrayType} {n : Int32} (k : Nat) (hk : zK ks L kd σ) (harr : Cond.arrayClass .long ∈ zWL) (hty : newarray.typeOf atype = .long) (hb : zb k = 14) (hn : n.toInt = zn k) (hby : zn k * componentBytes .long ≤ 536870912) (hr : ∀ j, (zr 0 k j).1 ≤ 0 ∧ 0 ≤ (zr 0 k j).2) (hf : ∀ j, zf 0 k j = none) (h11 : k ≠ 11) (hs : (ks.filter zsole).all (fun q => !([k].contains q)) = true) (hwk : zwk ((ks ++ [k]).contains 8) (ks.contains 8) ([k].contains 8) ks [k] = true) (hroom : cs + 1 ≤ R.cells ∧ sl + zn k ≤ R.slots) (hdg : decode cc pc = .ok (.newarray atype, 2))
    (kk : ∀ (q : Nat) (L2 : List Nat) (kd2 : Nat → Nat) (σ2 : zS), zExt L kd σ L2 kd2 σ2 → zT L2 kd2 q k → zrt L2 σ2 q ∧ q ∉ L → (∀ j, σ2.2.1 q j = 0) → zK (ks ++ [k]) L2 kd2 σ2 → zGc rs (cs + 1) (sl + zn k) d L2 kd2 A nL p l e R s m args below meth c Q σ2 (pc + 2) lv (.ref q :: st)) : zGc rs cs sl d L kd A nL p l e R s m args below meth c Q σ pc lv (.int n :: st) := by
  intro hz H locs ls hP hD hS hl
  have hnn : ¬ n < 0 := fun h => by
    have h2 := Int32.lt_iff_toInt_lt.mp h
    rw [hn, show (0 : Int32).toInt = 0 from rfl] at h2
    omega
  have hnc : n.toNatClampNeg = zn k := by
    show n.toInt.toNat = zn k
    rw [hn]
    rfl
  refine va_newa (a0 := (zn k, .inr (.inl (fun _ => 0)))) X.1 X.2.1 (by rw [hty]; exact X.2.2.2.2.1 _ harr) hty X.2.2.2.2.2.1 hP hD hS X.2.2.2.2.2.2.2.2.1 (fun cA => rfl) hnn hnc hby hroom.1 hroom.2 hdg (fun q cA H1 hK1 hP1 hD1 hS1 => ?_)
  have hc : cA = d.2.2 14 := zRA_eq (i := 2) X.2.2.2.2.2.1 hK1 rfl
  subst hc
  have hw : zW d.2.2 [q] (fun _ => k) zS0 = [(q, .inl (d.2.2 14, zn k, .inr (.inl (fun _ => 0))))] := by
    show [(q, zE d.2.2 k (fun _ => 0) (fun _ => 0) (fun _ => none))] = _
    rw [zE_l hb]
  rw [← hw] at hP1 hD1
  obtain ⟨L3, kd3, σ3, e1, e2, k3, nn, hP3, hD3⟩ := zc_join hk (zK.one (q := q) hr hf h11 (zb12 hb (by omega))) hs hwk hP1 hD1
  exact kk q L3 kd3 σ3 e1 (e2.t ⟨List.mem_cons_self, rfl⟩) ⟨e2.2 q List.mem_cons_self (fun _ _ _ e => by cases e), nn q List.mem_cons_self⟩ (fun j => by rw [(e2.1 q List.mem_cons_self).2.2.2.1]) k3 hroom H1 locs ls hP3 hD3 hS1 hl
/-- the fields of the object that is being made -/
theorem zc_put {rt : va_W} {a0 ci j index N : Nat} {fs fs2 : List Value} {C : String} {T : u_T} {v : Value} {ty : FieldType} {ty0 : Nat → FieldType} (X : zX d L kd A nL p s m args c cc own) (hin2 : meth.name = "<init>") (hcl : vwCl[ci]? = some (C, T, N)) (hj : j < N) (hin : ∀ w ∈ u_ws C T N, w ∈ zWL) (hty0 : ∀ k, k < N → parseFieldDescriptor (T k).2.2.1 = some (ty0 k)) (hnm : ∀ a, a < N → ∀ b, b < N → a ≠ b → (T a).2.1 ≠ (T b).2.1) (hlink : Cond.fieldLink own index (T j).1 (T j).2.1 (T j).2.2.1 ∈ zWL) (hdecl : (T j).1 = own) (hd : parseFieldDescriptor (T j).2.2.1 = some ty) (hn : narrow ty v = v) (hfit : fits ty v = true) (hlt : j < fs.length) (hfs : fs.set j v = fs2) (hdg : decode cc pc = .ok (.putfield index, 3)) (k : zGc ((a0, .inr (ci, fs2)) :: rt) cs sl d L kd A nL p l e R s m args below meth c Q σ (pc + 3) lv st) : zGc ((a0, .inr (ci, fs)) :: rt) cs sl d L kd A nL p l e R s m args below meth c Q σ pc lv (v :: .ref a0 :: st) := by
  intro hz H locs ls hP hD hS hl
  subst hfs
  by_cases hfin : (T j).2.2.2 = true
  · exact va_putF X.1 X.2.1 X.2.2.2.2.1 hin ty0 hty0 hnm X.2.2.2.1 X.2.2.2.2.2.1 hP hD hS 0 rfl hcl j hj (X.2.2.2.2.1 _ hlink) (fun _ h => h) hfin hin2 hdecl hd hn hfit hlt hdg (fun H1 locs1 hP hD hS => k hz H1 locs1 ls hP hD hS hl)
  · exact va_put X.1 X.2.1 X.2.2.2.2.1 hin ty0 hty0 hnm X.2.2.2.1 X.2.2.2.2.2.1 hP hD hS 0 rfl hcl j hj (X.2.2.2.2.1 _ hlink) (fun _ h => h) (Bool.eq_false_iff.mpr hfin) hd hn hfit hlt hdg (fun H1 locs1 hP hD hS => k hz H1 locs1 ls hP hD hS hl)
theorem zc_get {rt : va_W} {a0 ci j index N : Nat} {fs : List Value} {C : String} {T : u_T} {v : Value} (X : zX d L kd A nL p s m args c cc own) (hcl : vwCl[ci]? = some (C, T, N)) (hj : j < N) (hin : ∀ w ∈ u_ws C T N, w ∈ zWL) (hlink : Cond.fieldLink own index (T j).1 (T j).2.1 (T j).2.2.1 ∈ zWL) (hv : fs[j]? = some v) (hdg : decode cc pc = .ok (.getfield index, 3)) (k : zGc ((a0, .inr (ci, fs)) :: rt) cs sl d L kd A nL p l e R s m args below meth c Q σ (pc + 3) lv (v :: st)) : zGc ((a0, .inr (ci, fs)) :: rt) cs sl d L kd A nL p l e R s m args below meth c Q σ pc lv (.ref a0 :: st) := fun hz H locs ls hP hD hS hl =>
  va_get X.1 X.2.1 X.2.2.2.2.1 hin X.2.2.2.1 X.2.2.2.2.2.1 hP 0 rfl hcl j hj (X.2.2.2.2.1 _ hlink) (fun _ h => h) hv hdg (k hz H locs ls hP hD hS hl)
theorem zc_obj {index : Nat} {a : Nat} (X : zX d L kd A nL p s m args c cc own) (hlink : Cond.methodLink own index objectInit ∈ zWL) (hinst : Cond.instanceMethod objectInit ∈ zWL) (hcode : Cond.code objectInit ⟨#[0xb1]⟩ 1 none ∈ zWL) (hdg : decode cc pc = .ok (.invokespecial index, 3)) (hR : 1 ≤ R.frames ∧ (st.map fun v => v.category).sum + 12 ≤ R.locals) (k : zGc rs cs sl d L kd A nL p l e R s m args below meth c Q σ (pc + 3) lv st) : zGc rs cs sl d L kd A nL p l e R s m args below meth c Q σ pc lv (.ref a :: st) := by
  intro hz H locs ls hP hD hS hl
  refine W.objInit X.1 X.2.1 X.2.2.2.1 (X.2.2.2.2.1 _ hlink) (X.2.2.2.2.1 _ hinst) (X.2.2.2.2.1 _ hcode) rfl (by rw [X.2.2.1]; exact hl.1) rfl hdg hR.1 (by simpa [JFrame.monitorRoom] using hR.2) ?_
  exact k hz H locs ls hP hD hS hl
end ZNEW2
theorem zB_back {D : va_G} {cl : List vw_C} {A : Nat → Prop} {w0 wc w2 : va_W} {H H1 : Heap} (hP : va_P D cl (w0 ++ wc) H) (hD : va_D A (w0 ++ wc)) (hF : ∀ q, va_A wc H.size q → A q) (hk : ∀ q : Nat, q < H.size → ¬ va_A wc H.size q → H1[q]? = H[q]?) (hP2 : va_P D cl w2 H1) (hD2 : va_D (va_A wc H.size) w2) : va_P D cl (w0 ++ w2) H1 ∧ va_D A (w0 ++ w2) := by
  have hP0 : va_P D cl w0 H := fun k q hq => hP k q (by rw [List.getElem?_append_left (List.getElem?_eq_some_iff.mp hq).1]; exact hq)
  have hx : ∀ (i : Nat) (p : Nat × va_E), w0[i]? = some p → ¬ va_A wc H.size p.1 := by
    intro i p hi
    have hi2 : (w0 ++ wc)[i]? = some p := by rw [List.getElem?_append_left (List.getElem?_eq_some_iff.mp hi).1]; exact hi
    rintro (⟨j, e, hj⟩ | hj)
    · have hj2 : (w0 ++ wc)[w0.length + j]? = some (p.1, e) := by rw [List.getElem?_append_right (by omega), Nat.add_sub_cancel_left]; exact hj
      have h1 := hD.1 i _ p _ hi2 hj2 rfl
      have h2 := (List.getElem?_eq_some_iff.mp hi).1
      omega
    · have := va_at.lt (hP0 i p hi)
      omega
  have hP1 : va_P D cl w0 H1 := fun k q hq => va_at.kept (hP0 k q hq) (hk q.1 (va_at.lt (hP0 k q hq)) (hx k q hq))
  have hD0 : va_D A w0 := ⟨fun i j p q hi hj e => hD.1 i j p q (by rw [List.getElem?_append_left (List.getElem?_eq_some_iff.mp hi).1]; exact hi) (by rw [List.getElem?_append_left (List.getElem?_eq_some_iff.mp hj).1]; exact hj) e, fun k q hq => hD.2 k q (by rw [List.getElem?_append_left (List.getElem?_eq_some_iff.mp hq).1]; exact hq)⟩
  have hD3 : va_D A w2 := ⟨hD2.1, fun k q hq => hF _ (hD2.2 k q hq)⟩
  exact ⟨va_P.app hP1 hP2, va_D.app hD0 hD3 (fun i j p q hi hj e => hx i p hi (by rw [e]; exact hD2.2 j q hj))⟩
/-- a constructor's contract: n frames, mc cells of ms slots; ks: the kinds of what it makes, itself the first -/
def zNew (l : Launch) (y : MethodName) (ws : List Cond) (n mc ms : Nat) (d : zD2) (k : Nat) (fs0 : List Value) (ks : List Nat) : Prop := ∀ (a0 sz : Nat), Met l y ws { frames := n, cells := mc, slots := ms, locals := 100 * n } (va_Pc [.ref a0] (fun U => U.heap.size = sz ∧ va_P (d.1, d.2.1) vwCl [(a0, .inr (k, fs0))] U.heap ∧ va_K (d.1, d.2.1) vwCl (zty d.2.2) U ∧ zN U ∧ va_D (fun _ => True) [(a0, .inr (k, fs0))] ∧ zEX d.2.2 (va_A [(a0, .inr (k, fs0))] sz) U U.heap)) (va_Qv (fun u : List Nat × (Nat → Nat) × zS => zT u.1 u.2.1 a0 k ∧ zrt u.1 u.2.2 a0 ∧ zK ks u.1 u.2.1 u.2.2) (fun u t => va_P (d.1, d.2.1) vwCl (zW d.2.2 u.1 u.2.1 u.2.2) t.heap ∧ va_K (d.1, d.2.1) vwCl (zty d.2.2) t ∧ va_D (va_A [(a0, .inr (k, fs0))] sz) (zW d.2.2 u.1 u.2.1 u.2.2)) (va_A [(a0, .inr (k, fs0))] sz)) mc ms (va_A [(a0, .inr (k, fs0))] sz)
theorem zNew.of {l : Launch} {y : MethodName} {ws : List Cond} {n maxL mc ms : Nat} {d : zD2} {k : Nat} {fs0 : List Value} {ks : List Nat} {cc : ByteArray} {own : String} (hy : plainName y.cls = true) (hw : ws = Cond.code y cc maxL none :: zWL) (hown : y.cls = own) (hyn : y.name = "<init>") (hml1 : 1 ≤ maxL)
    (body : ∀ (a0 : Nat) (p : Program) (e : Env) (s : State) (m : MethodId) (args : Array Value) (below : List Frame) (meth : Method) (c : Code) (A : Nat → Prop) (Q : State → Prop), zX d [] (fun _ => 0) A maxL p s m args c cc own → meth.name = "<init>" → (∀ (L2 : List Nat) (kd2 : Nat → Nat) (σ2 : zS) (pc : Nat) (lv : List (Nat × Value)), decode cc pc = .ok (.return_, 1) → zT L2 kd2 a0 k → zrt L2 σ2 a0 → zK ks L2 kd2 σ2 → zGc [] mc ms d L2 kd2 A maxL p l e { frames := n, cells := mc, slots := ms, locals := 100 * n } s m args below meth c Q σ2 pc lv []) → zGc [(a0, .inr (k, fs0))] 0 0 d [] (fun _ => 0) A maxL p l e { frames := n, cells := mc, slots := ms, locals := 100 * n } s m args below meth c Q zS0 0 [(0, .ref a0)] []) : zNew l y ws n mc ms d k fs0 ks := by
  intro a0 sz
  refine Met.ofW (cc := cc) (maxL := maxL) (ret := none) hy hw ?_
  intro p e s m args below meth c s₁ B hml hv
  obtain ⟨rfl, hsz, hP, hK, hN, hD0, hE⟩ := hv
  have hts := atoms_spec (ws := ws) B.pre
  have hown2 : s.vm.findClass y.cls = some m.cls := findClass_of_methodNamed B.named
  have hlocks := B.notSynchronized
  have hin : meth.name = "<init>" := by rw [(name_of_methodNamed B.named B.method).1]; exact hyn
  subst hsz
  have hl := lv_entry [Value.ref a0] (n := maxL) hml1
  rw [lg_entry_eq]
  generalize (lg_sl [Value.ref a0] ++ List.replicate (maxL - (lg_sl [Value.ref a0]).length) Slot.unset).toArray = ls at hl ⊢
  refine body a0 p e s m _ below meth c (va_A [(a0, .inr (k, fs0))] s.heap.size) _ ⟨B.exec, B.bytes, hml, by rw [← hown]; exact hown2, fun w h => hts w (by rw [hw]; exact List.mem_cons_of_mem _ h), hK, hN, trivial, fun q h => Or.inr h, hE⟩ hin ?_ ⟨Nat.zero_le _, Nat.zero_le _⟩ s.heap [] ls hP (hD0.self (sz := s.heap.size)) va_S.rf hl
  intro L2 kd2 σ2 pc lv hdg hT hrt hk2 _ H locs ls hP hD hS hl
  exact W.vret B.exec B.bytes B.returns (fun t ht hW => ⟨⟨(L2, kd2, σ2), rfl, ⟨hT, hrt, hk2⟩, by rw [ht]; exact hP, va_K.moved hW.alike hK, hD⟩, hS.F ht⟩) hS.2.2 hdg
section ZNEW3
variable {rs : va_W} {cs sl : Nat} {d : zD2} {L ks : List Nat} {kd : Nat → Nat} {A : Nat → Prop} {nL : Nat} {p : Program} {l : Launch} {e : Env} {R : Room} {s : State} {m : MethodId} {args : Array Value} {below : List Frame} {meth : Method} {c : Code} {cc : ByteArray} {own : String} {Q : State → Prop} {σ : zS} {pc : Nat} {lv : List (Nat × Value)} {st : List Value}
/-- new, dup, the constructor's call -/
theorem zc_newC (X : zX d L kd A nL p s m args c cc own) {y : MethodName} {b : ByteArray} {mL n mc ms k index ixc N : Nat} {C : String} {T : u_T} {ty : Nat → FieldType} {fs0 : List Value} {ks2 : List Nat} (hk : zK ks L kd σ) (hM : zNew l y (Cond.code y b mL none :: zWL) n mc ms d k fs0 ks2) (hs : (ks.filter zsole).all (fun q => !(ks2.contains q)) = true) (hwk : zwk ((ks ++ ks2).contains 8) (ks.contains 8) (ks2.contains 8) ks ks2 = true)
    (hcl : vwCl[k]? = some (C, T, N)) (hin : ∀ w ∈ u_ws C T N, w ∈ zWL) (hty : ∀ k, k < N → parseFieldDescriptor (T k).2.2.1 = some (ty k)) (hclk : Cond.classLink own index C ∈ zWL) (hinst : Cond.instantiable C N ∈ zWL) (hini : Cond.initialized C ∈ zWL) (hfs : ∀ j, j < N → defaultValue (ty j) = vp_V fs0 j)
    (hlink : Cond.methodLink own ixc y ∈ zWL ∨ ∃ host, Cond.methodLinkNest own ixc y host ∈ tables_1) (hcode : Cond.code y b mL none ∈ zWL) (hyini : Cond.initialized y.cls ∈ zWL) (hyinst : Cond.instanceMethod y ∈ zWL) (hyn : y.name = "<init>") (hd : y.cls ≠ "java/lang/invoke/MethodHandle" ∧ y.cls ≠ "java/lang/invoke/VarHandle" ∧ (parseMethodDescriptor y.desc).map (fun q => q.parameters.length) = some 0)
    (h1 : decode cc pc = .ok (.new index, 3)) (h2 : decode cc (pc + 3) = .ok (.dup, 1)) (h3 : decode cc (pc + 4) = .ok (.invokespecial ixc, 3)) (hroom : (cs + 1 + mc ≤ R.cells ∧ sl + N + ms ≤ R.slots) ∧ n + 1 ≤ R.frames ∧ 8 + (mL + 11) + 100 * n ≤ R.locals) (hst : ((.ref 0 :: st).map fun v => v.category).sum ≤ 8)
    (kk : ∀ (q : Nat) (L2 : List Nat) (kd2 : Nat → Nat) (σ2 : zS), zExt L kd σ L2 kd2 σ2 → zT L2 kd2 q k → zrt L2 σ2 q ∧ q ∉ L → zK (ks ++ ks2) L2 kd2 σ2 → zGc rs (cs + 1 + mc) (sl + N + ms) d L2 kd2 A nL p l e R s m args below meth c Q σ2 (pc + 7) lv (.ref q :: st)) : zGc rs cs sl d L kd A nL p l e R s m args below meth c Q σ pc lv st := by
  intro hz H locs ls hP hD hS hl
  have U := X.2.2.2.2.1
  have hA := X.2.2.2.2.2.2.2.2.1
  refine va_new (ci := k) (fs := fs0) X.1 X.2.1 U hin ty hty X.2.2.2.1 (U _ hclk) (U _ hinst) (U _ hini) X.2.2.2.2.2.1 hP hD hS hA hcl hfs (by omega) (by omega) h1 (fun q H1 hP1 hD1 hS1 => ?_)
  refine lv_dup X.1 X.2.1 h2 rfl ?_
  have hPc : va_P (d.1, d.2.1) vwCl [(q, .inr (k, fs0))] H1 := zP_suf hP1
  have hDc : va_D A [(q, .inr (k, fs0))] := zD_suf hD1
  have hF := zA_sub hDc hS1 hA
  have hsig : ∀ sig, parseMethodDescriptor y.desc = some sig → ([] : List Value).length = sig.parameters.length := fun sig h => by
    have h5 := hd.2.2
    rw [h] at h5
    exact (Option.some.inj h5).symm
  have hpre : PreS s H1 (va_Pc [.ref q] (fun U => U.heap.size = H1.size ∧ va_P (d.1, d.2.1) vwCl [(q, .inr (k, fs0))] U.heap ∧ va_K (d.1, d.2.1) vwCl (zty d.2.2) U ∧ zN U ∧ va_D (fun _ => True) [(q, .inr (k, fs0))] ∧ zEX d.2.2 (va_A [(q, .inr (k, fs0))] H1.size) U U.heap)) (.ref q :: []) := by
    refine ⟨fun a U g mk z => ?_, fun U hU hW => ⟨rfl, by rw [hU], by rw [hU]; exact hPc, va_K.moved hW.alike X.2.2.2.2.2.1, zN.warm hW X.2.2.2.2.2.2.1, hDc.weaken (fun _ _ _ _ => trivial), by rw [hU]; exact ((X.2.2.2.2.2.2.2.2.2.kept hS1.2.1).narrow hF).warm hW⟩⟩
    obtain ⟨z0, z1, zP, zK, zN0, zD, zE0⟩ := z
    exact ⟨z0, z1, zP, va_K.moved (u := U) (U := U.calling g mk a) (Vm.Alike.refl U.vm) zK, zN.same (u := U) (U := U.calling g mk a) rfl zN0, zD, zEX.same (u := U) (U := U.calling g mk a) rfl zE0⟩
  have hsum : ((.ref q :: st).map fun v => v.category).sum ≤ 8 := hst
  have run : va_Run p l e R s m args below meth c H1 locs (cs + 1) (sl + N) mc ms (F0 m (pc + 3 + 1) ls (.ref q :: .ref q :: st)) (.ref q :: st) (va_Qv (fun u : List Nat × (Nat → Nat) × zS => zT u.1 u.2.1 q k ∧ zrt u.1 u.2.2 q ∧ zK ks2 u.1 u.2.1 u.2.2) (fun u t => va_P (d.1, d.2.1) vwCl (zW d.2.2 u.1 u.2.1 u.2.2) t.heap ∧ va_K (d.1, d.2.1) vwCl (zty d.2.2) t ∧ va_D (va_A [(q, .inr (k, fs0))] H1.size) (zW d.2.2 u.1 u.2.1 u.2.2)) (va_A [(q, .inr (k, fs0))] H1.size) (Value.ref q :: []).toArray) (va_A [(q, .inr (k, fs0))] H1.size) := by
    rcases hlink with hlink | ⟨host, hlink⟩
    · exact va_runI (As := []) (rest := .ref q :: st) (n := 0) ⟨X.1, X.2.1, X.2.2.1, X.2.2.2.1, U⟩ (hM q H1.size) ⟨⟨rfl, rfl, hroom.2.1, hroom.2.2, zpay U hcode, List.mem_cons_self, U _ hcode, U _ hyini, ⟨hd.1, hd.2.1⟩, hsig, U _ hlink⟩, hyn, U _ hyinst⟩ hpre rfl rfl hl.1 rfl (lv_room hsum) h3 ⟨by omega, by omega⟩
    · exact va_runIN (As := []) (rest := .ref q :: st) (n := 0) ⟨X.1, X.2.1, X.2.2.1, X.2.2.2.1, U⟩ (hM q H1.size) ⟨⟨⟨rfl, rfl, hroom.2.1, hroom.2.2, zpay U hcode, List.mem_cons_self⟩, U _ hcode, U _ hyini, ⟨hd.1, hd.2.1⟩, hsig, va_Nw.use rfl (X.2.2.2.2.2.2.1 _ hlink rfl)⟩, hyn, U _ hyinst⟩ hpre rfl rfl hl.1 rfl (lv_room hsum) h3 ⟨by omega, by omega⟩
  refine va_callv run hS1 (fun q _ h => hF q h) hF (fun u t H2 locs ht hvm hw hB hz1 hk1 hS2 => ?_)
  obtain ⟨L2, kd2, σ2⟩ := u
  obtain ⟨hP2, hK2, hD2⟩ := hB
  rw [ht] at hP2
  obtain ⟨hP3, hD3⟩ := zB_back hP1 hD1 hF hk1 hP2 hD2
  obtain ⟨L3, kd3, σ3, e1, e2, k3, nn, hP4, hD4⟩ := zc_join hk hw.2.2 hs hwk hP3 hD3
  exact kk q L3 kd3 σ3 e1 (e2.t hw.1) ⟨e2.2 q hw.1.1 hw.2.1, nn q hw.1.1⟩ k3 ⟨by omega, by omega⟩ H2 locs ls hP4 hD4 hS2 hl
end ZNEW3
end
-- 18.making3
section
theorem zf_list {k j k2 : Nat} (hk : k < 12) (h : zf 0 k j = some k2) : (j, k2) ∈ (zfl.filter (fun q => q.1 == k && q.2.2.2 == 0)).map (fun q => (q.2.1, q.2.2.1)) := by
  unfold zf at h
  split at h
  · next q hq =>
    have hm := List.mem_of_find?_eq_some hq
    have hp := List.find?_some hq
    have key : ∀ q ∈ zfl, q.1 < 12 → q.2.1 ≠ 9999 := by decide +kernel
    split at h
    · next c =>
      cases h
      simp only [Bool.and_eq_true, Bool.or_eq_true, beq_iff_eq] at hp
      have h9 := key q hm (by omega)
      have hj : q.2.1 = j := by omega
      refine List.mem_map.mpr ⟨q, List.mem_filter.mpr ⟨hm, ?_⟩, by rw [hj]⟩
      simp only [Bool.and_eq_true, beq_iff_eq]
      omega
    · cases h
  · cases h
theorem zr_list {k : Nat} (hk : k < 12) (j : Nat) : zr 0 k j = (-2147483648, 2147483647) ∨ (j, zr 0 k j) ∈ ((zrl 0).filter (fun q => q.1 == k)).map (fun q => (q.2.1, q.2.2)) := by
  cases hq : (zrl 0).find? (fun q => q.1 == k && (q.2.1 == 9999 || q.2.1 == j)) with
  | none => exact Or.inl (by simp [zr, hq])
  | some q =>
    right
    have e : zr 0 k j = q.2.2 := by simp [zr, hq]
    have hm := List.mem_of_find?_eq_some hq
    have hp := List.find?_some hq
    have key : ∀ q ∈ zrl 0, q.1 < 12 → q.2.1 ≠ 9999 := by decide +kernel
    simp only [Bool.and_eq_true, Bool.or_eq_true, beq_iff_eq] at hp
    have h9 := key q hm (by omega)
    refine List.mem_map.mpr ⟨q, List.mem_filter.mpr ⟨hm, by simp only [beq_iff_eq]; omega⟩, ?_⟩
    rw [e]
    have hj : q.2.1 = j := by omega
    rw [hj]
section ZNEW4
variable {rs : va_W} {cs sl : Nat} {d : zD2} {L ks : List Nat} {kd : Nat → Nat} {A : Nat → Prop} {nL : Nat} {p : Program} {l : Launch} {e : Env} {R : Room} {s : State} {m : MethodId} {args : Array Value} {below : List Frame} {meth : Method} {c : Code} {cc : ByteArray} {own : String} {Q : State → Prop} {σ : zS} {pc : Nat} {lv : List (Nat × Value)} {st : List Value}
theorem zg_null (X : zX d L kd A nL p s m args c cc own) (hdg : decode cc pc = .ok (.aconst_null, 1)) (k : zGc rs cs sl d L kd A nL p l e R s m args below meth c Q σ (pc + 1) lv (.null :: st)) : zGc rs cs sl d L kd A nL p l e R s m args below meth c Q σ pc lv st := fun hz H locs ls hP hD hS hl => lv_null X.1 X.2.1 hdg (k hz H locs ls hP hD hS hl)
/-- the object that was being made stands among the others -/
theorem zc_typed {b2 : Bool} {a0 k : Nat} {fs : List Value} (i : Nat → Int32) (jl : Nat → Int64) (q : Nat → Option Nat) (hk : zK ks L kd σ) (hb : zb k = k) (h12 : k < 12) (hfs : fs = zfs i jl q (ztys k) 0) (hr : ∀ j, (zr 0 k j).1 ≤ (i j).toInt ∧ (i j).toInt ≤ (zr 0 k j).2) (hf : ∀ j k2, zf 0 k j = some k2 → ∃ y, q j = some y ∧ zT L kd y k2) (hs : zsole k = true → ks.contains k = false) (h11 : k ≠ 11) (h1s : zs1 k = true → ks.contains k = false) (hb2 : b2 = true → ks.contains 8 = true) (hin : zini b2 k i jl) (hq : ∀ j y, q j = some y → y ∈ L ∧ (kd y ≠ 6 → zrt L σ y)) (hi : ∀ j j' y, q j = some y → q j' = some y → kd y ≠ 6 → zro k j → zro k j' → j = j')
    (kk : ∀ (L2 : List Nat) (kd2 : Nat → Nat) (σ2 : zS), zEx0 L kd σ L2 kd2 σ2 → zT L2 kd2 a0 k → zrt L2 σ2 a0 → zKb b2 (k :: ks) L2 kd2 σ2 → zGc [] cs sl d L2 kd2 A nL p l e R s m args below meth c Q σ2 pc lv st) : zGc [(a0, .inr (k, fs))] cs sl d L kd A nL p l e R s m args below meth c Q σ pc lv st := by
  intro hz H locs ls hP hD hS hl
  have hw : zW d.2.2 [a0] (fun _ => k) (fun _ => i, fun _ => jl, fun _ => q) = [(a0, .inr (k, fs))] := by
    show [(a0, zE d.2.2 k i jl q)] = _
    rw [zE_o hb h12, hfs]
  rw [← hw] at hP hD
  have hd : ∀ a ∈ [a0], a ∉ L := zdis (rs := []) (dA := d.2.2) (kd1 := fun _ => k) (kd2 := kd) (σ1 := (fun _ => i, fun _ => jl, fun _ => q)) (σ2 := σ) hD
  rw [← zW_app hd] at hP hD
  refine kk _ _ _ zEx0.r ⟨List.mem_append_left _ List.mem_cons_self, zja_l (hd _ List.mem_cons_self)⟩ (fun a ha j e => ?_) (zKb.obj (τ := (fun _ => i, fun _ => jl, fun _ => q)) hk hd hr hf hs h11 hb2 (by omega) h1s hin hq hi) hz H locs ls hP hD hS hl
  by_cases c : a ∈ L
  · rw [show (zjs L (fun _ => i, fun _ => jl, fun _ => q) σ).2.2 a = σ.2.2 a from zja_r c] at e
    exact hd a0 List.mem_cons_self (hk.2.2.2.1 a c j a0 e)
  · rw [show (zjs L (fun _ => i, fun _ => jl, fun _ => q) σ).2.2 a = q from zja_l c] at e
    exact hd a0 List.mem_cons_self (hq j a0 e).1
end ZNEW4
theorem zK.sub {ks ks2 L : List Nat} {kd : Nat → Nat} {σ : zS} (h : zK ks L kd σ) (hs : ∀ k ∈ ks, k ∈ ks2) (h8 : ks2.contains 8 = false) : zK ks2 L kd σ := ⟨h.1, fun a ha => hs _ (h.2.1 a ha), fun a ha => by
  obtain ⟨i1, i2, i3, i4, i5, i6⟩ := h.2.2.1 a ha
  exact ⟨i1, i2, i3, i4, i5, fun _ c => by rw [h8] at c; cases c⟩, h.2.2.2⟩
section ZNEW5
variable {rs : va_W} {cs sl : Nat} {d : zD2} {L ks : List Nat} {kd : Nat → Nat} {A : Nat → Prop} {nL : Nat} {p : Program} {l : Launch} {e : Env} {R : Room} {s : State} {m : MethodId} {args : Array Value} {below : List Frame} {meth : Method} {c : Code} {cc : ByteArray} {own : String} {Q : State → Prop} {σ : zS} {pc : Nat} {lv : List (Nat × Value)} {st : List Value}
/-- a new row of courses: a raw cell yet -/
theorem zc_newq (X : zX d L kd A nL p s m args c cc own) {index : Nat} {n : Int32} (N : Nat) (hlink : Cond.classLink own index RX1 ∈ zWL) (hn : n.toInt = N) (hby : N * 4 ≤ 536870912) (hroom : cs + 1 ≤ R.cells ∧ sl + N ≤ R.slots) (hdg : decode cc pc = .ok (.anewarray index, 3))
    (kk : ∀ q : Nat, zGc (rs ++ [(q, .inl (d.2.2 16, N, .inr (.inr (.inr (.inr (fun _ => none))))))]) (cs + 1) (sl + N) d L kd A nL p l e R s m args below meth c Q σ (pc + 3) lv (.ref q :: st)) : zGc rs cs sl d L kd A nL p l e R s m args below meth c Q σ pc lv (.int n :: st) := by
  intro hz H locs ls hP hD hS hl
  have hnn : ¬ n < 0 := fun h => by
    have h2 := Int32.lt_iff_toInt_lt.mp h
    rw [hn, show (0 : Int32).toInt = 0 from rfl] at h2
    omega
  have hnc : n.toNatClampNeg = N := by
    show n.toInt.toNat = N
    rw [hn]
    rfl
  refine va_newq X.1 X.2.1 X.2.2.2.1 (X.2.2.2.2.1 _ hlink) X.2.2.2.2.2.2.2.2.2.2.2.2.2.2.2 X.2.2.2.2.2.1 hP hD hS X.2.2.2.2.2.2.2.2.1 hnn hnc hby hroom.1 hroom.2 hdg (fun q cA H1 hK1 hP1 hD1 hS1 => ?_)
  have hc : cA = d.2.2 16 := zRA_eq (i := 4) X.2.2.2.2.2.1 hK1 rfl
  subst hc
  exact kk q hroom H1 locs ls hP1.swap hD1.swap hS1 hl
/-- a course into the raw row that stands second -/
theorem zc_ast {a0 qa y N ci : Nat} {fs : List Value} {f : Nat → Option Nat} {i : Int32} (iN : Nat) (X : zX d L kd A nL p s m args c cc own) (hy : zT L kd y 1) (hiN : i.toInt = iN) (h1 : iN < N) (hdg : decode cc pc = .ok (.aastore, 1)) (k : zGc [(a0, .inr (ci, fs)), (qa, .inl (d.2.2 16, N, .inr (.inr (.inr (.inr (va_up f iN (some y)))))))] cs sl d L kd A nL p l e R s m args below meth c Q σ (pc + 1) lv st) : zGc [(a0, .inr (ci, fs)), (qa, .inl (d.2.2 16, N, .inr (.inr (.inr (.inr f)))))] cs sl d L kd A nL p l e R s m args below meth c Q σ pc lv (.ref y :: .int i :: .ref qa :: st) := by
  intro hz H locs ls hP hD hS hl
  have hic : i.toNatClampNeg = iN := by
    show i.toInt.toNat = iN
    rw [hiN]
    rfl
  subst hic
  obtain ⟨q0, hq⟩ := zR_at (dA := d.2.2) (kd := kd) [(a0, .inr (ci, fs)), (qa, .inl (d.2.2 16, N, .inr (.inr (.inr (.inr f)))))] σ hy.1
  have he : zF d.2.2 kd σ y = .inr (1, zfs (σ.1 y) (σ.2.1 y) (σ.2.2 y) (ztys 1) 0) := zE_o (by rw [hy.2]; rfl) (by decide)
  rw [he] at hq
  exact va_astq (r := (RX1, TX1, 6)) X.1 X.2.1 X.2.2.2.2.2.1 hP hD hS 1 4 q0 1 rfl rfl hq rfl (zb_in (by omega) (by omega)) hdg (fun H1 locs1 hP hD hS => k hz H1 locs1 ls hP hD hS hl)
/-- the row of courses, full, joins the typed world -/
theorem zc_row {a0 qa k N ci : Nat} {fs : List Value} {f : Nat → Option Nat} (hk : zK ks L kd σ) (hb : zb k = 16) (hN : zn k = N) (h0 : 0 < N) (hz9 : ∀ j, zf 0 k j = some 1) (hr9 : ∀ j, zr 0 k j = (-2147483648, 2147483647)) (h11 : k ≠ 11) (hs : zsole k = false) (h40 : k ≠ 40) (h1s : zs1 k = true → ks.contains k = false) (h12 : 12 ≤ k) (h8 : (k :: ks).contains 8 = ks.contains 8) (hf : ∀ j, j < N → ∃ y, f j = some y ∧ zT L kd y 1 ∧ zrt L σ y) (hfi : ∀ i j y, i < N → j < N → f i = some y → f j = some y → i = j)
    (kk : ∀ (L2 : List Nat) (kd2 : Nat → Nat) (σ2 : zS), zEx0 L kd σ L2 kd2 σ2 → (∀ y ∈ L, zrt L σ y → (∀ j, j < N → f j ≠ some y) → zrt L2 σ2 y) → zT L2 kd2 qa k → zrt L2 σ2 qa ∧ qa ∉ L → zK (k :: ks) L2 kd2 σ2 → zGc [(a0, .inr (ci, fs))] cs sl d L2 kd2 A nL p l e R s m args below meth c Q σ2 pc lv st) : zGc [(a0, .inr (ci, fs)), (qa, .inl (d.2.2 16, N, .inr (.inr (.inr (.inr f)))))] cs sl d L kd A nL p l e R s m args below meth c Q σ pc lv st := by
  intro hz H locs ls hP hD hS hl
  let g : Nat → Option Nat := fun j => if j < N then f j else f 0
  have hw : zW d.2.2 [qa] (fun _ => k) (fun _ _ => 0, fun _ _ => 0, fun _ => g) = [(qa, .inl (d.2.2 16, N, .inr (.inr (.inr (.inr g)))))] := by
    show [(qa, zE d.2.2 k (fun _ => 0) (fun _ => 0) g)] = _
    rw [zE_q hb, hN]
  have hP2 : va_P (d.1, d.2.1) vwCl (([(a0, .inr (ci, fs))] ++ zW d.2.2 [qa] (fun _ => k) (fun _ _ => 0, fun _ _ => 0, fun _ => g)) ++ zW d.2.2 L kd σ) H := by
    rw [hw]
    intro j q hq
    match j, hq with
    | 0, hq => exact hP 0 q hq
    | 1, hq =>
      cases hq
      have h1 := hP 1 _ rfl
      show H[qa]? = some (vp_cell (d.2.2 16) (N, .inr (.inr (.inr (.inr g)))))
      have h2 : H[qa]? = some (vp_cell (d.2.2 16) (N, .inr (.inr (.inr (.inr f))))) := h1
      rw [h2]
      have e3 : ∀ (u v : Nat → Value), (∀ j, j < N → u j = v j) → arrV (d.2.2 16) N u = arrV (d.2.2 16) N v := fun u v huv => by
        unfold arrV
        congr 1
        apply Array.ext
        · simp
        · intro j h3 h4
          simp only [Array.getElem_ofFn]
          exact huv j (by simpa using h3)
      show some (arrV (d.2.2 16) N (fun j => va_rf (f j))) = some (arrV (d.2.2 16) N (fun j => va_rf (g j)))
      exact congrArg some (e3 (fun j => va_rf (f j)) (fun j => va_rf (g j)) (fun j hj => by show va_rf (f j) = va_rf (if j < N then f j else f 0); rw [if_pos hj]))
    | j + 2, hq => exact hP (j + 2) q hq
  have hD2 : va_D A (([(a0, .inr (ci, fs))] ++ zW d.2.2 [qa] (fun _ => k) (fun _ _ => 0, fun _ _ => 0, fun _ => g)) ++ zW d.2.2 L kd σ) := by
    rw [hw]
    have key : ∀ (j : Nat) (q : Nat × va_E), ([(a0, (.inr (ci, fs) : va_E))] ++ [(qa, .inl (d.2.2 16, N, .inr (.inr (.inr (.inr g)))))] ++ zW d.2.2 L kd σ)[j]? = some q → ∃ q', ([(a0, (.inr (ci, fs) : va_E)), (qa, .inl (d.2.2 16, N, .inr (.inr (.inr (.inr f)))))] ++ zW d.2.2 L kd σ)[j]? = some q' ∧ q'.1 = q.1 := fun j q hq => by
      match j, hq with
      | 0, hq => exact ⟨q, hq, rfl⟩
      | 1, hq => cases hq; exact ⟨_, rfl, rfl⟩
      | j + 2, hq => exact ⟨q, hq, rfl⟩
    refine ⟨fun i j x y hx hy exy => ?_, fun j q hq => ?_⟩
    · obtain ⟨x', h1, h2⟩ := key i x hx
      obtain ⟨y', h3, h4⟩ := key j y hy
      exact hD.1 i j x' y' h1 h3 (by rw [h2, h4, exy])
    · obtain ⟨q', h3, h4⟩ := key j q hq
      rw [← h4]
      exact hD.2 j q' h3
  have hd := zdis hD2
  have hrf : ∀ j, zf 0 k j = some 1 → ∃ y, g j = some y ∧ zT L kd y 1 := fun j _ => by
    simp only [g]
    split
    · next h => obtain ⟨y, y1, y2, -⟩ := hf j h; exact ⟨y, y1, y2⟩
    · obtain ⟨y, y1, y2, -⟩ := hf 0 h0; exact ⟨y, y1, y2⟩
  have hg : ∀ j y, g j = some y → ∃ i, i < N ∧ f i = some y := fun j y e => by
    simp only [g] at e
    split at e
    · next h => exact ⟨j, h, e⟩
    · exact ⟨0, h0, e⟩
  have hq : ∀ j y, g j = some y → y ∈ L ∧ (kd y ≠ 6 → zrt L σ y) := fun j y e => by
    obtain ⟨i, h1, h2⟩ := hg j y e
    obtain ⟨y2, h3, h4, h5⟩ := hf i h1
    rw [h2] at h3
    cases h3
    exact ⟨h4.1, fun _ => h5⟩
  have hlt : ∀ j, zro k j → j < N := fun j z => by
    rcases z with z | z
    · exact absurd hb z
    · rw [← hN]; exact z
  have hk2 := zKb.obj (b2 := (k :: ks).contains 8) (τ := (fun _ _ => 0, fun _ _ => 0, fun _ => g)) (a0 := qa) (k := k) hk hd (fun j => by rw [hr9 j]; exact zb_rng _) (fun j k2 h => by rw [hz9 j] at h; cases h; exact hrf j (hz9 j)) (fun h => by rw [hs] at h; cases h) h11 (fun c => by rw [← h8]; exact c) h40 h1s ⟨fun e => absurd e (by omega), fun e => absurd e (by omega), fun e => absurd e (by omega), fun e => absurd e (by omega), fun e => absurd e (by omega), fun e => absurd e h40⟩ hq (fun j j' y e e' _ z z' => by
    have l := hlt j z
    have l' := hlt j' z'
    simp only [g] at e e'
    rw [if_pos l] at e
    rw [if_pos l'] at e'
    exact hfi j j' y l l' e e')
  rw [List.append_assoc, ← zW_app hd] at hP2 hD2
  refine kk _ _ _ zEx0.r (fun y hy hr n a ha j e => ?_) ⟨List.mem_append_left _ List.mem_cons_self, zja_l (hd _ List.mem_cons_self)⟩ ⟨fun a ha j e => ?_, hd _ List.mem_cons_self⟩ hk2 hz H locs ls hP2 hD2 hS hl
  · by_cases c : a ∈ L
    · rw [show (zjs L (fun _ _ => 0, fun _ _ => 0, fun _ => g) σ).2.2 a = σ.2.2 a from zja_r c] at e
      exact hr a c j e
    · rw [show (zjs L (fun _ _ => 0, fun _ _ => 0, fun _ => g) σ).2.2 a = g from zja_l c] at e
      obtain ⟨i, h1, h2⟩ := hg j y e
      exact n i h1 h2
  · by_cases c : a ∈ L
    · rw [show (zjs L (fun _ _ => 0, fun _ _ => 0, fun _ => g) σ).2.2 a = σ.2.2 a from zja_r c] at e
      exact hd qa List.mem_cons_self (hk.2.2.2.1 a c j qa e)
    · rw [show (zjs L (fun _ _ => 0, fun _ _ => 0, fun _ => g) σ).2.2 a = g from zja_l c] at e
      exact hd qa List.mem_cons_self (hq j qa e).1
end ZNEW5
theorem zc_cs {rs : va_W} {cs sl cs2 sl2 : Nat} {d : zD2} {L : List Nat} {kd : Nat → Nat} {A : Nat → Prop} {nL : Nat} {p : Program} {l : Launch} {e : Env} {R : Room} {s : State} {m : MethodId} {args : Array Value} {below : List Frame} {meth : Method} {c : Code} {Q : State → Prop} {σ : zS} {pc : Nat} {lv : List (Nat × Value)} {st : List Value} (h1 : cs = cs2) (h2 : sl = sl2) (k : zGc rs cs2 sl2 d L kd A nL p l e R s m args below meth c Q σ pc lv st) : zGc rs cs sl d L kd A nL p l e R s m args below meth c Q σ pc lv st := by
  subst h1 h2
  exact k
theorem zNk {L : List Nat} {kd : Nat → Nat} {a b ka kb : Nat} (ha : zT L kd a ka) (hb : zT L kd b kb) (h : ka ≠ kb) : a ≠ b := fun e => h (ha.2.symm.trans ((congrArg kd e).trans hb.2))
theorem zgN {l : List (Option Nat)} {j y : Nat} (N : Nat) (e : l.getD j none = some y) (hN : l.length ≤ N := by exact Nat.le_of_ble_eq_true rfl) : j < N := by
  rcases Nat.lt_or_ge j l.length with c | c
  · omega
  · rw [List.getD_eq_getElem?_getD, List.getElem?_eq_none c] at e
    cases e
theorem zinjk {q : Nat → Option Nat} {k N : Nat} {L : List Nat} {kd : Nat → Nat} {Xr : Nat → Nat → Prop} (hf : ∀ j k2, zf 0 k j = some k2 → ∃ y, q j = some y ∧ zT L kd y k2) (hN : ∀ j y, q j = some y → j < N ∧ zf 0 k j ≠ none) (hd : ∀ j, j < N → ∀ j', j' < N → zf 0 k j = zf 0 k j' → zf 0 k j ≠ none → j = j' ∨ Xr j j') {j j' y : Nat} (e : q j = some y) (e' : q j' = some y) : j = j' ∨ Xr j j' := by
  obtain ⟨h1, h2⟩ := hN j y e
  obtain ⟨h3, h4⟩ := hN j' y e'
  obtain ⟨k2, hk⟩ := Option.ne_none_iff_exists'.mp h2
  obtain ⟨k3, hk'⟩ := Option.ne_none_iff_exists'.mp h4
  obtain ⟨y2, g1, g2⟩ := hf j k2 hk
  obtain ⟨y3, g3, g4⟩ := hf j' k3 hk'
  rw [e] at g1
  rw [e'] at g3
  cases g1
  cases g3
  refine hd j h1 j' h3 ?_ h2
  rw [hk, hk', ← g2.2, ← g4.2]
theorem zrt.sm {Wk L : List Nat} {kd : Nat → Nat} {σ σ' : zS} {y : Nat} (r : zrt L σ y) (g : zSm Wk [] L kd σ σ') : zrt L σ' y := fun a ha j e => r a ha j (by rw [← (g a ha).2 List.not_mem_nil]; exact e)
theorem z9w {a b j : Nat} {v : Int32} {f : Nat → Nat → Int32} (h : f a 0 = 0 ∧ f a 10 = 0) (hb : b ≠ a ∨ (j ≠ 0 ∧ j ≠ 10) ∨ v = 0) : zu f b j v a 0 = 0 ∧ zu f b j v a 10 = 0 := by
  unfold zu
  rcases hb with c | c | c
  · rw [if_neg (fun e => c e.symm), if_neg (fun e => c e.symm)]
    exact h
  · by_cases e : a = b
    · rw [if_pos e, if_pos e, if_neg (fun z => c.1 z.symm), if_neg (fun z => c.2 z.symm)]
      exact h
    · rw [if_neg e, if_neg e]
      exact h
  · subst c
    by_cases e : a = b
    · rw [if_pos e, if_pos e]
      constructor
      · split
        · rfl
        · exact h.1
      · split
        · rfl
        · exact h.2
    · rw [if_neg e, if_neg e]
      exact h
/-- a told text's places and its storm stay none -/
def z9P (a tt : Nat) (τ : zS) : Prop := (τ.1 a 0 = 0 ∧ τ.1 a 10 = 0) ∧ (τ.2.2 tt 6).getD 0 ≠ a ∧ (τ.2.2 tt 7).getD 0 ≠ a ∧ (τ.2.2 tt 9).getD 0 ≠ a
theorem z9add {a tt : Nat} {x y : Int32} {τ : zS} (h : z9P a tt τ) : z9P a tt (F_X9_addStep tt x y τ) := by
  obtain ⟨h1, h2, h3, h4⟩ := h
  unfold F_X9_addStep
  simp only [zlt]
  split
  · exact ⟨z9w (z9w (z9w h1 (Or.inl h2)) (Or.inl h3)) (Or.inr (Or.inl ⟨by decide, by decide⟩)), h2, h3, h4⟩
  · exact ⟨h1, h2, h3, h4⟩
theorem z9clr_l {a tt : Nat} : ∀ (n : Nat) (x : Int32) (τ : zS), z9P a tt τ → z9P a tt (F_X9_clear_12 tt n x τ) := by
  intro n
  induction n with
  | zero => intro x τ h; exact h
  | succ n ih =>
    intro x τ h
    rw [F_X9_clear_12]
    simp only [zlt]
    obtain ⟨h1, h2, h3, h4⟩ := id h
    have hs : ∀ v : Int32, z9P a tt (zu τ.1 ((τ.2.2 tt 9).getD 0) x.toNatClampNeg v, τ.2.1, τ.2.2) := fun v => ⟨z9w h1 (Or.inl h4), h2, h3, h4⟩
    split
    · split
      · exact ih _ _ (z9add (z9add (hs _)))
      · exact ih _ _ (z9add (z9add (hs _)))
    · exact ⟨z9w (z9w (z9w (z9w h1 (Or.inr (Or.inr rfl))) (Or.inr (Or.inl ⟨by decide, by decide⟩))) (Or.inr (Or.inl ⟨by decide, by decide⟩))) (Or.inr (Or.inl ⟨by decide, by decide⟩)), h2, h3, h4⟩
theorem z9clr {a tt : Nat} {τ : zS} (h : z9P a tt τ) : z9P a tt (F_X9_clear tt τ) := by
  obtain ⟨h1, h2, h3, h4⟩ := h
  unfold F_X9_clear
  simp only [zlt]
  exact z9clr_l _ _ _ ⟨z9w (z9w h1 (Or.inr (Or.inr rfl))) (Or.inr (Or.inl ⟨by decide, by decide⟩)), h2, h3, h4⟩
theorem zKb.clr {b : Bool} {ks L : List Nat} {kd : Nat → Nat} {σ σ' : zS} {a0 : Nat} (h : zKb b ks L kd σ) (hI : zI 0 0 L kd σ') (ha : zT L kd a0 9) (hF : σ' = F_X9_clear a0 σ) (g : zSm [9, 49, 50, 51] [] L kd σ σ') : zKb b ks L kd σ' := by
  have hr : ∀ a ∈ L, σ'.2.2 a = σ.2.2 a := fun a m => (g a m).2 List.not_mem_nil
  refine ⟨hI, h.2.1, fun a m => ?_, fun a m j y e => ?_, fun a m a' m' j j' y e e' => ?_, h.2.2.2.2.2⟩
  · have q := h.2.2.1 a m
    by_cases c : kd a ∈ [9, 49, 50, 51]
    · simp only [List.mem_cons, List.not_mem_nil, or_false] at c
      refine ⟨fun e => absurd e (by omega), fun e => absurd e (by omega), fun e => absurd e (by omega), fun e => ?_, fun e => absurd e (by omega), fun e => absurd e (by omega)⟩
      have ref : ∀ j k2, zf 0 9 j = some k2 → k2 ≠ 9 → (σ.2.2 a0 j).getD 0 ≠ a := fun j k2 hj hk => by
        obtain ⟨y, y1, y2⟩ := zi_ref h.1 ha hj
        rw [y1]
        exact zNk y2 ⟨m, e⟩ hk
      have := z9clr (a := a) (tt := a0) (τ := σ) ⟨q.2.2.2.1 e, ref 6 49 (by rfl) (by decide), ref 7 50 (by rfl) (by decide), ref 9 51 (by rfl) (by decide)⟩
      rw [← hF] at this
      exact this.1
    · rw [((g a m).1 c).1, ((g a m).1 c).2]
      exact q
  · rw [hr a m] at e; exact h.2.2.2.1 a m j y e
  · rw [hr a m] at e
    rw [hr a' m'] at e'
    exact h.2.2.2.2.1 a m a' m' j j' y e e'
/-- the words have been read -/
theorem zKb.words {ks L : List Nat} {kd : Nat → Nat} {σ τ : zS} {q : Nat} (h : zKb false ks L kd σ) (hI : zI 0 0 L kd τ) (h1 : τ.2.2 = σ.2.2) (h2 : τ.1 = σ.1) (hq : zT L kd q 40) (hw : ∀ j, j < 22 → τ.2.1 q j = zw32 j) : zKb true ks L kd τ := by
  refine ⟨hI, h.2.1, fun a m => ?_, by unfold zcl; rw [h1]; exact h.2.2.2.1, by unfold zow; rw [h1]; exact h.2.2.2.2.1, h.2.2.2.2.2⟩
  obtain ⟨i1, i2, i3, i4, i5, -⟩ := h.2.2.1 a m
  rw [h2]
  refine ⟨i1, i2, i3, i4, i5, fun e _ => ?_⟩
  rw [h.2.2.2.2.2 a m q hq.1 (by rw [e]; rfl) (e.trans hq.2.symm)]
  exact hw
theorem zrt.eq {L : List Nat} {σ τ : zS} {y : Nat} (r : zrt L σ y) (h : τ.2.2 = σ.2.2) : zrt L τ y := by unfold zrt; rw [h]; exact r
end
-- 19.ctors
section
set_option maxHeartbeats 4000000 in
set_option maxRecDepth 100000 in
theorem n_X0 (l : Launch) (d : zD2) : zNew l yX0_init (Cond.code yX0_init cX0_init 1 none :: zWL) 1 2 41 d 0 [.null, .null] [0, 20, 21] := by
  refine zNew.of (own := RX0) (by decide +kernel) rfl rfl rfl (by decide) ?_
  intro a0 p e s m args below meth c A Q X hin ret
  have hk0 := zK.nil
  refine zg_aload_n X 0 rfl dX0_init_0 ?_
  refine zc_obj X mo_X0_1 mo_inst mo_code dX0_init_1 ⟨by decide, Nat.le_of_ble_eq_true rfl⟩ ?_
  refine zg_aload_n X 0 rfl dX0_init_4 ?_
  refine zg_bipush X 9 dX0_init_5 (by decide) (fun v1 _ hv1 => ?_)
  refine zc_newi X 20 13 1 hk0 wa_int rfl rfl (Or.inr (Or.inl rfl)) rfl rfl (by rw [hv1]; rfl) (by decide) (fun j => ⟨show (-2147483648 : Int) ≤ 0 by decide, show (0 : Int) ≤ 2147483647 by decide⟩) (fun _ => rfl) (by decide) (by decide) (by decide) ⟨by decide, by decide⟩ dX0_init_7 (fun q1 L1 kd1 s1 e1 t1 r1 hk1 => ?_)
  have X : zX d L1 kd1 A 1 p s m args c cX0_init RX0 := X
  refine zc_put (j := 0) (ty := .array .int) (fs2 := [.ref q1, .null]) X hin rfl (by decide) zl_in0 tyX0_ok nmX0 (zkl_X0_9) rfl (by decide +kernel) rfl rfl (Nat.le_of_ble_eq_true rfl) rfl dX0_init_9 ?_
  refine zg_aload_n X 0 rfl dX0_init_12 ?_
  refine zg_bipush X 32 dX0_init_13 (by decide) (fun v2 _ hv2 => ?_)
  refine zc_newi X 21 13 1 hk1 wa_int rfl rfl (Or.inr (Or.inl rfl)) rfl rfl (by rw [hv2]; rfl) (by decide) (fun j => ⟨show (-2147483648 : Int) ≤ 0 by decide, show (0 : Int) ≤ 2147483647 by decide⟩) (fun _ => rfl) (by decide) (by decide) (by decide) ⟨by decide, by decide⟩ dX0_init_15 (fun q2 L2 kd2 s2 e2 t2 r2 hk2 => ?_)
  have X : zX d L2 kd2 A 1 p s m args c cX0_init RX0 := X
  have Rq1_2 : zrt L2 s2 q1 := e2.rr t1 r1.1
  refine zc_put (j := 1) (ty := .array .int) (fs2 := [.ref q1, .ref q2]) X hin rfl (by decide) zl_in0 tyX0_ok nmX0 (zkl_X0_13) rfl (by decide +kernel) rfl rfl (Nat.le_of_ble_eq_true rfl) rfl dX0_init_17 ?_
  have hf3 : ∀ j k2, zf 0 0 j = some k2 → ∃ y, (fun j => ([some q1, some q2] : List (Option Nat)).getD j none) j = some y ∧ zT L2 kd2 y k2 := by
    intro j k2 h
    have h := zf_list (by decide) h
    rw [show (zfl.filter (fun q => q.1 == 0 && q.2.2.2 == 0)).map (fun q => (q.2.1, q.2.2.1)) = ([(0, 20), (1, 21)] : List (Nat × Nat)) from by decide +kernel] at h
    simp only [List.mem_cons, Prod.mk.injEq, List.not_mem_nil, or_false] at h
    rcases h with ⟨rfl, rfl⟩ | ⟨rfl, rfl⟩
    · exact ⟨_, rfl, (e2.t t1)⟩
    · exact ⟨_, rfl, t2⟩
  have hq3 : ∀ j y, (fun j => ([some q1, some q2] : List (Option Nat)).getD j none) j = some y → (j < 2 ∧ zf 0 0 j ≠ none) ∧ y ∈ L2 ∧ ((kd2 : Nat → Nat) y ≠ 6 → zrt L2 s2 y) := by
    intro j y e
    have hj : j < 2 := zgN 2 e
    rcases (show j = 0 ∨ j = 1 by omega) with rfl | rfl
    · cases (show some q1 = some y from e); exact ⟨⟨by decide, by decide⟩, (e2.t t1).1, fun _ => Rq1_2⟩
    · cases (show some q2 = some y from e); exact ⟨⟨by decide, by decide⟩, t2.1, fun _ => r2.1⟩
  have hi3 : ∀ j j' y, (fun j => ([some q1, some q2] : List (Option Nat)).getD j none) j = some y → (fun j => ([some q1, some q2] : List (Option Nat)).getD j none) j' = some y → j = j' := by
    intro j j' y e e'
    rcases zinjk (N := 2) (Xr := fun j j' => False) hf3 (fun j y e => (hq3 j y e).1) (by decide +kernel) e e' with z | z
    · exact z
    · exact absurd z id
  refine zc_typed (b2 := (List.contains ([0, 20, 21] : List Nat) 8)) (k := 0) (fun j => ([0, 0] : List Int32).getD j 0) (fun j => ([0, 0] : List Int64).getD j 0) (fun j => ([some q1, some q2] : List (Option Nat)).getD j none) hk2 rfl (by decide) rfl ?_ hf3 (by decide) (by decide) (by decide) (by decide) ⟨fun e => absurd e (by decide), fun e => absurd e (by decide), fun e => absurd e (by decide), fun e => absurd e (by decide), fun e => absurd e (by decide), fun e => absurd e (by decide)⟩ (fun j y e => (hq3 j y e).2) (fun j j' y e e' _ _ _ => hi3 j j' y e e') (fun L3 kd3 s3 e3 ta3 rt3 hk3 => ?_)
  · intro j
    rcases zr_list (k := 0) (by decide) j with h | h
    · rw [h]; exact zb_rng _
    · rw [show ((zrl 0).filter (fun q => q.1 == 0)).map (fun q => (q.2.1, q.2.2)) = ([] : List (Nat × Int × Int)) from by decide +kernel] at h
      exact absurd h List.not_mem_nil
  have X : zX d L3 kd3 A 1 p s m args c cX0_init RX0 := X
  exact ret _ _ _ _ _ dX0_init_20 ta3 rt3 hk3
set_option maxHeartbeats 4000000 in
set_option maxRecDepth 100000 in
theorem n_X1 (l : Launch) (d : zD2) : zNew l yX1_init (Cond.code yX1_init cX1_init 1 none :: zWL) 1 3 36 d 1 [.null, .null, .null, .int 0, .int 0, .int 0] [1, 22, 23, 24] := by
  refine zNew.of (own := RX1) (by decide +kernel) rfl rfl rfl (by decide) ?_
  intro a0 p e s m args below meth c A Q X hin ret
  have hk0 := zK.nil
  refine zg_aload_n X 0 rfl dX1_init_0 ?_
  refine zc_obj X mo_X1_3 mo_inst mo_code dX1_init_1 ⟨by decide, Nat.le_of_ble_eq_true rfl⟩ ?_
  refine zg_aload_n X 0 rfl dX1_init_4 ?_
  refine zg_bipush X 12 dX1_init_5 (by decide) (fun v1 _ hv1 => ?_)
  refine zc_newi X 22 13 1 hk0 wa_int rfl rfl (Or.inr (Or.inl rfl)) rfl rfl (by rw [hv1]; rfl) (by decide) (fun j => ⟨show (0 : Int) ≤ 0 by decide, show (0 : Int) ≤ 11 by decide⟩) (fun _ => rfl) (by decide) (by decide) (by decide) ⟨by decide, by decide⟩ dX1_init_7 (fun q1 L1 kd1 s1 e1 t1 r1 hk1 => ?_)
  have X : zX d L1 kd1 A 1 p s m args c cX1_init RX1 := X
  refine zc_put (j := 0) (ty := .array .int) (fs2 := [.ref q1, .null, .null, .int 0, .int 0, .int 0]) X hin rfl (by decide) zl_in1 tyX1_ok nmX1 (zkl_X1_9) rfl (by decide +kernel) rfl rfl (Nat.le_of_ble_eq_true rfl) rfl dX1_init_9 ?_
  refine zg_aload_n X 0 rfl dX1_init_12 ?_
  refine zg_bipush X 12 dX1_init_13 (by decide) (fun v2 _ hv2 => ?_)
  refine zc_newi X 23 13 1 hk1 wa_int rfl rfl (Or.inr (Or.inl rfl)) rfl rfl (by rw [hv2]; rfl) (by decide) (fun j => ⟨show (-2147483648 : Int) ≤ 0 by decide, show (0 : Int) ≤ 2147483647 by decide⟩) (fun _ => rfl) (by decide) (by decide) (by decide) ⟨by decide, by decide⟩ dX1_init_15 (fun q2 L2 kd2 s2 e2 t2 r2 hk2 => ?_)
  have X : zX d L2 kd2 A 1 p s m args c cX1_init RX1 := X
  have Rq1_2 : zrt L2 s2 q1 := e2.rr t1 r1.1
  refine zc_put (j := 1) (ty := .array .int) (fs2 := [.ref q1, .ref q2, .null, .int 0, .int 0, .int 0]) X hin rfl (by decide) zl_in1 tyX1_ok nmX1 (zkl_X1_15) rfl (by decide +kernel) rfl rfl (Nat.le_of_ble_eq_true rfl) rfl dX1_init_17 ?_
  refine zg_aload_n X 0 rfl dX1_init_20 ?_
  refine zg_bipush X 12 dX1_init_21 (by decide) (fun v3 _ hv3 => ?_)
  refine zc_newi X 24 13 1 hk2 wa_int rfl rfl (Or.inr (Or.inl rfl)) rfl rfl (by rw [hv3]; rfl) (by decide) (fun j => ⟨show (-2147483648 : Int) ≤ 0 by decide, show (0 : Int) ≤ 2147483647 by decide⟩) (fun _ => rfl) (by decide) (by decide) (by decide) ⟨by decide, by decide⟩ dX1_init_23 (fun q3 L3 kd3 s3 e3 t3 r3 hk3 => ?_)
  have X : zX d L3 kd3 A 1 p s m args c cX1_init RX1 := X
  have Rq1_3 : zrt L3 s3 q1 := e3.rr (e2.t t1) Rq1_2
  have Rq2_3 : zrt L3 s3 q2 := e3.rr t2 r2.1
  refine zc_put (j := 2) (ty := .array .int) (fs2 := [.ref q1, .ref q2, .ref q3, .int 0, .int 0, .int 0]) X hin rfl (by decide) zl_in1 tyX1_ok nmX1 (zkl_X1_18) rfl (by decide +kernel) rfl rfl (Nat.le_of_ble_eq_true rfl) rfl dX1_init_25 ?_
  refine zg_aload_n X 0 rfl dX1_init_28 ?_
  refine zg_iconst X 0 dX1_init_29 (by decide) (fun v4 _ hv4 => ?_)
  refine zc_put (j := 3) (ty := .int) (fs2 := [.ref q1, .ref q2, .ref q3, .int v4, .int 0, .int 0]) X hin rfl (by decide) zl_in1 tyX1_ok nmX1 (zkl_X1_21) rfl (by decide +kernel) rfl rfl (Nat.le_of_ble_eq_true rfl) rfl dX1_init_30 ?_
  refine zg_aload_n X 0 rfl dX1_init_33 ?_
  refine zg_iconst X 0 dX1_init_34 (by decide) (fun v5 _ hv5 => ?_)
  refine zc_put (j := 4) (ty := .int) (fs2 := [.ref q1, .ref q2, .ref q3, .int v4, .int v5, .int 0]) X hin rfl (by decide) zl_in1 tyX1_ok nmX1 (zkl_X1_25) rfl (by decide +kernel) rfl rfl (Nat.le_of_ble_eq_true rfl) rfl dX1_init_35 ?_
  refine zg_aload_n X 0 rfl dX1_init_38 ?_
  refine zg_iconst X 0 dX1_init_39 (by decide) (fun v6 _ hv6 => ?_)
  refine zc_put (j := 5) (ty := .int) (fs2 := [.ref q1, .ref q2, .ref q3, .int v4, .int v5, .int v6]) X hin rfl (by decide) zl_in1 tyX1_ok nmX1 (zkl_X1_28) rfl (by decide +kernel) rfl rfl (Nat.le_of_ble_eq_true rfl) rfl dX1_init_40 ?_
  have hf4 : ∀ j k2, zf 0 1 j = some k2 → ∃ y, (fun j => ([some q1, some q2, some q3, none, none, none] : List (Option Nat)).getD j none) j = some y ∧ zT L3 kd3 y k2 := by
    intro j k2 h
    have h := zf_list (by decide) h
    rw [show (zfl.filter (fun q => q.1 == 1 && q.2.2.2 == 0)).map (fun q => (q.2.1, q.2.2.1)) = ([(0, 22), (1, 23), (2, 24)] : List (Nat × Nat)) from by decide +kernel] at h
    simp only [List.mem_cons, Prod.mk.injEq, List.not_mem_nil, or_false] at h
    rcases h with ⟨rfl, rfl⟩ | ⟨rfl, rfl⟩ | ⟨rfl, rfl⟩
    · exact ⟨_, rfl, (e3.t (e2.t t1))⟩
    · exact ⟨_, rfl, (e3.t t2)⟩
    · exact ⟨_, rfl, t3⟩
  have hq4 : ∀ j y, (fun j => ([some q1, some q2, some q3, none, none, none] : List (Option Nat)).getD j none) j = some y → (j < 6 ∧ zf 0 1 j ≠ none) ∧ y ∈ L3 ∧ ((kd3 : Nat → Nat) y ≠ 6 → zrt L3 s3 y) := by
    intro j y e
    have hj : j < 6 := zgN 6 e
    rcases (show j = 0 ∨ j = 1 ∨ j = 2 ∨ j = 3 ∨ j = 4 ∨ j = 5 by omega) with rfl | rfl | rfl | rfl | rfl | rfl
    · cases (show some q1 = some y from e); exact ⟨⟨by decide, by decide⟩, (e3.t (e2.t t1)).1, fun _ => Rq1_3⟩
    · cases (show some q2 = some y from e); exact ⟨⟨by decide, by decide⟩, (e3.t t2).1, fun _ => Rq2_3⟩
    · cases (show some q3 = some y from e); exact ⟨⟨by decide, by decide⟩, t3.1, fun _ => r3.1⟩
    · cases (show (none : Option Nat) = some y from e)
    · cases (show (none : Option Nat) = some y from e)
    · cases (show (none : Option Nat) = some y from e)
  have hi4 : ∀ j j' y, (fun j => ([some q1, some q2, some q3, none, none, none] : List (Option Nat)).getD j none) j = some y → (fun j => ([some q1, some q2, some q3, none, none, none] : List (Option Nat)).getD j none) j' = some y → j = j' := by
    intro j j' y e e'
    rcases zinjk (N := 6) (Xr := fun j j' => False) hf4 (fun j y e => (hq4 j y e).1) (by decide +kernel) e e' with z | z
    · exact z
    · exact absurd z id
  refine zc_typed (b2 := (List.contains ([1, 22, 23, 24] : List Nat) 8)) (k := 1) (fun j => ([0, 0, 0, v4, v5, v6] : List Int32).getD j 0) (fun j => ([0, 0, 0, 0, 0, 0] : List Int64).getD j 0) (fun j => ([some q1, some q2, some q3, none, none, none] : List (Option Nat)).getD j none) hk3 rfl (by decide) rfl ?_ hf4 (by decide) (by decide) (by decide) (by decide) ⟨fun _ => ⟨Int32.toInt_inj.mp (hv4.trans (by decide)), Int32.toInt_inj.mp (hv5.trans (by decide)), Int32.toInt_inj.mp (hv6.trans (by decide))⟩, fun e => absurd e (by decide), fun e => absurd e (by decide), fun e => absurd e (by decide), fun e => absurd e (by decide), fun e => absurd e (by decide)⟩ (fun j y e => (hq4 j y e).2) (fun j j' y e e' _ _ _ => hi4 j j' y e e') (fun L4 kd4 s4 e4 ta4 rt4 hk4 => ?_)
  · intro j
    rcases zr_list (k := 1) (by decide) j with h | h
    · rw [h]; exact zb_rng _
    · rw [show ((zrl 0).filter (fun q => q.1 == 1)).map (fun q => (q.2.1, q.2.2)) = ([(5, 0, 2)] : List (Nat × Int × Int)) from by decide +kernel] at h
      simp only [List.mem_cons, Prod.mk.injEq, List.not_mem_nil, or_false] at h
      rcases h with ⟨rfl, h⟩
      · rw [h]; show _ ≤ Int32.toInt v6 ∧ Int32.toInt v6 ≤ _; first | exact ⟨by decide, by decide⟩ | exact ⟨by show (0 : Int) ≤ _; omega, by show _ ≤ (2 : Int); omega⟩
  have X : zX d L4 kd4 A 1 p s m args c cX1_init RX1 := X
  exact ret _ _ _ _ _ dX1_init_43 ta4 rt4 hk4
set_option maxHeartbeats 4000000 in
set_option maxRecDepth 100000 in
theorem n_X2 (l : Launch) (d : zD2) : zNew l yX2_init (Cond.code yX2_init cX2_init 1 none :: zWL) 1 4 80 d 2 [.null, .null, .null, .null, .int 0] [2, 25, 26, 27, 28] := by
  refine zNew.of (own := RX2) (by decide +kernel) rfl rfl rfl (by decide) ?_
  intro a0 p e s m args below meth c A Q X hin ret
  have hk0 := zK.nil
  refine zg_aload_n X 0 rfl dX2_init_0 ?_
  refine zc_obj X mo_X2_3 mo_inst mo_code dX2_init_1 ⟨by decide, Nat.le_of_ble_eq_true rfl⟩ ?_
  refine zg_aload_n X 0 rfl dX2_init_4 ?_
  refine zg_bipush X 20 dX2_init_5 (by decide) (fun v1 _ hv1 => ?_)
  refine zc_newi X 25 13 1 hk0 wa_int rfl rfl (Or.inr (Or.inl rfl)) rfl rfl (by rw [hv1]; rfl) (by decide) (fun j => ⟨show (0 : Int) ≤ 0 by decide, show (0 : Int) ≤ 11 by decide⟩) (fun _ => rfl) (by decide) (by decide) (by decide) ⟨by decide, by decide⟩ dX2_init_7 (fun q1 L1 kd1 s1 e1 t1 r1 hk1 => ?_)
  have X : zX d L1 kd1 A 1 p s m args c cX2_init RX2 := X
  refine zc_put (j := 0) (ty := .array .int) (fs2 := [.ref q1, .null, .null, .null, .int 0]) X hin rfl (by decide) zl_in2 tyX2_ok nmX2 (zkl_X2_11) rfl (by decide +kernel) rfl rfl (Nat.le_of_ble_eq_true rfl) rfl dX2_init_9 ?_
  refine zg_aload_n X 0 rfl dX2_init_12 ?_
  refine zg_bipush X 20 dX2_init_13 (by decide) (fun v2 _ hv2 => ?_)
  refine zc_newi X 26 13 1 hk1 wa_int rfl rfl (Or.inr (Or.inl rfl)) rfl rfl (by rw [hv2]; rfl) (by decide) (fun j => ⟨show (-2147483648 : Int) ≤ 0 by decide, show (0 : Int) ≤ 2147483647 by decide⟩) (fun _ => rfl) (by decide) (by decide) (by decide) ⟨by decide, by decide⟩ dX2_init_15 (fun q2 L2 kd2 s2 e2 t2 r2 hk2 => ?_)
  have X : zX d L2 kd2 A 1 p s m args c cX2_init RX2 := X
  have Rq1_2 : zrt L2 s2 q1 := e2.rr t1 r1.1
  refine zc_put (j := 1) (ty := .array .int) (fs2 := [.ref q1, .ref q2, .null, .null, .int 0]) X hin rfl (by decide) zl_in2 tyX2_ok nmX2 (zkl_X2_15) rfl (by decide +kernel) rfl rfl (Nat.le_of_ble_eq_true rfl) rfl dX2_init_17 ?_
  refine zg_aload_n X 0 rfl dX2_init_20 ?_
  refine zg_bipush X 20 dX2_init_21 (by decide) (fun v3 _ hv3 => ?_)
  refine zc_newi X 27 13 1 hk2 wa_int rfl rfl (Or.inr (Or.inl rfl)) rfl rfl (by rw [hv3]; rfl) (by decide) (fun j => ⟨show (-2147483648 : Int) ≤ 0 by decide, show (0 : Int) ≤ 2147483647 by decide⟩) (fun _ => rfl) (by decide) (by decide) (by decide) ⟨by decide, by decide⟩ dX2_init_23 (fun q3 L3 kd3 s3 e3 t3 r3 hk3 => ?_)
  have X : zX d L3 kd3 A 1 p s m args c cX2_init RX2 := X
  have Rq1_3 : zrt L3 s3 q1 := e3.rr (e2.t t1) Rq1_2
  have Rq2_3 : zrt L3 s3 q2 := e3.rr t2 r2.1
  refine zc_put (j := 2) (ty := .array .int) (fs2 := [.ref q1, .ref q2, .ref q3, .null, .int 0]) X hin rfl (by decide) zl_in2 tyX2_ok nmX2 (zkl_X2_18) rfl (by decide +kernel) rfl rfl (Nat.le_of_ble_eq_true rfl) rfl dX2_init_25 ?_
  refine zg_aload_n X 0 rfl dX2_init_28 ?_
  refine zg_bipush X 20 dX2_init_29 (by decide) (fun v4 _ hv4 => ?_)
  refine zc_newi X 28 15 3 hk3 wa_boolean rfl rfl (Or.inr (Or.inr rfl)) rfl rfl (by rw [hv4]; rfl) (by decide) (fun j => ⟨show (0 : Int) ≤ 0 by decide, show (0 : Int) ≤ 1 by decide⟩) (fun _ => rfl) (by decide) (by decide) (by decide) ⟨by decide, by decide⟩ dX2_init_31 (fun q4 L4 kd4 s4 e4 t4 r4 hk4 => ?_)
  have X : zX d L4 kd4 A 1 p s m args c cX2_init RX2 := X
  have Rq1_4 : zrt L4 s4 q1 := e4.rr (e3.t (e2.t t1)) Rq1_3
  have Rq2_4 : zrt L4 s4 q2 := e4.rr (e3.t t2) Rq2_3
  have Rq3_4 : zrt L4 s4 q3 := e4.rr t3 r3.1
  refine zc_put (j := 3) (ty := .array .boolean) (fs2 := [.ref q1, .ref q2, .ref q3, .ref q4, .int 0]) X hin rfl (by decide) zl_in2 tyX2_ok nmX2 (zkl_X2_21) rfl (by decide +kernel) rfl rfl (Nat.le_of_ble_eq_true rfl) rfl dX2_init_33 ?_
  refine zg_aload_n X 0 rfl dX2_init_36 ?_
  refine zg_iconst X 0 dX2_init_37 (by decide) (fun v5 _ hv5 => ?_)
  refine zc_put (j := 4) (ty := .int) (fs2 := [.ref q1, .ref q2, .ref q3, .ref q4, .int v5]) X hin rfl (by decide) zl_in2 tyX2_ok nmX2 (zkl_X2_25) rfl (by decide +kernel) rfl rfl (Nat.le_of_ble_eq_true rfl) rfl dX2_init_38 ?_
  have hf5 : ∀ j k2, zf 0 2 j = some k2 → ∃ y, (fun j => ([some q1, some q2, some q3, some q4, none] : List (Option Nat)).getD j none) j = some y ∧ zT L4 kd4 y k2 := by
    intro j k2 h
    have h := zf_list (by decide) h
    rw [show (zfl.filter (fun q => q.1 == 2 && q.2.2.2 == 0)).map (fun q => (q.2.1, q.2.2.1)) = ([(0, 25), (1, 26), (2, 27), (3, 28)] : List (Nat × Nat)) from by decide +kernel] at h
    simp only [List.mem_cons, Prod.mk.injEq, List.not_mem_nil, or_false] at h
    rcases h with ⟨rfl, rfl⟩ | ⟨rfl, rfl⟩ | ⟨rfl, rfl⟩ | ⟨rfl, rfl⟩
    · exact ⟨_, rfl, (e4.t (e3.t (e2.t t1)))⟩
    · exact ⟨_, rfl, (e4.t (e3.t t2))⟩
    · exact ⟨_, rfl, (e4.t t3)⟩
    · exact ⟨_, rfl, t4⟩
  have hq5 : ∀ j y, (fun j => ([some q1, some q2, some q3, some q4, none] : List (Option Nat)).getD j none) j = some y → (j < 5 ∧ zf 0 2 j ≠ none) ∧ y ∈ L4 ∧ ((kd4 : Nat → Nat) y ≠ 6 → zrt L4 s4 y) := by
    intro j y e
    have hj : j < 5 := zgN 5 e
    rcases (show j = 0 ∨ j = 1 ∨ j = 2 ∨ j = 3 ∨ j = 4 by omega) with rfl | rfl | rfl | rfl | rfl
    · cases (show some q1 = some y from e); exact ⟨⟨by decide, by decide⟩, (e4.t (e3.t (e2.t t1))).1, fun _ => Rq1_4⟩
    · cases (show some q2 = some y from e); exact ⟨⟨by decide, by decide⟩, (e4.t (e3.t t2)).1, fun _ => Rq2_4⟩
    · cases (show some q3 = some y from e); exact ⟨⟨by decide, by decide⟩, (e4.t t3).1, fun _ => Rq3_4⟩
    · cases (show some q4 = some y from e); exact ⟨⟨by decide, by decide⟩, t4.1, fun _ => r4.1⟩
    · cases (show (none : Option Nat) = some y from e)
  have hi5 : ∀ j j' y, (fun j => ([some q1, some q2, some q3, some q4, none] : List (Option Nat)).getD j none) j = some y → (fun j => ([some q1, some q2, some q3, some q4, none] : List (Option Nat)).getD j none) j' = some y → j = j' := by
    intro j j' y e e'
    rcases zinjk (N := 5) (Xr := fun j j' => False) hf5 (fun j y e => (hq5 j y e).1) (by decide +kernel) e e' with z | z
    · exact z
    · exact absurd z id
  refine zc_typed (b2 := (List.contains ([2, 25, 26, 27, 28] : List Nat) 8)) (k := 2) (fun j => ([0, 0, 0, 0, v5] : List Int32).getD j 0) (fun j => ([0, 0, 0, 0, 0] : List Int64).getD j 0) (fun j => ([some q1, some q2, some q3, some q4, none] : List (Option Nat)).getD j none) hk4 rfl (by decide) rfl ?_ hf5 (by decide) (by decide) (by decide) (by decide) ⟨fun e => absurd e (by decide), fun _ => Int32.toInt_inj.mp (hv5.trans (by decide)), fun e => absurd e (by decide), fun e => absurd e (by decide), fun e => absurd e (by decide), fun e => absurd e (by decide)⟩ (fun j y e => (hq5 j y e).2) (fun j j' y e e' _ _ _ => hi5 j j' y e e') (fun L5 kd5 s5 e5 ta5 rt5 hk5 => ?_)
  · intro j
    rcases zr_list (k := 2) (by decide) j with h | h
    · rw [h]; exact zb_rng _
    · rw [show ((zrl 0).filter (fun q => q.1 == 2)).map (fun q => (q.2.1, q.2.2)) = ([(4, 0, 20)] : List (Nat × Int × Int)) from by decide +kernel] at h
      simp only [List.mem_cons, Prod.mk.injEq, List.not_mem_nil, or_false] at h
      rcases h with ⟨rfl, h⟩
      · rw [h]; show _ ≤ Int32.toInt v5 ∧ Int32.toInt v5 ≤ _; first | exact ⟨by decide, by decide⟩ | exact ⟨by show (0 : Int) ≤ _; omega, by show _ ≤ (20 : Int); omega⟩
  have X : zX d L5 kd5 A 1 p s m args c cX2_init RX2 := X
  exact ret _ _ _ _ _ dX2_init_41 ta5 rt5 hk5
set_option maxHeartbeats 4000000 in
set_option maxRecDepth 100000 in
theorem n_X7 (l : Launch) (d : zD2) : zNew l yX7_init (Cond.code yX7_init cX7_init 1 none :: zWL) 1 1 2000 d 7 [.null, .int 0] [7, 39] := by
  refine zNew.of (own := RX7) (by decide +kernel) rfl rfl rfl (by decide) ?_
  intro a0 p e s m args below meth c A Q X hin ret
  have hk0 := zK.nil
  refine zg_aload_n X 0 rfl dX7_init_0 ?_
  refine zc_obj X mo_X7_3 mo_inst mo_code dX7_init_1 ⟨by decide, Nat.le_of_ble_eq_true rfl⟩ ?_
  refine zg_aload_n X 0 rfl dX7_init_4 ?_
  refine zg_sipush X 2000 dX7_init_5 (by decide) (fun v1 _ hv1 => ?_)
  refine zc_newi X 39 12 0 hk0 wa_byte rfl rfl (Or.inl rfl) rfl rfl (by rw [hv1]; rfl) (by decide) (fun j => ⟨show (-128 : Int) ≤ 0 by decide, show (0 : Int) ≤ 127 by decide⟩) (fun _ => rfl) (by decide) (by decide) (by decide) ⟨by decide, by decide⟩ dX7_init_8 (fun q1 L1 kd1 s1 e1 t1 r1 hk1 => ?_)
  have X : zX d L1 kd1 A 1 p s m args c cX7_init RX7 := X
  refine zc_put (j := 0) (ty := .array .byte) (fs2 := [.ref q1, .int 0]) X hin rfl (by decide) zl_in7 tyX7_ok nmX7 (zkl_X7_9) rfl (by decide +kernel) rfl rfl (Nat.le_of_ble_eq_true rfl) rfl dX7_init_10 ?_
  refine zg_aload_n X 0 rfl dX7_init_13 ?_
  refine zg_iconst X 0 dX7_init_14 (by decide) (fun v2 _ hv2 => ?_)
  refine zc_put (j := 1) (ty := .int) (fs2 := [.ref q1, .int v2]) X hin rfl (by decide) zl_in7 tyX7_ok nmX7 (zkl_X7_15) rfl (by decide +kernel) rfl rfl (Nat.le_of_ble_eq_true rfl) rfl dX7_init_15 ?_
  have hf2 : ∀ j k2, zf 0 7 j = some k2 → ∃ y, (fun j => ([some q1, none] : List (Option Nat)).getD j none) j = some y ∧ zT L1 kd1 y k2 := by
    intro j k2 h
    have h := zf_list (by decide) h
    rw [show (zfl.filter (fun q => q.1 == 7 && q.2.2.2 == 0)).map (fun q => (q.2.1, q.2.2.1)) = ([(0, 39)] : List (Nat × Nat)) from by decide +kernel] at h
    simp only [List.mem_cons, Prod.mk.injEq, List.not_mem_nil, or_false] at h
    rcases h with ⟨rfl, rfl⟩
    · exact ⟨_, rfl, t1⟩
  have hq2 : ∀ j y, (fun j => ([some q1, none] : List (Option Nat)).getD j none) j = some y → (j < 2 ∧ zf 0 7 j ≠ none) ∧ y ∈ L1 ∧ ((kd1 : Nat → Nat) y ≠ 6 → zrt L1 s1 y) := by
    intro j y e
    have hj : j < 2 := zgN 2 e
    rcases (show j = 0 ∨ j = 1 by omega) with rfl | rfl
    · cases (show some q1 = some y from e); exact ⟨⟨by decide, by decide⟩, t1.1, fun _ => r1.1⟩
    · cases (show (none : Option Nat) = some y from e)
  have hi2 : ∀ j j' y, (fun j => ([some q1, none] : List (Option Nat)).getD j none) j = some y → (fun j => ([some q1, none] : List (Option Nat)).getD j none) j' = some y → j = j' := by
    intro j j' y e e'
    rcases zinjk (N := 2) (Xr := fun j j' => False) hf2 (fun j y e => (hq2 j y e).1) (by decide +kernel) e e' with z | z
    · exact z
    · exact absurd z id
  refine zc_typed (b2 := (List.contains ([7, 39] : List Nat) 8)) (k := 7) (fun j => ([0, v2] : List Int32).getD j 0) (fun j => ([0, 0] : List Int64).getD j 0) (fun j => ([some q1, none] : List (Option Nat)).getD j none) hk1 rfl (by decide) rfl ?_ hf2 (by decide) (by decide) (by decide) (by decide) ⟨fun e => absurd e (by decide), fun e => absurd e (by decide), fun e => absurd e (by decide), fun e => absurd e (by decide), fun e => absurd e (by decide), fun e => absurd e (by decide)⟩ (fun j y e => (hq2 j y e).2) (fun j j' y e e' _ _ _ => hi2 j j' y e e') (fun L2 kd2 s2 e2 ta2 rt2 hk2 => ?_)
  · intro j
    rcases zr_list (k := 7) (by decide) j with h | h
    · rw [h]; exact zb_rng _
    · rw [show ((zrl 0).filter (fun q => q.1 == 7)).map (fun q => (q.2.1, q.2.2)) = ([(1, 0, 0)] : List (Nat × Int × Int)) from by decide +kernel] at h
      simp only [List.mem_cons, Prod.mk.injEq, List.not_mem_nil, or_false] at h
      rcases h with ⟨rfl, h⟩
      · rw [h]; show _ ≤ Int32.toInt v2 ∧ Int32.toInt v2 ≤ _; first | exact ⟨by decide, by decide⟩ | exact ⟨by show (0 : Int) ≤ _; omega, by show _ ≤ (0 : Int); omega⟩
  have X : zX d L2 kd2 A 1 p s m args c cX7_init RX7 := X
  exact ret _ _ _ _ _ dX7_init_18 ta2 rt2 hk2
set_option maxHeartbeats 4000000 in
set_option maxRecDepth 100000 in
theorem n_X6 (l : Launch) (d : zD2) : zNew l yX6_init (Cond.code yX6_init cX6_init 1 none :: zWL) 1 6 72 d 6 [.int 0, .null, .null, .null, .null, .null, .null] [6, 33, 34, 35, 36, 37, 38] := by
  refine zNew.of (own := RX6) (by decide +kernel) rfl rfl rfl (by decide) ?_
  intro a0 p e s m args below meth c A Q X hin ret
  have hk0 := zK.nil
  refine zg_aload_n X 0 rfl dX6_init_0 ?_
  refine zc_obj X mo_X6_3 mo_inst mo_code dX6_init_1 ⟨by decide, Nat.le_of_ble_eq_true rfl⟩ ?_
  refine zg_aload_n X 0 rfl dX6_init_4 ?_
  refine zg_iconst X 0 dX6_init_5 (by decide) (fun v1 _ hv1 => ?_)
  refine zc_put (j := 0) (ty := .int) (fs2 := [.int v1, .null, .null, .null, .null, .null, .null]) X hin rfl (by decide) zl_in6 tyX6_ok nmX6 (zkl_X6_9) rfl (by decide +kernel) rfl rfl (Nat.le_of_ble_eq_true rfl) rfl dX6_init_6 ?_
  refine zg_aload_n X 0 rfl dX6_init_9 ?_
  refine zg_bipush X 12 dX6_init_10 (by decide) (fun v2 _ hv2 => ?_)
  refine zc_newi X 33 13 1 hk0 wa_int rfl rfl (Or.inr (Or.inl rfl)) rfl rfl (by rw [hv2]; rfl) (by decide) (fun j => ⟨show (-2147483648 : Int) ≤ 0 by decide, show (0 : Int) ≤ 2147483647 by decide⟩) (fun _ => rfl) (by decide) (by decide) (by decide) ⟨by decide, by decide⟩ dX6_init_12 (fun q1 L1 kd1 s1 e1 t1 r1 hk1 => ?_)
  have X : zX d L1 kd1 A 1 p s m args c cX6_init RX6 := X
  refine zc_put (j := 1) (ty := .array .int) (fs2 := [.int v1, .ref q1, .null, .null, .null, .null, .null]) X hin rfl (by decide) zl_in6 tyX6_ok nmX6 (zkl_X6_15) rfl (by decide +kernel) rfl rfl (Nat.le_of_ble_eq_true rfl) rfl dX6_init_14 ?_
  refine zg_aload_n X 0 rfl dX6_init_17 ?_
  refine zg_bipush X 12 dX6_init_18 (by decide) (fun v3 _ hv3 => ?_)
  refine zc_newi X 34 13 1 hk1 wa_int rfl rfl (Or.inr (Or.inl rfl)) rfl rfl (by rw [hv3]; rfl) (by decide) (fun j => ⟨show (0 : Int) ≤ 0 by decide, show (0 : Int) ≤ 11 by decide⟩) (fun _ => rfl) (by decide) (by decide) (by decide) ⟨by decide, by decide⟩ dX6_init_20 (fun q2 L2 kd2 s2 e2 t2 r2 hk2 => ?_)
  have X : zX d L2 kd2 A 1 p s m args c cX6_init RX6 := X
  have Rq1_2 : zrt L2 s2 q1 := e2.rr t1 r1.1
  refine zc_put (j := 2) (ty := .array .int) (fs2 := [.int v1, .ref q1, .ref q2, .null, .null, .null, .null]) X hin rfl (by decide) zl_in6 tyX6_ok nmX6 (zkl_X6_19) rfl (by decide +kernel) rfl rfl (Nat.le_of_ble_eq_true rfl) rfl dX6_init_22 ?_
  refine zg_aload_n X 0 rfl dX6_init_25 ?_
  refine zg_bipush X 12 dX6_init_26 (by decide) (fun v4 _ hv4 => ?_)
  refine zc_newi X 35 13 1 hk2 wa_int rfl rfl (Or.inr (Or.inl rfl)) rfl rfl (by rw [hv4]; rfl) (by decide) (fun j => ⟨show (-2147483648 : Int) ≤ 0 by decide, show (0 : Int) ≤ 2147483647 by decide⟩) (fun _ => rfl) (by decide) (by decide) (by decide) ⟨by decide, by decide⟩ dX6_init_28 (fun q3 L3 kd3 s3 e3 t3 r3 hk3 => ?_)
  have X : zX d L3 kd3 A 1 p s m args c cX6_init RX6 := X
  have Rq1_3 : zrt L3 s3 q1 := e3.rr (e2.t t1) Rq1_2
  have Rq2_3 : zrt L3 s3 q2 := e3.rr t2 r2.1
  refine zc_put (j := 3) (ty := .array .int) (fs2 := [.int v1, .ref q1, .ref q2, .ref q3, .null, .null, .null]) X hin rfl (by decide) zl_in6 tyX6_ok nmX6 (zkl_X6_22) rfl (by decide +kernel) rfl rfl (Nat.le_of_ble_eq_true rfl) rfl dX6_init_30 ?_
  refine zg_aload_n X 0 rfl dX6_init_33 ?_
  refine zg_bipush X 12 dX6_init_34 (by decide) (fun v5 _ hv5 => ?_)
  refine zc_newi X 36 13 1 hk3 wa_int rfl rfl (Or.inr (Or.inl rfl)) rfl rfl (by rw [hv5]; rfl) (by decide) (fun j => ⟨show (-2147483648 : Int) ≤ 0 by decide, show (0 : Int) ≤ 2147483647 by decide⟩) (fun _ => rfl) (by decide) (by decide) (by decide) ⟨by decide, by decide⟩ dX6_init_36 (fun q4 L4 kd4 s4 e4 t4 r4 hk4 => ?_)
  have X : zX d L4 kd4 A 1 p s m args c cX6_init RX6 := X
  have Rq1_4 : zrt L4 s4 q1 := e4.rr (e3.t (e2.t t1)) Rq1_3
  have Rq2_4 : zrt L4 s4 q2 := e4.rr (e3.t t2) Rq2_3
  have Rq3_4 : zrt L4 s4 q3 := e4.rr t3 r3.1
  refine zc_put (j := 4) (ty := .array .int) (fs2 := [.int v1, .ref q1, .ref q2, .ref q3, .ref q4, .null, .null]) X hin rfl (by decide) zl_in6 tyX6_ok nmX6 (zkl_X6_25) rfl (by decide +kernel) rfl rfl (Nat.le_of_ble_eq_true rfl) rfl dX6_init_38 ?_
  refine zg_aload_n X 0 rfl dX6_init_41 ?_
  refine zg_bipush X 12 dX6_init_42 (by decide) (fun v6 _ hv6 => ?_)
  refine zc_newi X 37 13 1 hk4 wa_int rfl rfl (Or.inr (Or.inl rfl)) rfl rfl (by rw [hv6]; rfl) (by decide) (fun j => ⟨show (-2147483648 : Int) ≤ 0 by decide, show (0 : Int) ≤ 2147483647 by decide⟩) (fun _ => rfl) (by decide) (by decide) (by decide) ⟨by decide, by decide⟩ dX6_init_44 (fun q5 L5 kd5 s5 e5 t5 r5 hk5 => ?_)
  have X : zX d L5 kd5 A 1 p s m args c cX6_init RX6 := X
  have Rq1_5 : zrt L5 s5 q1 := e5.rr (e4.t (e3.t (e2.t t1))) Rq1_4
  have Rq2_5 : zrt L5 s5 q2 := e5.rr (e4.t (e3.t t2)) Rq2_4
  have Rq3_5 : zrt L5 s5 q3 := e5.rr (e4.t t3) Rq3_4
  have Rq4_5 : zrt L5 s5 q4 := e5.rr t4 r4.1
  refine zc_put (j := 5) (ty := .array .int) (fs2 := [.int v1, .ref q1, .ref q2, .ref q3, .ref q4, .ref q5, .null]) X hin rfl (by decide) zl_in6 tyX6_ok nmX6 (zkl_X6_28) rfl (by decide +kernel) rfl rfl (Nat.le_of_ble_eq_true rfl) rfl dX6_init_46 ?_
  refine zg_aload_n X 0 rfl dX6_init_49 ?_
  refine zg_bipush X 12 dX6_init_50 (by decide) (fun v7 _ hv7 => ?_)
  refine zc_newi X 38 13 1 hk5 wa_int rfl rfl (Or.inr (Or.inl rfl)) rfl rfl (by rw [hv7]; rfl) (by decide) (fun j => ⟨show (-2147483648 : Int) ≤ 0 by decide, show (0 : Int) ≤ 2147483647 by decide⟩) (fun _ => rfl) (by decide) (by decide) (by decide) ⟨by decide, by decide⟩ dX6_init_52 (fun q6 L6 kd6 s6 e6 t6 r6 hk6 => ?_)
  have X : zX d L6 kd6 A 1 p s m args c cX6_init RX6 := X
  have Rq1_6 : zrt L6 s6 q1 := e6.rr (e5.t (e4.t (e3.t (e2.t t1)))) Rq1_5
  have Rq2_6 : zrt L6 s6 q2 := e6.rr (e5.t (e4.t (e3.t t2))) Rq2_5
  have Rq3_6 : zrt L6 s6 q3 := e6.rr (e5.t (e4.t t3)) Rq3_5
  have Rq4_6 : zrt L6 s6 q4 := e6.rr (e5.t t4) Rq4_5
  have Rq5_6 : zrt L6 s6 q5 := e6.rr t5 r5.1
  refine zc_put (j := 6) (ty := .array .int) (fs2 := [.int v1, .ref q1, .ref q2, .ref q3, .ref q4, .ref q5, .ref q6]) X hin rfl (by decide) zl_in6 tyX6_ok nmX6 (zkl_X6_31) rfl (by decide +kernel) rfl rfl (Nat.le_of_ble_eq_true rfl) rfl dX6_init_54 ?_
  have hf7 : ∀ j k2, zf 0 6 j = some k2 → ∃ y, (fun j => ([none, some q1, some q2, some q3, some q4, some q5, some q6] : List (Option Nat)).getD j none) j = some y ∧ zT L6 kd6 y k2 := by
    intro j k2 h
    have h := zf_list (by decide) h
    rw [show (zfl.filter (fun q => q.1 == 6 && q.2.2.2 == 0)).map (fun q => (q.2.1, q.2.2.1)) = ([(1, 33), (2, 34), (3, 35), (4, 36), (5, 37), (6, 38)] : List (Nat × Nat)) from by decide +kernel] at h
    simp only [List.mem_cons, Prod.mk.injEq, List.not_mem_nil, or_false] at h
    rcases h with ⟨rfl, rfl⟩ | ⟨rfl, rfl⟩ | ⟨rfl, rfl⟩ | ⟨rfl, rfl⟩ | ⟨rfl, rfl⟩ | ⟨rfl, rfl⟩
    · exact ⟨_, rfl, (e6.t (e5.t (e4.t (e3.t (e2.t t1)))))⟩
    · exact ⟨_, rfl, (e6.t (e5.t (e4.t (e3.t t2))))⟩
    · exact ⟨_, rfl, (e6.t (e5.t (e4.t t3)))⟩
    · exact ⟨_, rfl, (e6.t (e5.t t4))⟩
    · exact ⟨_, rfl, (e6.t t5)⟩
    · exact ⟨_, rfl, t6⟩
  have hq7 : ∀ j y, (fun j => ([none, some q1, some q2, some q3, some q4, some q5, some q6] : List (Option Nat)).getD j none) j = some y → (j < 7 ∧ zf 0 6 j ≠ none) ∧ y ∈ L6 ∧ ((kd6 : Nat → Nat) y ≠ 6 → zrt L6 s6 y) := by
    intro j y e
    have hj : j < 7 := zgN 7 e
    rcases (show j = 0 ∨ j = 1 ∨ j = 2 ∨ j = 3 ∨ j = 4 ∨ j = 5 ∨ j = 6 by omega) with rfl | rfl | rfl | rfl | rfl | rfl | rfl
    · cases (show (none : Option Nat) = some y from e)
    · cases (show some q1 = some y from e); exact ⟨⟨by decide, by decide⟩, (e6.t (e5.t (e4.t (e3.t (e2.t t1))))).1, fun _ => Rq1_6⟩
    · cases (show some q2 = some y from e); exact ⟨⟨by decide, by decide⟩, (e6.t (e5.t (e4.t (e3.t t2)))).1, fun _ => Rq2_6⟩
    · cases (show some q3 = some y from e); exact ⟨⟨by decide, by decide⟩, (e6.t (e5.t (e4.t t3))).1, fun _ => Rq3_6⟩
    · cases (show some q4 = some y from e); exact ⟨⟨by decide, by decide⟩, (e6.t (e5.t t4)).1, fun _ => Rq4_6⟩
    · cases (show some q5 = some y from e); exact ⟨⟨by decide, by decide⟩, (e6.t t5).1, fun _ => Rq5_6⟩
    · cases (show some q6 = some y from e); exact ⟨⟨by decide, by decide⟩, t6.1, fun _ => r6.1⟩
  have hi7 : ∀ j j' y, (fun j => ([none, some q1, some q2, some q3, some q4, some q5, some q6] : List (Option Nat)).getD j none) j = some y → (fun j => ([none, some q1, some q2, some q3, some q4, some q5, some q6] : List (Option Nat)).getD j none) j' = some y → j = j' := by
    intro j j' y e e'
    rcases zinjk (N := 7) (Xr := fun j j' => False) hf7 (fun j y e => (hq7 j y e).1) (by decide +kernel) e e' with z | z
    · exact z
    · exact absurd z id
  refine zc_typed (b2 := (List.contains ([6, 33, 34, 35, 36, 37, 38] : List Nat) 8)) (k := 6) (fun j => ([v1, 0, 0, 0, 0, 0, 0] : List Int32).getD j 0) (fun j => ([0, 0, 0, 0, 0, 0, 0] : List Int64).getD j 0) (fun j => ([none, some q1, some q2, some q3, some q4, some q5, some q6] : List (Option Nat)).getD j none) hk6 rfl (by decide) rfl ?_ hf7 (by decide) (by decide) (by decide) (by decide) ⟨fun e => absurd e (by decide), fun e => absurd e (by decide), fun e => absurd e (by decide), fun e => absurd e (by decide), fun e => absurd e (by decide), fun e => absurd e (by decide)⟩ (fun j y e => (hq7 j y e).2) (fun j j' y e e' _ _ _ => hi7 j j' y e e') (fun L7 kd7 s7 e7 ta7 rt7 hk7 => ?_)
  · intro j
    rcases zr_list (k := 6) (by decide) j with h | h
    · rw [h]; exact zb_rng _
    · rw [show ((zrl 0).filter (fun q => q.1 == 6)).map (fun q => (q.2.1, q.2.2)) = ([(0, 0, 12)] : List (Nat × Int × Int)) from by decide +kernel] at h
      simp only [List.mem_cons, Prod.mk.injEq, List.not_mem_nil, or_false] at h
      rcases h with ⟨rfl, h⟩
      · rw [h]; show _ ≤ Int32.toInt v1 ∧ Int32.toInt v1 ≤ _; first | exact ⟨by decide, by decide⟩ | exact ⟨by show (0 : Int) ≤ _; omega, by show _ ≤ (12 : Int); omega⟩
  have X : zX d L7 kd7 A 1 p s m args c cX6_init RX6 := X
  exact ret _ _ _ _ _ dX6_init_57 ta7 rt7 hk7
set_option maxHeartbeats 4000000 in
set_option maxRecDepth 100000 in
theorem n_X5 (l : Launch) (d : zD2) : zNew l yX5_init (Cond.code yX5_init cX5_init 1 none :: zWL) 2 13 158 d 5 [.null, .null, .null, .null, .null, .null, .null] [5, 6, 33, 34, 35, 36, 37, 38, 0, 20, 21, 30, 31, 32] := by
  refine zNew.of (own := RX5) (by decide +kernel) rfl rfl rfl (by decide) ?_
  intro a0 p e s m args below meth c A Q X hin ret
  have hk0 := zK.nil
  refine zg_aload_n X 0 rfl dX5_init_0 ?_
  refine zc_obj X mo_X5_3 mo_inst mo_code dX5_init_1 ⟨by decide, Nat.le_of_ble_eq_true rfl⟩ ?_
  refine zg_aload_n X 0 rfl dX5_init_4 ?_
  refine zc_newC (T := TX6) (fs0 := [.int 0, .null, .null, .null, .null, .null, .null]) X hk0 (n_X6 l d) (by decide) (by decide) rfl zl_in6 tyX6_ok wc_X5_9 wi_X6 mz_X6 (fun j hj => by rcases (show j = 0 ∨ j = 1 ∨ j = 2 ∨ j = 3 ∨ j = 4 ∨ j = 5 ∨ j = 6 by omega) with rfl | rfl | rfl | rfl | rfl | rfl | rfl <;> rfl) mn_X5_11 mc_X6_init mz_X6 mi_X6_init rfl ⟨md_X6.1, md_X6.2, by decide +kernel⟩ dX5_init_5 dX5_init_8 dX5_init_9 ⟨⟨by decide, by decide⟩, by decide, by decide⟩ (Nat.le_of_ble_eq_true rfl) (fun q1 L1 kd1 s1 e1 t1 r1 hk1 => ?_)
  have X : zX d L1 kd1 A 1 p s m args c cX5_init RX5 := X
  refine zc_put (j := 0) (ty := .object RX6) (fs2 := [.ref q1, .null, .null, .null, .null, .null, .null]) X hin rfl (by decide) zl_in5 tyX5_ok nmX5 (zkl_X5_12) rfl (by decide +kernel) rfl rfl (Nat.le_of_ble_eq_true rfl) rfl dX5_init_12 ?_
  refine zg_aload_n X 0 rfl dX5_init_15 ?_
  refine zc_newC (T := TX0) (fs0 := [.null, .null]) X hk1 (n_X0 l d) (by decide) (by decide) rfl zl_in0 tyX0_ok wc_X5_18 wi_X0 mz_X0 (fun j hj => by rcases (show j = 0 ∨ j = 1 by omega) with rfl | rfl <;> rfl) mn_X5_20 mc_X0_init mz_X0 mi_X0_init rfl ⟨md_X0.1, md_X0.2, by decide +kernel⟩ dX5_init_16 dX5_init_19 dX5_init_20 ⟨⟨by decide, by decide⟩, by decide, by decide⟩ (Nat.le_of_ble_eq_true rfl) (fun q2 L2 kd2 s2 e2 t2 r2 hk2 => ?_)
  have X : zX d L2 kd2 A 1 p s m args c cX5_init RX5 := X
  have Rq1_2 : zrt L2 s2 q1 := e2.rr t1 r1.1
  refine zc_put (j := 1) (ty := .object RX0) (fs2 := [.ref q1, .ref q2, .null, .null, .null, .null, .null]) X hin rfl (by decide) zl_in5 tyX5_ok nmX5 (zkl_X5_21) rfl (by decide +kernel) rfl rfl (Nat.le_of_ble_eq_true rfl) rfl dX5_init_23 ?_
  refine zg_aload_n X 0 rfl dX5_init_26 ?_
  refine zg_bipush X 12 dX5_init_27 (by decide) (fun v1 _ hv1 => ?_)
  refine zc_newi X 30 13 1 hk2 wa_int rfl rfl (Or.inr (Or.inl rfl)) rfl rfl (by rw [hv1]; rfl) (by decide) (fun j => ⟨show (-2147483648 : Int) ≤ 0 by decide, show (0 : Int) ≤ 2147483647 by decide⟩) (fun _ => rfl) (by decide) (by decide) (by decide) ⟨by decide, by decide⟩ dX5_init_29 (fun q3 L3 kd3 s3 e3 t3 r3 hk3 => ?_)
  have X : zX d L3 kd3 A 1 p s m args c cX5_init RX5 := X
  have Rq1_3 : zrt L3 s3 q1 := e3.rr (e2.t t1) Rq1_2
  have Rq2_3 : zrt L3 s3 q2 := e3.rr t2 r2.1
  refine zc_put (j := 2) (ty := .array .int) (fs2 := [.ref q1, .ref q2, .ref q3, .null, .null, .null, .null]) X hin rfl (by decide) zl_in5 tyX5_ok nmX5 (zkl_X5_25) rfl (by decide +kernel) rfl rfl (Nat.le_of_ble_eq_true rfl) rfl dX5_init_31 ?_
  refine zg_aload_n X 0 rfl dX5_init_34 ?_
  refine zg_bipush X 12 dX5_init_35 (by decide) (fun v2 _ hv2 => ?_)
  refine zc_newi X 31 13 1 hk3 wa_int rfl rfl (Or.inr (Or.inl rfl)) rfl rfl (by rw [hv2]; rfl) (by decide) (fun j => ⟨show (-2147483648 : Int) ≤ 0 by decide, show (0 : Int) ≤ 2147483647 by decide⟩) (fun _ => rfl) (by decide) (by decide) (by decide) ⟨by decide, by decide⟩ dX5_init_37 (fun q4 L4 kd4 s4 e4 t4 r4 hk4 => ?_)
  have X : zX d L4 kd4 A 1 p s m args c cX5_init RX5 := X
  have Rq1_4 : zrt L4 s4 q1 := e4.rr (e3.t (e2.t t1)) Rq1_3
  have Rq2_4 : zrt L4 s4 q2 := e4.rr (e3.t t2) Rq2_3
  have Rq3_4 : zrt L4 s4 q3 := e4.rr t3 r3.1
  refine zc_put (j := 3) (ty := .array .int) (fs2 := [.ref q1, .ref q2, .ref q3, .ref q4, .null, .null, .null]) X hin rfl (by decide) zl_in5 tyX5_ok nmX5 (zkl_X5_29) rfl (by decide +kernel) rfl rfl (Nat.le_of_ble_eq_true rfl) rfl dX5_init_39 ?_
  refine zg_aload_n X 0 rfl dX5_init_42 ?_
  refine zg_bipush X 12 dX5_init_43 (by decide) (fun v3 _ hv3 => ?_)
  refine zc_newi X 32 13 1 hk4 wa_int rfl rfl (Or.inr (Or.inl rfl)) rfl rfl (by rw [hv3]; rfl) (by decide) (fun j => ⟨show (-2147483648 : Int) ≤ 0 by decide, show (0 : Int) ≤ 2147483647 by decide⟩) (fun _ => rfl) (by decide) (by decide) (by decide) ⟨by decide, by decide⟩ dX5_init_45 (fun q5 L5 kd5 s5 e5 t5 r5 hk5 => ?_)
  have X : zX d L5 kd5 A 1 p s m args c cX5_init RX5 := X
  have Rq1_5 : zrt L5 s5 q1 := e5.rr (e4.t (e3.t (e2.t t1))) Rq1_4
  have Rq2_5 : zrt L5 s5 q2 := e5.rr (e4.t (e3.t t2)) Rq2_4
  have Rq3_5 : zrt L5 s5 q3 := e5.rr (e4.t t3) Rq3_4
  have Rq4_5 : zrt L5 s5 q4 := e5.rr t4 r4.1
  refine zc_put (j := 4) (ty := .array .int) (fs2 := [.ref q1, .ref q2, .ref q3, .ref q4, .ref q5, .null, .null]) X hin rfl (by decide) zl_in5 tyX5_ok nmX5 (zkl_X5_32) rfl (by decide +kernel) rfl rfl (Nat.le_of_ble_eq_true rfl) rfl dX5_init_47 ?_
  refine zg_aload_n X 0 rfl dX5_init_50 ?_
  refine zg_null X dX5_init_51 ?_
  refine zc_put (j := 5) (ty := .object RX9) (fs2 := [.ref q1, .ref q2, .ref q3, .ref q4, .ref q5, .null, .null]) X hin rfl (by decide) zl_in5 tyX5_ok nmX5 (zkl_X5_35) rfl (by decide +kernel) rfl rfl (Nat.le_of_ble_eq_true rfl) rfl dX5_init_52 ?_
  refine zg_aload_n X 0 rfl dX5_init_55 ?_
  refine zg_null X dX5_init_56 ?_
  refine zc_put (j := 6) (ty := .object RX1) (fs2 := [.ref q1, .ref q2, .ref q3, .ref q4, .ref q5, .null, .null]) X hin rfl (by decide) zl_in5 tyX5_ok nmX5 (zkl_X5_39) rfl (by decide +kernel) rfl rfl (Nat.le_of_ble_eq_true rfl) rfl dX5_init_57 ?_
  have hf6 : ∀ j k2, zf 0 5 j = some k2 → ∃ y, (fun j => ([some q1, some q2, some q3, some q4, some q5, none, none] : List (Option Nat)).getD j none) j = some y ∧ zT L5 kd5 y k2 := by
    intro j k2 h
    have h := zf_list (by decide) h
    rw [show (zfl.filter (fun q => q.1 == 5 && q.2.2.2 == 0)).map (fun q => (q.2.1, q.2.2.1)) = ([(0, 6), (1, 0), (2, 30), (3, 31), (4, 32)] : List (Nat × Nat)) from by decide +kernel] at h
    simp only [List.mem_cons, Prod.mk.injEq, List.not_mem_nil, or_false] at h
    rcases h with ⟨rfl, rfl⟩ | ⟨rfl, rfl⟩ | ⟨rfl, rfl⟩ | ⟨rfl, rfl⟩ | ⟨rfl, rfl⟩
    · exact ⟨_, rfl, (e5.t (e4.t (e3.t (e2.t t1))))⟩
    · exact ⟨_, rfl, (e5.t (e4.t (e3.t t2)))⟩
    · exact ⟨_, rfl, (e5.t (e4.t t3))⟩
    · exact ⟨_, rfl, (e5.t t4)⟩
    · exact ⟨_, rfl, t5⟩
  have hq6 : ∀ j y, (fun j => ([some q1, some q2, some q3, some q4, some q5, none, none] : List (Option Nat)).getD j none) j = some y → (j < 7 ∧ zf 0 5 j ≠ none) ∧ y ∈ L5 ∧ ((kd5 : Nat → Nat) y ≠ 6 → zrt L5 s5 y) := by
    intro j y e
    have hj : j < 7 := zgN 7 e
    rcases (show j = 0 ∨ j = 1 ∨ j = 2 ∨ j = 3 ∨ j = 4 ∨ j = 5 ∨ j = 6 by omega) with rfl | rfl | rfl | rfl | rfl | rfl | rfl
    · cases (show some q1 = some y from e); exact ⟨⟨by decide, by decide⟩, (e5.t (e4.t (e3.t (e2.t t1)))).1, fun _ => Rq1_5⟩
    · cases (show some q2 = some y from e); exact ⟨⟨by decide, by decide⟩, (e5.t (e4.t (e3.t t2))).1, fun _ => Rq2_5⟩
    · cases (show some q3 = some y from e); exact ⟨⟨by decide, by decide⟩, (e5.t (e4.t t3)).1, fun _ => Rq3_5⟩
    · cases (show some q4 = some y from e); exact ⟨⟨by decide, by decide⟩, (e5.t t4).1, fun _ => Rq4_5⟩
    · cases (show some q5 = some y from e); exact ⟨⟨by decide, by decide⟩, t5.1, fun _ => r5.1⟩
    · cases (show (none : Option Nat) = some y from e)
    · cases (show (none : Option Nat) = some y from e)
  have hi6 : ∀ j j' y, (fun j => ([some q1, some q2, some q3, some q4, some q5, none, none] : List (Option Nat)).getD j none) j = some y → (fun j => ([some q1, some q2, some q3, some q4, some q5, none, none] : List (Option Nat)).getD j none) j' = some y → j = j' := by
    intro j j' y e e'
    rcases zinjk (N := 7) (Xr := fun j j' => False) hf6 (fun j y e => (hq6 j y e).1) (by decide +kernel) e e' with z | z
    · exact z
    · exact absurd z id
  refine zc_typed (b2 := (List.contains ([5, 6, 33, 34, 35, 36, 37, 38, 0, 20, 21, 30, 31, 32] : List Nat) 8)) (k := 5) (fun j => ([0, 0, 0, 0, 0, 0, 0] : List Int32).getD j 0) (fun j => ([0, 0, 0, 0, 0, 0, 0] : List Int64).getD j 0) (fun j => ([some q1, some q2, some q3, some q4, some q5, none, none] : List (Option Nat)).getD j none) hk5 rfl (by decide) rfl ?_ hf6 (by decide) (by decide) (by decide) (by decide) ⟨fun e => absurd e (by decide), fun e => absurd e (by decide), fun e => absurd e (by decide), fun e => absurd e (by decide), fun e => absurd e (by decide), fun e => absurd e (by decide)⟩ (fun j y e => (hq6 j y e).2) (fun j j' y e e' _ _ _ => hi6 j j' y e e') (fun L6 kd6 s6 e6 ta6 rt6 hk6 => ?_)
  · intro j
    rcases zr_list (k := 5) (by decide) j with h | h
    · rw [h]; exact zb_rng _
    · rw [show ((zrl 0).filter (fun q => q.1 == 5)).map (fun q => (q.2.1, q.2.2)) = ([] : List (Nat × Int × Int)) from by decide +kernel] at h
      exact absurd h List.not_mem_nil
  have X : zX d L6 kd6 A 1 p s m args c cX5_init RX5 := X
  exact ret _ _ _ _ _ dX5_init_60 ta6 rt6 hk6
set_option maxHeartbeats 4000000 in
set_option maxRecDepth 100000 in
theorem n_X9 (l : Launch) (d : zD2) : zNew l yX9_init (Cond.code yX9_init cX9_init 1 none :: zWL) 2 8 905 d 9 [.int 0, .null, .null, .null, .null, .null, .null, .null, .int 0, .null, .int 0, .int 0, .int 0, .int 0] [9, 44, 45, 46, 47, 48, 49, 50, 51] := by
  refine zNew.of (own := RX9) (by decide +kernel) rfl rfl rfl (by decide) ?_
  intro a0 p e s m args below meth c A Q X hin ret
  have hk0 := zK.nil
  refine zg_aload_n X 0 rfl dX9_init_0 ?_
  refine zc_obj X mo_X9_3 mo_inst mo_code dX9_init_1 ⟨by decide, Nat.le_of_ble_eq_true rfl⟩ ?_
  refine zg_aload_n X 0 rfl dX9_init_4 ?_
  refine zg_bipush X 12 dX9_init_5 (by decide) (fun v1 _ hv1 => ?_)
  refine zc_newl X 44 hk0 wa_long rfl rfl (by rw [hv1]; rfl) (by decide) (fun j => ⟨show (-2147483648 : Int) ≤ 0 by decide, show (0 : Int) ≤ 2147483647 by decide⟩) (fun _ => rfl) (by decide) (by decide) (by decide) ⟨by decide, by decide⟩ dX9_init_7 (fun q1 L1 kd1 s1 e1 t1 r1 z1 hk1 => ?_)
  have X : zX d L1 kd1 A 1 p s m args c cX9_init RX9 := X
  refine zc_put (j := 1) (ty := .array .long) (fs2 := [.int 0, .ref q1, .null, .null, .null, .null, .null, .null, .int 0, .null, .int 0, .int 0, .int 0, .int 0]) X hin rfl (by decide) zl_in9 tyX9_ok nmX9 (zkl_X9_9) rfl (by decide +kernel) rfl rfl (Nat.le_of_ble_eq_true rfl) rfl dX9_init_9 ?_
  refine zg_aload_n X 0 rfl dX9_init_12 ?_
  refine zg_bipush X 12 dX9_init_13 (by decide) (fun v2 _ hv2 => ?_)
  refine zc_newi X 45 13 1 hk1 wa_int rfl rfl (Or.inr (Or.inl rfl)) rfl rfl (by rw [hv2]; rfl) (by decide) (fun j => ⟨show (0 : Int) ≤ 0 by decide, show (0 : Int) ≤ 11 by decide⟩) (fun _ => rfl) (by decide) (by decide) (by decide) ⟨by decide, by decide⟩ dX9_init_15 (fun q2 L2 kd2 s2 e2 t2 r2 hk2 => ?_)
  have X : zX d L2 kd2 A 1 p s m args c cX9_init RX9 := X
  have Rq1_2 : zrt L2 s2 q1 := e2.rr t1 r1.1
  refine zc_put (j := 2) (ty := .array .int) (fs2 := [.int 0, .ref q1, .ref q2, .null, .null, .null, .null, .null, .int 0, .null, .int 0, .int 0, .int 0, .int 0]) X hin rfl (by decide) zl_in9 tyX9_ok nmX9 (zkl_X9_15) rfl (by decide +kernel) rfl rfl (Nat.le_of_ble_eq_true rfl) rfl dX9_init_17 ?_
  refine zg_aload_n X 0 rfl dX9_init_20 ?_
  refine zg_bipush X 12 dX9_init_21 (by decide) (fun v3 _ hv3 => ?_)
  refine zc_newi X 46 13 1 hk2 wa_int rfl rfl (Or.inr (Or.inl rfl)) rfl rfl (by rw [hv3]; rfl) (by decide) (fun j => ⟨show (-2147483648 : Int) ≤ 0 by decide, show (0 : Int) ≤ 2147483647 by decide⟩) (fun _ => rfl) (by decide) (by decide) (by decide) ⟨by decide, by decide⟩ dX9_init_23 (fun q3 L3 kd3 s3 e3 t3 r3 hk3 => ?_)
  have X : zX d L3 kd3 A 1 p s m args c cX9_init RX9 := X
  have Rq1_3 : zrt L3 s3 q1 := e3.rr (e2.t t1) Rq1_2
  have Rq2_3 : zrt L3 s3 q2 := e3.rr t2 r2.1
  refine zc_put (j := 3) (ty := .array .int) (fs2 := [.int 0, .ref q1, .ref q2, .ref q3, .null, .null, .null, .null, .int 0, .null, .int 0, .int 0, .int 0, .int 0]) X hin rfl (by decide) zl_in9 tyX9_ok nmX9 (zkl_X9_19) rfl (by decide +kernel) rfl rfl (Nat.le_of_ble_eq_true rfl) rfl dX9_init_25 ?_
  refine zg_aload_n X 0 rfl dX9_init_28 ?_
  refine zg_bipush X 12 dX9_init_29 (by decide) (fun v4 _ hv4 => ?_)
  refine zc_newi X 47 13 1 hk3 wa_int rfl rfl (Or.inr (Or.inl rfl)) rfl rfl (by rw [hv4]; rfl) (by decide) (fun j => ⟨show (-2147483648 : Int) ≤ 0 by decide, show (0 : Int) ≤ 2147483647 by decide⟩) (fun _ => rfl) (by decide) (by decide) (by decide) ⟨by decide, by decide⟩ dX9_init_31 (fun q4 L4 kd4 s4 e4 t4 r4 hk4 => ?_)
  have X : zX d L4 kd4 A 1 p s m args c cX9_init RX9 := X
  have Rq1_4 : zrt L4 s4 q1 := e4.rr (e3.t (e2.t t1)) Rq1_3
  have Rq2_4 : zrt L4 s4 q2 := e4.rr (e3.t t2) Rq2_3
  have Rq3_4 : zrt L4 s4 q3 := e4.rr t3 r3.1
  refine zc_put (j := 4) (ty := .array .int) (fs2 := [.int 0, .ref q1, .ref q2, .ref q3, .ref q4, .null, .null, .null, .int 0, .null, .int 0, .int 0, .int 0, .int 0]) X hin rfl (by decide) zl_in9 tyX9_ok nmX9 (zkl_X9_22) rfl (by decide +kernel) rfl rfl (Nat.le_of_ble_eq_true rfl) rfl dX9_init_33 ?_
  refine zg_aload_n X 0 rfl dX9_init_36 ?_
  refine zg_bipush X 12 dX9_init_37 (by decide) (fun v5 _ hv5 => ?_)
  refine zc_newi X 48 13 1 hk4 wa_int rfl rfl (Or.inr (Or.inl rfl)) rfl rfl (by rw [hv5]; rfl) (by decide) (fun j => ⟨show (-2147483648 : Int) ≤ 0 by decide, show (0 : Int) ≤ 2147483647 by decide⟩) (fun _ => rfl) (by decide) (by decide) (by decide) ⟨by decide, by decide⟩ dX9_init_39 (fun q5 L5 kd5 s5 e5 t5 r5 hk5 => ?_)
  have X : zX d L5 kd5 A 1 p s m args c cX9_init RX9 := X
  have Rq1_5 : zrt L5 s5 q1 := e5.rr (e4.t (e3.t (e2.t t1))) Rq1_4
  have Rq2_5 : zrt L5 s5 q2 := e5.rr (e4.t (e3.t t2)) Rq2_4
  have Rq3_5 : zrt L5 s5 q3 := e5.rr (e4.t t3) Rq3_4
  have Rq4_5 : zrt L5 s5 q4 := e5.rr t4 r4.1
  refine zc_put (j := 5) (ty := .array .int) (fs2 := [.int 0, .ref q1, .ref q2, .ref q3, .ref q4, .ref q5, .null, .null, .int 0, .null, .int 0, .int 0, .int 0, .int 0]) X hin rfl (by decide) zl_in9 tyX9_ok nmX9 (zkl_X9_25) rfl (by decide +kernel) rfl rfl (Nat.le_of_ble_eq_true rfl) rfl dX9_init_41 ?_
  refine zg_aload_n X 0 rfl dX9_init_44 ?_
  refine zg_sipush X 420 dX9_init_45 (by decide) (fun v6 _ hv6 => ?_)
  refine zc_newi X 49 13 1 hk5 wa_int rfl rfl (Or.inr (Or.inl rfl)) rfl rfl (by rw [hv6]; rfl) (by decide) (fun j => ⟨show (-2147483648 : Int) ≤ 0 by decide, show (0 : Int) ≤ 2147483647 by decide⟩) (fun _ => rfl) (by decide) (by decide) (by decide) ⟨by decide, by decide⟩ dX9_init_48 (fun q6 L6 kd6 s6 e6 t6 r6 hk6 => ?_)
  have X : zX d L6 kd6 A 1 p s m args c cX9_init RX9 := X
  have Rq1_6 : zrt L6 s6 q1 := e6.rr (e5.t (e4.t (e3.t (e2.t t1)))) Rq1_5
  have Rq2_6 : zrt L6 s6 q2 := e6.rr (e5.t (e4.t (e3.t t2))) Rq2_5
  have Rq3_6 : zrt L6 s6 q3 := e6.rr (e5.t (e4.t t3)) Rq3_5
  have Rq4_6 : zrt L6 s6 q4 := e6.rr (e5.t t4) Rq4_5
  have Rq5_6 : zrt L6 s6 q5 := e6.rr t5 r5.1
  refine zc_put (j := 6) (ty := .array .int) (fs2 := [.int 0, .ref q1, .ref q2, .ref q3, .ref q4, .ref q5, .ref q6, .null, .int 0, .null, .int 0, .int 0, .int 0, .int 0]) X hin rfl (by decide) zl_in9 tyX9_ok nmX9 (zkl_X9_28) rfl (by decide +kernel) rfl rfl (Nat.le_of_ble_eq_true rfl) rfl dX9_init_50 ?_
  refine zg_aload_n X 0 rfl dX9_init_53 ?_
  refine zg_sipush X 420 dX9_init_54 (by decide) (fun v7 _ hv7 => ?_)
  refine zc_newi X 50 13 1 hk6 wa_int rfl rfl (Or.inr (Or.inl rfl)) rfl rfl (by rw [hv7]; rfl) (by decide) (fun j => ⟨show (-2147483648 : Int) ≤ 0 by decide, show (0 : Int) ≤ 2147483647 by decide⟩) (fun _ => rfl) (by decide) (by decide) (by decide) ⟨by decide, by decide⟩ dX9_init_57 (fun q7 L7 kd7 s7 e7 t7 r7 hk7 => ?_)
  have X : zX d L7 kd7 A 1 p s m args c cX9_init RX9 := X
  have Rq1_7 : zrt L7 s7 q1 := e7.rr (e6.t (e5.t (e4.t (e3.t (e2.t t1))))) Rq1_6
  have Rq2_7 : zrt L7 s7 q2 := e7.rr (e6.t (e5.t (e4.t (e3.t t2)))) Rq2_6
  have Rq3_7 : zrt L7 s7 q3 := e7.rr (e6.t (e5.t (e4.t t3))) Rq3_6
  have Rq4_7 : zrt L7 s7 q4 := e7.rr (e6.t (e5.t t4)) Rq4_6
  have Rq5_7 : zrt L7 s7 q5 := e7.rr (e6.t t5) Rq5_6
  have Rq6_7 : zrt L7 s7 q6 := e7.rr t6 r6.1
  refine zc_put (j := 7) (ty := .array .int) (fs2 := [.int 0, .ref q1, .ref q2, .ref q3, .ref q4, .ref q5, .ref q6, .ref q7, .int 0, .null, .int 0, .int 0, .int 0, .int 0]) X hin rfl (by decide) zl_in9 tyX9_ok nmX9 (zkl_X9_31) rfl (by decide +kernel) rfl rfl (Nat.le_of_ble_eq_true rfl) rfl dX9_init_59 ?_
  refine zg_aload_n X 0 rfl dX9_init_62 ?_
  refine zg_iconst X 5 dX9_init_63 (by decide) (fun v8 _ hv8 => ?_)
  refine zc_newi X 51 13 1 hk7 wa_int rfl rfl (Or.inr (Or.inl rfl)) rfl rfl (by rw [hv8]; rfl) (by decide) (fun j => ⟨show (-2147483648 : Int) ≤ 0 by decide, show (0 : Int) ≤ 2147483647 by decide⟩) (fun _ => rfl) (by decide) (by decide) (by decide) ⟨by decide, by decide⟩ dX9_init_64 (fun q8 L8 kd8 s8 e8 t8 r8 hk8 => ?_)
  have X : zX d L8 kd8 A 1 p s m args c cX9_init RX9 := X
  have Rq1_8 : zrt L8 s8 q1 := e8.rr (e7.t (e6.t (e5.t (e4.t (e3.t (e2.t t1)))))) Rq1_7
  have Rq2_8 : zrt L8 s8 q2 := e8.rr (e7.t (e6.t (e5.t (e4.t (e3.t t2))))) Rq2_7
  have Rq3_8 : zrt L8 s8 q3 := e8.rr (e7.t (e6.t (e5.t (e4.t t3)))) Rq3_7
  have Rq4_8 : zrt L8 s8 q4 := e8.rr (e7.t (e6.t (e5.t t4))) Rq4_7
  have Rq5_8 : zrt L8 s8 q5 := e8.rr (e7.t (e6.t t5)) Rq5_7
  have Rq6_8 : zrt L8 s8 q6 := e8.rr (e7.t t6) Rq6_7
  have Rq7_8 : zrt L8 s8 q7 := e8.rr t7 r7.1
  refine zc_put (j := 9) (ty := .array .int) (fs2 := [.int 0, .ref q1, .ref q2, .ref q3, .ref q4, .ref q5, .ref q6, .ref q7, .int 0, .ref q8, .int 0, .int 0, .int 0, .int 0]) X hin rfl (by decide) zl_in9 tyX9_ok nmX9 (zkl_X9_34) rfl (by decide +kernel) rfl rfl (Nat.le_of_ble_eq_true rfl) rfl dX9_init_66 ?_
  have hf9 : ∀ j k2, zf 0 9 j = some k2 → ∃ y, (fun j => ([none, some q1, some q2, some q3, some q4, some q5, some q6, some q7, none, some q8, none, none, none, none] : List (Option Nat)).getD j none) j = some y ∧ zT L8 kd8 y k2 := by
    intro j k2 h
    have h := zf_list (by decide) h
    rw [show (zfl.filter (fun q => q.1 == 9 && q.2.2.2 == 0)).map (fun q => (q.2.1, q.2.2.1)) = ([(1, 44), (2, 45), (3, 46), (4, 47), (5, 48), (6, 49), (7, 50), (9, 51)] : List (Nat × Nat)) from by decide +kernel] at h
    simp only [List.mem_cons, Prod.mk.injEq, List.not_mem_nil, or_false] at h
    rcases h with ⟨rfl, rfl⟩ | ⟨rfl, rfl⟩ | ⟨rfl, rfl⟩ | ⟨rfl, rfl⟩ | ⟨rfl, rfl⟩ | ⟨rfl, rfl⟩ | ⟨rfl, rfl⟩ | ⟨rfl, rfl⟩
    · exact ⟨_, rfl, (e8.t (e7.t (e6.t (e5.t (e4.t (e3.t (e2.t t1)))))))⟩
    · exact ⟨_, rfl, (e8.t (e7.t (e6.t (e5.t (e4.t (e3.t t2))))))⟩
    · exact ⟨_, rfl, (e8.t (e7.t (e6.t (e5.t (e4.t t3)))))⟩
    · exact ⟨_, rfl, (e8.t (e7.t (e6.t (e5.t t4))))⟩
    · exact ⟨_, rfl, (e8.t (e7.t (e6.t t5)))⟩
    · exact ⟨_, rfl, (e8.t (e7.t t6))⟩
    · exact ⟨_, rfl, (e8.t t7)⟩
    · exact ⟨_, rfl, t8⟩
  have hq9 : ∀ j y, (fun j => ([none, some q1, some q2, some q3, some q4, some q5, some q6, some q7, none, some q8, none, none, none, none] : List (Option Nat)).getD j none) j = some y → (j < 14 ∧ zf 0 9 j ≠ none) ∧ y ∈ L8 ∧ ((kd8 : Nat → Nat) y ≠ 6 → zrt L8 s8 y) := by
    intro j y e
    have hj : j < 14 := zgN 14 e
    rcases (show j = 0 ∨ j = 1 ∨ j = 2 ∨ j = 3 ∨ j = 4 ∨ j = 5 ∨ j = 6 ∨ j = 7 ∨ j = 8 ∨ j = 9 ∨ j = 10 ∨ j = 11 ∨ j = 12 ∨ j = 13 by omega) with rfl | rfl | rfl | rfl | rfl | rfl | rfl | rfl | rfl | rfl | rfl | rfl | rfl | rfl
    · cases (show (none : Option Nat) = some y from e)
    · cases (show some q1 = some y from e); exact ⟨⟨by decide, by decide⟩, (e8.t (e7.t (e6.t (e5.t (e4.t (e3.t (e2.t t1))))))).1, fun _ => Rq1_8⟩
    · cases (show some q2 = some y from e); exact ⟨⟨by decide, by decide⟩, (e8.t (e7.t (e6.t (e5.t (e4.t (e3.t t2)))))).1, fun _ => Rq2_8⟩
    · cases (show some q3 = some y from e); exact ⟨⟨by decide, by decide⟩, (e8.t (e7.t (e6.t (e5.t (e4.t t3))))).1, fun _ => Rq3_8⟩
    · cases (show some q4 = some y from e); exact ⟨⟨by decide, by decide⟩, (e8.t (e7.t (e6.t (e5.t t4)))).1, fun _ => Rq4_8⟩
    · cases (show some q5 = some y from e); exact ⟨⟨by decide, by decide⟩, (e8.t (e7.t (e6.t t5))).1, fun _ => Rq5_8⟩
    · cases (show some q6 = some y from e); exact ⟨⟨by decide, by decide⟩, (e8.t (e7.t t6)).1, fun _ => Rq6_8⟩
    · cases (show some q7 = some y from e); exact ⟨⟨by decide, by decide⟩, (e8.t t7).1, fun _ => Rq7_8⟩
    · cases (show (none : Option Nat) = some y from e)
    · cases (show some q8 = some y from e); exact ⟨⟨by decide, by decide⟩, t8.1, fun _ => r8.1⟩
    · cases (show (none : Option Nat) = some y from e)
    · cases (show (none : Option Nat) = some y from e)
    · cases (show (none : Option Nat) = some y from e)
    · cases (show (none : Option Nat) = some y from e)
  have hi9 : ∀ j j' y, (fun j => ([none, some q1, some q2, some q3, some q4, some q5, some q6, some q7, none, some q8, none, none, none, none] : List (Option Nat)).getD j none) j = some y → (fun j => ([none, some q1, some q2, some q3, some q4, some q5, some q6, some q7, none, some q8, none, none, none, none] : List (Option Nat)).getD j none) j' = some y → j = j' := by
    intro j j' y e e'
    rcases zinjk (N := 14) (Xr := fun j j' => False) hf9 (fun j y e => (hq9 j y e).1) (by decide +kernel) e e' with z | z
    · exact z
    · exact absurd z id
  refine zc_typed (b2 := (List.contains ([9, 44, 45, 46, 47, 48, 49, 50, 51] : List Nat) 8)) (k := 9) (fun j => ([0, 0, 0, 0, 0, 0, 0, 0, 0, 0, 0, 0, 0, 0] : List Int32).getD j 0) (fun j => ([0, 0, 0, 0, 0, 0, 0, 0, 0, 0, 0, 0, 0, 0] : List Int64).getD j 0) (fun j => ([none, some q1, some q2, some q3, some q4, some q5, some q6, some q7, none, some q8, none, none, none, none] : List (Option Nat)).getD j none) hk8 rfl (by decide) rfl ?_ hf9 (by decide) (by decide) (by decide) (by decide) ⟨fun e => absurd e (by decide), fun e => absurd e (by decide), fun e => absurd e (by decide), fun _ => ⟨rfl, rfl⟩, fun e => absurd e (by decide), fun e => absurd e (by decide)⟩ (fun j y e => (hq9 j y e).2) (fun j j' y e e' _ _ _ => hi9 j j' y e e') (fun L9 kd9 s9 e9 ta9 rt9 hk9 => ?_)
  · intro j
    rcases zr_list (k := 9) (by decide) j with h | h
    · rw [h]; exact zb_rng _
    · rw [show ((zrl 0).filter (fun q => q.1 == 9)).map (fun q => (q.2.1, q.2.2)) = ([(0, 0, 12), (8, 0, 420)] : List (Nat × Int × Int)) from by decide +kernel] at h
      simp only [List.mem_cons, Prod.mk.injEq, List.not_mem_nil, or_false] at h
      rcases h with ⟨rfl, h⟩ | ⟨rfl, h⟩
      · rw [h]; show _ ≤ Int32.toInt 0 ∧ Int32.toInt 0 ≤ _; first | exact ⟨by decide, by decide⟩ | exact ⟨by show (0 : Int) ≤ _; omega, by show _ ≤ (12 : Int); omega⟩
      · rw [h]; show _ ≤ Int32.toInt 0 ∧ Int32.toInt 0 ≤ _; first | exact ⟨by decide, by decide⟩ | exact ⟨by show (0 : Int) ≤ _; omega, by show _ ≤ (420 : Int); omega⟩
  have X : zX d L9 kd9 A 1 p s m args c cX9_init RX9 := X
  refine zg_aload_n X 0 rfl dX9_init_69 ?_
  refine zg_cVv (As := []) (st := []) X ta9 rfl (by decide) rfl (t_X9_clear l d L9 kd9 0 0 _ hk9.1 a0 ta9 ) mk_X9_37 mc_X9_clear mz_X9 mi_X9_clear ml_X9_clear (na := 0) ⟨md_X9.1, md_X9.2, by decide +kernel⟩ rfl ⟨by decide, by decide⟩ (Nat.le_of_ble_eq_true rfl) dX9_init_70 (fun s9 hq => ?_)
  obtain ⟨hF, hS2, hI⟩ := hq
  exact ret _ _ _ _ _ dX9_init_73 ta9 (zrt.sm rt9 hS2) (zKb.clr hk9 hI ta9 hF hS2)
set_option maxHeartbeats 4000000 in
set_option maxRecDepth 100000 in
theorem n_X8 (l : Launch) (d : zD2) : zNew l yX8_init (Cond.code yX8_init cX8_init 4 none :: zWL) 4 4 1228 d 8 [.null, .null, .null, .null, .int 0] [8, 40, 41, 42, 43] := by
  refine zNew.of (own := RX8) (by decide +kernel) rfl rfl rfl (by decide) ?_
  intro a0 p e s m args below meth c A Q X hin ret
  have hk0 := zK.nil
  have zl0 : zlen.getD 0 0 = 116 := by decide
  refine zg_aload_n X 0 rfl dX8_init_0 ?_
  refine zc_obj X mo_X8_1 mo_inst mo_code dX8_init_1 ⟨by decide, Nat.le_of_ble_eq_true rfl⟩ ?_
  refine zg_aload_n X 0 rfl dX8_init_4 ?_
  refine zg_bipush X 22 dX8_init_5 (by decide) (fun v1 _ hv1 => ?_)
  refine zc_newl X 40 hk0 wa_long rfl rfl (by rw [hv1]; rfl) (by decide) (fun j => ⟨show (-2147483648 : Int) ≤ 0 by decide, show (0 : Int) ≤ 2147483647 by decide⟩) (fun _ => rfl) (by decide) (by decide) (by decide) ⟨by decide, by decide⟩ dX8_init_7 (fun q1 L1 kd1 s1 e1 t1 r1 z1 hk1 => ?_)
  have X : zX d L1 kd1 A 4 p s m args c cX8_init RX8 := X
  refine zc_put (j := 0) (ty := .array .long) (fs2 := [.ref q1, .null, .null, .null, .int 0]) X hin rfl (by decide) zl_in8 tyX8_ok nmX8 (zkl_X8_9) rfl (by decide +kernel) rfl rfl (Nat.le_of_ble_eq_true rfl) rfl dX8_init_9 ?_
  refine zg_aload_n X 0 rfl dX8_init_12 ?_
  refine zg_sipush X 402 dX8_init_13 (by decide) (fun v2 _ hv2 => ?_)
  refine zc_newi X 41 13 1 hk1 wa_int rfl rfl (Or.inr (Or.inl rfl)) rfl rfl (by rw [hv2]; rfl) (by decide) (fun j => ⟨show (-2147483648 : Int) ≤ 0 by decide, show (0 : Int) ≤ 2147483647 by decide⟩) (fun _ => rfl) (by decide) (by decide) (by decide) ⟨by decide, by decide⟩ dX8_init_16 (fun q2 L2 kd2 s2 e2 t2 r2 hk2 => ?_)
  have X : zX d L2 kd2 A 4 p s m args c cX8_init RX8 := X
  have Rq1_2 : zrt L2 s2 q1 := e2.rr t1 r1.1
  refine zc_put (j := 1) (ty := .array .int) (fs2 := [.ref q1, .ref q2, .null, .null, .int 0]) X hin rfl (by decide) zl_in8 tyX8_ok nmX8 (zkl_X8_13) rfl (by decide +kernel) rfl rfl (Nat.le_of_ble_eq_true rfl) rfl dX8_init_18 ?_
  refine zg_aload_n X 0 rfl dX8_init_21 ?_
  refine zg_sipush X 402 dX8_init_22 (by decide) (fun v3 _ hv3 => ?_)
  refine zc_newl X 42 hk2 wa_long rfl rfl (by rw [hv3]; rfl) (by decide) (fun j => ⟨show (-2147483648 : Int) ≤ 0 by decide, show (0 : Int) ≤ 2147483647 by decide⟩) (fun _ => rfl) (by decide) (by decide) (by decide) ⟨by decide, by decide⟩ dX8_init_25 (fun q3 L3 kd3 s3 e3 t3 r3 z3 hk3 => ?_)
  have X : zX d L3 kd3 A 4 p s m args c cX8_init RX8 := X
  have Rq1_3 : zrt L3 s3 q1 := e3.rr (e2.t t1) Rq1_2
  have Rq2_3 : zrt L3 s3 q2 := e3.rr t2 r2.1
  refine zc_put (j := 2) (ty := .array .long) (fs2 := [.ref q1, .ref q2, .ref q3, .null, .int 0]) X hin rfl (by decide) zl_in8 tyX8_ok nmX8 (zkl_X8_17) rfl (by decide +kernel) rfl rfl (Nat.le_of_ble_eq_true rfl) rfl dX8_init_27 ?_
  refine zg_aload_n X 0 rfl dX8_init_30 ?_
  refine zg_sipush X 402 dX8_init_31 (by decide) (fun v4 _ hv4 => ?_)
  refine zc_newi X 43 13 1 hk3 wa_int rfl rfl (Or.inr (Or.inl rfl)) rfl rfl (by rw [hv4]; rfl) (by decide) (fun j => ⟨show (-2147483648 : Int) ≤ 0 by decide, show (0 : Int) ≤ 2147483647 by decide⟩) (fun _ => rfl) (by decide) (by decide) (by decide) ⟨by decide, by decide⟩ dX8_init_34 (fun q4 L4 kd4 s4 e4 t4 r4 hk4 => ?_)
  have X : zX d L4 kd4 A 4 p s m args c cX8_init RX8 := X
  have Rq1_4 : zrt L4 s4 q1 := e4.rr (e3.t (e2.t t1)) Rq1_3
  have Rq2_4 : zrt L4 s4 q2 := e4.rr (e3.t t2) Rq2_3
  have Rq3_4 : zrt L4 s4 q3 := e4.rr t3 r3.1
  refine zc_put (j := 3) (ty := .array .int) (fs2 := [.ref q1, .ref q2, .ref q3, .ref q4, .int 0]) X hin rfl (by decide) zl_in8 tyX8_ok nmX8 (zkl_X8_20) rfl (by decide +kernel) rfl rfl (Nat.le_of_ble_eq_true rfl) rfl dX8_init_36 ?_
  refine zg_aload_n X 0 rfl dX8_init_39 ?_
  refine zg_iconst X 0 dX8_init_40 (by decide) (fun v5 _ hv5 => ?_)
  refine zc_put (j := 4) (ty := .int) (fs2 := [.ref q1, .ref q2, .ref q3, .ref q4, .int v5]) X hin rfl (by decide) zl_in8 tyX8_ok nmX8 (zkl_X8_23) rfl (by decide +kernel) rfl rfl (Nat.le_of_ble_eq_true rfl) rfl dX8_init_41 ?_
  have hf5 : ∀ j k2, zf 0 8 j = some k2 → ∃ y, (fun j => ([some q1, some q2, some q3, some q4, none] : List (Option Nat)).getD j none) j = some y ∧ zT L4 kd4 y k2 := by
    intro j k2 h
    have h := zf_list (by decide) h
    rw [show (zfl.filter (fun q => q.1 == 8 && q.2.2.2 == 0)).map (fun q => (q.2.1, q.2.2.1)) = ([(0, 40), (1, 41), (2, 42), (3, 43)] : List (Nat × Nat)) from by decide +kernel] at h
    simp only [List.mem_cons, Prod.mk.injEq, List.not_mem_nil, or_false] at h
    rcases h with ⟨rfl, rfl⟩ | ⟨rfl, rfl⟩ | ⟨rfl, rfl⟩ | ⟨rfl, rfl⟩
    · exact ⟨_, rfl, (e4.t (e3.t (e2.t t1)))⟩
    · exact ⟨_, rfl, (e4.t (e3.t t2))⟩
    · exact ⟨_, rfl, (e4.t t3)⟩
    · exact ⟨_, rfl, t4⟩
  have hq5 : ∀ j y, (fun j => ([some q1, some q2, some q3, some q4, none] : List (Option Nat)).getD j none) j = some y → (j < 5 ∧ zf 0 8 j ≠ none) ∧ y ∈ L4 ∧ ((kd4 : Nat → Nat) y ≠ 6 → zrt L4 s4 y) := by
    intro j y e
    have hj : j < 5 := zgN 5 e
    rcases (show j = 0 ∨ j = 1 ∨ j = 2 ∨ j = 3 ∨ j = 4 by omega) with rfl | rfl | rfl | rfl | rfl
    · cases (show some q1 = some y from e); exact ⟨⟨by decide, by decide⟩, (e4.t (e3.t (e2.t t1))).1, fun _ => Rq1_4⟩
    · cases (show some q2 = some y from e); exact ⟨⟨by decide, by decide⟩, (e4.t (e3.t t2)).1, fun _ => Rq2_4⟩
    · cases (show some q3 = some y from e); exact ⟨⟨by decide, by decide⟩, (e4.t t3).1, fun _ => Rq3_4⟩
    · cases (show some q4 = some y from e); exact ⟨⟨by decide, by decide⟩, t4.1, fun _ => r4.1⟩
    · cases (show (none : Option Nat) = some y from e)
  have hi5 : ∀ j j' y, (fun j => ([some q1, some q2, some q3, some q4, none] : List (Option Nat)).getD j none) j = some y → (fun j => ([some q1, some q2, some q3, some q4, none] : List (Option Nat)).getD j none) j' = some y → j = j' := by
    intro j j' y e e'
    rcases zinjk (N := 5) (Xr := fun j j' => False) hf5 (fun j y e => (hq5 j y e).1) (by decide +kernel) e e' with z | z
    · exact z
    · exact absurd z id
  refine zc_typed (b2 := false) (k := 8) (fun j => ([0, 0, 0, 0, v5] : List Int32).getD j 0) (fun j => ([0, 0, 0, 0, 0] : List Int64).getD j 0) (fun j => ([some q1, some q2, some q3, some q4, none] : List (Option Nat)).getD j none) hk4 rfl (by decide) rfl ?_ hf5 (by decide) (by decide) (by decide) (by decide) ⟨fun e => absurd e (by decide), fun e => absurd e (by decide), fun e => absurd e (by decide), fun e => absurd e (by decide), fun e => absurd e (by decide), fun e => absurd e (by decide)⟩ (fun j y e => (hq5 j y e).2) (fun j j' y e e' _ _ _ => hi5 j j' y e e') (fun L5 kd5 s5 e5 ta5 rt5 hk5 => ?_)
  · intro j
    rcases zr_list (k := 8) (by decide) j with h | h
    · rw [h]; exact zb_rng _
    · rw [show ((zrl 0).filter (fun q => q.1 == 8)).map (fun q => (q.2.1, q.2.2)) = ([(4, 0, 402)] : List (Nat × Int × Int)) from by decide +kernel] at h
      simp only [List.mem_cons, Prod.mk.injEq, List.not_mem_nil, or_false] at h
      rcases h with ⟨rfl, h⟩
      · rw [h]; show _ ≤ Int32.toInt v5 ∧ Int32.toInt v5 ≤ _; first | exact ⟨by decide, by decide⟩ | exact ⟨by show (0 : Int) ≤ _; omega, by show _ ≤ (402 : Int); omega⟩
  have X : zX d L5 kd5 A 4 p s m args c cX8_init RX8 := X
  refine zg_iconst X 0 dX8_init_44 (by decide) (fun v6 _ hv6 => ?_)
  refine zg_istore_n X [(1, .int v6), (0, .ref a0)] dX8_init_45 (by decide) rfl ?_
  refine zg_iconst X 0 dX8_init_46 (by decide) (fun v7 _ hv7 => ?_)
  refine zg_istore_n X [(2, .int v7), (1, .int v6), (0, .ref a0)] dX8_init_47 (by decide) rfl ?_
  have tq1 : zT L5 kd5 q1 40 := (e5.t (e4.t (e3.t (e2.t t1))))
  have zq1 : ∀ j, s5.2.1 q1 j = 0 := fun j => by
    rw [(e5 q1 (e4.t (e3.t (e2.t t1))).1).2.2.2.1, (e4.1 q1 (e3.t (e2.t t1)).1).2.2.2.1, (e3.1 q1 (e2.t t1).1).2.2.2.1, (e2.1 q1 t1.1).2.2.2.1]
    exact z1 j
  have Lp10 : ∀ (nLp10 : Nat) (τ10 : zS) (x8 : Int32) (x9 : Int32), zI 0 0 L5 kd5 τ10 → (τ10.2.2 = s5.2.2 ∧ τ10.1 = s5.1 ∧ zwS q1 x8 x9 τ10) → 0 ≤ x8.toInt ∧ x8.toInt ≤ 116 ∧ 0 ≤ x9.toInt ∧ x9.toInt ≤ 22 → 116 - x8.toInt + 1 < (nLp10 : Int) → zGc [] 4 1228 d L5 kd5 A 4 p l e { frames := 4, cells := 4, slots := 1228, locals := 100 * 4 } s m args below meth c Q τ10 48 [(2, .int x8), (1, .int x9), (0, .ref a0)] [] := by
    intro nLp10
    induction nLp10 with
    | zero => intro τ10 x8 x9 hI hW hxLp10 hm ; exact absurd hm (by omega)
    | succ nLp10 ihLp10 =>
      intro τ10 x8 x9 hI hW hxLp10 hmLp10 
      refine zg_iload_n X 0 rfl dX8_init_48 ?_
      refine zg_sldc (i := 0) X (by decide) rfl dX8_init_49 ?_
      refine zg_cKi (As := []) (st := [.int x8]) X (by decide) rfl (t_J0_length_8abf5 l d L5 kd5 _ 0 (by decide) ) mk_X8_29 mc_J0_length_8abf5 mz_J0 mi_J0_length_8abf5 ml_J0_length_8abf5 (na := 0) ⟨md_J0.1, md_J0.2, by decide +kernel⟩ rfl ⟨by decide, by decide⟩ (Nat.le_of_ble_eq_true rfl) dX8_init_51 (fun v11 σ2 hq => ?_)
      obtain ⟨⟨hF, hv11⟩, rfl⟩ := hq
      have zv11_z12 := zb_rng v11
      refine zg_icmp_ge X 104 dX8_init_54 (by decide) (fun c13 => ?_) (fun c13 => ?_)
      · skip
        exact ret _ _ _ _ _ dX8_init_104 ta5 (rt5.eq hW.1) (zKb.words hk5 hI hW.1 hW.2.1 tq1 (zwS.fin hW.2.2 (by omega)))
      · skip
        refine zg_iload_n X 1 rfl dX8_init_57 ?_
        refine zg_bipush X 22 dX8_init_58 (by decide) (fun v14 _ hv14 => ?_)
        refine zg_icmp_ge X 104 dX8_init_60 (by decide) (fun c15 => ?_) (fun c15 => ?_)
        · skip
          exact ret _ _ _ _ _ dX8_init_104 ta5 (rt5.eq hW.1) (zKb.words hk5 hI hW.1 hW.2.1 tq1 (zwS.fin hW.2.2 (by omega)))
        · skip
          refine zg_sldc (i := 0) X (by decide) rfl dX8_init_63 ?_
          refine zg_iload_n X 0 rfl dX8_init_65 ?_
          refine zg_cKi (As := [.int x8]) (st := []) X (by decide) rfl (t_J0_charAt_5068e l d L5 kd5 _ 0 (by decide) x8 (by omega) (by omega)) mk_X8_35 mc_J0_charAt_5068e mz_J0 mi_J0_charAt_5068e ml_J0_charAt_5068e (na := 1) ⟨md_J0.1, md_J0.2, by decide +kernel⟩ rfl ⟨by decide, by decide⟩ (Nat.le_of_ble_eq_true rfl) dX8_init_66 (fun v16 σ2 hq => ?_)
          obtain ⟨⟨hF16, hv16⟩, rfl⟩ := hq
          refine zg_istore_n X [(3, .int v16), (2, .int x8), (1, .int x9), (0, .ref a0)] dX8_init_69 (by decide) rfl ?_
          refine zg_iload_n X 0 rfl dX8_init_70 ?_
          refine zg_bipush X 32 dX8_init_71 (by decide) (fun v17 _ hv17 => ?_)
          refine zg_icmp_ne X 82 dX8_init_73 (by decide) (fun c18 => ?_) (fun c18 => ?_)
          · skip
            refine zg_aload_n X 3 rfl dX8_init_82 ?_
            refine fg_X8_9 X hI ta5 dX8_init_83 (fun v19 ev19 hv19 => ?_)
            refine zg_iload_n X 2 rfl dX8_init_86 ?_
            refine zg_aload_n X 3 rfl dX8_init_87 ?_
            refine fg_X8_9 X hI ta5 dX8_init_88 (fun v20 ev20 hv20 => ?_)
            refine zg_iload_n X 2 rfl dX8_init_91 ?_
            refine ag_40 X hv20 (by omega) (by omega) dX8_init_92 (fun v21 ev21 => ?_)
            refine zg_iload_n X 0 rfl dX8_init_93 ?_
            refine zg_cSl (As := [.long v21, .int v16]) (st := [.int x9, .ref v19]) X (t_X8_withLetter l d L5 kd5 _ v21 v16 ) mk_X8_39 mc_X8_withLetter mz_X8 ms_X8_withLetter (na := 2) ⟨md_X8.1, md_X8.2, by decide +kernel⟩ rfl ⟨by decide, by decide⟩ (Nat.le_of_ble_eq_true rfl) dX8_init_94 (fun v22 σ2 hq => ?_)
            obtain ⟨⟨hF, hv22⟩, rfl⟩ := hq
            refine as_40 X hI hv19 (by omega) (by omega) dX8_init_97 (fun s23 es23 hI => ?_)
            refine zg_iinc X 1 (fun v24 => [(2, .int v24), (3, .int v16), (1, .int x9), (0, .ref a0)]) 1 dX8_init_98 rfl (by decide) (by decide) (by omega) (by omega) (fun _ => rfl) (fun v24 ev24 hv24 => ?_)
            refine zg_goto X 48 dX8_init_101 (by decide) ?_
            refine zg_sub [0, 2, 3] rfl ?_
            have q19 : v19 = q1 := hk5.2.2.2.2.2 v19 hv19.1 q1 tq1.1 (by rw [hv19.2]; rfl) (hv19.2.trans tq1.2.symm)
            have q20 : v20 = q1 := hk5.2.2.2.2.2 v20 hv20.1 q1 tq1.1 (by rw [hv20.2]; rfl) (hv20.2.trans tq1.2.symm)
            exact ihLp10 _ v24 x9 hI ⟨by rw [es23]; exact hW.1, by rw [es23]; exact hW.2.1, zwS.letter hW.2.2 (by omega) hF16 (by omega) (by omega) (by rw [es23, hF, ev21, q19, q20])⟩ (by omega) (by omega) 
          · skip
            refine zg_iinc X 1 (fun v25 => [(1, .int v25), (3, .int v16), (2, .int x8), (0, .ref a0)]) 2 dX8_init_76 rfl (by decide) (by decide) (by omega) (by omega) (fun _ => rfl) (fun v25 ev25 hv25 => ?_)
            refine zg_goto X 98 dX8_init_79 (by decide) ?_
            refine zg_iinc X 1 (fun v26 => [(2, .int v26), (1, .int v25), (3, .int v16), (0, .ref a0)]) 2 dX8_init_98 rfl (by decide) (by decide) (by omega) (by omega) (fun _ => rfl) (fun v26 ev26 hv26 => ?_)
            refine zg_goto X 48 dX8_init_101 (by decide) ?_
            refine zg_sub [0, 1, 3] rfl ?_
            exact ihLp10 _ v26 v25 hI ⟨hW.1, hW.2.1, zwS.blank hW.2.2 (by omega) hF16 (by omega) (by omega) (by omega)⟩ (by omega) (by omega) 
  refine zg_sub [0, 1, 2] rfl ?_
  exact Lp10 ((116 - v7.toInt + 1).toNat + 1) _ v7 v6 hk5.1 ⟨rfl, rfl, zwS.first (by omega) (by omega) zq1⟩ (by omega) (by omega) 
set_option maxHeartbeats 4000000 in
set_option maxRecDepth 100000 in
theorem n_X3 (l : Launch) (d : zD2) : zNew l yX3_init (Cond.code yX3_init cX3_init 1 none :: zWL) 5 5 1233 d 3 [.null, .null, .int 0, .int 0, .long 0, .int 0, .int 0, .int 0, .int 0, .int 0, .int 0, .int 0] [3, 8, 40, 41, 42, 43] := by
  refine zNew.of (own := RX3) (by decide +kernel) rfl rfl rfl (by decide) ?_
  intro a0 p e s m args below meth c A Q X hin ret
  have hk0 := zK.nil
  refine zg_aload_n X 0 rfl dX3_init_0 ?_
  refine zc_obj X mo_X3_3 mo_inst mo_code dX3_init_1 ⟨by decide, Nat.le_of_ble_eq_true rfl⟩ ?_
  refine zg_aload_n X 0 rfl dX3_init_4 ?_
  refine zc_newC (T := TX8) (fs0 := [.null, .null, .null, .null, .int 0]) X hk0 (n_X8 l d) (by decide) (by decide) rfl zl_in8 tyX8_ok wc_X3_9 wi_X8 mz_X8 (fun j hj => by rcases (show j = 0 ∨ j = 1 ∨ j = 2 ∨ j = 3 ∨ j = 4 by omega) with rfl | rfl | rfl | rfl | rfl <;> rfl) mn_X3_11 mc_X8_init mz_X8 mi_X8_init rfl ⟨md_X8.1, md_X8.2, by decide +kernel⟩ dX3_init_5 dX3_init_8 dX3_init_9 ⟨⟨by decide, by decide⟩, by decide, by decide⟩ (Nat.le_of_ble_eq_true rfl) (fun q1 L1 kd1 s1 e1 t1 r1 hk1 => ?_)
  have X : zX d L1 kd1 A 1 p s m args c cX3_init RX3 := X
  refine zc_put (j := 0) (ty := .object RX8) (fs2 := [.ref q1, .null, .int 0, .int 0, .long 0, .int 0, .int 0, .int 0, .int 0, .int 0, .int 0, .int 0]) X hin rfl (by decide) zl_in3 tyX3_ok nmX3 (zkl_X3_12) rfl (by decide +kernel) rfl rfl (Nat.le_of_ble_eq_true rfl) rfl dX3_init_12 ?_
  refine zg_aload_n X 0 rfl dX3_init_15 ?_
  refine zg_null X dX3_init_16 ?_
  refine zc_put (j := 1) (ty := .object RX9) (fs2 := [.ref q1, .null, .int 0, .int 0, .long 0, .int 0, .int 0, .int 0, .int 0, .int 0, .int 0, .int 0]) X hin rfl (by decide) zl_in3 tyX3_ok nmX3 (zkl_X3_18) rfl (by decide +kernel) rfl rfl (Nat.le_of_ble_eq_true rfl) rfl dX3_init_17 ?_
  refine zg_aload_n X 0 rfl dX3_init_20 ?_
  refine zg_iconst X 0 dX3_init_21 (by decide) (fun v1 _ hv1 => ?_)
  refine zc_put (j := 2) (ty := .int) (fs2 := [.ref q1, .null, .int v1, .int 0, .long 0, .int 0, .int 0, .int 0, .int 0, .int 0, .int 0, .int 0]) X hin rfl (by decide) zl_in3 tyX3_ok nmX3 (zkl_X3_22) rfl (by decide +kernel) rfl rfl (Nat.le_of_ble_eq_true rfl) rfl dX3_init_22 ?_
  refine zg_aload_n X 0 rfl dX3_init_25 ?_
  refine zg_bipush X 34 dX3_init_26 (by decide) (fun v2 _ hv2 => ?_)
  refine zc_put (j := 3) (ty := .int) (fs2 := [.ref q1, .null, .int v1, .int v2, .long 0, .int 0, .int 0, .int 0, .int 0, .int 0, .int 0, .int 0]) X hin rfl (by decide) zl_in3 tyX3_ok nmX3 (zkl_X3_26) rfl (by decide +kernel) rfl rfl (Nat.le_of_ble_eq_true rfl) rfl dX3_init_28 ?_
  refine zg_aload_n X 0 rfl dX3_init_31 ?_
  refine zg_lconst X dX3_init_32 (fun v3 ev3 => ?_)
  refine zc_put (j := 4) (ty := .long) (fs2 := [.ref q1, .null, .int v1, .int v2, .long v3, .int 0, .int 0, .int 0, .int 0, .int 0, .int 0, .int 0]) X hin rfl (by decide) zl_in3 tyX3_ok nmX3 (zkl_X3_29) rfl (by decide +kernel) rfl rfl (Nat.le_of_ble_eq_true rfl) rfl dX3_init_33 ?_
  refine zg_aload_n X 0 rfl dX3_init_36 ?_
  refine zg_iconst X (-1) dX3_init_37 (by decide) (fun v4 _ hv4 => ?_)
  refine zc_put (j := 5) (ty := .int) (fs2 := [.ref q1, .null, .int v1, .int v2, .long v3, .int v4, .int 0, .int 0, .int 0, .int 0, .int 0, .int 0]) X hin rfl (by decide) zl_in3 tyX3_ok nmX3 (zkl_X3_33) rfl (by decide +kernel) rfl rfl (Nat.le_of_ble_eq_true rfl) rfl dX3_init_38 ?_
  refine zg_aload_n X 0 rfl dX3_init_41 ?_
  refine zg_iconst X 0 dX3_init_42 (by decide) (fun v5 _ hv5 => ?_)
  refine zc_put (j := 6) (ty := .boolean) (fs2 := [.ref q1, .null, .int v1, .int v2, .long v3, .int v4, .int v5, .int 0, .int 0, .int 0, .int 0, .int 0]) X hin rfl (by decide) zl_in3 tyX3_ok nmX3 (zkl_X3_36) rfl (by decide +kernel) (zb_bool ⟨by omega, by omega⟩) (zb_boolF ⟨by omega, by omega⟩) (Nat.le_of_ble_eq_true rfl) rfl dX3_init_43 ?_
  refine zg_aload_n X 0 rfl dX3_init_46 ?_
  refine zg_iconst X 0 dX3_init_47 (by decide) (fun v6 _ hv6 => ?_)
  refine zc_put (j := 7) (ty := .int) (fs2 := [.ref q1, .null, .int v1, .int v2, .long v3, .int v4, .int v5, .int v6, .int 0, .int 0, .int 0, .int 0]) X hin rfl (by decide) zl_in3 tyX3_ok nmX3 (zkl_X3_40) rfl (by decide +kernel) rfl rfl (Nat.le_of_ble_eq_true rfl) rfl dX3_init_48 ?_
  refine zg_aload_n X 0 rfl dX3_init_51 ?_
  refine zg_iconst X 0 dX3_init_52 (by decide) (fun v7 _ hv7 => ?_)
  refine zc_put (j := 8) (ty := .int) (fs2 := [.ref q1, .null, .int v1, .int v2, .long v3, .int v4, .int v5, .int v6, .int v7, .int 0, .int 0, .int 0]) X hin rfl (by decide) zl_in3 tyX3_ok nmX3 (zkl_X3_43) rfl (by decide +kernel) rfl rfl (Nat.le_of_ble_eq_true rfl) rfl dX3_init_53 ?_
  refine zg_aload_n X 0 rfl dX3_init_56 ?_
  refine zg_iconst X (-1) dX3_init_57 (by decide) (fun v8 _ hv8 => ?_)
  refine zc_put (j := 9) (ty := .int) (fs2 := [.ref q1, .null, .int v1, .int v2, .long v3, .int v4, .int v5, .int v6, .int v7, .int v8, .int 0, .int 0]) X hin rfl (by decide) zl_in3 tyX3_ok nmX3 (zkl_X3_46) rfl (by decide +kernel) rfl rfl (Nat.le_of_ble_eq_true rfl) rfl dX3_init_58 ?_
  refine zg_aload_n X 0 rfl dX3_init_61 ?_
  refine zg_iconst X 0 dX3_init_62 (by decide) (fun v9 _ hv9 => ?_)
  refine zc_put (j := 10) (ty := .int) (fs2 := [.ref q1, .null, .int v1, .int v2, .long v3, .int v4, .int v5, .int v6, .int v7, .int v8, .int v9, .int 0]) X hin rfl (by decide) zl_in3 tyX3_ok nmX3 (zkl_X3_49) rfl (by decide +kernel) rfl rfl (Nat.le_of_ble_eq_true rfl) rfl dX3_init_63 ?_
  refine zg_aload_n X 0 rfl dX3_init_66 ?_
  refine zg_iconst X (-1) dX3_init_67 (by decide) (fun v10 _ hv10 => ?_)
  refine zc_put (j := 11) (ty := .int) (fs2 := [.ref q1, .null, .int v1, .int v2, .long v3, .int v4, .int v5, .int v6, .int v7, .int v8, .int v9, .int v10]) X hin rfl (by decide) zl_in3 tyX3_ok nmX3 (zkl_X3_52) rfl (by decide +kernel) rfl rfl (Nat.le_of_ble_eq_true rfl) rfl dX3_init_68 ?_
  have hf2 : ∀ j k2, zf 0 3 j = some k2 → ∃ y, (fun j => ([some q1, none, none, none, none, none, none, none, none, none, none, none] : List (Option Nat)).getD j none) j = some y ∧ zT L1 kd1 y k2 := by
    intro j k2 h
    have h := zf_list (by decide) h
    rw [show (zfl.filter (fun q => q.1 == 3 && q.2.2.2 == 0)).map (fun q => (q.2.1, q.2.2.1)) = ([(0, 8)] : List (Nat × Nat)) from by decide +kernel] at h
    simp only [List.mem_cons, Prod.mk.injEq, List.not_mem_nil, or_false] at h
    rcases h with ⟨rfl, rfl⟩
    · exact ⟨_, rfl, t1⟩
  have hq2 : ∀ j y, (fun j => ([some q1, none, none, none, none, none, none, none, none, none, none, none] : List (Option Nat)).getD j none) j = some y → (j < 12 ∧ zf 0 3 j ≠ none) ∧ y ∈ L1 ∧ ((kd1 : Nat → Nat) y ≠ 6 → zrt L1 s1 y) := by
    intro j y e
    have hj : j < 12 := zgN 12 e
    rcases (show j = 0 ∨ j = 1 ∨ j = 2 ∨ j = 3 ∨ j = 4 ∨ j = 5 ∨ j = 6 ∨ j = 7 ∨ j = 8 ∨ j = 9 ∨ j = 10 ∨ j = 11 by omega) with rfl | rfl | rfl | rfl | rfl | rfl | rfl | rfl | rfl | rfl | rfl | rfl
    · cases (show some q1 = some y from e); exact ⟨⟨by decide, by decide⟩, t1.1, fun _ => r1.1⟩
    · cases (show (none : Option Nat) = some y from e)
    · cases (show (none : Option Nat) = some y from e)
    · cases (show (none : Option Nat) = some y from e)
    · cases (show (none : Option Nat) = some y from e)
    · cases (show (none : Option Nat) = some y from e)
    · cases (show (none : Option Nat) = some y from e)
    · cases (show (none : Option Nat) = some y from e)
    · cases (show (none : Option Nat) = some y from e)
    · cases (show (none : Option Nat) = some y from e)
    · cases (show (none : Option Nat) = some y from e)
    · cases (show (none : Option Nat) = some y from e)
  have hi2 : ∀ j j' y, (fun j => ([some q1, none, none, none, none, none, none, none, none, none, none, none] : List (Option Nat)).getD j none) j = some y → (fun j => ([some q1, none, none, none, none, none, none, none, none, none, none, none] : List (Option Nat)).getD j none) j' = some y → j = j' := by
    intro j j' y e e'
    rcases zinjk (N := 12) (Xr := fun j j' => False) hf2 (fun j y e => (hq2 j y e).1) (by decide +kernel) e e' with z | z
    · exact z
    · exact absurd z id
  refine zc_typed (b2 := (List.contains ([3, 8, 40, 41, 42, 43] : List Nat) 8)) (k := 3) (fun j => ([0, 0, v1, v2, 0, v4, v5, v6, v7, v8, v9, v10] : List Int32).getD j 0) (fun j => ([0, 0, 0, 0, v3, 0, 0, 0, 0, 0, 0, 0] : List Int64).getD j 0) (fun j => ([some q1, none, none, none, none, none, none, none, none, none, none, none] : List (Option Nat)).getD j none) hk1 rfl (by decide) rfl ?_ hf2 (by decide) (by decide) (by decide) (by decide) ⟨fun e => absurd e (by decide), fun e => absurd e (by decide), fun e => absurd e (by decide), fun e => absurd e (by decide), fun e => absurd e (by decide), fun e => absurd e (by decide)⟩ (fun j y e => (hq2 j y e).2) (fun j j' y e e' _ _ _ => hi2 j j' y e e') (fun L2 kd2 s2 e2 ta2 rt2 hk2 => ?_)
  · intro j
    rcases zr_list (k := 3) (by decide) j with h | h
    · rw [h]; exact zb_rng _
    · rw [show ((zrl 0).filter (fun q => q.1 == 3)).map (fun q => (q.2.1, q.2.2)) = ([(6, 0, 1), (7, 0, 11)] : List (Nat × Int × Int)) from by decide +kernel] at h
      simp only [List.mem_cons, Prod.mk.injEq, List.not_mem_nil, or_false] at h
      rcases h with ⟨rfl, h⟩ | ⟨rfl, h⟩
      · rw [h]; show _ ≤ Int32.toInt v5 ∧ Int32.toInt v5 ≤ _; first | exact ⟨by decide, by decide⟩ | exact ⟨by show (0 : Int) ≤ _; omega, by show _ ≤ (1 : Int); omega⟩
      · rw [h]; show _ ≤ Int32.toInt v6 ∧ Int32.toInt v6 ≤ _; first | exact ⟨by decide, by decide⟩ | exact ⟨by show (0 : Int) ≤ _; omega, by show _ ≤ (11 : Int); omega⟩
  have X : zX d L2 kd2 A 1 p s m args c cX3_init RX3 := X
  exact ret _ _ _ _ _ dX3_init_71 ta2 rt2 hk2
set_option maxHeartbeats 4000000 in
set_option maxRecDepth 100000 in
theorem n_X4 (l : Launch) (d : zD2) : zNew l yX4_init (Cond.code yX4_init cX4_init 2 none :: zWL) 2 161 1720 d 4 [.null, .int 0, .int 0] [4, 29, 1, 22, 23, 24] := by
  refine zNew.of (own := RX4) (by decide +kernel) rfl rfl rfl (by decide) ?_
  intro a0 p e s m args below meth c A Q X hin ret
  refine zg_aload_n X 0 rfl dX4_init_0 ?_
  refine zc_obj X mo_X4_1 mo_inst mo_code dX4_init_1 ⟨by decide, Nat.le_of_ble_eq_true rfl⟩ ?_
  refine zg_aload_n X 0 rfl dX4_init_4 ?_
  refine zg_bipush X 40 dX4_init_5 (by decide) (fun v0 _ hv0 => ?_)
  refine zc_newq X 40 wc_X4_9 (by rw [hv0]; rfl) (by decide) ⟨by decide, by decide⟩ dX4_init_7 (fun q => ?_)
  refine zc_put (j := 0) (ty := .array (.object RX1)) (fs2 := [.ref q, .int 0, .int 0]) X hin rfl (by decide) zl_in4 tyX4_ok nmX4 zkl_X4_11 rfl (by decide +kernel) rfl rfl (Nat.le_of_ble_eq_true rfl) rfl dX4_init_10 ?_
  refine zg_aload_n X 0 rfl dX4_init_13 ?_
  refine zg_iconst X 0 dX4_init_14 (by decide) (fun v1 _ hv1 => ?_)
  refine zc_put (j := 1) (ty := .int) (fs2 := [.ref q, .int v1, .int 0]) X hin rfl (by decide) zl_in4 tyX4_ok nmX4 zkl_X4_15 rfl (by decide +kernel) rfl rfl (Nat.le_of_ble_eq_true rfl) rfl dX4_init_15 ?_
  refine zg_aload_n X 0 rfl dX4_init_18 ?_
  refine zg_iconst X 0 dX4_init_19 (by decide) (fun v2 _ hv2 => ?_)
  refine zc_put (j := 2) (ty := .int) (fs2 := [.ref q, .int v1, .int v2]) X hin rfl (by decide) zl_in4 tyX4_ok nmX4 zkl_X4_19 rfl (by decide +kernel) rfl rfl (Nat.le_of_ble_eq_true rfl) rfl dX4_init_20 ?_
  refine zg_iconst X 0 dX4_init_23 (by decide) (fun v3 _ hv3 => ?_)
  refine zg_istore_n X [(1, .int v3), (0, .ref a0)] dX4_init_24 (by decide) rfl ?_
  have Lp : ∀ (n i : Nat), i + n = 40 → ∀ (L : List Nat) (kd : Nat → Nat) (σ : zS) (f : Nat → Option Nat) (x : Int32), x.toInt = i → zK [1, 22, 23, 24] L kd σ → (∀ j, j < i → ∃ y, f j = some y ∧ zT L kd y 1 ∧ zrt L σ y) → (∀ u v y, u < i → v < i → f u = some y → f v = some y → u = v) → zGc [(a0, .inr (4, [.ref q, .int v1, .int v2])), (q, .inl (d.2.2 16, 40, .inr (.inr (.inr (.inr f)))))] (1 + 4 * i) (40 + 42 * i) d L kd A 2 p l e { frames := 2, cells := 161, slots := 1720, locals := 100 * 2 } s m args below meth c Q σ 25 [(1, .int x), (0, .ref a0)] [] := by
    intro n
    induction n with
    | zero =>
      intro i hi L kd σ f x hx hk hf hfi
      have X : zX d L kd A 2 p s m args c cX4_init RX4 := X
      refine zg_iload_n X 0 rfl dX4_init_25 ?_
      refine zg_bipush X 40 dX4_init_26 (by decide) (fun v4 _ hv4 => ?_)
      refine zg_icmp_ge X 50 dX4_init_28 (by decide) (fun c5 => ?_) (fun c5 => absurd c5 (by omega))
      have h40 : i = 40 := by omega
      subst h40
      refine zc_row (k := 29) hk rfl rfl (by decide) (fun _ => rfl) (fun _ => rfl) (by decide) rfl (by decide) (by decide) (by decide) (by decide) hf hfi (fun L1 kd1 s1 e1 er1 t1 r1 hk1 => ?_)
      have hf2 : ∀ j k2, zf 0 4 j = some k2 → ∃ y, (fun j => ([some q, none, none] : List (Option Nat)).getD j none) j = some y ∧ zT L1 kd1 y k2 := by
        intro j k2 h
        have h := zf_list (by decide) h
        rw [show (zfl.filter (fun q => q.1 == 4 && q.2.2.2 == 0)).map (fun q => (q.2.1, q.2.2.1)) = ([(0, 29)] : List (Nat × Nat)) from by decide +kernel] at h
        simp only [List.mem_cons, Prod.mk.injEq, List.not_mem_nil, or_false] at h
        rcases h with ⟨rfl, rfl⟩
        exact ⟨_, rfl, t1⟩
      have hq2 : ∀ j y, (fun j => ([some q, none, none] : List (Option Nat)).getD j none) j = some y → j = 0 ∧ y = q := by
        intro j y e
        have hj : j < 3 := zgN 3 e
        rcases (show j = 0 ∨ j = 1 ∨ j = 2 by omega) with rfl | rfl | rfl
        · exact ⟨rfl, (Option.some.inj (show some q = some y from e)).symm⟩
        · cases (show (none : Option Nat) = some y from e)
        · cases (show (none : Option Nat) = some y from e)
      refine zc_typed (b2 := false) (k := 4) (fun j => ([0, v1, v2] : List Int32).getD j 0) (fun j => ([0, 0, 0] : List Int64).getD j 0) (fun j => ([some q, none, none] : List (Option Nat)).getD j none) hk1 rfl (by decide) rfl ?_ hf2 (by decide) (by decide) (by decide) (by decide) ⟨fun e => absurd e (by decide), fun e => absurd e (by decide), fun _ => ⟨Int32.toInt_inj.mp (hv1.trans (by decide)), Int32.toInt_inj.mp (hv2.trans (by decide))⟩, fun e => absurd e (by decide), fun e => absurd e (by decide), fun e => absurd e (by decide)⟩ (fun j y e => by rw [(hq2 j y e).2]; exact ⟨t1.1, fun _ => r1.1⟩) (fun j j' y e e' _ _ _ => by rw [(hq2 j y e).1, (hq2 j' y e').1]) (fun L2 kd2 s2 e2 ta2 rt2 hk2 => ?_)
      · intro j
        rcases zr_list (k := 4) (by decide) j with h | h
        · rw [h]; exact zb_rng _
        · rw [show ((zrl 0).filter (fun q => q.1 == 4)).map (fun q => (q.2.1, q.2.2)) = ([(1, 0, 39), (2, 0, 40)] : List (Nat × Int × Int)) from by decide +kernel] at h
          simp only [List.mem_cons, Prod.mk.injEq, List.not_mem_nil, or_false] at h
          rcases h with ⟨rfl, h⟩ | ⟨rfl, h⟩
          · rw [h]; show _ ≤ Int32.toInt v1 ∧ Int32.toInt v1 ≤ _; exact ⟨by show (0 : Int) ≤ _; omega, by show _ ≤ (39 : Int); omega⟩
          · rw [h]; show _ ≤ Int32.toInt v2 ∧ Int32.toInt v2 ≤ _; exact ⟨by show (0 : Int) ≤ _; omega, by show _ ≤ (40 : Int); omega⟩
      exact ret _ _ _ _ _ dX4_init_50 ta2 rt2 hk2
    | succ n ih =>
      intro i hi L kd σ f x hx hk hf hfi
      have X : zX d L kd A 2 p s m args c cX4_init RX4 := X
      refine zg_iload_n X 0 rfl dX4_init_25 ?_
      refine zg_bipush X 40 dX4_init_26 (by decide) (fun v4 _ hv4 => ?_)
      refine zg_icmp_ge X 50 dX4_init_28 (by decide) (fun c5 => absurd c5 (by omega)) (fun c5 => ?_)
      refine zg_aload_n X 1 rfl dX4_init_31 ?_
      refine zc_get (j := 0) X rfl (by decide) zl_in4 zkl_X4_11 rfl dX4_init_32 ?_
      refine zg_iload_n X 0 rfl dX4_init_35 ?_
      refine zc_newC (T := TX1) (fs0 := [.null, .null, .null, .int 0, .int 0, .int 0]) X hk (n_X1 l d) (by decide) (by decide) rfl zl_in1 tyX1_ok wc_X4_9 wi_X1 mz_X1 (fun j hj => by rcases (show j = 0 ∨ j = 1 ∨ j = 2 ∨ j = 3 ∨ j = 4 ∨ j = 5 by omega) with rfl | rfl | rfl | rfl | rfl | rfl <;> rfl) mn_X4_22 mc_X1_init mz_X1 mi_X1_init rfl ⟨md_X1.1, md_X1.2, by decide +kernel⟩ dX4_init_36 dX4_init_39 dX4_init_40 ⟨⟨by show _ ≤ 161; omega, by show _ ≤ 1720; omega⟩, by decide, by decide⟩ (Nat.le_of_ble_eq_true rfl) (fun y L2 kd2 s2 e2 t2 r2 hk2 => ?_)
      have X : zX d L2 kd2 A 2 p s m args c cX4_init RX4 := X
      refine zc_ast i X t2 hx (by omega) dX4_init_43 ?_
      refine zg_iinc X 1 (fun v6 => [(1, .int v6), (0, .ref a0)]) 0 dX4_init_44 rfl (by decide) (by decide) (by omega) (by omega) (fun _ => rfl) (fun v6 _ hv6 => ?_)
      refine zg_goto X 25 dX4_init_47 (by decide) ?_
      refine zc_cs (cs2 := 1 + 4 * (i + 1)) (sl2 := 40 + 42 * (i + 1)) (by omega) (by omega) ?_
      refine ih (i + 1) (by omega) L2 kd2 s2 _ v6 (by omega) (hk2.sub (by decide) (by decide)) (fun j hj => ?_) (fun u v w hu hv e1 e2' => ?_)
      · unfold va_up
        split
        · exact ⟨y, rfl, t2, r2.1⟩
        · obtain ⟨z, hz, ht, hr⟩ := hf j (by omega)
          exact ⟨z, hz, e2.t ht, e2.rr ht hr⟩
      · unfold va_up at e1 e2'
        split at e1
        · split at e2'
          · omega
          · next c1 c2 =>
            obtain ⟨z, hz, ht, -⟩ := hf v (by omega)
            rw [hz] at e2'
            exact absurd (by rw [Option.some.inj e1, ← Option.some.inj e2']; exact ht.1) r2.2
        · split at e2'
          · next c1 c2 =>
            obtain ⟨z, hz, ht, -⟩ := hf u (by omega)
            rw [hz] at e1
            exact absurd (by rw [Option.some.inj e2', ← Option.some.inj e1]; exact ht.1) r2.2
          · exact hfi u v w (by omega) (by omega) e1 e2'
  exact Lp 40 0 (by omega) _ _ _ _ v3 (by rw [hv3]; rfl) (zK.nil.sub (by decide) (by decide)) (fun j hj => absurd hj (by omega)) (fun u v w hu => absurd hu (by omega))

set_option maxHeartbeats 4000000 in
set_option maxRecDepth 100000 in
theorem n_X10 (l : Launch) (d : zD2) : zNew l yX10_init (Cond.code yX10_init cX10_init 2 none :: zWL) 6 229 7283 d 10 [.null, .null, .null, .null, .null, .null, .null, .null, .null, .null, .null, .null, .int 0, .int 0] [10, 52, 7, 39, 3, 8, 40, 41, 42, 43, 5, 6, 33, 34, 35, 36, 37, 38, 0, 20, 21, 30, 31, 32, 4, 29, 1, 22, 23, 24, 2, 25, 26, 27, 28, 1, 22, 23, 24, 1, 22, 23, 24, 1, 22, 23, 24, 1, 22, 23, 24, 1, 22, 23, 24, 53, 9, 44, 45, 46, 47, 48, 49, 50, 51, 9, 44, 45, 46, 47, 48, 49, 50, 51] := by
  refine zNew.of (own := RX10) (by decide +kernel) rfl rfl rfl (by decide) ?_
  intro a0 p e s m args below meth c A Q X hin ret
  have hk0 := zK.nil
  refine zg_aload_n X 0 rfl dX10_init_0 ?_
  refine zc_obj X mo_X10_1 mo_inst mo_code dX10_init_1 ⟨by decide, Nat.le_of_ble_eq_true rfl⟩ ?_
  refine zg_aload_n X 0 rfl dX10_init_4 ?_
  refine zc_newC (T := TX7) (fs0 := [.null, .int 0]) X hk0 (n_X7 l d) (by decide) (by decide) rfl zl_in7 tyX7_ok wc_X10_7 wi_X7 mz_X7 (fun j hj => by rcases (show j = 0 ∨ j = 1 by omega) with rfl | rfl <;> rfl) mn_X10_9 mc_X7_init mz_X7 mi_X7_init rfl ⟨md_X7.1, md_X7.2, by decide +kernel⟩ dX10_init_5 dX10_init_8 dX10_init_9 ⟨⟨by decide, by decide⟩, by decide, by decide⟩ (Nat.le_of_ble_eq_true rfl) (fun q1 L1 kd1 s1 e1 t1 r1 hk1 => ?_)
  have X : zX d L1 kd1 A 2 p s m args c cX10_init RX10 := X
  refine zc_put (j := 0) (ty := .object RX7) (fs2 := [.ref q1, .null, .null, .null, .null, .null, .null, .null, .null, .null, .null, .null, .int 0, .int 0]) X hin rfl (by decide) zl_in10 tyX10_ok nmX10 (zkl_X10_10) rfl (by decide +kernel) rfl rfl (Nat.le_of_ble_eq_true rfl) rfl dX10_init_12 ?_
  refine zg_aload_n X 0 rfl dX10_init_15 ?_
  refine zc_newC (T := TX3) (fs0 := [.null, .null, .int 0, .int 0, .long 0, .int 0, .int 0, .int 0, .int 0, .int 0, .int 0, .int 0]) X hk1 (n_X3 l d) (by decide) (by decide) rfl zl_in3 tyX3_ok wc_X10_16 wi_X3 mz_X3 (fun j hj => by rcases (show j = 0 ∨ j = 1 ∨ j = 2 ∨ j = 3 ∨ j = 4 ∨ j = 5 ∨ j = 6 ∨ j = 7 ∨ j = 8 ∨ j = 9 ∨ j = 10 ∨ j = 11 by omega) with rfl | rfl | rfl | rfl | rfl | rfl | rfl | rfl | rfl | rfl | rfl | rfl <;> rfl) mn_X10_18 mc_X3_init mz_X3 mi_X3_init rfl ⟨md_X3.1, md_X3.2, by decide +kernel⟩ dX10_init_16 dX10_init_19 dX10_init_20 ⟨⟨by decide, by decide⟩, by decide, by decide⟩ (Nat.le_of_ble_eq_true rfl) (fun q2 L2 kd2 s2 e2 t2 r2 hk2 => ?_)
  have X : zX d L2 kd2 A 2 p s m args c cX10_init RX10 := X
  have Rq1_2 : zrt L2 s2 q1 := e2.rr t1 r1.1
  refine zc_put (j := 1) (ty := .object RX3) (fs2 := [.ref q1, .ref q2, .null, .null, .null, .null, .null, .null, .null, .null, .null, .null, .int 0, .int 0]) X hin rfl (by decide) zl_in10 tyX10_ok nmX10 (zkl_X10_19) rfl (by decide +kernel) rfl rfl (Nat.le_of_ble_eq_true rfl) rfl dX10_init_23 ?_
  refine zg_aload_n X 0 rfl dX10_init_26 ?_
  refine zc_newC (T := TX5) (fs0 := [.null, .null, .null, .null, .null, .null, .null]) X hk2 (n_X5 l d) (by decide) (by decide) rfl zl_in5 tyX5_ok wc_X10_23 wi_X5 mz_X5 (fun j hj => by rcases (show j = 0 ∨ j = 1 ∨ j = 2 ∨ j = 3 ∨ j = 4 ∨ j = 5 ∨ j = 6 by omega) with rfl | rfl | rfl | rfl | rfl | rfl | rfl <;> rfl) mn_X10_25 mc_X5_init mz_X5 mi_X5_init rfl ⟨md_X5.1, md_X5.2, by decide +kernel⟩ dX10_init_27 dX10_init_30 dX10_init_31 ⟨⟨by decide, by decide⟩, by decide, by decide⟩ (Nat.le_of_ble_eq_true rfl) (fun q3 L3 kd3 s3 e3 t3 r3 hk3 => ?_)
  have X : zX d L3 kd3 A 2 p s m args c cX10_init RX10 := X
  have Rq1_3 : zrt L3 s3 q1 := e3.rr (e2.t t1) Rq1_2
  have Rq2_3 : zrt L3 s3 q2 := e3.rr t2 r2.1
  refine zc_put (j := 2) (ty := .object RX5) (fs2 := [.ref q1, .ref q2, .ref q3, .null, .null, .null, .null, .null, .null, .null, .null, .null, .int 0, .int 0]) X hin rfl (by decide) zl_in10 tyX10_ok nmX10 (zkl_X10_26) rfl (by decide +kernel) rfl rfl (Nat.le_of_ble_eq_true rfl) rfl dX10_init_34 ?_
  refine zg_aload_n X 0 rfl dX10_init_37 ?_
  refine zg_aload_n X 0 rfl dX10_init_38 ?_
  refine zc_get (j := 2) X rfl (by decide) zl_in10 (zkl_X10_26) rfl dX10_init_39 ?_
  refine fg_X10_30 X hk3.1 t3 dX10_init_42 (fun v1 ev1 hv1 => ?_)
  refine zc_put (j := 3) (ty := .object RX6) (fs2 := [.ref q1, .ref q2, .ref q3, .ref v1, .null, .null, .null, .null, .null, .null, .null, .null, .int 0, .int 0]) X hin rfl (by decide) zl_in10 tyX10_ok nmX10 (zkl_X10_34) rfl (by decide +kernel) rfl rfl (Nat.le_of_ble_eq_true rfl) rfl dX10_init_45 ?_
  refine zg_aload_n X 0 rfl dX10_init_48 ?_
  refine zc_newC (T := TX4) (fs0 := [.null, .int 0, .int 0]) X hk3 (n_X4 l d) (by decide) (by decide) rfl zl_in4 tyX4_ok wc_X10_35 wi_X4 mz_X4 (fun j hj => by rcases (show j = 0 ∨ j = 1 ∨ j = 2 by omega) with rfl | rfl | rfl <;> rfl) mn_X10_37 mc_X4_init mz_X4 mi_X4_init rfl ⟨md_X4.1, md_X4.2, by decide +kernel⟩ dX10_init_49 dX10_init_52 dX10_init_53 ⟨⟨by decide, by decide⟩, by decide, by decide⟩ (Nat.le_of_ble_eq_true rfl) (fun q4 L4 kd4 s4 e4 t4 r4 hk4 => ?_)
  have X : zX d L4 kd4 A 2 p s m args c cX10_init RX10 := X
  have Rq1_4 : zrt L4 s4 q1 := e4.rr (e3.t (e2.t t1)) Rq1_3
  have Rq2_4 : zrt L4 s4 q2 := e4.rr (e3.t t2) Rq2_3
  have Rq3_4 : zrt L4 s4 q3 := e4.rr t3 r3.1
  refine zc_put (j := 4) (ty := .object RX4) (fs2 := [.ref q1, .ref q2, .ref q3, .ref v1, .ref q4, .null, .null, .null, .null, .null, .null, .null, .int 0, .int 0]) X hin rfl (by decide) zl_in10 tyX10_ok nmX10 (zkl_X10_38) rfl (by decide +kernel) rfl rfl (Nat.le_of_ble_eq_true rfl) rfl dX10_init_56 ?_
  refine zg_aload_n X 0 rfl dX10_init_59 ?_
  refine zc_newC (T := TX2) (fs0 := [.null, .null, .null, .null, .int 0]) X hk4 (n_X2 l d) (by decide) (by decide) rfl zl_in2 tyX2_ok wc_X10_42 wi_X2 mz_X2 (fun j hj => by rcases (show j = 0 ∨ j = 1 ∨ j = 2 ∨ j = 3 ∨ j = 4 by omega) with rfl | rfl | rfl | rfl | rfl <;> rfl) mn_X10_44 mc_X2_init mz_X2 mi_X2_init rfl ⟨md_X2.1, md_X2.2, by decide +kernel⟩ dX10_init_60 dX10_init_63 dX10_init_64 ⟨⟨by decide, by decide⟩, by decide, by decide⟩ (Nat.le_of_ble_eq_true rfl) (fun q5 L5 kd5 s5 e5 t5 r5 hk5 => ?_)
  have X : zX d L5 kd5 A 2 p s m args c cX10_init RX10 := X
  have Rq1_5 : zrt L5 s5 q1 := e5.rr (e4.t (e3.t (e2.t t1))) Rq1_4
  have Rq2_5 : zrt L5 s5 q2 := e5.rr (e4.t (e3.t t2)) Rq2_4
  have Rq3_5 : zrt L5 s5 q3 := e5.rr (e4.t t3) Rq3_4
  have Rq4_5 : zrt L5 s5 q4 := e5.rr t4 r4.1
  refine zc_put (j := 5) (ty := .object RX2) (fs2 := [.ref q1, .ref q2, .ref q3, .ref v1, .ref q4, .ref q5, .null, .null, .null, .null, .null, .null, .int 0, .int 0]) X hin rfl (by decide) zl_in10 tyX10_ok nmX10 (zkl_X10_45) rfl (by decide +kernel) rfl rfl (Nat.le_of_ble_eq_true rfl) rfl dX10_init_67 ?_
  refine zg_aload_n X 0 rfl dX10_init_70 ?_
  refine zc_newC (T := TX1) (fs0 := [.null, .null, .null, .int 0, .int 0, .int 0]) X hk5 (n_X1 l d) (by decide) (by decide) rfl zl_in1 tyX1_ok wc_X10_49 wi_X1 mz_X1 (fun j hj => by rcases (show j = 0 ∨ j = 1 ∨ j = 2 ∨ j = 3 ∨ j = 4 ∨ j = 5 by omega) with rfl | rfl | rfl | rfl | rfl | rfl <;> rfl) mn_X10_51 mc_X1_init mz_X1 mi_X1_init rfl ⟨md_X1.1, md_X1.2, by decide +kernel⟩ dX10_init_71 dX10_init_74 dX10_init_75 ⟨⟨by decide, by decide⟩, by decide, by decide⟩ (Nat.le_of_ble_eq_true rfl) (fun q6 L6 kd6 s6 e6 t6 r6 hk6 => ?_)
  have X : zX d L6 kd6 A 2 p s m args c cX10_init RX10 := X
  have Rq1_6 : zrt L6 s6 q1 := e6.rr (e5.t (e4.t (e3.t (e2.t t1)))) Rq1_5
  have Rq2_6 : zrt L6 s6 q2 := e6.rr (e5.t (e4.t (e3.t t2))) Rq2_5
  have Rq3_6 : zrt L6 s6 q3 := e6.rr (e5.t (e4.t t3)) Rq3_5
  have Rq4_6 : zrt L6 s6 q4 := e6.rr (e5.t t4) Rq4_5
  have Rq5_6 : zrt L6 s6 q5 := e6.rr t5 r5.1
  refine zc_put (j := 6) (ty := .object RX1) (fs2 := [.ref q1, .ref q2, .ref q3, .ref v1, .ref q4, .ref q5, .ref q6, .null, .null, .null, .null, .null, .int 0, .int 0]) X hin rfl (by decide) zl_in10 tyX10_ok nmX10 (zkl_X10_52) rfl (by decide +kernel) rfl rfl (Nat.le_of_ble_eq_true rfl) rfl dX10_init_78 ?_
  refine zg_aload_n X 0 rfl dX10_init_81 ?_
  refine zc_newC (T := TX1) (fs0 := [.null, .null, .null, .int 0, .int 0, .int 0]) X hk6 (n_X1 l d) (by decide) (by decide) rfl zl_in1 tyX1_ok wc_X10_49 wi_X1 mz_X1 (fun j hj => by rcases (show j = 0 ∨ j = 1 ∨ j = 2 ∨ j = 3 ∨ j = 4 ∨ j = 5 by omega) with rfl | rfl | rfl | rfl | rfl | rfl <;> rfl) mn_X10_51 mc_X1_init mz_X1 mi_X1_init rfl ⟨md_X1.1, md_X1.2, by decide +kernel⟩ dX10_init_82 dX10_init_85 dX10_init_86 ⟨⟨by decide, by decide⟩, by decide, by decide⟩ (Nat.le_of_ble_eq_true rfl) (fun q7 L7 kd7 s7 e7 t7 r7 hk7 => ?_)
  have Dq6_q7 : q6 ≠ q7 := fun e => r7.2 (by rw [← e]; exact t6.1)
  have X : zX d L7 kd7 A 2 p s m args c cX10_init RX10 := X
  have Rq1_7 : zrt L7 s7 q1 := e7.rr (e6.t (e5.t (e4.t (e3.t (e2.t t1))))) Rq1_6
  have Rq2_7 : zrt L7 s7 q2 := e7.rr (e6.t (e5.t (e4.t (e3.t t2)))) Rq2_6
  have Rq3_7 : zrt L7 s7 q3 := e7.rr (e6.t (e5.t (e4.t t3))) Rq3_6
  have Rq4_7 : zrt L7 s7 q4 := e7.rr (e6.t (e5.t t4)) Rq4_6
  have Rq5_7 : zrt L7 s7 q5 := e7.rr (e6.t t5) Rq5_6
  have Rq6_7 : zrt L7 s7 q6 := e7.rr t6 r6.1
  refine zc_put (j := 7) (ty := .object RX1) (fs2 := [.ref q1, .ref q2, .ref q3, .ref v1, .ref q4, .ref q5, .ref q6, .ref q7, .null, .null, .null, .null, .int 0, .int 0]) X hin rfl (by decide) zl_in10 tyX10_ok nmX10 (zkl_X10_56) rfl (by decide +kernel) rfl rfl (Nat.le_of_ble_eq_true rfl) rfl dX10_init_89 ?_
  refine zg_aload_n X 0 rfl dX10_init_92 ?_
  refine zg_iconst X 3 dX10_init_93 (by decide) (fun v2 _ hv2 => ?_)
  refine zc_newq X 3 wc_X10_49 (by rw [hv2]; rfl) (by decide) ⟨by decide, by decide⟩ dX10_init_94 (fun qa => ?_)
  refine zc_put (j := 8) (ty := .array (.object RX1)) (fs2 := [.ref q1, .ref q2, .ref q3, .ref v1, .ref q4, .ref q5, .ref q6, .ref q7, .ref qa, .null, .null, .null, .int 0, .int 0]) X hin rfl (by decide) zl_in10 tyX10_ok nmX10 (zkl_X10_59) rfl (by decide +kernel) rfl rfl (Nat.le_of_ble_eq_true rfl) rfl dX10_init_97 ?_
  refine zg_iconst X 0 dX10_init_100 (by decide) (fun v3 _ hv3 => ?_)
  refine zg_istore_n X [(1, .int v3), (0, .ref a0)] dX10_init_101 (by decide) rfl ?_
  refine zg_iload_n X 0 rfl dX10_init_102 ?_
  refine zg_iconst X 3 dX10_init_103 (by decide) (fun v4 _ hv4 => ?_)
  refine zg_icmp_ge X 126 dX10_init_104 (by decide) (fun c5 => ?_) (fun c5 => ?_)
  · omega
  · skip
    refine zg_aload_n X 1 rfl dX10_init_107 ?_
    refine zc_get (j := 8) X rfl (by decide) zl_in10 (zkl_X10_59) rfl dX10_init_108 ?_
    refine zg_iload_n X 0 rfl dX10_init_111 ?_
    refine zc_newC (T := TX1) (fs0 := [.null, .null, .null, .int 0, .int 0, .int 0]) X hk7 (n_X1 l d) (by decide) (by decide) rfl zl_in1 tyX1_ok wc_X10_49 wi_X1 mz_X1 (fun j hj => by rcases (show j = 0 ∨ j = 1 ∨ j = 2 ∨ j = 3 ∨ j = 4 ∨ j = 5 by omega) with rfl | rfl | rfl | rfl | rfl | rfl <;> rfl) mn_X10_51 mc_X1_init mz_X1 mi_X1_init rfl ⟨md_X1.1, md_X1.2, by decide +kernel⟩ dX10_init_112 dX10_init_115 dX10_init_116 ⟨⟨by decide, by decide⟩, by decide, by decide⟩ (Nat.le_of_ble_eq_true rfl) (fun q8 L8 kd8 s8 e8 t8 r8 hk8 => ?_)
    have Dq6_q8 : q6 ≠ q8 := fun e => r8.2 (by rw [← e]; exact (e7.t t6).1)
    have Dq7_q8 : q7 ≠ q8 := fun e => r8.2 (by rw [← e]; exact t7.1)
    have X : zX d L8 kd8 A 2 p s m args c cX10_init RX10 := X
    have Rq1_8 : zrt L8 s8 q1 := e8.rr (e7.t (e6.t (e5.t (e4.t (e3.t (e2.t t1)))))) Rq1_7
    have Rq2_8 : zrt L8 s8 q2 := e8.rr (e7.t (e6.t (e5.t (e4.t (e3.t t2))))) Rq2_7
    have Rq3_8 : zrt L8 s8 q3 := e8.rr (e7.t (e6.t (e5.t (e4.t t3)))) Rq3_7
    have Rq4_8 : zrt L8 s8 q4 := e8.rr (e7.t (e6.t (e5.t t4))) Rq4_7
    have Rq5_8 : zrt L8 s8 q5 := e8.rr (e7.t (e6.t t5)) Rq5_7
    have Rq6_8 : zrt L8 s8 q6 := e8.rr (e7.t t6) Rq6_7
    have Rq7_8 : zrt L8 s8 q7 := e8.rr t7 r7.1
    refine zc_ast 0 X t8 (by omega) (by decide) dX10_init_119 ?_
    refine zg_iinc X 1 (fun v6 => [(1, .int v6), (0, .ref a0)]) 0 dX10_init_120 rfl (by decide) (by decide) (by omega) (by omega) (fun _ => rfl) (fun v6 ev6 hv6 => ?_)
    refine zg_goto X 102 dX10_init_123 (by decide) ?_
    refine zg_iload_n X 0 rfl dX10_init_102 ?_
    refine zg_iconst X 3 dX10_init_103 (by decide) (fun v7 _ hv7 => ?_)
    refine zg_icmp_ge X 126 dX10_init_104 (by decide) (fun c8 => ?_) (fun c8 => ?_)
    · omega
    · skip
      refine zg_aload_n X 1 rfl dX10_init_107 ?_
      refine zc_get (j := 8) X rfl (by decide) zl_in10 (zkl_X10_59) rfl dX10_init_108 ?_
      refine zg_iload_n X 0 rfl dX10_init_111 ?_
      refine zc_newC (T := TX1) (fs0 := [.null, .null, .null, .int 0, .int 0, .int 0]) X hk8 (n_X1 l d) (by decide) (by decide) rfl zl_in1 tyX1_ok wc_X10_49 wi_X1 mz_X1 (fun j hj => by rcases (show j = 0 ∨ j = 1 ∨ j = 2 ∨ j = 3 ∨ j = 4 ∨ j = 5 by omega) with rfl | rfl | rfl | rfl | rfl | rfl <;> rfl) mn_X10_51 mc_X1_init mz_X1 mi_X1_init rfl ⟨md_X1.1, md_X1.2, by decide +kernel⟩ dX10_init_112 dX10_init_115 dX10_init_116 ⟨⟨by decide, by decide⟩, by decide, by decide⟩ (Nat.le_of_ble_eq_true rfl) (fun q9 L9 kd9 s9 e9 t9 r9 hk9 => ?_)
      have Dq6_q9 : q6 ≠ q9 := fun e => r9.2 (by rw [← e]; exact (e8.t (e7.t t6)).1)
      have Dq7_q9 : q7 ≠ q9 := fun e => r9.2 (by rw [← e]; exact (e8.t t7).1)
      have Dq8_q9 : q8 ≠ q9 := fun e => r9.2 (by rw [← e]; exact t8.1)
      have X : zX d L9 kd9 A 2 p s m args c cX10_init RX10 := X
      have Rq1_9 : zrt L9 s9 q1 := e9.rr (e8.t (e7.t (e6.t (e5.t (e4.t (e3.t (e2.t t1))))))) Rq1_8
      have Rq2_9 : zrt L9 s9 q2 := e9.rr (e8.t (e7.t (e6.t (e5.t (e4.t (e3.t t2)))))) Rq2_8
      have Rq3_9 : zrt L9 s9 q3 := e9.rr (e8.t (e7.t (e6.t (e5.t (e4.t t3))))) Rq3_8
      have Rq4_9 : zrt L9 s9 q4 := e9.rr (e8.t (e7.t (e6.t (e5.t t4)))) Rq4_8
      have Rq5_9 : zrt L9 s9 q5 := e9.rr (e8.t (e7.t (e6.t t5))) Rq5_8
      have Rq6_9 : zrt L9 s9 q6 := e9.rr (e8.t (e7.t t6)) Rq6_8
      have Rq7_9 : zrt L9 s9 q7 := e9.rr (e8.t t7) Rq7_8
      have Rq8_9 : zrt L9 s9 q8 := e9.rr t8 r8.1
      refine zc_ast 1 X t9 (by omega) (by decide) dX10_init_119 ?_
      refine zg_iinc X 1 (fun v9 => [(1, .int v9), (0, .ref a0)]) 0 dX10_init_120 rfl (by decide) (by decide) (by omega) (by omega) (fun _ => rfl) (fun v9 ev9 hv9 => ?_)
      refine zg_goto X 102 dX10_init_123 (by decide) ?_
      refine zg_iload_n X 0 rfl dX10_init_102 ?_
      refine zg_iconst X 3 dX10_init_103 (by decide) (fun v10 _ hv10 => ?_)
      refine zg_icmp_ge X 126 dX10_init_104 (by decide) (fun c11 => ?_) (fun c11 => ?_)
      · omega
      · skip
        refine zg_aload_n X 1 rfl dX10_init_107 ?_
        refine zc_get (j := 8) X rfl (by decide) zl_in10 (zkl_X10_59) rfl dX10_init_108 ?_
        refine zg_iload_n X 0 rfl dX10_init_111 ?_
        refine zc_newC (T := TX1) (fs0 := [.null, .null, .null, .int 0, .int 0, .int 0]) X hk9 (n_X1 l d) (by decide) (by decide) rfl zl_in1 tyX1_ok wc_X10_49 wi_X1 mz_X1 (fun j hj => by rcases (show j = 0 ∨ j = 1 ∨ j = 2 ∨ j = 3 ∨ j = 4 ∨ j = 5 by omega) with rfl | rfl | rfl | rfl | rfl | rfl <;> rfl) mn_X10_51 mc_X1_init mz_X1 mi_X1_init rfl ⟨md_X1.1, md_X1.2, by decide +kernel⟩ dX10_init_112 dX10_init_115 dX10_init_116 ⟨⟨by decide, by decide⟩, by decide, by decide⟩ (Nat.le_of_ble_eq_true rfl) (fun q10 L10 kd10 s10 e10 t10 r10 hk10 => ?_)
        have Dq6_q10 : q6 ≠ q10 := fun e => r10.2 (by rw [← e]; exact (e9.t (e8.t (e7.t t6))).1)
        have Dq7_q10 : q7 ≠ q10 := fun e => r10.2 (by rw [← e]; exact (e9.t (e8.t t7)).1)
        have Dq8_q10 : q8 ≠ q10 := fun e => r10.2 (by rw [← e]; exact (e9.t t8).1)
        have Dq9_q10 : q9 ≠ q10 := fun e => r10.2 (by rw [← e]; exact t9.1)
        have X : zX d L10 kd10 A 2 p s m args c cX10_init RX10 := X
        have Rq1_10 : zrt L10 s10 q1 := e10.rr (e9.t (e8.t (e7.t (e6.t (e5.t (e4.t (e3.t (e2.t t1)))))))) Rq1_9
        have Rq2_10 : zrt L10 s10 q2 := e10.rr (e9.t (e8.t (e7.t (e6.t (e5.t (e4.t (e3.t t2))))))) Rq2_9
        have Rq3_10 : zrt L10 s10 q3 := e10.rr (e9.t (e8.t (e7.t (e6.t (e5.t (e4.t t3)))))) Rq3_9
        have Rq4_10 : zrt L10 s10 q4 := e10.rr (e9.t (e8.t (e7.t (e6.t (e5.t t4))))) Rq4_9
        have Rq5_10 : zrt L10 s10 q5 := e10.rr (e9.t (e8.t (e7.t (e6.t t5)))) Rq5_9
        have Rq6_10 : zrt L10 s10 q6 := e10.rr (e9.t (e8.t (e7.t t6))) Rq6_9
        have Rq7_10 : zrt L10 s10 q7 := e10.rr (e9.t (e8.t t7)) Rq7_9
        have Rq8_10 : zrt L10 s10 q8 := e10.rr (e9.t t8) Rq8_9
        have Rq9_10 : zrt L10 s10 q9 := e10.rr t9 r9.1
        refine zc_ast 2 X t10 (by omega) (by decide) dX10_init_119 ?_
        refine zg_iinc X 1 (fun v12 => [(1, .int v12), (0, .ref a0)]) 0 dX10_init_120 rfl (by decide) (by decide) (by omega) (by omega) (fun _ => rfl) (fun v12 ev12 hv12 => ?_)
        refine zg_goto X 102 dX10_init_123 (by decide) ?_
        refine zg_iload_n X 0 rfl dX10_init_102 ?_
        refine zg_iconst X 3 dX10_init_103 (by decide) (fun v13 _ hv13 => ?_)
        refine zg_icmp_ge X 126 dX10_init_104 (by decide) (fun c14 => ?_) (fun c14 => ?_)
        · skip
          have hfi11 : ∀ i j y, i < 3 → j < 3 → (va_up (va_up (va_up (fun _ => none) 0 (some q8)) 1 (some q9)) 2 (some q10)) i = some y → (va_up (va_up (va_up (fun _ => none) 0 (some q8)) 1 (some q9)) 2 (some q10)) j = some y → i = j := by
            intro i j y hi hj e1 e2
            rcases (show i = 0 ∨ i = 1 ∨ i = 2 by omega) with rfl | rfl | rfl <;> rcases (show j = 0 ∨ j = 1 ∨ j = 2 by omega) with rfl | rfl | rfl
            · exact rfl
            · exact absurd (Option.some.inj ((show some q8 = some y from e1).trans (show some q9 = some y from e2).symm)) Dq8_q9
            · exact absurd (Option.some.inj ((show some q8 = some y from e1).trans (show some q10 = some y from e2).symm)) Dq8_q10
            · exact absurd (Option.some.inj ((show some q9 = some y from e1).trans (show some q8 = some y from e2).symm)) (Ne.symm Dq8_q9)
            · exact rfl
            · exact absurd (Option.some.inj ((show some q9 = some y from e1).trans (show some q10 = some y from e2).symm)) Dq9_q10
            · exact absurd (Option.some.inj ((show some q10 = some y from e1).trans (show some q8 = some y from e2).symm)) (Ne.symm Dq8_q10)
            · exact absurd (Option.some.inj ((show some q10 = some y from e1).trans (show some q9 = some y from e2).symm)) (Ne.symm Dq9_q10)
            · exact rfl
          refine zc_row (k := 52) hk10 rfl rfl (by decide) (fun _ => rfl) (fun _ => rfl) (by decide) rfl (by decide) (by decide) (by decide) (by decide) (fun j hj => by rcases (show j = 0 ∨ j = 1 ∨ j = 2 by omega) with rfl | rfl | rfl; exact ⟨_, rfl, (e10.t (e9.t t8)), Rq8_10⟩; exact ⟨_, rfl, (e10.t t9), Rq9_10⟩; exact ⟨_, rfl, t10, r10.1⟩) hfi11 (fun L11 kd11 s11 e11 er11 t11 r11 hk11 => ?_)
          have X : zX d L11 kd11 A 2 p s m args c cX10_init RX10 := X
          have Rq1_11 : zrt L11 s11 q1 := er11 q1 (e10.t (e9.t (e8.t (e7.t (e6.t (e5.t (e4.t (e3.t (e2.t t1))))))))).1 Rq1_10 (fun j hj z => by rcases (show j = 0 ∨ j = 1 ∨ j = 2 by omega) with rfl | rfl | rfl; exact (zNk (e10.t (e9.t t8)) (e10.t (e9.t (e8.t (e7.t (e6.t (e5.t (e4.t (e3.t (e2.t t1))))))))) (by decide)) (Option.some.inj z); exact (zNk (e10.t t9) (e10.t (e9.t (e8.t (e7.t (e6.t (e5.t (e4.t (e3.t (e2.t t1))))))))) (by decide)) (Option.some.inj z); exact (zNk t10 (e10.t (e9.t (e8.t (e7.t (e6.t (e5.t (e4.t (e3.t (e2.t t1))))))))) (by decide)) (Option.some.inj z))
          have Rq2_11 : zrt L11 s11 q2 := er11 q2 (e10.t (e9.t (e8.t (e7.t (e6.t (e5.t (e4.t (e3.t t2)))))))).1 Rq2_10 (fun j hj z => by rcases (show j = 0 ∨ j = 1 ∨ j = 2 by omega) with rfl | rfl | rfl; exact (zNk (e10.t (e9.t t8)) (e10.t (e9.t (e8.t (e7.t (e6.t (e5.t (e4.t (e3.t t2)))))))) (by decide)) (Option.some.inj z); exact (zNk (e10.t t9) (e10.t (e9.t (e8.t (e7.t (e6.t (e5.t (e4.t (e3.t t2)))))))) (by decide)) (Option.some.inj z); exact (zNk t10 (e10.t (e9.t (e8.t (e7.t (e6.t (e5.t (e4.t (e3.t t2)))))))) (by decide)) (Option.some.inj z))
          have Rq3_11 : zrt L11 s11 q3 := er11 q3 (e10.t (e9.t (e8.t (e7.t (e6.t (e5.t (e4.t t3))))))).1 Rq3_10 (fun j hj z => by rcases (show j = 0 ∨ j = 1 ∨ j = 2 by omega) with rfl | rfl | rfl; exact (zNk (e10.t (e9.t t8)) (e10.t (e9.t (e8.t (e7.t (e6.t (e5.t (e4.t t3))))))) (by decide)) (Option.some.inj z); exact (zNk (e10.t t9) (e10.t (e9.t (e8.t (e7.t (e6.t (e5.t (e4.t t3))))))) (by decide)) (Option.some.inj z); exact (zNk t10 (e10.t (e9.t (e8.t (e7.t (e6.t (e5.t (e4.t t3))))))) (by decide)) (Option.some.inj z))
          have Rq4_11 : zrt L11 s11 q4 := er11 q4 (e10.t (e9.t (e8.t (e7.t (e6.t (e5.t t4)))))).1 Rq4_10 (fun j hj z => by rcases (show j = 0 ∨ j = 1 ∨ j = 2 by omega) with rfl | rfl | rfl; exact (zNk (e10.t (e9.t t8)) (e10.t (e9.t (e8.t (e7.t (e6.t (e5.t t4)))))) (by decide)) (Option.some.inj z); exact (zNk (e10.t t9) (e10.t (e9.t (e8.t (e7.t (e6.t (e5.t t4)))))) (by decide)) (Option.some.inj z); exact (zNk t10 (e10.t (e9.t (e8.t (e7.t (e6.t (e5.t t4)))))) (by decide)) (Option.some.inj z))
          have Rq5_11 : zrt L11 s11 q5 := er11 q5 (e10.t (e9.t (e8.t (e7.t (e6.t t5))))).1 Rq5_10 (fun j hj z => by rcases (show j = 0 ∨ j = 1 ∨ j = 2 by omega) with rfl | rfl | rfl; exact (zNk (e10.t (e9.t t8)) (e10.t (e9.t (e8.t (e7.t (e6.t t5))))) (by decide)) (Option.some.inj z); exact (zNk (e10.t t9) (e10.t (e9.t (e8.t (e7.t (e6.t t5))))) (by decide)) (Option.some.inj z); exact (zNk t10 (e10.t (e9.t (e8.t (e7.t (e6.t t5))))) (by decide)) (Option.some.inj z))
          have Rq6_11 : zrt L11 s11 q6 := er11 q6 (e10.t (e9.t (e8.t (e7.t t6)))).1 Rq6_10 (fun j hj z => by rcases (show j = 0 ∨ j = 1 ∨ j = 2 by omega) with rfl | rfl | rfl; exact (Ne.symm Dq6_q8) (Option.some.inj z); exact (Ne.symm Dq6_q9) (Option.some.inj z); exact (Ne.symm Dq6_q10) (Option.some.inj z))
          have Rq7_11 : zrt L11 s11 q7 := er11 q7 (e10.t (e9.t (e8.t t7))).1 Rq7_10 (fun j hj z => by rcases (show j = 0 ∨ j = 1 ∨ j = 2 by omega) with rfl | rfl | rfl; exact (Ne.symm Dq7_q8) (Option.some.inj z); exact (Ne.symm Dq7_q9) (Option.some.inj z); exact (Ne.symm Dq7_q10) (Option.some.inj z))
          refine zg_aload_n X 1 rfl dX10_init_126 ?_
          refine zg_bipush X 12 dX10_init_127 (by decide) (fun v15 _ hv15 => ?_)
          refine zc_newi X 53 13 1 hk11 wa_int rfl rfl (Or.inr (Or.inl rfl)) rfl rfl (by rw [hv15]; rfl) (by decide) (fun j => ⟨show (-2147483648 : Int) ≤ 0 by decide, show (0 : Int) ≤ 2147483647 by decide⟩) (fun _ => rfl) (by decide) (by decide) (by decide) ⟨by decide, by decide⟩ dX10_init_129 (fun q12 L12 kd12 s12 e12 t12 r12 hk12 => ?_)
          have X : zX d L12 kd12 A 2 p s m args c cX10_init RX10 := X
          have Rq1_12 : zrt L12 s12 q1 := e12.rr (e11.t (e10.t (e9.t (e8.t (e7.t (e6.t (e5.t (e4.t (e3.t (e2.t t1)))))))))) Rq1_11
          have Rq2_12 : zrt L12 s12 q2 := e12.rr (e11.t (e10.t (e9.t (e8.t (e7.t (e6.t (e5.t (e4.t (e3.t t2))))))))) Rq2_11
          have Rq3_12 : zrt L12 s12 q3 := e12.rr (e11.t (e10.t (e9.t (e8.t (e7.t (e6.t (e5.t (e4.t t3)))))))) Rq3_11
          have Rq4_12 : zrt L12 s12 q4 := e12.rr (e11.t (e10.t (e9.t (e8.t (e7.t (e6.t (e5.t t4))))))) Rq4_11
          have Rq5_12 : zrt L12 s12 q5 := e12.rr (e11.t (e10.t (e9.t (e8.t (e7.t (e6.t t5)))))) Rq5_11
          have Rq6_12 : zrt L12 s12 q6 := e12.rr (e11.t (e10.t (e9.t (e8.t (e7.t t6))))) Rq6_11
          have Rq7_12 : zrt L12 s12 q7 := e12.rr (e11.t (e10.t (e9.t (e8.t t7)))) Rq7_11
          have Rqa_12 : zrt L12 s12 qa := e12.rr t11 r11.1
          refine zc_put (j := 9) (ty := .array .int) (fs2 := [.ref q1, .ref q2, .ref q3, .ref v1, .ref q4, .ref q5, .ref q6, .ref q7, .ref qa, .ref q12, .null, .null, .int 0, .int 0]) X hin rfl (by decide) zl_in10 tyX10_ok nmX10 (zkl_X10_63) rfl (by decide +kernel) rfl rfl (Nat.le_of_ble_eq_true rfl) rfl dX10_init_131 ?_
          refine zg_aload_n X 1 rfl dX10_init_134 ?_
          refine zc_newC (T := TX9) (fs0 := [.int 0, .null, .null, .null, .null, .null, .null, .null, .int 0, .null, .int 0, .int 0, .int 0, .int 0]) X hk12 (n_X9 l d) (by decide) (by decide) rfl zl_in9 tyX9_ok wc_X10_67 wi_X9 mz_X9 (fun j hj => by rcases (show j = 0 ∨ j = 1 ∨ j = 2 ∨ j = 3 ∨ j = 4 ∨ j = 5 ∨ j = 6 ∨ j = 7 ∨ j = 8 ∨ j = 9 ∨ j = 10 ∨ j = 11 ∨ j = 12 ∨ j = 13 by omega) with rfl | rfl | rfl | rfl | rfl | rfl | rfl | rfl | rfl | rfl | rfl | rfl | rfl | rfl <;> rfl) mn_X10_69 mc_X9_init mz_X9 mi_X9_init rfl ⟨md_X9.1, md_X9.2, by decide +kernel⟩ dX10_init_135 dX10_init_138 dX10_init_139 ⟨⟨by decide, by decide⟩, by decide, by decide⟩ (Nat.le_of_ble_eq_true rfl) (fun q13 L13 kd13 s13 e13 t13 r13 hk13 => ?_)
          have X : zX d L13 kd13 A 2 p s m args c cX10_init RX10 := X
          have Rq1_13 : zrt L13 s13 q1 := e13.rr (e12.t (e11.t (e10.t (e9.t (e8.t (e7.t (e6.t (e5.t (e4.t (e3.t (e2.t t1))))))))))) Rq1_12
          have Rq2_13 : zrt L13 s13 q2 := e13.rr (e12.t (e11.t (e10.t (e9.t (e8.t (e7.t (e6.t (e5.t (e4.t (e3.t t2)))))))))) Rq2_12
          have Rq3_13 : zrt L13 s13 q3 := e13.rr (e12.t (e11.t (e10.t (e9.t (e8.t (e7.t (e6.t (e5.t (e4.t t3))))))))) Rq3_12
          have Rq4_13 : zrt L13 s13 q4 := e13.rr (e12.t (e11.t (e10.t (e9.t (e8.t (e7.t (e6.t (e5.t t4)))))))) Rq4_12
          have Rq5_13 : zrt L13 s13 q5 := e13.rr (e12.t (e11.t (e10.t (e9.t (e8.t (e7.t (e6.t t5))))))) Rq5_12
          have Rq6_13 : zrt L13 s13 q6 := e13.rr (e12.t (e11.t (e10.t (e9.t (e8.t (e7.t t6)))))) Rq6_12
          have Rq7_13 : zrt L13 s13 q7 := e13.rr (e12.t (e11.t (e10.t (e9.t (e8.t t7))))) Rq7_12
          have Rqa_13 : zrt L13 s13 qa := e13.rr (e12.t t11) Rqa_12
          have Rq12_13 : zrt L13 s13 q12 := e13.rr t12 r12.1
          refine zc_put (j := 10) (ty := .object RX9) (fs2 := [.ref q1, .ref q2, .ref q3, .ref v1, .ref q4, .ref q5, .ref q6, .ref q7, .ref qa, .ref q12, .ref q13, .null, .int 0, .int 0]) X hin rfl (by decide) zl_in10 tyX10_ok nmX10 (zkl_X10_70) rfl (by decide +kernel) rfl rfl (Nat.le_of_ble_eq_true rfl) rfl dX10_init_142 ?_
          refine zg_aload_n X 1 rfl dX10_init_145 ?_
          refine zc_newC (T := TX9) (fs0 := [.int 0, .null, .null, .null, .null, .null, .null, .null, .int 0, .null, .int 0, .int 0, .int 0, .int 0]) X hk13 (n_X9 l d) (by decide) (by decide) rfl zl_in9 tyX9_ok wc_X10_67 wi_X9 mz_X9 (fun j hj => by rcases (show j = 0 ∨ j = 1 ∨ j = 2 ∨ j = 3 ∨ j = 4 ∨ j = 5 ∨ j = 6 ∨ j = 7 ∨ j = 8 ∨ j = 9 ∨ j = 10 ∨ j = 11 ∨ j = 12 ∨ j = 13 by omega) with rfl | rfl | rfl | rfl | rfl | rfl | rfl | rfl | rfl | rfl | rfl | rfl | rfl | rfl <;> rfl) mn_X10_69 mc_X9_init mz_X9 mi_X9_init rfl ⟨md_X9.1, md_X9.2, by decide +kernel⟩ dX10_init_146 dX10_init_149 dX10_init_150 ⟨⟨by decide, by decide⟩, by decide, by decide⟩ (Nat.le_of_ble_eq_true rfl) (fun q14 L14 kd14 s14 e14 t14 r14 hk14 => ?_)
          have Dq13_q14 : q13 ≠ q14 := fun e => r14.2 (by rw [← e]; exact t13.1)
          have X : zX d L14 kd14 A 2 p s m args c cX10_init RX10 := X
          have Rq1_14 : zrt L14 s14 q1 := e14.rr (e13.t (e12.t (e11.t (e10.t (e9.t (e8.t (e7.t (e6.t (e5.t (e4.t (e3.t (e2.t t1)))))))))))) Rq1_13
          have Rq2_14 : zrt L14 s14 q2 := e14.rr (e13.t (e12.t (e11.t (e10.t (e9.t (e8.t (e7.t (e6.t (e5.t (e4.t (e3.t t2))))))))))) Rq2_13
          have Rq3_14 : zrt L14 s14 q3 := e14.rr (e13.t (e12.t (e11.t (e10.t (e9.t (e8.t (e7.t (e6.t (e5.t (e4.t t3)))))))))) Rq3_13
          have Rq4_14 : zrt L14 s14 q4 := e14.rr (e13.t (e12.t (e11.t (e10.t (e9.t (e8.t (e7.t (e6.t (e5.t t4))))))))) Rq4_13
          have Rq5_14 : zrt L14 s14 q5 := e14.rr (e13.t (e12.t (e11.t (e10.t (e9.t (e8.t (e7.t (e6.t t5)))))))) Rq5_13
          have Rq6_14 : zrt L14 s14 q6 := e14.rr (e13.t (e12.t (e11.t (e10.t (e9.t (e8.t (e7.t t6))))))) Rq6_13
          have Rq7_14 : zrt L14 s14 q7 := e14.rr (e13.t (e12.t (e11.t (e10.t (e9.t (e8.t t7)))))) Rq7_13
          have Rqa_14 : zrt L14 s14 qa := e14.rr (e13.t (e12.t t11)) Rqa_13
          have Rq12_14 : zrt L14 s14 q12 := e14.rr (e13.t t12) Rq12_13
          have Rq13_14 : zrt L14 s14 q13 := e14.rr t13 r13.1
          refine zc_put (j := 11) (ty := .object RX9) (fs2 := [.ref q1, .ref q2, .ref q3, .ref v1, .ref q4, .ref q5, .ref q6, .ref q7, .ref qa, .ref q12, .ref q13, .ref q14, .int 0, .int 0]) X hin rfl (by decide) zl_in10 tyX10_ok nmX10 (zkl_X10_74) rfl (by decide +kernel) rfl rfl (Nat.le_of_ble_eq_true rfl) rfl dX10_init_153 ?_
          refine zg_aload_n X 1 rfl dX10_init_156 ?_
          refine zg_iconst X 0 dX10_init_157 (by decide) (fun v16 _ hv16 => ?_)
          refine zc_put (j := 12) (ty := .int) (fs2 := [.ref q1, .ref q2, .ref q3, .ref v1, .ref q4, .ref q5, .ref q6, .ref q7, .ref qa, .ref q12, .ref q13, .ref q14, .int v16, .int 0]) X hin rfl (by decide) zl_in10 tyX10_ok nmX10 (zkl_X10_77) rfl (by decide +kernel) rfl rfl (Nat.le_of_ble_eq_true rfl) rfl dX10_init_158 ?_
          refine zg_aload_n X 1 rfl dX10_init_161 ?_
          refine zg_iconst X (-1) dX10_init_162 (by decide) (fun v17 _ hv17 => ?_)
          refine zc_put (j := 13) (ty := .int) (fs2 := [.ref q1, .ref q2, .ref q3, .ref v1, .ref q4, .ref q5, .ref q6, .ref q7, .ref qa, .ref q12, .ref q13, .ref q14, .int v16, .int v17]) X hin rfl (by decide) zl_in10 tyX10_ok nmX10 (zkl_X10_81) rfl (by decide +kernel) rfl rfl (Nat.le_of_ble_eq_true rfl) rfl dX10_init_163 ?_
          have hf15 : ∀ j k2, zf 0 10 j = some k2 → ∃ y, (fun j => ([some q1, some q2, some q3, some v1, some q4, some q5, some q6, some q7, some qa, some q12, some q13, some q14, none, none] : List (Option Nat)).getD j none) j = some y ∧ zT L14 kd14 y k2 := by
            intro j k2 h
            have h := zf_list (by decide) h
            rw [show (zfl.filter (fun q => q.1 == 10 && q.2.2.2 == 0)).map (fun q => (q.2.1, q.2.2.1)) = ([(0, 7), (1, 3), (2, 5), (3, 6), (4, 4), (5, 2), (6, 1), (7, 1), (8, 52), (9, 53), (10, 9), (11, 9)] : List (Nat × Nat)) from by decide +kernel] at h
            simp only [List.mem_cons, Prod.mk.injEq, List.not_mem_nil, or_false] at h
            rcases h with ⟨rfl, rfl⟩ | ⟨rfl, rfl⟩ | ⟨rfl, rfl⟩ | ⟨rfl, rfl⟩ | ⟨rfl, rfl⟩ | ⟨rfl, rfl⟩ | ⟨rfl, rfl⟩ | ⟨rfl, rfl⟩ | ⟨rfl, rfl⟩ | ⟨rfl, rfl⟩ | ⟨rfl, rfl⟩ | ⟨rfl, rfl⟩
            · exact ⟨_, rfl, (e14.t (e13.t (e12.t (e11.t (e10.t (e9.t (e8.t (e7.t (e6.t (e5.t (e4.t (e3.t (e2.t t1)))))))))))))⟩
            · exact ⟨_, rfl, (e14.t (e13.t (e12.t (e11.t (e10.t (e9.t (e8.t (e7.t (e6.t (e5.t (e4.t (e3.t t2))))))))))))⟩
            · exact ⟨_, rfl, (e14.t (e13.t (e12.t (e11.t (e10.t (e9.t (e8.t (e7.t (e6.t (e5.t (e4.t t3)))))))))))⟩
            · exact ⟨_, rfl, (e14.t (e13.t (e12.t (e11.t (e10.t (e9.t (e8.t (e7.t (e6.t (e5.t (e4.t hv1)))))))))))⟩
            · exact ⟨_, rfl, (e14.t (e13.t (e12.t (e11.t (e10.t (e9.t (e8.t (e7.t (e6.t (e5.t t4))))))))))⟩
            · exact ⟨_, rfl, (e14.t (e13.t (e12.t (e11.t (e10.t (e9.t (e8.t (e7.t (e6.t t5)))))))))⟩
            · exact ⟨_, rfl, (e14.t (e13.t (e12.t (e11.t (e10.t (e9.t (e8.t (e7.t t6))))))))⟩
            · exact ⟨_, rfl, (e14.t (e13.t (e12.t (e11.t (e10.t (e9.t (e8.t t7)))))))⟩
            · exact ⟨_, rfl, (e14.t (e13.t (e12.t t11)))⟩
            · exact ⟨_, rfl, (e14.t (e13.t t12))⟩
            · exact ⟨_, rfl, (e14.t t13)⟩
            · exact ⟨_, rfl, t14⟩
          have hq15 : ∀ j y, (fun j => ([some q1, some q2, some q3, some v1, some q4, some q5, some q6, some q7, some qa, some q12, some q13, some q14, none, none] : List (Option Nat)).getD j none) j = some y → (j < 14 ∧ zf 0 10 j ≠ none) ∧ y ∈ L14 ∧ ((kd14 : Nat → Nat) y ≠ 6 → zrt L14 s14 y) := by
            intro j y e
            have hj : j < 14 := zgN 14 e
            rcases (show j = 0 ∨ j = 1 ∨ j = 2 ∨ j = 3 ∨ j = 4 ∨ j = 5 ∨ j = 6 ∨ j = 7 ∨ j = 8 ∨ j = 9 ∨ j = 10 ∨ j = 11 ∨ j = 12 ∨ j = 13 by omega) with rfl | rfl | rfl | rfl | rfl | rfl | rfl | rfl | rfl | rfl | rfl | rfl | rfl | rfl
            · cases (show some q1 = some y from e); exact ⟨⟨by decide, by decide⟩, (e14.t (e13.t (e12.t (e11.t (e10.t (e9.t (e8.t (e7.t (e6.t (e5.t (e4.t (e3.t (e2.t t1))))))))))))).1, fun _ => Rq1_14⟩
            · cases (show some q2 = some y from e); exact ⟨⟨by decide, by decide⟩, (e14.t (e13.t (e12.t (e11.t (e10.t (e9.t (e8.t (e7.t (e6.t (e5.t (e4.t (e3.t t2)))))))))))).1, fun _ => Rq2_14⟩
            · cases (show some q3 = some y from e); exact ⟨⟨by decide, by decide⟩, (e14.t (e13.t (e12.t (e11.t (e10.t (e9.t (e8.t (e7.t (e6.t (e5.t (e4.t t3))))))))))).1, fun _ => Rq3_14⟩
            · cases (show some v1 = some y from e); exact ⟨⟨by decide, by decide⟩, (e14.t (e13.t (e12.t (e11.t (e10.t (e9.t (e8.t (e7.t (e6.t (e5.t (e4.t hv1))))))))))).1, fun n => absurd (e14.t (e13.t (e12.t (e11.t (e10.t (e9.t (e8.t (e7.t (e6.t (e5.t (e4.t hv1))))))))))).2 n⟩
            · cases (show some q4 = some y from e); exact ⟨⟨by decide, by decide⟩, (e14.t (e13.t (e12.t (e11.t (e10.t (e9.t (e8.t (e7.t (e6.t (e5.t t4)))))))))).1, fun _ => Rq4_14⟩
            · cases (show some q5 = some y from e); exact ⟨⟨by decide, by decide⟩, (e14.t (e13.t (e12.t (e11.t (e10.t (e9.t (e8.t (e7.t (e6.t t5))))))))).1, fun _ => Rq5_14⟩
            · cases (show some q6 = some y from e); exact ⟨⟨by decide, by decide⟩, (e14.t (e13.t (e12.t (e11.t (e10.t (e9.t (e8.t (e7.t t6)))))))).1, fun _ => Rq6_14⟩
            · cases (show some q7 = some y from e); exact ⟨⟨by decide, by decide⟩, (e14.t (e13.t (e12.t (e11.t (e10.t (e9.t (e8.t t7))))))).1, fun _ => Rq7_14⟩
            · cases (show some qa = some y from e); exact ⟨⟨by decide, by decide⟩, (e14.t (e13.t (e12.t t11))).1, fun _ => Rqa_14⟩
            · cases (show some q12 = some y from e); exact ⟨⟨by decide, by decide⟩, (e14.t (e13.t t12)).1, fun _ => Rq12_14⟩
            · cases (show some q13 = some y from e); exact ⟨⟨by decide, by decide⟩, (e14.t t13).1, fun _ => Rq13_14⟩
            · cases (show some q14 = some y from e); exact ⟨⟨by decide, by decide⟩, t14.1, fun _ => r14.1⟩
            · cases (show (none : Option Nat) = some y from e)
            · cases (show (none : Option Nat) = some y from e)
          have hi15 : ∀ j j' y, (fun j => ([some q1, some q2, some q3, some v1, some q4, some q5, some q6, some q7, some qa, some q12, some q13, some q14, none, none] : List (Option Nat)).getD j none) j = some y → (fun j => ([some q1, some q2, some q3, some v1, some q4, some q5, some q6, some q7, some qa, some q12, some q13, some q14, none, none] : List (Option Nat)).getD j none) j' = some y → j = j' := by
            intro j j' y e e'
            rcases zinjk (N := 14) (Xr := fun j j' => (([(6, 7), (7, 6), (10, 11), (11, 10)] : List (Nat × Nat)).contains (j, j')) = true) hf15 (fun j y e => (hq15 j y e).1) (by decide +kernel) e e' with z | z
            · exact z
            · have z : (j = 6 ∧ j' = 7) ∨ (j = 7 ∧ j' = 6) ∨ (j = 10 ∧ j' = 11) ∨ (j = 11 ∧ j' = 10) := by simpa using z
              rcases z with ⟨rfl, rfl⟩ | ⟨rfl, rfl⟩ | ⟨rfl, rfl⟩ | ⟨rfl, rfl⟩
              · exact absurd (Option.some.inj ((show some q6 = some y from e).trans (show some q7 = some y from e').symm)) Dq6_q7
              · exact absurd (Option.some.inj ((show some q6 = some y from e').trans (show some q7 = some y from e).symm)) Dq6_q7
              · exact absurd (Option.some.inj ((show some q13 = some y from e).trans (show some q14 = some y from e').symm)) Dq13_q14
              · exact absurd (Option.some.inj ((show some q13 = some y from e').trans (show some q14 = some y from e).symm)) Dq13_q14
          refine zc_typed (b2 := (List.contains ([10, 52, 7, 39, 3, 8, 40, 41, 42, 43, 5, 6, 33, 34, 35, 36, 37, 38, 0, 20, 21, 30, 31, 32, 4, 29, 1, 22, 23, 24, 2, 25, 26, 27, 28, 1, 22, 23, 24, 1, 22, 23, 24, 1, 22, 23, 24, 1, 22, 23, 24, 1, 22, 23, 24, 53, 9, 44, 45, 46, 47, 48, 49, 50, 51, 9, 44, 45, 46, 47, 48, 49, 50, 51] : List Nat) 8)) (k := 10) (fun j => ([0, 0, 0, 0, 0, 0, 0, 0, 0, 0, 0, 0, v16, v17] : List Int32).getD j 0) (fun j => ([0, 0, 0, 0, 0, 0, 0, 0, 0, 0, 0, 0, 0, 0] : List Int64).getD j 0) (fun j => ([some q1, some q2, some q3, some v1, some q4, some q5, some q6, some q7, some qa, some q12, some q13, some q14, none, none] : List (Option Nat)).getD j none) hk14 rfl (by decide) rfl ?_ hf15 (by decide) (by decide) (by decide) (by decide) ⟨fun e => absurd e (by decide), fun e => absurd e (by decide), fun e => absurd e (by decide), fun e => absurd e (by decide), fun _ => ⟨Int32.toInt_inj.mp (hv16.trans (by decide)), Int32.toInt_inj.mp (hv17.trans (by decide))⟩, fun e => absurd e (by decide)⟩ (fun j y e => (hq15 j y e).2) (fun j j' y e e' _ _ _ => hi15 j j' y e e') (fun L15 kd15 s15 e15 ta15 rt15 hk15 => ?_)
          · intro j
            rcases zr_list (k := 10) (by decide) j with h | h
            · rw [h]; exact zb_rng _
            · rw [show ((zrl 0).filter (fun q => q.1 == 10)).map (fun q => (q.2.1, q.2.2)) = ([] : List (Nat × Int × Int)) from by decide +kernel] at h
              exact absurd h List.not_mem_nil
          have X : zX d L15 kd15 A 2 p s m args c cX10_init RX10 := X
          exact ret _ _ _ _ _ dX10_init_166 ta15 rt15 hk15
        · omega
end
-- 20.model
section
/-! THE REFERENCE: one object (kind 11), its arrays (kinds 100 + slot). zJ: ranges, what references hold, one cell of a kind; kappa: taped. zSame: what a method leaves as it was: but for the slots Wf of the object and the arrays of the kinds Wa -/
def zJ (κ : Int) (L : List Nat) (kd : Nat → Nat) (σ : zS) : Prop :=
  (∀ a ∈ L, ∀ j, (zr κ (kd a) j).1 ≤ (σ.1 a j).toInt ∧ (σ.1 a j).toInt ≤ (zr κ (kd a) j).2) ∧ (∀ a ∈ L, ∀ j k, zf 0 (kd a) j = some k → ∃ y, σ.2.2 a j = some y ∧ zT L kd y k) ∧ (0 ≤ κ ∧ κ ≤ 2000) ∧ (∀ a ∈ L, ∀ a' ∈ L, kd a = kd a' → a = a') ∧ (∀ a ∈ L, kd a ≠ 7)
theorem zj_get {κ : Int} {L : List Nat} {kd : Nat → Nat} {σ : zS} {a k j : Nat} {lo hi : Int} (h : zJ κ L kd σ) (ha : zT L kd a k) (hr : zr κ k j = (lo, hi)) : lo ≤ (σ.1 a j).toInt ∧ (σ.1 a j).toInt ≤ hi := by
  have q := h.1 a ha.1 j
  rw [ha.2, hr] at q
  exact q
theorem zj_ref {κ : Int} {L : List Nat} {kd : Nat → Nat} {σ : zS} {a k j k2 : Nat} (h : zJ κ L kd σ) (ha : zT L kd a k) (hf : zf 0 k j = some k2) : ∃ y, σ.2.2 a j = some y ∧ zT L kd y k2 := h.2.1 a ha.1 j k2 (by rw [ha.2]; exact hf)
theorem zj_puti {κ : Int} {L : List Nat} {kd : Nat → Nat} {σ : zS} {a k j : Nat} {lo hi : Int} {v : Int32} (h : zJ κ L kd σ) (ha : zT L kd a k) (hr : zr κ k j = (lo, hi)) (h1 : lo ≤ v.toInt) (h2 : v.toInt ≤ hi) : zJ κ L kd (zu σ.1 a j v, σ.2.1, σ.2.2) := by
  refine ⟨fun a' ha' j' => ?_, h.2.1, h.2.2⟩
  show _ ≤ (zu σ.1 a j v a' j').toInt ∧ (zu σ.1 a j v a' j').toInt ≤ _
  unfold zu
  split
  · next e =>
    subst e
    split
    · next e2 =>
      subst e2
      rw [ha.2, hr]
      exact ⟨h1, h2⟩
    · exact h.1 _ ha' j'
  · exact h.1 a' ha' j'
theorem zj_putl {κ : Int} {L : List Nat} {kd : Nat → Nat} {σ : zS} {f : Nat → Nat → Int64} (h : zJ κ L kd σ) : zJ κ L kd (σ.1, f, σ.2.2) := h
theorem zj_eq {L : List Nat} {kd : Nat → Nat} {κ κ2 : Int} {σ : zS} (e : κ2 = κ) (h : zJ κ2 L kd σ) : zJ κ L kd σ := e ▸ h
theorem zj_taped {L : List Nat} {kd : Nat → Nat} {κ : Int} {σ : zS} {a : Nat} {v : Int32} (h : zJ κ L kd σ) (ha : zT L kd a 11) (h0 : 0 ≤ v.toInt) (h1 : v.toInt ≤ 2000) : zJ v.toInt L kd (zu σ.1 a 2 v, σ.2.1, σ.2.2) := by
  refine ⟨fun a' ha' j' => ?_, h.2.1, ⟨h0, h1⟩, h.2.2.2⟩
  show _ ≤ (zu σ.1 a 2 v a' j').toInt ∧ (zu σ.1 a 2 v a' j').toInt ≤ _
  by_cases e : a' = a
  · subst e
    by_cases e2 : j' = 2
    · subst e2
      rw [ha.2, zu_s]
      exact ⟨Int.le_refl _, Int.le_refl _⟩
    · have q := h.1 _ ha' j'
      rw [ha.2] at q ⊢
      have z1 : zr v.toInt 11 j' = zr κ 11 j' := by
        have e3 : (zrl v.toInt).find? (fun q => q.1 == 11 && (q.2.1 == 9999 || q.2.1 == j')) = (zrl κ).find? (fun q => q.1 == 11 && (q.2.1 == 9999 || q.2.1 == j')) := by
          simp [zrl, List.find?, show (2 == j') = false from by simp; omega]
        simp [zr, e3]
      rw [z1]
      simpa [zu, e2] using q
  · rw [zu_n _ _ _ e]
    have q := h.1 a' ha' j'
    have h11 : kd a' ≠ 11 := fun z => e (h.2.2.2.1 a' ha' a ha.1 (by rw [z, ha.2]))
    rw [zr_other (κ2 := v.toInt) (h.2.2.2.2 a' ha') h11] at q
    exact q
def zSame (o : Nat) (Wf Wa : List Nat) (L : List Nat) (kd : Nat → Nat) (σ σ2 : zS) : Prop := (∀ a ∈ L, kd a ≠ 11 → kd a ∉ Wa → σ2.1 a = σ.1 a ∧ σ2.2.1 a = σ.2.1 a) ∧ (∀ j, j ∉ Wf → σ2.1 o j = σ.1 o j) ∧ σ2.2.2 = σ.2.2
theorem zSame.rf {o : Nat} {Wf Wa L : List Nat} {kd : Nat → Nat} {σ : zS} : zSame o Wf Wa L kd σ σ := ⟨fun _ _ _ _ => ⟨rfl, rfl⟩, fun _ _ => rfl, rfl⟩
theorem zSame.tr {o : Nat} {Wf Wa Wf2 Wa2 L : List Nat} {kd : Nat → Nat} {σ0 σ σ2 : zS} (h : zSame o Wf Wa L kd σ0 σ) (g : zSame o Wf2 Wa2 L kd σ σ2) (h1 : Wf2.all (fun j => Wf.contains j) = true) (h2 : Wa2.all (fun j => Wa.contains j) = true) : zSame o Wf Wa L kd σ0 σ2 := by
  have k1 : ∀ j, j ∉ Wf → j ∉ Wf2 := fun j hj hm => hj (by have q := List.all_eq_true.mp h1 j hm; simpa using q)
  have k2 : ∀ j, j ∉ Wa → j ∉ Wa2 := fun j hj hm => hj (by have q := List.all_eq_true.mp h2 j hm; simpa using q)
  exact ⟨fun a ha h11 hn => ⟨(g.1 a ha h11 (k2 _ hn)).1.trans (h.1 a ha h11 hn).1, (g.1 a ha h11 (k2 _ hn)).2.trans (h.1 a ha h11 hn).2⟩, fun j hj => (g.2.1 j (k1 j hj)).trans (h.2.1 j hj), g.2.2.trans h.2.2⟩
theorem zSame.f {o j : Nat} {Wf Wa L : List Nat} {kd : Nat → Nat} {σ0 σ σ2 : zS} {v : Int32} (h : zSame o Wf Wa L kd σ0 σ) (ho : zT L kd o 11) (e : σ2 = (zu σ.1 o j v, σ.2.1, σ.2.2)) (hj : Wf.contains j = true) : zSame o Wf Wa L kd σ0 σ2 := by
  subst e
  have hj2 : j ∈ Wf := by simpa using hj
  refine ⟨fun a ha h11 hn => ?_, fun i hi => ?_, h.2.2⟩
  · have hne : ¬ a = o := fun q => h11 (by rw [q]; exact ho.2)
    exact ⟨(zu_n σ.1 j v hne).trans (h.1 a ha h11 hn).1, (h.1 a ha h11 hn).2⟩
  · have hne : ¬ i = j := fun q => hi (q ▸ hj2)
    have q : zu σ.1 o j v o i = σ.1 o i := by simp [zu, hne]
    exact q.trans (h.2.1 i hi)
theorem zSame.a {o b k i : Nat} {Wf Wa L : List Nat} {kd : Nat → Nat} {σ0 σ σ2 : zS} {v : Int32} (h : zSame o Wf Wa L kd σ0 σ) (ho : zT L kd o 11) (hb : zT L kd b k) (e : σ2 = (zu σ.1 b i v, σ.2.1, σ.2.2)) (hk : Wa.contains k = true) (h11k : k ≠ 11) : zSame o Wf Wa L kd σ0 σ2 := by
  subst e
  have hk2 : k ∈ Wa := by simpa using hk
  refine ⟨fun a ha h11 hn => ?_, fun j hj => ?_, h.2.2⟩
  · have hne : ¬ a = b := fun q => hn (by rw [q, hb.2]; exact hk2)
    exact ⟨(zu_n σ.1 i v hne).trans (h.1 a ha h11 hn).1, (h.1 a ha h11 hn).2⟩
  · have hne : ¬ o = b := fun q => h11k (by rw [← hb.2, ← q]; exact ho.2)
    exact (congrFun (zu_n σ.1 i v hne) j).trans (h.2.1 j hj)
theorem zSame.l {o b k i : Nat} {Wf Wa L : List Nat} {kd : Nat → Nat} {σ0 σ σ2 : zS} {v : Int64} (h : zSame o Wf Wa L kd σ0 σ) (hb : zT L kd b k) (e : σ2 = (σ.1, zu σ.2.1 b i v, σ.2.2)) (hk : Wa.contains k = true) : zSame o Wf Wa L kd σ0 σ2 := by
  subst e
  have hk2 : k ∈ Wa := by simpa using hk
  refine ⟨fun a ha h11 hn => ?_, h.2.1, h.2.2⟩
  have hne : ¬ a = b := fun q => hn (by rw [q, hb.2]; exact hk2)
  exact ⟨(h.1 a ha h11 hn).1, (zu_n σ.2.1 i v hne).trans (h.1 a ha h11 hn).2⟩
theorem zSame.v {o j : Nat} {Wf Wa L : List Nat} {kd : Nat → Nat} {σ σ2 : zS} {v : Int32} (h : zSame o Wf Wa L kd σ σ2) (e : v = σ.1 o j) (hj : Wf.contains j = false) : v = σ2.1 o j := by
  rw [h.2.1 j (by intro q; simp [q] at hj)]
  exact e
theorem zg_imulc {rs : va_W} {cs sl : Nat} {d : zD2} {L : List Nat} {kd : Nat → Nat} {A : Nat → Prop} {nL : Nat} {p : Program} {l : Launch} {e : Env} {R : Room} {s : State} {m : MethodId} {args : Array Value} {below : List Frame} {meth : Method} {c : Code} {cc : ByteArray} {own : String} {Q : State → Prop} {σ : zS} {pc : Nat} {lv : List (Nat × Value)} {st : List Value} (X : zX d L kd A nL p s m args c cc own) {x y : Int32} (n : Int) (hdg : decode cc pc = .ok (.imul, 1)) (hx : x.toInt = n) (h1 : -2147483648 ≤ n * y.toInt) (h2 : n * y.toInt ≤ 2147483647) (k : ∀ v : Int32, v = x * y → v.toInt = n * y.toInt → zGc rs cs sl d L kd A nL p l e R s m args below meth c Q σ (pc + 1) lv (.int v :: st)) : zGc rs cs sl d L kd A nL p l e R s m args below meth c Q σ pc lv (.int y :: .int x :: st) := by
  refine zg_imulW X hdg (fun v hv => k v hv ?_)
  rw [hv, Int32.toInt_mul, hx, Int.bmod_eq_of_le (by omega) (by omega)]
section ZLINKS
variable {rs : va_W} {cs sl : Nat} {κ : Int} {b : Nat} {d : zD2} {L : List Nat} {kd : Nat → Nat} {A : Nat → Prop} {nL : Nat} {p : Program} {l : Launch} {e : Env} {R : Room} {s : State} {m : MethodId} {args : Array Value} {below : List Frame} {meth : Method} {c : Code} {cc : ByteArray} {Q : State → Prop} {σ : zS} {pc : Nat} {lv : List (Nat × Value)} {st : List Value} {a : Nat}
theorem fg_X11_13 (X : zX d L kd A nL p s m args c cc RX11) (hI : zJ κ L kd σ) (ha : zT L kd a 11) (hdg : decode cc pc = .ok (.getfield 13, 3)) (k : ∀ y : Nat, σ.2.2 a 1 = some y → zT L kd y 101 → zGc rs cs sl d L kd A nL p l e R s m args below meth c Q σ (pc + 3) lv (.ref y :: st)) : zGc rs cs sl d L kd A nL p l e R s m args below meth c Q σ pc lv (.ref a :: st) := by
  obtain ⟨y, hy, hT⟩ := zj_ref hI ha (show zf 0 11 1 = some 101 from rfl)
  have q := k y hy hT
  exact zg_getr X ha rfl (by decide) rfl (by decide) rfl zl_in11 zk_X11_13 hdg (by rw [hy]; exact q)
theorem fg_X11_169 (X : zX d L kd A nL p s m args c cc RX11) (hI : zJ κ L kd σ) (ha : zT L kd a 11) (hdg : decode cc pc = .ok (.getfield 169, 3)) (k : ∀ v : Int32, v = σ.1 a 2 → κ ≤ v.toInt ∧ v.toInt ≤ κ → zGc rs cs sl d L kd A nL p l e R s m args below meth c Q σ (pc + 3) lv (.int v :: st)) : zGc rs cs sl d L kd A nL p l e R s m args below meth c Q σ pc lv (.ref a :: st) := zg_geti X ha rfl (by decide) rfl (by decide) rfl zl_in11 zk_X11_169 hdg (k _ rfl (zj_get hI ha rfl))
theorem fq_X11_169 (X : zX d L kd A nL p s m args c cc RX11) {v : Int32} (ha : zT L kd a 11) (hdg : decode cc pc = .ok (.putfield 169, 3)) (k : ∀ σ2 : zS, σ2 = (zu σ.1 a 2 v, σ.2.1, σ.2.2) → zGc rs cs sl d L kd A nL p l e R s m args below meth c Q σ2 (pc + 3) lv st) : zGc rs cs sl d L kd A nL p l e R s m args below meth c Q σ pc lv (.int v :: .ref a :: st) := zg_puti (ty := .int) X ha rfl (by decide) rfl (by decide) rfl rfl zl_in11 tyX11_ok nmX11 zk_X11_169 rfl (by decide +kernel) rfl rfl hdg k
theorem fg_X11_17 (X : zX d L kd A nL p s m args c cc RX11) (hI : zJ κ L kd σ) (ha : zT L kd a 11) (hdg : decode cc pc = .ok (.getfield 17, 3)) (k : ∀ y : Nat, σ.2.2 a 3 = some y → zT L kd y 103 → zGc rs cs sl d L kd A nL p l e R s m args below meth c Q σ (pc + 3) lv (.ref y :: st)) : zGc rs cs sl d L kd A nL p l e R s m args below meth c Q σ pc lv (.ref a :: st) := by
  obtain ⟨y, hy, hT⟩ := zj_ref hI ha (show zf 0 11 3 = some 103 from rfl)
  have q := k y hy hT
  exact zg_getr X ha rfl (by decide) rfl (by decide) rfl zl_in11 zk_X11_17 hdg (by rw [hy]; exact q)
theorem fg_X11_175 (X : zX d L kd A nL p s m args c cc RX11) (hI : zJ κ L kd σ) (ha : zT L kd a 11) (hdg : decode cc pc = .ok (.getfield 175, 3)) (k : ∀ v : Int32, v = σ.1 a 4 → 0 ≤ v.toInt ∧ v.toInt ≤ 2000 → zGc rs cs sl d L kd A nL p l e R s m args below meth c Q σ (pc + 3) lv (.int v :: st)) : zGc rs cs sl d L kd A nL p l e R s m args below meth c Q σ pc lv (.ref a :: st) := zg_geti X ha rfl (by decide) rfl (by decide) rfl zl_in11 zk_X11_175 hdg (k _ rfl (zj_get hI ha rfl))
theorem fp_X11_175 (X : zX d L kd A nL p s m args c cc RX11) {v : Int32} (hI : zJ κ L kd σ) (ha : zT L kd a 11) (h : 0 ≤ v.toInt ∧ v.toInt ≤ 2000) (hdg : decode cc pc = .ok (.putfield 175, 3)) (k : ∀ σ2 : zS, σ2 = (zu σ.1 a 4 v, σ.2.1, σ.2.2) → zJ κ L kd σ2 → zGc rs cs sl d L kd A nL p l e R s m args below meth c Q σ2 (pc + 3) lv st) : zGc rs cs sl d L kd A nL p l e R s m args below meth c Q σ pc lv (.int v :: .ref a :: st) := zg_puti (ty := .int) X ha rfl (by decide) rfl (by decide) rfl rfl zl_in11 tyX11_ok nmX11 zk_X11_175 rfl (by decide +kernel) rfl rfl hdg (fun σ2 h2 => k σ2 h2 (by rw [h2]; exact zj_puti hI ha rfl h.1 h.2))
theorem fg_X11_20 (X : zX d L kd A nL p s m args c cc RX11) (hI : zJ κ L kd σ) (ha : zT L kd a 11) (hdg : decode cc pc = .ok (.getfield 20, 3)) (k : ∀ y : Nat, σ.2.2 a 5 = some y → zT L kd y 105 → zGc rs cs sl d L kd A nL p l e R s m args below meth c Q σ (pc + 3) lv (.ref y :: st)) : zGc rs cs sl d L kd A nL p l e R s m args below meth c Q σ pc lv (.ref a :: st) := by
  obtain ⟨y, hy, hT⟩ := zj_ref hI ha (show zf 0 11 5 = some 105 from rfl)
  have q := k y hy hT
  exact zg_getr X ha rfl (by decide) rfl (by decide) rfl zl_in11 zk_X11_20 hdg (by rw [hy]; exact q)
theorem fg_X11_24 (X : zX d L kd A nL p s m args c cc RX11) (hI : zJ κ L kd σ) (ha : zT L kd a 11) (hdg : decode cc pc = .ok (.getfield 24, 3)) (k : ∀ y : Nat, σ.2.2 a 6 = some y → zT L kd y 106 → zGc rs cs sl d L kd A nL p l e R s m args below meth c Q σ (pc + 3) lv (.ref y :: st)) : zGc rs cs sl d L kd A nL p l e R s m args below meth c Q σ pc lv (.ref a :: st) := by
  obtain ⟨y, hy, hT⟩ := zj_ref hI ha (show zf 0 11 6 = some 106 from rfl)
  have q := k y hy hT
  exact zg_getr X ha rfl (by decide) rfl (by decide) rfl zl_in11 zk_X11_24 hdg (by rw [hy]; exact q)
theorem fg_X11_27 (X : zX d L kd A nL p s m args c cc RX11) (hI : zJ κ L kd σ) (ha : zT L kd a 11) (hdg : decode cc pc = .ok (.getfield 27, 3)) (k : ∀ y : Nat, σ.2.2 a 7 = some y → zT L kd y 107 → zGc rs cs sl d L kd A nL p l e R s m args below meth c Q σ (pc + 3) lv (.ref y :: st)) : zGc rs cs sl d L kd A nL p l e R s m args below meth c Q σ pc lv (.ref a :: st) := by
  obtain ⟨y, hy, hT⟩ := zj_ref hI ha (show zf 0 11 7 = some 107 from rfl)
  have q := k y hy hT
  exact zg_getr X ha rfl (by decide) rfl (by decide) rfl zl_in11 zk_X11_27 hdg (by rw [hy]; exact q)
theorem fg_X11_30 (X : zX d L kd A nL p s m args c cc RX11) (hI : zJ κ L kd σ) (ha : zT L kd a 11) (hdg : decode cc pc = .ok (.getfield 30, 3)) (k : ∀ y : Nat, σ.2.2 a 8 = some y → zT L kd y 108 → zGc rs cs sl d L kd A nL p l e R s m args below meth c Q σ (pc + 3) lv (.ref y :: st)) : zGc rs cs sl d L kd A nL p l e R s m args below meth c Q σ pc lv (.ref a :: st) := by
  obtain ⟨y, hy, hT⟩ := zj_ref hI ha (show zf 0 11 8 = some 108 from rfl)
  have q := k y hy hT
  exact zg_getr X ha rfl (by decide) rfl (by decide) rfl zl_in11 zk_X11_30 hdg (by rw [hy]; exact q)
theorem fg_X11_34 (X : zX d L kd A nL p s m args c cc RX11) (hI : zJ κ L kd σ) (ha : zT L kd a 11) (hdg : decode cc pc = .ok (.getfield 34, 3)) (k : ∀ y : Nat, σ.2.2 a 9 = some y → zT L kd y 109 → zGc rs cs sl d L kd A nL p l e R s m args below meth c Q σ (pc + 3) lv (.ref y :: st)) : zGc rs cs sl d L kd A nL p l e R s m args below meth c Q σ pc lv (.ref a :: st) := by
  obtain ⟨y, hy, hT⟩ := zj_ref hI ha (show zf 0 11 9 = some 109 from rfl)
  have q := k y hy hT
  exact zg_getr X ha rfl (by decide) rfl (by decide) rfl zl_in11 zk_X11_34 hdg (by rw [hy]; exact q)
theorem fg_X11_184 (X : zX d L kd A nL p s m args c cc RX11) (hI : zJ κ L kd σ) (ha : zT L kd a 11) (hdg : decode cc pc = .ok (.getfield 184, 3)) (k : ∀ v : Int32, v = σ.1 a 10 → 0 ≤ v.toInt ∧ v.toInt ≤ 402 → zGc rs cs sl d L kd A nL p l e R s m args below meth c Q σ (pc + 3) lv (.int v :: st)) : zGc rs cs sl d L kd A nL p l e R s m args below meth c Q σ pc lv (.ref a :: st) := zg_geti X ha rfl (by decide) rfl (by decide) rfl zl_in11 zk_X11_184 hdg (k _ rfl (zj_get hI ha rfl))
theorem fp_X11_184 (X : zX d L kd A nL p s m args c cc RX11) {v : Int32} (hI : zJ κ L kd σ) (ha : zT L kd a 11) (h : 0 ≤ v.toInt ∧ v.toInt ≤ 402) (hdg : decode cc pc = .ok (.putfield 184, 3)) (k : ∀ σ2 : zS, σ2 = (zu σ.1 a 10 v, σ.2.1, σ.2.2) → zJ κ L kd σ2 → zGc rs cs sl d L kd A nL p l e R s m args below meth c Q σ2 (pc + 3) lv st) : zGc rs cs sl d L kd A nL p l e R s m args below meth c Q σ pc lv (.int v :: .ref a :: st) := zg_puti (ty := .int) X ha rfl (by decide) rfl (by decide) rfl rfl zl_in11 tyX11_ok nmX11 zk_X11_184 rfl (by decide +kernel) rfl rfl hdg (fun σ2 h2 => k σ2 h2 (by rw [h2]; exact zj_puti hI ha rfl h.1 h.2))
theorem fg_X11_209 (X : zX d L kd A nL p s m args c cc RX11) (hI : zJ κ L kd σ) (ha : zT L kd a 11) (hdg : decode cc pc = .ok (.getfield 209, 3)) (k : ∀ v : Int32, v = σ.1 a 11 → 0 ≤ v.toInt ∧ v.toInt ≤ 400 → zGc rs cs sl d L kd A nL p l e R s m args below meth c Q σ (pc + 3) lv (.int v :: st)) : zGc rs cs sl d L kd A nL p l e R s m args below meth c Q σ pc lv (.ref a :: st) := zg_geti X ha rfl (by decide) rfl (by decide) rfl zl_in11 zk_X11_209 hdg (k _ rfl (zj_get hI ha rfl))
theorem fp_X11_209 (X : zX d L kd A nL p s m args c cc RX11) {v : Int32} (hI : zJ κ L kd σ) (ha : zT L kd a 11) (h : 0 ≤ v.toInt ∧ v.toInt ≤ 400) (hdg : decode cc pc = .ok (.putfield 209, 3)) (k : ∀ σ2 : zS, σ2 = (zu σ.1 a 11 v, σ.2.1, σ.2.2) → zJ κ L kd σ2 → zGc rs cs sl d L kd A nL p l e R s m args below meth c Q σ2 (pc + 3) lv st) : zGc rs cs sl d L kd A nL p l e R s m args below meth c Q σ pc lv (.int v :: .ref a :: st) := zg_puti (ty := .int) X ha rfl (by decide) rfl (by decide) rfl rfl zl_in11 tyX11_ok nmX11 zk_X11_209 rfl (by decide +kernel) rfl rfl hdg (fun σ2 h2 => k σ2 h2 (by rw [h2]; exact zj_puti hI ha rfl h.1 h.2))
theorem fg_X11_233 (X : zX d L kd A nL p s m args c cc RX11) (hI : zJ κ L kd σ) (ha : zT L kd a 11) (hdg : decode cc pc = .ok (.getfield 233, 3)) (k : ∀ v : Int32, v = σ.1 a 12 → 0 ≤ v.toInt ∧ v.toInt ≤ 7 → zGc rs cs sl d L kd A nL p l e R s m args below meth c Q σ (pc + 3) lv (.int v :: st)) : zGc rs cs sl d L kd A nL p l e R s m args below meth c Q σ pc lv (.ref a :: st) := zg_geti X ha rfl (by decide) rfl (by decide) rfl zl_in11 zk_X11_233 hdg (k _ rfl (zj_get hI ha rfl))
theorem fp_X11_233 (X : zX d L kd A nL p s m args c cc RX11) {v : Int32} (hI : zJ κ L kd σ) (ha : zT L kd a 11) (h : 0 ≤ v.toInt ∧ v.toInt ≤ 7) (hdg : decode cc pc = .ok (.putfield 233, 3)) (k : ∀ σ2 : zS, σ2 = (zu σ.1 a 12 v, σ.2.1, σ.2.2) → zJ κ L kd σ2 → zGc rs cs sl d L kd A nL p l e R s m args below meth c Q σ2 (pc + 3) lv st) : zGc rs cs sl d L kd A nL p l e R s m args below meth c Q σ pc lv (.int v :: .ref a :: st) := zg_puti (ty := .int) X ha rfl (by decide) rfl (by decide) rfl rfl zl_in11 tyX11_ok nmX11 zk_X11_233 rfl (by decide +kernel) rfl rfl hdg (fun σ2 h2 => k σ2 h2 (by rw [h2]; exact zj_puti hI ha rfl h.1 h.2))
theorem fg_X11_206 (X : zX d L kd A nL p s m args c cc RX11) (hI : zJ κ L kd σ) (ha : zT L kd a 11) (hdg : decode cc pc = .ok (.getfield 206, 3)) (k : ∀ v : Int32, v = σ.1 a 13 → 0 ≤ v.toInt ∧ v.toInt ≤ 2147483647 → zGc rs cs sl d L kd A nL p l e R s m args below meth c Q σ (pc + 3) lv (.int v :: st)) : zGc rs cs sl d L kd A nL p l e R s m args below meth c Q σ pc lv (.ref a :: st) := zg_geti X ha rfl (by decide) rfl (by decide) rfl zl_in11 zk_X11_206 hdg (k _ rfl (zj_get hI ha rfl))
theorem fp_X11_206 (X : zX d L kd A nL p s m args c cc RX11) {v : Int32} (hI : zJ κ L kd σ) (ha : zT L kd a 11) (h : 0 ≤ v.toInt ∧ v.toInt ≤ 2147483647) (hdg : decode cc pc = .ok (.putfield 206, 3)) (k : ∀ σ2 : zS, σ2 = (zu σ.1 a 13 v, σ.2.1, σ.2.2) → zJ κ L kd σ2 → zGc rs cs sl d L kd A nL p l e R s m args below meth c Q σ2 (pc + 3) lv st) : zGc rs cs sl d L kd A nL p l e R s m args below meth c Q σ pc lv (.int v :: .ref a :: st) := zg_puti (ty := .int) X ha rfl (by decide) rfl (by decide) rfl rfl zl_in11 tyX11_ok nmX11 zk_X11_206 rfl (by decide +kernel) rfl rfl hdg (fun σ2 h2 => k σ2 h2 (by rw [h2]; exact zj_puti hI ha rfl h.1 h.2))
theorem fg_X11_212 (X : zX d L kd A nL p s m args c cc RX11) (hI : zJ κ L kd σ) (ha : zT L kd a 11) (hdg : decode cc pc = .ok (.getfield 212, 3)) (k : ∀ v : Int32, v = σ.1 a 14 → (-2147483648) ≤ v.toInt ∧ v.toInt ≤ 2147483647 → zGc rs cs sl d L kd A nL p l e R s m args below meth c Q σ (pc + 3) lv (.int v :: st)) : zGc rs cs sl d L kd A nL p l e R s m args below meth c Q σ pc lv (.ref a :: st) := zg_geti X ha rfl (by decide) rfl (by decide) rfl zl_in11 zk_X11_212 hdg (k _ rfl (zj_get hI ha rfl))
theorem fp_X11_212 (X : zX d L kd A nL p s m args c cc RX11) {v : Int32} (hI : zJ κ L kd σ) (ha : zT L kd a 11) (h : (-2147483648) ≤ v.toInt ∧ v.toInt ≤ 2147483647) (hdg : decode cc pc = .ok (.putfield 212, 3)) (k : ∀ σ2 : zS, σ2 = (zu σ.1 a 14 v, σ.2.1, σ.2.2) → zJ κ L kd σ2 → zGc rs cs sl d L kd A nL p l e R s m args below meth c Q σ2 (pc + 3) lv st) : zGc rs cs sl d L kd A nL p l e R s m args below meth c Q σ pc lv (.int v :: .ref a :: st) := zg_puti (ty := .int) X ha rfl (by decide) rfl (by decide) rfl rfl zl_in11 tyX11_ok nmX11 zk_X11_212 rfl (by decide +kernel) rfl rfl hdg (fun σ2 h2 => k σ2 h2 (by rw [h2]; exact zj_puti hI ha rfl h.1 h.2))
theorem fg_X11_215 (X : zX d L kd A nL p s m args c cc RX11) (hI : zJ κ L kd σ) (ha : zT L kd a 11) (hdg : decode cc pc = .ok (.getfield 215, 3)) (k : ∀ v : Int32, v = σ.1 a 15 → (-2147483648) ≤ v.toInt ∧ v.toInt ≤ 2147483647 → zGc rs cs sl d L kd A nL p l e R s m args below meth c Q σ (pc + 3) lv (.int v :: st)) : zGc rs cs sl d L kd A nL p l e R s m args below meth c Q σ pc lv (.ref a :: st) := zg_geti X ha rfl (by decide) rfl (by decide) rfl zl_in11 zk_X11_215 hdg (k _ rfl (zj_get hI ha rfl))
theorem fp_X11_215 (X : zX d L kd A nL p s m args c cc RX11) {v : Int32} (hI : zJ κ L kd σ) (ha : zT L kd a 11) (h : (-2147483648) ≤ v.toInt ∧ v.toInt ≤ 2147483647) (hdg : decode cc pc = .ok (.putfield 215, 3)) (k : ∀ σ2 : zS, σ2 = (zu σ.1 a 15 v, σ.2.1, σ.2.2) → zJ κ L kd σ2 → zGc rs cs sl d L kd A nL p l e R s m args below meth c Q σ2 (pc + 3) lv st) : zGc rs cs sl d L kd A nL p l e R s m args below meth c Q σ pc lv (.int v :: .ref a :: st) := zg_puti (ty := .int) X ha rfl (by decide) rfl (by decide) rfl rfl zl_in11 tyX11_ok nmX11 zk_X11_215 rfl (by decide +kernel) rfl rfl hdg (fun σ2 h2 => k σ2 h2 (by rw [h2]; exact zj_puti hI ha rfl h.1 h.2))
theorem fg_X11_218 (X : zX d L kd A nL p s m args c cc RX11) (hI : zJ κ L kd σ) (ha : zT L kd a 11) (hdg : decode cc pc = .ok (.getfield 218, 3)) (k : ∀ v : Int32, v = σ.1 a 16 → (-2147483648) ≤ v.toInt ∧ v.toInt ≤ 2147483647 → zGc rs cs sl d L kd A nL p l e R s m args below meth c Q σ (pc + 3) lv (.int v :: st)) : zGc rs cs sl d L kd A nL p l e R s m args below meth c Q σ pc lv (.ref a :: st) := zg_geti X ha rfl (by decide) rfl (by decide) rfl zl_in11 zk_X11_218 hdg (k _ rfl (zj_get hI ha rfl))
theorem fp_X11_218 (X : zX d L kd A nL p s m args c cc RX11) {v : Int32} (hI : zJ κ L kd σ) (ha : zT L kd a 11) (h : (-2147483648) ≤ v.toInt ∧ v.toInt ≤ 2147483647) (hdg : decode cc pc = .ok (.putfield 218, 3)) (k : ∀ σ2 : zS, σ2 = (zu σ.1 a 16 v, σ.2.1, σ.2.2) → zJ κ L kd σ2 → zGc rs cs sl d L kd A nL p l e R s m args below meth c Q σ2 (pc + 3) lv st) : zGc rs cs sl d L kd A nL p l e R s m args below meth c Q σ pc lv (.int v :: .ref a :: st) := zg_puti (ty := .int) X ha rfl (by decide) rfl (by decide) rfl rfl zl_in11 tyX11_ok nmX11 zk_X11_218 rfl (by decide +kernel) rfl rfl hdg (fun σ2 h2 => k σ2 h2 (by rw [h2]; exact zj_puti hI ha rfl h.1 h.2))
theorem fg_X11_37 (X : zX d L kd A nL p s m args c cc RX11) (hI : zJ κ L kd σ) (ha : zT L kd a 11) (hdg : decode cc pc = .ok (.getfield 37, 3)) (k : ∀ v : Int32, v = σ.1 a 17 → (-2147483648) ≤ v.toInt ∧ v.toInt ≤ 2147483647 → zGc rs cs sl d L kd A nL p l e R s m args below meth c Q σ (pc + 3) lv (.int v :: st)) : zGc rs cs sl d L kd A nL p l e R s m args below meth c Q σ pc lv (.ref a :: st) := zg_geti X ha rfl (by decide) rfl (by decide) rfl zl_in11 zk_X11_37 hdg (k _ rfl (zj_get hI ha rfl))
theorem fp_X11_37 (X : zX d L kd A nL p s m args c cc RX11) {v : Int32} (hI : zJ κ L kd σ) (ha : zT L kd a 11) (h : (-2147483648) ≤ v.toInt ∧ v.toInt ≤ 2147483647) (hdg : decode cc pc = .ok (.putfield 37, 3)) (k : ∀ σ2 : zS, σ2 = (zu σ.1 a 17 v, σ.2.1, σ.2.2) → zJ κ L kd σ2 → zGc rs cs sl d L kd A nL p l e R s m args below meth c Q σ2 (pc + 3) lv st) : zGc rs cs sl d L kd A nL p l e R s m args below meth c Q σ pc lv (.int v :: .ref a :: st) := zg_puti (ty := .int) X ha rfl (by decide) rfl (by decide) rfl rfl zl_in11 tyX11_ok nmX11 zk_X11_37 rfl (by decide +kernel) rfl rfl hdg (fun σ2 h2 => k σ2 h2 (by rw [h2]; exact zj_puti hI ha rfl h.1 h.2))
theorem fg_X11_236 (X : zX d L kd A nL p s m args c cc RX11) (hI : zJ κ L kd σ) (ha : zT L kd a 11) (hdg : decode cc pc = .ok (.getfield 236, 3)) (k : ∀ v : Int32, v = σ.1 a 18 → 0 ≤ v.toInt ∧ v.toInt ≤ 1 → zGc rs cs sl d L kd A nL p l e R s m args below meth c Q σ (pc + 3) lv (.int v :: st)) : zGc rs cs sl d L kd A nL p l e R s m args below meth c Q σ pc lv (.ref a :: st) := zg_geti X ha rfl (by decide) rfl (by decide) rfl zl_in11 zk_X11_236 hdg (k _ rfl (zj_get hI ha rfl))
theorem fp_X11_236 (X : zX d L kd A nL p s m args c cc RX11) {v : Int32} (hI : zJ κ L kd σ) (ha : zT L kd a 11) (h : 0 ≤ v.toInt ∧ v.toInt ≤ 1) (hdg : decode cc pc = .ok (.putfield 236, 3)) (k : ∀ σ2 : zS, σ2 = (zu σ.1 a 18 v, σ.2.1, σ.2.2) → zJ κ L kd σ2 → zGc rs cs sl d L kd A nL p l e R s m args below meth c Q σ2 (pc + 3) lv st) : zGc rs cs sl d L kd A nL p l e R s m args below meth c Q σ pc lv (.int v :: .ref a :: st) := zg_puti (ty := .int) X ha rfl (by decide) rfl (by decide) rfl rfl zl_in11 tyX11_ok nmX11 zk_X11_236 rfl (by decide +kernel) rfl rfl hdg (fun σ2 h2 => k σ2 h2 (by rw [h2]; exact zj_puti hI ha rfl h.1 h.2))
theorem fg_X11_239 (X : zX d L kd A nL p s m args c cc RX11) (hI : zJ κ L kd σ) (ha : zT L kd a 11) (hdg : decode cc pc = .ok (.getfield 239, 3)) (k : ∀ v : Int32, v = σ.1 a 19 → 0 ≤ v.toInt ∧ v.toInt ≤ 1 → zGc rs cs sl d L kd A nL p l e R s m args below meth c Q σ (pc + 3) lv (.int v :: st)) : zGc rs cs sl d L kd A nL p l e R s m args below meth c Q σ pc lv (.ref a :: st) := zg_geti X ha rfl (by decide) rfl (by decide) rfl zl_in11 zk_X11_239 hdg (k _ rfl (zj_get hI ha rfl))
theorem fp_X11_239 (X : zX d L kd A nL p s m args c cc RX11) {v : Int32} (hI : zJ κ L kd σ) (ha : zT L kd a 11) (h : 0 ≤ v.toInt ∧ v.toInt ≤ 1) (hdg : decode cc pc = .ok (.putfield 239, 3)) (k : ∀ σ2 : zS, σ2 = (zu σ.1 a 19 v, σ.2.1, σ.2.2) → zJ κ L kd σ2 → zGc rs cs sl d L kd A nL p l e R s m args below meth c Q σ2 (pc + 3) lv st) : zGc rs cs sl d L kd A nL p l e R s m args below meth c Q σ pc lv (.int v :: .ref a :: st) := zg_puti (ty := .int) X ha rfl (by decide) rfl (by decide) rfl rfl zl_in11 tyX11_ok nmX11 zk_X11_239 rfl (by decide +kernel) rfl rfl hdg (fun σ2 h2 => k σ2 h2 (by rw [h2]; exact zj_puti hI ha rfl h.1 h.2))
theorem fg_X11_40 (X : zX d L kd A nL p s m args c cc RX11) (hI : zJ κ L kd σ) (ha : zT L kd a 11) (hdg : decode cc pc = .ok (.getfield 40, 3)) (k : ∀ y : Nat, σ.2.2 a 20 = some y → zT L kd y 120 → zGc rs cs sl d L kd A nL p l e R s m args below meth c Q σ (pc + 3) lv (.ref y :: st)) : zGc rs cs sl d L kd A nL p l e R s m args below meth c Q σ pc lv (.ref a :: st) := by
  obtain ⟨y, hy, hT⟩ := zj_ref hI ha (show zf 0 11 20 = some 120 from rfl)
  have q := k y hy hT
  exact zg_getr X ha rfl (by decide) rfl (by decide) rfl zl_in11 zk_X11_40 hdg (by rw [hy]; exact q)
theorem fg_X11_43 (X : zX d L kd A nL p s m args c cc RX11) (hI : zJ κ L kd σ) (ha : zT L kd a 11) (hdg : decode cc pc = .ok (.getfield 43, 3)) (k : ∀ y : Nat, σ.2.2 a 21 = some y → zT L kd y 121 → zGc rs cs sl d L kd A nL p l e R s m args below meth c Q σ (pc + 3) lv (.ref y :: st)) : zGc rs cs sl d L kd A nL p l e R s m args below meth c Q σ pc lv (.ref a :: st) := by
  obtain ⟨y, hy, hT⟩ := zj_ref hI ha (show zf 0 11 21 = some 121 from rfl)
  have q := k y hy hT
  exact zg_getr X ha rfl (by decide) rfl (by decide) rfl zl_in11 zk_X11_43 hdg (by rw [hy]; exact q)
theorem fg_X11_46 (X : zX d L kd A nL p s m args c cc RX11) (hI : zJ κ L kd σ) (ha : zT L kd a 11) (hdg : decode cc pc = .ok (.getfield 46, 3)) (k : ∀ y : Nat, σ.2.2 a 22 = some y → zT L kd y 122 → zGc rs cs sl d L kd A nL p l e R s m args below meth c Q σ (pc + 3) lv (.ref y :: st)) : zGc rs cs sl d L kd A nL p l e R s m args below meth c Q σ pc lv (.ref a :: st) := by
  obtain ⟨y, hy, hT⟩ := zj_ref hI ha (show zf 0 11 22 = some 122 from rfl)
  have q := k y hy hT
  exact zg_getr X ha rfl (by decide) rfl (by decide) rfl zl_in11 zk_X11_46 hdg (by rw [hy]; exact q)
theorem fg_X11_49 (X : zX d L kd A nL p s m args c cc RX11) (hI : zJ κ L kd σ) (ha : zT L kd a 11) (hdg : decode cc pc = .ok (.getfield 49, 3)) (k : ∀ y : Nat, σ.2.2 a 23 = some y → zT L kd y 123 → zGc rs cs sl d L kd A nL p l e R s m args below meth c Q σ (pc + 3) lv (.ref y :: st)) : zGc rs cs sl d L kd A nL p l e R s m args below meth c Q σ pc lv (.ref a :: st) := by
  obtain ⟨y, hy, hT⟩ := zj_ref hI ha (show zf 0 11 23 = some 123 from rfl)
  have q := k y hy hT
  exact zg_getr X ha rfl (by decide) rfl (by decide) rfl zl_in11 zk_X11_49 hdg (by rw [hy]; exact q)
theorem fg_X11_52 (X : zX d L kd A nL p s m args c cc RX11) (hI : zJ κ L kd σ) (ha : zT L kd a 11) (hdg : decode cc pc = .ok (.getfield 52, 3)) (k : ∀ y : Nat, σ.2.2 a 24 = some y → zT L kd y 124 → zGc rs cs sl d L kd A nL p l e R s m args below meth c Q σ (pc + 3) lv (.ref y :: st)) : zGc rs cs sl d L kd A nL p l e R s m args below meth c Q σ pc lv (.ref a :: st) := by
  obtain ⟨y, hy, hT⟩ := zj_ref hI ha (show zf 0 11 24 = some 124 from rfl)
  have q := k y hy hT
  exact zg_getr X ha rfl (by decide) rfl (by decide) rfl zl_in11 zk_X11_52 hdg (by rw [hy]; exact q)
theorem fg_X11_55 (X : zX d L kd A nL p s m args c cc RX11) (hI : zJ κ L kd σ) (ha : zT L kd a 11) (hdg : decode cc pc = .ok (.getfield 55, 3)) (k : ∀ y : Nat, σ.2.2 a 25 = some y → zT L kd y 125 → zGc rs cs sl d L kd A nL p l e R s m args below meth c Q σ (pc + 3) lv (.ref y :: st)) : zGc rs cs sl d L kd A nL p l e R s m args below meth c Q σ pc lv (.ref a :: st) := by
  obtain ⟨y, hy, hT⟩ := zj_ref hI ha (show zf 0 11 25 = some 125 from rfl)
  have q := k y hy hT
  exact zg_getr X ha rfl (by decide) rfl (by decide) rfl zl_in11 zk_X11_55 hdg (by rw [hy]; exact q)
theorem fg_X11_58 (X : zX d L kd A nL p s m args c cc RX11) (hI : zJ κ L kd σ) (ha : zT L kd a 11) (hdg : decode cc pc = .ok (.getfield 58, 3)) (k : ∀ y : Nat, σ.2.2 a 26 = some y → zT L kd y 126 → zGc rs cs sl d L kd A nL p l e R s m args below meth c Q σ (pc + 3) lv (.ref y :: st)) : zGc rs cs sl d L kd A nL p l e R s m args below meth c Q σ pc lv (.ref a :: st) := by
  obtain ⟨y, hy, hT⟩ := zj_ref hI ha (show zf 0 11 26 = some 126 from rfl)
  have q := k y hy hT
  exact zg_getr X ha rfl (by decide) rfl (by decide) rfl zl_in11 zk_X11_58 hdg (by rw [hy]; exact q)
theorem fg_X11_61 (X : zX d L kd A nL p s m args c cc RX11) (hI : zJ κ L kd σ) (ha : zT L kd a 11) (hdg : decode cc pc = .ok (.getfield 61, 3)) (k : ∀ y : Nat, σ.2.2 a 27 = some y → zT L kd y 127 → zGc rs cs sl d L kd A nL p l e R s m args below meth c Q σ (pc + 3) lv (.ref y :: st)) : zGc rs cs sl d L kd A nL p l e R s m args below meth c Q σ pc lv (.ref a :: st) := by
  obtain ⟨y, hy, hT⟩ := zj_ref hI ha (show zf 0 11 27 = some 127 from rfl)
  have q := k y hy hT
  exact zg_getr X ha rfl (by decide) rfl (by decide) rfl zl_in11 zk_X11_61 hdg (by rw [hy]; exact q)
theorem fg_X11_64 (X : zX d L kd A nL p s m args c cc RX11) (hI : zJ κ L kd σ) (ha : zT L kd a 11) (hdg : decode cc pc = .ok (.getfield 64, 3)) (k : ∀ y : Nat, σ.2.2 a 28 = some y → zT L kd y 128 → zGc rs cs sl d L kd A nL p l e R s m args below meth c Q σ (pc + 3) lv (.ref y :: st)) : zGc rs cs sl d L kd A nL p l e R s m args below meth c Q σ pc lv (.ref a :: st) := by
  obtain ⟨y, hy, hT⟩ := zj_ref hI ha (show zf 0 11 28 = some 128 from rfl)
  have q := k y hy hT
  exact zg_getr X ha rfl (by decide) rfl (by decide) rfl zl_in11 zk_X11_64 hdg (by rw [hy]; exact q)
theorem fg_X11_67 (X : zX d L kd A nL p s m args c cc RX11) (hI : zJ κ L kd σ) (ha : zT L kd a 11) (hdg : decode cc pc = .ok (.getfield 67, 3)) (k : ∀ y : Nat, σ.2.2 a 29 = some y → zT L kd y 129 → zGc rs cs sl d L kd A nL p l e R s m args below meth c Q σ (pc + 3) lv (.ref y :: st)) : zGc rs cs sl d L kd A nL p l e R s m args below meth c Q σ pc lv (.ref a :: st) := by
  obtain ⟨y, hy, hT⟩ := zj_ref hI ha (show zf 0 11 29 = some 129 from rfl)
  have q := k y hy hT
  exact zg_getr X ha rfl (by decide) rfl (by decide) rfl zl_in11 zk_X11_67 hdg (by rw [hy]; exact q)
theorem fg_X11_70 (X : zX d L kd A nL p s m args c cc RX11) (hI : zJ κ L kd σ) (ha : zT L kd a 11) (hdg : decode cc pc = .ok (.getfield 70, 3)) (k : ∀ y : Nat, σ.2.2 a 30 = some y → zT L kd y 130 → zGc rs cs sl d L kd A nL p l e R s m args below meth c Q σ (pc + 3) lv (.ref y :: st)) : zGc rs cs sl d L kd A nL p l e R s m args below meth c Q σ pc lv (.ref a :: st) := by
  obtain ⟨y, hy, hT⟩ := zj_ref hI ha (show zf 0 11 30 = some 130 from rfl)
  have q := k y hy hT
  exact zg_getr X ha rfl (by decide) rfl (by decide) rfl zl_in11 zk_X11_70 hdg (by rw [hy]; exact q)
theorem fg_X11_73 (X : zX d L kd A nL p s m args c cc RX11) (hI : zJ κ L kd σ) (ha : zT L kd a 11) (hdg : decode cc pc = .ok (.getfield 73, 3)) (k : ∀ y : Nat, σ.2.2 a 31 = some y → zT L kd y 131 → zGc rs cs sl d L kd A nL p l e R s m args below meth c Q σ (pc + 3) lv (.ref y :: st)) : zGc rs cs sl d L kd A nL p l e R s m args below meth c Q σ pc lv (.ref a :: st) := by
  obtain ⟨y, hy, hT⟩ := zj_ref hI ha (show zf 0 11 31 = some 131 from rfl)
  have q := k y hy hT
  exact zg_getr X ha rfl (by decide) rfl (by decide) rfl zl_in11 zk_X11_73 hdg (by rw [hy]; exact q)
theorem fg_X11_242 (X : zX d L kd A nL p s m args c cc RX11) (hI : zJ κ L kd σ) (ha : zT L kd a 11) (hdg : decode cc pc = .ok (.getfield 242, 3)) (k : ∀ v : Int32, v = σ.1 a 32 → 0 ≤ v.toInt ∧ v.toInt ≤ 260 → zGc rs cs sl d L kd A nL p l e R s m args below meth c Q σ (pc + 3) lv (.int v :: st)) : zGc rs cs sl d L kd A nL p l e R s m args below meth c Q σ pc lv (.ref a :: st) := zg_geti X ha rfl (by decide) rfl (by decide) rfl zl_in11 zk_X11_242 hdg (k _ rfl (zj_get hI ha rfl))
theorem fp_X11_242 (X : zX d L kd A nL p s m args c cc RX11) {v : Int32} (hI : zJ κ L kd σ) (ha : zT L kd a 11) (h : 0 ≤ v.toInt ∧ v.toInt ≤ 260) (hdg : decode cc pc = .ok (.putfield 242, 3)) (k : ∀ σ2 : zS, σ2 = (zu σ.1 a 32 v, σ.2.1, σ.2.2) → zJ κ L kd σ2 → zGc rs cs sl d L kd A nL p l e R s m args below meth c Q σ2 (pc + 3) lv st) : zGc rs cs sl d L kd A nL p l e R s m args below meth c Q σ pc lv (.int v :: .ref a :: st) := zg_puti (ty := .int) X ha rfl (by decide) rfl (by decide) rfl rfl zl_in11 tyX11_ok nmX11 zk_X11_242 rfl (by decide +kernel) rfl rfl hdg (fun σ2 h2 => k σ2 h2 (by rw [h2]; exact zj_puti hI ha rfl h.1 h.2))
theorem fg_X11_76 (X : zX d L kd A nL p s m args c cc RX11) (hI : zJ κ L kd σ) (ha : zT L kd a 11) (hdg : decode cc pc = .ok (.getfield 76, 3)) (k : ∀ y : Nat, σ.2.2 a 33 = some y → zT L kd y 133 → zGc rs cs sl d L kd A nL p l e R s m args below meth c Q σ (pc + 3) lv (.ref y :: st)) : zGc rs cs sl d L kd A nL p l e R s m args below meth c Q σ pc lv (.ref a :: st) := by
  obtain ⟨y, hy, hT⟩ := zj_ref hI ha (show zf 0 11 33 = some 133 from rfl)
  have q := k y hy hT
  exact zg_getr X ha rfl (by decide) rfl (by decide) rfl zl_in11 zk_X11_76 hdg (by rw [hy]; exact q)
theorem fg_X11_80 (X : zX d L kd A nL p s m args c cc RX11) (hI : zJ κ L kd σ) (ha : zT L kd a 11) (hdg : decode cc pc = .ok (.getfield 80, 3)) (k : ∀ y : Nat, σ.2.2 a 34 = some y → zT L kd y 134 → zGc rs cs sl d L kd A nL p l e R s m args below meth c Q σ (pc + 3) lv (.ref y :: st)) : zGc rs cs sl d L kd A nL p l e R s m args below meth c Q σ pc lv (.ref a :: st) := by
  obtain ⟨y, hy, hT⟩ := zj_ref hI ha (show zf 0 11 34 = some 134 from rfl)
  have q := k y hy hT
  exact zg_getr X ha rfl (by decide) rfl (by decide) rfl zl_in11 zk_X11_80 hdg (by rw [hy]; exact q)
theorem fg_X11_83 (X : zX d L kd A nL p s m args c cc RX11) (hI : zJ κ L kd σ) (ha : zT L kd a 11) (hdg : decode cc pc = .ok (.getfield 83, 3)) (k : ∀ y : Nat, σ.2.2 a 35 = some y → zT L kd y 135 → zGc rs cs sl d L kd A nL p l e R s m args below meth c Q σ (pc + 3) lv (.ref y :: st)) : zGc rs cs sl d L kd A nL p l e R s m args below meth c Q σ pc lv (.ref a :: st) := by
  obtain ⟨y, hy, hT⟩ := zj_ref hI ha (show zf 0 11 35 = some 135 from rfl)
  have q := k y hy hT
  exact zg_getr X ha rfl (by decide) rfl (by decide) rfl zl_in11 zk_X11_83 hdg (by rw [hy]; exact q)
theorem fg_X11_86 (X : zX d L kd A nL p s m args c cc RX11) (hI : zJ κ L kd σ) (ha : zT L kd a 11) (hdg : decode cc pc = .ok (.getfield 86, 3)) (k : ∀ y : Nat, σ.2.2 a 36 = some y → zT L kd y 136 → zGc rs cs sl d L kd A nL p l e R s m args below meth c Q σ (pc + 3) lv (.ref y :: st)) : zGc rs cs sl d L kd A nL p l e R s m args below meth c Q σ pc lv (.ref a :: st) := by
  obtain ⟨y, hy, hT⟩ := zj_ref hI ha (show zf 0 11 36 = some 136 from rfl)
  have q := k y hy hT
  exact zg_getr X ha rfl (by decide) rfl (by decide) rfl zl_in11 zk_X11_86 hdg (by rw [hy]; exact q)
theorem fg_X11_89 (X : zX d L kd A nL p s m args c cc RX11) (hI : zJ κ L kd σ) (ha : zT L kd a 11) (hdg : decode cc pc = .ok (.getfield 89, 3)) (k : ∀ y : Nat, σ.2.2 a 37 = some y → zT L kd y 137 → zGc rs cs sl d L kd A nL p l e R s m args below meth c Q σ (pc + 3) lv (.ref y :: st)) : zGc rs cs sl d L kd A nL p l e R s m args below meth c Q σ pc lv (.ref a :: st) := by
  obtain ⟨y, hy, hT⟩ := zj_ref hI ha (show zf 0 11 37 = some 137 from rfl)
  have q := k y hy hT
  exact zg_getr X ha rfl (by decide) rfl (by decide) rfl zl_in11 zk_X11_89 hdg (by rw [hy]; exact q)
theorem fg_X11_245 (X : zX d L kd A nL p s m args c cc RX11) (hI : zJ κ L kd σ) (ha : zT L kd a 11) (hdg : decode cc pc = .ok (.getfield 245, 3)) (k : ∀ v : Int32, v = σ.1 a 38 → 0 ≤ v.toInt ∧ v.toInt ≤ 840 → zGc rs cs sl d L kd A nL p l e R s m args below meth c Q σ (pc + 3) lv (.int v :: st)) : zGc rs cs sl d L kd A nL p l e R s m args below meth c Q σ pc lv (.ref a :: st) := zg_geti X ha rfl (by decide) rfl (by decide) rfl zl_in11 zk_X11_245 hdg (k _ rfl (zj_get hI ha rfl))
theorem fp_X11_245 (X : zX d L kd A nL p s m args c cc RX11) {v : Int32} (hI : zJ κ L kd σ) (ha : zT L kd a 11) (h : 0 ≤ v.toInt ∧ v.toInt ≤ 840) (hdg : decode cc pc = .ok (.putfield 245, 3)) (k : ∀ σ2 : zS, σ2 = (zu σ.1 a 38 v, σ.2.1, σ.2.2) → zJ κ L kd σ2 → zGc rs cs sl d L kd A nL p l e R s m args below meth c Q σ2 (pc + 3) lv st) : zGc rs cs sl d L kd A nL p l e R s m args below meth c Q σ pc lv (.int v :: .ref a :: st) := zg_puti (ty := .int) X ha rfl (by decide) rfl (by decide) rfl rfl zl_in11 tyX11_ok nmX11 zk_X11_245 rfl (by decide +kernel) rfl rfl hdg (fun σ2 h2 => k σ2 h2 (by rw [h2]; exact zj_puti hI ha rfl h.1 h.2))
theorem fg_X11_92 (X : zX d L kd A nL p s m args c cc RX11) (hI : zJ κ L kd σ) (ha : zT L kd a 11) (hdg : decode cc pc = .ok (.getfield 92, 3)) (k : ∀ y : Nat, σ.2.2 a 39 = some y → zT L kd y 139 → zGc rs cs sl d L kd A nL p l e R s m args below meth c Q σ (pc + 3) lv (.ref y :: st)) : zGc rs cs sl d L kd A nL p l e R s m args below meth c Q σ pc lv (.ref a :: st) := by
  obtain ⟨y, hy, hT⟩ := zj_ref hI ha (show zf 0 11 39 = some 139 from rfl)
  have q := k y hy hT
  exact zg_getr X ha rfl (by decide) rfl (by decide) rfl zl_in11 zk_X11_92 hdg (by rw [hy]; exact q)
theorem fg_X11_95 (X : zX d L kd A nL p s m args c cc RX11) (hI : zJ κ L kd σ) (ha : zT L kd a 11) (hdg : decode cc pc = .ok (.getfield 95, 3)) (k : ∀ y : Nat, σ.2.2 a 40 = some y → zT L kd y 140 → zGc rs cs sl d L kd A nL p l e R s m args below meth c Q σ (pc + 3) lv (.ref y :: st)) : zGc rs cs sl d L kd A nL p l e R s m args below meth c Q σ pc lv (.ref a :: st) := by
  obtain ⟨y, hy, hT⟩ := zj_ref hI ha (show zf 0 11 40 = some 140 from rfl)
  have q := k y hy hT
  exact zg_getr X ha rfl (by decide) rfl (by decide) rfl zl_in11 zk_X11_95 hdg (by rw [hy]; exact q)
theorem fg_X11_248 (X : zX d L kd A nL p s m args c cc RX11) (hI : zJ κ L kd σ) (ha : zT L kd a 11) (hdg : decode cc pc = .ok (.getfield 248, 3)) (k : ∀ v : Int32, v = σ.1 a 41 → 0 ≤ v.toInt ∧ v.toInt ≤ 1 → zGc rs cs sl d L kd A nL p l e R s m args below meth c Q σ (pc + 3) lv (.int v :: st)) : zGc rs cs sl d L kd A nL p l e R s m args below meth c Q σ pc lv (.ref a :: st) := zg_geti X ha rfl (by decide) rfl (by decide) rfl zl_in11 zk_X11_248 hdg (k _ rfl (zj_get hI ha rfl))
theorem fp_X11_248 (X : zX d L kd A nL p s m args c cc RX11) {v : Int32} (hI : zJ κ L kd σ) (ha : zT L kd a 11) (h : 0 ≤ v.toInt ∧ v.toInt ≤ 1) (hdg : decode cc pc = .ok (.putfield 248, 3)) (k : ∀ σ2 : zS, σ2 = (zu σ.1 a 41 v, σ.2.1, σ.2.2) → zJ κ L kd σ2 → zGc rs cs sl d L kd A nL p l e R s m args below meth c Q σ2 (pc + 3) lv st) : zGc rs cs sl d L kd A nL p l e R s m args below meth c Q σ pc lv (.int v :: .ref a :: st) := zg_puti (ty := .boolean) X ha rfl (by decide) rfl (by decide) rfl rfl zl_in11 tyX11_ok nmX11 zk_X11_248 rfl (by decide +kernel) (zb_bool h) (zb_boolF h) hdg (fun σ2 h2 => k σ2 h2 (by rw [h2]; exact zj_puti hI ha rfl h.1 h.2))
theorem fg_X11_252 (X : zX d L kd A nL p s m args c cc RX11) (hI : zJ κ L kd σ) (ha : zT L kd a 11) (hdg : decode cc pc = .ok (.getfield 252, 3)) (k : ∀ v : Int32, v = σ.1 a 42 → 0 ≤ v.toInt ∧ v.toInt ≤ 11 → zGc rs cs sl d L kd A nL p l e R s m args below meth c Q σ (pc + 3) lv (.int v :: st)) : zGc rs cs sl d L kd A nL p l e R s m args below meth c Q σ pc lv (.ref a :: st) := zg_geti X ha rfl (by decide) rfl (by decide) rfl zl_in11 zk_X11_252 hdg (k _ rfl (zj_get hI ha rfl))
theorem fp_X11_252 (X : zX d L kd A nL p s m args c cc RX11) {v : Int32} (hI : zJ κ L kd σ) (ha : zT L kd a 11) (h : 0 ≤ v.toInt ∧ v.toInt ≤ 11) (hdg : decode cc pc = .ok (.putfield 252, 3)) (k : ∀ σ2 : zS, σ2 = (zu σ.1 a 42 v, σ.2.1, σ.2.2) → zJ κ L kd σ2 → zGc rs cs sl d L kd A nL p l e R s m args below meth c Q σ2 (pc + 3) lv st) : zGc rs cs sl d L kd A nL p l e R s m args below meth c Q σ pc lv (.int v :: .ref a :: st) := zg_puti (ty := .int) X ha rfl (by decide) rfl (by decide) rfl rfl zl_in11 tyX11_ok nmX11 zk_X11_252 rfl (by decide +kernel) rfl rfl hdg (fun σ2 h2 => k σ2 h2 (by rw [h2]; exact zj_puti hI ha rfl h.1 h.2))
theorem fg_X11_98 (X : zX d L kd A nL p s m args c cc RX11) (hI : zJ κ L kd σ) (ha : zT L kd a 11) (hdg : decode cc pc = .ok (.getfield 98, 3)) (k : ∀ y : Nat, σ.2.2 a 43 = some y → zT L kd y 143 → zGc rs cs sl d L kd A nL p l e R s m args below meth c Q σ (pc + 3) lv (.ref y :: st)) : zGc rs cs sl d L kd A nL p l e R s m args below meth c Q σ pc lv (.ref a :: st) := by
  obtain ⟨y, hy, hT⟩ := zj_ref hI ha (show zf 0 11 43 = some 143 from rfl)
  have q := k y hy hT
  exact zg_getr X ha rfl (by decide) rfl (by decide) rfl zl_in11 zk_X11_98 hdg (by rw [hy]; exact q)
theorem fg_X11_297 (X : zX d L kd A nL p s m args c cc RX11) (hI : zJ κ L kd σ) (ha : zT L kd a 11) (hdg : decode cc pc = .ok (.getfield 297, 3)) (k : ∀ v : Int32, v = σ.1 a 44 → 0 ≤ v.toInt ∧ v.toInt ≤ 64 → zGc rs cs sl d L kd A nL p l e R s m args below meth c Q σ (pc + 3) lv (.int v :: st)) : zGc rs cs sl d L kd A nL p l e R s m args below meth c Q σ pc lv (.ref a :: st) := zg_geti X ha rfl (by decide) rfl (by decide) rfl zl_in11 zk_X11_297 hdg (k _ rfl (zj_get hI ha rfl))
theorem fp_X11_297 (X : zX d L kd A nL p s m args c cc RX11) {v : Int32} (hI : zJ κ L kd σ) (ha : zT L kd a 11) (h : 0 ≤ v.toInt ∧ v.toInt ≤ 64) (hdg : decode cc pc = .ok (.putfield 297, 3)) (k : ∀ σ2 : zS, σ2 = (zu σ.1 a 44 v, σ.2.1, σ.2.2) → zJ κ L kd σ2 → zGc rs cs sl d L kd A nL p l e R s m args below meth c Q σ2 (pc + 3) lv st) : zGc rs cs sl d L kd A nL p l e R s m args below meth c Q σ pc lv (.int v :: .ref a :: st) := zg_puti (ty := .int) X ha rfl (by decide) rfl (by decide) rfl rfl zl_in11 tyX11_ok nmX11 zk_X11_297 rfl (by decide +kernel) rfl rfl hdg (fun σ2 h2 => k σ2 h2 (by rw [h2]; exact zj_puti hI ha rfl h.1 h.2))
theorem fg_X11_101 (X : zX d L kd A nL p s m args c cc RX11) (hI : zJ κ L kd σ) (ha : zT L kd a 11) (hdg : decode cc pc = .ok (.getfield 101, 3)) (k : ∀ y : Nat, σ.2.2 a 45 = some y → zT L kd y 145 → zGc rs cs sl d L kd A nL p l e R s m args below meth c Q σ (pc + 3) lv (.ref y :: st)) : zGc rs cs sl d L kd A nL p l e R s m args below meth c Q σ pc lv (.ref a :: st) := by
  obtain ⟨y, hy, hT⟩ := zj_ref hI ha (show zf 0 11 45 = some 145 from rfl)
  have q := k y hy hT
  exact zg_getr X ha rfl (by decide) rfl (by decide) rfl zl_in11 zk_X11_101 hdg (by rw [hy]; exact q)
theorem fg_X11_104 (X : zX d L kd A nL p s m args c cc RX11) (hI : zJ κ L kd σ) (ha : zT L kd a 11) (hdg : decode cc pc = .ok (.getfield 104, 3)) (k : ∀ y : Nat, σ.2.2 a 46 = some y → zT L kd y 146 → zGc rs cs sl d L kd A nL p l e R s m args below meth c Q σ (pc + 3) lv (.ref y :: st)) : zGc rs cs sl d L kd A nL p l e R s m args below meth c Q σ pc lv (.ref a :: st) := by
  obtain ⟨y, hy, hT⟩ := zj_ref hI ha (show zf 0 11 46 = some 146 from rfl)
  have q := k y hy hT
  exact zg_getr X ha rfl (by decide) rfl (by decide) rfl zl_in11 zk_X11_104 hdg (by rw [hy]; exact q)
theorem fg_X11_310 (X : zX d L kd A nL p s m args c cc RX11) (hI : zJ κ L kd σ) (ha : zT L kd a 11) (hdg : decode cc pc = .ok (.getfield 310, 3)) (k : ∀ v : Int32, v = σ.1 a 47 → 0 ≤ v.toInt ∧ v.toInt ≤ 1 → zGc rs cs sl d L kd A nL p l e R s m args below meth c Q σ (pc + 3) lv (.int v :: st)) : zGc rs cs sl d L kd A nL p l e R s m args below meth c Q σ pc lv (.ref a :: st) := zg_geti X ha rfl (by decide) rfl (by decide) rfl zl_in11 zk_X11_310 hdg (k _ rfl (zj_get hI ha rfl))
theorem fp_X11_310 (X : zX d L kd A nL p s m args c cc RX11) {v : Int32} (hI : zJ κ L kd σ) (ha : zT L kd a 11) (h : 0 ≤ v.toInt ∧ v.toInt ≤ 1) (hdg : decode cc pc = .ok (.putfield 310, 3)) (k : ∀ σ2 : zS, σ2 = (zu σ.1 a 47 v, σ.2.1, σ.2.2) → zJ κ L kd σ2 → zGc rs cs sl d L kd A nL p l e R s m args below meth c Q σ2 (pc + 3) lv st) : zGc rs cs sl d L kd A nL p l e R s m args below meth c Q σ pc lv (.int v :: .ref a :: st) := zg_puti (ty := .boolean) X ha rfl (by decide) rfl (by decide) rfl rfl zl_in11 tyX11_ok nmX11 zk_X11_310 rfl (by decide +kernel) (zb_bool h) (zb_boolF h) hdg (fun σ2 h2 => k σ2 h2 (by rw [h2]; exact zj_puti hI ha rfl h.1 h.2))
theorem fg_X11_107 (X : zX d L kd A nL p s m args c cc RX11) (hI : zJ κ L kd σ) (ha : zT L kd a 11) (hdg : decode cc pc = .ok (.getfield 107, 3)) (k : ∀ y : Nat, σ.2.2 a 48 = some y → zT L kd y 148 → zGc rs cs sl d L kd A nL p l e R s m args below meth c Q σ (pc + 3) lv (.ref y :: st)) : zGc rs cs sl d L kd A nL p l e R s m args below meth c Q σ pc lv (.ref a :: st) := by
  obtain ⟨y, hy, hT⟩ := zj_ref hI ha (show zf 0 11 48 = some 148 from rfl)
  have q := k y hy hT
  exact zg_getr X ha rfl (by decide) rfl (by decide) rfl zl_in11 zk_X11_107 hdg (by rw [hy]; exact q)
theorem fg_X11_110 (X : zX d L kd A nL p s m args c cc RX11) (hI : zJ κ L kd σ) (ha : zT L kd a 11) (hdg : decode cc pc = .ok (.getfield 110, 3)) (k : ∀ y : Nat, σ.2.2 a 49 = some y → zT L kd y 149 → zGc rs cs sl d L kd A nL p l e R s m args below meth c Q σ (pc + 3) lv (.ref y :: st)) : zGc rs cs sl d L kd A nL p l e R s m args below meth c Q σ pc lv (.ref a :: st) := by
  obtain ⟨y, hy, hT⟩ := zj_ref hI ha (show zf 0 11 49 = some 149 from rfl)
  have q := k y hy hT
  exact zg_getr X ha rfl (by decide) rfl (by decide) rfl zl_in11 zk_X11_110 hdg (by rw [hy]; exact q)
theorem fg_X11_320 (X : zX d L kd A nL p s m args c cc RX11) (hI : zJ κ L kd σ) (ha : zT L kd a 11) (hdg : decode cc pc = .ok (.getfield 320, 3)) (k : ∀ v : Int32, v = σ.1 a 50 → (-2147483648) ≤ v.toInt ∧ v.toInt ≤ 2147483647 → zGc rs cs sl d L kd A nL p l e R s m args below meth c Q σ (pc + 3) lv (.int v :: st)) : zGc rs cs sl d L kd A nL p l e R s m args below meth c Q σ pc lv (.ref a :: st) := zg_geti X ha rfl (by decide) rfl (by decide) rfl zl_in11 zk_X11_320 hdg (k _ rfl (zj_get hI ha rfl))
theorem fp_X11_320 (X : zX d L kd A nL p s m args c cc RX11) {v : Int32} (hI : zJ κ L kd σ) (ha : zT L kd a 11) (h : (-2147483648) ≤ v.toInt ∧ v.toInt ≤ 2147483647) (hdg : decode cc pc = .ok (.putfield 320, 3)) (k : ∀ σ2 : zS, σ2 = (zu σ.1 a 50 v, σ.2.1, σ.2.2) → zJ κ L kd σ2 → zGc rs cs sl d L kd A nL p l e R s m args below meth c Q σ2 (pc + 3) lv st) : zGc rs cs sl d L kd A nL p l e R s m args below meth c Q σ pc lv (.int v :: .ref a :: st) := zg_puti (ty := .int) X ha rfl (by decide) rfl (by decide) rfl rfl zl_in11 tyX11_ok nmX11 zk_X11_320 rfl (by decide +kernel) rfl rfl hdg (fun σ2 h2 => k σ2 h2 (by rw [h2]; exact zj_puti hI ha rfl h.1 h.2))
theorem fg_X11_323 (X : zX d L kd A nL p s m args c cc RX11) (hI : zJ κ L kd σ) (ha : zT L kd a 11) (hdg : decode cc pc = .ok (.getfield 323, 3)) (k : ∀ v : Int32, v = σ.1 a 51 → 0 ≤ v.toInt ∧ v.toInt ≤ 1 → zGc rs cs sl d L kd A nL p l e R s m args below meth c Q σ (pc + 3) lv (.int v :: st)) : zGc rs cs sl d L kd A nL p l e R s m args below meth c Q σ pc lv (.ref a :: st) := zg_geti X ha rfl (by decide) rfl (by decide) rfl zl_in11 zk_X11_323 hdg (k _ rfl (zj_get hI ha rfl))
theorem fp_X11_323 (X : zX d L kd A nL p s m args c cc RX11) {v : Int32} (hI : zJ κ L kd σ) (ha : zT L kd a 11) (h : 0 ≤ v.toInt ∧ v.toInt ≤ 1) (hdg : decode cc pc = .ok (.putfield 323, 3)) (k : ∀ σ2 : zS, σ2 = (zu σ.1 a 51 v, σ.2.1, σ.2.2) → zJ κ L kd σ2 → zGc rs cs sl d L kd A nL p l e R s m args below meth c Q σ2 (pc + 3) lv st) : zGc rs cs sl d L kd A nL p l e R s m args below meth c Q σ pc lv (.int v :: .ref a :: st) := zg_puti (ty := .boolean) X ha rfl (by decide) rfl (by decide) rfl rfl zl_in11 tyX11_ok nmX11 zk_X11_323 rfl (by decide +kernel) (zb_bool h) (zb_boolF h) hdg (fun σ2 h2 => k σ2 h2 (by rw [h2]; exact zj_puti hI ha rfl h.1 h.2))
theorem fg_X11_113 (X : zX d L kd A nL p s m args c cc RX11) (hI : zJ κ L kd σ) (ha : zT L kd a 11) (hdg : decode cc pc = .ok (.getfield 113, 3)) (k : ∀ y : Nat, σ.2.2 a 52 = some y → zT L kd y 152 → zGc rs cs sl d L kd A nL p l e R s m args below meth c Q σ (pc + 3) lv (.ref y :: st)) : zGc rs cs sl d L kd A nL p l e R s m args below meth c Q σ pc lv (.ref a :: st) := by
  obtain ⟨y, hy, hT⟩ := zj_ref hI ha (show zf 0 11 52 = some 152 from rfl)
  have q := k y hy hT
  exact zg_getr X ha rfl (by decide) rfl (by decide) rfl zl_in11 zk_X11_113 hdg (by rw [hy]; exact q)
theorem fg_X11_116 (X : zX d L kd A nL p s m args c cc RX11) (hI : zJ κ L kd σ) (ha : zT L kd a 11) (hdg : decode cc pc = .ok (.getfield 116, 3)) (k : ∀ y : Nat, σ.2.2 a 53 = some y → zT L kd y 153 → zGc rs cs sl d L kd A nL p l e R s m args below meth c Q σ (pc + 3) lv (.ref y :: st)) : zGc rs cs sl d L kd A nL p l e R s m args below meth c Q σ pc lv (.ref a :: st) := by
  obtain ⟨y, hy, hT⟩ := zj_ref hI ha (show zf 0 11 53 = some 153 from rfl)
  have q := k y hy hT
  exact zg_getr X ha rfl (by decide) rfl (by decide) rfl zl_in11 zk_X11_116 hdg (by rw [hy]; exact q)
theorem fg_X11_119 (X : zX d L kd A nL p s m args c cc RX11) (hI : zJ κ L kd σ) (ha : zT L kd a 11) (hdg : decode cc pc = .ok (.getfield 119, 3)) (k : ∀ y : Nat, σ.2.2 a 54 = some y → zT L kd y 154 → zGc rs cs sl d L kd A nL p l e R s m args below meth c Q σ (pc + 3) lv (.ref y :: st)) : zGc rs cs sl d L kd A nL p l e R s m args below meth c Q σ pc lv (.ref a :: st) := by
  obtain ⟨y, hy, hT⟩ := zj_ref hI ha (show zf 0 11 54 = some 154 from rfl)
  have q := k y hy hT
  exact zg_getr X ha rfl (by decide) rfl (by decide) rfl zl_in11 zk_X11_119 hdg (by rw [hy]; exact q)
theorem fg_X11_122 (X : zX d L kd A nL p s m args c cc RX11) (hI : zJ κ L kd σ) (ha : zT L kd a 11) (hdg : decode cc pc = .ok (.getfield 122, 3)) (k : ∀ y : Nat, σ.2.2 a 55 = some y → zT L kd y 155 → zGc rs cs sl d L kd A nL p l e R s m args below meth c Q σ (pc + 3) lv (.ref y :: st)) : zGc rs cs sl d L kd A nL p l e R s m args below meth c Q σ pc lv (.ref a :: st) := by
  obtain ⟨y, hy, hT⟩ := zj_ref hI ha (show zf 0 11 55 = some 155 from rfl)
  have q := k y hy hT
  exact zg_getr X ha rfl (by decide) rfl (by decide) rfl zl_in11 zk_X11_122 hdg (by rw [hy]; exact q)
theorem fg_X11_377 (X : zX d L kd A nL p s m args c cc RX11) (hI : zJ κ L kd σ) (ha : zT L kd a 11) (hdg : decode cc pc = .ok (.getfield 377, 3)) (k : ∀ v : Int32, v = σ.1 a 56 → (-2) ≤ v.toInt ∧ v.toInt ≤ 11 → zGc rs cs sl d L kd A nL p l e R s m args below meth c Q σ (pc + 3) lv (.int v :: st)) : zGc rs cs sl d L kd A nL p l e R s m args below meth c Q σ pc lv (.ref a :: st) := zg_geti X ha rfl (by decide) rfl (by decide) rfl zl_in11 zk_X11_377 hdg (k _ rfl (zj_get hI ha rfl))
theorem fp_X11_377 (X : zX d L kd A nL p s m args c cc RX11) {v : Int32} (hI : zJ κ L kd σ) (ha : zT L kd a 11) (h : (-2) ≤ v.toInt ∧ v.toInt ≤ 11) (hdg : decode cc pc = .ok (.putfield 377, 3)) (k : ∀ σ2 : zS, σ2 = (zu σ.1 a 56 v, σ.2.1, σ.2.2) → zJ κ L kd σ2 → zGc rs cs sl d L kd A nL p l e R s m args below meth c Q σ2 (pc + 3) lv st) : zGc rs cs sl d L kd A nL p l e R s m args below meth c Q σ pc lv (.int v :: .ref a :: st) := zg_puti (ty := .int) X ha rfl (by decide) rfl (by decide) rfl rfl zl_in11 tyX11_ok nmX11 zk_X11_377 rfl (by decide +kernel) rfl rfl hdg (fun σ2 h2 => k σ2 h2 (by rw [h2]; exact zj_puti hI ha rfl h.1 h.2))
theorem fg_X11_258 (X : zX d L kd A nL p s m args c cc RX11) (hI : zJ κ L kd σ) (ha : zT L kd a 11) (hdg : decode cc pc = .ok (.getfield 258, 3)) (k : ∀ v : Int32, v = σ.1 a 57 → 0 ≤ v.toInt ∧ v.toInt ≤ 40 → zGc rs cs sl d L kd A nL p l e R s m args below meth c Q σ (pc + 3) lv (.int v :: st)) : zGc rs cs sl d L kd A nL p l e R s m args below meth c Q σ pc lv (.ref a :: st) := zg_geti X ha rfl (by decide) rfl (by decide) rfl zl_in11 zk_X11_258 hdg (k _ rfl (zj_get hI ha rfl))
theorem fp_X11_258 (X : zX d L kd A nL p s m args c cc RX11) {v : Int32} (hI : zJ κ L kd σ) (ha : zT L kd a 11) (h : 0 ≤ v.toInt ∧ v.toInt ≤ 40) (hdg : decode cc pc = .ok (.putfield 258, 3)) (k : ∀ σ2 : zS, σ2 = (zu σ.1 a 57 v, σ.2.1, σ.2.2) → zJ κ L kd σ2 → zGc rs cs sl d L kd A nL p l e R s m args below meth c Q σ2 (pc + 3) lv st) : zGc rs cs sl d L kd A nL p l e R s m args below meth c Q σ pc lv (.int v :: .ref a :: st) := zg_puti (ty := .int) X ha rfl (by decide) rfl (by decide) rfl rfl zl_in11 tyX11_ok nmX11 zk_X11_258 rfl (by decide +kernel) rfl rfl hdg (fun σ2 h2 => k σ2 h2 (by rw [h2]; exact zj_puti hI ha rfl h.1 h.2))
theorem fg_X11_125 (X : zX d L kd A nL p s m args c cc RX11) (hI : zJ κ L kd σ) (ha : zT L kd a 11) (hdg : decode cc pc = .ok (.getfield 125, 3)) (k : ∀ y : Nat, σ.2.2 a 58 = some y → zT L kd y 158 → zGc rs cs sl d L kd A nL p l e R s m args below meth c Q σ (pc + 3) lv (.ref y :: st)) : zGc rs cs sl d L kd A nL p l e R s m args below meth c Q σ pc lv (.ref a :: st) := by
  obtain ⟨y, hy, hT⟩ := zj_ref hI ha (show zf 0 11 58 = some 158 from rfl)
  have q := k y hy hT
  exact zg_getr X ha rfl (by decide) rfl (by decide) rfl zl_in11 zk_X11_125 hdg (by rw [hy]; exact q)
theorem fg_X11_128 (X : zX d L kd A nL p s m args c cc RX11) (hI : zJ κ L kd σ) (ha : zT L kd a 11) (hdg : decode cc pc = .ok (.getfield 128, 3)) (k : ∀ y : Nat, σ.2.2 a 59 = some y → zT L kd y 159 → zGc rs cs sl d L kd A nL p l e R s m args below meth c Q σ (pc + 3) lv (.ref y :: st)) : zGc rs cs sl d L kd A nL p l e R s m args below meth c Q σ pc lv (.ref a :: st) := by
  obtain ⟨y, hy, hT⟩ := zj_ref hI ha (show zf 0 11 59 = some 159 from rfl)
  have q := k y hy hT
  exact zg_getr X ha rfl (by decide) rfl (by decide) rfl zl_in11 zk_X11_128 hdg (by rw [hy]; exact q)
theorem fg_X11_131 (X : zX d L kd A nL p s m args c cc RX11) (hI : zJ κ L kd σ) (ha : zT L kd a 11) (hdg : decode cc pc = .ok (.getfield 131, 3)) (k : ∀ y : Nat, σ.2.2 a 60 = some y → zT L kd y 160 → zGc rs cs sl d L kd A nL p l e R s m args below meth c Q σ (pc + 3) lv (.ref y :: st)) : zGc rs cs sl d L kd A nL p l e R s m args below meth c Q σ pc lv (.ref a :: st) := by
  obtain ⟨y, hy, hT⟩ := zj_ref hI ha (show zf 0 11 60 = some 160 from rfl)
  have q := k y hy hT
  exact zg_getr X ha rfl (by decide) rfl (by decide) rfl zl_in11 zk_X11_131 hdg (by rw [hy]; exact q)
theorem fg_X11_134 (X : zX d L kd A nL p s m args c cc RX11) (hI : zJ κ L kd σ) (ha : zT L kd a 11) (hdg : decode cc pc = .ok (.getfield 134, 3)) (k : ∀ y : Nat, σ.2.2 a 61 = some y → zT L kd y 161 → zGc rs cs sl d L kd A nL p l e R s m args below meth c Q σ (pc + 3) lv (.ref y :: st)) : zGc rs cs sl d L kd A nL p l e R s m args below meth c Q σ pc lv (.ref a :: st) := by
  obtain ⟨y, hy, hT⟩ := zj_ref hI ha (show zf 0 11 61 = some 161 from rfl)
  have q := k y hy hT
  exact zg_getr X ha rfl (by decide) rfl (by decide) rfl zl_in11 zk_X11_134 hdg (by rw [hy]; exact q)
theorem fg_X11_261 (X : zX d L kd A nL p s m args c cc RX11) (hI : zJ κ L kd σ) (ha : zT L kd a 11) (hdg : decode cc pc = .ok (.getfield 261, 3)) (k : ∀ v : Int32, v = σ.1 a 62 → 0 ≤ v.toInt ∧ v.toInt ≤ 20 → zGc rs cs sl d L kd A nL p l e R s m args below meth c Q σ (pc + 3) lv (.int v :: st)) : zGc rs cs sl d L kd A nL p l e R s m args below meth c Q σ pc lv (.ref a :: st) := zg_geti X ha rfl (by decide) rfl (by decide) rfl zl_in11 zk_X11_261 hdg (k _ rfl (zj_get hI ha rfl))
theorem fp_X11_261 (X : zX d L kd A nL p s m args c cc RX11) {v : Int32} (hI : zJ κ L kd σ) (ha : zT L kd a 11) (h : 0 ≤ v.toInt ∧ v.toInt ≤ 20) (hdg : decode cc pc = .ok (.putfield 261, 3)) (k : ∀ σ2 : zS, σ2 = (zu σ.1 a 62 v, σ.2.1, σ.2.2) → zJ κ L kd σ2 → zGc rs cs sl d L kd A nL p l e R s m args below meth c Q σ2 (pc + 3) lv st) : zGc rs cs sl d L kd A nL p l e R s m args below meth c Q σ pc lv (.int v :: .ref a :: st) := zg_puti (ty := .int) X ha rfl (by decide) rfl (by decide) rfl rfl zl_in11 tyX11_ok nmX11 zk_X11_261 rfl (by decide +kernel) rfl rfl hdg (fun σ2 h2 => k σ2 h2 (by rw [h2]; exact zj_puti hI ha rfl h.1 h.2))
theorem fg_X11_137 (X : zX d L kd A nL p s m args c cc RX11) (hI : zJ κ L kd σ) (ha : zT L kd a 11) (hdg : decode cc pc = .ok (.getfield 137, 3)) (k : ∀ y : Nat, σ.2.2 a 63 = some y → zT L kd y 163 → zGc rs cs sl d L kd A nL p l e R s m args below meth c Q σ (pc + 3) lv (.ref y :: st)) : zGc rs cs sl d L kd A nL p l e R s m args below meth c Q σ pc lv (.ref a :: st) := by
  obtain ⟨y, hy, hT⟩ := zj_ref hI ha (show zf 0 11 63 = some 163 from rfl)
  have q := k y hy hT
  exact zg_getr X ha rfl (by decide) rfl (by decide) rfl zl_in11 zk_X11_137 hdg (by rw [hy]; exact q)
theorem fg_X11_140 (X : zX d L kd A nL p s m args c cc RX11) (hI : zJ κ L kd σ) (ha : zT L kd a 11) (hdg : decode cc pc = .ok (.getfield 140, 3)) (k : ∀ y : Nat, σ.2.2 a 64 = some y → zT L kd y 164 → zGc rs cs sl d L kd A nL p l e R s m args below meth c Q σ (pc + 3) lv (.ref y :: st)) : zGc rs cs sl d L kd A nL p l e R s m args below meth c Q σ pc lv (.ref a :: st) := by
  obtain ⟨y, hy, hT⟩ := zj_ref hI ha (show zf 0 11 64 = some 164 from rfl)
  have q := k y hy hT
  exact zg_getr X ha rfl (by decide) rfl (by decide) rfl zl_in11 zk_X11_140 hdg (by rw [hy]; exact q)
theorem fg_X11_143 (X : zX d L kd A nL p s m args c cc RX11) (hI : zJ κ L kd σ) (ha : zT L kd a 11) (hdg : decode cc pc = .ok (.getfield 143, 3)) (k : ∀ y : Nat, σ.2.2 a 65 = some y → zT L kd y 165 → zGc rs cs sl d L kd A nL p l e R s m args below meth c Q σ (pc + 3) lv (.ref y :: st)) : zGc rs cs sl d L kd A nL p l e R s m args below meth c Q σ pc lv (.ref a :: st) := by
  obtain ⟨y, hy, hT⟩ := zj_ref hI ha (show zf 0 11 65 = some 165 from rfl)
  have q := k y hy hT
  exact zg_getr X ha rfl (by decide) rfl (by decide) rfl zl_in11 zk_X11_143 hdg (by rw [hy]; exact q)
theorem fg_X11_146 (X : zX d L kd A nL p s m args c cc RX11) (hI : zJ κ L kd σ) (ha : zT L kd a 11) (hdg : decode cc pc = .ok (.getfield 146, 3)) (k : ∀ y : Nat, σ.2.2 a 66 = some y → zT L kd y 166 → zGc rs cs sl d L kd A nL p l e R s m args below meth c Q σ (pc + 3) lv (.ref y :: st)) : zGc rs cs sl d L kd A nL p l e R s m args below meth c Q σ pc lv (.ref a :: st) := by
  obtain ⟨y, hy, hT⟩ := zj_ref hI ha (show zf 0 11 66 = some 166 from rfl)
  have q := k y hy hT
  exact zg_getr X ha rfl (by decide) rfl (by decide) rfl zl_in11 zk_X11_146 hdg (by rw [hy]; exact q)
theorem fg_X11_149 (X : zX d L kd A nL p s m args c cc RX11) (hI : zJ κ L kd σ) (ha : zT L kd a 11) (hdg : decode cc pc = .ok (.getfield 149, 3)) (k : ∀ y : Nat, σ.2.2 a 67 = some y → zT L kd y 167 → zGc rs cs sl d L kd A nL p l e R s m args below meth c Q σ (pc + 3) lv (.ref y :: st)) : zGc rs cs sl d L kd A nL p l e R s m args below meth c Q σ pc lv (.ref a :: st) := by
  obtain ⟨y, hy, hT⟩ := zj_ref hI ha (show zf 0 11 67 = some 167 from rfl)
  have q := k y hy hT
  exact zg_getr X ha rfl (by decide) rfl (by decide) rfl zl_in11 zk_X11_149 hdg (by rw [hy]; exact q)
theorem fg_X11_152 (X : zX d L kd A nL p s m args c cc RX11) (hI : zJ κ L kd σ) (ha : zT L kd a 11) (hdg : decode cc pc = .ok (.getfield 152, 3)) (k : ∀ y : Nat, σ.2.2 a 68 = some y → zT L kd y 168 → zGc rs cs sl d L kd A nL p l e R s m args below meth c Q σ (pc + 3) lv (.ref y :: st)) : zGc rs cs sl d L kd A nL p l e R s m args below meth c Q σ pc lv (.ref a :: st) := by
  obtain ⟨y, hy, hT⟩ := zj_ref hI ha (show zf 0 11 68 = some 168 from rfl)
  have q := k y hy hT
  exact zg_getr X ha rfl (by decide) rfl (by decide) rfl zl_in11 zk_X11_152 hdg (by rw [hy]; exact q)
theorem ag_101 {own : String} (X : zX d L kd A nL p s m args c cc own) {i : Int32} (hI : zJ κ L kd σ) (ha : zT L kd a 101) (h0 : 0 ≤ i.toInt) (h1 : i.toInt < 2000) (hdg : decode cc pc = .ok (.baload, 1)) (kk : ∀ v : Int32, v = σ.1 a i.toNatClampNeg → (-128) ≤ v.toInt ∧ v.toInt ≤ 127 → zGc rs cs sl d L kd A nL p l e R s m args below meth c Q σ (pc + 1) lv (.int v :: st)) : zGc rs cs sl d L kd A nL p l e R s m args below meth c Q σ pc lv (.int i :: .ref a :: st) := zg_bald X ha rfl h0 h1 hdg (kk _ rfl (zj_get hI ha rfl))
theorem as_101 {own : String} (X : zX d L kd A nL p s m args c cc own) {i x : Int32} (hI : zJ κ L kd σ) (ha : zT L kd a 101) (h0 : 0 ≤ i.toInt) (h1 : i.toInt < 2000) (hdg : decode cc pc = .ok (.bastore, 1)) (kk : ∀ σ2 : zS, σ2 = (zu σ.1 a i.toNatClampNeg (vp_nar .byte x), σ.2.1, σ.2.2) → zJ κ L kd σ2 → zGc rs cs sl d L kd A nL p l e R s m args below meth c Q σ2 (pc + 1) lv st) : zGc rs cs sl d L kd A nL p l e R s m args below meth c Q σ pc lv (.int x :: .int i :: .ref a :: st) := zg_bast X ha rfl h0 h1 hdg (fun σ2 h2 => kk σ2 h2 (by rw [h2]; exact zj_puti hI ha rfl (zb_nb _).1 (zb_nb _).2))
theorem ag_103 {own : String} (X : zX d L kd A nL p s m args c cc own) {i : Int32} (hI : zJ κ L kd σ) (ha : zT L kd a 103) (h0 : 0 ≤ i.toInt) (h1 : i.toInt < 2000) (hdg : decode cc pc = .ok (.baload, 1)) (kk : ∀ v : Int32, v = σ.1 a i.toNatClampNeg → (-128) ≤ v.toInt ∧ v.toInt ≤ 127 → zGc rs cs sl d L kd A nL p l e R s m args below meth c Q σ (pc + 1) lv (.int v :: st)) : zGc rs cs sl d L kd A nL p l e R s m args below meth c Q σ pc lv (.int i :: .ref a :: st) := zg_bald X ha rfl h0 h1 hdg (kk _ rfl (zj_get hI ha rfl))
theorem as_103 {own : String} (X : zX d L kd A nL p s m args c cc own) {i x : Int32} (hI : zJ κ L kd σ) (ha : zT L kd a 103) (h0 : 0 ≤ i.toInt) (h1 : i.toInt < 2000) (hdg : decode cc pc = .ok (.bastore, 1)) (kk : ∀ σ2 : zS, σ2 = (zu σ.1 a i.toNatClampNeg (vp_nar .byte x), σ.2.1, σ.2.2) → zJ κ L kd σ2 → zGc rs cs sl d L kd A nL p l e R s m args below meth c Q σ2 (pc + 1) lv st) : zGc rs cs sl d L kd A nL p l e R s m args below meth c Q σ pc lv (.int x :: .int i :: .ref a :: st) := zg_bast X ha rfl h0 h1 hdg (fun σ2 h2 => kk σ2 h2 (by rw [h2]; exact zj_puti hI ha rfl (zb_nb _).1 (zb_nb _).2))
theorem ag_105 {own : String} (X : zX d L kd A nL p s m args c cc own) {i : Int32} (hI : zJ κ L kd σ) (ha : zT L kd a 105) (h0 : 0 ≤ i.toInt) (h1 : i.toInt < 403) (hdg : decode cc pc = .ok (.iaload, 1)) (kk : ∀ v : Int32, v = σ.1 a i.toNatClampNeg → (-2147483648) ≤ v.toInt ∧ v.toInt ≤ 2147483647 → zGc rs cs sl d L kd A nL p l e R s m args below meth c Q σ (pc + 1) lv (.int v :: st)) : zGc rs cs sl d L kd A nL p l e R s m args below meth c Q σ pc lv (.int i :: .ref a :: st) := zg_iald X ha rfl h0 h1 hdg (kk _ rfl (zj_get hI ha rfl))
theorem as_105 {own : String} (X : zX d L kd A nL p s m args c cc own) {i x : Int32} (hI : zJ κ L kd σ) (ha : zT L kd a 105) (h0 : 0 ≤ i.toInt) (h1 : i.toInt < 403) (hdg : decode cc pc = .ok (.iastore, 1)) (kk : ∀ σ2 : zS, σ2 = (zu σ.1 a i.toNatClampNeg x, σ.2.1, σ.2.2) → zJ κ L kd σ2 → zGc rs cs sl d L kd A nL p l e R s m args below meth c Q σ2 (pc + 1) lv st) : zGc rs cs sl d L kd A nL p l e R s m args below meth c Q σ pc lv (.int x :: .int i :: .ref a :: st) := zg_iast X ha rfl h0 h1 hdg (fun σ2 h2 => kk σ2 h2 (by rw [h2]; exact zj_puti hI ha rfl (zb_rng _).1 (zb_rng _).2))
theorem ag_106 {own : String} (X : zX d L kd A nL p s m args c cc own) {i : Int32} (hI : zJ κ L kd σ) (ha : zT L kd a 106) (h0 : 0 ≤ i.toInt) (h1 : i.toInt < 403) (hdg : decode cc pc = .ok (.iaload, 1)) (kk : ∀ v : Int32, v = σ.1 a i.toNatClampNeg → (-2147483648) ≤ v.toInt ∧ v.toInt ≤ 2147483647 → zGc rs cs sl d L kd A nL p l e R s m args below meth c Q σ (pc + 1) lv (.int v :: st)) : zGc rs cs sl d L kd A nL p l e R s m args below meth c Q σ pc lv (.int i :: .ref a :: st) := zg_iald X ha rfl h0 h1 hdg (kk _ rfl (zj_get hI ha rfl))
theorem as_106 {own : String} (X : zX d L kd A nL p s m args c cc own) {i x : Int32} (hI : zJ κ L kd σ) (ha : zT L kd a 106) (h0 : 0 ≤ i.toInt) (h1 : i.toInt < 403) (hdg : decode cc pc = .ok (.iastore, 1)) (kk : ∀ σ2 : zS, σ2 = (zu σ.1 a i.toNatClampNeg x, σ.2.1, σ.2.2) → zJ κ L kd σ2 → zGc rs cs sl d L kd A nL p l e R s m args below meth c Q σ2 (pc + 1) lv st) : zGc rs cs sl d L kd A nL p l e R s m args below meth c Q σ pc lv (.int x :: .int i :: .ref a :: st) := zg_iast X ha rfl h0 h1 hdg (fun σ2 h2 => kk σ2 h2 (by rw [h2]; exact zj_puti hI ha rfl (zb_rng _).1 (zb_rng _).2))
theorem ag_107 {own : String} (X : zX d L kd A nL p s m args c cc own) {i : Int32} (hI : zJ κ L kd σ) (ha : zT L kd a 107) (h0 : 0 ≤ i.toInt) (h1 : i.toInt < 403) (hdg : decode cc pc = .ok (.iaload, 1)) (kk : ∀ v : Int32, v = σ.1 a i.toNatClampNeg → (-2147483648) ≤ v.toInt ∧ v.toInt ≤ 2147483647 → zGc rs cs sl d L kd A nL p l e R s m args below meth c Q σ (pc + 1) lv (.int v :: st)) : zGc rs cs sl d L kd A nL p l e R s m args below meth c Q σ pc lv (.int i :: .ref a :: st) := zg_iald X ha rfl h0 h1 hdg (kk _ rfl (zj_get hI ha rfl))
theorem as_107 {own : String} (X : zX d L kd A nL p s m args c cc own) {i x : Int32} (hI : zJ κ L kd σ) (ha : zT L kd a 107) (h0 : 0 ≤ i.toInt) (h1 : i.toInt < 403) (hdg : decode cc pc = .ok (.iastore, 1)) (kk : ∀ σ2 : zS, σ2 = (zu σ.1 a i.toNatClampNeg x, σ.2.1, σ.2.2) → zJ κ L kd σ2 → zGc rs cs sl d L kd A nL p l e R s m args below meth c Q σ2 (pc + 1) lv st) : zGc rs cs sl d L kd A nL p l e R s m args below meth c Q σ pc lv (.int x :: .int i :: .ref a :: st) := zg_iast X ha rfl h0 h1 hdg (fun σ2 h2 => kk σ2 h2 (by rw [h2]; exact zj_puti hI ha rfl (zb_rng _).1 (zb_rng _).2))
theorem ag_108 {own : String} (X : zX d L kd A nL p s m args c cc own) {i : Int32} (ha : zT L kd a 108) (h0 : 0 ≤ i.toInt) (h1 : i.toInt < 403) (hdg : decode cc pc = .ok (.laload, 1)) (kk : ∀ v : Int64, v = σ.2.1 a i.toNatClampNeg → zGc rs cs sl d L kd A nL p l e R s m args below meth c Q σ (pc + 1) lv (.long v :: st)) : zGc rs cs sl d L kd A nL p l e R s m args below meth c Q σ pc lv (.int i :: .ref a :: st) := zg_lald X ha rfl h0 h1 hdg (kk _ rfl)
theorem as_108 {own : String} (X : zX d L kd A nL p s m args c cc own) {i : Int32} {x : Int64} (hI : zJ κ L kd σ) (ha : zT L kd a 108) (h0 : 0 ≤ i.toInt) (h1 : i.toInt < 403) (hdg : decode cc pc = .ok (.lastore, 1)) (kk : ∀ σ2 : zS, σ2 = (σ.1, zu σ.2.1 a i.toNatClampNeg x, σ.2.2) → zJ κ L kd σ2 → zGc rs cs sl d L kd A nL p l e R s m args below meth c Q σ2 (pc + 1) lv st) : zGc rs cs sl d L kd A nL p l e R s m args below meth c Q σ pc lv (.long x :: .int i :: .ref a :: st) := zg_last X ha rfl h0 h1 hdg (fun σ2 h2 => kk σ2 h2 (by rw [h2]; exact zj_putl hI))
theorem ag_109 {own : String} (X : zX d L kd A nL p s m args c cc own) {i : Int32} (ha : zT L kd a 109) (h0 : 0 ≤ i.toInt) (h1 : i.toInt < 22) (hdg : decode cc pc = .ok (.laload, 1)) (kk : ∀ v : Int64, v = σ.2.1 a i.toNatClampNeg → zGc rs cs sl d L kd A nL p l e R s m args below meth c Q σ (pc + 1) lv (.long v :: st)) : zGc rs cs sl d L kd A nL p l e R s m args below meth c Q σ pc lv (.int i :: .ref a :: st) := zg_lald X ha rfl h0 h1 hdg (kk _ rfl)
theorem as_109 {own : String} (X : zX d L kd A nL p s m args c cc own) {i : Int32} {x : Int64} (hI : zJ κ L kd σ) (ha : zT L kd a 109) (h0 : 0 ≤ i.toInt) (h1 : i.toInt < 22) (hdg : decode cc pc = .ok (.lastore, 1)) (kk : ∀ σ2 : zS, σ2 = (σ.1, zu σ.2.1 a i.toNatClampNeg x, σ.2.2) → zJ κ L kd σ2 → zGc rs cs sl d L kd A nL p l e R s m args below meth c Q σ2 (pc + 1) lv st) : zGc rs cs sl d L kd A nL p l e R s m args below meth c Q σ pc lv (.long x :: .int i :: .ref a :: st) := zg_last X ha rfl h0 h1 hdg (fun σ2 h2 => kk σ2 h2 (by rw [h2]; exact zj_putl hI))
theorem ag_120 {own : String} (X : zX d L kd A nL p s m args c cc own) {i : Int32} (ha : zT L kd a 120) (h0 : 0 ≤ i.toInt) (h1 : i.toInt < 12) (hdg : decode cc pc = .ok (.laload, 1)) (kk : ∀ v : Int64, v = σ.2.1 a i.toNatClampNeg → zGc rs cs sl d L kd A nL p l e R s m args below meth c Q σ (pc + 1) lv (.long v :: st)) : zGc rs cs sl d L kd A nL p l e R s m args below meth c Q σ pc lv (.int i :: .ref a :: st) := zg_lald X ha rfl h0 h1 hdg (kk _ rfl)
theorem as_120 {own : String} (X : zX d L kd A nL p s m args c cc own) {i : Int32} {x : Int64} (hI : zJ κ L kd σ) (ha : zT L kd a 120) (h0 : 0 ≤ i.toInt) (h1 : i.toInt < 12) (hdg : decode cc pc = .ok (.lastore, 1)) (kk : ∀ σ2 : zS, σ2 = (σ.1, zu σ.2.1 a i.toNatClampNeg x, σ.2.2) → zJ κ L kd σ2 → zGc rs cs sl d L kd A nL p l e R s m args below meth c Q σ2 (pc + 1) lv st) : zGc rs cs sl d L kd A nL p l e R s m args below meth c Q σ pc lv (.long x :: .int i :: .ref a :: st) := zg_last X ha rfl h0 h1 hdg (fun σ2 h2 => kk σ2 h2 (by rw [h2]; exact zj_putl hI))
theorem ag_121 {own : String} (X : zX d L kd A nL p s m args c cc own) {i : Int32} (hI : zJ κ L kd σ) (ha : zT L kd a 121) (h0 : 0 ≤ i.toInt) (h1 : i.toInt < 2) (hdg : decode cc pc = .ok (.iaload, 1)) (kk : ∀ v : Int32, v = σ.1 a i.toNatClampNeg → 0 ≤ v.toInt ∧ v.toInt ≤ 12 → zGc rs cs sl d L kd A nL p l e R s m args below meth c Q σ (pc + 1) lv (.int v :: st)) : zGc rs cs sl d L kd A nL p l e R s m args below meth c Q σ pc lv (.int i :: .ref a :: st) := zg_iald X ha rfl h0 h1 hdg (kk _ rfl (zj_get hI ha rfl))
theorem as_121 {own : String} (X : zX d L kd A nL p s m args c cc own) {i x : Int32} (hI : zJ κ L kd σ) (ha : zT L kd a 121) (h0 : 0 ≤ i.toInt) (h1 : i.toInt < 2) (h : 0 ≤ x.toInt ∧ x.toInt ≤ 12) (hdg : decode cc pc = .ok (.iastore, 1)) (kk : ∀ σ2 : zS, σ2 = (zu σ.1 a i.toNatClampNeg x, σ.2.1, σ.2.2) → zJ κ L kd σ2 → zGc rs cs sl d L kd A nL p l e R s m args below meth c Q σ2 (pc + 1) lv st) : zGc rs cs sl d L kd A nL p l e R s m args below meth c Q σ pc lv (.int x :: .int i :: .ref a :: st) := zg_iast X ha rfl h0 h1 hdg (fun σ2 h2 => kk σ2 h2 (by rw [h2]; exact zj_puti hI ha rfl h.1 h.2))
theorem ag_122 {own : String} (X : zX d L kd A nL p s m args c cc own) {i : Int32} (hI : zJ κ L kd σ) (ha : zT L kd a 122) (h0 : 0 ≤ i.toInt) (h1 : i.toInt < 24) (hdg : decode cc pc = .ok (.iaload, 1)) (kk : ∀ v : Int32, v = σ.1 a i.toNatClampNeg → (-2147483648) ≤ v.toInt ∧ v.toInt ≤ 2147483647 → zGc rs cs sl d L kd A nL p l e R s m args below meth c Q σ (pc + 1) lv (.int v :: st)) : zGc rs cs sl d L kd A nL p l e R s m args below meth c Q σ pc lv (.int i :: .ref a :: st) := zg_iald X ha rfl h0 h1 hdg (kk _ rfl (zj_get hI ha rfl))
theorem as_122 {own : String} (X : zX d L kd A nL p s m args c cc own) {i x : Int32} (hI : zJ κ L kd σ) (ha : zT L kd a 122) (h0 : 0 ≤ i.toInt) (h1 : i.toInt < 24) (hdg : decode cc pc = .ok (.iastore, 1)) (kk : ∀ σ2 : zS, σ2 = (zu σ.1 a i.toNatClampNeg x, σ.2.1, σ.2.2) → zJ κ L kd σ2 → zGc rs cs sl d L kd A nL p l e R s m args below meth c Q σ2 (pc + 1) lv st) : zGc rs cs sl d L kd A nL p l e R s m args below meth c Q σ pc lv (.int x :: .int i :: .ref a :: st) := zg_iast X ha rfl h0 h1 hdg (fun σ2 h2 => kk σ2 h2 (by rw [h2]; exact zj_puti hI ha rfl (zb_rng _).1 (zb_rng _).2))
theorem ag_123 {own : String} (X : zX d L kd A nL p s m args c cc own) {i : Int32} (hI : zJ κ L kd σ) (ha : zT L kd a 123) (h0 : 0 ≤ i.toInt) (h1 : i.toInt < 24) (hdg : decode cc pc = .ok (.iaload, 1)) (kk : ∀ v : Int32, v = σ.1 a i.toNatClampNeg → (-2147483648) ≤ v.toInt ∧ v.toInt ≤ 2147483647 → zGc rs cs sl d L kd A nL p l e R s m args below meth c Q σ (pc + 1) lv (.int v :: st)) : zGc rs cs sl d L kd A nL p l e R s m args below meth c Q σ pc lv (.int i :: .ref a :: st) := zg_iald X ha rfl h0 h1 hdg (kk _ rfl (zj_get hI ha rfl))
theorem as_123 {own : String} (X : zX d L kd A nL p s m args c cc own) {i x : Int32} (hI : zJ κ L kd σ) (ha : zT L kd a 123) (h0 : 0 ≤ i.toInt) (h1 : i.toInt < 24) (hdg : decode cc pc = .ok (.iastore, 1)) (kk : ∀ σ2 : zS, σ2 = (zu σ.1 a i.toNatClampNeg x, σ.2.1, σ.2.2) → zJ κ L kd σ2 → zGc rs cs sl d L kd A nL p l e R s m args below meth c Q σ2 (pc + 1) lv st) : zGc rs cs sl d L kd A nL p l e R s m args below meth c Q σ pc lv (.int x :: .int i :: .ref a :: st) := zg_iast X ha rfl h0 h1 hdg (fun σ2 h2 => kk σ2 h2 (by rw [h2]; exact zj_puti hI ha rfl (zb_rng _).1 (zb_rng _).2))
theorem ag_124 {own : String} (X : zX d L kd A nL p s m args c cc own) {i : Int32} (hI : zJ κ L kd σ) (ha : zT L kd a 124) (h0 : 0 ≤ i.toInt) (h1 : i.toInt < 24) (hdg : decode cc pc = .ok (.iaload, 1)) (kk : ∀ v : Int32, v = σ.1 a i.toNatClampNeg → (-2147483648) ≤ v.toInt ∧ v.toInt ≤ 2147483647 → zGc rs cs sl d L kd A nL p l e R s m args below meth c Q σ (pc + 1) lv (.int v :: st)) : zGc rs cs sl d L kd A nL p l e R s m args below meth c Q σ pc lv (.int i :: .ref a :: st) := zg_iald X ha rfl h0 h1 hdg (kk _ rfl (zj_get hI ha rfl))
theorem as_124 {own : String} (X : zX d L kd A nL p s m args c cc own) {i x : Int32} (hI : zJ κ L kd σ) (ha : zT L kd a 124) (h0 : 0 ≤ i.toInt) (h1 : i.toInt < 24) (hdg : decode cc pc = .ok (.iastore, 1)) (kk : ∀ σ2 : zS, σ2 = (zu σ.1 a i.toNatClampNeg x, σ.2.1, σ.2.2) → zJ κ L kd σ2 → zGc rs cs sl d L kd A nL p l e R s m args below meth c Q σ2 (pc + 1) lv st) : zGc rs cs sl d L kd A nL p l e R s m args below meth c Q σ pc lv (.int x :: .int i :: .ref a :: st) := zg_iast X ha rfl h0 h1 hdg (fun σ2 h2 => kk σ2 h2 (by rw [h2]; exact zj_puti hI ha rfl (zb_rng _).1 (zb_rng _).2))
theorem ag_125 {own : String} (X : zX d L kd A nL p s m args c cc own) {i : Int32} (hI : zJ κ L kd σ) (ha : zT L kd a 125) (h0 : 0 ≤ i.toInt) (h1 : i.toInt < 24) (hdg : decode cc pc = .ok (.iaload, 1)) (kk : ∀ v : Int32, v = σ.1 a i.toNatClampNeg → (-2147483648) ≤ v.toInt ∧ v.toInt ≤ 2147483647 → zGc rs cs sl d L kd A nL p l e R s m args below meth c Q σ (pc + 1) lv (.int v :: st)) : zGc rs cs sl d L kd A nL p l e R s m args below meth c Q σ pc lv (.int i :: .ref a :: st) := zg_iald X ha rfl h0 h1 hdg (kk _ rfl (zj_get hI ha rfl))
theorem as_125 {own : String} (X : zX d L kd A nL p s m args c cc own) {i x : Int32} (hI : zJ κ L kd σ) (ha : zT L kd a 125) (h0 : 0 ≤ i.toInt) (h1 : i.toInt < 24) (hdg : decode cc pc = .ok (.iastore, 1)) (kk : ∀ σ2 : zS, σ2 = (zu σ.1 a i.toNatClampNeg x, σ.2.1, σ.2.2) → zJ κ L kd σ2 → zGc rs cs sl d L kd A nL p l e R s m args below meth c Q σ2 (pc + 1) lv st) : zGc rs cs sl d L kd A nL p l e R s m args below meth c Q σ pc lv (.int x :: .int i :: .ref a :: st) := zg_iast X ha rfl h0 h1 hdg (fun σ2 h2 => kk σ2 h2 (by rw [h2]; exact zj_puti hI ha rfl (zb_rng _).1 (zb_rng _).2))
theorem ag_126 {own : String} (X : zX d L kd A nL p s m args c cc own) {i : Int32} (hI : zJ κ L kd σ) (ha : zT L kd a 126) (h0 : 0 ≤ i.toInt) (h1 : i.toInt < 2) (hdg : decode cc pc = .ok (.iaload, 1)) (kk : ∀ v : Int32, v = σ.1 a i.toNatClampNeg → (-2147483648) ≤ v.toInt ∧ v.toInt ≤ 2147483647 → zGc rs cs sl d L kd A nL p l e R s m args below meth c Q σ (pc + 1) lv (.int v :: st)) : zGc rs cs sl d L kd A nL p l e R s m args below meth c Q σ pc lv (.int i :: .ref a :: st) := zg_iald X ha rfl h0 h1 hdg (kk _ rfl (zj_get hI ha rfl))
theorem as_126 {own : String} (X : zX d L kd A nL p s m args c cc own) {i x : Int32} (hI : zJ κ L kd σ) (ha : zT L kd a 126) (h0 : 0 ≤ i.toInt) (h1 : i.toInt < 2) (hdg : decode cc pc = .ok (.iastore, 1)) (kk : ∀ σ2 : zS, σ2 = (zu σ.1 a i.toNatClampNeg x, σ.2.1, σ.2.2) → zJ κ L kd σ2 → zGc rs cs sl d L kd A nL p l e R s m args below meth c Q σ2 (pc + 1) lv st) : zGc rs cs sl d L kd A nL p l e R s m args below meth c Q σ pc lv (.int x :: .int i :: .ref a :: st) := zg_iast X ha rfl h0 h1 hdg (fun σ2 h2 => kk σ2 h2 (by rw [h2]; exact zj_puti hI ha rfl (zb_rng _).1 (zb_rng _).2))
theorem ag_127 {own : String} (X : zX d L kd A nL p s m args c cc own) {i : Int32} (hI : zJ κ L kd σ) (ha : zT L kd a 127) (h0 : 0 ≤ i.toInt) (h1 : i.toInt < 2) (hdg : decode cc pc = .ok (.iaload, 1)) (kk : ∀ v : Int32, v = σ.1 a i.toNatClampNeg → (-2147483648) ≤ v.toInt ∧ v.toInt ≤ 2147483647 → zGc rs cs sl d L kd A nL p l e R s m args below meth c Q σ (pc + 1) lv (.int v :: st)) : zGc rs cs sl d L kd A nL p l e R s m args below meth c Q σ pc lv (.int i :: .ref a :: st) := zg_iald X ha rfl h0 h1 hdg (kk _ rfl (zj_get hI ha rfl))
theorem as_127 {own : String} (X : zX d L kd A nL p s m args c cc own) {i x : Int32} (hI : zJ κ L kd σ) (ha : zT L kd a 127) (h0 : 0 ≤ i.toInt) (h1 : i.toInt < 2) (hdg : decode cc pc = .ok (.iastore, 1)) (kk : ∀ σ2 : zS, σ2 = (zu σ.1 a i.toNatClampNeg x, σ.2.1, σ.2.2) → zJ κ L kd σ2 → zGc rs cs sl d L kd A nL p l e R s m args below meth c Q σ2 (pc + 1) lv st) : zGc rs cs sl d L kd A nL p l e R s m args below meth c Q σ pc lv (.int x :: .int i :: .ref a :: st) := zg_iast X ha rfl h0 h1 hdg (fun σ2 h2 => kk σ2 h2 (by rw [h2]; exact zj_puti hI ha rfl (zb_rng _).1 (zb_rng _).2))
theorem ag_128 {own : String} (X : zX d L kd A nL p s m args c cc own) {i : Int32} (hI : zJ κ L kd σ) (ha : zT L kd a 128) (h0 : 0 ≤ i.toInt) (h1 : i.toInt < 2) (hdg : decode cc pc = .ok (.iaload, 1)) (kk : ∀ v : Int32, v = σ.1 a i.toNatClampNeg → (-2147483648) ≤ v.toInt ∧ v.toInt ≤ 2147483647 → zGc rs cs sl d L kd A nL p l e R s m args below meth c Q σ (pc + 1) lv (.int v :: st)) : zGc rs cs sl d L kd A nL p l e R s m args below meth c Q σ pc lv (.int i :: .ref a :: st) := zg_iald X ha rfl h0 h1 hdg (kk _ rfl (zj_get hI ha rfl))
theorem as_128 {own : String} (X : zX d L kd A nL p s m args c cc own) {i x : Int32} (hI : zJ κ L kd σ) (ha : zT L kd a 128) (h0 : 0 ≤ i.toInt) (h1 : i.toInt < 2) (hdg : decode cc pc = .ok (.iastore, 1)) (kk : ∀ σ2 : zS, σ2 = (zu σ.1 a i.toNatClampNeg x, σ.2.1, σ.2.2) → zJ κ L kd σ2 → zGc rs cs sl d L kd A nL p l e R s m args below meth c Q σ2 (pc + 1) lv st) : zGc rs cs sl d L kd A nL p l e R s m args below meth c Q σ pc lv (.int x :: .int i :: .ref a :: st) := zg_iast X ha rfl h0 h1 hdg (fun σ2 h2 => kk σ2 h2 (by rw [h2]; exact zj_puti hI ha rfl (zb_rng _).1 (zb_rng _).2))
theorem ag_129 {own : String} (X : zX d L kd A nL p s m args c cc own) {i : Int32} (hI : zJ κ L kd σ) (ha : zT L kd a 129) (h0 : 0 ≤ i.toInt) (h1 : i.toInt < 2) (hdg : decode cc pc = .ok (.iaload, 1)) (kk : ∀ v : Int32, v = σ.1 a i.toNatClampNeg → (-2147483648) ≤ v.toInt ∧ v.toInt ≤ 2147483647 → zGc rs cs sl d L kd A nL p l e R s m args below meth c Q σ (pc + 1) lv (.int v :: st)) : zGc rs cs sl d L kd A nL p l e R s m args below meth c Q σ pc lv (.int i :: .ref a :: st) := zg_iald X ha rfl h0 h1 hdg (kk _ rfl (zj_get hI ha rfl))
theorem as_129 {own : String} (X : zX d L kd A nL p s m args c cc own) {i x : Int32} (hI : zJ κ L kd σ) (ha : zT L kd a 129) (h0 : 0 ≤ i.toInt) (h1 : i.toInt < 2) (hdg : decode cc pc = .ok (.iastore, 1)) (kk : ∀ σ2 : zS, σ2 = (zu σ.1 a i.toNatClampNeg x, σ.2.1, σ.2.2) → zJ κ L kd σ2 → zGc rs cs sl d L kd A nL p l e R s m args below meth c Q σ2 (pc + 1) lv st) : zGc rs cs sl d L kd A nL p l e R s m args below meth c Q σ pc lv (.int x :: .int i :: .ref a :: st) := zg_iast X ha rfl h0 h1 hdg (fun σ2 h2 => kk σ2 h2 (by rw [h2]; exact zj_puti hI ha rfl (zb_rng _).1 (zb_rng _).2))
theorem ag_130 {own : String} (X : zX d L kd A nL p s m args c cc own) {i : Int32} (hI : zJ κ L kd σ) (ha : zT L kd a 130) (h0 : 0 ≤ i.toInt) (h1 : i.toInt < 10) (hdg : decode cc pc = .ok (.iaload, 1)) (kk : ∀ v : Int32, v = σ.1 a i.toNatClampNeg → (-2147483648) ≤ v.toInt ∧ v.toInt ≤ 2147483647 → zGc rs cs sl d L kd A nL p l e R s m args below meth c Q σ (pc + 1) lv (.int v :: st)) : zGc rs cs sl d L kd A nL p l e R s m args below meth c Q σ pc lv (.int i :: .ref a :: st) := zg_iald X ha rfl h0 h1 hdg (kk _ rfl (zj_get hI ha rfl))
theorem as_130 {own : String} (X : zX d L kd A nL p s m args c cc own) {i x : Int32} (hI : zJ κ L kd σ) (ha : zT L kd a 130) (h0 : 0 ≤ i.toInt) (h1 : i.toInt < 10) (hdg : decode cc pc = .ok (.iastore, 1)) (kk : ∀ σ2 : zS, σ2 = (zu σ.1 a i.toNatClampNeg x, σ.2.1, σ.2.2) → zJ κ L kd σ2 → zGc rs cs sl d L kd A nL p l e R s m args below meth c Q σ2 (pc + 1) lv st) : zGc rs cs sl d L kd A nL p l e R s m args below meth c Q σ pc lv (.int x :: .int i :: .ref a :: st) := zg_iast X ha rfl h0 h1 hdg (fun σ2 h2 => kk σ2 h2 (by rw [h2]; exact zj_puti hI ha rfl (zb_rng _).1 (zb_rng _).2))
theorem ag_131 {own : String} (X : zX d L kd A nL p s m args c cc own) {i : Int32} (hI : zJ κ L kd σ) (ha : zT L kd a 131) (h0 : 0 ≤ i.toInt) (h1 : i.toInt < 10) (hdg : decode cc pc = .ok (.iaload, 1)) (kk : ∀ v : Int32, v = σ.1 a i.toNatClampNeg → (-2147483648) ≤ v.toInt ∧ v.toInt ≤ 2147483647 → zGc rs cs sl d L kd A nL p l e R s m args below meth c Q σ (pc + 1) lv (.int v :: st)) : zGc rs cs sl d L kd A nL p l e R s m args below meth c Q σ pc lv (.int i :: .ref a :: st) := zg_iald X ha rfl h0 h1 hdg (kk _ rfl (zj_get hI ha rfl))
theorem as_131 {own : String} (X : zX d L kd A nL p s m args c cc own) {i x : Int32} (hI : zJ κ L kd σ) (ha : zT L kd a 131) (h0 : 0 ≤ i.toInt) (h1 : i.toInt < 10) (hdg : decode cc pc = .ok (.iastore, 1)) (kk : ∀ σ2 : zS, σ2 = (zu σ.1 a i.toNatClampNeg x, σ.2.1, σ.2.2) → zJ κ L kd σ2 → zGc rs cs sl d L kd A nL p l e R s m args below meth c Q σ2 (pc + 1) lv st) : zGc rs cs sl d L kd A nL p l e R s m args below meth c Q σ pc lv (.int x :: .int i :: .ref a :: st) := zg_iast X ha rfl h0 h1 hdg (fun σ2 h2 => kk σ2 h2 (by rw [h2]; exact zj_puti hI ha rfl (zb_rng _).1 (zb_rng _).2))
theorem ag_133 {own : String} (X : zX d L kd A nL p s m args c cc own) {i : Int32} (hI : zJ κ L kd σ) (ha : zT L kd a 133) (h0 : 0 ≤ i.toInt) (h1 : i.toInt < 260) (hdg : decode cc pc = .ok (.baload, 1)) (kk : ∀ v : Int32, v = σ.1 a i.toNatClampNeg → 0 ≤ v.toInt ∧ v.toInt ≤ 1 → zGc rs cs sl d L kd A nL p l e R s m args below meth c Q σ (pc + 1) lv (.int v :: st)) : zGc rs cs sl d L kd A nL p l e R s m args below meth c Q σ pc lv (.int i :: .ref a :: st) := zg_zald X ha rfl h0 h1 hdg (kk _ rfl (zj_get hI ha rfl))
theorem as_133 {own : String} (X : zX d L kd A nL p s m args c cc own) {i x : Int32} (hI : zJ κ L kd σ) (ha : zT L kd a 133) (h0 : 0 ≤ i.toInt) (h1 : i.toInt < 260) (h : 0 ≤ x.toInt ∧ x.toInt ≤ 1) (hdg : decode cc pc = .ok (.bastore, 1)) (kk : ∀ σ2 : zS, σ2 = (zu σ.1 a i.toNatClampNeg (vp_nar .boolean x), σ.2.1, σ.2.2) → zJ κ L kd σ2 → zGc rs cs sl d L kd A nL p l e R s m args below meth c Q σ2 (pc + 1) lv st) : zGc rs cs sl d L kd A nL p l e R s m args below meth c Q σ pc lv (.int x :: .int i :: .ref a :: st) := zg_zast X ha rfl h0 h1 hdg (fun σ2 h2 => kk σ2 h2 (by rw [h2]; exact zj_puti hI ha rfl (by rw [zb_nz h]; exact h.1) (by rw [zb_nz h]; exact h.2)))
theorem ag_134 {own : String} (X : zX d L kd A nL p s m args c cc own) {i : Int32} (hI : zJ κ L kd σ) (ha : zT L kd a 134) (h0 : 0 ≤ i.toInt) (h1 : i.toInt < 260) (hdg : decode cc pc = .ok (.iaload, 1)) (kk : ∀ v : Int32, v = σ.1 a i.toNatClampNeg → (-2147483648) ≤ v.toInt ∧ v.toInt ≤ 2147483647 → zGc rs cs sl d L kd A nL p l e R s m args below meth c Q σ (pc + 1) lv (.int v :: st)) : zGc rs cs sl d L kd A nL p l e R s m args below meth c Q σ pc lv (.int i :: .ref a :: st) := zg_iald X ha rfl h0 h1 hdg (kk _ rfl (zj_get hI ha rfl))
theorem as_134 {own : String} (X : zX d L kd A nL p s m args c cc own) {i x : Int32} (hI : zJ κ L kd σ) (ha : zT L kd a 134) (h0 : 0 ≤ i.toInt) (h1 : i.toInt < 260) (hdg : decode cc pc = .ok (.iastore, 1)) (kk : ∀ σ2 : zS, σ2 = (zu σ.1 a i.toNatClampNeg x, σ.2.1, σ.2.2) → zJ κ L kd σ2 → zGc rs cs sl d L kd A nL p l e R s m args below meth c Q σ2 (pc + 1) lv st) : zGc rs cs sl d L kd A nL p l e R s m args below meth c Q σ pc lv (.int x :: .int i :: .ref a :: st) := zg_iast X ha rfl h0 h1 hdg (fun σ2 h2 => kk σ2 h2 (by rw [h2]; exact zj_puti hI ha rfl (zb_rng _).1 (zb_rng _).2))
theorem ag_135 {own : String} (X : zX d L kd A nL p s m args c cc own) {i : Int32} (hI : zJ κ L kd σ) (ha : zT L kd a 135) (h0 : 0 ≤ i.toInt) (h1 : i.toInt < 260) (hdg : decode cc pc = .ok (.iaload, 1)) (kk : ∀ v : Int32, v = σ.1 a i.toNatClampNeg → (-2147483648) ≤ v.toInt ∧ v.toInt ≤ 2147483647 → zGc rs cs sl d L kd A nL p l e R s m args below meth c Q σ (pc + 1) lv (.int v :: st)) : zGc rs cs sl d L kd A nL p l e R s m args below meth c Q σ pc lv (.int i :: .ref a :: st) := zg_iald X ha rfl h0 h1 hdg (kk _ rfl (zj_get hI ha rfl))
theorem as_135 {own : String} (X : zX d L kd A nL p s m args c cc own) {i x : Int32} (hI : zJ κ L kd σ) (ha : zT L kd a 135) (h0 : 0 ≤ i.toInt) (h1 : i.toInt < 260) (hdg : decode cc pc = .ok (.iastore, 1)) (kk : ∀ σ2 : zS, σ2 = (zu σ.1 a i.toNatClampNeg x, σ.2.1, σ.2.2) → zJ κ L kd σ2 → zGc rs cs sl d L kd A nL p l e R s m args below meth c Q σ2 (pc + 1) lv st) : zGc rs cs sl d L kd A nL p l e R s m args below meth c Q σ pc lv (.int x :: .int i :: .ref a :: st) := zg_iast X ha rfl h0 h1 hdg (fun σ2 h2 => kk σ2 h2 (by rw [h2]; exact zj_puti hI ha rfl (zb_rng _).1 (zb_rng _).2))
theorem ag_136 {own : String} (X : zX d L kd A nL p s m args c cc own) {i : Int32} (hI : zJ κ L kd σ) (ha : zT L kd a 136) (h0 : 0 ≤ i.toInt) (h1 : i.toInt < 260) (hdg : decode cc pc = .ok (.iaload, 1)) (kk : ∀ v : Int32, v = σ.1 a i.toNatClampNeg → (-2147483648) ≤ v.toInt ∧ v.toInt ≤ 2147483647 → zGc rs cs sl d L kd A nL p l e R s m args below meth c Q σ (pc + 1) lv (.int v :: st)) : zGc rs cs sl d L kd A nL p l e R s m args below meth c Q σ pc lv (.int i :: .ref a :: st) := zg_iald X ha rfl h0 h1 hdg (kk _ rfl (zj_get hI ha rfl))
theorem as_136 {own : String} (X : zX d L kd A nL p s m args c cc own) {i x : Int32} (hI : zJ κ L kd σ) (ha : zT L kd a 136) (h0 : 0 ≤ i.toInt) (h1 : i.toInt < 260) (hdg : decode cc pc = .ok (.iastore, 1)) (kk : ∀ σ2 : zS, σ2 = (zu σ.1 a i.toNatClampNeg x, σ.2.1, σ.2.2) → zJ κ L kd σ2 → zGc rs cs sl d L kd A nL p l e R s m args below meth c Q σ2 (pc + 1) lv st) : zGc rs cs sl d L kd A nL p l e R s m args below meth c Q σ pc lv (.int x :: .int i :: .ref a :: st) := zg_iast X ha rfl h0 h1 hdg (fun σ2 h2 => kk σ2 h2 (by rw [h2]; exact zj_puti hI ha rfl (zb_rng _).1 (zb_rng _).2))
theorem ag_137 {own : String} (X : zX d L kd A nL p s m args c cc own) {i : Int32} (hI : zJ κ L kd σ) (ha : zT L kd a 137) (h0 : 0 ≤ i.toInt) (h1 : i.toInt < 260) (hdg : decode cc pc = .ok (.iaload, 1)) (kk : ∀ v : Int32, v = σ.1 a i.toNatClampNeg → (-2147483648) ≤ v.toInt ∧ v.toInt ≤ 2147483647 → zGc rs cs sl d L kd A nL p l e R s m args below meth c Q σ (pc + 1) lv (.int v :: st)) : zGc rs cs sl d L kd A nL p l e R s m args below meth c Q σ pc lv (.int i :: .ref a :: st) := zg_iald X ha rfl h0 h1 hdg (kk _ rfl (zj_get hI ha rfl))
theorem as_137 {own : String} (X : zX d L kd A nL p s m args c cc own) {i x : Int32} (hI : zJ κ L kd σ) (ha : zT L kd a 137) (h0 : 0 ≤ i.toInt) (h1 : i.toInt < 260) (hdg : decode cc pc = .ok (.iastore, 1)) (kk : ∀ σ2 : zS, σ2 = (zu σ.1 a i.toNatClampNeg x, σ.2.1, σ.2.2) → zJ κ L kd σ2 → zGc rs cs sl d L kd A nL p l e R s m args below meth c Q σ2 (pc + 1) lv st) : zGc rs cs sl d L kd A nL p l e R s m args below meth c Q σ pc lv (.int x :: .int i :: .ref a :: st) := zg_iast X ha rfl h0 h1 hdg (fun σ2 h2 => kk σ2 h2 (by rw [h2]; exact zj_puti hI ha rfl (zb_rng _).1 (zb_rng _).2))
theorem ag_139 {own : String} (X : zX d L kd A nL p s m args c cc own) {i : Int32} (hI : zJ κ L kd σ) (ha : zT L kd a 139) (h0 : 0 ≤ i.toInt) (h1 : i.toInt < 840) (hdg : decode cc pc = .ok (.iaload, 1)) (kk : ∀ v : Int32, v = σ.1 a i.toNatClampNeg → (-2147483648) ≤ v.toInt ∧ v.toInt ≤ 2147483647 → zGc rs cs sl d L kd A nL p l e R s m args below meth c Q σ (pc + 1) lv (.int v :: st)) : zGc rs cs sl d L kd A nL p l e R s m args below meth c Q σ pc lv (.int i :: .ref a :: st) := zg_iald X ha rfl h0 h1 hdg (kk _ rfl (zj_get hI ha rfl))
theorem as_139 {own : String} (X : zX d L kd A nL p s m args c cc own) {i x : Int32} (hI : zJ κ L kd σ) (ha : zT L kd a 139) (h0 : 0 ≤ i.toInt) (h1 : i.toInt < 840) (hdg : decode cc pc = .ok (.iastore, 1)) (kk : ∀ σ2 : zS, σ2 = (zu σ.1 a i.toNatClampNeg x, σ.2.1, σ.2.2) → zJ κ L kd σ2 → zGc rs cs sl d L kd A nL p l e R s m args below meth c Q σ2 (pc + 1) lv st) : zGc rs cs sl d L kd A nL p l e R s m args below meth c Q σ pc lv (.int x :: .int i :: .ref a :: st) := zg_iast X ha rfl h0 h1 hdg (fun σ2 h2 => kk σ2 h2 (by rw [h2]; exact zj_puti hI ha rfl (zb_rng _).1 (zb_rng _).2))
theorem ag_140 {own : String} (X : zX d L kd A nL p s m args c cc own) {i : Int32} (hI : zJ κ L kd σ) (ha : zT L kd a 140) (h0 : 0 ≤ i.toInt) (h1 : i.toInt < 840) (hdg : decode cc pc = .ok (.iaload, 1)) (kk : ∀ v : Int32, v = σ.1 a i.toNatClampNeg → (-2147483648) ≤ v.toInt ∧ v.toInt ≤ 2147483647 → zGc rs cs sl d L kd A nL p l e R s m args below meth c Q σ (pc + 1) lv (.int v :: st)) : zGc rs cs sl d L kd A nL p l e R s m args below meth c Q σ pc lv (.int i :: .ref a :: st) := zg_iald X ha rfl h0 h1 hdg (kk _ rfl (zj_get hI ha rfl))
theorem as_140 {own : String} (X : zX d L kd A nL p s m args c cc own) {i x : Int32} (hI : zJ κ L kd σ) (ha : zT L kd a 140) (h0 : 0 ≤ i.toInt) (h1 : i.toInt < 840) (hdg : decode cc pc = .ok (.iastore, 1)) (kk : ∀ σ2 : zS, σ2 = (zu σ.1 a i.toNatClampNeg x, σ.2.1, σ.2.2) → zJ κ L kd σ2 → zGc rs cs sl d L kd A nL p l e R s m args below meth c Q σ2 (pc + 1) lv st) : zGc rs cs sl d L kd A nL p l e R s m args below meth c Q σ pc lv (.int x :: .int i :: .ref a :: st) := zg_iast X ha rfl h0 h1 hdg (fun σ2 h2 => kk σ2 h2 (by rw [h2]; exact zj_puti hI ha rfl (zb_rng _).1 (zb_rng _).2))
theorem ag_143 {own : String} (X : zX d L kd A nL p s m args c cc own) {i : Int32} (hI : zJ κ L kd σ) (ha : zT L kd a 143) (h0 : 0 ≤ i.toInt) (h1 : i.toInt < 64) (hdg : decode cc pc = .ok (.iaload, 1)) (kk : ∀ v : Int32, v = σ.1 a i.toNatClampNeg → (-2147483648) ≤ v.toInt ∧ v.toInt ≤ 2147483647 → zGc rs cs sl d L kd A nL p l e R s m args below meth c Q σ (pc + 1) lv (.int v :: st)) : zGc rs cs sl d L kd A nL p l e R s m args below meth c Q σ pc lv (.int i :: .ref a :: st) := zg_iald X ha rfl h0 h1 hdg (kk _ rfl (zj_get hI ha rfl))
theorem as_143 {own : String} (X : zX d L kd A nL p s m args c cc own) {i x : Int32} (hI : zJ κ L kd σ) (ha : zT L kd a 143) (h0 : 0 ≤ i.toInt) (h1 : i.toInt < 64) (hdg : decode cc pc = .ok (.iastore, 1)) (kk : ∀ σ2 : zS, σ2 = (zu σ.1 a i.toNatClampNeg x, σ.2.1, σ.2.2) → zJ κ L kd σ2 → zGc rs cs sl d L kd A nL p l e R s m args below meth c Q σ2 (pc + 1) lv st) : zGc rs cs sl d L kd A nL p l e R s m args below meth c Q σ pc lv (.int x :: .int i :: .ref a :: st) := zg_iast X ha rfl h0 h1 hdg (fun σ2 h2 => kk σ2 h2 (by rw [h2]; exact zj_puti hI ha rfl (zb_rng _).1 (zb_rng _).2))
theorem ag_145 {own : String} (X : zX d L kd A nL p s m args c cc own) {i : Int32} (hI : zJ κ L kd σ) (ha : zT L kd a 145) (h0 : 0 ≤ i.toInt) (h1 : i.toInt < 9) (hdg : decode cc pc = .ok (.iaload, 1)) (kk : ∀ v : Int32, v = σ.1 a i.toNatClampNeg → (-2147483648) ≤ v.toInt ∧ v.toInt ≤ 2147483647 → zGc rs cs sl d L kd A nL p l e R s m args below meth c Q σ (pc + 1) lv (.int v :: st)) : zGc rs cs sl d L kd A nL p l e R s m args below meth c Q σ pc lv (.int i :: .ref a :: st) := zg_iald X ha rfl h0 h1 hdg (kk _ rfl (zj_get hI ha rfl))
theorem as_145 {own : String} (X : zX d L kd A nL p s m args c cc own) {i x : Int32} (hI : zJ κ L kd σ) (ha : zT L kd a 145) (h0 : 0 ≤ i.toInt) (h1 : i.toInt < 9) (hdg : decode cc pc = .ok (.iastore, 1)) (kk : ∀ σ2 : zS, σ2 = (zu σ.1 a i.toNatClampNeg x, σ.2.1, σ.2.2) → zJ κ L kd σ2 → zGc rs cs sl d L kd A nL p l e R s m args below meth c Q σ2 (pc + 1) lv st) : zGc rs cs sl d L kd A nL p l e R s m args below meth c Q σ pc lv (.int x :: .int i :: .ref a :: st) := zg_iast X ha rfl h0 h1 hdg (fun σ2 h2 => kk σ2 h2 (by rw [h2]; exact zj_puti hI ha rfl (zb_rng _).1 (zb_rng _).2))
theorem ag_146 {own : String} (X : zX d L kd A nL p s m args c cc own) {i : Int32} (hI : zJ κ L kd σ) (ha : zT L kd a 146) (h0 : 0 ≤ i.toInt) (h1 : i.toInt < 400) (hdg : decode cc pc = .ok (.iaload, 1)) (kk : ∀ v : Int32, v = σ.1 a i.toNatClampNeg → (-2147483648) ≤ v.toInt ∧ v.toInt ≤ 2147483647 → zGc rs cs sl d L kd A nL p l e R s m args below meth c Q σ (pc + 1) lv (.int v :: st)) : zGc rs cs sl d L kd A nL p l e R s m args below meth c Q σ pc lv (.int i :: .ref a :: st) := zg_iald X ha rfl h0 h1 hdg (kk _ rfl (zj_get hI ha rfl))
theorem as_146 {own : String} (X : zX d L kd A nL p s m args c cc own) {i x : Int32} (hI : zJ κ L kd σ) (ha : zT L kd a 146) (h0 : 0 ≤ i.toInt) (h1 : i.toInt < 400) (hdg : decode cc pc = .ok (.iastore, 1)) (kk : ∀ σ2 : zS, σ2 = (zu σ.1 a i.toNatClampNeg x, σ.2.1, σ.2.2) → zJ κ L kd σ2 → zGc rs cs sl d L kd A nL p l e R s m args below meth c Q σ2 (pc + 1) lv st) : zGc rs cs sl d L kd A nL p l e R s m args below meth c Q σ pc lv (.int x :: .int i :: .ref a :: st) := zg_iast X ha rfl h0 h1 hdg (fun σ2 h2 => kk σ2 h2 (by rw [h2]; exact zj_puti hI ha rfl (zb_rng _).1 (zb_rng _).2))
theorem ag_148 {own : String} (X : zX d L kd A nL p s m args c cc own) {i : Int32} (hI : zJ κ L kd σ) (ha : zT L kd a 148) (h0 : 0 ≤ i.toInt) (h1 : i.toInt < 50) (hdg : decode cc pc = .ok (.iaload, 1)) (kk : ∀ v : Int32, v = σ.1 a i.toNatClampNeg → (-2147483648) ≤ v.toInt ∧ v.toInt ≤ 2147483647 → zGc rs cs sl d L kd A nL p l e R s m args below meth c Q σ (pc + 1) lv (.int v :: st)) : zGc rs cs sl d L kd A nL p l e R s m args below meth c Q σ pc lv (.int i :: .ref a :: st) := zg_iald X ha rfl h0 h1 hdg (kk _ rfl (zj_get hI ha rfl))
theorem as_148 {own : String} (X : zX d L kd A nL p s m args c cc own) {i x : Int32} (hI : zJ κ L kd σ) (ha : zT L kd a 148) (h0 : 0 ≤ i.toInt) (h1 : i.toInt < 50) (hdg : decode cc pc = .ok (.iastore, 1)) (kk : ∀ σ2 : zS, σ2 = (zu σ.1 a i.toNatClampNeg x, σ.2.1, σ.2.2) → zJ κ L kd σ2 → zGc rs cs sl d L kd A nL p l e R s m args below meth c Q σ2 (pc + 1) lv st) : zGc rs cs sl d L kd A nL p l e R s m args below meth c Q σ pc lv (.int x :: .int i :: .ref a :: st) := zg_iast X ha rfl h0 h1 hdg (fun σ2 h2 => kk σ2 h2 (by rw [h2]; exact zj_puti hI ha rfl (zb_rng _).1 (zb_rng _).2))
theorem ag_149 {own : String} (X : zX d L kd A nL p s m args c cc own) {i : Int32} (hI : zJ κ L kd σ) (ha : zT L kd a 149) (h0 : 0 ≤ i.toInt) (h1 : i.toInt < 50) (hdg : decode cc pc = .ok (.iaload, 1)) (kk : ∀ v : Int32, v = σ.1 a i.toNatClampNeg → (-2147483648) ≤ v.toInt ∧ v.toInt ≤ 2147483647 → zGc rs cs sl d L kd A nL p l e R s m args below meth c Q σ (pc + 1) lv (.int v :: st)) : zGc rs cs sl d L kd A nL p l e R s m args below meth c Q σ pc lv (.int i :: .ref a :: st) := zg_iald X ha rfl h0 h1 hdg (kk _ rfl (zj_get hI ha rfl))
theorem as_149 {own : String} (X : zX d L kd A nL p s m args c cc own) {i x : Int32} (hI : zJ κ L kd σ) (ha : zT L kd a 149) (h0 : 0 ≤ i.toInt) (h1 : i.toInt < 50) (hdg : decode cc pc = .ok (.iastore, 1)) (kk : ∀ σ2 : zS, σ2 = (zu σ.1 a i.toNatClampNeg x, σ.2.1, σ.2.2) → zJ κ L kd σ2 → zGc rs cs sl d L kd A nL p l e R s m args below meth c Q σ2 (pc + 1) lv st) : zGc rs cs sl d L kd A nL p l e R s m args below meth c Q σ pc lv (.int x :: .int i :: .ref a :: st) := zg_iast X ha rfl h0 h1 hdg (fun σ2 h2 => kk σ2 h2 (by rw [h2]; exact zj_puti hI ha rfl (zb_rng _).1 (zb_rng _).2))
theorem ag_152 {own : String} (X : zX d L kd A nL p s m args c cc own) {i : Int32} (hI : zJ κ L kd σ) (ha : zT L kd a 152) (h0 : 0 ≤ i.toInt) (h1 : i.toInt < 12) (hdg : decode cc pc = .ok (.iaload, 1)) (kk : ∀ v : Int32, v = σ.1 a i.toNatClampNeg → (-2147483648) ≤ v.toInt ∧ v.toInt ≤ 2147483647 → zGc rs cs sl d L kd A nL p l e R s m args below meth c Q σ (pc + 1) lv (.int v :: st)) : zGc rs cs sl d L kd A nL p l e R s m args below meth c Q σ pc lv (.int i :: .ref a :: st) := zg_iald X ha rfl h0 h1 hdg (kk _ rfl (zj_get hI ha rfl))
theorem as_152 {own : String} (X : zX d L kd A nL p s m args c cc own) {i x : Int32} (hI : zJ κ L kd σ) (ha : zT L kd a 152) (h0 : 0 ≤ i.toInt) (h1 : i.toInt < 12) (hdg : decode cc pc = .ok (.iastore, 1)) (kk : ∀ σ2 : zS, σ2 = (zu σ.1 a i.toNatClampNeg x, σ.2.1, σ.2.2) → zJ κ L kd σ2 → zGc rs cs sl d L kd A nL p l e R s m args below meth c Q σ2 (pc + 1) lv st) : zGc rs cs sl d L kd A nL p l e R s m args below meth c Q σ pc lv (.int x :: .int i :: .ref a :: st) := zg_iast X ha rfl h0 h1 hdg (fun σ2 h2 => kk σ2 h2 (by rw [h2]; exact zj_puti hI ha rfl (zb_rng _).1 (zb_rng _).2))
theorem ag_153 {own : String} (X : zX d L kd A nL p s m args c cc own) {i : Int32} (hI : zJ κ L kd σ) (ha : zT L kd a 153) (h0 : 0 ≤ i.toInt) (h1 : i.toInt < 12) (hdg : decode cc pc = .ok (.iaload, 1)) (kk : ∀ v : Int32, v = σ.1 a i.toNatClampNeg → (-2147483648) ≤ v.toInt ∧ v.toInt ≤ 2147483647 → zGc rs cs sl d L kd A nL p l e R s m args below meth c Q σ (pc + 1) lv (.int v :: st)) : zGc rs cs sl d L kd A nL p l e R s m args below meth c Q σ pc lv (.int i :: .ref a :: st) := zg_iald X ha rfl h0 h1 hdg (kk _ rfl (zj_get hI ha rfl))
theorem as_153 {own : String} (X : zX d L kd A nL p s m args c cc own) {i x : Int32} (hI : zJ κ L kd σ) (ha : zT L kd a 153) (h0 : 0 ≤ i.toInt) (h1 : i.toInt < 12) (hdg : decode cc pc = .ok (.iastore, 1)) (kk : ∀ σ2 : zS, σ2 = (zu σ.1 a i.toNatClampNeg x, σ.2.1, σ.2.2) → zJ κ L kd σ2 → zGc rs cs sl d L kd A nL p l e R s m args below meth c Q σ2 (pc + 1) lv st) : zGc rs cs sl d L kd A nL p l e R s m args below meth c Q σ pc lv (.int x :: .int i :: .ref a :: st) := zg_iast X ha rfl h0 h1 hdg (fun σ2 h2 => kk σ2 h2 (by rw [h2]; exact zj_puti hI ha rfl (zb_rng _).1 (zb_rng _).2))
theorem ag_154 {own : String} (X : zX d L kd A nL p s m args c cc own) {i : Int32} (hI : zJ κ L kd σ) (ha : zT L kd a 154) (h0 : 0 ≤ i.toInt) (h1 : i.toInt < 12) (hdg : decode cc pc = .ok (.iaload, 1)) (kk : ∀ v : Int32, v = σ.1 a i.toNatClampNeg → (-2147483648) ≤ v.toInt ∧ v.toInt ≤ 2147483647 → zGc rs cs sl d L kd A nL p l e R s m args below meth c Q σ (pc + 1) lv (.int v :: st)) : zGc rs cs sl d L kd A nL p l e R s m args below meth c Q σ pc lv (.int i :: .ref a :: st) := zg_iald X ha rfl h0 h1 hdg (kk _ rfl (zj_get hI ha rfl))
theorem as_154 {own : String} (X : zX d L kd A nL p s m args c cc own) {i x : Int32} (hI : zJ κ L kd σ) (ha : zT L kd a 154) (h0 : 0 ≤ i.toInt) (h1 : i.toInt < 12) (hdg : decode cc pc = .ok (.iastore, 1)) (kk : ∀ σ2 : zS, σ2 = (zu σ.1 a i.toNatClampNeg x, σ.2.1, σ.2.2) → zJ κ L kd σ2 → zGc rs cs sl d L kd A nL p l e R s m args below meth c Q σ2 (pc + 1) lv st) : zGc rs cs sl d L kd A nL p l e R s m args below meth c Q σ pc lv (.int x :: .int i :: .ref a :: st) := zg_iast X ha rfl h0 h1 hdg (fun σ2 h2 => kk σ2 h2 (by rw [h2]; exact zj_puti hI ha rfl (zb_rng _).1 (zb_rng _).2))
theorem ag_155 {own : String} (X : zX d L kd A nL p s m args c cc own) {i : Int32} (hI : zJ κ L kd σ) (ha : zT L kd a 155) (h0 : 0 ≤ i.toInt) (h1 : i.toInt < 12) (hdg : decode cc pc = .ok (.iaload, 1)) (kk : ∀ v : Int32, v = σ.1 a i.toNatClampNeg → (-2147483648) ≤ v.toInt ∧ v.toInt ≤ 2147483647 → zGc rs cs sl d L kd A nL p l e R s m args below meth c Q σ (pc + 1) lv (.int v :: st)) : zGc rs cs sl d L kd A nL p l e R s m args below meth c Q σ pc lv (.int i :: .ref a :: st) := zg_iald X ha rfl h0 h1 hdg (kk _ rfl (zj_get hI ha rfl))
theorem as_155 {own : String} (X : zX d L kd A nL p s m args c cc own) {i x : Int32} (hI : zJ κ L kd σ) (ha : zT L kd a 155) (h0 : 0 ≤ i.toInt) (h1 : i.toInt < 12) (hdg : decode cc pc = .ok (.iastore, 1)) (kk : ∀ σ2 : zS, σ2 = (zu σ.1 a i.toNatClampNeg x, σ.2.1, σ.2.2) → zJ κ L kd σ2 → zGc rs cs sl d L kd A nL p l e R s m args below meth c Q σ2 (pc + 1) lv st) : zGc rs cs sl d L kd A nL p l e R s m args below meth c Q σ pc lv (.int x :: .int i :: .ref a :: st) := zg_iast X ha rfl h0 h1 hdg (fun σ2 h2 => kk σ2 h2 (by rw [h2]; exact zj_puti hI ha rfl (zb_rng _).1 (zb_rng _).2))
theorem ag_158 {own : String} (X : zX d L kd A nL p s m args c cc own) {i : Int32} (hI : zJ κ L kd σ) (ha : zT L kd a 158) (h0 : 0 ≤ i.toInt) (h1 : i.toInt < 2000) (hdg : decode cc pc = .ok (.iaload, 1)) (kk : ∀ v : Int32, v = σ.1 a i.toNatClampNeg → (-2147483648) ≤ v.toInt ∧ v.toInt ≤ 2147483647 → zGc rs cs sl d L kd A nL p l e R s m args below meth c Q σ (pc + 1) lv (.int v :: st)) : zGc rs cs sl d L kd A nL p l e R s m args below meth c Q σ pc lv (.int i :: .ref a :: st) := zg_iald X ha rfl h0 h1 hdg (kk _ rfl (zj_get hI ha rfl))
theorem as_158 {own : String} (X : zX d L kd A nL p s m args c cc own) {i x : Int32} (hI : zJ κ L kd σ) (ha : zT L kd a 158) (h0 : 0 ≤ i.toInt) (h1 : i.toInt < 2000) (hdg : decode cc pc = .ok (.iastore, 1)) (kk : ∀ σ2 : zS, σ2 = (zu σ.1 a i.toNatClampNeg x, σ.2.1, σ.2.2) → zJ κ L kd σ2 → zGc rs cs sl d L kd A nL p l e R s m args below meth c Q σ2 (pc + 1) lv st) : zGc rs cs sl d L kd A nL p l e R s m args below meth c Q σ pc lv (.int x :: .int i :: .ref a :: st) := zg_iast X ha rfl h0 h1 hdg (fun σ2 h2 => kk σ2 h2 (by rw [h2]; exact zj_puti hI ha rfl (zb_rng _).1 (zb_rng _).2))
theorem ag_159 {own : String} (X : zX d L kd A nL p s m args c cc own) {i : Int32} (hI : zJ κ L kd σ) (ha : zT L kd a 159) (h0 : 0 ≤ i.toInt) (h1 : i.toInt < 3) (hdg : decode cc pc = .ok (.iaload, 1)) (kk : ∀ v : Int32, v = σ.1 a i.toNatClampNeg → (-2147483648) ≤ v.toInt ∧ v.toInt ≤ 2147483647 → zGc rs cs sl d L kd A nL p l e R s m args below meth c Q σ (pc + 1) lv (.int v :: st)) : zGc rs cs sl d L kd A nL p l e R s m args below meth c Q σ pc lv (.int i :: .ref a :: st) := zg_iald X ha rfl h0 h1 hdg (kk _ rfl (zj_get hI ha rfl))
theorem as_159 {own : String} (X : zX d L kd A nL p s m args c cc own) {i x : Int32} (hI : zJ κ L kd σ) (ha : zT L kd a 159) (h0 : 0 ≤ i.toInt) (h1 : i.toInt < 3) (hdg : decode cc pc = .ok (.iastore, 1)) (kk : ∀ σ2 : zS, σ2 = (zu σ.1 a i.toNatClampNeg x, σ.2.1, σ.2.2) → zJ κ L kd σ2 → zGc rs cs sl d L kd A nL p l e R s m args below meth c Q σ2 (pc + 1) lv st) : zGc rs cs sl d L kd A nL p l e R s m args below meth c Q σ pc lv (.int x :: .int i :: .ref a :: st) := zg_iast X ha rfl h0 h1 hdg (fun σ2 h2 => kk σ2 h2 (by rw [h2]; exact zj_puti hI ha rfl (zb_rng _).1 (zb_rng _).2))
theorem ag_160 {own : String} (X : zX d L kd A nL p s m args c cc own) {i : Int32} (hI : zJ κ L kd σ) (ha : zT L kd a 160) (h0 : 0 ≤ i.toInt) (h1 : i.toInt < 12) (hdg : decode cc pc = .ok (.iaload, 1)) (kk : ∀ v : Int32, v = σ.1 a i.toNatClampNeg → (-2147483648) ≤ v.toInt ∧ v.toInt ≤ 2147483647 → zGc rs cs sl d L kd A nL p l e R s m args below meth c Q σ (pc + 1) lv (.int v :: st)) : zGc rs cs sl d L kd A nL p l e R s m args below meth c Q σ pc lv (.int i :: .ref a :: st) := zg_iald X ha rfl h0 h1 hdg (kk _ rfl (zj_get hI ha rfl))
theorem as_160 {own : String} (X : zX d L kd A nL p s m args c cc own) {i x : Int32} (hI : zJ κ L kd σ) (ha : zT L kd a 160) (h0 : 0 ≤ i.toInt) (h1 : i.toInt < 12) (hdg : decode cc pc = .ok (.iastore, 1)) (kk : ∀ σ2 : zS, σ2 = (zu σ.1 a i.toNatClampNeg x, σ.2.1, σ.2.2) → zJ κ L kd σ2 → zGc rs cs sl d L kd A nL p l e R s m args below meth c Q σ2 (pc + 1) lv st) : zGc rs cs sl d L kd A nL p l e R s m args below meth c Q σ pc lv (.int x :: .int i :: .ref a :: st) := zg_iast X ha rfl h0 h1 hdg (fun σ2 h2 => kk σ2 h2 (by rw [h2]; exact zj_puti hI ha rfl (zb_rng _).1 (zb_rng _).2))
theorem ag_161 {own : String} (X : zX d L kd A nL p s m args c cc own) {i : Int32} (hI : zJ κ L kd σ) (ha : zT L kd a 161) (h0 : 0 ≤ i.toInt) (h1 : i.toInt < 12) (hdg : decode cc pc = .ok (.iaload, 1)) (kk : ∀ v : Int32, v = σ.1 a i.toNatClampNeg → (-2147483648) ≤ v.toInt ∧ v.toInt ≤ 2147483647 → zGc rs cs sl d L kd A nL p l e R s m args below meth c Q σ (pc + 1) lv (.int v :: st)) : zGc rs cs sl d L kd A nL p l e R s m args below meth c Q σ pc lv (.int i :: .ref a :: st) := zg_iald X ha rfl h0 h1 hdg (kk _ rfl (zj_get hI ha rfl))
theorem as_161 {own : String} (X : zX d L kd A nL p s m args c cc own) {i x : Int32} (hI : zJ κ L kd σ) (ha : zT L kd a 161) (h0 : 0 ≤ i.toInt) (h1 : i.toInt < 12) (hdg : decode cc pc = .ok (.iastore, 1)) (kk : ∀ σ2 : zS, σ2 = (zu σ.1 a i.toNatClampNeg x, σ.2.1, σ.2.2) → zJ κ L kd σ2 → zGc rs cs sl d L kd A nL p l e R s m args below meth c Q σ2 (pc + 1) lv st) : zGc rs cs sl d L kd A nL p l e R s m args below meth c Q σ pc lv (.int x :: .int i :: .ref a :: st) := zg_iast X ha rfl h0 h1 hdg (fun σ2 h2 => kk σ2 h2 (by rw [h2]; exact zj_puti hI ha rfl (zb_rng _).1 (zb_rng _).2))
theorem ag_163 {own : String} (X : zX d L kd A nL p s m args c cc own) {i : Int32} (hI : zJ κ L kd σ) (ha : zT L kd a 163) (h0 : 0 ≤ i.toInt) (h1 : i.toInt < 20) (hdg : decode cc pc = .ok (.iaload, 1)) (kk : ∀ v : Int32, v = σ.1 a i.toNatClampNeg → 0 ≤ v.toInt ∧ v.toInt ≤ 11 → zGc rs cs sl d L kd A nL p l e R s m args below meth c Q σ (pc + 1) lv (.int v :: st)) : zGc rs cs sl d L kd A nL p l e R s m args below meth c Q σ pc lv (.int i :: .ref a :: st) := zg_iald X ha rfl h0 h1 hdg (kk _ rfl (zj_get hI ha rfl))
theorem as_163 {own : String} (X : zX d L kd A nL p s m args c cc own) {i x : Int32} (hI : zJ κ L kd σ) (ha : zT L kd a 163) (h0 : 0 ≤ i.toInt) (h1 : i.toInt < 20) (h : 0 ≤ x.toInt ∧ x.toInt ≤ 11) (hdg : decode cc pc = .ok (.iastore, 1)) (kk : ∀ σ2 : zS, σ2 = (zu σ.1 a i.toNatClampNeg x, σ.2.1, σ.2.2) → zJ κ L kd σ2 → zGc rs cs sl d L kd A nL p l e R s m args below meth c Q σ2 (pc + 1) lv st) : zGc rs cs sl d L kd A nL p l e R s m args below meth c Q σ pc lv (.int x :: .int i :: .ref a :: st) := zg_iast X ha rfl h0 h1 hdg (fun σ2 h2 => kk σ2 h2 (by rw [h2]; exact zj_puti hI ha rfl h.1 h.2))
theorem ag_164 {own : String} (X : zX d L kd A nL p s m args c cc own) {i : Int32} (hI : zJ κ L kd σ) (ha : zT L kd a 164) (h0 : 0 ≤ i.toInt) (h1 : i.toInt < 20) (hdg : decode cc pc = .ok (.iaload, 1)) (kk : ∀ v : Int32, v = σ.1 a i.toNatClampNeg → (-2147483648) ≤ v.toInt ∧ v.toInt ≤ 2147483647 → zGc rs cs sl d L kd A nL p l e R s m args below meth c Q σ (pc + 1) lv (.int v :: st)) : zGc rs cs sl d L kd A nL p l e R s m args below meth c Q σ pc lv (.int i :: .ref a :: st) := zg_iald X ha rfl h0 h1 hdg (kk _ rfl (zj_get hI ha rfl))
theorem as_164 {own : String} (X : zX d L kd A nL p s m args c cc own) {i x : Int32} (hI : zJ κ L kd σ) (ha : zT L kd a 164) (h0 : 0 ≤ i.toInt) (h1 : i.toInt < 20) (hdg : decode cc pc = .ok (.iastore, 1)) (kk : ∀ σ2 : zS, σ2 = (zu σ.1 a i.toNatClampNeg x, σ.2.1, σ.2.2) → zJ κ L kd σ2 → zGc rs cs sl d L kd A nL p l e R s m args below meth c Q σ2 (pc + 1) lv st) : zGc rs cs sl d L kd A nL p l e R s m args below meth c Q σ pc lv (.int x :: .int i :: .ref a :: st) := zg_iast X ha rfl h0 h1 hdg (fun σ2 h2 => kk σ2 h2 (by rw [h2]; exact zj_puti hI ha rfl (zb_rng _).1 (zb_rng _).2))
theorem ag_165 {own : String} (X : zX d L kd A nL p s m args c cc own) {i : Int32} (hI : zJ κ L kd σ) (ha : zT L kd a 165) (h0 : 0 ≤ i.toInt) (h1 : i.toInt < 20) (hdg : decode cc pc = .ok (.iaload, 1)) (kk : ∀ v : Int32, v = σ.1 a i.toNatClampNeg → (-2147483648) ≤ v.toInt ∧ v.toInt ≤ 2147483647 → zGc rs cs sl d L kd A nL p l e R s m args below meth c Q σ (pc + 1) lv (.int v :: st)) : zGc rs cs sl d L kd A nL p l e R s m args below meth c Q σ pc lv (.int i :: .ref a :: st) := zg_iald X ha rfl h0 h1 hdg (kk _ rfl (zj_get hI ha rfl))
theorem as_165 {own : String} (X : zX d L kd A nL p s m args c cc own) {i x : Int32} (hI : zJ κ L kd σ) (ha : zT L kd a 165) (h0 : 0 ≤ i.toInt) (h1 : i.toInt < 20) (hdg : decode cc pc = .ok (.iastore, 1)) (kk : ∀ σ2 : zS, σ2 = (zu σ.1 a i.toNatClampNeg x, σ.2.1, σ.2.2) → zJ κ L kd σ2 → zGc rs cs sl d L kd A nL p l e R s m args below meth c Q σ2 (pc + 1) lv st) : zGc rs cs sl d L kd A nL p l e R s m args below meth c Q σ pc lv (.int x :: .int i :: .ref a :: st) := zg_iast X ha rfl h0 h1 hdg (fun σ2 h2 => kk σ2 h2 (by rw [h2]; exact zj_puti hI ha rfl (zb_rng _).1 (zb_rng _).2))
theorem ag_166 {own : String} (X : zX d L kd A nL p s m args c cc own) {i : Int32} (hI : zJ κ L kd σ) (ha : zT L kd a 166) (h0 : 0 ≤ i.toInt) (h1 : i.toInt < 20) (hdg : decode cc pc = .ok (.baload, 1)) (kk : ∀ v : Int32, v = σ.1 a i.toNatClampNeg → 0 ≤ v.toInt ∧ v.toInt ≤ 1 → zGc rs cs sl d L kd A nL p l e R s m args below meth c Q σ (pc + 1) lv (.int v :: st)) : zGc rs cs sl d L kd A nL p l e R s m args below meth c Q σ pc lv (.int i :: .ref a :: st) := zg_zald X ha rfl h0 h1 hdg (kk _ rfl (zj_get hI ha rfl))
theorem as_166 {own : String} (X : zX d L kd A nL p s m args c cc own) {i x : Int32} (hI : zJ κ L kd σ) (ha : zT L kd a 166) (h0 : 0 ≤ i.toInt) (h1 : i.toInt < 20) (h : 0 ≤ x.toInt ∧ x.toInt ≤ 1) (hdg : decode cc pc = .ok (.bastore, 1)) (kk : ∀ σ2 : zS, σ2 = (zu σ.1 a i.toNatClampNeg (vp_nar .boolean x), σ.2.1, σ.2.2) → zJ κ L kd σ2 → zGc rs cs sl d L kd A nL p l e R s m args below meth c Q σ2 (pc + 1) lv st) : zGc rs cs sl d L kd A nL p l e R s m args below meth c Q σ pc lv (.int x :: .int i :: .ref a :: st) := zg_zast X ha rfl h0 h1 hdg (fun σ2 h2 => kk σ2 h2 (by rw [h2]; exact zj_puti hI ha rfl (by rw [zb_nz h]; exact h.1) (by rw [zb_nz h]; exact h.2)))
theorem ag_167 {own : String} (X : zX d L kd A nL p s m args c cc own) {i : Int32} (hI : zJ κ L kd σ) (ha : zT L kd a 167) (h0 : 0 ≤ i.toInt) (h1 : i.toInt < 3) (hdg : decode cc pc = .ok (.baload, 1)) (kk : ∀ v : Int32, v = σ.1 a i.toNatClampNeg → 0 ≤ v.toInt ∧ v.toInt ≤ 1 → zGc rs cs sl d L kd A nL p l e R s m args below meth c Q σ (pc + 1) lv (.int v :: st)) : zGc rs cs sl d L kd A nL p l e R s m args below meth c Q σ pc lv (.int i :: .ref a :: st) := zg_zald X ha rfl h0 h1 hdg (kk _ rfl (zj_get hI ha rfl))
theorem as_167 {own : String} (X : zX d L kd A nL p s m args c cc own) {i x : Int32} (hI : zJ κ L kd σ) (ha : zT L kd a 167) (h0 : 0 ≤ i.toInt) (h1 : i.toInt < 3) (h : 0 ≤ x.toInt ∧ x.toInt ≤ 1) (hdg : decode cc pc = .ok (.bastore, 1)) (kk : ∀ σ2 : zS, σ2 = (zu σ.1 a i.toNatClampNeg (vp_nar .boolean x), σ.2.1, σ.2.2) → zJ κ L kd σ2 → zGc rs cs sl d L kd A nL p l e R s m args below meth c Q σ2 (pc + 1) lv st) : zGc rs cs sl d L kd A nL p l e R s m args below meth c Q σ pc lv (.int x :: .int i :: .ref a :: st) := zg_zast X ha rfl h0 h1 hdg (fun σ2 h2 => kk σ2 h2 (by rw [h2]; exact zj_puti hI ha rfl (by rw [zb_nz h]; exact h.1) (by rw [zb_nz h]; exact h.2)))
theorem ag_168 {own : String} (X : zX d L kd A nL p s m args c cc own) {i : Int32} (hI : zJ κ L kd σ) (ha : zT L kd a 168) (h0 : 0 ≤ i.toInt) (h1 : i.toInt < 150) (hdg : decode cc pc = .ok (.iaload, 1)) (kk : ∀ v : Int32, v = σ.1 a i.toNatClampNeg → (-2147483648) ≤ v.toInt ∧ v.toInt ≤ 2147483647 → zGc rs cs sl d L kd A nL p l e R s m args below meth c Q σ (pc + 1) lv (.int v :: st)) : zGc rs cs sl d L kd A nL p l e R s m args below meth c Q σ pc lv (.int i :: .ref a :: st) := zg_iald X ha rfl h0 h1 hdg (kk _ rfl (zj_get hI ha rfl))
theorem as_168 {own : String} (X : zX d L kd A nL p s m args c cc own) {i x : Int32} (hI : zJ κ L kd σ) (ha : zT L kd a 168) (h0 : 0 ≤ i.toInt) (h1 : i.toInt < 150) (hdg : decode cc pc = .ok (.iastore, 1)) (kk : ∀ σ2 : zS, σ2 = (zu σ.1 a i.toNatClampNeg x, σ.2.1, σ.2.2) → zJ κ L kd σ2 → zGc rs cs sl d L kd A nL p l e R s m args below meth c Q σ2 (pc + 1) lv st) : zGc rs cs sl d L kd A nL p l e R s m args below meth c Q σ pc lv (.int x :: .int i :: .ref a :: st) := zg_iast X ha rfl h0 h1 hdg (fun σ2 h2 => kk σ2 h2 (by rw [h2]; exact zj_puti hI ha rfl (zb_rng _).1 (zb_rng _).2))
end ZLINKS
end
-- 21.picture
section
/-! THE REFERENCE'S ROWS AS NUMBERS: zp a0 σ slot j: what the array in the slot holds at j. Bits: rows of kit/laws/BITS.to-paste. What is known of the state: gR (the row is a tree's), gN, gH, gE (now, history, held rows), gB (what comes by), gL (the laws that stand) -/
def bt (x : Int32) (i : Nat) : Bool := x.toBitVec.getLsbD i
theorem b_or (x y : Int32) (i : Nat) : bt (x ||| y) i = (bt x i || bt y i) := by unfold bt; rw [Int32.toBitVec_or, BitVec.getLsbD_or]
theorem b_and (x y : Int32) (i : Nat) : bt (x &&& y) i = (bt x i && bt y i) := by unfold bt; rw [Int32.toBitVec_and, BitVec.getLsbD_and]
theorem b_ext {x y : Int32} (h : ∀ i, i < 32 → bt x i = bt y i) : x = y := Int32.toBitVec_inj.mp (BitVec.eq_of_getLsbD_eq (fun i hi => h i hi))
theorem b_0 (i : Nat) : bt 0 i = false := BitVec.getLsbD_zero
theorem s_l : ∀ n, n < 32 → ((nI n &&& 31).toBitVec.smod 32).toNat = n := by decide +kernel
theorem b_shl (n : Nat) (hn : n < 32) (x : Int32) {i : Nat} (hi : i < 32) : bt (x <<< (nI n &&& 31)) i = (decide (n ≤ i) && bt x (i - n)) := by
  unfold bt
  rw [Int32.toBitVec_shiftLeft]
  show (x.toBitVec <<< ((nI n &&& 31).toBitVec.smod 32).toNat).getLsbD i = _
  rw [s_l n hn, BitVec.getLsbD_shiftLeft]
  rcases Nat.lt_or_ge i n with h | h
  · simp [h, Nat.not_le.mpr h]
  · simp [hi, h, Nat.not_lt.mpr h]
theorem b_sshr (n : Nat) (hn : n < 32) (x : Int32) {i : Nat} (hi : i < 32) : bt (x >>> (nI n &&& 31)) i = if n + i < 32 then bt x (n + i) else bt x 31 := by
  unfold bt
  rw [Int32.toBitVec_shiftRight]
  show (x.toBitVec.sshiftRight ((nI n &&& 31).toBitVec.smod 32).toNat).getLsbD i = _
  rw [s_l n hn, BitVec.getLsbD_sshiftRight, BitVec.msb_eq_getLsbD_last]
  simp [hi]
theorem b_one : ∀ i, i < 32 → bt 1 i = decide (i = 0) := by decide +kernel
theorem zq_n {x : Int32} (h0 : 0 ≤ x.toInt) (h1 : x.toInt < 32) : ∃ n : Nat, n < 32 ∧ x = nI n ∧ x.toInt = (n : Int) := by
  refine ⟨x.toInt.toNat, by omega, ?_, by omega⟩
  have key : ∀ n : Nat, n < 32 → (nI n).toInt = (n : Int) := by decide +kernel
  exact Int32.toInt_inj.mp (by rw [key _ (by omega)]; omega)
/-- the bit of that number -/
def zbt (x o : Int) : Prop := (BitVec.ofInt 32 x).getLsbD o.toNat = true
theorem zbt_i (x : Int32) (o : Int) : zbt x.toInt o ↔ bt x o.toNat = true := by
  unfold zbt bt
  rw [show BitVec.ofInt 32 x.toInt = x.toBitVec from BitVec.ofInt_toInt]
theorem zbt_z (o : Int) : ¬ zbt 0 o := by
  have h : zbt (0 : Int32).toInt o ↔ _ := zbt_i 0 o
  rw [b_0] at h
  intro q
  exact absurd (h.mp q) (by decide)
/-- one bit more -/
theorem zbt_or {x u v w : Int32} (hu : u.toInt = 1) {c : Int32} (hv : v = u <<< (c &&& 31)) (hw : w = x ||| v) (h0 : 0 ≤ c.toInt) (h1 : c.toInt < 32) (o : Int) (h2 : 0 ≤ o) (h3 : o < 32) : zbt w.toInt o ↔ zbt x.toInt o ∨ o = c.toInt := by
  obtain ⟨n, hn, e, en⟩ := zq_n h0 h1
  have u1 : u = 1 := Int32.toInt_inj.mp (by rw [hu]; rfl)
  rw [zbt_i, zbt_i, hw, b_or, hv, e, u1, b_shl n hn 1 (by omega)]
  have k1 : bt 1 (o.toNat - n) = decide (o.toNat - n = 0) := b_one _ (by omega)
  rw [k1, Bool.or_eq_true, Bool.and_eq_true, decide_eq_true_eq, decide_eq_true_eq, ← e, en]
  constructor
  · rintro (h | ⟨a, b⟩)
    · exact Or.inl h
    · exact Or.inr (by omega)
  · rintro (h | h)
    · exact Or.inl h
    · exact Or.inr (by omega)
/-- a bit asked for -/
theorem zbt_t {x u v w : Int32} (hu : u.toInt = 1) {c : Int32} (hv : v = x >>> (c &&& 31)) (hw : w = v &&& u) (h0 : 0 ≤ c.toInt) (h1 : c.toInt < 31) : (w.toInt = 0 ∧ ¬ zbt x.toInt c.toInt) ∨ (w.toInt = 1 ∧ zbt x.toInt c.toInt) := by
  obtain ⟨n, hn, e, en⟩ := zq_n h0 (by omega)
  have u1 : u = 1 := Int32.toInt_inj.mp (by rw [hu]; rfl)
  have key : ∀ i, i < 32 → bt w i = (decide (i = 0) && bt x n) := by
    intro i hi
    rw [hw, u1, b_and, b_one i hi]
    by_cases z : i = 0
    · subst z
      rw [hv, e, b_sshr n hn x (by omega), if_pos (by omega)]
      simp
    · simp [z]
  have hc : c.toInt.toNat = n := by omega
  rw [zbt_i, hc]
  cases hb : bt x n
  · left
    refine ⟨?_, by simp⟩
    have : w = 0 := b_ext (fun i hi => by rw [key i hi, hb, b_0]; simp)
    rw [this]; rfl
  · right
    refine ⟨?_, rfl⟩
    have : w = 1 := b_ext (fun i hi => by rw [key i hi, hb, b_one i hi]; simp)
    rw [this]; rfl
def zp (a0 : Nat) (σ : zS) (slot : Nat) (j : Int) : Int := (σ.1 ((σ.2.2 a0 slot).getD 0) j.toNat).toInt
theorem zp_ld {a0 slot y : Nat} {σ : zS} {v : Int32} {i : Int32} (e : σ.2.2 a0 slot = some y) (h : v = σ.1 y i.toNatClampNeg) : v.toInt = zp a0 σ slot i.toInt := by
  subst h
  unfold zp
  rw [e]
  rfl
theorem zp_st {a0 slot y : Nat} {σ σ2 : zS} {i x : Int32} (e : σ.2.2 a0 slot = some y) (h : σ2 = (zu σ.1 y i.toNatClampNeg x, σ.2.1, σ.2.2)) (h0 : 0 ≤ i.toInt) : ∀ j : Int, 0 ≤ j → zp a0 σ2 slot j = if j = i.toInt then x.toInt else zp a0 σ slot j := by
  intro j hj
  subst h
  have e1 : zp a0 (zu σ.1 y i.toNatClampNeg x, σ.2.1, σ.2.2) slot j = (zu σ.1 y i.toNatClampNeg x y j.toNat).toInt := by
    show (zu σ.1 y i.toNatClampNeg x ((σ.2.2 a0 slot).getD 0) j.toNat).toInt = _
    rw [e]; rfl
  have e2 : zp a0 σ slot j = (σ.1 y j.toNat).toInt := by
    unfold zp
    rw [e]; rfl
  rw [e1, e2, zu_a]
  show (if j.toNat = i.toInt.toNat then x else σ.1 y j.toNat).toInt = _
  by_cases c : j = i.toInt
  · rw [if_pos c, if_pos (by omega)]
  · rw [if_neg c, if_neg (by omega)]
section ZPIC
variable {κ : Int} {L : List Nat} {kd : Nat → Nat} {σ σ2 : zS} {a0 : Nat} {Wf Wa : List Nat}
theorem zp_same (hI : zJ κ L kd σ2) (ha : zT L kd a0 11) (g : zSame a0 Wf Wa L kd σ σ2) (slot : Nat) {k : Nat} (hf : zf 0 11 slot = some k) (hk : k ≠ 11) (hn : Wa.contains k = false) : zp a0 σ2 slot = zp a0 σ slot := by
  obtain ⟨y, ey, hy⟩ := zj_ref hI ha hf
  have ey1 : σ.2.2 a0 slot = some y := by rw [← g.2.2]; exact ey
  funext j
  unfold zp
  rw [ey, ey1]
  show (σ2.1 y j.toNat).toInt = (σ.1 y j.toNat).toInt
  rw [(g.1 y hy.1 (by rw [hy.2]; exact hk) (by rw [hy.2]; intro q; simp [q] at hn)).1]
theorem zfl_same (g : zSame a0 Wf Wa L kd σ σ2) (j : Nat) (hj : Wf.contains j = false) : σ2.1 a0 j = σ.1 a0 j := g.2.1 j (by intro q; simp [q] at hj)
/-- how many places stand -/
def zM (a0 : Nat) (σ : zS) : Int := zp a0 σ 21 (σ.1 a0 18).toInt
theorem zM_same (hI : zJ κ L kd σ2) (ha : zT L kd a0 11) (g : zSame a0 Wf Wa L kd σ σ2) (h : (!Wf.contains 18 && !Wa.contains 121) = true) : zM a0 σ2 = zM a0 σ := by
  simp only [Bool.and_eq_true, Bool.not_eq_true'] at h
  unfold zM
  rw [zfl_same g 18 h.1, zp_same hI ha g 21 rfl (by decide) h.2]
/-- a source: one of the places but the mouth, by which none but itself comes -/
def zSrc (a0 : Nat) (σ : zS) (c : Int) : Prop := 1 ≤ c ∧ c < zM a0 σ ∧ zp a0 σ 54 c = ((1 : Int32) <<< (Int32.ofInt c &&& 31)).toInt
theorem zSrc_iff {u v c : Int32} (hu : u.toInt = 1) (hv : v = u <<< (c &&& 31)) : v.toInt = ((1 : Int32) <<< (Int32.ofInt c.toInt &&& 31)).toInt := by
  have u1 : u = 1 := Int32.toInt_inj.mp (by rw [hu]; rfl)
  rw [Int32.ofInt_toInt, hv, u1]
theorem zsh_le {u v c : Int32} (hu : u.toInt = 1) (hv : v = u <<< (c &&& 31)) (h0 : 0 ≤ c.toInt) (h1 : c.toInt ≤ 12) : 1 ≤ v.toInt ∧ v.toInt ≤ 4096 ∧ (c.toInt ≤ 11 → v.toInt ≤ 2048) := by
  obtain ⟨n, hn, e, en⟩ := zq_n h0 (by omega)
  have u1 : u = 1 := Int32.toInt_inj.mp (by rw [hu]; rfl)
  subst e
  subst hv
  subst u1
  have key : ∀ n : Nat, n < 13 → 1 ≤ ((1 : Int32) <<< (nI n &&& 31)).toInt ∧ ((1 : Int32) <<< (nI n &&& 31)).toInt ≤ 4096 ∧ (n ≤ 11 → ((1 : Int32) <<< (nI n &&& 31)).toInt ≤ 2048) := by decide +kernel
  have q := key n (by omega)
  exact ⟨q.1, q.2.1, fun h => q.2.2 (by omega)⟩
theorem zor_le {x y w : Int32} (hw : w = x ||| y) (h0 : 0 ≤ x.toInt) (h1 : x.toInt ≤ 4095) (h2 : 0 ≤ y.toInt) (h3 : y.toInt ≤ 4095) : 0 ≤ w.toInt ∧ w.toInt ≤ 4095 := by
  have key : ∀ z : Int32, 0 ≤ z.toInt → z.toInt ≤ 4095 → z.toBitVec.toNat < 2 ^ 12 := fun z a b => by
    have e : z.toInt = z.toBitVec.toInt := rfl
    rw [e, BitVec.toInt_eq_toNat_cond] at a b
    split at a <;> rename_i c
    · rw [if_pos c] at b; omega
    · have := z.toBitVec.isLt; omega
  have e : w.toBitVec.toNat = x.toBitVec.toNat ||| y.toBitVec.toNat := by rw [hw, Int32.toBitVec_or, BitVec.toNat_or]
  have l := Nat.or_lt_two_pow (key x h0 h1) (key y h2 h3)
  rw [← e] at l
  have e2 : w.toInt = w.toBitVec.toInt := rfl
  rw [e2, BitVec.toInt_eq_toNat_cond, if_pos (by omega)]
  omega
theorem zM_in (hI : zJ κ L kd σ) (ha : zT L kd a0 11) : 0 ≤ zM a0 σ ∧ zM a0 σ ≤ 12 := by
  obtain ⟨y, ey, hy⟩ := zj_ref (j := 21) (k2 := 121) hI ha rfl
  unfold zM zp
  rw [ey]
  exact zj_get hI hy rfl
/-- a row is a tree's: each place but the mouth runs into one of the places, by a rank that falls; its law is one -/
def gRow (m : Int) (f : Int → Int) : Prop := (∃ r : Int → Nat, ∀ c : Int, 1 ≤ c → c < m → 0 ≤ f c ∧ f c < m ∧ (0 < f c → r (f c) < r c)) ∧ 0 ≤ f 49 ∧ f 49 ≤ 2
theorem gRow.congr {m : Int} {f g : Int → Int} (hm : m ≤ 12) (h : gRow m f) (e : ∀ j : Int, 1 ≤ j → (j < 12 ∨ j = 49) → g j = f j) : gRow m g := by
  obtain ⟨⟨r, hr⟩, h1, h2⟩ := h
  refine ⟨⟨r, fun c h3 h4 => ?_⟩, ?_, ?_⟩
  · rw [e c h3 (by omega)]
    exact hr c h3 h4
  · rw [e 49 (by decide) (by decide)]; exact h1
  · rw [e 49 (by decide) (by decide)]; exact h2
theorem gRow.rank {m : Int} {f : Int → Int} (h : gRow m f) : ∃ r : Int → Nat, ∀ c : Int, 1 ≤ c → c < m → 0 ≤ f c ∧ f c < m ∧ r (f c) < r c := by
  obtain ⟨⟨r, hr⟩, -, -⟩ := h
  refine ⟨fun a => if a ≤ 0 then 0 else r a + 1, fun c h1 h2 => ?_⟩
  obtain ⟨q1, q2, q3⟩ := hr c h1 h2
  refine ⟨q1, q2, ?_⟩
  show (if f c ≤ 0 then 0 else r (f c) + 1) < (if c ≤ 0 then 0 else r c + 1)
  rw [if_neg (show ¬ c ≤ 0 by omega)]
  split
  · omega
  · have := q3 (by omega)
    omega
theorem zflt_le {p q : Nat → Bool} (h : ∀ k, p k = true → q k = true) : ∀ l : List Nat, (l.filter p).length ≤ (l.filter q).length
  | [] => Nat.le_refl _
  | x :: l => by
    have ih := zflt_le h l
    by_cases hp : p x = true
    · rw [List.filter_cons_of_pos hp, List.filter_cons_of_pos (h x hp)]
      exact Nat.succ_le_succ ih
    · rw [List.filter_cons_of_neg hp]
      by_cases hq : q x = true
      · rw [List.filter_cons_of_pos hq]
        exact Nat.le_succ_of_le ih
      · rw [List.filter_cons_of_neg hq]
        exact ih
theorem zflt_lt {p q : Nat → Bool} (h : ∀ k, p k = true → q k = true) {x : Nat} (hq : q x = true) (hp : ¬ p x = true) : ∀ l : List Nat, x ∈ l → (l.filter p).length < (l.filter q).length
  | [], hm => absurd hm List.not_mem_nil
  | y :: l, hm => by
    rcases List.mem_cons.mp hm with e | hm2
    · subst e
      rw [List.filter_cons_of_pos hq, List.filter_cons_of_neg hp]
      exact Nat.lt_succ_of_le (zflt_le h l)
    · have ih := zflt_lt h hq hp l hm2
      by_cases hp2 : p y = true
      · rw [List.filter_cons_of_pos hp2, List.filter_cons_of_pos (h y hp2)]
        exact Nat.succ_lt_succ ih
      · rw [List.filter_cons_of_neg hp2]
        by_cases hq2 : q y = true
        · rw [List.filter_cons_of_pos hq2]
          exact Nat.lt_succ_of_lt ih
        · rw [List.filter_cons_of_neg hq2]
          exact ih
theorem gRow.rankB {m : Int} {f : Int → Int} (hm : m ≤ 12) (h : gRow m f) : ∃ r : Int → Nat, (∀ c : Int, 1 ≤ c → c < m → 0 ≤ f c ∧ f c < m ∧ r (f c) < r c) ∧ ∀ c, r c ≤ 12 := by
  obtain ⟨r, hr⟩ := h.rank
  refine ⟨fun c => ((List.range 12).filter (fun k : Nat => decide (r (k : Int) < r c))).length, fun c h1 h2 => ?_, fun c => Nat.le_trans (List.length_filter_le _ _) (by simp)⟩
  obtain ⟨q1, q2, q3⟩ := hr c h1 h2
  refine ⟨q1, q2, ?_⟩
  have e : ((f c).toNat : Int) = f c := by omega
  exact zflt_lt (p := fun k : Nat => decide (r (k : Int) < r (f c))) (q := fun k : Nat => decide (r (k : Int) < r c)) (x := (f c).toNat) (fun k hk => decide_eq_true (Nat.lt_trans (of_decide_eq_true hk) q3)) (decide_eq_true (by rw [e]; exact q3)) (fun hk => by have := of_decide_eq_true hk; rw [e] at this; omega) _ (List.mem_range.mpr (by omega))
theorem gRow.law {m : Int} {f g : Int → Int} {v : Int} (hm : m ≤ 12) (h : gRow m f) (h0 : 0 ≤ v) (h2 : v ≤ 2) (e : ∀ j : Int, 1 ≤ j → j < 12 → g j = f j) (e9 : g 49 = v) : gRow m g := by
  obtain ⟨⟨r, hr⟩, -, -⟩ := h
  refine ⟨⟨r, fun c h3 h4 => ?_⟩, by omega, by omega⟩
  rw [e c h3 (by omega)]
  exact hr c h3 h4
def gR (a0 : Nat) (σ : zS) : Prop := gRow (zM a0 σ) (zp a0 σ 49)
def gN (a0 : Nat) (σ : zS) : Prop := gRow (zM a0 σ) (zp a0 σ 48)
def gH (a0 : Nat) (σ : zS) : Prop := ∀ i : Int, 0 ≤ i → i < (σ.1 a0 57).toInt → gRow (zM a0 σ) (fun j => zp a0 σ 58 (50 * i + j))
def gE (a0 : Nat) (σ : zS) : Prop := ∀ i : Int, 0 ≤ i → i < 3 → zp a0 σ 67 i = 1 → gRow (zM a0 σ) (fun j => zp a0 σ 68 (50 * i + j))
def gBas (m : Int) (f b : Int → Int) : Prop := ∀ o : Int, 0 ≤ o → o < m → zbt (b o) o ∧ ∀ c : Int, 1 ≤ c → c < m → zbt (b c) o → zbt (b (f c)) o
def gB (a0 : Nat) (σ : zS) : Prop := gBas (zM a0 σ) (zp a0 σ 49) (zp a0 σ 54)
/-- a row of codes from .. to: what stands on the pile -/
def gDep (f : Int → Int) (a : Int) : Nat → Int
  | 0 => 0
  | n + 1 => gDep f a n + (if f (a + n) < 2 then 1 else -1)
def gCod (f v : Int → Int) (a b : Int) : Prop := 0 ≤ a ∧ a ≤ b ∧ b ≤ 840 ∧ ∀ n : Nat, a + n < b → 0 ≤ f (a + n) ∧ f (a + n) ≤ 5 ∧ (f (a + n) = 1 → 0 ≤ v (a + n) ∧ v (a + n) ≤ 8) ∧ (2 ≤ f (a + n) → 2 ≤ gDep f a n) ∧ 0 ≤ gDep f a n ∧ gDep f a n < 400
theorem gDep_congr {f g : Int → Int} {a : Int} : ∀ n : Nat, (∀ k : Nat, k < n → g (a + k) = f (a + k)) → gDep g a n = gDep f a n
  | 0, _ => rfl
  | n + 1, h => by
    show gDep g a n + _ = gDep f a n + _
    rw [gDep_congr n (fun k hk => h k (by omega)), h n (by omega)]
theorem gCod.congr {f g v w : Int → Int} {a b : Int} (h : gCod f v a b) (e : ∀ j : Int, a ≤ j → j < b → g j = f j ∧ w j = v j) : gCod g w a b := by
  obtain ⟨h0, h1, h2, h3⟩ := h
  refine ⟨h0, h1, h2, fun n hn => ?_⟩
  rw [(e _ (by omega) hn).1, (e _ (by omega) hn).2, gDep_congr n (fun k hk => (e _ (by omega) (by omega)).1)]
  exact h3 n hn
/-- one branch of a law, its codes in lo .. hi -/
def gBr (a0 : Nat) (σ : zS) (lo hi b : Int) : Prop := (zp a0 σ 33 b = 1 → gCod (zp a0 σ 39) (zp a0 σ 40) (zp a0 σ 34 b) (zp a0 σ 35 b) ∧ gCod (zp a0 σ 39) (zp a0 σ 40) (zp a0 σ 35 b) (zp a0 σ 36 b) ∧ lo ≤ zp a0 σ 34 b) ∧ gCod (zp a0 σ 39) (zp a0 σ 40) (zp a0 σ 36 b) (zp a0 σ 37 b) ∧ lo ≤ zp a0 σ 36 b ∧ zp a0 σ 37 b ≤ hi
/-- the laws of a side stand in its rows, their branches ahead of B, their codes ahead of C -/
def gLw (a0 : Nat) (σ : zS) (s B C : Int) : Prop := ∀ k : Int, 0 ≤ k → k < 5 → zp a0 σ 30 (5 * s + k) = zp a0 σ 31 (5 * s + k) ∨ (130 * s ≤ zp a0 σ 30 (5 * s + k) ∧ zp a0 σ 31 (5 * s + k) ≤ B ∧ ∀ b : Int, zp a0 σ 30 (5 * s + k) ≤ b → b < zp a0 σ 31 (5 * s + k) → gBr a0 σ (420 * s) C b)
def gL (a0 : Nat) (σ : zS) : Prop := gLw a0 σ (σ.1 a0 18).toInt (130 * (σ.1 a0 18).toInt + 130) (420 * (σ.1 a0 18).toInt + 420)
/-- the laws told so far -/
def gP (a0 : Nat) (σ : zS) : Prop := gLw a0 σ (σ.1 a0 19).toInt (σ.1 a0 32).toInt (σ.1 a0 38).toInt
/-- the places told so far -/
def gTr (a0 : Nat) (σ : zS) : Prop := ((σ.1 a0 15).toInt = 0 → ∀ c : Int, 1 ≤ c → c ≤ (σ.1 a0 42).toInt → 0 ≤ zp a0 σ 22 (12 * (σ.1 a0 19).toInt + c) ∧ zp a0 σ 22 (12 * (σ.1 a0 19).toInt + c) < c) ∧ (zp a0 σ 21 (σ.1 a0 19).toInt = 0 ∨ zp a0 σ 21 (σ.1 a0 19).toInt = (σ.1 a0 42).toInt + 1) ∧ ((σ.1 a0 41).toInt = 0 → zp a0 σ 21 (σ.1 a0 19).toInt = 0) ∧ 0 ≤ (σ.1 a0 15).toInt
theorem gR.same (hI : zJ κ L kd σ2) (ha : zT L kd a0 11) (g : zSame a0 Wf Wa L kd σ σ2) (hd : (!Wf.contains 18 && (!Wa.contains 121 && !Wa.contains 149)) = true) (h : gR a0 σ) : gR a0 σ2 := by
  simp only [Bool.and_eq_true, Bool.not_eq_true'] at hd
  obtain ⟨h1, h2, h3⟩ := hd
  unfold gR
  rw [zM_same hI ha g (by rw [h1, h2]; rfl), zp_same hI ha g 49 rfl (by decide) h3]
  exact h
theorem gN.same (hI : zJ κ L kd σ2) (ha : zT L kd a0 11) (g : zSame a0 Wf Wa L kd σ σ2) (hd : (!Wf.contains 18 && (!Wa.contains 121 && !Wa.contains 148)) = true) (h : gN a0 σ) : gN a0 σ2 := by
  simp only [Bool.and_eq_true, Bool.not_eq_true'] at hd
  obtain ⟨h1, h2, h3⟩ := hd
  unfold gN
  rw [zM_same hI ha g (by rw [h1, h2]; rfl), zp_same hI ha g 48 rfl (by decide) h3]
  exact h
theorem gH.same (hI : zJ κ L kd σ2) (ha : zT L kd a0 11) (g : zSame a0 Wf Wa L kd σ σ2) (hd : (!Wf.contains 18 && (!Wf.contains 57 && (!Wa.contains 121 && !Wa.contains 158))) = true) (h : gH a0 σ) : gH a0 σ2 := by
  simp only [Bool.and_eq_true, Bool.not_eq_true'] at hd
  obtain ⟨h1, h2, h3, h4⟩ := hd
  unfold gH
  rw [zM_same hI ha g (by rw [h1, h3]; rfl), zp_same hI ha g 58 rfl (by decide) h4, zfl_same g 57 h2]
  exact h
theorem gE.same (hI : zJ κ L kd σ2) (ha : zT L kd a0 11) (g : zSame a0 Wf Wa L kd σ σ2) (hd : (!Wf.contains 18 && (!Wa.contains 121 && (!Wa.contains 167 && !Wa.contains 168))) = true) (h : gE a0 σ) : gE a0 σ2 := by
  simp only [Bool.and_eq_true, Bool.not_eq_true'] at hd
  obtain ⟨h1, h2, h3, h4⟩ := hd
  unfold gE
  rw [zM_same hI ha g (by rw [h1, h2]; rfl), zp_same hI ha g 67 rfl (by decide) h3, zp_same hI ha g 68 rfl (by decide) h4]
  exact h
theorem gB.same (hI : zJ κ L kd σ2) (ha : zT L kd a0 11) (g : zSame a0 Wf Wa L kd σ σ2) (hd : (!Wf.contains 18 && (!Wa.contains 121 && (!Wa.contains 149 && !Wa.contains 154))) = true) (h : gB a0 σ) : gB a0 σ2 := by
  simp only [Bool.and_eq_true, Bool.not_eq_true'] at hd
  obtain ⟨h1, h2, h3, h4⟩ := hd
  unfold gB
  rw [zM_same hI ha g (by rw [h1, h2]; rfl), zp_same hI ha g 49 rfl (by decide) h3, zp_same hI ha g 54 rfl (by decide) h4]
  exact h
theorem gLw_same (hI : zJ κ L kd σ2) (ha : zT L kd a0 11) (g : zSame a0 Wf Wa L kd σ σ2) (hd : (!Wa.contains 130 && (!Wa.contains 131 && (!Wa.contains 133 && (!Wa.contains 134 && (!Wa.contains 135 && (!Wa.contains 136 && (!Wa.contains 137 && (!Wa.contains 139 && !Wa.contains 140)))))))) = true) (s B C : Int) : gLw a0 σ2 s B C = gLw a0 σ s B C := by
  simp only [Bool.and_eq_true, Bool.not_eq_true'] at hd
  obtain ⟨h2, h3, h4, h5, h6, h7, h8, h9, h10⟩ := hd
  unfold gLw gBr
  rw [zp_same hI ha g 30 rfl (by decide) h2, zp_same hI ha g 31 rfl (by decide) h3, zp_same hI ha g 33 rfl (by decide) h4, zp_same hI ha g 34 rfl (by decide) h5, zp_same hI ha g 35 rfl (by decide) h6, zp_same hI ha g 36 rfl (by decide) h7, zp_same hI ha g 37 rfl (by decide) h8, zp_same hI ha g 39 rfl (by decide) h9, zp_same hI ha g 40 rfl (by decide) h10]
theorem gL.same (hI : zJ κ L kd σ2) (ha : zT L kd a0 11) (g : zSame a0 Wf Wa L kd σ σ2) (hd : (!Wf.contains 18 && (!Wa.contains 130 && (!Wa.contains 131 && (!Wa.contains 133 && (!Wa.contains 134 && (!Wa.contains 135 && (!Wa.contains 136 && (!Wa.contains 137 && (!Wa.contains 139 && !Wa.contains 140))))))))) = true) (h : gL a0 σ) : gL a0 σ2 := by
  rw [Bool.and_eq_true, Bool.not_eq_true'] at hd
  unfold gL
  rw [zfl_same g 18 hd.1, gLw_same hI ha g hd.2]
  exact h
theorem gP.same (hI : zJ κ L kd σ2) (ha : zT L kd a0 11) (g : zSame a0 Wf Wa L kd σ σ2) (hd : ((!Wf.contains 19 && (!Wf.contains 32 && !Wf.contains 38)) && (!Wa.contains 130 && (!Wa.contains 131 && (!Wa.contains 133 && (!Wa.contains 134 && (!Wa.contains 135 && (!Wa.contains 136 && (!Wa.contains 137 && (!Wa.contains 139 && !Wa.contains 140))))))))) = true) (h : gP a0 σ) : gP a0 σ2 := by
  rw [Bool.and_eq_true] at hd
  obtain ⟨h1, h2⟩ := hd
  simp only [Bool.and_eq_true, Bool.not_eq_true'] at h1
  unfold gP
  rw [zfl_same g 19 h1.1, zfl_same g 32 h1.2.1, zfl_same g 38 h1.2.2, gLw_same hI ha g h2]
  exact h
theorem gTr.same (hI : zJ κ L kd σ2) (ha : zT L kd a0 11) (g : zSame a0 Wf Wa L kd σ σ2) (hd : ((!Wf.contains 15 && (!Wf.contains 19 && (!Wf.contains 41 && !Wf.contains 42))) && (!Wa.contains 121 && !Wa.contains 122)) = true) (h : gTr a0 σ) : gTr a0 σ2 := by
  simp only [Bool.and_eq_true, Bool.not_eq_true'] at hd
  obtain ⟨⟨h1, h2, h3, h6⟩, h4, h5⟩ := hd
  unfold gTr
  rw [zfl_same g 15 h1, zfl_same g 19 h2, zfl_same g 41 h3, zfl_same g 42 h6, zp_same hI ha g 21 rfl (by decide) h4, zp_same hI ha g 22 rfl (by decide) h5]
  exact h
theorem gTr.w (hI : zJ κ L kd σ2) (ha : zT L kd a0 11) (g : zSame a0 Wf Wa L kd σ σ2) (hd : ((!Wf.contains 19 && (!Wf.contains 41 && !Wf.contains 42)) && (!Wa.contains 121 && !Wa.contains 122)) = true) (hw : (1 ≤ (σ.1 a0 15).toInt → 1 ≤ (σ2.1 a0 15).toInt) ∧ (0 ≤ (σ.1 a0 15).toInt → 0 ≤ (σ2.1 a0 15).toInt)) (h : gTr a0 σ) : gTr a0 σ2 := by
  simp only [Bool.and_eq_true, Bool.not_eq_true'] at hd
  obtain ⟨⟨h2, h3, h6⟩, h4, h5⟩ := hd
  obtain ⟨g1, g2, g3, g4⟩ := h
  unfold gTr
  rw [zfl_same g 19 h2, zfl_same g 41 h3, zfl_same g 42 h6, zp_same hI ha g 21 rfl (by decide) h4, zp_same hI ha g 22 rfl (by decide) h5]
  have q := hw.2 g4
  exact ⟨fun h0 => g1 (Classical.byContradiction (fun n => by have := hw.1 (by omega); omega)), g2, g3, q⟩
theorem gN.sm (hI : zJ κ L kd σ2) (ha : zT L kd a0 11) (g : zSame a0 Wf Wa L kd σ σ2) (e : zM a0 σ2 = zM a0 σ) (hd : (!Wa.contains 148) = true) (h : gN a0 σ) : gN a0 σ2 := by
  rw [Bool.not_eq_true'] at hd
  unfold gN
  rw [e, zp_same hI ha g 48 rfl (by decide) hd]
  exact h
theorem gH.sm (hI : zJ κ L kd σ2) (ha : zT L kd a0 11) (g : zSame a0 Wf Wa L kd σ σ2) (e : zM a0 σ2 = zM a0 σ) (hd : (!Wf.contains 57 && !Wa.contains 158) = true) (h : gH a0 σ) : gH a0 σ2 := by
  simp only [Bool.and_eq_true, Bool.not_eq_true'] at hd
  unfold gH
  rw [e, zp_same hI ha g 58 rfl (by decide) hd.2, zfl_same g 57 hd.1]
  exact h
theorem gE.sm (hI : zJ κ L kd σ2) (ha : zT L kd a0 11) (g : zSame a0 Wf Wa L kd σ σ2) (e : zM a0 σ2 = zM a0 σ) (hd : (!Wa.contains 167 && !Wa.contains 168) = true) (h : gE a0 σ) : gE a0 σ2 := by
  simp only [Bool.and_eq_true, Bool.not_eq_true'] at hd
  unfold gE
  rw [e, zp_same hI ha g 67 rfl (by decide) hd.1, zp_same hI ha g 68 rfl (by decide) hd.2]
  exact h
end ZPIC
/-- from each place one comes to the mouth: all bits are the mouth's too -/
theorem gBas.mouth {m : Int} {f b : Int → Int} (hr : gRow m f) (hb : gBas m f b) {o : Int} (h0 : 0 ≤ o) (h1 : o < m) : zbt (b 0) o := by
  obtain ⟨⟨r, hr⟩, -, -⟩ := hr
  have key : ∀ n : Nat, ∀ c : Int, 0 ≤ c → c < m → r c < n → zbt (b c) o → zbt (b 0) o := by
    intro n
    induction n with
    | zero => intro c _ _ h; exact absurd h (by omega)
    | succ n ih =>
      intro c h2 h3 h4 h5
      by_cases z : c = 0
      · rw [z] at h5; exact h5
      · obtain ⟨q1, q2, q3⟩ := hr c (by omega) h3
        have q4 := (hb o h0 h1).2 c (by omega) h3 h5
        by_cases y : f c = 0
        · rw [y] at q4; exact q4
        · exact ih (f c) q1 q2 (by have := q3 (by omega); omega) q4
  exact key (r o + 1) o h0 h1 (by omega) (hb o h0 h1).1
/-- turned into one that it doesn't come by: still a tree's -/
theorem gRow.turn {m : Int} {f g b : Int → Int} {c t : Int} (hm : m ≤ 12) (hr : gRow m f) (hb : gBas m f b) (h1 : 1 ≤ c) (h2 : c < m) (h3 : 0 ≤ t) (h4 : t < m) (hn : ¬ zbt (b c) t) (e : ∀ j : Int, 0 ≤ j → j < 50 → g j = if j = c then t else f j) : gRow m g := by
  classical
  have hr0 := hr
  obtain ⟨⟨r, hr⟩, h5, h6⟩ := hr
  have e49 : g 49 = f 49 := by rw [e 49 (by decide) (by decide), if_neg (by omega)]
  refine ⟨⟨fun a => if zbt (b a) t then r a else r a + r t + 1, fun a h7 h8 => ?_⟩, by rw [e49]; exact h5, by rw [e49]; exact h6⟩
  rw [e a (by omega) (by omega)]
  by_cases z : a = c
  · rw [if_pos z]
    refine ⟨h3, h4, fun _ => ?_⟩
    show (if zbt (b t) t then r t else _) < (if zbt (b a) t then _ else _)
    rw [if_pos (hb t h3 h4).1, z, if_neg hn]
    omega
  · rw [if_neg z]
    obtain ⟨q1, q2, q3⟩ := hr a h7 h8
    refine ⟨q1, q2, fun q => ?_⟩
    have q4 := q3 q
    show (if zbt (b (f a)) t then r (f a) else _) < (if zbt (b a) t then r a else _)
    by_cases y : zbt (b a) t
    · rw [if_pos y, if_pos ((hb t h3 h4).2 a h7 h8 y)]
      exact q4
    · rw [if_neg y]
      split <;> omega
theorem gR_at {a0 : Nat} {σ : zS} (h : gR a0 σ) {c : Int} (h1 : 1 ≤ c) (h2 : c < zM a0 σ) : 0 ≤ zp a0 σ 49 c ∧ zp a0 σ 49 c < zM a0 σ := by
  obtain ⟨⟨r, hr⟩, -, -⟩ := h
  exact ⟨(hr c h1 h2).1, (hr c h1 h2).2.1⟩
theorem gL_at {a0 : Nat} {σ : zS} (h : gL a0 σ) {k a b : Int} (h0 : 0 ≤ k) (h5 : k < 5) (e : a = 5 * (σ.1 a0 18).toInt + k) (hv : 0 ≤ (σ.1 a0 18).toInt ∧ (σ.1 a0 18).toInt ≤ 1) (hne : zp a0 σ 30 a ≠ zp a0 σ 31 a) (h1 : zp a0 σ 30 a ≤ b) (h2 : b < zp a0 σ 31 a) : (0 ≤ b ∧ b < 260) ∧ gBr a0 σ (420 * (σ.1 a0 18).toInt) (420 * (σ.1 a0 18).toInt + 420) b := by
  subst e
  rcases h k h0 h5 with q | ⟨q1, q2, q3⟩
  · exact absurd q hne
  · exact ⟨⟨by omega, by omega⟩, q3 b h1 h2⟩
/-- what is written elsewhere leaves the laws of a side as they were -/
theorem gLw.kept {a0 : Nat} {σ σ2 : zS} {s B C B' C' : Int} (h : gLw a0 σ s B C) (hB : B ≤ B') (hC : C ≤ C') (e39 : ∀ j : Int, 420 * s ≤ j → j < C → zp a0 σ2 39 j = zp a0 σ 39 j ∧ zp a0 σ2 40 j = zp a0 σ 40 j) (e33 : ∀ b : Int, 130 * s ≤ b → b < B → zp a0 σ2 33 b = zp a0 σ 33 b ∧ zp a0 σ2 34 b = zp a0 σ 34 b ∧ zp a0 σ2 35 b = zp a0 σ 35 b ∧ zp a0 σ2 36 b = zp a0 σ 36 b ∧ zp a0 σ2 37 b = zp a0 σ 37 b) (k : Int) (h0 : 0 ≤ k) (h5 : k < 5) (e30 : zp a0 σ2 30 (5 * s + k) = zp a0 σ 30 (5 * s + k) ∧ zp a0 σ2 31 (5 * s + k) = zp a0 σ 31 (5 * s + k)) : zp a0 σ2 30 (5 * s + k) = zp a0 σ2 31 (5 * s + k) ∨ (130 * s ≤ zp a0 σ2 30 (5 * s + k) ∧ zp a0 σ2 31 (5 * s + k) ≤ B' ∧ ∀ b : Int, zp a0 σ2 30 (5 * s + k) ≤ b → b < zp a0 σ2 31 (5 * s + k) → gBr a0 σ2 (420 * s) C' b) := by
  rw [e30.1, e30.2]
  rcases h k h0 h5 with q | ⟨q1, q2, q3⟩
  · exact Or.inl q
  · refine Or.inr ⟨q1, by omega, fun b g1 g2 => ?_⟩
    obtain ⟨r1, r2, r3, r4⟩ := q3 b g1 g2
    obtain ⟨f1, f2, f3, f4, f5⟩ := e33 b (by omega) (by omega)
    have c3 := r2.2.1
    unfold gBr
    rw [f1, f2, f3, f4, f5]
    refine ⟨fun ht => ?_, r2.congr (fun j g3 g4 => e39 j (by omega) (by omega)), r3, by omega⟩
    obtain ⟨u1, u2, u3⟩ := r1 ht
    have c1 := u1.2.1
    have c2 := u2.2.1
    exact ⟨u1.congr (fun j g3 g4 => e39 j (by omega) (by omega)), u2.congr (fun j g3 g4 => e39 j (by omega) (by omega)), u3⟩
/-- the laws told stand, once their side does -/
theorem gL.of {a0 : Nat} {σ σ2 : zS} (h : gP a0 σ) (e : ∀ s B C : Int, gLw a0 σ2 s B C = gLw a0 σ s B C) (e18 : (σ2.1 a0 18).toInt = (σ.1 a0 19).toInt) (hB : (σ.1 a0 32).toInt ≤ 130 * (σ.1 a0 19).toInt + 130) (hC : (σ.1 a0 38).toInt ≤ 420 * (σ.1 a0 19).toInt + 420) : gL a0 σ2 := by
  unfold gL
  rw [e, e18]
  intro k h0 h5
  exact gLw.kept h hB hC (fun j _ _ => ⟨rfl, rfl⟩) (fun b _ _ => ⟨rfl, rfl, rfl, rfl, rfl⟩) k h0 h5 ⟨rfl, rfl⟩
theorem gCod_at {f v : Int → Int} {a b c : Int} (h : gCod f v a b) (h1 : a ≤ c) (h2 : c < b) : (0 ≤ c ∧ c < 840) ∧ (0 ≤ f c ∧ f c ≤ 5) ∧ (f c = 1 → 0 ≤ v c ∧ v c ≤ 8) ∧ (2 ≤ f c → 2 ≤ gDep f a (c - a).toNat) ∧ (0 ≤ gDep f a (c - a).toNat ∧ gDep f a (c - a).toNat < 400) ∧ (f c < 2 → gDep f a (c + 1 - a).toNat = gDep f a (c - a).toNat + 1) ∧ (2 ≤ f c → gDep f a (c + 1 - a).toNat = gDep f a (c - a).toNat - 1) := by
  obtain ⟨g0, g1, g2, g3⟩ := h
  have e : a + ((c - a).toNat : Int) = c := by omega
  have q := g3 (c - a).toNat (by omega)
  rw [e] at q
  have e2 : (c + 1 - a).toNat = (c - a).toNat + 1 := by omega
  have e3 : gDep f a (c + 1 - a).toNat = gDep f a (c - a).toNat + (if f c < 2 then 1 else -1) := by
    rw [e2]
    show gDep f a _ + (if f (a + ((c - a).toNat : Int)) < 2 then 1 else -1) = _
    rw [e]
  refine ⟨⟨by omega, by omega⟩, ⟨q.1, q.2.1⟩, q.2.2.1, q.2.2.2.1, q.2.2.2.2, fun z => ?_, fun z => ?_⟩
  · rw [e3, if_pos z]
  · rw [e3, if_neg (by omega)]; omega
/-- a bit more at one place -/
theorem zbt_upd {B B' : Int → Int} {i x u v w c : Int32} (hB : ∀ j : Int, 0 ≤ j → B' j = if j = i.toInt then w.toInt else B j) (hx : x.toInt = B i.toInt) (hv : v = u <<< (c &&& 31)) (hw : w = x ||| v) (hu : u.toInt = 1) (h0 : 0 ≤ c.toInt) (h1 : c.toInt < 32) : ∀ j o : Int, 0 ≤ j → 0 ≤ o → o < 32 → (zbt (B' j) o ↔ zbt (B j) o ∨ (j = i.toInt ∧ o = c.toInt)) := by
  intro j o hj h2 h3
  rw [hB j hj]
  by_cases e : j = i.toInt
  · rw [if_pos e, zbt_or hu hv hw h0 h1 o h2 h3, hx, e]
    constructor
    · rintro (q | q)
      · exact Or.inl q
      · exact Or.inr ⟨rfl, q⟩
    · rintro (q | q)
      · exact Or.inl q
      · exact Or.inr q.2
  · rw [if_neg e]
    constructor
    · exact Or.inl
    · rintro (q | q)
      · exact q
      · exact absurd q.1 e
/-- ways filled up to c; the way of c up to a -/
def gW1 (m : Int) (f b : Int → Int) (c : Int) : Prop := (∀ o : Int, 0 ≤ o → o < c → zbt (b o) o ∧ ∀ a : Int, 1 ≤ a → a < m → zbt (b a) o → zbt (b (f a)) o) ∧ ∀ a o : Int, 0 ≤ a → a < m → c ≤ o → o < 32 → ¬ zbt (b a) o
def gW2 (m : Int) (f b : Int → Int) (c t : Int) : Prop := (∀ o : Int, 0 ≤ o → o < c → zbt (b o) o ∧ ∀ a : Int, 1 ≤ a → a < m → zbt (b a) o → zbt (b (f a)) o) ∧ (∀ a o : Int, 0 ≤ a → a < m → c < o → o < 32 → ¬ zbt (b a) o) ∧ zbt (b c) c ∧ zbt (b t) c ∧ ∀ a : Int, 1 ≤ a → a < m → a ≠ t → zbt (b a) c → zbt (b (f a)) c
theorem gW1.z {m : Int} {f b : Int → Int} (h : ∀ j : Int, 0 ≤ j → j < m → b j = 0) : gW1 m f b 0 := ⟨fun o h0 h1 => absurd h1 (by omega), fun a o h0 h1 h2 h3 => by rw [h a h0 h1]; exact zbt_z o⟩
theorem gW1.go {m : Int} {f b b' : Int → Int} {c : Int} (hf : ∀ a : Int, 1 ≤ a → a < m → 0 ≤ f a ∧ f a < m) (h : gW1 m f b c) (h0 : 0 ≤ c) (hc : c < m) (hm : m ≤ 12) (e : ∀ j o : Int, 0 ≤ j → 0 ≤ o → o < 32 → (zbt (b' j) o ↔ zbt (b j) o ∨ (j = c ∧ o = c))) : gW2 m f b' c c := by
  obtain ⟨p, q⟩ := h
  refine ⟨fun o g0 g1 => ⟨(e o o g0 g0 (by omega)).mpr (Or.inl (p o g0 g1).1), fun a g2 g3 g4 => ?_⟩, fun a o g0 g1 g2 g3 g4 => ?_, (e c c h0 h0 (by omega)).mpr (Or.inr ⟨rfl, rfl⟩), (e c c h0 h0 (by omega)).mpr (Or.inr ⟨rfl, rfl⟩), fun a g0 g1 g2 g3 => ?_⟩
  · have g5 : zbt (b a) o := by
      rcases (e a o (by omega) g0 (by omega)).mp g4 with z | z
      · exact z
      · omega
    exact (e _ o (hf a g2 g3).1 g0 (by omega)).mpr (Or.inl ((p o g0 g1).2 a g2 g3 g5))
  · rcases (e a o g0 (by omega) g3).mp g4 with z | z
    · exact q a o g0 g1 (by omega) g3 z
    · omega
  · rcases (e a c (by omega) h0 (by omega)).mp g3 with z | z
    · exact absurd z (q a c (by omega) g1 (by omega) (by omega))
    · exact absurd z.1 g2
theorem gW2.go {m : Int} {f b b' : Int → Int} {c t t' : Int} (hf : ∀ a : Int, 1 ≤ a → a < m → 0 ≤ f a ∧ f a < m) (h : gW2 m f b c t) (h0 : 0 ≤ c) (hc : c < m) (hm : m ≤ 12) (h1 : 1 ≤ t) (h2 : t < m) (ht : t' = f t) (e : ∀ j o : Int, 0 ≤ j → 0 ≤ o → o < 32 → (zbt (b' j) o ↔ zbt (b j) o ∨ (j = t' ∧ o = c))) : gW2 m f b' c t' := by
  obtain ⟨p, q, r, s, u⟩ := h
  have k1 := (hf t h1 h2).1
  refine ⟨fun o g0 g1 => ⟨(e o o g0 g0 (by omega)).mpr (Or.inl (p o g0 g1).1), fun a g2 g3 g4 => ?_⟩, fun a o g0 g1 g2 g3 g4 => ?_, (e c c h0 h0 (by omega)).mpr (Or.inl r), (e t' c (by omega) h0 (by omega)).mpr (Or.inr ⟨rfl, rfl⟩), fun a g0 g1 g2 g3 => ?_⟩
  · have g5 : zbt (b a) o := by
      rcases (e a o (by omega) g0 (by omega)).mp g4 with z | z
      · exact z
      · omega
    exact (e _ o (hf a g2 g3).1 g0 (by omega)).mpr (Or.inl ((p o g0 g1).2 a g2 g3 g5))
  · rcases (e a o g0 (by omega) g3).mp g4 with z | z
    · exact q a o g0 g1 g2 g3 z
    · omega
  · by_cases w : a = t
    · rw [w, ← ht]
      exact (e t' c (by omega) h0 (by omega)).mpr (Or.inr ⟨rfl, rfl⟩)
    · rcases (e a c (by omega) h0 (by omega)).mp g3 with z | z
      · exact (e _ c (hf a g0 g1).1 h0 (by omega)).mpr (Or.inl (u a g0 g1 w z))
      · exact absurd z.1 g2
theorem gW2.done {m : Int} {f b : Int → Int} {c c' t : Int} (h : gW2 m f b c t) (hm : m ≤ 12) (ht : t ≤ 0) (hc : c' = c + 1) : gW1 m f b c' := by
  subst hc
  obtain ⟨p, q, r, s, u⟩ := h
  refine ⟨fun o g0 g1 => ?_, fun a o g0 g1 g2 g3 => q a o g0 g1 (by omega) g3⟩
  by_cases w : o = c
  · subst w
    exact ⟨r, fun a g2 g3 g4 => u a g2 g3 (by omega) g4⟩
  · exact p o g0 (by omega)
theorem gR_row {κ : Int} {L : List Nat} {kd : Nat → Nat} {σ σ2 : zS} {a0 : Nat} {i x : Int} (hI : zJ κ L kd σ2) (ha : zT L kd a0 11) (g : zSame a0 [] [149] L kd σ σ2) (hw : ∀ j : Int, 0 ≤ j → zp a0 σ2 49 j = if j = i then x else zp a0 σ 49 j) (hi : 12 ≤ i ∧ i ≠ 49) (h : gR a0 σ) : gR a0 σ2 := by
  have hm := zM_in hI ha
  have e := zM_same hI ha g (by decide)
  unfold gR
  rw [e]
  rw [e] at hm
  refine gRow.congr hm.2 h (fun j h0 h1 => ?_)
  rw [hw j (by omega), if_neg (by omega)]
/-- told as a tree: each runs into one of those ahead -/
def gTo (a0 : Nat) (σ : zS) (s m : Int) : Prop := ∀ c : Int, 1 ≤ c → c < m → 0 ≤ zp a0 σ 22 (12 * s + c) ∧ zp a0 σ 22 (12 * s + c) < c
def gT (a0 : Nat) (σ : zS) : Prop := gTo a0 σ (σ.1 a0 18).toInt (zM a0 σ)
theorem gT.same {κ : Int} {L : List Nat} {kd : Nat → Nat} {σ σ2 : zS} {a0 : Nat} {Wf Wa : List Nat} (hI : zJ κ L kd σ2) (ha : zT L kd a0 11) (g : zSame a0 Wf Wa L kd σ σ2) (hd : (!Wf.contains 18 && (!Wa.contains 121 && !Wa.contains 122)) = true) (h : gT a0 σ) : gT a0 σ2 := by
  simp only [Bool.and_eq_true, Bool.not_eq_true'] at hd
  obtain ⟨h1, h2, h3⟩ := hd
  unfold gT gTo
  rw [zM_same hI ha g (by rw [h1, h2]; rfl), zp_same hI ha g 22 rfl (by decide) h3, zfl_same g 18 h1]
  exact h
theorem gRow.told {m : Int} {f g : Int → Int} (hm : m ≤ 12) (h : ∀ c : Int, 1 ≤ c → c < m → 0 ≤ g c ∧ g c < c) (e : ∀ c : Int, 0 ≤ c → c < m → f c = g c) (e9 : f 49 = 0) : gRow m f := by
  refine ⟨⟨fun c => c.toNat, fun c h1 h2 => ?_⟩, by omega, by omega⟩
  have q := h c h1 h2
  rw [e c (by omega) h2]
  exact ⟨q.1, by omega, fun _ => by show (g c).toNat < c.toNat; omega⟩
theorem gR_law {a0 : Nat} {σ : zS} (h : gR a0 σ) : 0 ≤ zp a0 σ 49 49 ∧ zp a0 σ 49 49 ≤ 2 := by
  obtain ⟨-, h1, h2⟩ := h
  exact ⟨h1, h2⟩
end
-- 22.model1
section
set_option maxHeartbeats 4000000 in
set_option maxRecDepth 100000 in
theorem t_X11_in (l : Launch) (d : zD2) (L : List Nat) (kd : Nat → Nat) (σ : zS) (p1 : Int32) (p2 : Int32) (p3 : Int32) : zMi l yX11_in (Cond.code yX11_in cX11_in 3 (some .boolean) :: zWL) 0 [.int p1, .int p2, .int p3] d L kd σ (fun v σ2 => (v = F_X11_in p1 p2 p3 ∧ (((v.toInt = 1 ∧ p2.toInt ≤ p1.toInt ∧ p1.toInt ≤ p3.toInt) ∨ (v.toInt = 0 ∧ (p1.toInt < p2.toInt ∨ p3.toInt < p1.toInt))))) ∧ σ = σ2) := by
  refine zMi.of (own := RX11) (by decide +kernel) rfl rfl (Nat.le_of_ble_eq_true rfl) ?_
  intro p e s m args below meth c A Q X ret
  refine zg_lv (lv2 := [(0, .int p1), (1, .int p2), (2, .int p3)]) rfl ?_
  obtain ⟨R, hR⟩ : ∃ R, R = F_X11_in p1 p2 p3 := ⟨_, rfl⟩
  have E := hR
  unfold F_X11_in at E
  refine zg_iload_n X 0 rfl dX11_in_0 ?_
  refine zg_iload_n X 1 rfl dX11_in_1 ?_
  have zp1_z1 := zb_rng p1
  have zp2_z2 := zb_rng p2
  refine zg_icmp_lt X 14 dX11_in_2 (by decide) (fun c3 => ?_) (fun c3 => ?_)
  · skip
    replace E := zIf_t c3 E
    refine zg_iconst X 0 dX11_in_14 (by decide) (fun v4 _ hv4 => ?_)
    replace E := zLet_s (zcst hv4 (by decide)) E
    exact ret _ _ _ _ dX11_in_15 (zb_bool ⟨by omega, by omega⟩) ⟨⟨E.symm.trans hR, by omega⟩, rfl⟩
  · skip
    replace E := zIf_f (Int.not_lt.mpr c3) E
    refine zg_iload_n X 0 rfl dX11_in_5 ?_
    refine zg_iload_n X 2 rfl dX11_in_6 ?_
    have zp1_z5 := zb_rng p1
    have zp3_z6 := zb_rng p3
    refine zg_icmp_gt X 14 dX11_in_7 (by decide) (fun c7 => ?_) (fun c7 => ?_)
    · skip
      replace E := zIf_t c7 E
      refine zg_iconst X 0 dX11_in_14 (by decide) (fun v8 _ hv8 => ?_)
      replace E := zLet_s (zcst hv8 (by decide)) E
      exact ret _ _ _ _ dX11_in_15 (zb_bool ⟨by omega, by omega⟩) ⟨⟨E.symm.trans hR, by omega⟩, rfl⟩
    · skip
      replace E := zIf_f (Int.not_lt.mpr c7) E
      refine zg_iconst X 1 dX11_in_10 (by decide) (fun v9 _ hv9 => ?_)
      replace E := zLet_s (zcst hv9 (by decide)) E
      refine zg_goto X 15 dX11_in_11 (by decide) ?_
      exact ret _ _ _ _ dX11_in_15 (zb_bool ⟨by omega, by omega⟩) ⟨⟨E.symm.trans hR, by omega⟩, rfl⟩
set_option maxHeartbeats 4000000 in
set_option maxRecDepth 100000 in
theorem t_X11_within (l : Launch) (d : zD2) (L : List Nat) (kd : Nat → Nat) (σ : zS) (p1 : Int32) (p2 : Int32) (p3 : Int32) : zMi l yX11_within (Cond.code yX11_within cX11_within 3 (some .int) :: zWL) 0 [.int p1, .int p2, .int p3] d L kd σ (fun v σ2 => (v = F_X11_within p1 p2 p3 ∧ (((p2.toInt ≤ p3.toInt → p2.toInt ≤ v.toInt ∧ v.toInt ≤ p3.toInt)))) ∧ σ = σ2) := by
  refine zMi.of (own := RX11) (by decide +kernel) rfl rfl (Nat.le_of_ble_eq_true rfl) ?_
  intro p e s m args below meth c A Q X ret
  refine zg_lv (lv2 := [(0, .int p1), (1, .int p2), (2, .int p3)]) rfl ?_
  obtain ⟨R, hR⟩ : ∃ R, R = F_X11_within p1 p2 p3 := ⟨_, rfl⟩
  have E := hR
  unfold F_X11_within at E
  refine zg_iload_n X 0 rfl dX11_within_0 ?_
  refine zg_iload_n X 1 rfl dX11_within_1 ?_
  have zp1_z1 := zb_rng p1
  have zp2_z2 := zb_rng p2
  refine zg_icmp_ge X 9 dX11_within_2 (by decide) (fun c3 => ?_) (fun c3 => ?_)
  · skip
    replace E := zIf_f (Int.not_lt.mpr c3) E
    refine zg_iload_n X 0 rfl dX11_within_9 ?_
    refine zg_iload_n X 2 rfl dX11_within_10 ?_
    have zp1_z4 := zb_rng p1
    have zp3_z5 := zb_rng p3
    refine zg_icmp_le X 18 dX11_within_11 (by decide) (fun c6 => ?_) (fun c6 => ?_)
    · skip
      replace E := zIf_f (Int.not_lt.mpr c6) E
      refine zg_iload_n X 0 rfl dX11_within_18 ?_
      exact ret _ _ _ _ dX11_within_19 rfl ⟨⟨E.symm.trans hR, by omega⟩, rfl⟩
    · skip
      replace E := zIf_t c6 E
      refine zg_iload_n X 2 rfl dX11_within_14 ?_
      refine zg_goto X 19 dX11_within_15 (by decide) ?_
      exact ret _ _ _ _ dX11_within_19 rfl ⟨⟨E.symm.trans hR, by omega⟩, rfl⟩
  · skip
    replace E := zIf_t c3 E
    refine zg_iload_n X 1 rfl dX11_within_5 ?_
    refine zg_goto X 19 dX11_within_6 (by decide) ?_
    exact ret _ _ _ _ dX11_within_19 rfl ⟨⟨E.symm.trans hR, by omega⟩, rfl⟩
set_option maxHeartbeats 4000000 in
set_option maxRecDepth 100000 in
theorem t_X11_bits (l : Launch) (d : zD2) (L : List Nat) (kd : Nat → Nat) (σ : zS) (p1 : Int32) : zMi l yX11_bits (Cond.code yX11_bits cX11_bits 3 (some .int) :: zWL) 0 [.int p1] d L kd σ (fun v σ2 => (v = F_X11_bits p1 ∧ (True)) ∧ σ = σ2) := by
  refine zMi.of (own := RX11) (by decide +kernel) rfl rfl (Nat.le_of_ble_eq_true rfl) ?_
  intro p e s m args below meth c A Q X ret
  refine zg_lv (lv2 := [(0, .int p1)]) rfl ?_
  obtain ⟨R, hR⟩ : ∃ R, R = F_X11_bits p1 := ⟨_, rfl⟩
  have E := hR
  unfold F_X11_bits at E
  refine zg_iconst X 0 dX11_bits_0 (by decide) (fun v1 _ hv1 => ?_)
  replace E := zLet_s (zcst hv1 (by decide)) E
  refine zg_istore_n X [(1, .int v1), (0, .int p1)] dX11_bits_1 (by decide) rfl ?_
  refine zg_iconst X 0 dX11_bits_2 (by decide) (fun v2 _ hv2 => ?_)
  replace E := zLet_s (zcst hv2 (by decide)) E
  refine zg_istore_n X [(2, .int v2), (1, .int v1), (0, .int p1)] dX11_bits_3 (by decide) rfl ?_
  have Lp5 : ∀ (nLp5 : Nat) (x3 : Int32) (x4 : Int32), R = F_X11_bits_4 p1  nLp5 x3 x4 → 0 ≤ x3.toInt ∧ x3.toInt ≤ 12 → (12) - x3.toInt + 1 < (nLp5 : Int) → zG d L kd A 3 p l e (k2_rm 0 (100 * 0)) s m args below meth c Q σ 4 [(2, .int x3), (1, .int x4), (0, .int p1)] [] := by
    intro nLp5
    induction nLp5 with
    | zero => intro x3 x4  E  hxLp5 hm ; exact absurd hm (by omega)
    | succ nLp5 ihLp5 =>
      intro x3 x4  E  hxLp5 hmLp5 
      rw [F_X11_bits_4] at E
      refine zg_iload_n X 0 rfl dX11_bits_4 ?_
      refine zg_bipush X 12 dX11_bits_5 (by decide) (fun v6 _ hv6 => ?_)
      replace E := zLet_s (zcst hv6 (by decide)) E
      refine zg_icmp_ge X 24 dX11_bits_7 (by decide) (fun c7 => ?_) (fun c7 => ?_)
      · skip
        replace E := zIf_f (Int.not_lt.mpr c7) E
        refine zg_iload_n X 1 rfl dX11_bits_24 ?_
        exact ret _ _ _ _ dX11_bits_25 rfl ⟨⟨E.symm.trans hR, trivial⟩, rfl⟩
      · skip
        replace E := zIf_t c7 E
        refine zg_iload_n X 1 rfl dX11_bits_10 ?_
        refine zg_iload_n X 2 rfl dX11_bits_11 ?_
        refine zg_iload_n X 0 rfl dX11_bits_12 ?_
        refine zg_ishrW X dX11_bits_13 (fun v8 ev8 => ?_)
        replace E := zLet_s ev8 E
        refine zg_iconst X 1 dX11_bits_14 (by decide) (fun v9 _ hv9 => ?_)
        replace E := zLet_s (zcst hv9 (by decide)) E
        refine zg_iandW X dX11_bits_15 (fun v10 ev10 => ?_)
        replace E := zLet_s ev10 E
        refine zg_iaddW X dX11_bits_16 (fun v11 ev11 => ?_)
        replace E := zLet_s ev11 E
        refine zg_istore_n X [(1, .int v11), (2, .int x3), (0, .int p1)] dX11_bits_17 (by decide) rfl ?_
        refine zg_iinc X 1 (fun v12 => [(2, .int v12), (1, .int v11), (0, .int p1)]) 1 dX11_bits_18 rfl (by decide) (by decide) (by omega) (by omega) (fun _ => rfl) (fun v12 ev12 hv12 => ?_)
        replace E := zLet_s (zinc ev12 (by decide)) E
        refine zg_goto X 4 dX11_bits_21 (by decide) ?_
        refine zg_sub [0, 1, 2] rfl ?_
        exact ihLp5 v12 v11   E  (by omega) (by omega) 
  refine zg_sub [0, 1, 2] rfl ?_
  exact Lp5 10000 v2 v1   E  (by omega) (by omega) 
set_option maxHeartbeats 4000000 in
set_option maxRecDepth 100000 in
theorem t_X11_isDigit (l : Launch) (d : zD2) (L : List Nat) (kd : Nat → Nat) (σ : zS) (p1 : Int32) : zMi l yX11_isDigit (Cond.code yX11_isDigit cX11_isDigit 1 (some .boolean) :: zWL) 0 [.int p1] d L kd σ (fun v σ2 => (v = F_X11_isDigit p1 ∧ (((v.toInt = 1 ∧ 48 ≤ p1.toInt) ∨ v.toInt = 0))) ∧ σ = σ2) := by
  refine zMi.of (own := RX11) (by decide +kernel) rfl rfl (Nat.le_of_ble_eq_true rfl) ?_
  intro p e s m args below meth c A Q X ret
  refine zg_lv (lv2 := [(0, .int p1)]) rfl ?_
  obtain ⟨R, hR⟩ : ∃ R, R = F_X11_isDigit p1 := ⟨_, rfl⟩
  have E := hR
  unfold F_X11_isDigit at E
  refine zg_iload_n X 0 rfl dX11_isDigit_0 ?_
  refine zg_bipush X 48 dX11_isDigit_1 (by decide) (fun v1 _ hv1 => ?_)
  replace E := zLet_s (zcst hv1 (by decide)) E
  have zp1_z2 := zb_rng p1
  refine zg_icmp_lt X 16 dX11_isDigit_3 (by decide) (fun c3 => ?_) (fun c3 => ?_)
  · skip
    replace E := zIf_t c3 E
    refine zg_iconst X 0 dX11_isDigit_16 (by decide) (fun v4 _ hv4 => ?_)
    replace E := zLet_s (zcst hv4 (by decide)) E
    exact ret _ _ _ _ dX11_isDigit_17 (zb_bool ⟨by omega, by omega⟩) ⟨⟨E.symm.trans hR, by omega⟩, rfl⟩
  · skip
    replace E := zIf_f (Int.not_lt.mpr c3) E
    refine zg_iload_n X 0 rfl dX11_isDigit_6 ?_
    refine zg_bipush X 57 dX11_isDigit_7 (by decide) (fun v5 _ hv5 => ?_)
    replace E := zLet_s (zcst hv5 (by decide)) E
    have zp1_z6 := zb_rng p1
    refine zg_icmp_gt X 16 dX11_isDigit_9 (by decide) (fun c7 => ?_) (fun c7 => ?_)
    · skip
      replace E := zIf_t c7 E
      refine zg_iconst X 0 dX11_isDigit_16 (by decide) (fun v8 _ hv8 => ?_)
      replace E := zLet_s (zcst hv8 (by decide)) E
      exact ret _ _ _ _ dX11_isDigit_17 (zb_bool ⟨by omega, by omega⟩) ⟨⟨E.symm.trans hR, by omega⟩, rfl⟩
    · skip
      replace E := zIf_f (Int.not_lt.mpr c7) E
      refine zg_iconst X 1 dX11_isDigit_12 (by decide) (fun v9 _ hv9 => ?_)
      replace E := zLet_s (zcst hv9 (by decide)) E
      refine zg_goto X 17 dX11_isDigit_13 (by decide) ?_
      exact ret _ _ _ _ dX11_isDigit_17 (zb_bool ⟨by omega, by omega⟩) ⟨⟨E.symm.trans hR, by omega⟩, rfl⟩
set_option maxHeartbeats 4000000 in
set_option maxRecDepth 100000 in
theorem t_X11_isLetter (l : Launch) (d : zD2) (L : List Nat) (kd : Nat → Nat) (σ : zS) (p1 : Int32) : zMi l yX11_isLetter (Cond.code yX11_isLetter cX11_isLetter 1 (some .boolean) :: zWL) 0 [.int p1] d L kd σ (fun v σ2 => (v = F_X11_isLetter p1 ∧ (((v.toInt = 1 ∧ 97 ≤ p1.toInt) ∨ v.toInt = 0))) ∧ σ = σ2) := by
  refine zMi.of (own := RX11) (by decide +kernel) rfl rfl (Nat.le_of_ble_eq_true rfl) ?_
  intro p e s m args below meth c A Q X ret
  refine zg_lv (lv2 := [(0, .int p1)]) rfl ?_
  obtain ⟨R, hR⟩ : ∃ R, R = F_X11_isLetter p1 := ⟨_, rfl⟩
  have E := hR
  unfold F_X11_isLetter at E
  refine zg_iload_n X 0 rfl dX11_isLetter_0 ?_
  refine zg_bipush X 97 dX11_isLetter_1 (by decide) (fun v1 _ hv1 => ?_)
  replace E := zLet_s (zcst hv1 (by decide)) E
  have zp1_z2 := zb_rng p1
  refine zg_icmp_lt X 16 dX11_isLetter_3 (by decide) (fun c3 => ?_) (fun c3 => ?_)
  · skip
    replace E := zIf_t c3 E
    refine zg_iconst X 0 dX11_isLetter_16 (by decide) (fun v4 _ hv4 => ?_)
    replace E := zLet_s (zcst hv4 (by decide)) E
    exact ret _ _ _ _ dX11_isLetter_17 (zb_bool ⟨by omega, by omega⟩) ⟨⟨E.symm.trans hR, by omega⟩, rfl⟩
  · skip
    replace E := zIf_f (Int.not_lt.mpr c3) E
    refine zg_iload_n X 0 rfl dX11_isLetter_6 ?_
    refine zg_bipush X 122 dX11_isLetter_7 (by decide) (fun v5 _ hv5 => ?_)
    replace E := zLet_s (zcst hv5 (by decide)) E
    have zp1_z6 := zb_rng p1
    refine zg_icmp_gt X 16 dX11_isLetter_9 (by decide) (fun c7 => ?_) (fun c7 => ?_)
    · skip
      replace E := zIf_t c7 E
      refine zg_iconst X 0 dX11_isLetter_16 (by decide) (fun v8 _ hv8 => ?_)
      replace E := zLet_s (zcst hv8 (by decide)) E
      exact ret _ _ _ _ dX11_isLetter_17 (zb_bool ⟨by omega, by omega⟩) ⟨⟨E.symm.trans hR, by omega⟩, rfl⟩
    · skip
      replace E := zIf_f (Int.not_lt.mpr c7) E
      refine zg_iconst X 1 dX11_isLetter_12 (by decide) (fun v9 _ hv9 => ?_)
      replace E := zLet_s (zcst hv9 (by decide)) E
      refine zg_goto X 17 dX11_isLetter_13 (by decide) ?_
      exact ret _ _ _ _ dX11_isLetter_17 (zb_bool ⟨by omega, by omega⟩) ⟨⟨E.symm.trans hR, by omega⟩, rfl⟩
set_option maxHeartbeats 4000000 in
set_option maxRecDepth 100000 in
theorem t_X11_appends (l : Launch) (d : zD2) (L : List Nat) (kd : Nat → Nat) (σ : zS) (p1 : Int64) (p2 : Int32) : zMl l yX11_appends (Cond.code yX11_appends cX11_appends 3 (some .long) :: zWL) 0 [.long p1, .int p2] d L kd σ (fun v σ2 => (v = F_X11_appends p1 p2 ∧ (True)) ∧ σ = σ2) := by
  refine zMl.of (own := RX11) (by decide +kernel) rfl rfl (Nat.le_of_ble_eq_true rfl) ?_
  intro p e s m args below meth c A Q X ret
  refine zg_lv (lv2 := [(0, .long p1), (2, .int p2)]) rfl ?_
  obtain ⟨R, hR⟩ : ∃ R, R = F_X11_appends p1 p2 := ⟨_, rfl⟩
  have E := hR
  unfold F_X11_appends at E
  refine zg_iload_n X 1 rfl dX11_appends_0 ?_
  refine zg_if_ne X 8 dX11_appends_1 (by decide) (fun c1 => ?_) (fun c1 => ?_)
  · skip
    replace E := zIf_f c1 E
    refine zg_ldc2 X wk_X11_178 dX11_appends_8 (fun v2 ev2 => ?_)
    replace E := zLet_s ev2 E
    refine zg_lload_n X 0 rfl dX11_appends_11 ?_
    refine zg_lmul X dX11_appends_12 (fun v3 ev3 => ?_)
    replace E := zLet_s ev3 E
    refine zg_iload_n X 1 rfl dX11_appends_13 ?_
    refine zg_bipush X 97 dX11_appends_14 (by decide) (fun v4 _ hv4 => ?_)
    replace E := zLet_s (zcst hv4 (by decide)) E
    refine zg_isubW X dX11_appends_16 (fun v5 ev5 => ?_)
    replace E := zLet_s ev5 E
    refine zg_iconst X 1 dX11_appends_17 (by decide) (fun v6 _ hv6 => ?_)
    replace E := zLet_s (zcst hv6 (by decide)) E
    refine zg_iaddW X dX11_appends_18 (fun v7 ev7 => ?_)
    replace E := zLet_s ev7 E
    refine zg_i2l X dX11_appends_19 (fun v8 ev8 => ?_)
    replace E := zLet_s ev8 E
    refine zg_ladd X dX11_appends_20 (fun v9 ev9 => ?_)
    replace E := zLet_s ev9 E
    exact ret _ _ _ _ dX11_appends_21 ⟨⟨E.symm.trans hR, trivial⟩, rfl⟩
  · skip
    replace E := zIf_t c1 E
    refine zg_lload_n X 0 rfl dX11_appends_4 ?_
    refine zg_goto X 21 dX11_appends_5 (by decide) ?_
    exact ret _ _ _ _ dX11_appends_21 ⟨⟨E.symm.trans hR, trivial⟩, rfl⟩
set_option maxHeartbeats 4000000 in
set_option maxRecDepth 100000 in
theorem t_X11_word (l : Launch) (d : zD2) (L : List Nat) (kd : Nat → Nat) (σ : zS) (p1 : Int32) (p2 : Int32) (p3 : Int32) (p4 : Int32) (p5 : Int32) (p6 : Int32) (p7 : Int32) : zMl l yX11_word (Cond.code yX11_word cX11_word 7 (some .long) :: zWL) 1 [.int p1, .int p2, .int p3, .int p4, .int p5, .int p6, .int p7] d L kd σ (fun v σ2 => (v = F_X11_word p1 p2 p3 p4 p5 p6 p7 ∧ (True)) ∧ σ = σ2) := by
  refine zMl.of (own := RX11) (by decide +kernel) rfl rfl (Nat.le_of_ble_eq_true rfl) ?_
  intro p e s m args below meth c A Q X ret
  refine zg_lv (lv2 := [(0, .int p1), (1, .int p2), (2, .int p3), (3, .int p4), (4, .int p5), (5, .int p6), (6, .int p7)]) rfl ?_
  obtain ⟨R, hR⟩ : ∃ R, R = F_X11_word p1 p2 p3 p4 p5 p6 p7 := ⟨_, rfl⟩
  have E := hR
  unfold F_X11_word at E
  refine zg_lconst X dX11_word_0 (fun v1 ev1 => ?_)
  replace E := zLet_s ev1 E
  refine zg_iload_n X 0 rfl dX11_word_1 ?_
  refine zg_cSl (As := [.long v1, .int p1]) (st := []) X (t_X11_appends l d L kd _ v1 p1 ) mk_X11_180 mc_X11_appends mz_X11 ms_X11_appends (na := 2) ⟨md_X11.1, md_X11.2, by decide +kernel⟩ rfl ⟨by decide, by decide⟩ (Nat.le_of_ble_eq_true rfl) dX11_word_2 (fun v2 σ2 hq => ?_)
  obtain ⟨⟨hF, hv2⟩, rfl⟩ := hq
  replace E := zLet_s hF E
  refine zg_iload_n X 1 rfl dX11_word_5 ?_
  refine zg_cSl (As := [.long v2, .int p2]) (st := []) X (t_X11_appends l d L kd _ v2 p2 ) mk_X11_180 mc_X11_appends mz_X11 ms_X11_appends (na := 2) ⟨md_X11.1, md_X11.2, by decide +kernel⟩ rfl ⟨by decide, by decide⟩ (Nat.le_of_ble_eq_true rfl) dX11_word_6 (fun v3 σ2 hq => ?_)
  obtain ⟨⟨hF, hv3⟩, rfl⟩ := hq
  replace E := zLet_s hF E
  refine zg_iload_n X 2 rfl dX11_word_9 ?_
  refine zg_cSl (As := [.long v3, .int p3]) (st := []) X (t_X11_appends l d L kd _ v3 p3 ) mk_X11_180 mc_X11_appends mz_X11 ms_X11_appends (na := 2) ⟨md_X11.1, md_X11.2, by decide +kernel⟩ rfl ⟨by decide, by decide⟩ (Nat.le_of_ble_eq_true rfl) dX11_word_10 (fun v4 σ2 hq => ?_)
  obtain ⟨⟨hF, hv4⟩, rfl⟩ := hq
  replace E := zLet_s hF E
  refine zg_iload_n X 3 rfl dX11_word_13 ?_
  refine zg_cSl (As := [.long v4, .int p4]) (st := []) X (t_X11_appends l d L kd _ v4 p4 ) mk_X11_180 mc_X11_appends mz_X11 ms_X11_appends (na := 2) ⟨md_X11.1, md_X11.2, by decide +kernel⟩ rfl ⟨by decide, by decide⟩ (Nat.le_of_ble_eq_true rfl) dX11_word_14 (fun v5 σ2 hq => ?_)
  obtain ⟨⟨hF, hv5⟩, rfl⟩ := hq
  replace E := zLet_s hF E
  refine zg_iload X 4 rfl dX11_word_17 ?_
  refine zg_cSl (As := [.long v5, .int p5]) (st := []) X (t_X11_appends l d L kd _ v5 p5 ) mk_X11_180 mc_X11_appends mz_X11 ms_X11_appends (na := 2) ⟨md_X11.1, md_X11.2, by decide +kernel⟩ rfl ⟨by decide, by decide⟩ (Nat.le_of_ble_eq_true rfl) dX11_word_19 (fun v6 σ2 hq => ?_)
  obtain ⟨⟨hF, hv6⟩, rfl⟩ := hq
  replace E := zLet_s hF E
  refine zg_iload X 5 rfl dX11_word_22 ?_
  refine zg_cSl (As := [.long v6, .int p6]) (st := []) X (t_X11_appends l d L kd _ v6 p6 ) mk_X11_180 mc_X11_appends mz_X11 ms_X11_appends (na := 2) ⟨md_X11.1, md_X11.2, by decide +kernel⟩ rfl ⟨by decide, by decide⟩ (Nat.le_of_ble_eq_true rfl) dX11_word_24 (fun v7 σ2 hq => ?_)
  obtain ⟨⟨hF, hv7⟩, rfl⟩ := hq
  replace E := zLet_s hF E
  refine zg_iload X 6 rfl dX11_word_27 ?_
  refine zg_cSl (As := [.long v7, .int p7]) (st := []) X (t_X11_appends l d L kd _ v7 p7 ) mk_X11_180 mc_X11_appends mz_X11 ms_X11_appends (na := 2) ⟨md_X11.1, md_X11.2, by decide +kernel⟩ rfl ⟨by decide, by decide⟩ (Nat.le_of_ble_eq_true rfl) dX11_word_29 (fun v8 σ2 hq => ?_)
  obtain ⟨⟨hF, hv8⟩, rfl⟩ := hq
  replace E := zLet_s hF E
  exact ret _ _ _ _ dX11_word_32 ⟨⟨E.symm.trans hR, trivial⟩, rfl⟩
set_option maxHeartbeats 4000000 in
set_option maxRecDepth 100000 in
theorem t_X11_isLaw (l : Launch) (d : zD2) (L : List Nat) (kd : Nat → Nat) (σ : zS) (p1 : Int32) : zMi l yX11_isLaw (Cond.code yX11_isLaw cX11_isLaw 1 (some .boolean) :: zWL) 1 [.int p1] d L kd σ (fun v σ2 => (v = F_X11_isLaw p1 ∧ (((v.toInt = 1 ∧ 0 ≤ p1.toInt ∧ p1.toInt ≤ 2) ∨ v.toInt = 0))) ∧ σ = σ2) := by
  refine zMi.of (own := RX11) (by decide +kernel) rfl rfl (Nat.le_of_ble_eq_true rfl) ?_
  intro p e s m args below meth c A Q X ret
  refine zg_lv (lv2 := [(0, .int p1)]) rfl ?_
  obtain ⟨R, hR⟩ : ∃ R, R = F_X11_isLaw p1 := ⟨_, rfl⟩
  have E := hR
  unfold F_X11_isLaw at E
  refine zg_iload_n X 0 rfl dX11_isLaw_0 ?_
  refine zg_iconst X 0 dX11_isLaw_1 (by decide) (fun v1 _ hv1 => ?_)
  replace E := zLet_s (zcst hv1 (by decide)) E
  refine zg_iconst X 2 dX11_isLaw_2 (by decide) (fun v2 _ hv2 => ?_)
  replace E := zLet_s (zcst hv2 (by decide)) E
  refine zg_cSi (As := [.int p1, .int v1, .int v2]) (st := []) X (t_X11_in l d L kd _ p1 v1 v2 ) mk_X11_316 mc_X11_in mz_X11 ms_X11_in (na := 3) ⟨md_X11.1, md_X11.2, by decide +kernel⟩ rfl ⟨by decide, by decide⟩ (Nat.le_of_ble_eq_true rfl) dX11_isLaw_3 (fun v3 σ2 hq => ?_)
  obtain ⟨⟨hF, hv3⟩, rfl⟩ := hq
  replace E := zLet_s hF E
  exact ret _ _ _ _ dX11_isLaw_6 (zb_bool ⟨by omega, by omega⟩) ⟨⟨E.symm.trans hR, by omega⟩, rfl⟩
set_option maxHeartbeats 4000000 in
set_option maxRecDepth 100000 in
theorem t_X11_isLong (l : Launch) (d : zD2) (L : List Nat) (kd : Nat → Nat) (σ : zS) (p1 : Int32) : zMi l yX11_isLong (Cond.code yX11_isLong cX11_isLong 1 (some .boolean) :: zWL) 1 [.int p1] d L kd σ (fun v σ2 => (v = F_X11_isLong p1 ∧ (((v.toInt = 1 ∧ 0 ≤ p1.toInt ∧ p1.toInt ≤ 60) ∨ v.toInt = 0))) ∧ σ = σ2) := by
  refine zMi.of (own := RX11) (by decide +kernel) rfl rfl (Nat.le_of_ble_eq_true rfl) ?_
  intro p e s m args below meth c A Q X ret
  refine zg_lv (lv2 := [(0, .int p1)]) rfl ?_
  obtain ⟨R, hR⟩ : ∃ R, R = F_X11_isLong p1 := ⟨_, rfl⟩
  have E := hR
  unfold F_X11_isLong at E
  refine zg_iload_n X 0 rfl dX11_isLong_0 ?_
  refine zg_iconst X 0 dX11_isLong_1 (by decide) (fun v1 _ hv1 => ?_)
  replace E := zLet_s (zcst hv1 (by decide)) E
  refine zg_bipush X 60 dX11_isLong_2 (by decide) (fun v2 _ hv2 => ?_)
  replace E := zLet_s (zcst hv2 (by decide)) E
  refine zg_cSi (As := [.int p1, .int v1, .int v2]) (st := []) X (t_X11_in l d L kd _ p1 v1 v2 ) mk_X11_316 mc_X11_in mz_X11 ms_X11_in (na := 3) ⟨md_X11.1, md_X11.2, by decide +kernel⟩ rfl ⟨by decide, by decide⟩ (Nat.le_of_ble_eq_true rfl) dX11_isLong_4 (fun v3 σ2 hq => ?_)
  obtain ⟨⟨hF, hv3⟩, rfl⟩ := hq
  replace E := zLet_s hF E
  exact ret _ _ _ _ dX11_isLong_7 (zb_bool ⟨by omega, by omega⟩) ⟨⟨E.symm.trans hR, by omega⟩, rfl⟩
set_option maxHeartbeats 4000000 in
set_option maxRecDepth 100000 in
theorem t_X11_isSome (l : Launch) (d : zD2) (L : List Nat) (kd : Nat → Nat) (σ : zS) (p1 : Int32) : zMi l yX11_isSome (Cond.code yX11_isSome cX11_isSome 1 (some .boolean) :: zWL) 1 [.int p1] d L kd σ (fun v σ2 => (v = F_X11_isSome p1 ∧ (((v.toInt = 1 ∧ 1 ≤ p1.toInt ∧ p1.toInt ≤ 24) ∨ v.toInt = 0))) ∧ σ = σ2) := by
  refine zMi.of (own := RX11) (by decide +kernel) rfl rfl (Nat.le_of_ble_eq_true rfl) ?_
  intro p e s m args below meth c A Q X ret
  refine zg_lv (lv2 := [(0, .int p1)]) rfl ?_
  obtain ⟨R, hR⟩ : ∃ R, R = F_X11_isSome p1 := ⟨_, rfl⟩
  have E := hR
  unfold F_X11_isSome at E
  refine zg_iload_n X 0 rfl dX11_isSome_0 ?_
  refine zg_iconst X 1 dX11_isSome_1 (by decide) (fun v1 _ hv1 => ?_)
  replace E := zLet_s (zcst hv1 (by decide)) E
  refine zg_bipush X 24 dX11_isSome_2 (by decide) (fun v2 _ hv2 => ?_)
  replace E := zLet_s (zcst hv2 (by decide)) E
  refine zg_cSi (As := [.int p1, .int v1, .int v2]) (st := []) X (t_X11_in l d L kd _ p1 v1 v2 ) mk_X11_316 mc_X11_in mz_X11 ms_X11_in (na := 3) ⟨md_X11.1, md_X11.2, by decide +kernel⟩ rfl ⟨by decide, by decide⟩ (Nat.le_of_ble_eq_true rfl) dX11_isSome_4 (fun v3 σ2 hq => ?_)
  obtain ⟨⟨hF, hv3⟩, rfl⟩ := hq
  replace E := zLet_s hF E
  exact ret _ _ _ _ dX11_isSome_7 (zb_bool ⟨by omega, by omega⟩) ⟨⟨E.symm.trans hR, by omega⟩, rfl⟩
set_option maxHeartbeats 4000000 in
set_option maxRecDepth 100000 in
theorem t_X11_ithOf (l : Launch) (d : zD2) (L : List Nat) (kd : Nat → Nat) (σ : zS) (p1 : Int32) (p2 : Int32) : zMi l yX11_ithOf (Cond.code yX11_ithOf cX11_ithOf 4 (some .int) :: zWL) 0 [.int p1, .int p2] d L kd σ (fun v σ2 => (v = F_X11_ithOf p1 p2 ∧ (True)) ∧ σ = σ2) := by
  refine zMi.of (own := RX11) (by decide +kernel) rfl rfl (Nat.le_of_ble_eq_true rfl) ?_
  intro p e s m args below meth c A Q X ret
  refine zg_lv (lv2 := [(0, .int p1), (1, .int p2)]) rfl ?_
  obtain ⟨R, hR⟩ : ∃ R, R = F_X11_ithOf p1 p2 := ⟨_, rfl⟩
  have E := hR
  unfold F_X11_ithOf at E
  refine zg_iconst X 0 dX11_ithOf_0 (by decide) (fun v1 _ hv1 => ?_)
  replace E := zLet_s (zcst hv1 (by decide)) E
  refine zg_istore_n X [(2, .int v1), (0, .int p1), (1, .int p2)] dX11_ithOf_1 (by decide) rfl ?_
  refine zg_iconst X 0 dX11_ithOf_2 (by decide) (fun v2 _ hv2 => ?_)
  replace E := zLet_s (zcst hv2 (by decide)) E
  refine zg_istore_n X [(3, .int v2), (2, .int v1), (0, .int p1), (1, .int p2)] dX11_ithOf_3 (by decide) rfl ?_
  have Lp5 : ∀ (nLp5 : Nat) (x3 : Int32) (x4 : Int32), R = F_X11_ithOf_4 p1 p2  nLp5 x3 x4 → 0 ≤ x4.toInt ∧ x4.toInt ≤ 12 ∧ 0 ≤ x3.toInt ∧ x3.toInt ≤ 12 ∧ x4.toInt ≤ x3.toInt → (12) - x3.toInt + 1 < (nLp5 : Int) → zG d L kd A 4 p l e (k2_rm 0 (100 * 0)) s m args below meth c Q σ 4 [(3, .int x3), (2, .int x4), (0, .int p1), (1, .int p2)] [] := by
    intro nLp5
    induction nLp5 with
    | zero => intro x3 x4  E  hxLp5 hm ; exact absurd hm (by omega)
    | succ nLp5 ihLp5 =>
      intro x3 x4  E  hxLp5 hmLp5 
      rw [F_X11_ithOf_4] at E
      refine zg_iload_n X 0 rfl dX11_ithOf_4 ?_
      refine zg_bipush X 12 dX11_ithOf_5 (by decide) (fun v6 _ hv6 => ?_)
      replace E := zLet_s (zcst hv6 (by decide)) E
      refine zg_icmp_ge X 37 dX11_ithOf_7 (by decide) (fun c7 => ?_) (fun c7 => ?_)
      · skip
        replace E := zIf_f (Int.not_lt.mpr c7) E
        refine zg_iconst X (-1) dX11_ithOf_37 (by decide) (fun v8 _ hv8 => ?_)
        replace E := zLet_s (zcst hv8 (by decide)) E
        exact ret _ _ _ _ dX11_ithOf_38 rfl ⟨⟨E.symm.trans hR, trivial⟩, rfl⟩
      · skip
        replace E := zIf_t c7 E
        refine zg_iload_n X 2 rfl dX11_ithOf_10 ?_
        refine zg_iload_n X 0 rfl dX11_ithOf_11 ?_
        refine zg_ishrW X dX11_ithOf_12 (fun v9 ev9 => ?_)
        replace E := zLet_s ev9 E
        refine zg_iconst X 1 dX11_ithOf_13 (by decide) (fun v10 _ hv10 => ?_)
        replace E := zLet_s (zcst hv10 (by decide)) E
        refine zg_iandW X dX11_ithOf_14 (fun v11 ev11 => ?_)
        replace E := zLet_s ev11 E
        refine zg_if_ne X 21 dX11_ithOf_15 (by decide) (fun c12 => ?_) (fun c12 => ?_)
        · skip
          replace E := zIf_f c12 E
          refine zg_iload_n X 1 rfl dX11_ithOf_21 ?_
          refine zg_iload_n X 3 rfl dX11_ithOf_22 ?_
          refine zg_icmp_ne X 28 dX11_ithOf_23 (by decide) (fun c13 => ?_) (fun c13 => ?_)
          · skip
            replace E := zIf_f c13 E
            refine zg_iinc X 1 (fun v14 => [(2, .int v14), (3, .int x3), (0, .int p1), (1, .int p2)]) 1 dX11_ithOf_28 rfl (by decide) (by decide) (by omega) (by omega) (fun _ => rfl) (fun v14 ev14 hv14 => ?_)
            replace E := zLet_s (zinc ev14 (by decide)) E
            refine zg_iinc X 1 (fun v15 => [(3, .int v15), (2, .int v14), (0, .int p1), (1, .int p2)]) 1 dX11_ithOf_31 rfl (by decide) (by decide) (by omega) (by omega) (fun _ => rfl) (fun v15 ev15 hv15 => ?_)
            replace E := zLet_s (zinc ev15 (by decide)) E
            refine zg_goto X 4 dX11_ithOf_34 (by decide) ?_
            refine zg_sub [0, 1, 2, 3] rfl ?_
            exact ihLp5 v15 v14   E  (by omega) (by omega) 
          · skip
            replace E := zIf_t c13 E
            refine zg_iload_n X 0 rfl dX11_ithOf_26 ?_
            exact ret _ _ _ _ dX11_ithOf_27 rfl ⟨⟨E.symm.trans hR, trivial⟩, rfl⟩
        · skip
          replace E := zIf_t c12 E
          refine zg_goto X 31 dX11_ithOf_18 (by decide) ?_
          refine zg_iinc X 1 (fun v16 => [(3, .int v16), (2, .int x4), (0, .int p1), (1, .int p2)]) 0 dX11_ithOf_31 rfl (by decide) (by decide) (by omega) (by omega) (fun _ => rfl) (fun v16 ev16 hv16 => ?_)
          replace E := zLet_s (zinc ev16 (by decide)) E
          refine zg_goto X 4 dX11_ithOf_34 (by decide) ?_
          refine zg_sub [0, 1, 2, 3] rfl ?_
          exact ihLp5 v16 x4   E  (by omega) (by omega) 
  refine zg_sub [0, 1, 2, 3] rfl ?_
  exact Lp5 10000 v2 v1   E  (by omega) (by omega) 
set_option maxHeartbeats 4000000 in
set_option maxRecDepth 100000 in
theorem t_X11_isEarlier (l : Launch) (d : zD2) (L : List Nat) (kd : Nat → Nat) (σ : zS) (p1 : Int32) (p2 : Int32) : zMi l yX11_isEarlier (Cond.code yX11_isEarlier cX11_isEarlier 3 (some .boolean) :: zWL) 1 [.int p1, .int p2] d L kd σ (fun v σ2 => (v = F_X11_isEarlier p1 p2 ∧ ((0 ≤ v.toInt ∧ v.toInt ≤ 1))) ∧ σ = σ2) := by
  refine zMi.of (own := RX11) (by decide +kernel) rfl rfl (Nat.le_of_ble_eq_true rfl) ?_
  intro p e s m args below meth c A Q X ret
  refine zg_lv (lv2 := [(0, .int p1), (1, .int p2)]) rfl ?_
  obtain ⟨R, hR⟩ : ∃ R, R = F_X11_isEarlier p1 p2 := ⟨_, rfl⟩
  have E := hR
  unfold F_X11_isEarlier at E
  refine zg_iconst X 0 dX11_isEarlier_0 (by decide) (fun v1 _ hv1 => ?_)
  replace E := zLet_s (zcst hv1 (by decide)) E
  refine zg_istore_n X [(2, .int v1), (0, .int p1), (1, .int p2)] dX11_isEarlier_1 (by decide) rfl ?_
  have Lp3 : ∀ (nLp3 : Nat) (x2 : Int32), R = F_X11_isEarlier_2 p1 p2  nLp3 x2 → 0 ≤ x2.toInt ∧ x2.toInt ≤ 3 → (3) - x2.toInt + 1 < (nLp3 : Int) → zG d L kd A 3 p l e (k2_rm 1 (100 * 1)) s m args below meth c Q σ 2 [(2, .int x2), (0, .int p1), (1, .int p2)] [] := by
    intro nLp3
    induction nLp3 with
    | zero => intro x2  E  hxLp3 hm ; exact absurd hm (by omega)
    | succ nLp3 ihLp3 =>
      intro x2  E  hxLp3 hmLp3 
      rw [F_X11_isEarlier_2] at E
      refine zg_iload_n X 0 rfl dX11_isEarlier_2 ?_
      refine zg_iconst X 3 dX11_isEarlier_3 (by decide) (fun v4 _ hv4 => ?_)
      replace E := zLet_s (zcst hv4 (by decide)) E
      refine zg_icmp_ge X 45 dX11_isEarlier_4 (by decide) (fun c5 => ?_) (fun c5 => ?_)
      · skip
        replace E := zIf_f (Int.not_lt.mpr c5) E
        refine zg_iconst X 0 dX11_isEarlier_45 (by decide) (fun v6 _ hv6 => ?_)
        replace E := zLet_s (zcst hv6 (by decide)) E
        exact ret _ _ _ _ dX11_isEarlier_46 (zb_bool ⟨by omega, by omega⟩) ⟨⟨E.symm.trans hR, ⟨by omega, by omega⟩⟩, rfl⟩
      · skip
        replace E := zIf_t c5 E
        refine zg_iload_n X 1 rfl dX11_isEarlier_7 ?_
        refine zg_iload_n X 0 rfl dX11_isEarlier_8 ?_
        refine zg_cSi (As := [.int p1, .int x2]) (st := []) X (t_X11_ithOf l d L kd _ p1 x2 ) mk_X11_420 mc_X11_ithOf mz_X11 ms_X11_ithOf (na := 2) ⟨md_X11.1, md_X11.2, by decide +kernel⟩ rfl ⟨by decide, by decide⟩ (Nat.le_of_ble_eq_true rfl) dX11_isEarlier_9 (fun v7 σ2 hq => ?_)
        obtain ⟨⟨hF, hv7⟩, rfl⟩ := hq
        replace E := zLet_s hF E
        refine zg_iload_n X 2 rfl dX11_isEarlier_12 ?_
        refine zg_iload_n X 0 rfl dX11_isEarlier_13 ?_
        refine zg_cSi (As := [.int p2, .int x2]) (st := [.int v7]) X (t_X11_ithOf l d L kd _ p2 x2 ) mk_X11_420 mc_X11_ithOf mz_X11 ms_X11_ithOf (na := 2) ⟨md_X11.1, md_X11.2, by decide +kernel⟩ rfl ⟨by decide, by decide⟩ (Nat.le_of_ble_eq_true rfl) dX11_isEarlier_14 (fun v8 σ2 hq => ?_)
        obtain ⟨⟨hF, hv8⟩, rfl⟩ := hq
        replace E := zLet_s hF E
        refine zg_icmp_eq X 39 dX11_isEarlier_17 (by decide) (fun c9 => ?_) (fun c9 => ?_)
        · skip
          replace E := zIf_t c9 E
          refine zg_iinc X 1 (fun v10 => [(2, .int v10), (0, .int p1), (1, .int p2)]) 0 dX11_isEarlier_39 rfl (by decide) (by decide) (by omega) (by omega) (fun _ => rfl) (fun v10 ev10 hv10 => ?_)
          replace E := zLet_s (zinc ev10 (by decide)) E
          refine zg_goto X 2 dX11_isEarlier_42 (by decide) ?_
          refine zg_sub [0, 1, 2] rfl ?_
          exact ihLp3 v10   E  (by omega) (by omega) 
        · skip
          replace E := zIf_f c9 E
          refine zg_iload_n X 1 rfl dX11_isEarlier_20 ?_
          refine zg_iload_n X 0 rfl dX11_isEarlier_21 ?_
          refine zg_cSi (As := [.int p1, .int x2]) (st := []) X (t_X11_ithOf l d L kd _ p1 x2 ) mk_X11_420 mc_X11_ithOf mz_X11 ms_X11_ithOf (na := 2) ⟨md_X11.1, md_X11.2, by decide +kernel⟩ rfl ⟨by decide, by decide⟩ (Nat.le_of_ble_eq_true rfl) dX11_isEarlier_22 (fun v11 σ2 hq => ?_)
          obtain ⟨⟨hF, hv11⟩, rfl⟩ := hq
          replace E := zLet_s hF E
          refine zg_iload_n X 2 rfl dX11_isEarlier_25 ?_
          refine zg_iload_n X 0 rfl dX11_isEarlier_26 ?_
          refine zg_cSi (As := [.int p2, .int x2]) (st := [.int v11]) X (t_X11_ithOf l d L kd _ p2 x2 ) mk_X11_420 mc_X11_ithOf mz_X11 ms_X11_ithOf (na := 2) ⟨md_X11.1, md_X11.2, by decide +kernel⟩ rfl ⟨by decide, by decide⟩ (Nat.le_of_ble_eq_true rfl) dX11_isEarlier_27 (fun v12 σ2 hq => ?_)
          obtain ⟨⟨hF, hv12⟩, rfl⟩ := hq
          replace E := zLet_s hF E
          have zv11_z13 := zb_rng v11
          have zv12_z14 := zb_rng v12
          refine zg_icmp_ge X 37 dX11_isEarlier_30 (by decide) (fun c15 => ?_) (fun c15 => ?_)
          · skip
            replace E := zIf_f (Int.not_lt.mpr c15) E
            refine zg_iconst X 0 dX11_isEarlier_37 (by decide) (fun v16 _ hv16 => ?_)
            replace E := zLet_s (zcst hv16 (by decide)) E
            exact ret _ _ _ _ dX11_isEarlier_38 (zb_bool ⟨by omega, by omega⟩) ⟨⟨E.symm.trans hR, ⟨by omega, by omega⟩⟩, rfl⟩
          · skip
            replace E := zIf_t c15 E
            refine zg_iconst X 1 dX11_isEarlier_33 (by decide) (fun v17 _ hv17 => ?_)
            replace E := zLet_s (zcst hv17 (by decide)) E
            refine zg_goto X 38 dX11_isEarlier_34 (by decide) ?_
            exact ret _ _ _ _ dX11_isEarlier_38 (zb_bool ⟨by omega, by omega⟩) ⟨⟨E.symm.trans hR, ⟨by omega, by omega⟩⟩, rfl⟩
  refine zg_sub [0, 1, 2] rfl ?_
  exact Lp3 10000 v1   E  (by omega) (by omega) 
set_option maxHeartbeats 4000000 in
set_option maxRecDepth 100000 in
theorem t_X11_mixed (l : Launch) (d : zD2) (L : List Nat) (kd : Nat → Nat) (σ : zS) (p1 : Int32) (p2 : Int32) : zMi l yX11_mixed (Cond.code yX11_mixed cX11_mixed 3 (some .int) :: zWL) 0 [.int p1, .int p2] d L kd σ (fun v σ2 => (v = F_X11_mixed p1 p2 ∧ (True)) ∧ σ = σ2) := by
  refine zMi.of (own := RX11) (by decide +kernel) rfl rfl (Nat.le_of_ble_eq_true rfl) ?_
  intro p e s m args below meth c A Q X ret
  refine zg_lv (lv2 := [(0, .int p1), (1, .int p2)]) rfl ?_
  obtain ⟨R, hR⟩ : ∃ R, R = F_X11_mixed p1 p2 := ⟨_, rfl⟩
  have E := hR
  unfold F_X11_mixed at E
  refine zg_iload_n X 0 rfl dX11_mixed_0 ?_
  refine zg_iload_n X 1 rfl dX11_mixed_1 ?_
  refine zg_ixorW X dX11_mixed_2 (fun v1 ev1 => ?_)
  replace E := zLet_s ev1 E
  refine zg_ldcwE X wk_X11_335 dX11_mixed_3 (fun v2 ev2 => ?_)
  replace E := zLet_s ev2 E
  refine zg_imulW X dX11_mixed_6 (fun v3 ev3 => ?_)
  replace E := zLet_s ev3 E
  refine zg_sipush X 12345 dX11_mixed_7 (by decide) (fun v4 _ hv4 => ?_)
  replace E := zLet_s (zcst hv4 (by decide)) E
  refine zg_iaddW X dX11_mixed_10 (fun v5 ev5 => ?_)
  replace E := zLet_s ev5 E
  refine zg_istore_n X [(2, .int v5), (0, .int p1), (1, .int p2)] dX11_mixed_11 (by decide) rfl ?_
  refine zg_iload_n X 0 rfl dX11_mixed_12 ?_
  refine zg_iload_n X 0 rfl dX11_mixed_13 ?_
  refine zg_bipush X 15 dX11_mixed_14 (by decide) (fun v6 _ hv6 => ?_)
  replace E := zLet_s (zcst hv6 (by decide)) E
  refine zg_iushrW X dX11_mixed_16 (fun v7 ev7 => ?_)
  replace E := zLet_s ev7 E
  refine zg_ixorW X dX11_mixed_17 (fun v8 ev8 => ?_)
  replace E := zLet_s ev8 E
  exact ret _ _ _ _ dX11_mixed_18 rfl ⟨⟨E.symm.trans hR, trivial⟩, rfl⟩
set_option maxHeartbeats 4000000 in
set_option maxRecDepth 100000 in
theorem t_X11_many (l : Launch) (d : zD2) (L : List Nat) (kd : Nat → Nat) (κ : Int) (σ : zS) (hI : zJ κ L kd σ) (a0 : Nat) (ha0 : zT L kd a0 11) : zMi l yX11_many (Cond.code yX11_many cX11_many 1 (some .int) :: zWL) 0 [.ref a0] d L kd σ (fun v σ2 => (v = F_X11_many a0 σ ∧ (((0 ≤ v.toInt ∧ v.toInt ≤ 12)) ∧ (v.toInt = zM a0 σ))) ∧ σ = σ2) := by
  refine zMi.of (own := RX11) (by decide +kernel) rfl rfl (Nat.le_of_ble_eq_true rfl) ?_
  intro p e s m args below meth c A Q X ret
  refine zg_lv (lv2 := [(0, .ref a0)]) rfl ?_
  obtain ⟨R, hR⟩ : ∃ R, R = F_X11_many a0 σ := ⟨_, rfl⟩
  have E := hR
  unfold F_X11_many at E
  refine zg_aload_n X 0 rfl dX11_many_0 ?_
  refine fg_X11_43 X hI ha0 dX11_many_1 (fun v1 ev1 hv1 => ?_)
  replace E := zLet_s (zgr ev1) E
  refine zg_aload_n X 0 rfl dX11_many_4 ?_
  refine fg_X11_236 X hI ha0 dX11_many_5 (fun v2 ev2 hv2 => ?_)
  replace E := zLet_s ev2 E
  have kv2 : (σ.1 a0 18).toInt = v2.toInt := by rw [ev2]
  refine ag_121 X hI hv1 (by omega) (by omega) dX11_many_8 (fun v3 ev3 hv3 => ?_)
  replace E := zLet_s ev3 E
  have qv3 := zp_ld ev1 ev3
  rw [← kv2] at qv3
  exact ret _ _ _ _ dX11_many_9 rfl ⟨⟨E.symm.trans hR, ⟨⟨by omega, by omega⟩, (by unfold zM; exact qv3)⟩⟩, rfl⟩
set_option maxHeartbeats 4000000 in
set_option maxRecDepth 100000 in
theorem t_X11_isPlace (l : Launch) (d : zD2) (L : List Nat) (kd : Nat → Nat) (κ : Int) (σ : zS) (hI : zJ κ L kd σ) (a0 : Nat) (ha0 : zT L kd a0 11) (p1 : Int32) : zMi l yX11_isPlace (Cond.code yX11_isPlace cX11_isPlace 2 (some .boolean) :: zWL) 1 [.ref a0, .int p1] d L kd σ (fun v σ2 => (v = F_X11_isPlace a0 p1 σ ∧ (((0 ≤ v.toInt ∧ v.toInt ≤ 1)) ∧ (((v.toInt = 1 ∧ 0 ≤ p1.toInt ∧ p1.toInt < zM a0 σ) ∨ (v.toInt = 0 ∧ (p1.toInt < 0 ∨ zM a0 σ ≤ p1.toInt)))))) ∧ σ = σ2) := by
  refine zMi.of (own := RX11) (by decide +kernel) rfl rfl (Nat.le_of_ble_eq_true rfl) ?_
  intro p e s m args below meth c A Q X ret
  refine zg_lv (lv2 := [(0, .ref a0), (1, .int p1)]) rfl ?_
  obtain ⟨R, hR⟩ : ∃ R, R = F_X11_isPlace a0 p1 σ := ⟨_, rfl⟩
  have E := hR
  unfold F_X11_isPlace at E
  refine zg_iload_n X 1 rfl dX11_isPlace_0 ?_
  refine zg_iconst X 0 dX11_isPlace_1 (by decide) (fun v1 _ hv1 => ?_)
  replace E := zLet_s (zcst hv1 (by decide)) E
  refine zg_aload_n X 0 rfl dX11_isPlace_2 ?_
  refine zg_cVi (As := []) (st := [.int v1, .int p1]) X ha0 rfl (by decide) rfl (t_X11_many l d L kd κ _ hI a0 ha0   ) mk_X11_313 mc_X11_many mz_X11 mi_X11_many ml_X11_many (na := 0) ⟨md_X11.1, md_X11.2, by decide +kernel⟩ rfl ⟨by decide, by decide⟩ (Nat.le_of_ble_eq_true rfl) dX11_isPlace_3 (fun v3 t2 hq => ?_)
  obtain ⟨⟨hF, ⟨ht2_res, ht2_fact0⟩⟩, rfl⟩ := hq
  replace E := zLet_s hF E
  refine zg_iconst X 1 dX11_isPlace_6 (by decide) (fun v4 _ hv4 => ?_)
  replace E := zLet_s (zcst hv4 (by decide)) E
  refine zg_isub X dX11_isPlace_7 (by omega) (by omega) (fun v5 ev5 hv5 => ?_)
  replace E := zLet_s ev5 E
  refine zg_cSi (As := [.int p1, .int v1, .int v5]) (st := []) X (t_X11_in l d L kd _ p1 v1 v5 ) mk_X11_316 mc_X11_in mz_X11 ms_X11_in (na := 3) ⟨md_X11.1, md_X11.2, by decide +kernel⟩ rfl ⟨by decide, by decide⟩ (Nat.le_of_ble_eq_true rfl) dX11_isPlace_8 (fun v6 σ2 hq => ?_)
  obtain ⟨⟨hF, hv6⟩, rfl⟩ := hq
  replace E := zLet_s hF E
  exact ret _ _ _ _ dX11_isPlace_11 (zb_bool ⟨by omega, by omega⟩) ⟨⟨E.symm.trans hR, ⟨⟨by omega, by omega⟩, (by omega)⟩⟩, rfl⟩
set_option maxHeartbeats 4000000 in
set_option maxRecDepth 100000 in
theorem t_X11_isBeside (l : Launch) (d : zD2) (L : List Nat) (kd : Nat → Nat) (κ : Int) (σ : zS) (hI : zJ κ L kd σ) (a0 : Nat) (ha0 : zT L kd a0 11) (p1 : Int32) : zMi l yX11_isBeside (Cond.code yX11_isBeside cX11_isBeside 2 (some .boolean) :: zWL) 1 [.ref a0, .int p1] d L kd σ (fun v σ2 => (v = F_X11_isBeside a0 p1 σ ∧ (((0 ≤ v.toInt ∧ v.toInt ≤ 1)) ∧ (((v.toInt = 1 ∧ 1 ≤ p1.toInt ∧ p1.toInt < zM a0 σ) ∨ (v.toInt = 0 ∧ (p1.toInt < 1 ∨ zM a0 σ ≤ p1.toInt)))))) ∧ σ = σ2) := by
  refine zMi.of (own := RX11) (by decide +kernel) rfl rfl (Nat.le_of_ble_eq_true rfl) ?_
  intro p e s m args below meth c A Q X ret
  refine zg_lv (lv2 := [(0, .ref a0), (1, .int p1)]) rfl ?_
  obtain ⟨R, hR⟩ : ∃ R, R = F_X11_isBeside a0 p1 σ := ⟨_, rfl⟩
  have E := hR
  unfold F_X11_isBeside at E
  refine zg_iload_n X 1 rfl dX11_isBeside_0 ?_
  refine zg_iconst X 1 dX11_isBeside_1 (by decide) (fun v1 _ hv1 => ?_)
  replace E := zLet_s (zcst hv1 (by decide)) E
  refine zg_aload_n X 0 rfl dX11_isBeside_2 ?_
  refine zg_cVi (As := []) (st := [.int v1, .int p1]) X ha0 rfl (by decide) rfl (t_X11_many l d L kd κ _ hI a0 ha0   ) mk_X11_313 mc_X11_many mz_X11 mi_X11_many ml_X11_many (na := 0) ⟨md_X11.1, md_X11.2, by decide +kernel⟩ rfl ⟨by decide, by decide⟩ (Nat.le_of_ble_eq_true rfl) dX11_isBeside_3 (fun v3 t2 hq => ?_)
  obtain ⟨⟨hF, ⟨ht2_res, ht2_fact0⟩⟩, rfl⟩ := hq
  replace E := zLet_s hF E
  refine zg_iconst X 1 dX11_isBeside_6 (by decide) (fun v4 _ hv4 => ?_)
  replace E := zLet_s (zcst hv4 (by decide)) E
  refine zg_isub X dX11_isBeside_7 (by omega) (by omega) (fun v5 ev5 hv5 => ?_)
  replace E := zLet_s ev5 E
  refine zg_cSi (As := [.int p1, .int v1, .int v5]) (st := []) X (t_X11_in l d L kd _ p1 v1 v5 ) mk_X11_316 mc_X11_in mz_X11 ms_X11_in (na := 3) ⟨md_X11.1, md_X11.2, by decide +kernel⟩ rfl ⟨by decide, by decide⟩ (Nat.le_of_ble_eq_true rfl) dX11_isBeside_8 (fun v6 σ2 hq => ?_)
  obtain ⟨⟨hF, hv6⟩, rfl⟩ := hq
  replace E := zLet_s hF E
  exact ret _ _ _ _ dX11_isBeside_11 (zb_bool ⟨by omega, by omega⟩) ⟨⟨E.symm.trans hR, ⟨⟨by omega, by omega⟩, (by omega)⟩⟩, rfl⟩
set_option maxHeartbeats 4000000 in
set_option maxRecDepth 100000 in
theorem t_X11_byteAt (l : Launch) (d : zD2) (L : List Nat) (kd : Nat → Nat) (κ : Int) (σ : zS) (hI : zJ κ L kd σ) (a0 : Nat) (ha0 : zT L kd a0 11) (p1 : Int32) (hq0 : 0 ≤ p1.toInt) : zMi l yX11_byteAt (Cond.code yX11_byteAt cX11_byteAt 2 (some .int) :: zWL) 0 [.ref a0, .int p1] d L kd σ (fun v σ2 => (v = F_X11_byteAt a0 p1 σ ∧ ((v.toInt = 0 ∨ p1.toInt < (σ.1 a0 4).toInt))) ∧ σ = σ2) := by
  refine zMi.of (own := RX11) (by decide +kernel) rfl rfl (Nat.le_of_ble_eq_true rfl) ?_
  intro p e s m args below meth c A Q X ret
  refine zg_lv (lv2 := [(0, .ref a0), (1, .int p1)]) rfl ?_
  obtain ⟨R, hR⟩ : ∃ R, R = F_X11_byteAt a0 p1 σ := ⟨_, rfl⟩
  have E := hR
  unfold F_X11_byteAt at E
  refine zg_iload_n X 1 rfl dX11_byteAt_0 ?_
  refine zg_aload_n X 0 rfl dX11_byteAt_1 ?_
  refine fg_X11_175 X hI ha0 dX11_byteAt_2 (fun v1 ev1 hv1 => ?_)
  replace E := zLet_s ev1 E
  have kv1 : (σ.1 a0 4).toInt = v1.toInt := by rw [ev1]
  have zp1_z2 := zb_rng p1
  refine zg_icmp_ge X 21 dX11_byteAt_5 (by decide) (fun c3 => ?_) (fun c3 => ?_)
  · skip
    replace E := zIf_f (Int.not_lt.mpr c3) E
    refine zg_iconst X 0 dX11_byteAt_21 (by decide) (fun v4 _ hv4 => ?_)
    replace E := zLet_s (zcst hv4 (by decide)) E
    exact ret _ _ _ _ dX11_byteAt_22 rfl ⟨⟨E.symm.trans hR, (by omega)⟩, rfl⟩
  · skip
    replace E := zIf_t c3 E
    refine zg_aload_n X 0 rfl dX11_byteAt_8 ?_
    refine fg_X11_17 X hI ha0 dX11_byteAt_9 (fun v5 ev5 hv5 => ?_)
    replace E := zLet_s (zgr ev5) E
    refine zg_iload_n X 1 rfl dX11_byteAt_12 ?_
    refine ag_103 X hI hv5 (by omega) (by omega) dX11_byteAt_13 (fun v6 ev6 hv6 => ?_)
    replace E := zLet_s ev6 E
    refine zg_sipush X 255 dX11_byteAt_14 (by decide) (fun v7 _ hv7 => ?_)
    replace E := zLet_s (zcst hv7 (by decide)) E
    refine zg_iandW X dX11_byteAt_17 (fun v8 ev8 => ?_)
    replace E := zLet_s ev8 E
    refine zg_goto X 22 dX11_byteAt_18 (by decide) ?_
    exact ret _ _ _ _ dX11_byteAt_22 rfl ⟨⟨E.symm.trans hR, (by omega)⟩, rfl⟩
set_option maxHeartbeats 4000000 in
set_option maxRecDepth 100000 in
theorem t_X11_place (l : Launch) (d : zD2) (L : List Nat) (kd : Nat → Nat) (κ : Int) (σ : zS) (hI : zJ κ L kd σ) (a0 : Nat) (ha0 : zT L kd a0 11) : zMi l yX11_place (Cond.code yX11_place cX11_place 1 (some .int) :: zWL) 0 [.ref a0] d L kd σ (fun v σ2 => v = F_X11_place a0 σ ∧ σ = σ2) := by
  refine zMi.of (own := RX11) (by decide +kernel) rfl rfl (Nat.le_of_ble_eq_true rfl) ?_
  intro p e s m args below meth c A Q X ret
  refine zg_lv (lv2 := [(0, .ref a0)]) rfl ?_
  obtain ⟨R, hR⟩ : ∃ R, R = F_X11_place a0 σ := ⟨_, rfl⟩
  have E := hR
  unfold F_X11_place at E
  refine zg_aload_n X 0 rfl dX11_place_0 ?_
  refine fg_X11_37 X hI ha0 dX11_place_1 (fun v1 ev1 _ => ?_)
  replace E := zLet_s ev1 E
  exact ret _ _ _ _ dX11_place_4 rfl ⟨E.symm.trans hR, rfl⟩
set_option maxHeartbeats 4000000 in
set_option maxRecDepth 100000 in
theorem t_X11_fail (l : Launch) (d : zD2) (L : List Nat) (kd : Nat → Nat) (κ : Int) (σ : zS) (hI : zJ κ L kd σ) (a0 : Nat) (ha0 : zT L kd a0 11) (p1 : Int32) (hq0 : 1 ≤ p1.toInt) : zMv l yX11_fail (Cond.code yX11_fail cX11_fail 2 none :: zWL) 0 [.ref a0, .int p1] d L kd σ (fun σ2 => σ2 = F_X11_fail a0 p1 σ ∧ ((0 < (σ2.1 a0 13).toInt) ∧ zJ κ L kd σ2 ∧ zSame a0 [13, 14] [] L kd σ σ2)) := by
  refine zMv.of (own := RX11) (by decide +kernel) rfl rfl (Nat.le_of_ble_eq_true rfl) ?_
  intro p e s m args below meth c A Q X ret
  have hS : zSame a0 [13, 14] [] L kd σ σ := zSame.rf
  refine zg_lv (lv2 := [(0, .ref a0), (1, .int p1)]) rfl ?_
  obtain ⟨R, hR⟩ : ∃ R, R = F_X11_fail a0 p1 σ := ⟨_, rfl⟩
  have E := hR
  unfold F_X11_fail at E
  refine zg_aload_n X 0 rfl dX11_fail_0 ?_
  refine fg_X11_206 X hI ha0 dX11_fail_1 (fun v1 ev1 hv1 => ?_)
  replace E := zLet_s ev1 E
  have kv1 : (σ.1 a0 13).toInt = v1.toInt := by rw [ev1]
  refine zg_if_le X 8 dX11_fail_4 (by decide) (fun c2 => ?_) (fun c2 => ?_)
  · skip
    replace E := zIf_f (Int.not_lt.mpr c2) E
    refine zg_aload_n X 0 rfl dX11_fail_8 ?_
    refine zg_iload_n X 1 rfl dX11_fail_9 ?_
    have zzz3 := zb_rng p1
    refine fp_X11_206 X hI ha0 ⟨by omega, by omega⟩ dX11_fail_10 (fun s4 es4 hI => ?_)
    replace E := zLet_s es4 E
    have g5 := (zSame.rf (o := a0) (Wf := [13]) (Wa := []) (L := L) (kd := kd) (σ := σ)).f ha0 es4 rfl
    have hS := hS.tr g5 (by decide) (by decide)
    have fs4_13 : (s4.1 a0 13).toInt = p1.toInt := by rw [es4]; exact congrArg _ (zu_s _ _ _ _)
    have e6 : p1 = s4.1 a0 13 := by rw [es4]; exact zm_s
    refine zg_aload_n X 0 rfl dX11_fail_13 ?_
    refine zg_aload_n X 0 rfl dX11_fail_14 ?_
    refine fg_X11_24 X hI ha0 dX11_fail_15 (fun v7 ev7 hv7 => ?_)
    replace E := zLet_s (zgr ev7) E
    refine zg_aload_n X 0 rfl dX11_fail_18 ?_
    refine fg_X11_209 X hI ha0 dX11_fail_19 (fun v8 ev8 hv8 => ?_)
    replace E := zLet_s ev8 E
    refine ag_106 X hI hv7 (by omega) (by omega) dX11_fail_22 (fun v9 ev9 _ => ?_)
    replace E := zLet_s ev9 E
    refine fp_X11_212 X hI ha0 (zb_rng _) dX11_fail_23 (fun s10 es10 hI => ?_)
    replace E := zLet_s es10 E
    have g11 := (zSame.rf (o := a0) (Wf := [14]) (Wa := []) (L := L) (kd := kd) (σ := s4)).f ha0 es10 rfl
    have fs10_13 : (s10.1 a0 13).toInt = (s4.1 a0 13).toInt := by rw [g11.2.1 13 (by decide)]
    have hS := hS.tr g11 (by decide) (by decide)
    have fs10_14 : (s10.1 a0 14).toInt = v9.toInt := by rw [es10]; exact congrArg _ (zu_s _ _ _ _)
    have e14 : v9 = s10.1 a0 14 := by rw [es10]; exact zm_s
    exact ret _ _ _ dX11_fail_26 ⟨E.symm.trans hR, ⟨(by omega), hI, hS⟩⟩
  · skip
    replace E := zIf_t c2 E
    exact ret _ _ _ dX11_fail_7 ⟨E.symm.trans hR, ⟨(by omega), hI, hS⟩⟩
set_option maxHeartbeats 4000000 in
set_option maxRecDepth 100000 in
theorem t_X11_is (l : Launch) (d : zD2) (L : List Nat) (kd : Nat → Nat) (κ : Int) (σ : zS) (hI : zJ κ L kd σ) (a0 : Nat) (ha0 : zT L kd a0 11) (p1 : Int32) : zMi l yX11_is (Cond.code yX11_is cX11_is 2 (some .boolean) :: zWL) 0 [.ref a0, .int p1] d L kd σ (fun v σ2 => (v = F_X11_is a0 p1 σ ∧ (((0 ≤ v.toInt ∧ v.toInt ≤ 1)) ∧ (((v.toInt = 1 ∧ (σ.1 a0 13).toInt = 0 ∧ zp a0 σ 5 (σ.1 a0 11).toInt = p1.toInt) ∨ (v.toInt = 0 ∧ (1 ≤ (σ.1 a0 13).toInt ∨ zp a0 σ 5 (σ.1 a0 11).toInt ≠ p1.toInt)))))) ∧ σ = σ2) := by
  refine zMi.of (own := RX11) (by decide +kernel) rfl rfl (Nat.le_of_ble_eq_true rfl) ?_
  intro p e s m args below meth c A Q X ret
  refine zg_lv (lv2 := [(0, .ref a0), (1, .int p1)]) rfl ?_
  obtain ⟨R, hR⟩ : ∃ R, R = F_X11_is a0 p1 σ := ⟨_, rfl⟩
  have E := hR
  unfold F_X11_is at E
  refine zg_aload_n X 0 rfl dX11_is_0 ?_
  refine fg_X11_206 X hI ha0 dX11_is_1 (fun v1 ev1 hv1 => ?_)
  replace E := zLet_s ev1 E
  have kv1 : (σ.1 a0 13).toInt = v1.toInt := by rw [ev1]
  refine zg_if_ne X 24 dX11_is_4 (by decide) (fun c2 => ?_) (fun c2 => ?_)
  · skip
    replace E := zIf_f c2 E
    refine zg_iconst X 0 dX11_is_24 (by decide) (fun v3 _ hv3 => ?_)
    replace E := zLet_s (zcst hv3 (by decide)) E
    exact ret _ _ _ _ dX11_is_25 (zb_bool ⟨by omega, by omega⟩) ⟨⟨E.symm.trans hR, ⟨⟨by omega, by omega⟩, (by omega)⟩⟩, rfl⟩
  · skip
    replace E := zIf_t c2 E
    refine zg_aload_n X 0 rfl dX11_is_7 ?_
    refine fg_X11_20 X hI ha0 dX11_is_8 (fun v4 ev4 hv4 => ?_)
    replace E := zLet_s (zgr ev4) E
    refine zg_aload_n X 0 rfl dX11_is_11 ?_
    refine fg_X11_209 X hI ha0 dX11_is_12 (fun v5 ev5 hv5 => ?_)
    replace E := zLet_s ev5 E
    have kv5 : (σ.1 a0 11).toInt = v5.toInt := by rw [ev5]
    refine ag_105 X hI hv4 (by omega) (by omega) dX11_is_15 (fun v6 ev6 _ => ?_)
    replace E := zLet_s ev6 E
    have qv6 := zp_ld ev4 ev6
    rw [← kv5] at qv6
    refine zg_iload_n X 1 rfl dX11_is_16 ?_
    refine zg_icmp_ne X 24 dX11_is_17 (by decide) (fun c7 => ?_) (fun c7 => ?_)
    · skip
      replace E := zIf_f c7 E
      refine zg_iconst X 0 dX11_is_24 (by decide) (fun v8 _ hv8 => ?_)
      replace E := zLet_s (zcst hv8 (by decide)) E
      exact ret _ _ _ _ dX11_is_25 (zb_bool ⟨by omega, by omega⟩) ⟨⟨E.symm.trans hR, ⟨⟨by omega, by omega⟩, (by omega)⟩⟩, rfl⟩
    · skip
      replace E := zIf_t c7 E
      refine zg_iconst X 1 dX11_is_20 (by decide) (fun v9 _ hv9 => ?_)
      replace E := zLet_s (zcst hv9 (by decide)) E
      refine zg_goto X 25 dX11_is_21 (by decide) ?_
      exact ret _ _ _ _ dX11_is_25 (zb_bool ⟨by omega, by omega⟩) ⟨⟨E.symm.trans hR, ⟨⟨by omega, by omega⟩, (by omega)⟩⟩, rfl⟩
set_option maxHeartbeats 4000000 in
set_option maxRecDepth 100000 in
theorem t_X11_goesOn (l : Launch) (d : zD2) (L : List Nat) (kd : Nat → Nat) (κ : Int) (σ : zS) (hI : zJ κ L kd σ) (a0 : Nat) (ha0 : zT L kd a0 11) : zMv l yX11_goesOn (Cond.code yX11_goesOn cX11_goesOn 1 none :: zWL) 1 [.ref a0] d L kd σ (fun σ2 => σ2 = F_X11_goesOn a0 σ ∧ (((((σ.1 a0 11).toInt = 400 ∧ 0 < (σ2.1 a0 13).toInt ∧ (σ2.1 a0 11).toInt = (σ.1 a0 11).toInt) ∨ ((σ.1 a0 11).toInt < 400 ∧ (σ2.1 a0 11).toInt = (σ.1 a0 11).toInt + 1 ∧ (σ2.1 a0 13).toInt = (σ.1 a0 13).toInt))) ∧ zJ κ L kd σ2 ∧ zSame a0 [11, 13, 14] [] L kd σ σ2)) := by
  refine zMv.of (own := RX11) (by decide +kernel) rfl rfl (Nat.le_of_ble_eq_true rfl) ?_
  intro p e s m args below meth c A Q X ret
  have hS : zSame a0 [11, 13, 14] [] L kd σ σ := zSame.rf
  refine zg_lv (lv2 := [(0, .ref a0)]) rfl ?_
  obtain ⟨R, hR⟩ : ∃ R, R = F_X11_goesOn a0 σ := ⟨_, rfl⟩
  have E := hR
  unfold F_X11_goesOn at E
  refine zg_aload_n X 0 rfl dX11_goesOn_0 ?_
  refine fg_X11_209 X hI ha0 dX11_goesOn_1 (fun v1 ev1 hv1 => ?_)
  replace E := zLet_s ev1 E
  have kv1 : (σ.1 a0 11).toInt = v1.toInt := by rw [ev1]
  refine zg_sipush X 400 dX11_goesOn_4 (by decide) (fun v2 _ hv2 => ?_)
  replace E := zLet_s (zcst hv2 (by decide)) E
  refine zg_icmp_ne X 18 dX11_goesOn_7 (by decide) (fun c3 => ?_) (fun c3 => ?_)
  · skip
    replace E := zIf_f c3 E
    refine zg_aload_n X 0 rfl dX11_goesOn_18 ?_
    refine zg_dup X dX11_goesOn_19 rfl ?_
    refine fg_X11_209 X hI ha0 dX11_goesOn_20 (fun v4 ev4 hv4 => ?_)
    replace E := zLet_s ev4 E
    have kv4 : (σ.1 a0 11).toInt = v4.toInt := by rw [ev4]
    have mv4 : v4.toInt = v1.toInt := by rw [ev4, ← ev1]
    refine zg_iconst X 1 dX11_goesOn_23 (by decide) (fun v5 _ hv5 => ?_)
    replace E := zLet_s (zcst hv5 (by decide)) E
    refine zg_iadd X dX11_goesOn_24 (by omega) (by omega) (fun v6 ev6 hv6 => ?_)
    replace E := zLet_s ev6 E
    refine fp_X11_209 X hI ha0 ⟨by omega, by omega⟩ dX11_goesOn_25 (fun s7 es7 hI => ?_)
    replace E := zLet_s es7 E
    have g8 := (zSame.rf (o := a0) (Wf := [11]) (Wa := []) (L := L) (kd := kd) (σ := σ)).f ha0 es7 rfl
    have fs7_13 : (s7.1 a0 13).toInt = (σ.1 a0 13).toInt := by rw [g8.2.1 13 (by decide)]
    have hS := hS.tr g8 (by decide) (by decide)
    have fs7_11 : (s7.1 a0 11).toInt = v6.toInt := by rw [es7]; exact congrArg _ (zu_s _ _ _ _)
    have e9 : v6 = s7.1 a0 11 := by rw [es7]; exact zm_s
    exact ret _ _ _ dX11_goesOn_28 ⟨E.symm.trans hR, ⟨(by omega), hI, hS⟩⟩
  · skip
    replace E := zIf_t c3 E
    refine zg_aload_n X 0 rfl dX11_goesOn_10 ?_
    refine zg_iconst X 2 dX11_goesOn_11 (by decide) (fun v10 _ hv10 => ?_)
    replace E := zLet_s (zcst hv10 (by decide)) E
    refine zg_cVv (As := [.int v10]) (st := []) X ha0 rfl (by decide) rfl (t_X11_fail l d L kd κ _ hI a0 ha0 v10  (by omega)) mk_X11_221 mc_X11_fail mz_X11 mi_X11_fail ml_X11_fail (na := 1) ⟨md_X11.1, md_X11.2, by decide +kernel⟩ rfl ⟨by decide, by decide⟩ (Nat.le_of_ble_eq_true rfl) dX11_goesOn_12 (fun t11 hq => ?_)
    obtain ⟨hF, ht11_fact0, hI, g12⟩ := hq
    replace E := zLet_s hF E
    have ft11_11 : (t11.1 a0 11).toInt = (σ.1 a0 11).toInt := by rw [g12.2.1 11 (by decide)]
    have hS := hS.tr g12 (by decide) (by decide)
    refine zg_goto X 28 dX11_goesOn_15 (by decide) ?_
    exact ret _ _ _ dX11_goesOn_28 ⟨E.symm.trans hR, ⟨(by omega), hI, hS⟩⟩
set_option maxHeartbeats 4000000 in
set_option maxRecDepth 100000 in
theorem t_X11_must (l : Launch) (d : zD2) (L : List Nat) (kd : Nat → Nat) (κ : Int) (σ : zS) (hI : zJ κ L kd σ) (a0 : Nat) (ha0 : zT L kd a0 11) (p1 : Int32) : zMv l yX11_must (Cond.code yX11_must cX11_must 2 none :: zWL) 2 [.ref a0, .int p1] d L kd σ (fun σ2 => σ2 = F_X11_must a0 p1 σ ∧ ((((0 < (σ2.1 a0 13).toInt ∧ (σ.1 a0 11).toInt ≤ (σ2.1 a0 11).toInt ∧ (σ2.1 a0 11).toInt ≤ (σ.1 a0 11).toInt + 1) ∨ ((σ.1 a0 13).toInt = 0 ∧ (σ2.1 a0 13).toInt = 0 ∧ (σ2.1 a0 11).toInt = (σ.1 a0 11).toInt + 1))) ∧ zJ κ L kd σ2 ∧ zSame a0 [11, 13, 14] [] L kd σ σ2)) := by
  refine zMv.of (own := RX11) (by decide +kernel) rfl rfl (Nat.le_of_ble_eq_true rfl) ?_
  intro p e s m args below meth c A Q X ret
  have hS : zSame a0 [11, 13, 14] [] L kd σ σ := zSame.rf
  refine zg_lv (lv2 := [(0, .ref a0), (1, .int p1)]) rfl ?_
  obtain ⟨R, hR⟩ : ∃ R, R = F_X11_must a0 p1 σ := ⟨_, rfl⟩
  have E := hR
  unfold F_X11_must at E
  refine zg_aload_n X 0 rfl dX11_must_0 ?_
  refine zg_iload_n X 1 rfl dX11_must_1 ?_
  refine zg_cVi (As := [.int p1]) (st := []) X ha0 rfl (by decide) rfl (t_X11_is l d L kd κ _ hI a0 ha0 p1  ) mk_X11_224 mc_X11_is mz_X11 mi_X11_is ml_X11_is (na := 1) ⟨md_X11.1, md_X11.2, by decide +kernel⟩ rfl ⟨by decide, by decide⟩ (Nat.le_of_ble_eq_true rfl) dX11_must_2 (fun v2 t1 hq => ?_)
  obtain ⟨⟨hF, ⟨ht1_res, ht1_fact0⟩⟩, rfl⟩ := hq
  replace E := zLet_s hF E
  refine zg_if_eq X 15 dX11_must_5 (by decide) (fun c3 => ?_) (fun c3 => ?_)
  · skip
    replace E := zIf_t c3 E
    refine zg_aload_n X 0 rfl dX11_must_15 ?_
    refine zg_iconst X 1 dX11_must_16 (by decide) (fun v4 _ hv4 => ?_)
    replace E := zLet_s (zcst hv4 (by decide)) E
    refine zg_cVv (As := [.int v4]) (st := []) X ha0 rfl (by decide) rfl (t_X11_fail l d L kd κ _ hI a0 ha0 v4  (by omega)) mk_X11_221 mc_X11_fail mz_X11 mi_X11_fail ml_X11_fail (na := 1) ⟨md_X11.1, md_X11.2, by decide +kernel⟩ rfl ⟨by decide, by decide⟩ (Nat.le_of_ble_eq_true rfl) dX11_must_17 (fun t5 hq => ?_)
    obtain ⟨hF, ht5_fact0, hI, g6⟩ := hq
    replace E := zLet_s hF E
    have ft5_11 : (t5.1 a0 11).toInt = (σ.1 a0 11).toInt := by rw [g6.2.1 11 (by decide)]
    have hS := hS.tr g6 (by decide) (by decide)
    exact ret _ _ _ dX11_must_20 ⟨E.symm.trans hR, ⟨(by omega), hI, hS⟩⟩
  · skip
    replace E := zIf_f c3 E
    refine zg_aload_n X 0 rfl dX11_must_8 ?_
    refine zg_cVv (As := []) (st := []) X ha0 rfl (by decide) rfl (t_X11_goesOn l d L kd κ _ hI a0 ha0   ) mk_X11_227 mc_X11_goesOn mz_X11 mi_X11_goesOn ml_X11_goesOn (na := 0) ⟨md_X11.1, md_X11.2, by decide +kernel⟩ rfl ⟨by decide, by decide⟩ (Nat.le_of_ble_eq_true rfl) dX11_must_9 (fun t7 hq => ?_)
    obtain ⟨hF, ht7_fact0, hI, g8⟩ := hq
    replace E := zLet_s hF E
    have hS := hS.tr g8 (by decide) (by decide)
    refine zg_goto X 20 dX11_must_12 (by decide) ?_
    exact ret _ _ _ dX11_must_20 ⟨E.symm.trans hR, ⟨(by omega), hI, hS⟩⟩
set_option maxHeartbeats 4000000 in
set_option maxRecDepth 100000 in
theorem t_X11_wrong (l : Launch) (d : zD2) (L : List Nat) (kd : Nat → Nat) (κ : Int) (σ : zS) (hI : zJ κ L kd σ) (a0 : Nat) (ha0 : zT L kd a0 11) (p1 : Int32) (p2 : Int32) (hq0 : 1 ≤ p1.toInt) (hq1 : 0 ≤ p2.toInt ∧ p2.toInt ≤ 402) : zMv l yX11_wrong (Cond.code yX11_wrong cX11_wrong 4 none :: zWL) 0 [.ref a0, .int p1, .int p2] d L kd σ (fun σ2 => σ2 = F_X11_wrong a0 p1 p2 σ ∧ ((((0 < (σ.1 a0 13).toInt ∨ (σ.1 a0 15).toInt < 0 ∨ 1 ≤ (σ2.1 a0 15).toInt)) ∧ (((1 ≤ (σ.1 a0 15).toInt → 1 ≤ (σ2.1 a0 15).toInt) ∧ (0 ≤ (σ.1 a0 15).toInt → 0 ≤ (σ2.1 a0 15).toInt)))) ∧ zJ κ L kd σ2 ∧ zSame a0 [15, 16] [] L kd σ σ2)) := by
  refine zMv.of (own := RX11) (by decide +kernel) rfl rfl (Nat.le_of_ble_eq_true rfl) ?_
  intro p e s m args below meth c A Q X ret
  have hS : zSame a0 [15, 16] [] L kd σ σ := zSame.rf
  refine zg_lv (lv2 := [(0, .ref a0), (1, .int p1), (2, .int p2)]) rfl ?_
  obtain ⟨R, hR⟩ : ∃ R, R = F_X11_wrong a0 p1 p2 σ := ⟨_, rfl⟩
  have E := hR
  unfold F_X11_wrong at E
  refine zg_aload_n X 0 rfl dX11_wrong_0 ?_
  refine fg_X11_24 X hI ha0 dX11_wrong_1 (fun v1 ev1 hv1 => ?_)
  replace E := zLet_s (zgr ev1) E
  refine zg_iload_n X 2 rfl dX11_wrong_4 ?_
  refine ag_106 X hI hv1 (by omega) (by omega) dX11_wrong_5 (fun v2 ev2 _ => ?_)
  replace E := zLet_s ev2 E
  refine zg_istore_n X [(3, .int v2), (0, .ref a0), (1, .int p1), (2, .int p2)] dX11_wrong_6 (by decide) rfl ?_
  refine zg_aload_n X 1 rfl dX11_wrong_7 ?_
  refine fg_X11_206 X hI ha0 dX11_wrong_8 (fun v3 ev3 hv3 => ?_)
  replace E := zLet_s ev3 E
  have kv3 : (σ.1 a0 13).toInt = v3.toInt := by rw [ev3]
  refine zg_if_gt X 45 dX11_wrong_11 (by decide) (fun c4 => ?_) (fun c4 => ?_)
  · skip
    replace E := zIf_t c4 E
    exact ret _ _ _ dX11_wrong_45 ⟨E.symm.trans hR, ⟨⟨(by omega), (by omega)⟩, hI, hS⟩⟩
  · skip
    replace E := zIf_f (Int.not_lt.mpr c4) E
    refine zg_aload_n X 1 rfl dX11_wrong_14 ?_
    refine fg_X11_215 X hI ha0 dX11_wrong_15 (fun v5 ev5 _ => ?_)
    replace E := zLet_s ev5 E
    have kv5 : (σ.1 a0 15).toInt = v5.toInt := by rw [ev5]
    refine zg_if_eq X 46 dX11_wrong_18 (by decide) (fun c6 => ?_) (fun c6 => ?_)
    · skip
      replace E := zIf_t c6 E
      refine zg_aload_n X 1 rfl dX11_wrong_46 ?_
      refine zg_iload_n X 2 rfl dX11_wrong_47 ?_
      refine fp_X11_215 X hI ha0 (zb_rng _) dX11_wrong_48 (fun s7 es7 hI => ?_)
      replace E := zLet_s es7 E
      have g8 := (zSame.rf (o := a0) (Wf := [15]) (Wa := []) (L := L) (kd := kd) (σ := σ)).f ha0 es7 rfl
      have fs7_13 : (s7.1 a0 13).toInt = (σ.1 a0 13).toInt := by rw [g8.2.1 13 (by decide)]
      have hS := hS.tr g8 (by decide) (by decide)
      have fs7_15 : (s7.1 a0 15).toInt = p1.toInt := by rw [es7]; exact congrArg _ (zu_s _ _ _ _)
      have e10 : p1 = s7.1 a0 15 := by rw [es7]; exact zm_s
      refine zg_aload_n X 1 rfl dX11_wrong_51 ?_
      refine zg_iload_n X 0 rfl dX11_wrong_52 ?_
      refine fp_X11_218 X hI ha0 (zb_rng _) dX11_wrong_53 (fun s11 es11 hI => ?_)
      replace E := zLet_s es11 E
      have g12 := (zSame.rf (o := a0) (Wf := [16]) (Wa := []) (L := L) (kd := kd) (σ := s7)).f ha0 es11 rfl
      have fs11_13 : (s11.1 a0 13).toInt = (s7.1 a0 13).toInt := by rw [g12.2.1 13 (by decide)]
      have fs11_15 : (s11.1 a0 15).toInt = (s7.1 a0 15).toInt := by rw [g12.2.1 15 (by decide)]
      have hS := hS.tr g12 (by decide) (by decide)
      have fs11_16 : (s11.1 a0 16).toInt = v2.toInt := by rw [es11]; exact congrArg _ (zu_s _ _ _ _)
      have e15 : v2 = s11.1 a0 16 := by rw [es11]; exact zm_s
      exact ret _ _ _ dX11_wrong_56 ⟨E.symm.trans hR, ⟨⟨(by omega), (by omega)⟩, hI, hS⟩⟩
    · skip
      replace E := zIf_f c6 E
      refine zg_iload_n X 0 rfl dX11_wrong_21 ?_
      refine zg_aload_n X 1 rfl dX11_wrong_22 ?_
      refine fg_X11_218 X hI ha0 dX11_wrong_23 (fun v16 ev16 _ => ?_)
      replace E := zLet_s ev16 E
      have zv2_z17 := zb_rng v2
      have zv16_z18 := zb_rng v16
      refine zg_icmp_gt X 45 dX11_wrong_26 (by decide) (fun c19 => ?_) (fun c19 => ?_)
      · skip
        replace E := zIf_t c19 E
        exact ret _ _ _ dX11_wrong_45 ⟨E.symm.trans hR, ⟨⟨(by omega), (by omega)⟩, hI, hS⟩⟩
      · skip
        replace E := zIf_f (Int.not_lt.mpr c19) E
        refine zg_iload_n X 0 rfl dX11_wrong_29 ?_
        refine zg_aload_n X 1 rfl dX11_wrong_30 ?_
        refine fg_X11_218 X hI ha0 dX11_wrong_31 (fun v20 ev20 _ => ?_)
        replace E := zLet_s ev20 E
        have mv20 : v20.toInt = v16.toInt := by rw [ev20, ← ev16]
        refine zg_icmp_ne X 46 dX11_wrong_34 (by decide) (fun c21 => ?_) (fun c21 => ?_)
        · skip
          replace E := zIf_f c21 E
          refine zg_aload_n X 1 rfl dX11_wrong_46 ?_
          refine zg_iload_n X 2 rfl dX11_wrong_47 ?_
          refine fp_X11_215 X hI ha0 (zb_rng _) dX11_wrong_48 (fun s22 es22 hI => ?_)
          replace E := zLet_s es22 E
          have g23 := (zSame.rf (o := a0) (Wf := [15]) (Wa := []) (L := L) (kd := kd) (σ := σ)).f ha0 es22 rfl
          have fs22_13 : (s22.1 a0 13).toInt = (σ.1 a0 13).toInt := by rw [g23.2.1 13 (by decide)]
          have hS := hS.tr g23 (by decide) (by decide)
          have fs22_15 : (s22.1 a0 15).toInt = p1.toInt := by rw [es22]; exact congrArg _ (zu_s _ _ _ _)
          have e26 : p1 = s22.1 a0 15 := by rw [es22]; exact zm_s
          refine zg_aload_n X 1 rfl dX11_wrong_51 ?_
          refine zg_iload_n X 0 rfl dX11_wrong_52 ?_
          refine fp_X11_218 X hI ha0 (zb_rng _) dX11_wrong_53 (fun s27 es27 hI => ?_)
          replace E := zLet_s es27 E
          have g28 := (zSame.rf (o := a0) (Wf := [16]) (Wa := []) (L := L) (kd := kd) (σ := s22)).f ha0 es27 rfl
          have fs27_13 : (s27.1 a0 13).toInt = (s22.1 a0 13).toInt := by rw [g28.2.1 13 (by decide)]
          have fs27_15 : (s27.1 a0 15).toInt = (s22.1 a0 15).toInt := by rw [g28.2.1 15 (by decide)]
          have hS := hS.tr g28 (by decide) (by decide)
          have fs27_16 : (s27.1 a0 16).toInt = v2.toInt := by rw [es27]; exact congrArg _ (zu_s _ _ _ _)
          have e31 : v2 = s27.1 a0 16 := by rw [es27]; exact zm_s
          exact ret _ _ _ dX11_wrong_56 ⟨E.symm.trans hR, ⟨⟨(by omega), (by omega)⟩, hI, hS⟩⟩
        · skip
          replace E := zIf_t c21 E
          refine zg_iload_n X 2 rfl dX11_wrong_37 ?_
          refine zg_aload_n X 1 rfl dX11_wrong_38 ?_
          refine fg_X11_215 X hI ha0 dX11_wrong_39 (fun v32 ev32 _ => ?_)
          replace E := zLet_s ev32 E
          have kv32 : (σ.1 a0 15).toInt = v32.toInt := by rw [ev32]
          have mv32 : v32.toInt = v5.toInt := by rw [ev32, ← ev5]
          have zp1_z33 := zb_rng p1
          have zv32_z34 := zb_rng v32
          refine zg_icmp_lt X 46 dX11_wrong_42 (by decide) (fun c35 => ?_) (fun c35 => ?_)
          · skip
            replace E := zIf_t c35 E
            refine zg_aload_n X 1 rfl dX11_wrong_46 ?_
            refine zg_iload_n X 2 rfl dX11_wrong_47 ?_
            refine fp_X11_215 X hI ha0 (zb_rng _) dX11_wrong_48 (fun s36 es36 hI => ?_)
            replace E := zLet_s es36 E
            have g37 := (zSame.rf (o := a0) (Wf := [15]) (Wa := []) (L := L) (kd := kd) (σ := σ)).f ha0 es36 rfl
            have fs36_13 : (s36.1 a0 13).toInt = (σ.1 a0 13).toInt := by rw [g37.2.1 13 (by decide)]
            have hS := hS.tr g37 (by decide) (by decide)
            have fs36_15 : (s36.1 a0 15).toInt = p1.toInt := by rw [es36]; exact congrArg _ (zu_s _ _ _ _)
            have e40 : p1 = s36.1 a0 15 := by rw [es36]; exact zm_s
            refine zg_aload_n X 1 rfl dX11_wrong_51 ?_
            refine zg_iload_n X 0 rfl dX11_wrong_52 ?_
            refine fp_X11_218 X hI ha0 (zb_rng _) dX11_wrong_53 (fun s41 es41 hI => ?_)
            replace E := zLet_s es41 E
            have g42 := (zSame.rf (o := a0) (Wf := [16]) (Wa := []) (L := L) (kd := kd) (σ := s36)).f ha0 es41 rfl
            have fs41_13 : (s41.1 a0 13).toInt = (s36.1 a0 13).toInt := by rw [g42.2.1 13 (by decide)]
            have fs41_15 : (s41.1 a0 15).toInt = (s36.1 a0 15).toInt := by rw [g42.2.1 15 (by decide)]
            have hS := hS.tr g42 (by decide) (by decide)
            have fs41_16 : (s41.1 a0 16).toInt = v2.toInt := by rw [es41]; exact congrArg _ (zu_s _ _ _ _)
            have e45 : v2 = s41.1 a0 16 := by rw [es41]; exact zm_s
            exact ret _ _ _ dX11_wrong_56 ⟨E.symm.trans hR, ⟨⟨(by omega), (by omega)⟩, hI, hS⟩⟩
          · skip
            replace E := zIf_f (Int.not_lt.mpr c35) E
            exact ret _ _ _ dX11_wrong_45 ⟨E.symm.trans hR, ⟨⟨(by omega), (by omega)⟩, hI, hS⟩⟩
set_option maxHeartbeats 4000000 in
set_option maxRecDepth 100000 in
theorem t_X11_keepsRow (l : Launch) (d : zD2) (L : List Nat) (kd : Nat → Nat) (κ : Int) (σ : zS) (hI : zJ κ L kd σ) (a0 : Nat) (ha0 : zT L kd a0 11) : zMv l yX11_keepsRow (Cond.code yX11_keepsRow cX11_keepsRow 2 none :: zWL) 0 [.ref a0] d L kd σ (fun σ2 => σ2 = F_X11_keepsRow a0 σ ∧ ((∀ j : Int, 0 ≤ j → j < 50 → zp a0 σ2 48 j = zp a0 σ2 49 j) ∧ zJ κ L kd σ2 ∧ zSame a0 [] [148] L kd σ σ2)) := by
  refine zMv.of (own := RX11) (by decide +kernel) rfl rfl (Nat.le_of_ble_eq_true rfl) ?_
  intro p e s m args below meth c A Q X ret
  have hS : zSame a0 [] [148] L kd σ σ := zSame.rf
  refine zg_lv (lv2 := [(0, .ref a0)]) rfl ?_
  obtain ⟨R, hR⟩ : ∃ R, R = F_X11_keepsRow a0 σ := ⟨_, rfl⟩
  have E := hR
  unfold F_X11_keepsRow at E
  refine zg_iconst X 0 dX11_keepsRow_0 (by decide) (fun v1 _ hv1 => ?_)
  replace E := zLet_s (zcst hv1 (by decide)) E
  refine zg_istore_n X [(1, .int v1), (0, .ref a0)] dX11_keepsRow_1 (by decide) rfl ?_
  have Lp3 : ∀ (nLp3 : Nat) (τ3 : zS) (x2 : Int32), zJ κ L kd τ3 → zSame a0 [] [148] L kd σ τ3 → zp a0 τ3 49 = zp a0 σ 49 → R = F_X11_keepsRow_2 a0  nLp3 x2 τ3 → 0 ≤ x2.toInt ∧ x2.toInt ≤ 50 → (50) - x2.toInt + 1 < (nLp3 : Int) → (∀ j : Int, 0 ≤ j → j < x2.toInt → zp a0 τ3 48 j = zp a0 σ 49 j) → zG d L kd A 2 p l e (k2_rm 0 (100 * 0)) s m args below meth c Q τ3 2 [(1, .int x2), (0, .ref a0)] [] := by
    intro nLp3
    induction nLp3 with
    | zero => intro τ3 x2 hI hS A49_Lp3 E  hxLp3 hm _ ; exact absurd hm (by omega)
    | succ nLp3 ihLp3 =>
      intro τ3 x2 hI hS A49_Lp3 E  hxLp3 hmLp3 hc
      rw [F_X11_keepsRow_2] at E
      refine zg_iload_n X 0 rfl dX11_keepsRow_2 ?_
      refine zg_bipush X 50 dX11_keepsRow_3 (by decide) (fun v4 _ hv4 => ?_)
      replace E := zLet_s (zcst hv4 (by decide)) E
      refine zg_icmp_ge X 26 dX11_keepsRow_5 (by decide) (fun c5 => ?_) (fun c5 => ?_)
      · skip
        replace E := zIf_f (Int.not_lt.mpr c5) E
        exact ret _ _ _ dX11_keepsRow_26 ⟨E.symm.trans hR, ⟨(fun j h0 h1 => by rw [A49_Lp3]; exact hc j h0 (by omega)), hI, hS⟩⟩
      · skip
        replace E := zIf_t c5 E
        refine zg_aload_n X 1 rfl dX11_keepsRow_8 ?_
        refine fg_X11_107 X hI ha0 dX11_keepsRow_9 (fun v6 ev6 hv6 => ?_)
        replace E := zLet_s (zgr ev6) E
        refine zg_iload_n X 0 rfl dX11_keepsRow_12 ?_
        refine zg_aload_n X 1 rfl dX11_keepsRow_13 ?_
        refine fg_X11_110 X hI ha0 dX11_keepsRow_14 (fun v7 ev7 hv7 => ?_)
        replace E := zLet_s (zgr ev7) E
        refine zg_iload_n X 0 rfl dX11_keepsRow_17 ?_
        refine ag_149 X hI hv7 (by omega) (by omega) dX11_keepsRow_18 (fun v8 ev8 _ => ?_)
        replace E := zLet_s ev8 E
        have qv8 := zp_ld ev7 ev8
        rw [A49_Lp3] at qv8
        refine as_148 X hI hv6 (by omega) (by omega) dX11_keepsRow_19 (fun s9 es9 hI => ?_)
        replace E := zLet_s es9 E
        have g10 := (zSame.rf (o := a0) (Wf := []) (Wa := [148]) (L := L) (kd := kd) (σ := τ3)).a ha0 hv6 es9 rfl (by decide)
        have rs9 := zp_st (σ := τ3) (σ2 := s9) (i := x2) (x := v8) ev6 es9 (by omega)
        have ws9 := rs9
        have hS := hS.tr g10 (by decide) (by decide)
        have as9_49 := (zp_same hI ha0 g10 49 rfl (by decide) (by decide)).trans A49_Lp3
        refine zg_iinc X 1 (fun v11 => [(1, .int v11), (0, .ref a0)]) 0 dX11_keepsRow_20 rfl (by decide) (by decide) (by omega) (by omega) (fun _ => rfl) (fun v11 ev11 hv11 => ?_)
        replace E := zLet_s (zinc ev11 (by decide)) E
        refine zg_goto X 2 dX11_keepsRow_23 (by decide) ?_
        refine zg_sub [0, 1] rfl ?_
        exact ihLp3 _ v11 hI hS as9_49 E  (by omega) (by omega) (fun j h0 h1 => by rw [ws9 j h0]; split <;> rename_i hj <;> first | (rw [hj]; exact qv8) | exact hc j h0 (by omega))
  refine zg_sub [0, 1] rfl ?_
  exact Lp3 10000 _ v1 hI hS rfl E  (by omega) (by omega) (fun j h0 h1 => absurd h1 (by omega))
set_option maxHeartbeats 4000000 in
set_option maxRecDepth 100000 in
theorem t_X11_dammedBits (l : Launch) (d : zD2) (L : List Nat) (kd : Nat → Nat) (κ : Int) (σ : zS) (hI : zJ κ L kd σ) (a0 : Nat) (ha0 : zT L kd a0 11) : zMi l yX11_dammedBits (Cond.code yX11_dammedBits cX11_dammedBits 3 (some .int) :: zWL) 1 [.ref a0] d L kd σ (fun v σ2 => v = F_X11_dammedBits a0 σ ∧ σ = σ2) := by
  refine zMi.of (own := RX11) (by decide +kernel) rfl rfl (Nat.le_of_ble_eq_true rfl) ?_
  intro p e s m args below meth c A Q X ret
  refine zg_lv (lv2 := [(0, .ref a0)]) rfl ?_
  obtain ⟨R, hR⟩ : ∃ R, R = F_X11_dammedBits a0 σ := ⟨_, rfl⟩
  have E := hR
  unfold F_X11_dammedBits at E
  refine zg_iconst X 0 dX11_dammedBits_0 (by decide) (fun v1 _ hv1 => ?_)
  replace E := zLet_s (zcst hv1 (by decide)) E
  refine zg_istore_n X [(1, .int v1), (0, .ref a0)] dX11_dammedBits_1 (by decide) rfl ?_
  refine zg_iconst X 1 dX11_dammedBits_2 (by decide) (fun v2 _ hv2 => ?_)
  replace E := zLet_s (zcst hv2 (by decide)) E
  refine zg_istore_n X [(2, .int v2), (1, .int v1), (0, .ref a0)] dX11_dammedBits_3 (by decide) rfl ?_
  have Lp5 : ∀ (nLp5 : Nat) (x3 : Int32) (x4 : Int32), R = F_X11_dammedBits_4 a0 σ  nLp5 x3 x4 → 1 ≤ x3.toInt ∧ x3.toInt ≤ 12 → (12) - x3.toInt + 1 < (nLp5 : Int) → zG d L kd A 3 p l e (k2_rm 1 (100 * 1)) s m args below meth c Q σ 4 [(2, .int x3), (1, .int x4), (0, .ref a0)] [] := by
    intro nLp5
    induction nLp5 with
    | zero => intro x3 x4  E  hxLp5 hm ; exact absurd hm (by omega)
    | succ nLp5 ihLp5 =>
      intro x3 x4  E  hxLp5 hmLp5 
      rw [F_X11_dammedBits_4] at E
      refine zg_iload_n X 0 rfl dX11_dammedBits_4 ?_
      refine zg_aload_n X 2 rfl dX11_dammedBits_5 ?_
      refine zg_cVi (As := []) (st := [.int x3]) X ha0 rfl (by decide) rfl (t_X11_many l d L kd κ _ hI a0 ha0   ) mk_X11_313 mc_X11_many mz_X11 mi_X11_many ml_X11_many (na := 0) ⟨md_X11.1, md_X11.2, by decide +kernel⟩ rfl ⟨by decide, by decide⟩ (Nat.le_of_ble_eq_true rfl) dX11_dammedBits_6 (fun v7 t6 hq => ?_)
      obtain ⟨⟨hF, ⟨ht6_res, ht6_fact0⟩⟩, rfl⟩ := hq
      replace E := zLet_s hF E
      refine zg_icmp_ge X 32 dX11_dammedBits_9 (by decide) (fun c8 => ?_) (fun c8 => ?_)
      · skip
        replace E := zIf_f (Int.not_lt.mpr c8) E
        refine zg_iload_n X 1 rfl dX11_dammedBits_32 ?_
        exact ret _ _ _ _ dX11_dammedBits_33 rfl ⟨E.symm.trans hR, rfl⟩
      · skip
        replace E := zIf_t c8 E
        refine zg_iload_n X 1 rfl dX11_dammedBits_12 ?_
        refine zg_aload_n X 2 rfl dX11_dammedBits_13 ?_
        refine fg_X11_107 X hI ha0 dX11_dammedBits_14 (fun v9 ev9 hv9 => ?_)
        replace E := zLet_s (zgr ev9) E
        refine zg_bipush X 12 dX11_dammedBits_17 (by decide) (fun v10 _ hv10 => ?_)
        replace E := zLet_s (zcst hv10 (by decide)) E
        refine zg_iload_n X 0 rfl dX11_dammedBits_19 ?_
        refine zg_iadd X dX11_dammedBits_20 (by omega) (by omega) (fun v11 ev11 hv11 => ?_)
        replace E := zLet_s ev11 E
        refine ag_148 X hI hv9 (by omega) (by omega) dX11_dammedBits_21 (fun v12 ev12 _ => ?_)
        replace E := zLet_s ev12 E
        refine zg_iload_n X 0 rfl dX11_dammedBits_22 ?_
        refine zg_ishlW X dX11_dammedBits_23 (fun v13 ev13 => ?_)
        replace E := zLet_s ev13 E
        refine zg_iorW X dX11_dammedBits_24 (fun v14 ev14 => ?_)
        replace E := zLet_s ev14 E
        refine zg_istore_n X [(1, .int v14), (2, .int x3), (0, .ref a0)] dX11_dammedBits_25 (by decide) rfl ?_
        refine zg_iinc X 1 (fun v15 => [(2, .int v15), (1, .int v14), (0, .ref a0)]) 1 dX11_dammedBits_26 rfl (by decide) (by decide) (by omega) (by omega) (fun _ => rfl) (fun v15 ev15 hv15 => ?_)
        replace E := zLet_s (zinc ev15 (by decide)) E
        refine zg_goto X 4 dX11_dammedBits_29 (by decide) ?_
        refine zg_sub [0, 1, 2] rfl ?_
        exact ihLp5 v15 v14   E  (by omega) (by omega) 
  refine zg_sub [0, 1, 2] rfl ?_
  exact Lp5 10000 v2 v1   E  (by omega) (by omega) 
set_option maxHeartbeats 4000000 in
set_option maxRecDepth 100000 in
theorem t_X11_put (l : Launch) (d : zD2) (L : List Nat) (kd : Nat → Nat) (κ : Int) (σ : zS) (hI : zJ κ L kd σ) (a0 : Nat) (ha0 : zT L kd a0 11) (p1 : Int32) (hq0 : κ ≤ 1996) : zMv l yX11_put (Cond.code yX11_put cX11_put 3 none :: zWL) 0 [.ref a0, .int p1] d L kd σ (fun σ2 => σ2 = F_X11_put a0 p1 σ ∧ (zJ (κ + 4) L kd σ2 ∧ zSame a0 [2] [101] L kd σ σ2)) := by
  refine zMv.of (own := RX11) (by decide +kernel) rfl rfl (Nat.le_of_ble_eq_true rfl) ?_
  intro p e s m args below meth c A Q X ret
  have hS : zSame a0 [2] [101] L kd σ σ := zSame.rf
  refine zg_lv (lv2 := [(0, .ref a0), (1, .int p1)]) rfl ?_
  obtain ⟨R, hR⟩ : ∃ R, R = F_X11_put a0 p1 σ := ⟨_, rfl⟩
  have E := hR
  unfold F_X11_put at E
  refine zg_bipush X 24 dX11_put_0 (by decide) (fun v1 _ hv1 => ?_)
  replace E := zLet_s (zcst hv1 (by decide)) E
  refine zg_istore_n X [(2, .int v1), (0, .ref a0), (1, .int p1)] dX11_put_2 (by decide) rfl ?_
  refine zg_iload_n X 0 rfl dX11_put_3 ?_
  refine zg_if_lt X 36 dX11_put_4 (by decide) (fun c2 => ?_) (fun c2 => ?_)
  · omega
  · skip
    replace E := zIf_f (Int.not_lt.mpr c2) E
    refine zg_aload_n X 1 rfl dX11_put_7 ?_
    refine fg_X11_13 X hI ha0 dX11_put_8 (fun v3 ev3 hv3 => ?_)
    replace E := zLet_s (zgr ev3) E
    refine zg_aload_n X 1 rfl dX11_put_11 ?_
    refine fg_X11_169 X hI ha0 dX11_put_12 (fun v4 ev4 hv4 => ?_)
    replace E := zLet_s ev4 E
    have hkv4 := hI.2.2.1
    have kv4 : (σ.1 a0 2).toInt = v4.toInt := by rw [ev4]
    refine zg_iload_n X 2 rfl dX11_put_15 ?_
    refine zg_iload_n X 0 rfl dX11_put_16 ?_
    refine zg_ishrW X dX11_put_17 (fun v5 ev5 => ?_)
    replace E := zLet_s ev5 E
    refine zg_i2b X dX11_put_18 (fun v6 ev6 => ?_)
    replace E := zLet_s ev6 E
    refine as_101 X hI hv3 (by omega) (by omega) dX11_put_19 (fun s7 es7 hI => ?_)
    replace E := zLet_s es7 E
    have g8 := (zSame.rf (o := a0) (Wf := []) (Wa := [101]) (L := L) (kd := kd) (σ := σ)).a ha0 hv3 es7 rfl (by decide)
    have fs7_2 : (s7.1 a0 2).toInt = (σ.1 a0 2).toInt := by rw [g8.2.1 2 (by decide)]
    have hS := hS.tr g8 (by decide) (by decide)
    have e9 := g8.v ev4 (by decide)
    refine zg_aload_n X 1 rfl dX11_put_20 ?_
    refine zg_dup X dX11_put_21 rfl ?_
    refine fg_X11_169 X hI ha0 dX11_put_22 (fun v10 ev10 hv10 => ?_)
    replace E := zLet_s ev10 E
    have hkv10 := hI.2.2.1
    have kv10 : (s7.1 a0 2).toInt = v10.toInt := by rw [ev10]
    have mv10 : v10.toInt = v4.toInt := by rw [ev10, ← e9]
    refine zg_iconst X 1 dX11_put_25 (by decide) (fun v11 _ hv11 => ?_)
    replace E := zLet_s (zcst hv11 (by decide)) E
    refine zg_iadd X dX11_put_26 (by omega) (by omega) (fun v12 ev12 hv12 => ?_)
    replace E := zLet_s ev12 E
    refine fq_X11_169 X ha0 dX11_put_27 (fun s13 es13 => ?_)
    replace E := zLet_s es13 E
    have hI : zJ v12.toInt L kd s13 := by rw [es13]; exact zj_taped hI ha0 (by omega) (by omega)
    have g14 := (zSame.rf (o := a0) (Wf := [2]) (Wa := []) (L := L) (kd := kd) (σ := s7)).f ha0 es13 rfl
    have hS := hS.tr g14 (by decide) (by decide)
    have fs13_2 : (s13.1 a0 2).toInt = v12.toInt := by rw [es13]; exact congrArg _ (zu_s _ _ _ _)
    have e15 : v12 = s13.1 a0 2 := by rw [es13]; exact zm_s
    refine zg_iinc X (-8) (fun v16 => [(2, .int v16), (0, .ref a0), (1, .int p1)]) 0 dX11_put_30 rfl (by decide) (by decide) (by omega) (by omega) (fun _ => rfl) (fun v16 ev16 hv16 => ?_)
    replace E := zLet_s (zinc ev16 (by decide)) E
    refine zg_goto X 3 dX11_put_33 (by decide) ?_
    refine zg_iload_n X 0 rfl dX11_put_3 ?_
    refine zg_if_lt X 36 dX11_put_4 (by decide) (fun c17 => ?_) (fun c17 => ?_)
    · omega
    · skip
      replace E := zIf_f (Int.not_lt.mpr c17) E
      refine zg_aload_n X 1 rfl dX11_put_7 ?_
      refine fg_X11_13 X hI ha0 dX11_put_8 (fun v18 ev18 hv18 => ?_)
      replace E := zLet_s (zgr ev18) E
      refine zg_aload_n X 1 rfl dX11_put_11 ?_
      refine fg_X11_169 X hI ha0 dX11_put_12 (fun v19 ev19 hv19 => ?_)
      replace E := zLet_s ev19 E
      have hkv19 := hI.2.2.1
      have kv19 : (s13.1 a0 2).toInt = v19.toInt := by rw [ev19]
      have mv19 : v19.toInt = v12.toInt := by rw [ev19, ← e15]
      refine zg_iload_n X 2 rfl dX11_put_15 ?_
      refine zg_iload_n X 0 rfl dX11_put_16 ?_
      refine zg_ishrW X dX11_put_17 (fun v20 ev20 => ?_)
      replace E := zLet_s ev20 E
      refine zg_i2b X dX11_put_18 (fun v21 ev21 => ?_)
      replace E := zLet_s ev21 E
      refine as_101 X hI hv18 (by omega) (by omega) dX11_put_19 (fun s22 es22 hI => ?_)
      replace E := zLet_s es22 E
      have g23 := (zSame.rf (o := a0) (Wf := []) (Wa := [101]) (L := L) (kd := kd) (σ := s13)).a ha0 hv18 es22 rfl (by decide)
      have fs22_2 : (s22.1 a0 2).toInt = (s13.1 a0 2).toInt := by rw [g23.2.1 2 (by decide)]
      have hS := hS.tr g23 (by decide) (by decide)
      have e24 := g23.v ev19 (by decide)
      refine zg_aload_n X 1 rfl dX11_put_20 ?_
      refine zg_dup X dX11_put_21 rfl ?_
      refine fg_X11_169 X hI ha0 dX11_put_22 (fun v25 ev25 hv25 => ?_)
      replace E := zLet_s ev25 E
      have hkv25 := hI.2.2.1
      have kv25 : (s22.1 a0 2).toInt = v25.toInt := by rw [ev25]
      have mv25 : v25.toInt = v19.toInt := by rw [ev25, ← e24]
      refine zg_iconst X 1 dX11_put_25 (by decide) (fun v26 _ hv26 => ?_)
      replace E := zLet_s (zcst hv26 (by decide)) E
      refine zg_iadd X dX11_put_26 (by omega) (by omega) (fun v27 ev27 hv27 => ?_)
      replace E := zLet_s ev27 E
      refine fq_X11_169 X ha0 dX11_put_27 (fun s28 es28 => ?_)
      replace E := zLet_s es28 E
      have hI : zJ v27.toInt L kd s28 := by rw [es28]; exact zj_taped hI ha0 (by omega) (by omega)
      have g29 := (zSame.rf (o := a0) (Wf := [2]) (Wa := []) (L := L) (kd := kd) (σ := s22)).f ha0 es28 rfl
      have hS := hS.tr g29 (by decide) (by decide)
      have fs28_2 : (s28.1 a0 2).toInt = v27.toInt := by rw [es28]; exact congrArg _ (zu_s _ _ _ _)
      have e30 : v27 = s28.1 a0 2 := by rw [es28]; exact zm_s
      refine zg_iinc X (-8) (fun v31 => [(2, .int v31), (0, .ref a0), (1, .int p1)]) 0 dX11_put_30 rfl (by decide) (by decide) (by omega) (by omega) (fun _ => rfl) (fun v31 ev31 hv31 => ?_)
      replace E := zLet_s (zinc ev31 (by decide)) E
      refine zg_goto X 3 dX11_put_33 (by decide) ?_
      refine zg_iload_n X 0 rfl dX11_put_3 ?_
      refine zg_if_lt X 36 dX11_put_4 (by decide) (fun c32 => ?_) (fun c32 => ?_)
      · omega
      · skip
        replace E := zIf_f (Int.not_lt.mpr c32) E
        refine zg_aload_n X 1 rfl dX11_put_7 ?_
        refine fg_X11_13 X hI ha0 dX11_put_8 (fun v33 ev33 hv33 => ?_)
        replace E := zLet_s (zgr ev33) E
        refine zg_aload_n X 1 rfl dX11_put_11 ?_
        refine fg_X11_169 X hI ha0 dX11_put_12 (fun v34 ev34 hv34 => ?_)
        replace E := zLet_s ev34 E
        have hkv34 := hI.2.2.1
        have kv34 : (s28.1 a0 2).toInt = v34.toInt := by rw [ev34]
        have mv34 : v34.toInt = v27.toInt := by rw [ev34, ← e30]
        refine zg_iload_n X 2 rfl dX11_put_15 ?_
        refine zg_iload_n X 0 rfl dX11_put_16 ?_
        refine zg_ishrW X dX11_put_17 (fun v35 ev35 => ?_)
        replace E := zLet_s ev35 E
        refine zg_i2b X dX11_put_18 (fun v36 ev36 => ?_)
        replace E := zLet_s ev36 E
        refine as_101 X hI hv33 (by omega) (by omega) dX11_put_19 (fun s37 es37 hI => ?_)
        replace E := zLet_s es37 E
        have g38 := (zSame.rf (o := a0) (Wf := []) (Wa := [101]) (L := L) (kd := kd) (σ := s28)).a ha0 hv33 es37 rfl (by decide)
        have fs37_2 : (s37.1 a0 2).toInt = (s28.1 a0 2).toInt := by rw [g38.2.1 2 (by decide)]
        have hS := hS.tr g38 (by decide) (by decide)
        have e39 := g38.v ev34 (by decide)
        refine zg_aload_n X 1 rfl dX11_put_20 ?_
        refine zg_dup X dX11_put_21 rfl ?_
        refine fg_X11_169 X hI ha0 dX11_put_22 (fun v40 ev40 hv40 => ?_)
        replace E := zLet_s ev40 E
        have hkv40 := hI.2.2.1
        have kv40 : (s37.1 a0 2).toInt = v40.toInt := by rw [ev40]
        have mv40 : v40.toInt = v34.toInt := by rw [ev40, ← e39]
        refine zg_iconst X 1 dX11_put_25 (by decide) (fun v41 _ hv41 => ?_)
        replace E := zLet_s (zcst hv41 (by decide)) E
        refine zg_iadd X dX11_put_26 (by omega) (by omega) (fun v42 ev42 hv42 => ?_)
        replace E := zLet_s ev42 E
        refine fq_X11_169 X ha0 dX11_put_27 (fun s43 es43 => ?_)
        replace E := zLet_s es43 E
        have hI : zJ v42.toInt L kd s43 := by rw [es43]; exact zj_taped hI ha0 (by omega) (by omega)
        have g44 := (zSame.rf (o := a0) (Wf := [2]) (Wa := []) (L := L) (kd := kd) (σ := s37)).f ha0 es43 rfl
        have hS := hS.tr g44 (by decide) (by decide)
        have fs43_2 : (s43.1 a0 2).toInt = v42.toInt := by rw [es43]; exact congrArg _ (zu_s _ _ _ _)
        have e45 : v42 = s43.1 a0 2 := by rw [es43]; exact zm_s
        refine zg_iinc X (-8) (fun v46 => [(2, .int v46), (0, .ref a0), (1, .int p1)]) 0 dX11_put_30 rfl (by decide) (by decide) (by omega) (by omega) (fun _ => rfl) (fun v46 ev46 hv46 => ?_)
        replace E := zLet_s (zinc ev46 (by decide)) E
        refine zg_goto X 3 dX11_put_33 (by decide) ?_
        refine zg_iload_n X 0 rfl dX11_put_3 ?_
        refine zg_if_lt X 36 dX11_put_4 (by decide) (fun c47 => ?_) (fun c47 => ?_)
        · omega
        · skip
          replace E := zIf_f (Int.not_lt.mpr c47) E
          refine zg_aload_n X 1 rfl dX11_put_7 ?_
          refine fg_X11_13 X hI ha0 dX11_put_8 (fun v48 ev48 hv48 => ?_)
          replace E := zLet_s (zgr ev48) E
          refine zg_aload_n X 1 rfl dX11_put_11 ?_
          refine fg_X11_169 X hI ha0 dX11_put_12 (fun v49 ev49 hv49 => ?_)
          replace E := zLet_s ev49 E
          have hkv49 := hI.2.2.1
          have kv49 : (s43.1 a0 2).toInt = v49.toInt := by rw [ev49]
          have mv49 : v49.toInt = v42.toInt := by rw [ev49, ← e45]
          refine zg_iload_n X 2 rfl dX11_put_15 ?_
          refine zg_iload_n X 0 rfl dX11_put_16 ?_
          refine zg_ishrW X dX11_put_17 (fun v50 ev50 => ?_)
          replace E := zLet_s ev50 E
          refine zg_i2b X dX11_put_18 (fun v51 ev51 => ?_)
          replace E := zLet_s ev51 E
          refine as_101 X hI hv48 (by omega) (by omega) dX11_put_19 (fun s52 es52 hI => ?_)
          replace E := zLet_s es52 E
          have g53 := (zSame.rf (o := a0) (Wf := []) (Wa := [101]) (L := L) (kd := kd) (σ := s43)).a ha0 hv48 es52 rfl (by decide)
          have fs52_2 : (s52.1 a0 2).toInt = (s43.1 a0 2).toInt := by rw [g53.2.1 2 (by decide)]
          have hS := hS.tr g53 (by decide) (by decide)
          have e54 := g53.v ev49 (by decide)
          refine zg_aload_n X 1 rfl dX11_put_20 ?_
          refine zg_dup X dX11_put_21 rfl ?_
          refine fg_X11_169 X hI ha0 dX11_put_22 (fun v55 ev55 hv55 => ?_)
          replace E := zLet_s ev55 E
          have hkv55 := hI.2.2.1
          have kv55 : (s52.1 a0 2).toInt = v55.toInt := by rw [ev55]
          have mv55 : v55.toInt = v49.toInt := by rw [ev55, ← e54]
          refine zg_iconst X 1 dX11_put_25 (by decide) (fun v56 _ hv56 => ?_)
          replace E := zLet_s (zcst hv56 (by decide)) E
          refine zg_iadd X dX11_put_26 (by omega) (by omega) (fun v57 ev57 hv57 => ?_)
          replace E := zLet_s ev57 E
          refine fq_X11_169 X ha0 dX11_put_27 (fun s58 es58 => ?_)
          replace E := zLet_s es58 E
          have hI : zJ v57.toInt L kd s58 := by rw [es58]; exact zj_taped hI ha0 (by omega) (by omega)
          have g59 := (zSame.rf (o := a0) (Wf := [2]) (Wa := []) (L := L) (kd := kd) (σ := s52)).f ha0 es58 rfl
          have hS := hS.tr g59 (by decide) (by decide)
          have fs58_2 : (s58.1 a0 2).toInt = v57.toInt := by rw [es58]; exact congrArg _ (zu_s _ _ _ _)
          have e60 : v57 = s58.1 a0 2 := by rw [es58]; exact zm_s
          refine zg_iinc X (-8) (fun v61 => [(2, .int v61), (0, .ref a0), (1, .int p1)]) 0 dX11_put_30 rfl (by decide) (by decide) (by omega) (by omega) (fun _ => rfl) (fun v61 ev61 hv61 => ?_)
          replace E := zLet_s (zinc ev61 (by decide)) E
          refine zg_goto X 3 dX11_put_33 (by decide) ?_
          refine zg_iload_n X 0 rfl dX11_put_3 ?_
          refine zg_if_lt X 36 dX11_put_4 (by decide) (fun c62 => ?_) (fun c62 => ?_)
          · skip
            replace E := zIf_t c62 E
            exact ret _ _ _ dX11_put_36 ⟨E.symm.trans hR, ⟨(zj_eq (by omega) hI), hS⟩⟩
          · omega
set_option maxHeartbeats 4000000 in
set_option maxRecDepth 100000 in
theorem t_X11_plain (l : Launch) (d : zD2) (L : List Nat) (kd : Nat → Nat) (κ : Int) (σ : zS) (hI : zJ κ L kd σ) (a0 : Nat) (ha0 : zT L kd a0 11) (p1 : Int32) (hq0 : 0 ≤ p1.toInt ∧ p1.toInt ≤ 1) : zMv l yX11_plain (Cond.code yX11_plain cX11_plain 3 none :: zWL) 0 [.ref a0, .int p1] d L kd σ (fun σ2 => σ2 = F_X11_plain a0 p1 σ ∧ ((((zp a0 σ2 21 p1.toInt = 0)) ∧ ((∀ j : Int, 0 ≤ j → j ≠ p1.toInt → zp a0 σ2 21 j = zp a0 σ 21 j)) ∧ ((∀ k : Int, 0 ≤ k → k < 5 → zp a0 σ2 30 (5 * p1.toInt + k) = 0 ∧ zp a0 σ2 31 (5 * p1.toInt + k) = 0)) ∧ ((∀ j : Int, 0 ≤ j → (j < 5 * p1.toInt ∨ 5 * p1.toInt + 5 ≤ j) → zp a0 σ2 30 j = zp a0 σ 30 j ∧ zp a0 σ2 31 j = zp a0 σ 31 j))) ∧ zJ κ L kd σ2 ∧ zSame a0 [] [121, 126, 127, 128, 129, 130, 131] L kd σ σ2)) := by
  refine zMv.of (own := RX11) (by decide +kernel) rfl rfl (Nat.le_of_ble_eq_true rfl) ?_
  intro p e s m args below meth c A Q X ret
  have hS : zSame a0 [] [121, 126, 127, 128, 129, 130, 131] L kd σ σ := zSame.rf
  refine zg_lv (lv2 := [(0, .ref a0), (1, .int p1)]) rfl ?_
  obtain ⟨R, hR⟩ : ∃ R, R = F_X11_plain a0 p1 σ := ⟨_, rfl⟩
  have E := hR
  unfold F_X11_plain at E
  refine zg_aload_n X 0 rfl dX11_plain_0 ?_
  refine fg_X11_43 X hI ha0 dX11_plain_1 (fun v1 ev1 hv1 => ?_)
  replace E := zLet_s (zgr ev1) E
  refine zg_iload_n X 1 rfl dX11_plain_4 ?_
  refine zg_iconst X 0 dX11_plain_5 (by decide) (fun v2 _ hv2 => ?_)
  replace E := zLet_s (zcst hv2 (by decide)) E
  refine as_121 X hI hv1 (by omega) (by omega) ⟨by omega, by omega⟩ dX11_plain_6 (fun s3 es3 hI => ?_)
  replace E := zLet_s es3 E
  have g4 := (zSame.rf (o := a0) (Wf := []) (Wa := [121]) (L := L) (kd := kd) (σ := σ)).a ha0 hv1 es3 rfl (by decide)
  have rs3 := zp_st (σ := σ) (σ2 := s3) (i := p1) (x := v2) ev1 es3 (by omega)
  have ws3 := rs3
  have hS := hS.tr g4 (by decide) (by decide)
  have as3_30 := zp_same hI ha0 g4 30 rfl (by decide) (by decide)
  have as3_31 := zp_same hI ha0 g4 31 rfl (by decide) (by decide)
  have zw21 := ws3
  refine zg_aload_n X 0 rfl dX11_plain_7 ?_
  refine fg_X11_58 X hI ha0 dX11_plain_8 (fun v5 ev5 hv5 => ?_)
  replace E := zLet_s (zgr ev5) E
  refine zg_iload_n X 1 rfl dX11_plain_11 ?_
  refine zg_iconst X 0 dX11_plain_12 (by decide) (fun v6 _ hv6 => ?_)
  replace E := zLet_s (zcst hv6 (by decide)) E
  refine as_126 X hI hv5 (by omega) (by omega) dX11_plain_13 (fun s7 es7 hI => ?_)
  replace E := zLet_s es7 E
  have g8 := (zSame.rf (o := a0) (Wf := []) (Wa := [126]) (L := L) (kd := kd) (σ := s3)).a ha0 hv5 es7 rfl (by decide)
  have hS := hS.tr g8 (by decide) (by decide)
  have as7_21 := zp_same hI ha0 g8 21 rfl (by decide) (by decide)
  have as7_30 := (zp_same hI ha0 g8 30 rfl (by decide) (by decide)).trans as3_30
  have as7_31 := (zp_same hI ha0 g8 31 rfl (by decide) (by decide)).trans as3_31
  refine zg_aload_n X 0 rfl dX11_plain_14 ?_
  refine fg_X11_61 X hI ha0 dX11_plain_15 (fun v9 ev9 hv9 => ?_)
  replace E := zLet_s (zgr ev9) E
  refine zg_iload_n X 1 rfl dX11_plain_18 ?_
  refine zg_iconst X 0 dX11_plain_19 (by decide) (fun v10 _ hv10 => ?_)
  replace E := zLet_s (zcst hv10 (by decide)) E
  refine as_127 X hI hv9 (by omega) (by omega) dX11_plain_20 (fun s11 es11 hI => ?_)
  replace E := zLet_s es11 E
  have g12 := (zSame.rf (o := a0) (Wf := []) (Wa := [127]) (L := L) (kd := kd) (σ := s7)).a ha0 hv9 es11 rfl (by decide)
  have hS := hS.tr g12 (by decide) (by decide)
  have as11_21 := (zp_same hI ha0 g12 21 rfl (by decide) (by decide)).trans as7_21
  have as11_30 := (zp_same hI ha0 g12 30 rfl (by decide) (by decide)).trans as7_30
  have as11_31 := (zp_same hI ha0 g12 31 rfl (by decide) (by decide)).trans as7_31
  refine zg_aload_n X 0 rfl dX11_plain_21 ?_
  refine fg_X11_64 X hI ha0 dX11_plain_22 (fun v13 ev13 hv13 => ?_)
  replace E := zLet_s (zgr ev13) E
  refine zg_iload_n X 1 rfl dX11_plain_25 ?_
  refine zg_iconst X 1 dX11_plain_26 (by decide) (fun v14 _ hv14 => ?_)
  replace E := zLet_s (zcst hv14 (by decide)) E
  refine as_128 X hI hv13 (by omega) (by omega) dX11_plain_27 (fun s15 es15 hI => ?_)
  replace E := zLet_s es15 E
  have g16 := (zSame.rf (o := a0) (Wf := []) (Wa := [128]) (L := L) (kd := kd) (σ := s11)).a ha0 hv13 es15 rfl (by decide)
  have hS := hS.tr g16 (by decide) (by decide)
  have as15_21 := (zp_same hI ha0 g16 21 rfl (by decide) (by decide)).trans as11_21
  have as15_30 := (zp_same hI ha0 g16 30 rfl (by decide) (by decide)).trans as11_30
  have as15_31 := (zp_same hI ha0 g16 31 rfl (by decide) (by decide)).trans as11_31
  refine zg_aload_n X 0 rfl dX11_plain_28 ?_
  refine fg_X11_67 X hI ha0 dX11_plain_29 (fun v17 ev17 hv17 => ?_)
  replace E := zLet_s (zgr ev17) E
  refine zg_iload_n X 1 rfl dX11_plain_32 ?_
  refine zg_iconst X 0 dX11_plain_33 (by decide) (fun v18 _ hv18 => ?_)
  replace E := zLet_s (zcst hv18 (by decide)) E
  refine as_129 X hI hv17 (by omega) (by omega) dX11_plain_34 (fun s19 es19 hI => ?_)
  replace E := zLet_s es19 E
  have g20 := (zSame.rf (o := a0) (Wf := []) (Wa := [129]) (L := L) (kd := kd) (σ := s15)).a ha0 hv17 es19 rfl (by decide)
  have hS := hS.tr g20 (by decide) (by decide)
  have as19_21 := (zp_same hI ha0 g20 21 rfl (by decide) (by decide)).trans as15_21
  have as19_30 := (zp_same hI ha0 g20 30 rfl (by decide) (by decide)).trans as15_30
  have as19_31 := (zp_same hI ha0 g20 31 rfl (by decide) (by decide)).trans as15_31
  have zb21 : ∀ j : Int, 0 ≤ j → zp a0 s19 21 j = if j = p1.toInt then 0 else zp a0 σ 21 j := fun j h0 => by rw [as19_21, zw21 j h0]; split <;> first | omega | rfl
  refine zg_iconst X 0 dX11_plain_35 (by decide) (fun v21 _ hv21 => ?_)
  replace E := zLet_s (zcst hv21 (by decide)) E
  refine zg_istore_n X [(2, .int v21), (0, .ref a0), (1, .int p1)] dX11_plain_36 (by decide) rfl ?_
  have Lp23 : ∀ (nLp23 : Nat) (τ23 : zS) (x22 : Int32), zJ κ L kd τ23 → zSame a0 [] [121, 126, 127, 128, 129, 130, 131] L kd σ τ23 → R = F_X11_plain_37 a0 p1  nLp23 x22 τ23 → 0 ≤ x22.toInt ∧ x22.toInt ≤ 5 → (5) - x22.toInt + 1 < (nLp23 : Int) → (∀ j : Int, 0 ≤ j → zp a0 τ23 21 j = if j = p1.toInt then 0 else zp a0 σ 21 j) → (∀ k : Int, 0 ≤ k → k < x22.toInt → zp a0 τ23 30 (5 * p1.toInt + k) = 0 ∧ zp a0 τ23 31 (5 * p1.toInt + k) = 0) → (∀ j : Int, 0 ≤ j → (j < 5 * p1.toInt ∨ 5 * p1.toInt + 5 ≤ j) → zp a0 τ23 30 j = zp a0 σ 30 j ∧ zp a0 τ23 31 j = zp a0 σ 31 j) → zG d L kd A 3 p l e (k2_rm 0 (100 * 0)) s m args below meth c Q τ23 37 [(2, .int x22), (0, .ref a0), (1, .int p1)] [] := by
    intro nLp23
    induction nLp23 with
    | zero => intro τ23 x22 hI hS E  hxLp23 hm _ _ _ ; exact absurd hm (by omega)
    | succ nLp23 ihLp23 =>
      intro τ23 x22 hI hS E  hxLp23 hmLp23 h21 hk ho
      rw [F_X11_plain_37] at E
      refine zg_iload_n X 0 rfl dX11_plain_37 ?_
      refine zg_iconst X 5 dX11_plain_38 (by decide) (fun v24 _ hv24 => ?_)
      replace E := zLet_s (zcst hv24 (by decide)) E
      refine zg_icmp_ge X 70 dX11_plain_39 (by decide) (fun c25 => ?_) (fun c25 => ?_)
      · skip
        replace E := zIf_f (Int.not_lt.mpr c25) E
        exact ret _ _ _ dX11_plain_70 ⟨E.symm.trans hR, ⟨⟨(by rw [h21 _ (by omega), if_pos rfl]), (fun j h0 h1 => by rw [h21 j h0, if_neg h1]), (fun k h0 h1 => hk k h0 (by omega)), (ho)⟩, hI, hS⟩⟩
      · skip
        replace E := zIf_t c25 E
        refine zg_aload_n X 1 rfl dX11_plain_42 ?_
        refine fg_X11_70 X hI ha0 dX11_plain_43 (fun v26 ev26 hv26 => ?_)
        replace E := zLet_s (zgr ev26) E
        refine zg_iconst X 5 dX11_plain_46 (by decide) (fun v27 _ hv27 => ?_)
        replace E := zLet_s (zcst hv27 (by decide)) E
        refine zg_iload_n X 2 rfl dX11_plain_47 ?_
        refine zg_imulc X 5 dX11_plain_48 (by omega) (by omega) (by omega) (fun v28 ev28 hv28 => ?_)
        replace E := zLet_s ev28 E
        refine zg_iload_n X 0 rfl dX11_plain_49 ?_
        refine zg_iadd X dX11_plain_50 (by omega) (by omega) (fun v29 ev29 hv29 => ?_)
        replace E := zLet_s ev29 E
        refine zg_iconst X 0 dX11_plain_51 (by decide) (fun v30 _ hv30 => ?_)
        replace E := zLet_s (zcst hv30 (by decide)) E
        refine as_130 X hI hv26 (by omega) (by omega) dX11_plain_52 (fun s31 es31 hI => ?_)
        replace E := zLet_s es31 E
        have g32 := (zSame.rf (o := a0) (Wf := []) (Wa := [130]) (L := L) (kd := kd) (σ := τ23)).a ha0 hv26 es31 rfl (by decide)
        have rs31 := zp_st (σ := τ23) (σ2 := s31) (i := v29) (x := v30) ev26 es31 (by omega)
        have ws31 := rs31
        have hS := hS.tr g32 (by decide) (by decide)
        have as31_21 := zp_same hI ha0 g32 21 rfl (by decide) (by decide)
        have as31_31 := zp_same hI ha0 g32 31 rfl (by decide) (by decide)
        refine zg_aload_n X 1 rfl dX11_plain_53 ?_
        refine fg_X11_73 X hI ha0 dX11_plain_54 (fun v33 ev33 hv33 => ?_)
        replace E := zLet_s (zgr ev33) E
        refine zg_iconst X 5 dX11_plain_57 (by decide) (fun v34 _ hv34 => ?_)
        replace E := zLet_s (zcst hv34 (by decide)) E
        refine zg_iload_n X 2 rfl dX11_plain_58 ?_
        refine zg_imulc X 5 dX11_plain_59 (by omega) (by omega) (by omega) (fun v35 ev35 hv35 => ?_)
        replace E := zLet_s ev35 E
        refine zg_iload_n X 0 rfl dX11_plain_60 ?_
        refine zg_iadd X dX11_plain_61 (by omega) (by omega) (fun v36 ev36 hv36 => ?_)
        replace E := zLet_s ev36 E
        refine zg_iconst X 0 dX11_plain_62 (by decide) (fun v37 _ hv37 => ?_)
        replace E := zLet_s (zcst hv37 (by decide)) E
        refine as_131 X hI hv33 (by omega) (by omega) dX11_plain_63 (fun s38 es38 hI => ?_)
        replace E := zLet_s es38 E
        have g39 := (zSame.rf (o := a0) (Wf := []) (Wa := [131]) (L := L) (kd := kd) (σ := s31)).a ha0 hv33 es38 rfl (by decide)
        have rs38 := zp_st (σ := s31) (σ2 := s38) (i := v36) (x := v37) ev33 es38 (by omega)
        have ws38 := rs38
        rw [as31_31] at ws38
        have hS := hS.tr g39 (by decide) (by decide)
        have as38_21 := (zp_same hI ha0 g39 21 rfl (by decide) (by decide)).trans as31_21
        have as38_30 := zp_same hI ha0 g39 30 rfl (by decide) (by decide)
        refine zg_iinc X 1 (fun v40 => [(2, .int v40), (0, .ref a0), (1, .int p1)]) 0 dX11_plain_64 rfl (by decide) (by decide) (by omega) (by omega) (fun _ => rfl) (fun v40 ev40 hv40 => ?_)
        replace E := zLet_s (zinc ev40 (by decide)) E
        refine zg_goto X 37 dX11_plain_67 (by decide) ?_
        refine zg_sub [0, 1, 2] rfl ?_
        exact ihLp23 _ v40 hI hS E  (by omega) (by omega) (fun j h0 => by rw [as38_21]; exact h21 j h0) (fun k h0 h1 => by have y := fun h => hk k h0 h; rw [as38_30, ws31 _ (by omega), ws38 _ (by omega)]; split <;> split <;> first | exact ⟨by omega, by omega⟩ | (exfalso; omega) | exact y (by omega)) (fun j h0 h1 => by rw [as38_30, ws31 j h0, ws38 j h0, if_neg (by omega), if_neg (by omega)]; exact ho j h0 h1)
  refine zg_sub [0, 1, 2] rfl ?_
  exact Lp23 10000 _ v21 hI hS E  (by omega) (by omega) (zb21) (fun k h0 h1 => absurd h1 (by omega)) (fun j h0 h1 => by rw [as19_30, as19_31]; exact ⟨rfl, rfl⟩)
end
