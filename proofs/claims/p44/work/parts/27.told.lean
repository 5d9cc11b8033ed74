/-! A TEXT'S LAWS AS THEY ARE TOLD: codes written (zKc: those ahead stay), what waits (zWt: signs and brackets, few of them), both together (zEs: q operands more than signs wait) -/
def zKc (a0 : Nat) (σ σ2 : zS) : Prop := ∀ j : Int, 0 ≤ j → (j < (σ.1 a0 38).toInt ∨ (σ2.1 a0 38).toInt ≤ j) → zp a0 σ2 39 j = zp a0 σ 39 j ∧ zp a0 σ2 40 j = zp a0 σ 40 j
theorem zKc.rf {a0 : Nat} {σ : zS} : zKc a0 σ σ := fun _ _ _ => ⟨rfl, rfl⟩
theorem zKc.tr {a0 : Nat} {σ σ2 σ3 : zS} (h : zKc a0 σ σ2) (g : zKc a0 σ2 σ3) (h1 : (σ.1 a0 38).toInt ≤ (σ2.1 a0 38).toInt) (h2 : (σ2.1 a0 38).toInt ≤ (σ3.1 a0 38).toInt) : zKc a0 σ σ3 := fun j h0 hj => by
  have q1 := h j h0 (by omega)
  have q2 := g j h0 (by omega)
  exact ⟨q2.1.trans q1.1, q2.2.trans q1.2⟩
theorem zKc.eq {a0 : Nat} {σ σ2 : zS} (h1 : zp a0 σ2 39 = zp a0 σ 39) (h2 : zp a0 σ2 40 = zp a0 σ 40) : zKc a0 σ σ2 := fun j _ _ => ⟨congrFun h1 j, congrFun h2 j⟩
def nO (w : Int → Int) : Nat → Int
  | 0 => 0
  | n + 1 => nO w n + (if w n = 6 then 1 else 0)
theorem nO_in (w : Int → Int) : ∀ n : Nat, 0 ≤ nO w n ∧ nO w n ≤ n
  | 0 => ⟨Int.le_refl 0, Int.le_refl 0⟩
  | n + 1 => by
    have q := nO_in w n
    show 0 ≤ nO w n + (if w n = 6 then 1 else 0) ∧ nO w n + (if w n = 6 then 1 else 0) ≤ _
    split <;> omega
theorem nO_congr {w w' : Int → Int} : ∀ n : Nat, (∀ k : Nat, k < n → w' k = w k) → nO w' n = nO w n
  | 0, _ => rfl
  | n + 1, h => by
    show nO w' n + _ = nO w n + _
    rw [nO_congr n (fun k hk => h k (by omega)), h n (by omega)]
theorem nO_top {w : Int → Int} {W : Int} (h : 1 ≤ W) : nO w W.toNat = nO w (W - 1).toNat + (if w (W - 1) = 6 then 1 else 0) := by
  rw [show W.toNat = (W - 1).toNat + 1 by omega]
  show nO w (W - 1).toNat + (if w ((W - 1).toNat : Int) = 6 then 1 else 0) = _
  rw [show ((W - 1).toNat : Int) = W - 1 by omega]
def zWt (w : Int → Int) (n : Int) : Prop := ∀ i : Int, 0 ≤ i → i < n → (w i = 6 ∨ w i = 8 ∨ w i = 9 ∨ w i = 10 ∨ w i = 15) ∧ (w i = 6 → i ≤ 3 * nO w i.toNat + 2) ∧ (w i = 8 ∨ w i = 9 → i ≤ 3 * nO w i.toNat) ∧ (w i = 10 ∨ w i = 15 → i ≤ 3 * nO w i.toNat + 1)
def zEs (w f v : Int → Int) (W C fr q : Int) : Prop := 0 ≤ W ∧ W ≤ 64 ∧ zWt w W ∧ gCod f v fr C ∧ gDep f fr (C - fr).toNat = W - nO w W.toNat + q ∧ C + (W - nO w W.toNat) ≤ 839
theorem zEs.at {w f v : Int → Int} {W C fr q : Int} (h : zEs w f v W C fr q) : 0 ≤ W ∧ 0 ≤ nO w W.toNat ∧ nO w W.toNat ≤ W ∧ C + (W - nO w W.toNat) ≤ 839 ∧ 0 ≤ fr ∧ fr ≤ C := by
  have q := nO_in w W.toNat
  exact ⟨h.1, q.1, by have := h.1; omega, h.2.2.2.2.2, h.2.2.2.1.1, h.2.2.2.1.2.1⟩
theorem gCod.nil (f v : Int → Int) {a : Int} (h0 : 0 ≤ a) (h1 : a ≤ 840) : gCod f v a a := ⟨h0, by omega, h1, fun n hn => absurd hn (by omega)⟩
/-- a code more -/
theorem gCod.emit {f v f' v' : Int → Int} {a c c' k x : Int} (h : gCod f v a c) (hf : ∀ j : Int, 0 ≤ j → f' j = if j = c then k else f j) (hv : ∀ j : Int, 0 ≤ j → v' j = if j = c then x else v j) (hc : c' = c + 1) (h840 : c < 840) (hk : 0 ≤ k ∧ k ≤ 5) (hx : k = 1 → 0 ≤ x ∧ x ≤ 8) (h2 : 2 ≤ k → 2 ≤ gDep f a (c - a).toNat) (hd : 0 ≤ gDep f a (c - a).toNat ∧ gDep f a (c - a).toNat < 400) : gCod f' v' a c' ∧ gDep f' a (c' - a).toNat = gDep f a (c - a).toNat + (if k < 2 then 1 else -1) := by
  subst hc
  obtain ⟨g0, g1, g2, g3⟩ := h
  have ff : ∀ n : Nat, a + n < c → f' (a + n) = f (a + n) := fun n hn => by rw [hf _ (by omega), if_neg (by omega)]
  have vv : ∀ n : Nat, a + n < c → v' (a + n) = v (a + n) := fun n hn => by rw [hv _ (by omega), if_neg (by omega)]
  have dd : ∀ n : Nat, a + n ≤ c → gDep f' a n = gDep f a n := fun n hn => gDep_congr n (fun k hk => ff k (by omega))
  have ec : a + ((c - a).toNat : Int) = c := by omega
  refine ⟨⟨g0, by omega, by omega, fun n hn => ?_⟩, ?_⟩
  · by_cases z : a + n < c
    · rw [ff n z, vv n z, dd n (by omega)]
      exact g3 n z
    · have en : n = (c - a).toNat := by omega
      subst en
      rw [dd _ (by omega), ec, hf c (by omega), hv c (by omega), if_pos rfl, if_pos rfl]
      exact ⟨hk.1, hk.2, hx, h2, hd⟩
  · rw [show (c + 1 - a).toNat = (c - a).toNat + 1 by omega]
    show gDep f' a (c - a).toNat + (if f' (a + ((c - a).toNat : Int)) < 2 then 1 else -1) = _
    rw [dd _ (by omega), ec, hf c (by omega), if_pos rfl]
/-- an operand -/
theorem zEs.operand {w f v f' v' : Int → Int} {W C C' fr : Int} (h : zEs w f v W C fr 0) (hs : ∀ j : Int, 0 ≤ j → j ≠ C → f' j = f j ∧ v' j = v j) (hk : 0 ≤ f' C ∧ f' C ≤ 1 ∧ (f' C = 1 → 0 ≤ v' C ∧ v' C ≤ 8)) (hC : C' = C + 1) (hb : C' + (W - nO w W.toNat) ≤ 839) : zEs w f' v' W C' fr 1 := by
  obtain ⟨h1, h2, h3, h4, h5, h6⟩ := h
  have q := nO_in w W.toNat
  have e := gCod.emit (f' := f') (v' := v') (k := f' C) (x := v' C) h4 (fun j hj => if z : j = C then by rw [if_pos z, z] else by rw [if_neg z]; exact (hs j hj z).1) (fun j hj => if z : j = C then by rw [if_pos z, z] else by rw [if_neg z]; exact (hs j hj z).2) hC (by omega) ⟨hk.1, by omega⟩ hk.2.2 (fun z => absurd z (by omega)) (by rw [h5]; omega)
  refine ⟨h1, h2, h3, e.1, ?_, hb⟩
  rw [e.2, h5, if_pos (by omega)]
  omega
/-- a sign that waited comes out -/
theorem zEs.op {w f v f' v' : Int → Int} {W W' C C' fr k x : Int} (h : zEs w f v W C fr 1) (hW : 1 ≤ W) (hw : w (W - 1) ≠ 6) (hW' : W' = W - 1) (hC : C' = C + 1) (hf : ∀ j : Int, 0 ≤ j → f' j = if j = C then k else f j) (hv : ∀ j : Int, 0 ≤ j → v' j = if j = C then x else v j) (hk : 2 ≤ k ∧ k ≤ 5) : zEs w f' v' W' C' fr 1 ∧ nO w W'.toNat = nO w W.toNat := by
  obtain ⟨h1, h2, h3, h4, h5, h6⟩ := h
  subst hW'
  have t := nO_top (w := w) hW
  rw [if_neg hw] at t
  have q := nO_in w (W - 1).toNat
  have e := gCod.emit (f' := f') (v' := v') (k := k) (x := x) h4 hf hv hC (by omega) ⟨by omega, by omega⟩ (fun z => absurd z (by omega)) (fun _ => by rw [h5]; omega) (by rw [h5]; omega)
  refine ⟨⟨by omega, by omega, fun i g0 g1 => h3 i g0 (by omega), e.1, ?_, by omega⟩, by omega⟩
  rw [e.2, h5, if_neg (by omega)]
  omega
/-- one more waits -/
theorem zEs.push {w w' f v : Int → Int} {W W' C fr q q' x : Int} (h : zEs w f v W C fr q) (hw : ∀ j : Int, 0 ≤ j → w' j = if j = W then x else w j) (hW' : W' = W + 1) (h64 : W' ≤ 64) (hx : (x = 6 ∧ W ≤ 3 * nO w W.toNat + 2 ∧ q' = q) ∨ ((x = 8 ∨ x = 9) ∧ W ≤ 3 * nO w W.toNat ∧ q = q' + 1) ∨ ((x = 10 ∨ x = 15) ∧ W ≤ 3 * nO w W.toNat + 1 ∧ q = q' + 1)) (hb : C + (W' - nO w' W'.toNat) ≤ 839) : zEs w' f v W' C fr q' ∧ nO w' W'.toNat = nO w W.toNat + (if x = 6 then 1 else 0) := by
  obtain ⟨h1, h2, h3, h4, h5, h6⟩ := h
  subst hW'
  have cc : ∀ n : Nat, (n : Int) ≤ W → nO w' n = nO w n := fun n hn => nO_congr n (fun k hk => by rw [hw _ (by omega), if_neg (by omega)])
  have t := nO_top (w := w') (W := W + 1) (by omega)
  rw [show W + 1 - 1 = W by omega, cc W.toNat (by omega), hw W h1, if_pos rfl] at t
  refine ⟨⟨by omega, h64, fun i g0 g1 => ?_, h4, ?_, hb⟩, t⟩
  · rw [cc i.toNat (by omega), hw i g0]
    by_cases z : i = W
    · subst z
      rw [if_pos rfl]
      refine ⟨by omega, fun y => by omega, fun y => by omega, fun y => by omega⟩
    · rw [if_neg z]
      exact h3 i g0 (by omega)
  · rw [h5, t]
    split <;> omega
/-- a bracket goes -/
theorem zEs.pop {w f v : Int → Int} {W W' C fr : Int} (h : zEs w f v W C fr 1) (hW : 1 ≤ W) (hw : w (W - 1) = 6) (hW' : W' = W - 1) : zEs w f v W' C fr 1 ∧ nO w W'.toNat = nO w W.toNat - 1 ∧ W' ≤ 3 * nO w W'.toNat + 2 := by
  obtain ⟨h1, h2, h3, h4, h5, h6⟩ := h
  subst hW'
  have t := nO_top (w := w) hW
  rw [if_pos hw] at t
  have y := (h3 (W - 1) (by omega) (by omega)).2.1 hw
  refine ⟨⟨by omega, by omega, fun i g0 g1 => h3 i g0 (by omega), h4, ?_, by omega⟩, by omega, y⟩
  rw [h5]; omega
/-- where it stops -/
theorem zEs.stop {w f v : Int → Int} {W C fr q : Int} (h : zEs w f v W C fr q) : (W = 0 ∨ (1 ≤ W ∧ w (W - 1) = 6) → W ≤ 3 * nO w W.toNat) ∧ (W = 0 ∨ (1 ≤ W ∧ (w (W - 1) = 6 ∨ w (W - 1) = 8 ∨ w (W - 1) = 9)) → W ≤ 3 * nO w W.toNat + 1) ∧ (nO w W.toNat = 0 → W = 0 ∨ (1 ≤ W ∧ w (W - 1) = 6) → W = 0) := by
  obtain ⟨h1, h2, h3, h4, h5, h6⟩ := h
  have q0 := nO_in w W.toNat
  refine ⟨fun z => ?_, fun z => ?_, fun y z => ?_⟩
  · rcases z with z | ⟨z1, z2⟩
    · omega
    · have t := nO_top (w := w) z1
      rw [if_pos z2] at t
      have y := (h3 (W - 1) (by omega) (by omega)).2.1 z2
      omega
  · rcases z with z | ⟨z1, z2⟩
    · omega
    · have t := nO_top (w := w) z1
      have y := h3 (W - 1) (by omega) (by omega)
      have q1 := nO_in w (W - 1).toNat
      rcases z2 with z2 | z2
      · rw [if_pos z2] at t
        have := y.2.1 z2
        omega
      · rw [if_neg (by omega)] at t
        have := y.2.2.1 z2
        omega
  · rcases z with z | ⟨z1, z2⟩
    · exact z
    · have t := nO_top (w := w) z1
      rw [if_pos z2] at t
      have q1 := nO_in w (W - 1).toNat
      omega
/-- nothing waits -/
theorem zEs.zero (w f v : Int → Int) {c : Int} (h0 : 0 ≤ c) (h1 : c ≤ 839) : zEs w f v 0 c c 0 := by
  refine ⟨by omega, by omega, fun i g0 g1 => absurd g1 (by omega), gCod.nil f v h0 (by omega), ?_, ?_⟩
  · rw [Int.sub_self]; rfl
  · show c + (0 - nO w 0) ≤ 839
    show c + (0 - 0) ≤ 839
    omega
theorem zEs.cod {w f v : Int → Int} {W C fr q : Int} (h : zEs w f v W C fr q) : gCod f v fr C := h.2.2.2.1
theorem zEs.pushO {w w' f v : Int → Int} {W W' C fr q : Int} (h : zEs w f v W C fr q) (hw : ∀ j : Int, 0 ≤ j → w' j = if j = W then 6 else w j) (hW' : W' = W + 1) (h64 : W' ≤ 64) (hx : W ≤ 3 * nO w W.toNat + 2) : zEs w' f v W' C fr q ∧ nO w' W'.toNat = nO w W.toNat + 1 := by
  have h6 := h.at
  have cc : ∀ n : Nat, (n : Int) ≤ W → nO w' n = nO w n := fun n hn => nO_congr n (fun k hk => by rw [hw _ (by omega), if_neg (by omega)])
  have t := nO_top (w := w') (W := W + 1) (by omega)
  rw [show W + 1 - 1 = W by omega, cc W.toNat (by omega), hw W h6.1, if_pos rfl, if_pos rfl] at t
  have e := zEs.push (x := 6) (q' := q) h hw hW' h64 (Or.inl ⟨rfl, hx, rfl⟩) (by subst hW'; omega)
  exact ⟨e.1, by rw [e.2, if_pos rfl]⟩
theorem zEs.pushS {w w' f v : Int → Int} {W W' C fr x : Int} (h : zEs w f v W C fr 1) (hw : ∀ j : Int, 0 ≤ j → w' j = if j = W then x else w j) (hW' : W' = W + 1) (h64 : W' ≤ 64) (hx : ((x = 8 ∨ x = 9) ∧ W ≤ 3 * nO w W.toNat) ∨ ((x = 10 ∨ x = 15) ∧ W ≤ 3 * nO w W.toNat + 1)) (hb : C + (W' - nO w W.toNat) ≤ 839) : zEs w' f v W' C fr 0 ∧ nO w' W'.toNat = nO w W.toNat := by
  have h6 := h.at
  have cc : ∀ n : Nat, (n : Int) ≤ W → nO w' n = nO w n := fun n hn => nO_congr n (fun k hk => by rw [hw _ (by omega), if_neg (by omega)])
  have t := nO_top (w := w') (W := W + 1) (by omega)
  rw [show W + 1 - 1 = W by omega, cc W.toNat (by omega), hw W h6.1, if_pos rfl, if_neg (by omega)] at t
  have e := zEs.push (x := x) (q' := 0) h hw hW' h64 (by omega) (by subst hW'; omega)
  exact ⟨e.1, by rw [e.2, if_neg (by omega)]; omega⟩
/-- kept out of sight of omega -/
def zHide (p : Prop) : Prop := p
theorem zHide.mk {p : Prop} (h : p) : zHide p := h
theorem zHide.un {p : Prop} (h : zHide p) : p := h
/-- kinds of tokens are no lower than 0 -/
def gK (a0 : Nat) (σ : zS) : Prop := ∀ j : Int, 0 ≤ j → 0 ≤ zp a0 σ 5 j
theorem gK.same {κ : Int} {L : List Nat} {kd : Nat → Nat} {σ σ2 : zS} {a0 : Nat} {Wf Wa : List Nat} (hI : zJ κ L kd σ2) (ha : zT L kd a0 11) (g : zSame a0 Wf Wa L kd σ σ2) (hd : (!Wa.contains 105) = true) (h : gK a0 σ) : gK a0 σ2 := by
  rw [Bool.not_eq_true'] at hd
  unfold gK
  rw [zp_same hI ha g 5 rfl (by decide) hd]
  exact h
