/-! THE CUTTING OF A TEXT INTO TOKENS, the reference's -/
def zub (c : Int) : Int := if 0 ≤ c then c else c + 256
theorem zand255 : ∀ c : Int32, -128 ≤ c.toInt → c.toInt ≤ 127 → (c &&& (255 : Int32)).toInt = zub c.toInt := by
  intro c h0 h1
  have key : ∀ k : Fin 256, ((Int32.ofInt ((k.val : Int) - 128)) &&& (255 : Int32)).toInt = zub (Int32.ofInt ((k.val : Int) - 128)).toInt := by decide +kernel
  have e : c = Int32.ofInt (((c.toInt + 128).toNat : Int) - 128) := by
    rw [show ((c.toInt + 128).toNat : Int) - 128 = c.toInt by omega, Int32.ofInt_toInt]
  have q := key ⟨(c.toInt + 128).toNat, by omega⟩
  simp only at q
  rw [← e] at q
  exact q
theorem zL_ub {c : Int} (h0 : -128 ≤ c) : zLt (zub c) = zLt c := by
  unfold zLt zub
  split
  · rfl
  · exact propext ⟨fun h => by omega, fun h => by omega⟩
theorem zD_ub {c : Int} (h0 : -128 ≤ c) : zDg (zub c) = zDg c := by
  unfold zDg zub
  split
  · rfl
  · exact propext ⟨fun h => by omega, fun h => by omega⟩
theorem rL1 {c : Int32} : ((F_X11_isLetter c).toInt = 0) = ¬ zLt c.toInt := by
  have e1 : (97 : Int32).toInt = 97 := by decide
  have e2 : (122 : Int32).toInt = 122 := by decide
  have e3 : (1 : Int32).toInt = 1 := by decide
  unfold F_X11_isLetter zLt
  simp only [zlt, e1, e2]
  by_cases h1 : c.toInt < 97
  · rw [if_pos h1]
    exact propext ⟨fun _ h => by omega, fun _ => by decide⟩
  · rw [if_neg h1]
    by_cases h2 : 122 < c.toInt
    · rw [if_pos h2]
      exact propext ⟨fun _ h => by omega, fun _ => by decide⟩
    · rw [if_neg h2]
      exact propext ⟨fun h => absurd h (by decide), fun h => absurd (by omega) h⟩
theorem rD1 {c : Int32} : ((F_X11_isDigit c).toInt = 0) = ¬ zDg c.toInt := by
  have e1 : (48 : Int32).toInt = 48 := by decide
  have e2 : (57 : Int32).toInt = 57 := by decide
  unfold F_X11_isDigit zDg
  simp only [zlt, e1, e2]
  by_cases h1 : c.toInt < 48
  · rw [if_pos h1]
    exact propext ⟨fun _ h => by omega, fun _ => by decide⟩
  · rw [if_neg h1]
    by_cases h2 : 57 < c.toInt
    · rw [if_pos h2]
      exact propext ⟨fun _ h => by omega, fun _ => by decide⟩
    · rw [if_neg h2]
      exact propext ⟨fun h => absurd h (by decide), fun h => absurd (by omega) h⟩
/-- the text's bytes: n of them, at x -/
def zTx (a0 x n : Nat) (σ : zS) : Prop := σ.2.2 a0 3 = some x ∧ (σ.1 a0 4).toInt = n ∧ n ≤ 2000 ∧ ∀ j, -128 ≤ (σ.1 x j).toInt ∧ (σ.1 x j).toInt ≤ 127
theorem rby {a0 x n j : Nat} {σ : zS} {i : Int32} (h : zTx a0 x n σ) (hi : i.toInt = j) : (F_X11_byteAt a0 i σ).toInt = if j < n then zub (σ.1 x j).toInt else 0 := by
  obtain ⟨h1, h2, h3, h4⟩ := h
  have e1 : (σ.2.2 a0 3).getD 0 = x := by rw [h1]; rfl
  have e2 : i.toNatClampNeg = j := by rw [ztn, hi]; rfl
  unfold F_X11_byteAt
  simp only [zlt, e1, e2]
  by_cases c : j < n
  · rw [if_pos (by omega), if_pos c, zand255 _ (h4 j).1 (h4 j).2]
  · rw [if_neg (by omega), if_neg c]
    decide
theorem rbyL {a0 x n j : Nat} {σ : zS} {i : Int32} (h : zTx a0 x n σ) (hi : i.toInt = j) : zLt (F_X11_byteAt a0 i σ).toInt = (j < n ∧ zLt (σ.1 x j).toInt) := by
  rw [rby h hi]
  by_cases c : j < n
  · rw [if_pos c, zL_ub (h.2.2.2 j).1]
    exact propext ⟨fun q => ⟨c, q⟩, fun q => q.2⟩
  · rw [if_neg c]
    exact propext ⟨fun q => absurd q (by unfold zLt; omega), fun q => absurd q.1 c⟩
theorem rbyD {a0 x n j : Nat} {σ : zS} {i : Int32} (h : zTx a0 x n σ) (hi : i.toInt = j) : zDg (F_X11_byteAt a0 i σ).toInt = (j < n ∧ zDg (σ.1 x j).toInt) := by
  rw [rby h hi]
  by_cases c : j < n
  · rw [if_pos c, zD_ub (h.2.2.2 j).1]
    exact propext ⟨fun q => ⟨c, q⟩, fun q => q.2⟩
  · rw [if_neg c]
    exact propext ⟨fun q => absurd q (by unfold zDg; omega), fun q => absurd q.1 c⟩
theorem rap {x : Int64} {c : Int32} {l : List Int} (hx : x = Int64.ofInt (zvb 27 l)) (hc : zLt c.toInt) : F_X11_appends x c = Int64.ofInt (zvb 27 (l ++ [c.toInt - 96])) := by
  have e1 : (97 : Int32).toInt = 97 := by decide
  have e2 : (1 : Int32).toInt = 1 := by decide
  have h1 : (c - (97 : Int32) + (1 : Int32)).toInt = c.toInt - 96 := by
    have h2 : (c - (97 : Int32)).toInt = c.toInt - 97 := by
      rw [zb_sub (by rw [e1]; have := hc.1; omega) (by rw [e1]; have := hc.2; omega), e1]
    rw [zb_add (by rw [h2, e2]; have := hc.1; omega) (by rw [h2, e2]; have := hc.2; omega), h2, e2]
    omega
  have h3 : (c - (97 : Int32) + (1 : Int32)).toInt64 = Int64.ofInt (c.toInt - 96) := by
    rw [← Int64.ofInt_toInt ((c - (97 : Int32) + (1 : Int32)).toInt64), Int32.toInt_toInt64, h1]
  unfold F_X11_appends
  simp only [zlt]
  rw [if_neg (by have := hc.1; omega), zvb_snoc, Int64.ofInt_add, Int64.ofInt_mul, ← hx, h3, Int64.mul_comm]
  rfl
/-- the rows of the reference's tokens -/
def zRl (a0 k q v nm ky : Nat) (σ : zS) : Prop := σ.2.2 a0 5 = some k ∧ σ.2.2 a0 6 = some q ∧ σ.2.2 a0 7 = some v ∧ σ.2.2 a0 8 = some nm ∧ σ.2.2 a0 9 = some ky
def zAr (a0 k q v nm : Nat) (σ : zS) (m : Nat) (K Q V : Int32) (M : Int64) : zS := (zu (zu (zu (zu σ.1 k m K) q m Q) v m V) a0 10 (σ.1 a0 10 + 1), zu σ.2.1 nm m M, σ.2.2)
def zRd (a0 k q v nm : Nat) : Prop := k ≠ a0 ∧ q ≠ a0 ∧ v ≠ a0 ∧ k ≠ q ∧ k ≠ v ∧ q ≠ v
theorem rtok {a0 k q v nm ky m : Nat} {K Q V : Int32} {M : Int64} {σ : zS} (hl : zRl a0 k q v nm ky σ) (hd : zRd a0 k q v nm) (hm : (σ.1 a0 10).toInt = m) : F_X11_token a0 K Q V M σ = zAr a0 k q v nm σ m K Q V M := by
  obtain ⟨h1, h2, h3, h4, -⟩ := hl
  obtain ⟨d1, d2, d3, -, -, -⟩ := hd
  have e1 : (σ.2.2 a0 5).getD 0 = k := by rw [h1]; rfl
  have e2 : (σ.2.2 a0 6).getD 0 = q := by rw [h2]; rfl
  have e3 : (σ.2.2 a0 7).getD 0 = v := by rw [h3]; rfl
  have e4 : (σ.2.2 a0 8).getD 0 = nm := by rw [h4]; rfl
  have en : (σ.1 a0 10).toNatClampNeg = m := by rw [ztn, hm]; rfl
  have r1 : zu σ.1 k m K a0 10 = σ.1 a0 10 := by rw [zu_n _ _ _ (fun z => d1 z.symm)]
  have r2 : zu (zu σ.1 k m K) q m Q a0 10 = σ.1 a0 10 := by rw [zu_n _ _ _ (fun z => d2 z.symm), r1]
  have r3 : zu (zu (zu σ.1 k m K) q m Q) v m V a0 10 = σ.1 a0 10 := by rw [zu_n _ _ _ (fun z => d3 z.symm), r2]
  unfold F_X11_token zAr
  simp only [zlt, e1, e2, e3, e4, en, r1, r2, r3]
def zFq (a0 k q v nm : Nat) (σ σ' : zS) : Prop := σ'.2.2 = σ.2.2 ∧ (∀ a, a ≠ a0 → a ≠ k → a ≠ q → a ≠ v → σ'.1 a = σ.1 a) ∧ (∀ a, a ≠ nm → σ'.2.1 a = σ.2.1 a) ∧ ∀ j, j ≠ 10 → σ'.1 a0 j = σ.1 a0 j
theorem zFq.rf {a0 k q v nm : Nat} {σ : zS} : zFq a0 k q v nm σ σ := ⟨rfl, fun _ _ _ _ _ => rfl, fun _ _ => rfl, fun _ _ => rfl⟩
theorem zFq.tr {a0 k q v nm : Nat} {σ σ1 σ2 : zS} (h : zFq a0 k q v nm σ σ1) (g : zFq a0 k q v nm σ1 σ2) : zFq a0 k q v nm σ σ2 := ⟨g.1.trans h.1, fun a h1 h2 h3 h4 => (g.2.1 a h1 h2 h3 h4).trans (h.2.1 a h1 h2 h3 h4), fun a h1 => (g.2.2.1 a h1).trans (h.2.2.1 a h1), fun j hj => (g.2.2.2 j hj).trans (h.2.2.2 j hj)⟩
theorem zAr_fr {a0 k q v nm m : Nat} {K Q V : Int32} {M : Int64} {σ : zS} (hd : zRd a0 k q v nm) : zFq a0 k q v nm σ (zAr a0 k q v nm σ m K Q V M) := by
  obtain ⟨d1, d2, d3, -, -, -⟩ := hd
  refine ⟨rfl, fun a h1 h2 h3 h4 => ?_, fun a h1 => ?_, fun j hj => ?_⟩
  · show zu (zu (zu (zu σ.1 k m K) q m Q) v m V) a0 10 _ a = _
    rw [zu_n _ _ _ h1, zu_n _ _ _ h4, zu_n _ _ _ h3, zu_n _ _ _ h2]
  · show zu σ.2.1 nm m M a = _
    rw [zu_n _ _ _ h1]
  · show zu (zu (zu (zu σ.1 k m K) q m Q) v m V) a0 10 _ a0 j = _
    rw [zu_j _ _ _ _ _ (fun z => hj z.symm), zu_n _ _ _ (fun z => d3 z.symm), zu_n _ _ _ (fun z => d2 z.symm), zu_n _ _ _ (fun z => d1 z.symm)]
theorem zAr_at {a0 k q v nm m : Nat} {K Q V : Int32} {M : Int64} {σ : zS} (hd : zRd a0 k q v nm) (hm : (σ.1 a0 10).toInt = m) (hm2 : m < 402) : ((zAr a0 k q v nm σ m K Q V M).1 a0 10).toInt = ((m + 1 : Nat) : Int) ∧ (∀ j, (zAr a0 k q v nm σ m K Q V M).1 k j = if j = m then K else σ.1 k j) ∧ (∀ j, (zAr a0 k q v nm σ m K Q V M).1 q j = if j = m then Q else σ.1 q j) ∧ (∀ j, (zAr a0 k q v nm σ m K Q V M).1 v j = if j = m then V else σ.1 v j) ∧ ∀ j, (zAr a0 k q v nm σ m K Q V M).2.1 nm j = if j = m then M else σ.2.1 nm j := by
  obtain ⟨d1, d2, d3, d4, d5, d6⟩ := hd
  refine ⟨?_, fun j => ?_, fun j => ?_, fun j => ?_, fun j => ?_⟩
  · show (zu (zu (zu (zu σ.1 k m K) q m Q) v m V) a0 10 (σ.1 a0 10 + 1) a0 10).toInt = _
    rw [zu_s]
    exact zp1 hm (by omega)
  · show zu (zu (zu (zu σ.1 k m K) q m Q) v m V) a0 10 _ k j = _
    rw [zu_n _ _ _ d1, zu_n _ _ _ d5, zu_n _ _ _ d4, zu_a]
  · show zu (zu (zu (zu σ.1 k m K) q m Q) v m V) a0 10 _ q j = _
    rw [zu_n _ _ _ d2, zu_n _ _ _ d6, zu_a, zu_n _ _ _ (fun z => d4 z.symm)]
  · show zu (zu (zu (zu σ.1 k m K) q m Q) v m V) a0 10 _ v j = _
    rw [zu_n _ _ _ d3, zu_a, zu_n _ _ _ (fun z => d6 z.symm), zu_n _ _ _ (fun z => d5 z.symm)]
  · show zu σ.2.1 nm m M nm j = _
    rw [zu_a]
