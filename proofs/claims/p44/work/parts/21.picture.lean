/-! THE REFERENCE'S ROWS AS NUMBERS: zp a0 σ slot j: what the array in the slot holds at j. Bits: rows of kit/laws/BITS.to-paste. What is known of the state: gR (the row is a tree's), gN, gH, gE (now, history, held rows), gB (what comes by), gL (the laws that stand) -/
def bt (x : Int32) (i : Nat) : Bool := x.toBitVec.getLsbD i
theorem b_or (x y : Int32) (i : Nat) : bt (x ||| y) i = (bt x i || bt y i) := by unfold bt; rw [Int32.toBitVec_or, BitVec.getLsbD_or]
theorem b_and (x y : Int32) (i : Nat) : bt (x &&& y) i = (bt x i && bt y i) := by unfold bt; rw [Int32.toBitVec_and, BitVec.getLsbD_and]
theorem b_ext {x y : Int32} (h : ∀ i, i < 32 → bt x i = bt y i) : x = y := Int32.toBitVec_inj.mp (BitVec.eq_of_getLsbD_eq (fun i hi => h i hi))
theorem b_0 (i : Nat) : bt 0 i = false := BitVec.getLsbD_zero
theorem s_l : ∀ n, n < 32 → ((nI n &&& 31).toBitVec.smod 32).toNat = n := by decide +kernel
theorem b_shl (n : Nat) (hn : n < 32) (x : Int32) {i : Nat} (hi : i < 32) : bt (x <<< (nI n &&& 31)) i = (decide (n ≤ i) && bt x (i - n)) := by
  unfold bt
  rw [Int32.toBitVec_shiftLeft]
  show (x.toBitVec <<< ((nI n &&& 31).toBitVec.smod 32).toNat).getLsbD i = _
  rw [s_l n hn, BitVec.getLsbD_shiftLeft]
  rcases Nat.lt_or_ge i n with h | h
  · simp [h, Nat.not_le.mpr h]
  · simp [hi, h, Nat.not_lt.mpr h]
theorem b_sshr (n : Nat) (hn : n < 32) (x : Int32) {i : Nat} (hi : i < 32) : bt (x >>> (nI n &&& 31)) i = if n + i < 32 then bt x (n + i) else bt x 31 := by
  unfold bt
  rw [Int32.toBitVec_shiftRight]
  show (x.toBitVec.sshiftRight ((nI n &&& 31).toBitVec.smod 32).toNat).getLsbD i = _
  rw [s_l n hn, BitVec.getLsbD_sshiftRight, BitVec.msb_eq_getLsbD_last]
  simp [hi]
theorem b_one : ∀ i, i < 32 → bt 1 i = decide (i = 0) := by decide +kernel
theorem zq_n {x : Int32} (h0 : 0 ≤ x.toInt) (h1 : x.toInt < 32) : ∃ n : Nat, n < 32 ∧ x = nI n ∧ x.toInt = (n : Int) := by
  refine ⟨x.toInt.toNat, by omega, ?_, by omega⟩
  have key : ∀ n : Nat, n < 32 → (nI n).toInt = (n : Int) := by decide +kernel
  exact Int32.toInt_inj.mp (by rw [key _ (by omega)]; omega)
/-- the bit of that number -/
def zbt (x o : Int) : Prop := (BitVec.ofInt 32 x).getLsbD o.toNat = true
theorem zbt_i (x : Int32) (o : Int) : zbt x.toInt o ↔ bt x o.toNat = true := by
  unfold zbt bt
  rw [show BitVec.ofInt 32 x.toInt = x.toBitVec from BitVec.ofInt_toInt]
theorem zbt_z (o : Int) : ¬ zbt 0 o := by
  have h : zbt (0 : Int32).toInt o ↔ _ := zbt_i 0 o
  rw [b_0] at h
  intro q
  exact absurd (h.mp q) (by decide)
/-- one bit more -/
theorem zbt_or {x u v w : Int32} (hu : u.toInt = 1) {c : Int32} (hv : v = u <<< (c &&& 31)) (hw : w = x ||| v) (h0 : 0 ≤ c.toInt) (h1 : c.toInt < 32) (o : Int) (h2 : 0 ≤ o) (h3 : o < 32) : zbt w.toInt o ↔ zbt x.toInt o ∨ o = c.toInt := by
  obtain ⟨n, hn, e, en⟩ := zq_n h0 h1
  have u1 : u = 1 := Int32.toInt_inj.mp (by rw [hu]; rfl)
  rw [zbt_i, zbt_i, hw, b_or, hv, e, u1, b_shl n hn 1 (by omega)]
  have k1 : bt 1 (o.toNat - n) = decide (o.toNat - n = 0) := b_one _ (by omega)
  rw [k1, Bool.or_eq_true, Bool.and_eq_true, decide_eq_true_eq, decide_eq_true_eq, ← e, en]
  constructor
  · rintro (h | ⟨a, b⟩)
    · exact Or.inl h
    · exact Or.inr (by omega)
  · rintro (h | h)
    · exact Or.inl h
    · exact Or.inr (by omega)
/-- a bit asked for -/
theorem zbt_t {x u v w : Int32} (hu : u.toInt = 1) {c : Int32} (hv : v = x >>> (c &&& 31)) (hw : w = v &&& u) (h0 : 0 ≤ c.toInt) (h1 : c.toInt < 31) : (w.toInt = 0 ∧ ¬ zbt x.toInt c.toInt) ∨ (w.toInt = 1 ∧ zbt x.toInt c.toInt) := by
  obtain ⟨n, hn, e, en⟩ := zq_n h0 (by omega)
  have u1 : u = 1 := Int32.toInt_inj.mp (by rw [hu]; rfl)
  have key : ∀ i, i < 32 → bt w i = (decide (i = 0) && bt x n) := by
    intro i hi
    rw [hw, u1, b_and, b_one i hi]
    by_cases z : i = 0
    · subst z
      rw [hv, e, b_sshr n hn x (by omega), if_pos (by omega)]
      simp
    · simp [z]
  have hc : c.toInt.toNat = n := by omega
  rw [zbt_i, hc]
  cases hb : bt x n
  · left
    refine ⟨?_, by simp⟩
    have : w = 0 := b_ext (fun i hi => by rw [key i hi, hb, b_0]; simp)
    rw [this]; rfl
  · right
    refine ⟨?_, rfl⟩
    have : w = 1 := b_ext (fun i hi => by rw [key i hi, hb, b_one i hi]; simp)
    rw [this]; rfl
def zp (a0 : Nat) (σ : zS) (slot : Nat) (j : Int) : Int := (σ.1 ((σ.2.2 a0 slot).getD 0) j.toNat).toInt
theorem zp_ld {a0 slot y : Nat} {σ : zS} {v : Int32} {i : Int32} (e : σ.2.2 a0 slot = some y) (h : v = σ.1 y i.toNatClampNeg) : v.toInt = zp a0 σ slot i.toInt := by
  subst h
  unfold zp
  rw [e]
  rfl
theorem zp_st {a0 slot y : Nat} {σ σ2 : zS} {i x : Int32} (e : σ.2.2 a0 slot = some y) (h : σ2 = (zu σ.1 y i.toNatClampNeg x, σ.2.1, σ.2.2)) (h0 : 0 ≤ i.toInt) : ∀ j : Int, 0 ≤ j → zp a0 σ2 slot j = if j = i.toInt then x.toInt else zp a0 σ slot j := by
  intro j hj
  subst h
  have e1 : zp a0 (zu σ.1 y i.toNatClampNeg x, σ.2.1, σ.2.2) slot j = (zu σ.1 y i.toNatClampNeg x y j.toNat).toInt := by
    show (zu σ.1 y i.toNatClampNeg x ((σ.2.2 a0 slot).getD 0) j.toNat).toInt = _
    rw [e]; rfl
  have e2 : zp a0 σ slot j = (σ.1 y j.toNat).toInt := by
    unfold zp
    rw [e]; rfl
  rw [e1, e2, zu_a]
  show (if j.toNat = i.toInt.toNat then x else σ.1 y j.toNat).toInt = _
  by_cases c : j = i.toInt
  · rw [if_pos c, if_pos (by omega)]
  · rw [if_neg c, if_neg (by omega)]
section ZPIC
variable {κ : Int} {L : List Nat} {kd : Nat → Nat} {σ σ2 : zS} {a0 : Nat} {Wf Wa : List Nat}
theorem zp_same (hI : zJ κ L kd σ2) (ha : zT L kd a0 11) (g : zSame a0 Wf Wa L kd σ σ2) (slot : Nat) {k : Nat} (hf : zf 0 11 slot = some k) (hk : k ≠ 11) (hn : Wa.contains k = false) : zp a0 σ2 slot = zp a0 σ slot := by
  obtain ⟨y, ey, hy⟩ := zj_ref hI ha hf
  have ey1 : σ.2.2 a0 slot = some y := by rw [← g.2.2]; exact ey
  funext j
  unfold zp
  rw [ey, ey1]
  show (σ2.1 y j.toNat).toInt = (σ.1 y j.toNat).toInt
  rw [(g.1 y hy.1 (by rw [hy.2]; exact hk) (by rw [hy.2]; intro q; simp [q] at hn)).1]
theorem zfl_same (g : zSame a0 Wf Wa L kd σ σ2) (j : Nat) (hj : Wf.contains j = false) : σ2.1 a0 j = σ.1 a0 j := g.2.1 j (by intro q; simp [q] at hj)
/-- how many places stand -/
def zM (a0 : Nat) (σ : zS) : Int := zp a0 σ 21 (σ.1 a0 18).toInt
theorem zM_same (hI : zJ κ L kd σ2) (ha : zT L kd a0 11) (g : zSame a0 Wf Wa L kd σ σ2) (h : (!Wf.contains 18 && !Wa.contains 121) = true) : zM a0 σ2 = zM a0 σ := by
  simp only [Bool.and_eq_true, Bool.not_eq_true'] at h
  unfold zM
  rw [zfl_same g 18 h.1, zp_same hI ha g 21 rfl (by decide) h.2]
/-- a source: one of the places but the mouth, by which none but itself comes -/
def zSrc (a0 : Nat) (σ : zS) (c : Int) : Prop := 1 ≤ c ∧ c < zM a0 σ ∧ zp a0 σ 54 c = ((1 : Int32) <<< (Int32.ofInt c &&& 31)).toInt
theorem zSrc_iff {u v c : Int32} (hu : u.toInt = 1) (hv : v = u <<< (c &&& 31)) : v.toInt = ((1 : Int32) <<< (Int32.ofInt c.toInt &&& 31)).toInt := by
  have u1 : u = 1 := Int32.toInt_inj.mp (by rw [hu]; rfl)
  rw [Int32.ofInt_toInt, hv, u1]
theorem zsh_le {u v c : Int32} (hu : u.toInt = 1) (hv : v = u <<< (c &&& 31)) (h0 : 0 ≤ c.toInt) (h1 : c.toInt ≤ 12) : 1 ≤ v.toInt ∧ v.toInt ≤ 4096 ∧ (c.toInt ≤ 11 → v.toInt ≤ 2048) := by
  obtain ⟨n, hn, e, en⟩ := zq_n h0 (by omega)
  have u1 : u = 1 := Int32.toInt_inj.mp (by rw [hu]; rfl)
  subst e
  subst hv
  subst u1
  have key : ∀ n : Nat, n < 13 → 1 ≤ ((1 : Int32) <<< (nI n &&& 31)).toInt ∧ ((1 : Int32) <<< (nI n &&& 31)).toInt ≤ 4096 ∧ (n ≤ 11 → ((1 : Int32) <<< (nI n &&& 31)).toInt ≤ 2048) := by decide +kernel
  have q := key n (by omega)
  exact ⟨q.1, q.2.1, fun h => q.2.2 (by omega)⟩
theorem zor_le {x y w : Int32} (hw : w = x ||| y) (h0 : 0 ≤ x.toInt) (h1 : x.toInt ≤ 4095) (h2 : 0 ≤ y.toInt) (h3 : y.toInt ≤ 4095) : 0 ≤ w.toInt ∧ w.toInt ≤ 4095 := by
  have key : ∀ z : Int32, 0 ≤ z.toInt → z.toInt ≤ 4095 → z.toBitVec.toNat < 2 ^ 12 := fun z a b => by
    have e : z.toInt = z.toBitVec.toInt := rfl
    rw [e, BitVec.toInt_eq_toNat_cond] at a b
    split at a <;> rename_i c
    · rw [if_pos c] at b; omega
    · have := z.toBitVec.isLt; omega
  have e : w.toBitVec.toNat = x.toBitVec.toNat ||| y.toBitVec.toNat := by rw [hw, Int32.toBitVec_or, BitVec.toNat_or]
  have l := Nat.or_lt_two_pow (key x h0 h1) (key y h2 h3)
  rw [← e] at l
  have e2 : w.toInt = w.toBitVec.toInt := rfl
  rw [e2, BitVec.toInt_eq_toNat_cond, if_pos (by omega)]
  omega
theorem zM_in (hI : zJ κ L kd σ) (ha : zT L kd a0 11) : 0 ≤ zM a0 σ ∧ zM a0 σ ≤ 12 := by
  obtain ⟨y, ey, hy⟩ := zj_ref (j := 21) (k2 := 121) hI ha rfl
  unfold zM zp
  rw [ey]
  exact zj_get hI hy rfl
/-- a row is a tree's: each place but the mouth runs into one of the places, by a rank that falls; its law is one -/
def gRow (m : Int) (f : Int → Int) : Prop := (∃ r : Int → Nat, ∀ c : Int, 1 ≤ c → c < m → 0 ≤ f c ∧ f c < m ∧ (0 < f c → r (f c) < r c)) ∧ 0 ≤ f 49 ∧ f 49 ≤ 2
theorem gRow.congr {m : Int} {f g : Int → Int} (hm : m ≤ 12) (h : gRow m f) (e : ∀ j : Int, 1 ≤ j → (j < 12 ∨ j = 49) → g j = f j) : gRow m g := by
  obtain ⟨⟨r, hr⟩, h1, h2⟩ := h
  refine ⟨⟨r, fun c h3 h4 => ?_⟩, ?_, ?_⟩
  · rw [e c h3 (by omega)]
    exact hr c h3 h4
  · rw [e 49 (by decide) (by decide)]; exact h1
  · rw [e 49 (by decide) (by decide)]; exact h2
theorem gRow.rank {m : Int} {f : Int → Int} (h : gRow m f) : ∃ r : Int → Nat, ∀ c : Int, 1 ≤ c → c < m → 0 ≤ f c ∧ f c < m ∧ r (f c) < r c := by
  obtain ⟨⟨r, hr⟩, -, -⟩ := h
  refine ⟨fun a => if a ≤ 0 then 0 else r a + 1, fun c h1 h2 => ?_⟩
  obtain ⟨q1, q2, q3⟩ := hr c h1 h2
  refine ⟨q1, q2, ?_⟩
  show (if f c ≤ 0 then 0 else r (f c) + 1) < (if c ≤ 0 then 0 else r c + 1)
  rw [if_neg (show ¬ c ≤ 0 by omega)]
  split
  · omega
  · have := q3 (by omega)
    omega
theorem zflt_le {p q : Nat → Bool} (h : ∀ k, p k = true → q k = true) : ∀ l : List Nat, (l.filter p).length ≤ (l.filter q).length
  | [] => Nat.le_refl _
  | x :: l => by
    have ih := zflt_le h l
    by_cases hp : p x = true
    · rw [List.filter_cons_of_pos hp, List.filter_cons_of_pos (h x hp)]
      exact Nat.succ_le_succ ih
    · rw [List.filter_cons_of_neg hp]
      by_cases hq : q x = true
      · rw [List.filter_cons_of_pos hq]
        exact Nat.le_succ_of_le ih
      · rw [List.filter_cons_of_neg hq]
        exact ih
theorem zflt_lt {p q : Nat → Bool} (h : ∀ k, p k = true → q k = true) {x : Nat} (hq : q x = true) (hp : ¬ p x = true) : ∀ l : List Nat, x ∈ l → (l.filter p).length < (l.filter q).length
  | [], hm => absurd hm List.not_mem_nil
  | y :: l, hm => by
    rcases List.mem_cons.mp hm with e | hm2
    · subst e
      rw [List.filter_cons_of_pos hq, List.filter_cons_of_neg hp]
      exact Nat.lt_succ_of_le (zflt_le h l)
    · have ih := zflt_lt h hq hp l hm2
      by_cases hp2 : p y = true
      · rw [List.filter_cons_of_pos hp2, List.filter_cons_of_pos (h y hp2)]
        exact Nat.succ_lt_succ ih
      · rw [List.filter_cons_of_neg hp2]
        by_cases hq2 : q y = true
        · rw [List.filter_cons_of_pos hq2]
          exact Nat.lt_succ_of_lt ih
        · rw [List.filter_cons_of_neg hq2]
          exact ih
theorem gRow.rankB {m : Int} {f : Int → Int} (hm : m ≤ 12) (h : gRow m f) : ∃ r : Int → Nat, (∀ c : Int, 1 ≤ c → c < m → 0 ≤ f c ∧ f c < m ∧ r (f c) < r c) ∧ ∀ c, r c ≤ 12 := by
  obtain ⟨r, hr⟩ := h.rank
  refine ⟨fun c => ((List.range 12).filter (fun k : Nat => decide (r (k : Int) < r c))).length, fun c h1 h2 => ?_, fun c => Nat.le_trans (List.length_filter_le _ _) (by simp)⟩
  obtain ⟨q1, q2, q3⟩ := hr c h1 h2
  refine ⟨q1, q2, ?_⟩
  have e : ((f c).toNat : Int) = f c := by omega
  exact zflt_lt (p := fun k : Nat => decide (r (k : Int) < r (f c))) (q := fun k : Nat => decide (r (k : Int) < r c)) (x := (f c).toNat) (fun k hk => decide_eq_true (Nat.lt_trans (of_decide_eq_true hk) q3)) (decide_eq_true (by rw [e]; exact q3)) (fun hk => by have := of_decide_eq_true hk; rw [e] at this; omega) _ (List.mem_range.mpr (by omega))
theorem gRow.law {m : Int} {f g : Int → Int} {v : Int} (hm : m ≤ 12) (h : gRow m f) (h0 : 0 ≤ v) (h2 : v ≤ 2) (e : ∀ j : Int, 1 ≤ j → j < 12 → g j = f j) (e9 : g 49 = v) : gRow m g := by
  obtain ⟨⟨r, hr⟩, -, -⟩ := h
  refine ⟨⟨r, fun c h3 h4 => ?_⟩, by omega, by omega⟩
  rw [e c h3 (by omega)]
  exact hr c h3 h4
def gR (a0 : Nat) (σ : zS) : Prop := gRow (zM a0 σ) (zp a0 σ 49)
def gN (a0 : Nat) (σ : zS) : Prop := gRow (zM a0 σ) (zp a0 σ 48)
def gH (a0 : Nat) (σ : zS) : Prop := ∀ i : Int, 0 ≤ i → i < (σ.1 a0 57).toInt → gRow (zM a0 σ) (fun j => zp a0 σ 58 (50 * i + j))
def gE (a0 : Nat) (σ : zS) : Prop := ∀ i : Int, 0 ≤ i → i < 3 → zp a0 σ 67 i = 1 → gRow (zM a0 σ) (fun j => zp a0 σ 68 (50 * i + j))
def gBas (m : Int) (f b : Int → Int) : Prop := ∀ o : Int, 0 ≤ o → o < m → zbt (b o) o ∧ ∀ c : Int, 1 ≤ c → c < m → zbt (b c) o → zbt (b (f c)) o
def gB (a0 : Nat) (σ : zS) : Prop := gBas (zM a0 σ) (zp a0 σ 49) (zp a0 σ 54)
/-- a row of codes from .. to: what stands on the pile -/
def gDep (f : Int → Int) (a : Int) : Nat → Int
  | 0 => 0
  | n + 1 => gDep f a n + (if f (a + n) < 2 then 1 else -1)
def gCod (f v : Int → Int) (a b : Int) : Prop := 0 ≤ a ∧ a ≤ b ∧ b ≤ 840 ∧ ∀ n : Nat, a + n < b → 0 ≤ f (a + n) ∧ f (a + n) ≤ 5 ∧ (f (a + n) = 1 → 0 ≤ v (a + n) ∧ v (a + n) ≤ 8) ∧ (2 ≤ f (a + n) → 2 ≤ gDep f a n) ∧ 0 ≤ gDep f a n ∧ gDep f a n < 400
theorem gDep_congr {f g : Int → Int} {a : Int} : ∀ n : Nat, (∀ k : Nat, k < n → g (a + k) = f (a + k)) → gDep g a n = gDep f a n
  | 0, _ => rfl
  | n + 1, h => by
    show gDep g a n + _ = gDep f a n + _
    rw [gDep_congr n (fun k hk => h k (by omega)), h n (by omega)]
theorem gCod.congr {f g v w : Int → Int} {a b : Int} (h : gCod f v a b) (e : ∀ j : Int, a ≤ j → j < b → g j = f j ∧ w j = v j) : gCod g w a b := by
  obtain ⟨h0, h1, h2, h3⟩ := h
  refine ⟨h0, h1, h2, fun n hn => ?_⟩
  rw [(e _ (by omega) hn).1, (e _ (by omega) hn).2, gDep_congr n (fun k hk => (e _ (by omega) (by omega)).1)]
  exact h3 n hn
/-- one branch of a law, its codes in lo .. hi -/
def gBr (a0 : Nat) (σ : zS) (lo hi b : Int) : Prop := (zp a0 σ 33 b = 1 → gCod (zp a0 σ 39) (zp a0 σ 40) (zp a0 σ 34 b) (zp a0 σ 35 b) ∧ gCod (zp a0 σ 39) (zp a0 σ 40) (zp a0 σ 35 b) (zp a0 σ 36 b) ∧ lo ≤ zp a0 σ 34 b) ∧ gCod (zp a0 σ 39) (zp a0 σ 40) (zp a0 σ 36 b) (zp a0 σ 37 b) ∧ lo ≤ zp a0 σ 36 b ∧ zp a0 σ 37 b ≤ hi
/-- the laws of a side stand in its rows, their branches ahead of B, their codes ahead of C -/
def gLw (a0 : Nat) (σ : zS) (s B C : Int) : Prop := ∀ k : Int, 0 ≤ k → k < 5 → zp a0 σ 30 (5 * s + k) = zp a0 σ 31 (5 * s + k) ∨ (130 * s ≤ zp a0 σ 30 (5 * s + k) ∧ zp a0 σ 31 (5 * s + k) ≤ B ∧ ∀ b : Int, zp a0 σ 30 (5 * s + k) ≤ b → b < zp a0 σ 31 (5 * s + k) → gBr a0 σ (420 * s) C b)
def gL (a0 : Nat) (σ : zS) : Prop := gLw a0 σ (σ.1 a0 18).toInt (130 * (σ.1 a0 18).toInt + 130) (420 * (σ.1 a0 18).toInt + 420)
/-- the laws told so far -/
def gP (a0 : Nat) (σ : zS) : Prop := gLw a0 σ (σ.1 a0 19).toInt (σ.1 a0 32).toInt (σ.1 a0 38).toInt
/-- the places told so far -/
def gTr (a0 : Nat) (σ : zS) : Prop := ((σ.1 a0 15).toInt = 0 → ∀ c : Int, 1 ≤ c → c ≤ (σ.1 a0 42).toInt → 0 ≤ zp a0 σ 22 (12 * (σ.1 a0 19).toInt + c) ∧ zp a0 σ 22 (12 * (σ.1 a0 19).toInt + c) < c) ∧ (zp a0 σ 21 (σ.1 a0 19).toInt = 0 ∨ zp a0 σ 21 (σ.1 a0 19).toInt = (σ.1 a0 42).toInt + 1) ∧ ((σ.1 a0 41).toInt = 0 → zp a0 σ 21 (σ.1 a0 19).toInt = 0) ∧ 0 ≤ (σ.1 a0 15).toInt
theorem gR.same (hI : zJ κ L kd σ2) (ha : zT L kd a0 11) (g : zSame a0 Wf Wa L kd σ σ2) (hd : (!Wf.contains 18 && (!Wa.contains 121 && !Wa.contains 149)) = true) (h : gR a0 σ) : gR a0 σ2 := by
  simp only [Bool.and_eq_true, Bool.not_eq_true'] at hd
  obtain ⟨h1, h2, h3⟩ := hd
  unfold gR
  rw [zM_same hI ha g (by rw [h1, h2]; rfl), zp_same hI ha g 49 rfl (by decide) h3]
  exact h
theorem gN.same (hI : zJ κ L kd σ2) (ha : zT L kd a0 11) (g : zSame a0 Wf Wa L kd σ σ2) (hd : (!Wf.contains 18 && (!Wa.contains 121 && !Wa.contains 148)) = true) (h : gN a0 σ) : gN a0 σ2 := by
  simp only [Bool.and_eq_true, Bool.not_eq_true'] at hd
  obtain ⟨h1, h2, h3⟩ := hd
  unfold gN
  rw [zM_same hI ha g (by rw [h1, h2]; rfl), zp_same hI ha g 48 rfl (by decide) h3]
  exact h
theorem gH.same (hI : zJ κ L kd σ2) (ha : zT L kd a0 11) (g : zSame a0 Wf Wa L kd σ σ2) (hd : (!Wf.contains 18 && (!Wf.contains 57 && (!Wa.contains 121 && !Wa.contains 158))) = true) (h : gH a0 σ) : gH a0 σ2 := by
  simp only [Bool.and_eq_true, Bool.not_eq_true'] at hd
  obtain ⟨h1, h2, h3, h4⟩ := hd
  unfold gH
  rw [zM_same hI ha g (by rw [h1, h3]; rfl), zp_same hI ha g 58 rfl (by decide) h4, zfl_same g 57 h2]
  exact h
theorem gE.same (hI : zJ κ L kd σ2) (ha : zT L kd a0 11) (g : zSame a0 Wf Wa L kd σ σ2) (hd : (!Wf.contains 18 && (!Wa.contains 121 && (!Wa.contains 167 && !Wa.contains 168))) = true) (h : gE a0 σ) : gE a0 σ2 := by
  simp only [Bool.and_eq_true, Bool.not_eq_true'] at hd
  obtain ⟨h1, h2, h3, h4⟩ := hd
  unfold gE
  rw [zM_same hI ha g (by rw [h1, h2]; rfl), zp_same hI ha g 67 rfl (by decide) h3, zp_same hI ha g 68 rfl (by decide) h4]
  exact h
theorem gB.same (hI : zJ κ L kd σ2) (ha : zT L kd a0 11) (g : zSame a0 Wf Wa L kd σ σ2) (hd : (!Wf.contains 18 && (!Wa.contains 121 && (!Wa.contains 149 && !Wa.contains 154))) = true) (h : gB a0 σ) : gB a0 σ2 := by
  simp only [Bool.and_eq_true, Bool.not_eq_true'] at hd
  obtain ⟨h1, h2, h3, h4⟩ := hd
  unfold gB
  rw [zM_same hI ha g (by rw [h1, h2]; rfl), zp_same hI ha g 49 rfl (by decide) h3, zp_same hI ha g 54 rfl (by decide) h4]
  exact h
theorem gLw_same (hI : zJ κ L kd σ2) (ha : zT L kd a0 11) (g : zSame a0 Wf Wa L kd σ σ2) (hd : (!Wa.contains 130 && (!Wa.contains 131 && (!Wa.contains 133 && (!Wa.contains 134 && (!Wa.contains 135 && (!Wa.contains 136 && (!Wa.contains 137 && (!Wa.contains 139 && !Wa.contains 140)))))))) = true) (s B C : Int) : gLw a0 σ2 s B C = gLw a0 σ s B C := by
  simp only [Bool.and_eq_true, Bool.not_eq_true'] at hd
  obtain ⟨h2, h3, h4, h5, h6, h7, h8, h9, h10⟩ := hd
  unfold gLw gBr
  rw [zp_same hI ha g 30 rfl (by decide) h2, zp_same hI ha g 31 rfl (by decide) h3, zp_same hI ha g 33 rfl (by decide) h4, zp_same hI ha g 34 rfl (by decide) h5, zp_same hI ha g 35 rfl (by decide) h6, zp_same hI ha g 36 rfl (by decide) h7, zp_same hI ha g 37 rfl (by decide) h8, zp_same hI ha g 39 rfl (by decide) h9, zp_same hI ha g 40 rfl (by decide) h10]
theorem gL.same (hI : zJ κ L kd σ2) (ha : zT L kd a0 11) (g : zSame a0 Wf Wa L kd σ σ2) (hd : (!Wf.contains 18 && (!Wa.contains 130 && (!Wa.contains 131 && (!Wa.contains 133 && (!Wa.contains 134 && (!Wa.contains 135 && (!Wa.contains 136 && (!Wa.contains 137 && (!Wa.contains 139 && !Wa.contains 140))))))))) = true) (h : gL a0 σ) : gL a0 σ2 := by
  rw [Bool.and_eq_true, Bool.not_eq_true'] at hd
  unfold gL
  rw [zfl_same g 18 hd.1, gLw_same hI ha g hd.2]
  exact h
theorem gP.same (hI : zJ κ L kd σ2) (ha : zT L kd a0 11) (g : zSame a0 Wf Wa L kd σ σ2) (hd : ((!Wf.contains 19 && (!Wf.contains 32 && !Wf.contains 38)) && (!Wa.contains 130 && (!Wa.contains 131 && (!Wa.contains 133 && (!Wa.contains 134 && (!Wa.contains 135 && (!Wa.contains 136 && (!Wa.contains 137 && (!Wa.contains 139 && !Wa.contains 140))))))))) = true) (h : gP a0 σ) : gP a0 σ2 := by
  rw [Bool.and_eq_true] at hd
  obtain ⟨h1, h2⟩ := hd
  simp only [Bool.and_eq_true, Bool.not_eq_true'] at h1
  unfold gP
  rw [zfl_same g 19 h1.1, zfl_same g 32 h1.2.1, zfl_same g 38 h1.2.2, gLw_same hI ha g h2]
  exact h
theorem gTr.same (hI : zJ κ L kd σ2) (ha : zT L kd a0 11) (g : zSame a0 Wf Wa L kd σ σ2) (hd : ((!Wf.contains 15 && (!Wf.contains 19 && (!Wf.contains 41 && !Wf.contains 42))) && (!Wa.contains 121 && !Wa.contains 122)) = true) (h : gTr a0 σ) : gTr a0 σ2 := by
  simp only [Bool.and_eq_true, Bool.not_eq_true'] at hd
  obtain ⟨⟨h1, h2, h3, h6⟩, h4, h5⟩ := hd
  unfold gTr
  rw [zfl_same g 15 h1, zfl_same g 19 h2, zfl_same g 41 h3, zfl_same g 42 h6, zp_same hI ha g 21 rfl (by decide) h4, zp_same hI ha g 22 rfl (by decide) h5]
  exact h
theorem gTr.w (hI : zJ κ L kd σ2) (ha : zT L kd a0 11) (g : zSame a0 Wf Wa L kd σ σ2) (hd : ((!Wf.contains 19 && (!Wf.contains 41 && !Wf.contains 42)) && (!Wa.contains 121 && !Wa.contains 122)) = true) (hw : (1 ≤ (σ.1 a0 15).toInt → 1 ≤ (σ2.1 a0 15).toInt) ∧ (0 ≤ (σ.1 a0 15).toInt → 0 ≤ (σ2.1 a0 15).toInt)) (h : gTr a0 σ) : gTr a0 σ2 := by
  simp only [Bool.and_eq_true, Bool.not_eq_true'] at hd
  obtain ⟨⟨h2, h3, h6⟩, h4, h5⟩ := hd
  obtain ⟨g1, g2, g3, g4⟩ := h
  unfold gTr
  rw [zfl_same g 19 h2, zfl_same g 41 h3, zfl_same g 42 h6, zp_same hI ha g 21 rfl (by decide) h4, zp_same hI ha g 22 rfl (by decide) h5]
  have q := hw.2 g4
  exact ⟨fun h0 => g1 (Classical.byContradiction (fun n => by have := hw.1 (by omega); omega)), g2, g3, q⟩
theorem gN.sm (hI : zJ κ L kd σ2) (ha : zT L kd a0 11) (g : zSame a0 Wf Wa L kd σ σ2) (e : zM a0 σ2 = zM a0 σ) (hd : (!Wa.contains 148) = true) (h : gN a0 σ) : gN a0 σ2 := by
  rw [Bool.not_eq_true'] at hd
  unfold gN
  rw [e, zp_same hI ha g 48 rfl (by decide) hd]
  exact h
theorem gH.sm (hI : zJ κ L kd σ2) (ha : zT L kd a0 11) (g : zSame a0 Wf Wa L kd σ σ2) (e : zM a0 σ2 = zM a0 σ) (hd : (!Wf.contains 57 && !Wa.contains 158) = true) (h : gH a0 σ) : gH a0 σ2 := by
  simp only [Bool.and_eq_true, Bool.not_eq_true'] at hd
  unfold gH
  rw [e, zp_same hI ha g 58 rfl (by decide) hd.2, zfl_same g 57 hd.1]
  exact h
theorem gE.sm (hI : zJ κ L kd σ2) (ha : zT L kd a0 11) (g : zSame a0 Wf Wa L kd σ σ2) (e : zM a0 σ2 = zM a0 σ) (hd : (!Wa.contains 167 && !Wa.contains 168) = true) (h : gE a0 σ) : gE a0 σ2 := by
  simp only [Bool.and_eq_true, Bool.not_eq_true'] at hd
  unfold gE
  rw [e, zp_same hI ha g 67 rfl (by decide) hd.1, zp_same hI ha g 68 rfl (by decide) hd.2]
  exact h
end ZPIC
/-- from each place one comes to the mouth: all bits are the mouth's too -/
theorem gBas.mouth {m : Int} {f b : Int → Int} (hr : gRow m f) (hb : gBas m f b) {o : Int} (h0 : 0 ≤ o) (h1 : o < m) : zbt (b 0) o := by
  obtain ⟨⟨r, hr⟩, -, -⟩ := hr
  have key : ∀ n : Nat, ∀ c : Int, 0 ≤ c → c < m → r c < n → zbt (b c) o → zbt (b 0) o := by
    intro n
    induction n with
    | zero => intro c _ _ h; exact absurd h (by omega)
    | succ n ih =>
      intro c h2 h3 h4 h5
      by_cases z : c = 0
      · rw [z] at h5; exact h5
      · obtain ⟨q1, q2, q3⟩ := hr c (by omega) h3
        have q4 := (hb o h0 h1).2 c (by omega) h3 h5
        by_cases y : f c = 0
        · rw [y] at q4; exact q4
        · exact ih (f c) q1 q2 (by have := q3 (by omega); omega) q4
  exact key (r o + 1) o h0 h1 (by omega) (hb o h0 h1).1
/-- turned into one that it doesn't come by: still a tree's -/
theorem gRow.turn {m : Int} {f g b : Int → Int} {c t : Int} (hm : m ≤ 12) (hr : gRow m f) (hb : gBas m f b) (h1 : 1 ≤ c) (h2 : c < m) (h3 : 0 ≤ t) (h4 : t < m) (hn : ¬ zbt (b c) t) (e : ∀ j : Int, 0 ≤ j → j < 50 → g j = if j = c then t else f j) : gRow m g := by
  classical
  have hr0 := hr
  obtain ⟨⟨r, hr⟩, h5, h6⟩ := hr
  have e49 : g 49 = f 49 := by rw [e 49 (by decide) (by decide), if_neg (by omega)]
  refine ⟨⟨fun a => if zbt (b a) t then r a else r a + r t + 1, fun a h7 h8 => ?_⟩, by rw [e49]; exact h5, by rw [e49]; exact h6⟩
  rw [e a (by omega) (by omega)]
  by_cases z : a = c
  · rw [if_pos z]
    refine ⟨h3, h4, fun _ => ?_⟩
    show (if zbt (b t) t then r t else _) < (if zbt (b a) t then _ else _)
    rw [if_pos (hb t h3 h4).1, z, if_neg hn]
    omega
  · rw [if_neg z]
    obtain ⟨q1, q2, q3⟩ := hr a h7 h8
    refine ⟨q1, q2, fun q => ?_⟩
    have q4 := q3 q
    show (if zbt (b (f a)) t then r (f a) else _) < (if zbt (b a) t then r a else _)
    by_cases y : zbt (b a) t
    · rw [if_pos y, if_pos ((hb t h3 h4).2 a h7 h8 y)]
      exact q4
    · rw [if_neg y]
      split <;> omega
theorem gR_at {a0 : Nat} {σ : zS} (h : gR a0 σ) {c : Int} (h1 : 1 ≤ c) (h2 : c < zM a0 σ) : 0 ≤ zp a0 σ 49 c ∧ zp a0 σ 49 c < zM a0 σ := by
  obtain ⟨⟨r, hr⟩, -, -⟩ := h
  exact ⟨(hr c h1 h2).1, (hr c h1 h2).2.1⟩
theorem gL_at {a0 : Nat} {σ : zS} (h : gL a0 σ) {k a b : Int} (h0 : 0 ≤ k) (h5 : k < 5) (e : a = 5 * (σ.1 a0 18).toInt + k) (hv : 0 ≤ (σ.1 a0 18).toInt ∧ (σ.1 a0 18).toInt ≤ 1) (hne : zp a0 σ 30 a ≠ zp a0 σ 31 a) (h1 : zp a0 σ 30 a ≤ b) (h2 : b < zp a0 σ 31 a) : (0 ≤ b ∧ b < 260) ∧ gBr a0 σ (420 * (σ.1 a0 18).toInt) (420 * (σ.1 a0 18).toInt + 420) b := by
  subst e
  rcases h k h0 h5 with q | ⟨q1, q2, q3⟩
  · exact absurd q hne
  · exact ⟨⟨by omega, by omega⟩, q3 b h1 h2⟩
/-- what is written elsewhere leaves the laws of a side as they were -/
theorem gLw.kept {a0 : Nat} {σ σ2 : zS} {s B C B' C' : Int} (h : gLw a0 σ s B C) (hB : B ≤ B') (hC : C ≤ C') (e39 : ∀ j : Int, 420 * s ≤ j → j < C → zp a0 σ2 39 j = zp a0 σ 39 j ∧ zp a0 σ2 40 j = zp a0 σ 40 j) (e33 : ∀ b : Int, 130 * s ≤ b → b < B → zp a0 σ2 33 b = zp a0 σ 33 b ∧ zp a0 σ2 34 b = zp a0 σ 34 b ∧ zp a0 σ2 35 b = zp a0 σ 35 b ∧ zp a0 σ2 36 b = zp a0 σ 36 b ∧ zp a0 σ2 37 b = zp a0 σ 37 b) (k : Int) (h0 : 0 ≤ k) (h5 : k < 5) (e30 : zp a0 σ2 30 (5 * s + k) = zp a0 σ 30 (5 * s + k) ∧ zp a0 σ2 31 (5 * s + k) = zp a0 σ 31 (5 * s + k)) : zp a0 σ2 30 (5 * s + k) = zp a0 σ2 31 (5 * s + k) ∨ (130 * s ≤ zp a0 σ2 30 (5 * s + k) ∧ zp a0 σ2 31 (5 * s + k) ≤ B' ∧ ∀ b : Int, zp a0 σ2 30 (5 * s + k) ≤ b → b < zp a0 σ2 31 (5 * s + k) → gBr a0 σ2 (420 * s) C' b) := by
  rw [e30.1, e30.2]
  rcases h k h0 h5 with q | ⟨q1, q2, q3⟩
  · exact Or.inl q
  · refine Or.inr ⟨q1, by omega, fun b g1 g2 => ?_⟩
    obtain ⟨r1, r2, r3, r4⟩ := q3 b g1 g2
    obtain ⟨f1, f2, f3, f4, f5⟩ := e33 b (by omega) (by omega)
    have c3 := r2.2.1
    unfold gBr
    rw [f1, f2, f3, f4, f5]
    refine ⟨fun ht => ?_, r2.congr (fun j g3 g4 => e39 j (by omega) (by omega)), r3, by omega⟩
    obtain ⟨u1, u2, u3⟩ := r1 ht
    have c1 := u1.2.1
    have c2 := u2.2.1
    exact ⟨u1.congr (fun j g3 g4 => e39 j (by omega) (by omega)), u2.congr (fun j g3 g4 => e39 j (by omega) (by omega)), u3⟩
/-- the laws told stand, once their side does -/
theorem gL.of {a0 : Nat} {σ σ2 : zS} (h : gP a0 σ) (e : ∀ s B C : Int, gLw a0 σ2 s B C = gLw a0 σ s B C) (e18 : (σ2.1 a0 18).toInt = (σ.1 a0 19).toInt) (hB : (σ.1 a0 32).toInt ≤ 130 * (σ.1 a0 19).toInt + 130) (hC : (σ.1 a0 38).toInt ≤ 420 * (σ.1 a0 19).toInt + 420) : gL a0 σ2 := by
  unfold gL
  rw [e, e18]
  intro k h0 h5
  exact gLw.kept h hB hC (fun j _ _ => ⟨rfl, rfl⟩) (fun b _ _ => ⟨rfl, rfl, rfl, rfl, rfl⟩) k h0 h5 ⟨rfl, rfl⟩
theorem gCod_at {f v : Int → Int} {a b c : Int} (h : gCod f v a b) (h1 : a ≤ c) (h2 : c < b) : (0 ≤ c ∧ c < 840) ∧ (0 ≤ f c ∧ f c ≤ 5) ∧ (f c = 1 → 0 ≤ v c ∧ v c ≤ 8) ∧ (2 ≤ f c → 2 ≤ gDep f a (c - a).toNat) ∧ (0 ≤ gDep f a (c - a).toNat ∧ gDep f a (c - a).toNat < 400) ∧ (f c < 2 → gDep f a (c + 1 - a).toNat = gDep f a (c - a).toNat + 1) ∧ (2 ≤ f c → gDep f a (c + 1 - a).toNat = gDep f a (c - a).toNat - 1) := by
  obtain ⟨g0, g1, g2, g3⟩ := h
  have e : a + ((c - a).toNat : Int) = c := by omega
  have q := g3 (c - a).toNat (by omega)
  rw [e] at q
  have e2 : (c + 1 - a).toNat = (c - a).toNat + 1 := by omega
  have e3 : gDep f a (c + 1 - a).toNat = gDep f a (c - a).toNat + (if f c < 2 then 1 else -1) := by
    rw [e2]
    show gDep f a _ + (if f (a + ((c - a).toNat : Int)) < 2 then 1 else -1) = _
    rw [e]
  refine ⟨⟨by omega, by omega⟩, ⟨q.1, q.2.1⟩, q.2.2.1, q.2.2.2.1, q.2.2.2.2, fun z => ?_, fun z => ?_⟩
  · rw [e3, if_pos z]
  · rw [e3, if_neg (by omega)]; omega
/-- a bit more at one place -/
theorem zbt_upd {B B' : Int → Int} {i x u v w c : Int32} (hB : ∀ j : Int, 0 ≤ j → B' j = if j = i.toInt then w.toInt else B j) (hx : x.toInt = B i.toInt) (hv : v = u <<< (c &&& 31)) (hw : w = x ||| v) (hu : u.toInt = 1) (h0 : 0 ≤ c.toInt) (h1 : c.toInt < 32) : ∀ j o : Int, 0 ≤ j → 0 ≤ o → o < 32 → (zbt (B' j) o ↔ zbt (B j) o ∨ (j = i.toInt ∧ o = c.toInt)) := by
  intro j o hj h2 h3
  rw [hB j hj]
  by_cases e : j = i.toInt
  · rw [if_pos e, zbt_or hu hv hw h0 h1 o h2 h3, hx, e]
    constructor
    · rintro (q | q)
      · exact Or.inl q
      · exact Or.inr ⟨rfl, q⟩
    · rintro (q | q)
      · exact Or.inl q
      · exact Or.inr q.2
  · rw [if_neg e]
    constructor
    · exact Or.inl
    · rintro (q | q)
      · exact q
      · exact absurd q.1 e
/-- ways filled up to c; the way of c up to a -/
def gW1 (m : Int) (f b : Int → Int) (c : Int) : Prop := (∀ o : Int, 0 ≤ o → o < c → zbt (b o) o ∧ ∀ a : Int, 1 ≤ a → a < m → zbt (b a) o → zbt (b (f a)) o) ∧ ∀ a o : Int, 0 ≤ a → a < m → c ≤ o → o < 32 → ¬ zbt (b a) o
def gW2 (m : Int) (f b : Int → Int) (c t : Int) : Prop := (∀ o : Int, 0 ≤ o → o < c → zbt (b o) o ∧ ∀ a : Int, 1 ≤ a → a < m → zbt (b a) o → zbt (b (f a)) o) ∧ (∀ a o : Int, 0 ≤ a → a < m → c < o → o < 32 → ¬ zbt (b a) o) ∧ zbt (b c) c ∧ zbt (b t) c ∧ ∀ a : Int, 1 ≤ a → a < m → a ≠ t → zbt (b a) c → zbt (b (f a)) c
theorem gW1.z {m : Int} {f b : Int → Int} (h : ∀ j : Int, 0 ≤ j → j < m → b j = 0) : gW1 m f b 0 := ⟨fun o h0 h1 => absurd h1 (by omega), fun a o h0 h1 h2 h3 => by rw [h a h0 h1]; exact zbt_z o⟩
theorem gW1.go {m : Int} {f b b' : Int → Int} {c : Int} (hf : ∀ a : Int, 1 ≤ a → a < m → 0 ≤ f a ∧ f a < m) (h : gW1 m f b c) (h0 : 0 ≤ c) (hc : c < m) (hm : m ≤ 12) (e : ∀ j o : Int, 0 ≤ j → 0 ≤ o → o < 32 → (zbt (b' j) o ↔ zbt (b j) o ∨ (j = c ∧ o = c))) : gW2 m f b' c c := by
  obtain ⟨p, q⟩ := h
  refine ⟨fun o g0 g1 => ⟨(e o o g0 g0 (by omega)).mpr (Or.inl (p o g0 g1).1), fun a g2 g3 g4 => ?_⟩, fun a o g0 g1 g2 g3 g4 => ?_, (e c c h0 h0 (by omega)).mpr (Or.inr ⟨rfl, rfl⟩), (e c c h0 h0 (by omega)).mpr (Or.inr ⟨rfl, rfl⟩), fun a g0 g1 g2 g3 => ?_⟩
  · have g5 : zbt (b a) o := by
      rcases (e a o (by omega) g0 (by omega)).mp g4 with z | z
      · exact z
      · omega
    exact (e _ o (hf a g2 g3).1 g0 (by omega)).mpr (Or.inl ((p o g0 g1).2 a g2 g3 g5))
  · rcases (e a o g0 (by omega) g3).mp g4 with z | z
    · exact q a o g0 g1 (by omega) g3 z
    · omega
  · rcases (e a c (by omega) h0 (by omega)).mp g3 with z | z
    · exact absurd z (q a c (by omega) g1 (by omega) (by omega))
    · exact absurd z.1 g2
theorem gW2.go {m : Int} {f b b' : Int → Int} {c t t' : Int} (hf : ∀ a : Int, 1 ≤ a → a < m → 0 ≤ f a ∧ f a < m) (h : gW2 m f b c t) (h0 : 0 ≤ c) (hc : c < m) (hm : m ≤ 12) (h1 : 1 ≤ t) (h2 : t < m) (ht : t' = f t) (e : ∀ j o : Int, 0 ≤ j → 0 ≤ o → o < 32 → (zbt (b' j) o ↔ zbt (b j) o ∨ (j = t' ∧ o = c))) : gW2 m f b' c t' := by
  obtain ⟨p, q, r, s, u⟩ := h
  have k1 := (hf t h1 h2).1
  refine ⟨fun o g0 g1 => ⟨(e o o g0 g0 (by omega)).mpr (Or.inl (p o g0 g1).1), fun a g2 g3 g4 => ?_⟩, fun a o g0 g1 g2 g3 g4 => ?_, (e c c h0 h0 (by omega)).mpr (Or.inl r), (e t' c (by omega) h0 (by omega)).mpr (Or.inr ⟨rfl, rfl⟩), fun a g0 g1 g2 g3 => ?_⟩
  · have g5 : zbt (b a) o := by
      rcases (e a o (by omega) g0 (by omega)).mp g4 with z | z
      · exact z
      · omega
    exact (e _ o (hf a g2 g3).1 g0 (by omega)).mpr (Or.inl ((p o g0 g1).2 a g2 g3 g5))
  · rcases (e a o g0 (by omega) g3).mp g4 with z | z
    · exact q a o g0 g1 g2 g3 z
    · omega
  · by_cases w : a = t
    · rw [w, ← ht]
      exact (e t' c (by omega) h0 (by omega)).mpr (Or.inr ⟨rfl, rfl⟩)
    · rcases (e a c (by omega) h0 (by omega)).mp g3 with z | z
      · exact (e _ c (hf a g0 g1).1 h0 (by omega)).mpr (Or.inl (u a g0 g1 w z))
      · exact absurd z.1 g2
theorem gW2.done {m : Int} {f b : Int → Int} {c c' t : Int} (h : gW2 m f b c t) (hm : m ≤ 12) (ht : t ≤ 0) (hc : c' = c + 1) : gW1 m f b c' := by
  subst hc
  obtain ⟨p, q, r, s, u⟩ := h
  refine ⟨fun o g0 g1 => ?_, fun a o g0 g1 g2 g3 => q a o g0 g1 (by omega) g3⟩
  by_cases w : o = c
  · subst w
    exact ⟨r, fun a g2 g3 g4 => u a g2 g3 (by omega) g4⟩
  · exact p o g0 (by omega)
theorem gR_row {κ : Int} {L : List Nat} {kd : Nat → Nat} {σ σ2 : zS} {a0 : Nat} {i x : Int} (hI : zJ κ L kd σ2) (ha : zT L kd a0 11) (g : zSame a0 [] [149] L kd σ σ2) (hw : ∀ j : Int, 0 ≤ j → zp a0 σ2 49 j = if j = i then x else zp a0 σ 49 j) (hi : 12 ≤ i ∧ i ≠ 49) (h : gR a0 σ) : gR a0 σ2 := by
  have hm := zM_in hI ha
  have e := zM_same hI ha g (by decide)
  unfold gR
  rw [e]
  rw [e] at hm
  refine gRow.congr hm.2 h (fun j h0 h1 => ?_)
  rw [hw j (by omega), if_neg (by omega)]
/-- told as a tree: each runs into one of those ahead -/
def gTo (a0 : Nat) (σ : zS) (s m : Int) : Prop := ∀ c : Int, 1 ≤ c → c < m → 0 ≤ zp a0 σ 22 (12 * s + c) ∧ zp a0 σ 22 (12 * s + c) < c
def gT (a0 : Nat) (σ : zS) : Prop := gTo a0 σ (σ.1 a0 18).toInt (zM a0 σ)
theorem gT.same {κ : Int} {L : List Nat} {kd : Nat → Nat} {σ σ2 : zS} {a0 : Nat} {Wf Wa : List Nat} (hI : zJ κ L kd σ2) (ha : zT L kd a0 11) (g : zSame a0 Wf Wa L kd σ σ2) (hd : (!Wf.contains 18 && (!Wa.contains 121 && !Wa.contains 122)) = true) (h : gT a0 σ) : gT a0 σ2 := by
  simp only [Bool.and_eq_true, Bool.not_eq_true'] at hd
  obtain ⟨h1, h2, h3⟩ := hd
  unfold gT gTo
  rw [zM_same hI ha g (by rw [h1, h2]; rfl), zp_same hI ha g 22 rfl (by decide) h3, zfl_same g 18 h1]
  exact h
theorem gRow.told {m : Int} {f g : Int → Int} (hm : m ≤ 12) (h : ∀ c : Int, 1 ≤ c → c < m → 0 ≤ g c ∧ g c < c) (e : ∀ c : Int, 0 ≤ c → c < m → f c = g c) (e9 : f 49 = 0) : gRow m f := by
  refine ⟨⟨fun c => c.toNat, fun c h1 h2 => ?_⟩, by omega, by omega⟩
  have q := h c h1 h2
  rw [e c (by omega) h2]
  exact ⟨q.1, by omega, fun _ => by show (g c).toNat < c.toNat; omega⟩
theorem gR_law {a0 : Nat} {σ : zS} (h : gR a0 σ) : 0 ≤ zp a0 σ 49 49 ∧ zp a0 σ 49 49 ≤ 2 := by
  obtain ⟨-, h1, h2⟩ := h
  exact ⟨h1, h2⟩
theorem gN_law {a0 : Nat} {σ : zS} (h : gN a0 σ) : 0 ≤ zp a0 σ 48 49 ∧ zp a0 σ 48 49 ≤ 2 := by
  obtain ⟨-, h1, h2⟩ := h
  exact ⟨h1, h2⟩
