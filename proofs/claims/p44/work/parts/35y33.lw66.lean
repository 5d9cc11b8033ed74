/-! ALL THAT CAN BE COUNTED: count -/
theorem ushr1 (w : Int32) : 0 ≤ ((w.toUInt32 >>> ((1 : Int32).toUInt32 &&& Int32.toUInt32 31)).toInt32).toInt := by
  have e : ((1 : Int32).toUInt32 &&& Int32.toUInt32 31) = 1 := by decide
  rw [e]
  have n : (w.toUInt32 >>> 1).toNat = w.toUInt32.toNat >>> 1 := by
    rw [UInt32.toNat_shiftRight]
    rfl
  have l := w.toUInt32.toNat_lt
  have b := BitVec.toInt_eq_toNat_cond (w.toUInt32 >>> 1).toBitVec
  have t : (w.toUInt32 >>> 1).toBitVec.toNat = (w.toUInt32 >>> 1).toNat := rfl
  show 0 ≤ (w.toUInt32 >>> 1).toBitVec.toInt
  rw [Nat.shiftRight_eq_div_pow] at n
  split at b <;> omega
theorem rem1 (w : Int32) : 0 ≤ ((w.toUInt32 >>> ((1 : Int32).toUInt32 &&& Int32.toUInt32 31)).toInt32 - (w.toUInt32 >>> ((1 : Int32).toUInt32 &&& Int32.toUInt32 31)).toInt32 / 100 * 100).toInt := (zb_rem 100 (by decide) (by decide)).2.2 (ushr1 w)
theorem held3 {v : Int32} (hi : ∀ j, 3 ≤ j → j < 32 → bt v j = false) : (F_J6_bitCount_0f7a4 v).toInt = (((bt v 0).toNat + (bt v 1).toNat + (bt v 2).toNat : Nat) : Int) := by
  have s : ∀ n, cnt (fun j => bt v j = true) (n + 1) = cnt (fun j => bt v j = true) n + (bt v n).toNat := fun n => by
    cases h : bt v n with
    | true =>
      rw [cnt_t (P := fun j => bt v j = true) (n := n) h]
      rfl
    | false =>
      rw [cnt_f (P := fun j => bt v j = true) (n := n) (by rw [h]; decide)]
      rfl
  rw [bitC (fun j j1 j2 => hi j (by omega) j2), cnt_ext (N := 3) 12 (by decide) (fun j j1 j2 w => by rw [hi j j1 (by omega)] at w; cases w), s 2, s 1, s 0]
  show ((0 + (bt v 0).toNat + (bt v 1).toNat + (bt v 2).toNat : Nat) : Int) = _
  rw [Nat.zero_add]
section CNTS
variable {κ : Int} {L2 : List Nat} {kd2 : Nat → Nat} {σ2 s t : zS} {m0 x0 sh td r A A2 C I TI B N : Nat} {p : Int32} {f : Nat → Int32}
theorem cStorm0 {v w : Int32} (h : (s.1 td 10).toInt = 0) : F_X9_isStorm td v w s = (0, s) := by
  have e : (if (1 : Int32).toInt ≤ (100 : Int32).toInt then (100 : Int32) else 1) = 100 := by decide
  unfold F_X9_isStorm F_X9_lot
  simp only [zlt, e]
  rw [if_neg (by rw [h]; exact Int.not_lt.mpr (rem1 _))]
theorem mStorm0 (g26 : (t.2.2 m0 26).getD 0 = A) (n18 : (t.1 m0 18).toNatClampNeg = B) (h : (t.1 A B).toInt = 0) : F_X11_isStorm m0 t = 0 := by
  unfold F_X11_isStorm
  simp only [zlt, g26, n18]
  rw [if_neg (by rw [h]; exact Int.not_lt.mpr (rem1 _))]
/-- the seed at hand behind a copy -/
theorem lots50 (hJ : zJ κ L2 kd2 σ2) (hm : zT L2 kd2 m0 11) : (F_X11_copies m0 σ2).1 m0 50 = σ2.1 (mR σ2 m0 29) (σ2.1 m0 18).toNatClampNeg := by
  have hY := zYm.of hJ hm
  obtain ⟨y, hy⟩ : ∃ y, y = zCp m0 σ2 σ2 := ⟨_, rfl⟩
  obtain ⟨t', ht'⟩ : ∃ t', t' = F_X11_fillsWays m0 y := ⟨_, rfl⟩
  have tE : F_X11_copies m0 σ2 = F_X11_fillsFlows m0 0 t' := by rw [ht', hy, zCopies hJ hm rfl]
  have yr : y.2.2 = σ2.2.2 := by rw [hy]; rfl
  have gw : zFr (fun c _ => c = mR σ2 m0 54 ∨ c = mR σ2 m0 52 ∨ c = mR σ2 m0 53) y t' := by rw [ht']; exact fr_X11_fillsWays zFr.id (fun _ => Or.inl (by rw [yr])) (fun _ => Or.inr (Or.inl (by rw [yr]))) (fun _ => Or.inr (Or.inr (by rw [yr])))
  have t'r : t'.2.2 = σ2.2.2 := gw.rf.trans yr
  have gf : zFr (zVw (mR σ2 m0) m0) t' (F_X11_fillsFlows m0 0 t') := fr_X11_fillsFlows zFr.id (fun _ => Or.inr (Or.inl (by rw [t'r]))) (Or.inr (Or.inr (Or.inr ⟨rfl, rfl⟩))) (fun _ => Or.inr (Or.inr (Or.inl (by rw [t'r])))) (fun _ => Or.inl (by rw [t'r]))
  have hY2 : zYm (mR σ2 m0) m0 t'.2.2 := by rw [t'r]; exact hY
  rw [tE, zVw.fl hY2 gf (by decide), gw.2 m0 50 (by
    rintro (z | z | z)
    · exact (hY.1 54 (by unfold zYj; omega)).2 z.symm
    · exact (hY.1 52 (by unfold zYj; omega)).2 z.symm
    · exact (hY.1 53 (by unfold zYj; omega)).2 z.symm), hy]
  show zu (zu (zcf σ2.1 (mR σ2 m0 49) (mR σ2 m0 48) 0 0 0 50) m0 50 (σ2.1 (mR σ2 m0 29) (σ2.1 m0 18).toNatClampNeg)) m0 51 0 m0 50 = _
  rw [zu_j _ _ _ _ _ (by decide), zu_s]
theorem sumC (h10 : (s.2.2 x0 10).getD 0 = td) (n0 : (s.1 td 0).toInt = N) (hN : N ≤ 12) : (F_X10_sumOf x0 r s).1 = sm (s.1 r) N := by
  have lp : ∀ (n : Nat) (x c : Int32) (i : Nat), x.toInt = i → i ≤ N → 13 - i < n → c = sm (s.1 r) i → (F_X10_sumOf_4 x0 r n x c s).1 = sm (s.1 r) N := by
    intro n
    induction n with
    | zero => intro x c i _ _ h; exact absurd h (by omega)
    | succ n ih =>
      intro x c i hx hi hn hc
      have nx : x.toNatClampNeg = i := by rw [ztn, hx]; rfl
      rw [F_X10_sumOf_4]
      simp only [↓zlt, h10, nx]
      by_cases d : i < N
      · rw [if_pos (by omega)]
        exact ih _ _ (i + 1) (zp1 hx (by omega)) (by omega) (by omega) (by rw [sm, hc])
      · rw [if_neg (by omega)]
        rw [hc, show i = N by omega]
  unfold F_X10_sumOf
  simp only [zlt]
  exact lp 10000 0 0 0 (by decide) (by omega) (by omega) rfl
/-- a sum from the first place beside the mouth -/
theorem sm_1 (f0 : 0 < N → f 0 = 0) : (1 ≤ N ∧ (0 : Int32) = sm f 1) ∨ N = 0 := by
  by_cases c : N = 0
  · exact Or.inr c
  · refine Or.inl ⟨by omega, ?_⟩
    rw [sm, sm, f0 (by omega)]
    rfl
theorem sumM1 (g49 : (t.2.2 m0 49).getD 0 = A) (hM : (F_X11_many m0 t).toInt = N) (hN : N ≤ 12) (hf : ∀ j, j < N → t.1 A (36 + j) = f j) (f0 : 0 < N → f 0 = 0) : (F_X11_count_150 m0 p 10000 1 0 t).1 = sm f N := by
  have e36 : (36 : Int32).toInt = 36 := by decide
  have lp : ∀ (n : Nat) (x c : Int32) (i : Nat), x.toInt = i → 1 ≤ i → 13 - i < n → ((i ≤ N ∧ c = sm f i) ∨ (N = 0 ∧ c = 0)) → (F_X11_count_150 m0 p n x c t).1 = sm f N := by
    intro n
    induction n with
    | zero => intro x c i _ _ h; exact absurd h (by omega)
    | succ n ih =>
      intro x c i hx hi hn hc
      rw [F_X11_count_150]
      simp only [↓zlt, g49]
      by_cases d : i < N
      · rw [if_pos (by omega), ixN (m := 36) (p := x) (M := 36) (P := i) e36 (by decide) hx (by omega), hf i d]
        rcases hc with ⟨c1, c2⟩ | ⟨c1, -⟩
        · exact ih _ _ (i + 1) (zp1 hx (by omega)) (by omega) (by omega) (Or.inl ⟨by omega, by rw [sm, c2]⟩)
        · omega
      · rw [if_neg (by omega)]
        rcases hc with ⟨c1, c2⟩ | ⟨c1, c2⟩
        · rw [c2, show i = N by omega]
        · rw [c2, c1]
          rfl
  refine lp 10000 1 0 1 (by decide) (by omega) (by omega) ?_
  rcases sm_1 f0 with h | h
  · exact Or.inl h
  · exact Or.inr ⟨h, rfl⟩
theorem sumM2 (g23 : (t.2.2 m0 23).getD 0 = A) (hM : (F_X11_many m0 t).toInt = N) (hN : N ≤ 12) (h18 : (t.1 m0 18).toInt = B) (hB : B ≤ 1) (hf : ∀ j, j < N → t.1 A (12 * B + j) = f j) (f0 : 0 < N → f 0 = 0) : (F_X11_count_253 m0 p 10000 1 0 t).1 = sm f N := by
  have lp : ∀ (n : Nat) (x c : Int32) (i : Nat), x.toInt = i → 1 ≤ i → 13 - i < n → ((i ≤ N ∧ c = sm f i) ∨ (N = 0 ∧ c = 0)) → (F_X11_count_253 m0 p n x c t).1 = sm f N := by
    intro n
    induction n with
    | zero => intro x c i _ _ h; exact absurd h (by omega)
    | succ n ih =>
      intro x c i hx hi hn hc
      rw [F_X11_count_253]
      simp only [↓zlt, g23]
      by_cases d : i < N
      · rw [if_pos (by omega), ix12 h18 hB hx (by omega), hf i d]
        rcases hc with ⟨c1, c2⟩ | ⟨c1, -⟩
        · exact ih _ _ (i + 1) (zp1 hx (by omega)) (by omega) (by omega) (Or.inl ⟨by omega, by rw [sm, c2]⟩)
        · omega
      · rw [if_neg (by omega)]
        rcases hc with ⟨c1, c2⟩ | ⟨c1, c2⟩
        · rw [c2, show i = N by omega]
        · rw [c2, c1]
          rfl
  refine lp 10000 1 0 1 (by decide) (by omega) (by omega) ?_
  rcases sm_1 f0 with h | h
  · exact Or.inl h
  · exact Or.inr ⟨h, rfl⟩
theorem sumM3 (g24 : (t.2.2 m0 24).getD 0 = A) (hM : (F_X11_many m0 t).toInt = N) (hN : N ≤ 12) (h18 : (t.1 m0 18).toInt = B) (hB : B ≤ 1) (hf : ∀ j, j < N → t.1 A (12 * B + j) = f j) (f0 : 0 < N → f 0 = 0) : (F_X11_count_335 m0 p 10000 1 0 t).1 = sm f N := by
  have lp : ∀ (n : Nat) (x c : Int32) (i : Nat), x.toInt = i → 1 ≤ i → 13 - i < n → ((i ≤ N ∧ c = sm f i) ∨ (N = 0 ∧ c = 0)) → (F_X11_count_335 m0 p n x c t).1 = sm f N := by
    intro n
    induction n with
    | zero => intro x c i _ _ h; exact absurd h (by omega)
    | succ n ih =>
      intro x c i hx hi hn hc
      rw [F_X11_count_335]
      simp only [↓zlt, g24]
      by_cases d : i < N
      · rw [if_pos (by omega), ix12 h18 hB hx (by omega), hf i d]
        rcases hc with ⟨c1, c2⟩ | ⟨c1, -⟩
        · exact ih _ _ (i + 1) (zp1 hx (by omega)) (by omega) (by omega) (Or.inl ⟨by omega, by rw [sm, c2]⟩)
        · omega
      · rw [if_neg (by omega)]
        rcases hc with ⟨c1, c2⟩ | ⟨c1, c2⟩
        · rw [c2, show i = N by omega]
        · rw [c2, c1]
          rfl
  refine lp 10000 1 0 1 (by decide) (by omega) (by omega) ?_
  rcases sm_1 f0 with h | h
  · exact Or.inl h
  · exact Or.inr ⟨h, rfl⟩
/-- which places are turned -/
theorem turnedE (h10 : (s.2.2 x0 10).getD 0 = td) (n0 : (s.1 td 0).toInt = N) (hN : N ≤ 12) (h6 : (s.2.2 x0 6).getD 0 = C) (hC : (s.2.2 C 0).getD 0 = I) (h2 : (s.2.2 td 2).getD 0 = TI) (g49 : (t.2.2 m0 49).getD 0 = A) (g22 : (t.2.2 m0 22).getD 0 = A2) (hM : (F_X11_many m0 t).toInt = N) (h18 : (t.1 m0 18).toInt = B) (hB : B ≤ 1) (hI : ∀ j, 1 ≤ j → j < N → (s.1 I j).toInt = (t.1 A j).toInt) (hT : ∀ j, 1 ≤ j → j < N → s.1 TI j = t.1 A2 (12 * B + j)) : (F_X10_turnedPlaces x0 s).1 = (F_X11_count_288 m0 p 10000 1 0 t).1 := by
  have em : ∀ z : Int32, F_X10_bit z = (1 : Int32) <<< (z &&& 31) := fun z => by
    unfold F_X10_bit
    simp only [zlt]
  have lp : ∀ (n : Nat) (x c : Int32) (i : Nat), x.toInt = i → 1 ≤ i → 13 - i < n → (F_X10_turnedPlaces_4 x0 n x c s).1 = (F_X11_count_288 m0 p n x c t).1 := by
    intro n
    induction n with
    | zero => intro x c i _ _ h; exact absurd h (by omega)
    | succ n ih =>
      intro x c i hx hi hn
      have nx : x.toNatClampNeg = i := by rw [ztn, hx]; rfl
      rw [F_X10_turnedPlaces_4, F_X11_count_288]
      simp only [↓zlt, h10, h6, hC, h2, nx, g49, g22, em]
      by_cases d : i < N
      · rw [if_pos (show x.toInt < (s.1 td 0).toInt by omega), if_pos (show x.toInt < (F_X11_many m0 t).toInt by omega), ix12 h18 hB hx (by omega), ← hT i hi d]
        have x1 := zp1 hx (by omega)
        have e := hI i hi d
        by_cases k : (s.1 I i).toInt = (s.1 TI i).toInt
        · rw [if_pos k, if_pos (show (t.1 A i).toInt = (s.1 TI i).toInt by omega)]
          exact ih _ _ (i + 1) x1 (by omega) (by omega)
        · rw [if_neg k, if_neg (show ¬ (t.1 A i).toInt = (s.1 TI i).toInt by omega)]
          exact ih _ _ (i + 1) x1 (by omega) (by omega)
      · rw [if_neg (show ¬ x.toInt < (s.1 td 0).toInt by omega), if_neg (show ¬ x.toInt < (F_X11_many m0 t).toInt by omega)]
  unfold F_X10_turnedPlaces
  simp only [zlt]
  exact lp 10000 1 0 1 (by decide) (by omega) (by omega)
/-- the farthest -/
theorem farE (n0 : (s.1 sh 0).toInt = N) (hN : N ≤ 12) (h3 : (s.2.2 sh 3).getD 0 = A) (hM : (F_X11_many m0 t).toInt = N) (g52 : (t.2.2 m0 52).getD 0 = A2) (hF : ∀ j, j < N → s.1 A j = t.1 A2 j) (h0 : 0 < N → s.1 A 0 = 0) : (F_X6_greatestFar sh s).1 = (F_X11_count_370 m0 p 10000 1 0 t).1 := by
  have e0 : (0 : Int32).toInt = 0 := by decide
  have o1 : (1 : Int32).toInt = 1 := by decide
  have lp : ∀ (n n' : Nat) (x c : Int32) (i : Nat), x.toInt = i → 1 ≤ i → 13 - i < n → 13 - i < n' → (F_X6_greatestFar_4 sh n x c s).1 = (F_X11_count_370 m0 p n' x c t).1 := by
    intro n
    induction n with
    | zero => intro n' x c i _ _ h; exact absurd h (by omega)
    | succ n ih =>
      intro n' x c i hx hi hn hn'
      obtain ⟨n', rfl⟩ : ∃ k, n' = k + 1 := ⟨n' - 1, by omega⟩
      have nx : x.toNatClampNeg = i := by rw [ztn, hx]; rfl
      rw [F_X6_greatestFar_4, F_X11_count_370]
      simp only [↓zlt, h3, nx, g52]
      by_cases d : i < N
      · rw [if_pos (show x.toInt < (s.1 sh 0).toInt by omega), if_pos (show x.toInt < (F_X11_many m0 t).toInt by omega), hF i d]
        have x1 := zp1 hx (by omega)
        by_cases k : c.toInt < (t.1 A2 i).toInt
        · rw [if_pos k, if_pos (show c.toInt ≤ (t.1 A2 i).toInt by omega)]
          exact ih n' _ _ (i + 1) x1 (by omega) (by omega) (by omega)
        · rw [if_neg k]
          by_cases e : c.toInt ≤ (t.1 A2 i).toInt
          · rw [if_pos e, show t.1 A2 i = c from Int32.toInt_inj.mp (by omega)]
            exact ih n' _ _ (i + 1) x1 (by omega) (by omega) (by omega)
          · rw [if_neg e]
            exact ih n' _ _ (i + 1) x1 (by omega) (by omega) (by omega)
      · rw [if_neg (show ¬ x.toInt < (s.1 sh 0).toInt by omega), if_neg (show ¬ x.toInt < (F_X11_many m0 t).toInt by omega)]
  have w0 : (0 : Int32).toNatClampNeg = 0 := by decide
  have p01 : (0 : Int32) + 1 = 1 := by decide
  unfold F_X6_greatestFar
  simp only [zlt]
  rw [show (10000 : Nat) = 9999 + 1 from rfl, F_X6_greatestFar_4]
  simp only [↓zlt, h3, w0, p01]
  by_cases d : 0 < N
  · rw [if_pos (show (0 : Int32).toInt < (s.1 sh 0).toInt by omega), h0 d, if_pos (Int.le_refl _)]
    exact lp 9999 (9999 + 1) 1 0 1 (by decide) (by omega) (by omega) (by omega)
  · rw [if_neg (show ¬ (0 : Int32).toInt < (s.1 sh 0).toInt by omega), F_X11_count_370]
    simp only [↓zlt]
    rw [if_neg (show ¬ (1 : Int32).toInt < (F_X11_many m0 t).toInt by omega)]
end CNTS
