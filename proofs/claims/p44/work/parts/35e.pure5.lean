def zsr (c : Int) : Int := if c = 59 then 4 else if c = 61 then 5 else if c = 43 then 8 else if c = 45 then 9 else if c = 42 then 10 else if c = 47 then 15 else if c = 60 then 13 else if c = 40 then 6 else if c = 41 then 7 else 3
theorem rsign {a0 : Nat} {i c d : Int32} {σ : zS} : ∃ K : Int32, F_X11_sign a0 i c d σ = (1, F_X11_token a0 K i 0 (Int64.ofNat 0) σ) ∧ K.toInt = zsr c.toInt := by
  have e59 : (59 : Int32).toInt = 59 := by decide
  have e61 : (61 : Int32).toInt = 61 := by decide
  have e40 : (40 : Int32).toInt = 40 := by decide
  have e41 : (41 : Int32).toInt = 41 := by decide
  have e43 : (43 : Int32).toInt = 43 := by decide
  have e45 : (45 : Int32).toInt = 45 := by decide
  have e42 : (42 : Int32).toInt = 42 := by decide
  have e47 : (47 : Int32).toInt = 47 := by decide
  have e60 : (60 : Int32).toInt = 60 := by decide
  unfold F_X11_sign zsr
  simp only [zlt, e59, e61, e40, e41, e43, e45, e42, e47, e60]
  by_cases h59 : c.toInt = 59
  · rw [if_pos h59, if_pos h59, if_neg (by omega), if_neg (by omega), if_neg (by omega), if_neg (by omega), if_neg (by omega)]
    exact ⟨4, rfl, by decide⟩
  rw [if_neg h59, if_neg h59]
  by_cases h61 : c.toInt = 61
  · rw [if_pos h61, if_pos h61, if_neg (by omega), if_neg (by omega), if_neg (by omega), if_neg (by omega), if_neg (by omega)]
    exact ⟨5, rfl, by decide⟩
  rw [if_neg h61, if_neg h61]
  by_cases h40 : c.toInt = 40
  · rw [if_pos h40, if_neg (by omega), if_neg (by omega), if_neg (by omega), if_neg (by omega), if_neg (by omega)]
    exact ⟨6, rfl, by rw [if_neg (by omega), if_neg (by omega), if_neg (by omega), if_neg (by omega), if_neg (by omega), if_pos h40]; decide⟩
  rw [if_neg h40]
  by_cases h41 : c.toInt = 41
  · rw [if_pos h41, if_neg (by omega), if_neg (by omega), if_neg (by omega), if_neg (by omega), if_neg (by omega)]
    exact ⟨7, rfl, by rw [if_neg (by omega), if_neg (by omega), if_neg (by omega), if_neg (by omega), if_neg (by omega), if_neg (by omega), if_pos h41]; decide⟩
  rw [if_neg h41]
  by_cases h43 : c.toInt = 43
  · rw [if_pos h43, if_pos h43, if_neg (by omega), if_neg (by omega), if_neg (by omega), if_neg (by omega)]
    exact ⟨8, rfl, by decide⟩
  rw [if_neg h43, if_neg h43]
  by_cases h45 : c.toInt = 45
  · rw [if_pos h45, if_pos h45, if_neg (by omega), if_neg (by omega), if_neg (by omega)]
    exact ⟨9, rfl, by decide⟩
  rw [if_neg h45, if_neg h45]
  by_cases h42 : c.toInt = 42
  · rw [if_pos h42, if_pos h42, if_neg (by omega), if_neg (by omega)]
    exact ⟨10, rfl, by decide⟩
  rw [if_neg h42, if_neg h42]
  by_cases h47 : c.toInt = 47
  · rw [if_pos h47, if_pos h47, if_neg (by omega)]
    exact ⟨15, rfl, by decide⟩
  rw [if_neg h47, if_neg h47]
  by_cases h60 : c.toInt = 60
  · rw [if_pos h60, if_pos h60]
    exact ⟨13, rfl, by decide⟩
  rw [if_neg h60, if_neg h60, if_neg h40, if_neg h41]
  exact ⟨3, rfl, by decide⟩
def zKr (Y : Nat → Int64) (x : Int64) (K : Int) : Prop := (K = 1 ∧ ∀ i, i < 22 → Y i ≠ x) ∨ ∃ i : Nat, i < 22 ∧ K = 20 + (i : Int) ∧ Y i = x
theorem rk_loop {a0 y : Nat} {x75 : Int64} {x76 v12 x6 : Int32} {k7 : Int32 → zS → zS} {k77 : Int64 → Int32 → zS → zS} {τ : zS} (hy : τ.2.2 a0 9 = some y) : ∀ (N : Nat) (i q : Int32) (k : Nat), i.toInt = k → k ≤ 22 → ((q.toInt = 1 ∧ ∀ j, j < k → τ.2.1 y j ≠ x75) ∨ ∃ j : Nat, j < k ∧ q.toInt = 20 + (j : Int) ∧ τ.2.1 y j = x75) → 22 - k < N → ∃ K : Int32, F_X11_cut_146 x75 x76 v12 x6 a0 k7 k77 N i q τ = k7 (x6 + x76) (F_X11_token a0 K x6 0 x75 τ) ∧ zKr (τ.2.1 y) x75 K.toInt := by
  intro N
  induction N with
  | zero => intro i q k _ _ _ h; exact absurd h (by omega)
  | succ N ih =>
    intro i q k hi hk hq hm
    have e22 : (22 : Int32).toInt = 22 := by decide
    have e20 : (20 : Int32).toInt = 20 := by decide
    have hik : i.toNatClampNeg = k := by rw [ztn, hi]; rfl
    have hyd : (τ.2.2 a0 9).getD 0 = y := by rw [hy]; rfl
    rw [F_X11_cut_146]
    simp only [zlt, e22, hyd, hik, zcmp0]
    by_cases c0 : i.toInt < 22
    · rw [if_pos c0]
      by_cases c1 : τ.2.1 y k = x75
      · rw [if_pos c1]
        exact ih _ _ (k + 1) (zp1 hi (by omega)) (by omega) (Or.inr ⟨k, by omega, by rw [zb_add (by rw [e20]; omega) (by rw [e20]; omega), e20, hi], c1⟩) (by omega)
      · rw [if_neg c1]
        refine ih _ _ (k + 1) (zp1 hi (by omega)) (by omega) ?_ (by omega)
        rcases hq with ⟨h1, h2⟩ | ⟨j, h1, h2, h3⟩
        · refine Or.inl ⟨h1, fun j hj => ?_⟩
          by_cases hjk : j = k
          · subst hjk; exact c1
          · exact h2 j (by omega)
        · exact Or.inr ⟨j, by omega, h2, h3⟩
    · rw [if_neg c0]
      have hk2 : k = 22 := by omega
      subst hk2
      refine ⟨q, rfl, ?_⟩
      rcases hq with ⟨h1, h2⟩ | ⟨j, h1, h2, h3⟩
      · exact Or.inl ⟨h1, h2⟩
      · exact Or.inr ⟨j, h1, h2, h3⟩
theorem zad {x y : Int32} {a b : Nat} (hx : x.toInt = a) (hy : y.toInt = b) (h : a + b < 4000) : (x + y).toInt = ((a + b : Nat) : Int) := by
  rw [zb_add (by rw [hx, hy]; omega) (by rw [hx, hy]; omega), hx, hy]
  rfl
def zlr (b : Nat → Int32) (a c : Nat) : Int64 := Int64.ofInt (zvb 27 (zwd b a (min c 8)))
theorem rl_loop {a0 x y n i : Nat} {v12 x6 : Int32} {k7 : Int32 → zS → zS} {τ : zS} (hy : τ.2.2 a0 9 = some y) (ht : zTx a0 x n τ) (h6 : x6.toInt = i) : ∀ (N : Nat) (nm : Int64) (c : Int32) (k : Nat), c.toInt = k → i + k ≤ n → (∀ j, i ≤ j → j < i + k → j < n ∧ zLt (τ.1 x j).toInt) → nm = zlr (τ.1 x) i k → n - (i + k) < N → ∃ (e : Nat) (ex K : Int32) (M : Int64), ex.toInt = e ∧ e ≤ n ∧ zRun zLt (τ.1 x) n i e ∧ ((8 < e - i ∧ K.toInt = 3) ∨ (e - i ≤ 8 ∧ M = Int64.ofInt (zvb 27 (zwd (τ.1 x) i (e - i))) ∧ zKr (τ.2.1 y) M K.toInt)) ∧ F_X11_cut_85 v12 x6 a0 k7 N nm c τ = k7 ex (F_X11_token a0 K x6 0 M τ) := by
  have hn2 := ht.2.2.1
  intro N
  induction N with
  | zero => intro nm c k _ _ _ _ h; exact absurd h (by omega)
  | succ N ih =>
    intro nm c k hc hkn hb hnm hm
    have e8 : (8 : Int32).toInt = 8 := by decide
    have hs := zad h6 hc (by omega)
    rw [F_X11_cut_85]
    simp only [zlt, zlt2, rL1, rbyL ht hs, e8]
    by_cases c1 : i + k < n ∧ zLt (τ.1 x (i + k)).toInt
    · rw [if_neg (fun z => z c1)]
      have nx := fun nm2 h2 => ih nm2 (c + (1 : Int32)) (k + 1) (zp1 hc (by omega)) (by omega) (fun j h1 h2 => by
          by_cases hj : j = i + k
          · subst hj; exact c1
          · exact hb j h1 (by omega)) h2 (by omega)
      by_cases c2 : c.toInt < 8
      · rw [if_pos c2]
        refine nx _ ?_
        have hcl : zLt (F_X11_byteAt a0 (x6 + c) τ).toInt := by rw [rbyL ht hs]; exact c1
        have hcv : (F_X11_byteAt a0 (x6 + c) τ).toInt = (τ.1 x (i + k)).toInt := by
          rw [rby ht hs, if_pos c1.1]
          unfold zub
          rw [if_pos (by have := c1.2.1; omega)]
        unfold zlr at hnm ⊢
        rw [rap hnm hcl, hcv, show min (k + 1) 8 = min k 8 + 1 by omega, zwd, show min k 8 = k by omega]
      · rw [if_neg c2]
        refine nx _ ?_
        rw [hnm]
        unfold zlr
        rw [show min (k + 1) 8 = min k 8 by omega]
    · rw [if_pos c1]
      have hR : zRun zLt (τ.1 x) n i (i + k) := ⟨by omega, hb, c1⟩
      by_cases c2 : 8 < c.toInt
      · rw [if_pos c2, if_pos c2]
        exact ⟨i + k, x6 + c, 3, nm, hs, hkn, hR, Or.inl ⟨by omega, by decide⟩, rfl⟩
      · rw [if_neg c2, if_neg c2]
        obtain ⟨K, q1, q2⟩ := rk_loop (x75 := nm) (x76 := c) (v12 := v12) (x6 := x6) (k7 := k7) (k77 := F_X11_cut_85 v12 x6 a0 k7 N) hy 10000 0 1 0 (by decide) (by omega) (Or.inl ⟨by decide, fun j hj => absurd hj (by omega)⟩) (by omega)
        rw [q1]
        refine ⟨i + k, x6 + c, K, nm, hs, hkn, hR, Or.inr ⟨by omega, ?_, q2⟩, rfl⟩
        rw [hnm]
        unfold zlr
        rw [show min k 8 = i + k - i by omega]
theorem rd_loop {a0 x n i : Nat} {v12 x6 : Int32} {k7 : Int32 → zS → zS} {τ : zS} (ht : zTx a0 x n τ) (h6 : x6.toInt = i) : ∀ (N : Nat) (d c : Int32) (k : Nat), c.toInt = k → i + k ≤ n → (∀ j, i ≤ j → j < i + k → j < n ∧ zDg (τ.1 x j).toInt) → (k ≤ 4 → d.toInt = zdv (τ.1 x) i k) → n - (i + k) < N → ∃ (e : Nat) (ex K V : Int32), ex.toInt = e ∧ e ≤ n ∧ zRun zDg (τ.1 x) n i e ∧ ((4 < e - i ∧ K.toInt = 3) ∨ (e - i ≤ 4 ∧ K.toInt = 2 ∧ V.toInt = zdv (τ.1 x) i (e - i))) ∧ F_X11_cut_208 v12 x6 a0 k7 N d c τ = k7 ex (F_X11_token a0 K x6 V (Int64.ofNat 0) τ) := by
  have hn2 := ht.2.2.1
  intro N
  induction N with
  | zero => intro d c k _ _ _ _ h; exact absurd h (by omega)
  | succ N ih =>
    intro d c k hc hkn hb hd hm
    have e4 : (4 : Int32).toInt = 4 := by decide
    have e10 : (10 : Int32).toInt = 10 := by decide
    have e48 : (48 : Int32).toInt = 48 := by decide
    have hs := zad h6 hc (by omega)
    rw [F_X11_cut_208]
    simp only [zlt, zlt2, rD1, rbyD ht hs, e4]
    by_cases c1 : i + k < n ∧ zDg (τ.1 x (i + k)).toInt
    · rw [if_neg (fun z => z c1)]
      have nx := fun d2 h2 => ih d2 (c + (1 : Int32)) (k + 1) (zp1 hc (by omega)) (by omega) (fun j h1 h2 => by
          by_cases hj : j = i + k
          · subst hj; exact c1
          · exact hb j h1 (by omega)) h2 (by omega)
      by_cases c2 : c.toInt < 4
      · rw [if_pos c2]
        refine nx _ (fun _ => ?_)
        have hcv : (F_X11_byteAt a0 (x6 + c) τ).toInt = (τ.1 x (i + k)).toInt := by
          rw [rby ht hs, if_pos c1.1]
          unfold zub
          rw [if_pos (by have := c1.2.1; omega)]
        have q := zdv_b (b := τ.1 x) (a := i) k (by omega) (fun j hj => (hb (i + j) (by omega) (by omega)).2)
        have hd4 := hd (by omega)
        rw [← hd4] at q
        have q9 := q.2.2.2.2.2 (by omega)
        have cc := c1.2
        unfold zDg at cc
        have m1 : ((10 : Int32) * d).toInt = 10 * d.toInt := by rw [Int32.toInt_mul, e10, Int.bmod_eq_of_le (by omega) (by omega)]
        have m2 : ((10 : Int32) * d + F_X11_byteAt a0 (x6 + c) τ).toInt = 10 * d.toInt + (τ.1 x (i + k)).toInt := by rw [zb_add (by rw [m1, hcv]; omega) (by rw [m1, hcv]; omega), m1, hcv]
        rw [zb_sub (by rw [m2, e48]; omega) (by rw [m2, e48]; omega), m2, e48, zdv, ← hd4]
        omega
      · rw [if_neg c2]
        exact nx _ (fun z => absurd z (by omega))
    · rw [if_pos c1]
      have hR : zRun zDg (τ.1 x) n i (i + k) := ⟨by omega, hb, c1⟩
      by_cases c2 : 4 < c.toInt
      · rw [if_pos c2]
        exact ⟨i + k, x6 + c, 3, d, hs, hkn, hR, Or.inl ⟨by omega, by decide⟩, rfl⟩
      · rw [if_neg c2]
        refine ⟨i + k, x6 + c, 2, d, hs, hkn, hR, Or.inr ⟨by omega, by decide, ?_⟩, rfl⟩
        rw [show i + k - i = k by omega]
        exact hd (by omega)
/-- the reference's token that is looked for from a on -/
def zRT (b : Nat → Int32) (n : Nat) (Y : Nat → Int64) (a : Nat) (K Q V : Int) (M : Int64) (e : Nat) : Prop :=
  ∃ s, zRun zBl b n a s ∧ Q = s ∧ s ≤ n ∧ ((s = n ∧ K = 0) ∨ (s < n ∧ zLt (b s).toInt ∧ zRun zLt b n s e ∧ ((8 < e - s ∧ K = 3) ∨ (e - s ≤ 8 ∧ M = Int64.ofInt (zvb 27 (zwd b s (e - s))) ∧ zKr Y M K))) ∨ (s < n ∧ zDg (b s).toInt ∧ zRun zDg b n s e ∧ ((4 < e - s ∧ K = 3) ∨ (e - s ≤ 4 ∧ K = 2 ∧ V = zdv b s (e - s)))) ∨ (s < n ∧ ¬ zLt (b s).toInt ∧ ¬ zDg (b s).toInt ∧ e = s + 1 ∧ K = zsr (b s).toInt))
def zRq (b : Nat → Int32) (n : Nat) (Y : Nat → Int64) (k q v nm : Nat) (σ : zS) (m : Nat) (E : Nat → Nat) : Prop :=
  E 0 = 0 ∧ (∀ j, j < m → zRT b n Y (E j) (σ.1 k j).toInt (σ.1 q j).toInt (σ.1 v j).toInt (σ.2.1 nm j) (E (j + 1))) ∧ ∀ j, j + 1 < m → (σ.1 k j).toInt ≠ 0
theorem zblub {c : Int} (h0 : -128 ≤ c) (h1 : c ≤ 127) : (zub c = 9 ∨ zub c = 10 ∨ zub c = 13 ∨ zub c = 32) = zBl c := by
  unfold zub zBl
  split
  · exact propext ⟨fun h => by omega, fun h => by omega⟩
  · exact propext ⟨fun h => by omega, fun h => by omega⟩
theorem zsr_neg {c : Int} (h : ¬ 0 ≤ c) (h0 : -128 ≤ c) : zsr (c + 256) = zsr c := by
  unfold zsr
  rw [if_neg (by omega), if_neg (by omega), if_neg (by omega), if_neg (by omega), if_neg (by omega), if_neg (by omega), if_neg (by omega), if_neg (by omega), if_neg (by omega), if_neg (by omega), if_neg (by omega), if_neg (by omega), if_neg (by omega), if_neg (by omega), if_neg (by omega), if_neg (by omega), if_neg (by omega), if_neg (by omega)]
theorem zsr_ub {c : Int} (h0 : -128 ≤ c) : zsr (zub c) = zsr c := by
  by_cases h : 0 ≤ c
  · unfold zub; rw [if_pos h]
  · unfold zub; rw [if_neg h]; exact zsr_neg h h0
theorem rc_loop {a0 x y n k q v nm : Nat} (hd : zRd a0 k q v nm) (hx : x ≠ a0 ∧ x ≠ k ∧ x ≠ q ∧ x ≠ v) (hyn : y ≠ nm) : ∀ (N : Nat) (i : Int32) (τ : zS) (m a p : Nat) (E : Nat → Nat), zTx a0 x n τ → zRl a0 k q v nm y τ → (τ.1 a0 10).toInt = m → m ≤ 401 → i.toInt = p → a ≤ p → p ≤ n → E m = a → (∀ j, a ≤ j → j < p → j < n ∧ zBl (τ.1 x j).toInt) → zRq (τ.1 x) n (τ.2.1 y) k q v nm τ m E → (m ≠ 0 → (τ.1 k (m - 1)).toInt ≠ 0) → 4000 * (401 - m) + (2001 - p) < N →
    ∃ (m' : Nat) (E' : Nat → Nat), ((F_X11_cut_7 a0 N i τ).1 a0 10).toInt = m' ∧ m' ≤ 401 ∧ zRq (τ.1 x) n (τ.2.1 y) k q v nm (F_X11_cut_7 a0 N i τ) m' E' ∧ (m' = 401 ∨ (0 < m' ∧ ((F_X11_cut_7 a0 N i τ).1 k (m' - 1)).toInt = 0)) ∧ zFq a0 k q v nm τ (F_X11_cut_7 a0 N i τ) := by
  intro N
  induction N with
  | zero => intro i τ m a p E _ _ _ _ _ _ _ _ _ _ _ h; exact absurd h (by omega)
  | succ N ih =>
    intro i τ m a p E ht hl hm hm4 hi hap hpn hE hb hT hz hf
    have hn2 := ht.2.2.1
    have e400 : (400 : Int32).toInt = 400 := by decide
    have e9 : (9 : Int32).toInt = 9 := by decide
    have e10 : (10 : Int32).toInt = 10 := by decide
    have e13 : (13 : Int32).toInt = 13 := by decide
    have e32 : (32 : Int32).toInt = 32 := by decide
    by_cases c0 : m = 401
    · have e : F_X11_cut_7 a0 (N + 1) i τ = τ := by
        rw [F_X11_cut_7]
        simp only [zlt, zlt2]
        rw [if_pos (by rw [e400]; omega)]
      rw [e]
      exact ⟨m, E, hm, hm4, hT, Or.inl c0, zFq.rf⟩
    have hbt := rby ht hi
    have hsz := ht.2.1
    -- what a token brings
    have tok : ∀ (K Q V : Int32) (M : Int64) (e : Nat), e ≤ n → zRT (τ.1 x) n (τ.2.1 y) a K.toInt Q.toInt V.toInt M e → zRq (τ.1 x) n (τ.2.1 y) k q v nm (zAr a0 k q v nm τ m K Q V M) (m + 1) (fun j => if j = m + 1 then e else E j) := fun K Q V M e he hK => by
      obtain ⟨q1, q2, q3, q4, q5⟩ := zAr_at (K := K) (Q := Q) (V := V) (M := M) hd hm (by omega)
      refine ⟨by show (if 0 = m + 1 then e else E 0) = 0; rw [if_neg (by omega)]; exact hT.1, fun j hj => ?_, fun j hj => ?_⟩
      · rw [q2, q3, q4, q5]
        by_cases hjm : j = m
        · subst hjm
          rw [if_pos rfl, if_pos rfl, if_pos rfl, if_pos rfl]
          simp only [if_pos, if_neg (show ¬ j = j + 1 by omega)]
          rw [hE]
          exact hK
        · rw [if_neg hjm, if_neg hjm, if_neg hjm, if_neg hjm]
          simp only [if_neg (show ¬ j = m + 1 by omega), if_neg (show ¬ j + 1 = m + 1 by omega)]
          exact hT.2.1 j (by omega)
      · rw [q2]
        by_cases hjm : j = m
        · exact absurd hj (by omega)
        · rw [if_neg hjm]
          by_cases h9 : j + 1 = m
          · have hg := hz (by omega)
            rw [show m - 1 = j by omega] at hg
            exact hg
          · exact hT.2.2 j (by omega)
    have go : ∀ (K Q V : Int32) (M : Int64) (e : Nat) (ex : Int32), ex.toInt = e → p < e → e ≤ n → K.toInt ≠ 0 → zRT (τ.1 x) n (τ.2.1 y) a K.toInt Q.toInt V.toInt M e → ∃ (m' : Nat) (E' : Nat → Nat), ((F_X11_cut_7 a0 N ex (F_X11_token a0 K Q V M τ)).1 a0 10).toInt = m' ∧ m' ≤ 401 ∧ zRq (τ.1 x) n (τ.2.1 y) k q v nm (F_X11_cut_7 a0 N ex (F_X11_token a0 K Q V M τ)) m' E' ∧ (m' = 401 ∨ (0 < m' ∧ ((F_X11_cut_7 a0 N ex (F_X11_token a0 K Q V M τ)).1 k (m' - 1)).toInt = 0)) ∧ zFq a0 k q v nm τ (F_X11_cut_7 a0 N ex (F_X11_token a0 K Q V M τ)) := fun K Q V M e ex hex hpe hen hK0 hK => by
      rw [rtok hl hd hm]
      obtain ⟨τ1, h1⟩ : ∃ s, s = zAr a0 k q v nm τ m K Q V M := ⟨_, rfl⟩
      have fr := zAr_fr (m := m) (K := K) (Q := Q) (V := V) (M := M) (σ := τ) hd
      obtain ⟨q1, q2, q3, q4, q5⟩ := zAr_at (K := K) (Q := Q) (V := V) (M := M) hd hm (by omega)
      have tk := tok K Q V M e hen hK
      rw [← h1] at fr q1 q2 tk ⊢
      have hx1 : τ1.1 x = τ.1 x := fr.2.1 x hx.1 hx.2.1 hx.2.2.1 hx.2.2.2
      have hy1 : τ1.2.1 y = τ.2.1 y := fr.2.2.1 y hyn
      have ht1 : zTx a0 x n τ1 := ⟨by rw [fr.1]; exact ht.1, by rw [fr.2.2.2 4 (by decide)]; exact ht.2.1, ht.2.2.1, by rw [hx1]; exact ht.2.2.2⟩
      have hl1 : zRl a0 k q v nm y τ1 := by unfold zRl; rw [fr.1]; exact hl
      obtain ⟨m', E', z1, z2, z3, z4, z5⟩ := ih ex τ1 (m + 1) e e (fun j => if j = m + 1 then e else E j) ht1 hl1 q1 (by omega) hex (Nat.le_refl _) hen (if_pos rfl) (fun j z1 z2 => absurd z2 (by omega)) (by rw [hx1, hy1]; exact tk) (fun _ => by
        rw [show m + 1 - 1 = m by omega, q2, if_pos rfl]
        exact hK0) (by omega)
      exact ⟨m', E', z1, z2, by rw [hx1, hy1] at z3; exact z3, z4, fr.tr z5⟩
    rw [F_X11_cut_7]
    simp only [zlt, zlt2, e9, e10, e13, e32, rL1, rD1]
    rw [if_neg (by rw [e400]; omega)]
    by_cases c1 : p < n
    · rw [if_pos (by omega)]
      rw [if_pos c1] at hbt
      have hr := ht.2.2.2 p
      have blank : Unit → zBl (τ.1 x p).toInt → ∃ (m' : Nat) (E' : Nat → Nat), ((F_X11_cut_7 a0 N (i + (1 : Int32)) τ).1 a0 10).toInt = m' ∧ m' ≤ 401 ∧ zRq (τ.1 x) n (τ.2.1 y) k q v nm (F_X11_cut_7 a0 N (i + (1 : Int32)) τ) m' E' ∧ (m' = 401 ∨ (0 < m' ∧ ((F_X11_cut_7 a0 N (i + (1 : Int32)) τ).1 k (m' - 1)).toInt = 0)) ∧ zFq a0 k q v nm τ (F_X11_cut_7 a0 N (i + (1 : Int32)) τ) := fun _ z =>
        ih (i + (1 : Int32)) τ m a (p + 1) E ht hl hm hm4 (zp1 hi (by omega)) (by omega) (by omega) hE (fun j h1 h2 => by
          by_cases hj : j = p
          · subst hj; exact ⟨c1, z⟩
          · exact hb j h1 (by omega)) hT hz (by omega)
      have bl := zblub hr.1 hr.2
      rw [← hbt] at bl
      by_cases b1 : (F_X11_byteAt a0 i τ).toInt = 9
      · rw [if_pos b1]; exact blank () (by rw [← bl]; exact Or.inl b1)
      rw [if_neg b1]
      by_cases b2 : (F_X11_byteAt a0 i τ).toInt = 10
      · rw [if_pos b2]; exact blank () (by rw [← bl]; exact Or.inr (Or.inl b2))
      rw [if_neg b2]
      by_cases b3 : (F_X11_byteAt a0 i τ).toInt = 13
      · rw [if_pos b3]; exact blank () (by rw [← bl]; exact Or.inr (Or.inr (Or.inl b3)))
      rw [if_neg b3]
      by_cases b4 : (F_X11_byteAt a0 i τ).toInt = 32
      · rw [if_pos b4]; exact blank () (by rw [← bl]; exact Or.inr (Or.inr (Or.inr b4)))
      rw [if_neg b4]
      have nb : ¬ zBl (τ.1 x p).toInt := by rw [← bl]; omega
      have hR : zRun zBl (τ.1 x) n a p := ⟨hap, hb, fun z => nb z.2⟩
      have e0 : (0 : Int32).toInt = 0 := by decide
      have e1 : (1 : Int32).toInt = 1 := by decide
      by_cases b5 : zLt (F_X11_byteAt a0 i τ).toInt
      · rw [if_neg (fun z => z b5)]
        have b6 : p < n ∧ zLt (τ.1 x p).toInt := by rw [← rbyL ht hi]; exact b5
        obtain ⟨e, ex, K, M, h1, h2, h3, h4, h5⟩ := rl_loop (v12 := F_X11_byteAt a0 i τ) (k7 := F_X11_cut_7 a0 N) hl.2.2.2.2 ht hi 10000 (Int64.ofNat 0) 0 0 (by decide) (by omega) (fun j z1 z2 => absurd z2 (by omega)) (by unfold zlr; rfl) (by omega)
        rw [h5]
        have hpe : p < e := by
          rcases Nat.lt_or_ge p e with z | z
          · exact z
          · have : e = p := Nat.le_antisymm z h3.1
            subst this
            exact absurd b6 h3.2.2
        refine go K i 0 M e ex h1 hpe h2 ?_ ⟨p, hR, hi, hpn, Or.inr (Or.inl ⟨c1, b6.2, h3, h4⟩)⟩
        rcases h4 with ⟨-, z⟩ | ⟨-, -, z⟩
        · omega
        · rcases z with ⟨z, -⟩ | ⟨j, -, z, -⟩ <;> omega
      · rw [if_pos b5]
        by_cases b7 : zDg (F_X11_byteAt a0 i τ).toInt
        · rw [if_neg (fun z => z b7)]
          have b6 : p < n ∧ zDg (τ.1 x p).toInt := by rw [← rbyD ht hi]; exact b7
          obtain ⟨e, ex, K, V, h1, h2, h3, h4, h5⟩ := rd_loop (v12 := F_X11_byteAt a0 i τ) (k7 := F_X11_cut_7 a0 N) ht hi 10000 0 0 0 (by decide) (by omega) (fun j z1 z2 => absurd z2 (by omega)) (fun _ => by show (0 : Int32).toInt = 0; decide) (by omega)
          rw [h5]
          have hpe : p < e := by
            rcases Nat.lt_or_ge p e with z | z
            · exact z
            · have : e = p := Nat.le_antisymm z h3.1
              subst this
              exact absurd b6 h3.2.2
          refine go K i V _ e ex h1 hpe h2 (by omega) ⟨p, hR, hi, hpn, Or.inr (Or.inr (Or.inl ⟨c1, b6.2, h3, h4⟩))⟩
        · rw [if_pos b7]
          obtain ⟨K, s1, s2⟩ := rsign (a0 := a0) (i := i) (c := F_X11_byteAt a0 i τ) (d := F_X11_byteAt a0 (i + (1 : Int32)) τ) (σ := τ)
          rw [s1]
          have b8 : ¬ zLt (τ.1 x p).toInt := fun z => b5 (by rw [rbyL ht hi]; exact ⟨c1, z⟩)
          have b9 : ¬ zDg (τ.1 x p).toInt := fun z => b7 (by rw [rbyD ht hi]; exact ⟨c1, z⟩)
          rw [hbt, zsr_ub hr.1] at s2
          refine go K i 0 _ (p + 1) (i + (1 : Int32)) (zp1 hi (by omega)) (by omega) (by omega) ?_ ⟨p, hR, hi, hpn, Or.inr (Or.inr (Or.inr ⟨c1, b8, b9, rfl, s2⟩))⟩
          rw [s2]
          unfold zsr
          (repeat' split) <;> omega
    · rw [if_neg (by omega), rtok hl hd hm]
      have hpn2 : p = n := by omega
      have hR : zRun zBl (τ.1 x) n a p := ⟨hap, hb, fun z => by omega⟩
      obtain ⟨q1, q2, q3, q4, q5⟩ := zAr_at (K := 0) (Q := τ.1 a0 4) (V := 0) (M := Int64.ofNat 0) hd hm (by omega)
      refine ⟨m + 1, _, q1, by omega, tok 0 (τ.1 a0 4) 0 (Int64.ofNat 0) p hpn ⟨p, hR, by omega, hpn, Or.inl ⟨hpn2, by decide⟩⟩, Or.inr ⟨by omega, ?_⟩, zAr_fr hd⟩
      rw [show m + 1 - 1 = m by omega, q2, if_pos rfl]
      decide
