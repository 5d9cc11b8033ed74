/-! THE CUTTING OF A TEXT INTO TOKENS, the class' -/
abbrev zBl (c : Int) : Prop := c = 32 ∨ c = 9 ∨ c = 10 ∨ c = 13
abbrev zLt (c : Int) : Prop := 97 ≤ c ∧ c ≤ 122
abbrev zDg (c : Int) : Prop := 48 ≤ c ∧ c ≤ 57
/-- from a on all is so up to e, and no further -/
def zRun (p : Int → Prop) (b : Nat → Int32) (n a e : Nat) : Prop := a ≤ e ∧ (∀ j, a ≤ j → j < e → j < n ∧ p (b j).toInt) ∧ ¬ (e < n ∧ p (b e).toInt)
theorem zRun.uniq {p : Int → Prop} {b : Nat → Int32} {n a e e' : Nat} (h : zRun p b n a e) (g : zRun p b n a e') : e = e' := by
  rcases Nat.lt_trichotomy e e' with q | q | q
  · exact absurd (g.2.1 e h.1 q) h.2.2
  · exact q
  · exact absurd (h.2.1 e' g.1 q) g.2.2
theorem zp1 {x : Int32} {k : Nat} (h : x.toInt = k) (hk : k < 4000) : (x + (1 : Int32)).toInt = ((k + 1 : Nat) : Int) := by
  have e1 : (1 : Int32).toInt = 1 := by decide
  rw [zb_add (by rw [h, e1]; omega) (by rw [h, e1]; omega), h, e1]
  rfl
theorem zpb_loop {p1 : Nat} {p2 p3 : Int32} {σ : zS} {n a : Nat} (hn : p2.toInt = n) (hn2 : n ≤ 2000) : ∀ (N : Nat) (x : Int32) (k : Nat), x.toInt = k → a ≤ k → k ≤ 2000 → (∀ j, a ≤ j → j < k → j < n ∧ zBl (σ.1 p1 j).toInt) → n - k < N → ∃ e : Int32, F_X8_pastBlanks_2 p1 p2 p3 N x σ = (e, σ) ∧ 0 ≤ e.toInt ∧ e.toInt.toNat ≤ 2000 ∧ zRun zBl (σ.1 p1) n a e.toInt.toNat := by
  intro N
  induction N with
  | zero => intro x k _ _ _ _ h; exact absurd h (by omega)
  | succ N ih =>
    intro x k hx hak hk hb hm
    have hxk : x.toNatClampNeg = k := by rw [ztn, hx]; rfl
    have stop : Unit → ¬ (k < n ∧ zBl (σ.1 p1 k).toInt) → ∃ e : Int32, (x, σ) = (e, σ) ∧ 0 ≤ e.toInt ∧ e.toInt.toNat ≤ 2000 ∧ zRun zBl (σ.1 p1) n a e.toInt.toNat := fun _ q =>
      ⟨x, rfl, by omega, by omega, by rw [show x.toInt.toNat = k by omega]; exact ⟨hak, hb, q⟩⟩
    have go : Unit → k < n → zBl (σ.1 p1 k).toInt → ∃ e : Int32, F_X8_pastBlanks_2 p1 p2 p3 N (x + (1 : Int32)) σ = (e, σ) ∧ 0 ≤ e.toInt ∧ e.toInt.toNat ≤ 2000 ∧ zRun zBl (σ.1 p1) n a e.toInt.toNat := fun _ q1 q2 =>
      ih (x + (1 : Int32)) (k + 1) (zp1 hx (by omega)) (by omega) (by omega) (fun j h1 h2 => by
        by_cases hj : j = k
        · subst hj; exact ⟨q1, q2⟩
        · exact hb j h1 (by omega)) (by omega)
    rw [F_X8_pastBlanks_2]
    simp only [zlt, hxk]
    by_cases c0 : x.toInt < p2.toInt
    · rw [if_pos c0]
      have c1 : k < n := by omega
      by_cases d1 : (σ.1 p1 k).toInt = (32 : Int32).toInt
      · rw [if_pos d1]; exact go () c1 (Or.inl d1)
      rw [if_neg d1]
      by_cases d2 : (σ.1 p1 k).toInt = (9 : Int32).toInt
      · rw [if_pos d2]; exact go () c1 (Or.inr (Or.inl d2))
      rw [if_neg d2]
      by_cases d3 : (σ.1 p1 k).toInt = (10 : Int32).toInt
      · rw [if_pos d3]; exact go () c1 (Or.inr (Or.inr (Or.inl d3)))
      rw [if_neg d3]
      by_cases d4 : (σ.1 p1 k).toInt = (13 : Int32).toInt
      · rw [if_pos d4]; exact go () c1 (Or.inr (Or.inr (Or.inr d4)))
      rw [if_neg d4]
      exact stop () (fun q => by rcases q.2 with z | z | z | z; exact d1 z; exact d2 z; exact d3 z; exact d4 z)
    · rw [if_neg c0]
      exact stop () (fun q => by omega)
theorem zpb {p1 : Nat} {p2 p3 : Int32} {σ : zS} {n a : Nat} (hn : p2.toInt = n) (hn2 : n ≤ 2000) (ha : p3.toInt = a) (ha2 : a ≤ 2000) : ∃ e : Int32, F_X8_pastBlanks p1 p2 p3 σ = (e, σ) ∧ 0 ≤ e.toInt ∧ e.toInt.toNat ≤ 2000 ∧ zRun zBl (σ.1 p1) n a e.toInt.toNat :=
  zpb_loop hn hn2 10000 p3 a ha (Nat.le_refl _) ha2 (fun j h1 h2 => absurd h2 (by omega)) (by omega)
theorem zisL (c : Int32) : F_X8_isLetter c = if 97 ≤ c.toInt ∧ c.toInt ≤ 122 then 1 else 0 := by
  have e1 : (97 : Int32).toInt = 97 := by decide
  have e2 : (122 : Int32).toInt = 122 := by decide
  unfold F_X8_isLetter
  simp only [zlt, e1, e2]
  by_cases h1 : c.toInt < 97
  · rw [if_pos h1, if_neg (by omega)]
  · rw [if_neg h1]
    by_cases h2 : 122 < c.toInt
    · rw [if_pos h2, if_neg (by omega)]
    · rw [if_neg h2, if_pos (by omega)]
theorem zisD (c : Int32) : F_X8_isDigit c = if 48 ≤ c.toInt ∧ c.toInt ≤ 57 then 1 else 0 := by
  have e1 : (48 : Int32).toInt = 48 := by decide
  have e2 : (57 : Int32).toInt = 57 := by decide
  unfold F_X8_isDigit
  simp only [zlt, e1, e2]
  by_cases h1 : c.toInt < 48
  · rw [if_pos h1, if_neg (by omega)]
  · rw [if_neg h1]
    by_cases h2 : 57 < c.toInt
    · rw [if_pos h2, if_neg (by omega)]
    · rw [if_neg h2, if_pos (by omega)]
theorem zL1 {c : Int32} : ((F_X8_isLetter c).toInt = 0) = ¬ zLt c.toInt := by
  rw [zisL]
  unfold zLt
  split
  · next h => simp [h, show (1 : Int32).toInt = 1 from by decide]
  · next h => simp [h]
theorem zD1 {c : Int32} : ((F_X8_isDigit c).toInt = 0) = ¬ zDg c.toInt := by
  rw [zisD]
  unfold zDg
  split
  · next h => simp [h, show (1 : Int32).toInt = 1 from by decide]
  · next h => simp [h]
/-- a word's letters, 1 .. 26 -/
def zwd (b : Nat → Int32) (a : Nat) : Nat → List Int
  | 0 => []
  | k + 1 => zwd b a k ++ [(b (a + k)).toInt - 96]
theorem zvb_snoc (b : Int) (l : List Int) (c : Int) : zvb b (l ++ [c]) = zvb b l * b + c := by
  unfold zvb
  rw [List.foldl_append]
  rfl
theorem zwL {x : Int64} {c : Int32} {l : List Int} (hx : x = Int64.ofInt (zvb 32 l)) (hc : zLt c.toInt) : F_X8_withLetter x c = Int64.ofInt (zvb 32 (l ++ [c.toInt - 96])) := by
  have e1 : (97 : Int32).toInt = 97 := by decide
  have e2 : (1 : Int32).toInt = 1 := by decide
  have h1 : (c - (97 : Int32) + (1 : Int32)).toInt = c.toInt - 96 := by
    have h2 : (c - (97 : Int32)).toInt = c.toInt - 97 := by
      rw [zb_sub (by rw [e1]; have := hc.1; omega) (by rw [e1]; have := hc.2; omega), e1]
    rw [zb_add (by rw [h2, e2]; have := hc.1; omega) (by rw [h2, e2]; have := hc.2; omega), h2, e2]
    omega
  unfold F_X8_withLetter
  simp only [zlt]
  have h3 : (c - (97 : Int32) + (1 : Int32)).toInt64 = Int64.ofInt (c.toInt - 96) := by
    rw [← Int64.ofInt_toInt ((c - (97 : Int32) + (1 : Int32)).toInt64), Int32.toInt_toInt64, h1]
  rw [zvb_snoc, Int64.ofInt_add, Int64.ofInt_mul, ← hx, h3]
  rfl
theorem zcmp0 (x y : Int64) : ((lg_cmp x y).toInt = 0) = (x = y) := by
  unfold lg_cmp
  by_cases h1 : x > y
  · rw [if_pos h1]
    refine propext ⟨fun h => absurd h (by decide), fun h => ?_⟩
    subst h
    exact absurd h1 (by simp)
  · rw [if_neg h1]
    by_cases h2 : x = y
    · rw [if_pos h2]
      exact propext ⟨fun _ => h2, fun _ => by decide⟩
    · rw [if_neg h2]
      exact propext ⟨fun h => absurd h (by decide), fun h => absurd h h2⟩
/-- which word it is; 22: none -/
def zKw (W : Nat → Int64) (x : Int64) (v : Int) : Prop := (v = 22 ∧ ∀ i, i < 22 → W i ≠ x) ∨ ∃ i : Nat, i < 22 ∧ v = i ∧ W i = x
theorem zkO_loop {a0 w : Nat} {x : Int64} {σ : zS} (hw : σ.2.2 a0 0 = some w) : ∀ (N : Nat) (i q : Int32) (k : Nat), i.toInt = k → k ≤ 22 → ((q.toInt = 22 ∧ ∀ j, j < k → σ.2.1 w j ≠ x) ∨ ∃ j : Nat, j < k ∧ q.toInt = j ∧ σ.2.1 w j = x) → 22 - k < N → ∃ v : Int32, F_X8_kindOf_6 a0 x N i q σ = (v, σ) ∧ zKw (σ.2.1 w) x v.toInt := by
  intro N
  induction N with
  | zero => intro i q k _ _ _ h; exact absurd h (by omega)
  | succ N ih =>
    intro i q k hi hk hq hm
    have e22 : (22 : Int32).toInt = 22 := by decide
    have hik : i.toNatClampNeg = k := by rw [ztn, hi]; rfl
    have hwd : (σ.2.2 a0 0).getD 0 = w := by rw [hw]; rfl
    rw [F_X8_kindOf_6]
    simp only [zlt, e22, hwd, hik, zcmp0]
    by_cases c0 : i.toInt < 22
    · rw [if_pos c0]
      by_cases c1 : σ.2.1 w k = x
      · rw [if_pos c1]
        exact ih _ _ (k + 1) (zp1 hi (by omega)) (by omega) (Or.inr ⟨k, by omega, hi, c1⟩) (by omega)
      · rw [if_neg c1]
        refine ih _ _ (k + 1) (zp1 hi (by omega)) (by omega) ?_ (by omega)
        rcases hq with ⟨h1, h2⟩ | ⟨j, h1, h2, h3⟩
        · refine Or.inl ⟨h1, fun j hj => ?_⟩
          by_cases hjk : j = k
          · subst hjk; exact c1
          · exact h2 j (by omega)
        · exact Or.inr ⟨j, by omega, h2, h3⟩
    · rw [if_neg c0]
      have hk2 : k = 22 := by omega
      subst hk2
      refine ⟨q, rfl, ?_⟩
      rcases hq with ⟨h1, h2⟩ | ⟨j, h1, h2, h3⟩
      · exact Or.inl ⟨h1, h2⟩
      · exact Or.inr ⟨j, h1, h2, h3⟩
theorem zkO {a0 w : Nat} {x : Int64} {σ : zS} (hw : σ.2.2 a0 0 = some w) : ∃ v : Int32, F_X8_kindOf a0 x σ = (v, σ) ∧ zKw (σ.2.1 w) x v.toInt := by
  unfold F_X8_kindOf
  simp only [zlt]
  exact zkO_loop hw 10000 0 22 0 (by decide) (by omega) (Or.inl ⟨by decide, fun j hj => absurd hj (by omega)⟩) (by omega)
/-- the number of the letters from a to e, as the class keeps it -/
def zlv (b : Nat → Int32) (a e : Nat) : Int64 := if e - a ≤ 8 then Int64.ofInt (zvb 32 (zwd b a (e - a))) else Int64.ofNat 0
noncomputable def zaLf (a0 : Nat) (p3 x2 : Int32) (x3 : Int64) (σ : zS) : Int32 × zS :=
  if (8 : Int32).toInt < (x2 - p3).toInt then (x2, F_X8_add a0 (34 : Int32) x3 p3 σ) else (x2, F_X8_add a0 (F_X8_kindOf a0 x3 σ).1 x3 p3 (F_X8_kindOf a0 x3 σ).2)
theorem zaL_loop {a0 p1 : Nat} {p2 p3 : Int32} {σ : zS} {n a : Nat} (hn : p2.toInt = n) (hn2 : n ≤ 2000) (ha : p3.toInt = a) : ∀ (N : Nat) (x : Int32) (k : Nat), x.toInt = k → a ≤ k → k ≤ n → (∀ j, a ≤ j → j < k → j < n ∧ zLt (σ.1 p1 j).toInt) → n - k < N → ∃ (e : Nat) (ex : Int32), ex.toInt = e ∧ e ≤ n ∧ zRun zLt (σ.1 p1) n a e ∧ F_X8_addLetters_6 a0 p1 p2 p3 N x (zlv (σ.1 p1) a k) σ = zaLf a0 p3 ex (zlv (σ.1 p1) a e) σ := by
  intro N
  induction N with
  | zero => intro x k _ _ _ _ h; exact absurd h (by omega)
  | succ N ih =>
    intro x k hx hak hkn hb hm
    have hxk : x.toNatClampNeg = k := by rw [ztn, hx]; rfl
    have e8 : (8 : Int32).toInt = 8 := by decide
    have hd : (x - p3).toInt = ((k - a : Nat) : Int) := by rw [zb_sub (by omega) (by omega)]; omega
    have stop : Unit → ¬ (k < n ∧ zLt (σ.1 p1 k).toInt) → ∃ (e : Nat) (ex : Int32), ex.toInt = e ∧ e ≤ n ∧ zRun zLt (σ.1 p1) n a e ∧ zaLf a0 p3 x (zlv (σ.1 p1) a k) σ = zaLf a0 p3 ex (zlv (σ.1 p1) a e) σ := fun _ q => ⟨k, x, hx, hkn, ⟨hak, hb, q⟩, rfl⟩
    rw [F_X8_addLetters_6]
    simp only [zlt, zlt2, hxk, zL1]
    by_cases c0 : x.toInt < p2.toInt
    · rw [if_pos c0]
      by_cases c1 : zLt (σ.1 p1 k).toInt
      · rw [if_neg (fun z => z c1)]
        have nx := fun (_ : Unit) => ih (x + (1 : Int32)) (k + 1) (zp1 hx (by omega)) (by omega) (by omega) (fun j h1 h2 => by
          by_cases hj : j = k
          · subst hj; exact ⟨by omega, c1⟩
          · exact hb j h1 (by omega)) (by omega)
        by_cases c2 : (x - p3).toInt < (8 : Int32).toInt
        · rw [if_pos c2]
          have hl : F_X8_withLetter (zlv (σ.1 p1) a k) (σ.1 p1 k) = zlv (σ.1 p1) a (k + 1) := by
            unfold zlv
            rw [if_pos (by omega), if_pos (by omega), zwL rfl c1, show k + 1 - a = (k - a) + 1 by omega, zwd, show a + (k - a) = k by omega]
          rw [hl]
          exact nx ()
        · rw [if_neg c2]
          have hl : zlv (σ.1 p1) a (k + 1) = Int64.ofNat 0 := by
            unfold zlv
            rw [if_neg (by omega)]
          have nx2 := nx ()
          rw [hl] at nx2
          exact nx2
      · rw [if_pos c1]
        exact stop () (fun q => c1 q.2)
    · rw [if_neg c0]
      exact stop () (fun q => by omega)
theorem zaL {a0 p1 w : Nat} {p2 p3 : Int32} {σ : zS} {n a : Nat} (hn : p2.toInt = n) (hn2 : n ≤ 2000) (ha : p3.toInt = a) (han : a ≤ n) (hw : σ.2.2 a0 0 = some w) : ∃ (e : Nat) (ex K : Int32), ex.toInt = e ∧ e ≤ n ∧ zRun zLt (σ.1 p1) n a e ∧ ((8 < e - a ∧ K.toInt = 34) ∨ (e - a ≤ 8 ∧ zKw (σ.2.1 w) (zlv (σ.1 p1) a e) K.toInt)) ∧ F_X8_addLetters a0 p1 p2 p3 σ = (ex, F_X8_add a0 K (zlv (σ.1 p1) a e) p3 σ) := by
  obtain ⟨e, ex, h1, h2, h3, h4⟩ := zaL_loop (a0 := a0) (p1 := p1) (σ := σ) hn hn2 ha 10000 p3 a ha (Nat.le_refl _) han (fun j h1 h2 => absurd h2 (by omega)) (by omega)
  have h0 : zlv (σ.1 p1) a a = Int64.ofNat 0 := by
    unfold zlv
    rw [if_pos (by omega), Nat.sub_self]
    rfl
  rw [h0] at h4
  have h5 : F_X8_addLetters a0 p1 p2 p3 σ = zaLf a0 p3 ex (zlv (σ.1 p1) a e) σ := h4
  have e8 : (8 : Int32).toInt = 8 := by decide
  have hae := h3.1
  have hd : (ex - p3).toInt = ((e - a : Nat) : Int) := by rw [zb_sub (by omega) (by omega)]; omega
  unfold zaLf at h5
  by_cases c : 8 < e - a
  · rw [if_pos (by rw [e8, hd]; omega)] at h5
    exact ⟨e, ex, 34, h1, h2, h3, Or.inl ⟨c, by decide⟩, h5⟩
  · rw [if_neg (by rw [e8, hd]; omega)] at h5
    obtain ⟨v, hv, hk⟩ := zkO (x := zlv (σ.1 p1) a e) hw
    rw [hv] at h5
    exact ⟨e, ex, v, h1, h2, h3, Or.inr ⟨by omega, hk⟩, h5⟩
/-- the number of the digits from a on, k of them -/
def zdv (b : Nat → Int32) (a : Nat) : Nat → Int
  | 0 => 0
  | k + 1 => zdv b a k * 10 + ((b (a + k)).toInt - 48)
theorem zdv_b {b : Nat → Int32} {a : Nat} : ∀ k, k ≤ 4 → (∀ j, j < k → zDg (b (a + j)).toInt) → 0 ≤ zdv b a k ∧ zdv b a k ≤ 9999 ∧ (k = 0 → zdv b a k = 0) ∧ (k ≤ 1 → zdv b a k ≤ 9) ∧ (k ≤ 2 → zdv b a k ≤ 99) ∧ (k ≤ 3 → zdv b a k ≤ 999) := by
  intro k
  induction k with
  | zero => intro _ _; simp [zdv]
  | succ k ih =>
    intro hk hd
    have q := ih (by omega) (fun j hj => hd j (by omega))
    have h := hd k (by omega)
    unfold zDg at h
    have e : zdv b a (k + 1) = zdv b a k * 10 + ((b (a + k)).toInt - 48) := rfl
    rw [e]
    obtain ⟨q1, q2, q3, q4, q5, q6⟩ := q
    refine ⟨by omega, ?_, fun z => absurd z (by omega), fun z => ?_, fun z => ?_, fun z => ?_⟩
    · have := q6 (by omega); omega
    · have := q3 (by omega); omega
    · have := q4 (by omega); omega
    · have := q5 (by omega); omega
def zdl (b : Nat → Int32) (a e : Nat) : Int := if e - a ≤ 4 then zdv b a (e - a) else 0
noncomputable def zaDf (a0 : Nat) (p3 x2 x3 : Int32) (σ : zS) : Int32 × zS :=
  if (4 : Int32).toInt < (x2 - p3).toInt then (x2, F_X8_add a0 (34 : Int32) x3.toInt64 p3 σ) else (x2, F_X8_add a0 (23 : Int32) x3.toInt64 p3 σ)
theorem zaD_loop {a0 p1 : Nat} {p2 p3 : Int32} {σ : zS} {n a : Nat} (hn : p2.toInt = n) (hn2 : n ≤ 2000) (ha : p3.toInt = a) : ∀ (N : Nat) (x y : Int32) (k : Nat), x.toInt = k → a ≤ k → k ≤ n → (∀ j, a ≤ j → j < k → j < n ∧ zDg (σ.1 p1 j).toInt) → y.toInt = zdl (σ.1 p1) a k → n - k < N → ∃ (e : Nat) (ex ey : Int32), ex.toInt = e ∧ e ≤ n ∧ zRun zDg (σ.1 p1) n a e ∧ ey.toInt = zdl (σ.1 p1) a e ∧ F_X8_addDigits_6 a0 p1 p2 p3 N x y σ = zaDf a0 p3 ex ey σ := by
  intro N
  induction N with
  | zero => intro x y k _ _ _ _ _ h; exact absurd h (by omega)
  | succ N ih =>
    intro x y k hx hak hkn hb hy hm
    have hxk : x.toNatClampNeg = k := by rw [ztn, hx]; rfl
    have e4 : (4 : Int32).toInt = 4 := by decide
    have hd : (x - p3).toInt = ((k - a : Nat) : Int) := by rw [zb_sub (by omega) (by omega)]; omega
    have stop : Unit → ¬ (k < n ∧ zDg (σ.1 p1 k).toInt) → ∃ (e : Nat) (ex ey : Int32), ex.toInt = e ∧ e ≤ n ∧ zRun zDg (σ.1 p1) n a e ∧ ey.toInt = zdl (σ.1 p1) a e ∧ zaDf a0 p3 x y σ = zaDf a0 p3 ex ey σ := fun _ q => ⟨k, x, y, hx, hkn, ⟨hak, hb, q⟩, hy, rfl⟩
    rw [F_X8_addDigits_6]
    simp only [zlt, hxk, zD1]
    by_cases c0 : x.toInt < p2.toInt
    · rw [if_pos c0]
      by_cases c1 : zDg (σ.1 p1 k).toInt
      · rw [if_neg (fun z => z c1)]
        have nx := fun y2 hy2 => ih (x + (1 : Int32)) y2 (k + 1) (zp1 hx (by omega)) (by omega) (by omega) (fun j h1 h2 => by
          by_cases hj : j = k
          · subst hj; exact ⟨by omega, c1⟩
          · exact hb j h1 (by omega)) hy2 (by omega)
        by_cases c2 : (x - p3).toInt < (4 : Int32).toInt
        · rw [if_pos c2]
          refine nx _ ?_
          have q := zdv_b (b := σ.1 p1) (a := a) (k - a) (by omega) (fun j hj => (hb (a + j) (by omega) (by omega)).2)
          unfold zdl at hy ⊢
          rw [if_pos (by omega)] at hy
          rw [if_pos (by omega), show k + 1 - a = (k - a) + 1 by omega, zdv, show a + (k - a) = k by omega, ← hy]
          rw [← hy] at q
          unfold zDg at c1
          have e10 : (10 : Int32).toInt = 10 := by decide
          have e48 : (48 : Int32).toInt = 48 := by decide
          have m1 : (y * (10 : Int32)).toInt = y.toInt * 10 := by rw [Int32.toInt_mul, e10, Int.bmod_eq_of_le (by omega) (by omega)]
          have m2 : (σ.1 p1 k - (48 : Int32)).toInt = (σ.1 p1 k).toInt - 48 := by rw [zb_sub (by rw [e48]; omega) (by rw [e48]; omega), e48]
          rw [zb_add (by rw [m1, m2]; omega) (by rw [m1, m2]; omega), m1, m2]
        · rw [if_neg c2]
          refine nx _ ?_
          unfold zdl
          rw [if_neg (by omega)]
          decide
      · rw [if_pos c1]
        exact stop () (fun q => c1 q.2)
    · rw [if_neg c0]
      exact stop () (fun q => by omega)
theorem zaD {a0 p1 : Nat} {p2 p3 : Int32} {σ : zS} {n a : Nat} (hn : p2.toInt = n) (hn2 : n ≤ 2000) (ha : p3.toInt = a) (han : a ≤ n) : ∃ (e : Nat) (ex ey K : Int32), ex.toInt = e ∧ e ≤ n ∧ zRun zDg (σ.1 p1) n a e ∧ ((4 < e - a ∧ K.toInt = 34) ∨ (e - a ≤ 4 ∧ K.toInt = 23 ∧ ey.toInt = zdv (σ.1 p1) a (e - a))) ∧ F_X8_addDigits a0 p1 p2 p3 σ = (ex, F_X8_add a0 K ey.toInt64 p3 σ) := by
  obtain ⟨e, ex, ey, h1, h2, h3, h6, h4⟩ := zaD_loop (a0 := a0) (p1 := p1) (σ := σ) hn hn2 ha 10000 p3 0 a ha (Nat.le_refl _) han (fun j h1 h2 => absurd h2 (by omega)) (by unfold zdl; rw [if_pos (by omega), Nat.sub_self]; rfl) (by omega)
  have h5 : F_X8_addDigits a0 p1 p2 p3 σ = zaDf a0 p3 ex ey σ := h4
  have e4 : (4 : Int32).toInt = 4 := by decide
  have hae := h3.1
  have hd : (ex - p3).toInt = ((e - a : Nat) : Int) := by rw [zb_sub (by omega) (by omega)]; omega
  unfold zaDf at h5
  by_cases c : 4 < e - a
  · rw [if_pos (by rw [e4, hd]; omega)] at h5
    exact ⟨e, ex, ey, 34, h1, h2, h3, Or.inl ⟨c, by decide⟩, h5⟩
  · rw [if_neg (by rw [e4, hd]; omega)] at h5
    exact ⟨e, ex, ey, 23, h1, h2, h3, Or.inr ⟨by omega, by decide, by rw [h6]; unfold zdl; rw [if_pos (by omega)]⟩, h5⟩
