section FILLS2
variable {N m0 a b c w : Nat} {r : Nat → Int32} {s : zS}
theorem zNi {x : Int32} {i : Nat} (h : x.toInt = i) (hi : i < 32) : x = nI i := by
  obtain ⟨n, n1, n2, n3⟩ := zq_n (x := x) (by omega) (by omega)
  have : n = i := by omega
  rw [n2, this]
theorem mWay2 (ab : a ≠ b) (ac : a ≠ c) (wa : w ≠ a) (wb : w ≠ b) (wc : w ≠ c) (ga : (s.2.2 m0 54).getD 0 = a) (gb : (s.2.2 m0 52).getD 0 = b) (gc : (s.2.2 m0 53).getD 0 = c) (gw : (s.2.2 m0 49).getD 0 = w) (hr : zRow N (s.1 w)) (hN : N ≤ 12) (hM : ∀ τ, zFr (zAw a b c) s τ → (F_X11_many m0 τ).toInt = N) {kA : Int32 → zS → zS} : ∀ (n : Nat) (x : Int32) (i : Nat) (τ : zS), x.toInt = i → i ≤ N → N - i < n → zFr (zAw a b c) s τ → zBi N (s.1 w) (τ.1 a) i (fun _ => False) → zFr (zAw a b c) s (F_X11_fillsWays_25 m0 kA n x τ) ∧ zBi N (s.1 w) ((F_X11_fillsWays_25 m0 kA n x τ).1 a) N (fun _ => False) := by
  obtain ⟨q, hq1, hq2⟩ := id hr
  intro n
  induction n with
  | zero => intro x i τ _ _ h; exact absurd h (by omega)
  | succ n ih =>
    intro x i τ hx hi hm g hb
    have ex : x = nI i := zNi hx (by omega)
    have r0 : τ.2.2 = s.2.2 := g.rf
    have M := hM τ g
    rw [F_X11_fillsWays_25]
    simp only [zlt, r0, ga, gb, gc]
    by_cases cx : i < N
    · rw [if_pos (by omega), ex]
      have i0 : (nI i).toInt = (i : Int) := nI_t (by omega)
      obtain ⟨τ3, e3⟩ : ∃ τ3 : zS, τ3 = (zu (zu τ.1 b (nI i).toNatClampNeg (0 : Int32)) c (nI i).toNatClampNeg (0 : Int32), τ.2.1, s.2.2) := ⟨_, rfl⟩
      have g3 : zFr (zAw a b c) s τ3 := by
        rw [e3, ← r0]
        exact (g.w (Or.inr (Or.inl rfl))).w (Or.inr (Or.inr rfl))
      have a3 : τ3.1 a = τ.1 a := by
        rw [e3]
        show zu (zu τ.1 b _ _) c _ _ a = _
        rw [zu_n _ _ _ ac, zu_n _ _ _ ab]
      have ni : (nI i).toNatClampNeg = i := by rw [ztn, i0]; rfl
      have E : ∀ τ4 : zS, τ4 = (zu τ3.1 a (nI i).toNatClampNeg (τ3.1 a (nI i).toNatClampNeg ||| ((1 : Int32) <<< (nI i &&& 31))), τ3.2.1, τ3.2.2) → zFr (zAw a b c) s (F_X11_fillsWays_61 (nI i) m0 kA (F_X11_fillsWays_25 m0 kA n) 10000 (nI i) τ4) ∧ zBi N (s.1 w) ((F_X11_fillsWays_61 (nI i) m0 kA (F_X11_fillsWays_25 m0 kA n) 10000 (nI i) τ4).1 a) N (fun _ => False) := fun τ4 e4 => by
        have g4 : zFr (zAw a b c) s τ4 := by rw [e4]; exact g3.w (Or.inl rfl)
        obtain ⟨τ5, k1, k2, k3⟩ := mWay1 ab ac wa wb wc ga gb gc gw hr cx hN (kA := kA) (kB := F_X11_fillsWays_25 m0 kA n) (q := q) (fun c c1 c2 => (hq1 c c1 c2).2.2) 10000 0 τ4 (by have := hq2 (pa (s.1 w) 0 (nI i)).toInt; omega) g4 ((hb.add (v := i) (by omega)).e (fun j => by
          rw [e4]
          show zu τ3.1 a _ _ a j = _
          rw [ni]
          by_cases cj : j = i
          · rw [if_pos cj, cj, zu_s, a3]
          · rw [if_neg cj, zu_j _ _ _ _ _ (fun z => cj z.symm), a3]) (fun t ht => by
          constructor
          · rintro ⟨k', h1, h2⟩
            obtain rfl : k' = 0 := by omega
            have h3 : (nI i).toInt = (t : Int) := h2
            exact Or.inr (by omega)
          · rintro (h | h)
            · exact h.elim
            · exact ⟨0, Nat.le_refl _, by rw [h]; exact i0⟩))
        have k3' : F_X11_fillsWays_61 (nI i) m0 kA (F_X11_fillsWays_25 m0 kA n) 10000 (nI i) τ4 = F_X11_fillsWays_25 m0 kA n (nI i + (1 : Int32)) τ5 := k3
        rw [k3']
        exact ih _ (i + 1) τ5 (zp1 i0 (by omega)) (by omega) (by omega) k1 k2
      have Z := E _ rfl
      rw [e3] at Z
      exact Z
    · rw [if_neg (by omega)]
      obtain rfl : i = N := by omega
      exact ⟨g, hb⟩
theorem mWay3 (ab : a ≠ b) (ac : a ≠ c) (wa : w ≠ a) (wb : w ≠ b) (wc : w ≠ c) (ga : (s.2.2 m0 54).getD 0 = a) (gb : (s.2.2 m0 52).getD 0 = b) (gc : (s.2.2 m0 53).getD 0 = c) (gw : (s.2.2 m0 49).getD 0 = w) (hr : zRow N (s.1 w)) (hN : N ≤ 12) (hM : ∀ τ, zFr (zAw a b c) s τ → (F_X11_many m0 τ).toInt = N) : ∀ (n : Nat) (x : Int32) (i : Nat) (τ : zS), x.toInt = i → i ≤ N → N - i < n → zFr (zAw a b c) s τ → (∀ t, t < i → τ.1 a t = 0) → zFr (zAw a b c) s (F_X11_fillsWays_2 m0 n x τ) ∧ zBi N (s.1 w) ((F_X11_fillsWays_2 m0 n x τ).1 a) N (fun _ => False) := by
  intro n
  induction n with
  | zero => intro x i τ _ _ h; exact absurd h (by omega)
  | succ n ih =>
    intro x i τ hx hi hm g hb
    have ex : x = nI i := zNi hx (by omega)
    have r0 : τ.2.2 = s.2.2 := g.rf
    have M := hM τ g
    rw [F_X11_fillsWays_2]
    simp only [zlt, r0, ga]
    by_cases cx : i < N
    · rw [if_pos (by omega)]
      have nx : x.toNatClampNeg = i := by rw [ztn, hx]; rfl
      refine ih (x + (1 : Int32)) (i + 1) _ (zp1 hx (by omega)) (by omega) (by omega) (by rw [← r0]; exact g.w (Or.inl rfl)) (fun t ht => ?_)
      show zu τ.1 a x.toNatClampNeg 0 a t = 0
      rw [nx]
      by_cases e : t = i
      · rw [e, zu_s]
      · rw [zu_j _ _ _ _ _ (fun z => e z.symm)]
        exact hb t (by omega)
    · rw [if_neg (by omega)]
      obtain rfl : i = N := by omega
      refine mWay2 ab ac wa wb wc ga gb gc gw hr hN hM 10000 0 0 τ (by decide) (by omega) (by omega) g (fun t j ht hj => ?_)
      rw [hb t ht, b_0]
      constructor
      · intro h; cases h
      · rintro (⟨h, -⟩ | ⟨-, h⟩)
        · omega
        · exact h.elim
end FILLS2
section FILLS3
variable {L : List Nat} {kd : Nat → Nat} {m0 N : Nat} {σ s : zS} {κ : Int}
/-- the bits, all ways gone -/
theorem mWays (hJ : zJ κ L kd σ) (hm : zT L kd m0 11) (hs : s.2 = σ.2) (hM : (F_X11_many m0 s).toInt = N) (hN : N ≤ 12) (hr : zRow N (s.1 (mR σ m0 49))) {t j : Nat} (ht : t < N) (hj : j < N) : bt ((F_X11_fillsWays m0 s).1 (mR σ m0 54) t) j = true ↔ ∃ k, (pa (s.1 (mR σ m0 49)) k (nI j)).toInt = t := by
  have rs : s.2.2 = σ.2.2 := by rw [hs]
  have ne : ∀ {x y : Nat}, zf 0 11 x = some (100 + x) → zf 0 11 y = some (100 + y) → x ≠ y → mR σ m0 x ≠ mR σ m0 y := fun h1 h2 h3 => mR_ne hJ hm h1 h2 (by omega)
  have g : ∀ x, (s.2.2 m0 x).getD 0 = mR σ m0 x := fun x => by rw [rs]
  have many : ∀ τ, zFr (zAw (mR σ m0 54) (mR σ m0 52) (mR σ m0 53)) s τ → (F_X11_many m0 τ).toInt = N := fun τ h => by
    rw [← hM]
    unfold F_X11_many
    simp only [zlt]
    rw [h.rf, g 21]
    rw [h.2 m0 18 (fun z => z.elim (fun z => mR_m hJ hm (s := 54) (k := 154) (by rfl) (by decide) z.symm) (fun z => z.elim (fun z => mR_m hJ hm (s := 52) (k := 152) (by rfl) (by decide) z.symm) (fun z => mR_m hJ hm (s := 53) (k := 153) (by rfl) (by decide) z.symm)))]
    rw [h.2 (mR σ m0 21) _ (fun z => z.elim (ne (by rfl) (by rfl) (by decide)) (fun z => z.elim (ne (by rfl) (by rfl) (by decide)) (ne (by rfl) (by rfl) (by decide))))]
  obtain ⟨-, q⟩ := mWay3 (s := s) (m0 := m0) (ne (x := 54) (y := 52) (by rfl) (by rfl) (by decide)) (ne (x := 54) (y := 53) (by rfl) (by rfl) (by decide)) (ne (x := 49) (y := 54) (by rfl) (by rfl) (by decide)) (ne (x := 49) (y := 52) (by rfl) (by rfl) (by decide)) (ne (x := 49) (y := 53) (by rfl) (by rfl) (by decide)) (g 54) (g 52) (g 53) (g 49) hr hN many 10000 0 0 s (by decide) (by omega) (by omega) zFr.id (fun t ht => absurd ht (by omega))
  unfold F_X11_fillsWays
  simp only [zlt]
  rw [q t j ht (by omega)]
  exact ⟨fun h => h.elim (fun h => h.2) (fun h => h.2.elim), fun h => Or.inl ⟨hj, h⟩⟩
/-- a bit, moved down and cut out -/
theorem bt_cut {x p : Int32} {k : Nat} (hp : p.toInt = k) (hk : k < 32) : (((x >>> (p &&& 31)) &&& (1 : Int32)).toInt = 0 ↔ ¬ bt x k = true) ∧ (((x >>> (p &&& 31)) &&& (1 : Int32)).toInt = 1 ↔ bt x k = true) := by
  rw [zNi hp hk]
  have key : (x >>> (nI k &&& 31)) &&& (1 : Int32) = if bt x k = true then 1 else 0 := b_ext (fun i hi => by
    rw [b_and, b_sshr k hk x hi, b_one i hi]
    by_cases c : i = 0
    · subst c
      rw [if_pos (by omega)]
      by_cases h : bt x k = true
      · rw [if_pos h, b_one 0 (by decide), Nat.add_zero, h]
        rfl
      · rw [if_neg h, b_0, Nat.add_zero]
        simp [h]
    · have z : bt (if bt x k = true then (1 : Int32) else 0) i = false := by
        split
        · rw [b_one i hi]; simp [c]
        · exact b_0 i
      rw [z]
      simp [c])
  rw [key]
  by_cases h : bt x k = true
  · rw [if_pos h]
    exact ⟨⟨fun z => absurd z (by decide), fun z => absurd h z⟩, ⟨fun _ => h, fun _ => by decide⟩⟩
  · rw [if_neg h]
    exact ⟨⟨fun _ => h, fun _ => by decide⟩, ⟨fun z => absurd z (by decide), fun z => absurd z h⟩⟩
end FILLS3
