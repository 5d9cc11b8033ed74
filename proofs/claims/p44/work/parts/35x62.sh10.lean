/-! ORDER -/
def og (u : Nat → Nat) (f : Nat → Int32) (p : Nat) : Nat → Int32 × Int32
  | 0 => (0, 0)
  | j + 1 => if 1 ≤ j ∧ u j = p then (if (f j).toInt < (og u f p j).2.toInt then og u f p j else if (f j).toInt = (og u f p j).2.toInt then ((og u f p j).1 + (1 : Int32), f j) else (1, f j)) else og u f p j
def ordV (u : Nat → Nat) (f : Nat → Int32) (N p : Nat) : Int32 := if (og u f p N).1.toInt = 1 then (og u f p N).2 else (og u f p N).2 + (1 : Int32)
section OG
variable {N p j : Nat} {u : Nat → Nat} {f g : Nat → Int32}
theorem og_n (h : ¬ (1 ≤ j ∧ u j = p)) : og u f p (j + 1) = og u f p j := by rw [og, if_neg h]
theorem og_lt (h : 1 ≤ j ∧ u j = p) (h2 : (f j).toInt < (og u f p j).2.toInt) : og u f p (j + 1) = og u f p j := by rw [og, if_pos h, if_pos h2]
theorem og_eq (h : 1 ≤ j ∧ u j = p) (h2 : (f j).toInt = (og u f p j).2.toInt) : og u f p (j + 1) = ((og u f p j).1 + (1 : Int32), f j) := by rw [og, if_pos h, if_neg (by omega), if_pos h2]
theorem og_gt (h : 1 ≤ j ∧ u j = p) (h2 : (og u f p j).2.toInt < (f j).toInt) : og u f p (j + 1) = (1, f j) := by rw [og, if_pos h, if_neg (by omega), if_neg (by omega)]
theorem og_cg : ∀ n, (∀ c, 1 ≤ c → c < n → u c = p → f c = g c) → og u f p n = og u g p n := by
  intro n
  induction n with
  | zero => intro _; rfl
  | succ n ih =>
    intro h
    rw [og, og, ih (fun c c1 c2 c3 => h c c1 (by omega) c3)]
    by_cases c : 1 ≤ n ∧ u n = p
    · rw [if_pos c, if_pos c, h n c.1 (by omega) c.2]
    · rw [if_neg c, if_neg c]
theorem ordV_cg (h : ∀ c, 1 ≤ c → c < N → u c = p → f c = g c) : ordV u f N p = ordV u g N p := by
  unfold ordV
  rw [og_cg N h]
/-- none, or so many that have the greatest -/
theorem og_f : ∀ n, n ≤ 12 → (∀ c, 1 ≤ c → c < n → u c = p → 1 ≤ (f c).toInt ∧ (f c).toInt ≤ 12) → (og u f p n = (0, 0) ∧ ∀ c, 1 ≤ c → c < n → u c ≠ p) ∨ (1 ≤ (og u f p n).1.toInt ∧ (og u f p n).1.toInt ≤ n ∧ ∃ c, 1 ≤ c ∧ c < n ∧ u c = p ∧ (og u f p n).2 = f c) := by
  have e1 : (1 : Int32).toInt = 1 := by decide
  have e0 : (0 : Int32).toInt = 0 := by decide
  intro n
  induction n with
  | zero => intro _ _; exact Or.inl ⟨rfl, fun c _ c2 => absurd c2 (by omega)⟩
  | succ n ih =>
    intro hn h
    have I := ih (by omega) (fun c c1 c2 c3 => h c c1 (by omega) c3)
    by_cases c : 1 ≤ n ∧ u n = p
    · have b := h n c.1 (by omega) c.2
      right
      by_cases d1 : (f n).toInt < (og u f p n).2.toInt
      · rw [og_lt c d1]
        rcases I with ⟨i1, -⟩ | ⟨i1, i2, k, k1, k2, k3, k4⟩
        · rw [i1] at d1
          have d1' : (f n).toInt < (0 : Int32).toInt := d1
          omega
        · exact ⟨i1, by omega, k, k1, by omega, k3, k4⟩
      · by_cases d2 : (f n).toInt = (og u f p n).2.toInt
        · rw [og_eq c d2]
          rcases I with ⟨i1, -⟩ | ⟨i1, i2, -⟩
          · rw [i1] at d2
            have d2' : (f n).toInt = (0 : Int32).toInt := d2
            omega
          · have e : ((og u f p n).1 + (1 : Int32)).toInt = (og u f p n).1.toInt + 1 := by rw [zb_add (by rw [e1]; omega) (by rw [e1]; omega), e1]
            exact ⟨by show 1 ≤ ((og u f p n).1 + (1 : Int32)).toInt; omega, by show ((og u f p n).1 + (1 : Int32)).toInt ≤ _; omega, n, c.1, by omega, c.2, rfl⟩
        · rw [og_gt c (by omega)]
          exact ⟨by show 1 ≤ (1 : Int32).toInt; omega, by show (1 : Int32).toInt ≤ _; omega, n, c.1, by omega, c.2, rfl⟩
    · rw [og_n c]
      rcases I with ⟨i1, i2⟩ | ⟨i1, i2, k, k1, k2, k3, k4⟩
      · refine Or.inl ⟨i1, fun k k1 k2 => ?_⟩
        by_cases e : k = n
        · rw [e]
          exact fun z => c ⟨by omega, z⟩
        · exact i2 k k1 (by omega)
      · exact Or.inr ⟨i1, by omega, k, k1, by omega, k3, k4⟩
theorem cnt_mono {P Q : Nat → Prop} : ∀ n, (∀ j, j < n → P j → Q j) → cnt P n ≤ cnt Q n := by
  intro n
  induction n with
  | zero => intro _; exact Nat.le_refl _
  | succ n ih =>
    intro h
    rw [cnt, cnt]
    have := ih (fun j hj => h j (by omega))
    by_cases c : P n
    · rw [if_pos c, if_pos (h n (by omega) c)]
      omega
    · rw [if_neg c]
      omega
theorem size_s (hT : zTr N u) {c : Nat} (h1 : 1 ≤ c) (h2 : c < N) : cnt (fun j => An u c j) N + 1 ≤ cnt (fun j => An u (u c) j) N := by
  have ul := hT.u_lt h1 h2
  have e : cnt (fun j => j = u c ∨ An u c j) N = cnt (fun j => j = u c) N + cnt (fun j => An u c j) N := cnt_or N (fun j _ ⟨z1, z2⟩ => hT.acyc h1 h2 (by rw [z1] at z2; exact z2))
  have m : cnt (fun j => j = u c ∨ An u c j) N ≤ cnt (fun j => An u (u c) j) N := cnt_mono N (fun j _ h => by
    rcases h with h | h
    · rw [h]; exact An_rf
    · exact An_tr ((An_s (by omega)).mpr (Or.inr An_rf)) h)
  rw [cnt_1, if_pos ul] at e
  omega
/-- the value, and what it lies within -/
theorem ordV_b (hT : zTr N u) (hN : N ≤ 12) (hp : p < N) (h : ∀ c, 1 ≤ c → c < N → u c = p → 1 ≤ (f c).toInt ∧ (f c).toInt ≤ cnt (fun j => An u c j) N) : (1 ≤ (ordV u f N p).toInt ∧ (ordV u f N p).toInt ≤ cnt (fun j => An u p j) N) ∧ ordV u f N p = (if (og u f p N).2.toInt = 0 then 1 else if 1 < (og u f p N).1.toInt then (og u f p N).2 + (1 : Int32) else (og u f p N).2) := by
  have e1 : (1 : Int32).toInt = 1 := by decide
  have e0 : (0 : Int32).toInt = 0 := by decide
  have sp : 0 < cnt (fun j => An u p j) N := cnt_p N (k := p) hp An_rf
  rcases og_f (u := u) (f := f) (p := p) N hN (fun c c1 c2 c3 => ⟨(h c c1 c2 c3).1, by have := (h c c1 c2 c3).2; have := cnt_le (P := fun j => An u c j) N; omega⟩) with ⟨i1, -⟩ | ⟨i1, i2, k, k1, k2, k3, k4⟩
  · have v : ordV u f N p = 1 := by
      unfold ordV
      rw [i1, if_neg (by show ¬ (0 : Int32).toInt = 1; omega)]
      show (0 : Int32) + 1 = 1
      decide
    rw [v, i1, e1]
    refine ⟨⟨by omega, by omega⟩, ?_⟩
    rw [if_pos (show (0 : Int32).toInt = 0 from e0)]
  · obtain ⟨b1, b2⟩ := h k k1 k2 k3
    have sk := size_s hT k1 k2
    rw [k3] at sk
    have le := cnt_le (P := fun j => An u p j) N
    have gs : ((og u f p N).2 + (1 : Int32)).toInt = (og u f p N).2.toInt + 1 := by rw [zb_add (by rw [k4, e1]; omega) (by rw [k4, e1]; omega), e1]
    unfold ordV
    rw [if_neg (show ¬ (og u f p N).2.toInt = 0 by rw [k4]; omega)]
    by_cases c : (og u f p N).1.toInt = 1
    · rw [if_pos c, if_neg (by omega), k4]
      exact ⟨⟨by omega, by omega⟩, rfl⟩
    · rw [if_neg c, if_pos (by omega), gs, k4]
      exact ⟨⟨by omega, by omega⟩, rfl⟩
end OG
section ORDC
variable {N sh co A1 A2 A3 A4 A5 A6 I : Nat} {u l : Nat → Nat} {FR : Nat → Int32} {s : zS}
theorem cOrd1 (g2 : (s.2.2 sh 2).getD 0 = A2) (g5 : (s.2.2 sh 5).getD 0 = A5) (gI : (s.2.2 co 0).getD 0 = I) (n5 : A5 ≠ sh ∧ A5 ≠ A2 ∧ A5 ≠ I) (h0 : (s.1 sh 0).toInt = N) (hN : N ≤ 12) (hu : ∀ c, 1 ≤ c → c < N → (s.1 I c).toInt = u c) {i : Nat} {x4 p2 : Int32} (hi : x4.toInt = i) (hl : (s.1 A2 i).toInt = l i) {k : Int32 → zS → Int32 × zS} {τ : zS} (g : zFr (fun c _ => c = A5) s τ) (hNi : i < N) : ∀ (n : Nat) (x : Int32) (j : Nat) (y z : Int32), x.toInt = j → 1 ≤ j → j ≤ 12 → 12 - j < n → (j ≤ N ∨ N = 0) → (y, z) = og u (τ.1 A5) (l i) j → F_X6_orderOf_20 x4 sh co p2 k n x y z τ = k (x4 + (-1 : Int32)) (zu τ.1 A5 (l i) (ordV u (τ.1 A5) N (l i)), τ.2.1, s.2.2) := by
  have e1 : (1 : Int32).toInt = 1 := by decide
  have r0 : τ.2.2 = s.2.2 := g.rf
  have t0 : τ.1 sh 0 = s.1 sh 0 := g.2 _ _ (fun z => n5.1 z.symm)
  have t2 : ∀ c, τ.1 A2 c = s.1 A2 c := fun c => g.2 _ _ (fun z => n5.2.1 z.symm)
  have tI : ∀ c, τ.1 I c = s.1 I c := fun c => g.2 _ _ (fun z => n5.2.2 z.symm)
  have ni : x4.toNatClampNeg = i := by rw [ztn, hi]; rfl
  have nl : (s.1 A2 i).toNatClampNeg = l i := by rw [ztn, hl]; rfl
  intro n
  induction n with
  | zero => intro x j y z _ _ _ h; exact absurd h (by omega)
  | succ n ih =>
    intro x j y z hx h1 hj hm hjN hyz
    have nx : x.toNatClampNeg = j := by rw [ztn, hx]; rfl
    obtain ⟨hy, hz⟩ : y = (og u (τ.1 A5) (l i) j).1 ∧ z = (og u (τ.1 A5) (l i) j).2 := ⟨congrArg Prod.fst hyz, congrArg Prod.snd hyz⟩
    rw [F_X6_orderOf_20]
    simp only [zlt, r0, g2, g5, gI, t0, t2, tI, nx, ni, nl, e1]
    by_cases c : j < N
    · rw [if_pos (by omega)]
      have x1 : (x + (1 : Int32)).toInt = (j + 1 : Nat) := zp1 hx (by omega)
      have uj := hu j h1 c
      by_cases cu : u j = l i
      · rw [if_pos (by omega)]
        by_cases d1 : (τ.1 A5 j).toInt < z.toInt
        · rw [if_pos d1]
          exact ih _ (j + 1) y z x1 (by omega) (by omega) (by omega) (by omega) (by rw [og_lt ⟨h1, cu⟩ (by rw [← hz]; exact d1)]; exact hyz)
        · rw [if_neg d1]
          by_cases d2 : (τ.1 A5 j).toInt = z.toInt
          · rw [if_pos d2]
            exact ih _ (j + 1) (y + (1 : Int32)) (τ.1 A5 j) x1 (by omega) (by omega) (by omega) (by omega) (by rw [og_eq ⟨h1, cu⟩ (by rw [← hz]; exact d2), hy])
          · rw [if_neg d2]
            exact ih _ (j + 1) _ _ x1 (by omega) (by omega) (by omega) (by omega) (by rw [og_gt ⟨h1, cu⟩ (by rw [← hz]; omega)])
      · rw [if_neg (by omega)]
        exact ih _ (j + 1) y z x1 (by omega) (by omega) (by omega) (by omega) (by rw [og_n (fun w => cu w.2)]; exact hyz)
    · rw [if_neg (by omega)]
      have ej : j = N := by omega
      rw [ej] at hy hz
      unfold ordV
      rw [← hy, ← hz]
      by_cases d : y.toInt = 1
      · rw [if_pos d, if_pos d]
      · rw [if_neg d, if_neg d]
theorem cOrd2 (hT : zTr N u) (g2 : (s.2.2 sh 2).getD 0 = A2) (g5 : (s.2.2 sh 5).getD 0 = A5) (gI : (s.2.2 co 0).getD 0 = I) (n5 : A5 ≠ sh ∧ A5 ≠ A2 ∧ A5 ≠ I) (h0 : (s.1 sh 0).toInt = N) (hN : N ≤ 12) (hu : ∀ c, 1 ≤ c → c < N → (s.1 I c).toInt = u c) (E : zLnE N u A2 A3 A6 FR l s) {p2 : Int32} {p : Nat} (hp : p2.toInt = p) (hpN : p < N) : ∀ (n : Nat) (x : Int32) (i : Nat) (τ : zS), x.toInt = (i : Int) - 1 → i ≤ N → i < n → zFr (fun c _ => c = A5) s τ → (∀ k, i ≤ k → k < N → τ.1 A5 (l k) = ordV u (τ.1 A5) N (l k) ∧ 1 ≤ (τ.1 A5 (l k)).toInt ∧ (τ.1 A5 (l k)).toInt ≤ cnt (fun j => An u (l k) j) N) → ∃ τ', F_X6_orderOf_7 sh co p2 n x τ = (τ'.1 A5 p, τ') ∧ ∀ q, q < N → τ'.1 A5 q = ordV u (τ'.1 A5) N q ∧ 1 ≤ (τ'.1 A5 q).toInt ∧ (τ'.1 A5 q).toInt ≤ cnt (fun j => An u q j) N := by
  have em : (-1 : Int32).toInt = -1 := by decide
  have e1 : (1 : Int32).toInt = 1 := by decide
  obtain ⟨la, -, -, inj, ord, all⟩ := id E
  intro n
  induction n with
  | zero => intro x i τ _ _ h; exact absurd h (by omega)
  | succ n ih =>
    intro x i τ hx hi hm g h
    have r0 : τ.2.2 = s.2.2 := g.rf
    have np : p2.toNatClampNeg = p := by rw [ztn, hp]; rfl
    rw [F_X6_orderOf_7]
    simp only [zlt, r0, g5, np]
    by_cases c : i = 0
    · rw [if_pos (by omega)]
      refine ⟨τ, rfl, fun q hq => ?_⟩
      obtain ⟨k, k1, k2⟩ := all q hq
      rw [← k2]
      exact h k (by omega) k1
    · rw [if_neg (by omega)]
      have hi' : x.toInt = (i - 1 : Nat) := by omega
      have il : i - 1 < N := by omega
      rw [cOrd1 (l := l) g2 g5 gI n5 h0 hN hu hi' (la (i - 1) il).1 g il 10000 1 1 0 0 e1 (by omega) (by omega) (by omega) (by omega) rfl]
      -- those that run into one in line stand behind it
      have beh : ∀ k c, k < N → 1 ≤ c → c < N → u c = l k → ∃ k', k < k' ∧ k' < N ∧ l k' = c := fun k c k1 c1 c2 hc => by
        obtain ⟨k', w1, w2⟩ := all c c2
        by_cases z : k' = 0
        · have z0 := E.z (by omega)
          rw [z, z0] at w2
          omega
        · obtain ⟨-, j', v1, v2⟩ := ord k' (by omega) w1
          rw [w2, hc] at v2
          have := inj j' k (by omega) k1 v2
          exact ⟨k', by omega, w1, w2⟩
      have sl : ∀ c, c ≠ l (i - 1) → zu τ.1 A5 (l (i - 1)) (ordV u (τ.1 A5) N (l (i - 1))) A5 c = τ.1 A5 c := fun c hc => zu_j _ _ _ _ _ (fun z => hc z.symm)
      have nch : ∀ k, i - 1 ≤ k → k < N → ∀ c, 1 ≤ c → c < N → u c = l k → c ≠ l (i - 1) := fun k k1 k2 c c1 c2 hc e => by
        obtain ⟨k', w1, w2, w3⟩ := beh k c k2 c1 c2 hc
        have := inj k' (i - 1) w2 il (w3.trans e)
        omega
      refine ih (x + (-1 : Int32)) (i - 1) (zu τ.1 A5 (l (i - 1)) (ordV u (τ.1 A5) N (l (i - 1))), τ.2.1, s.2.2) (by rw [zb_add (by rw [em]; omega) (by rw [em]; omega), em]; omega) (by omega) (by omega) (by rw [← r0]; exact g.w rfl) (fun k k1 k2 => ?_)
      show zu τ.1 A5 (l (i - 1)) _ A5 (l k) = ordV u (zu τ.1 A5 (l (i - 1)) _ A5) N (l k) ∧ 1 ≤ (zu τ.1 A5 (l (i - 1)) _ A5 (l k)).toInt ∧ (zu τ.1 A5 (l (i - 1)) _ A5 (l k)).toInt ≤ _
      rw [ordV_cg (g := τ.1 A5) (fun c c1 c2 c3 => sl c (nch k k1 k2 c c1 c2 c3))]
      by_cases ek : k = i - 1
      · rw [ek, zu_s]
        have B := (ordV_b hT hN (la (i - 1) il).2 (f := τ.1 A5) (fun c c1 c2 c3 => by
          obtain ⟨k', w1, w2, w3⟩ := beh (i - 1) c il c1 c2 c3
          have := h k' (by omega) w2
          rw [w3] at this
          exact this.2)).1
        exact ⟨rfl, B⟩
      · have ne : l k ≠ l (i - 1) := fun z => ek (inj k (i - 1) k2 il z)
        rw [sl _ ne]
        exact h k (by omega) k2
end ORDC
section ORDM
variable {L : List Nat} {kd : Nat → Nat} {m0 N : Nat} {u : Nat → Nat} {FR SR : Nat → Int32} {σ t : zS} {κ : Int} {O : Nat → Int32}
theorem mOrdAt (hJ : zJ κ L kd σ) (hm : zT L kd m0 11) (h : zShM N u FR SR m0 σ t) (hM : zM m0 σ = N) (hN : N ≤ 12) (hu : ∀ c, 1 ≤ c → c < N → (σ.1 (mR σ m0 48) c).toInt = u c) {τ : zS} (g : zFr (fun c _ => c = mR σ m0 60) t τ) {x4 : Int32} {p : Nat} (hp : x4.toInt = p) : ∀ (n : Nat) (x : Int32) (j : Nat) (y z : Int32), x.toInt = j → 1 ≤ j → j ≤ 12 → 12 - j < n → (j ≤ N ∨ N = 0) → (y, z) = og u (τ.1 (mR σ m0 60)) p j → 0 < N → F_X11_orderAt_7 m0 x4 τ n x y z = (if (og u (τ.1 (mR σ m0 60)) p N).2.toInt = 0 then 1 else if 1 < (og u (τ.1 (mR σ m0 60)) p N).1.toInt then (og u (τ.1 (mR σ m0 60)) p N).2 + (1 : Int32) else (og u (τ.1 (mR σ m0 60)) p N).2) := by
  have e1 : (1 : Int32).toInt = 1 := by decide
  have r0 : τ.2.2 = t.2.2 := g.rf
  have rr : ∀ x, (τ.2.2 m0 x).getD 0 = mR σ m0 x := fun x => by rw [r0]; exact h.r x
  have ne : ∀ {x : Nat}, zf 0 11 x = some (100 + x) → x ≠ 60 → ∀ c, τ.1 (mR σ m0 x) c = t.1 (mR σ m0 x) c := fun {x} h1 h2 c => g.2 _ _ (mR_ne hJ hm h1 (s' := 60) (k' := 160) (by rfl) (by omega))
  have many : (F_X11_many m0 τ).toInt = N := by
    rw [← h.many hJ hm hM]
    unfold F_X11_many
    simp only [zlt]
    rw [r0, h.r 21, ne (x := 21) (by rfl) (by decide), g.2 m0 18 (fun z => mR_m hJ hm (s := 60) (k := 160) (by rfl) (by decide) z.symm)]
  intro n
  induction n with
  | zero => intro x j y z _ _ _ h; exact absurd h (by omega)
  | succ n ih =>
    intro x j y z hx h1 hj hm' hjN hyz hN0
    have nx : x.toNatClampNeg = j := by rw [ztn, hx]; rfl
    obtain ⟨hy, hz⟩ : y = (og u (τ.1 (mR σ m0 60)) p j).1 ∧ z = (og u (τ.1 (mR σ m0 60)) p j).2 := ⟨congrArg Prod.fst hyz, congrArg Prod.snd hyz⟩
    rw [F_X11_orderAt_7]
    simp only [zlt, rr, nx, e1]
    by_cases c : j < N
    · rw [if_pos (by omega)]
      have x1 : (x + (1 : Int32)).toInt = (j + 1 : Nat) := zp1 hx (by omega)
      have uj : (τ.1 (mR σ m0 49) j).toInt = u j := by rw [ne (x := 49) (by rfl) (by decide), h.2.2.2.1 j (by omega)]; exact hu j h1 c
      by_cases cu : u j = p
      · rw [if_pos (by omega)]
        by_cases d1 : (τ.1 (mR σ m0 60) j).toInt < z.toInt
        · rw [if_pos d1]
          exact ih _ (j + 1) y z x1 (by omega) (by omega) (by omega) (by omega) (by rw [og_lt ⟨h1, cu⟩ (by rw [← hz]; exact d1)]; exact hyz) hN0
        · rw [if_neg d1]
          by_cases d2 : z.toInt < (τ.1 (mR σ m0 60) j).toInt
          · rw [if_pos d2]
            exact ih _ (j + 1) _ _ x1 (by omega) (by omega) (by omega) (by omega) (by rw [og_gt ⟨h1, cu⟩ (by rw [← hz]; exact d2)]) hN0
          · rw [if_neg d2]
            exact ih _ (j + 1) _ _ x1 (by omega) (by omega) (by omega) (by omega) (by rw [og_eq ⟨h1, cu⟩ (by rw [← hz]; omega), hy]) hN0
      · rw [if_neg (by omega)]
        exact ih _ (j + 1) y z x1 (by omega) (by omega) (by omega) (by omega) (by rw [og_n (fun w => cu w.2)]; exact hyz) hN0
    · rw [if_neg (by omega)]
      have ej : j = N := by omega
      rw [ej] at hy hz
      rw [← hy, ← hz]
theorem mOrd1 (hJ : zJ κ L kd σ) (hm : zT L kd m0 11) (h : zShM N u FR SR m0 σ t) (hM : zM m0 σ = N) (hN : N ≤ 12) (hT : zTr N u) (hu : ∀ c, 1 ≤ c → c < N → (σ.1 (mR σ m0 48) c).toInt = u c) (hS : ∀ c, c < N → (SR c).toInt + 1 = dep N u c) (hO : ∀ q, q < N → O q = ordV u O N q ∧ 1 ≤ (O q).toInt ∧ (O q).toInt ≤ cnt (fun j => An u q j) N) {x7 p1 : Int32} {lv : Nat} (h7 : x7.toInt = lv) {k : Int32 → zS → Int32 × zS} : ∀ (n : Nat) (x : Int32) (j : Nat) (τ : zS), x.toInt = j → j ≤ N → N - j < n → zFr (fun c _ => c = mR σ m0 60) t τ → (∀ q, q < N → (lv + 1 < dep N u q ∨ (lv + 1 = dep N u q ∧ q < j)) → τ.1 (mR σ m0 60) q = O q) → ∃ τ', F_X11_order_23 x7 m0 p1 k n x τ = k (x7 + (-1 : Int32)) τ' ∧ zFr (fun c _ => c = mR σ m0 60) t τ' ∧ ∀ q, q < N → lv + 1 ≤ dep N u q → τ'.1 (mR σ m0 60) q = O q := by
  have e1 : (1 : Int32).toInt = 1 := by decide
  intro n
  induction n with
  | zero => intro x j τ _ _ h; exact absurd h (by omega)
  | succ n ih =>
    intro x j τ hx hj hmn g hq
    have r0 : τ.2.2 = t.2.2 := g.rf
    have rr : ∀ x, (τ.2.2 m0 x).getD 0 = mR σ m0 x := fun x => by rw [r0]; exact h.r x
    have ne : ∀ {x : Nat}, zf 0 11 x = some (100 + x) → x ≠ 60 → ∀ c, τ.1 (mR σ m0 x) c = t.1 (mR σ m0 x) c := fun {x} h1 h2 c => g.2 _ _ (mR_ne hJ hm h1 (s' := 60) (k' := 160) (by rfl) (by omega))
    have many : (F_X11_many m0 τ).toInt = N := by
      rw [← h.many hJ hm hM]
      unfold F_X11_many
      simp only [zlt]
      rw [r0, h.r 21, ne (x := 21) (by rfl) (by decide), g.2 m0 18 (fun z => mR_m hJ hm (s := 60) (k := 160) (by rfl) (by decide) z.symm)]
    have nx : x.toNatClampNeg = j := by rw [ztn, hx]; rfl
    rw [F_X11_order_23]
    simp only [zlt, rr, nx]
    by_cases c : j < N
    · rw [if_pos (by omega)]
      have x1 : (x + (1 : Int32)).toInt = (j + 1 : Nat) := zp1 hx (by omega)
      have st : (τ.1 (mR σ m0 53) j).toInt + 1 = dep N u j := by rw [ne (x := 53) (by rfl) (by decide), (h.2.2.1 j c).2]; exact hS j c
      by_cases cd : dep N u j = lv + 1
      · rw [if_pos (by omega)]
        have ch : ∀ c, 1 ≤ c → c < N → u c = j → τ.1 (mR σ m0 60) c = O c := fun c c1 c2 c3 => hq c c2 (Or.inl (by
          have := dep_s hT c1 c2
          rw [c3] at this
          omega))
        have v : F_X11_orderAt m0 x τ = O j := by
          unfold F_X11_orderAt
          simp only [zlt]
          rw [mOrdAt hJ hm h hM hN hu g hx 10000 1 1 0 0 e1 (by omega) (by omega) (by omega) (by omega) rfl (by omega), og_cg N ch, (hO j c).1]
          exact (ordV_b hT hN c (f := O) (fun c c1 c2 _ => (hO c c2).2)).2.symm
        rw [v]
        refine ih (x + (1 : Int32)) (j + 1) _ x1 (by omega) (by omega) (g.w rfl) (fun q q1 q2 => ?_)
        show zu τ.1 (mR σ m0 60) j (O j) (mR σ m0 60) q = O q
        by_cases e : q = j
        · rw [e, zu_s]
        · rw [zu_j _ _ _ _ _ (fun z => e z.symm)]
          exact hq q q1 (by omega)
      · rw [if_neg (by omega)]
        refine ih (x + (1 : Int32)) (j + 1) τ x1 (by omega) (by omega) g (fun q q1 q2 => hq q q1 ?_)
        rcases q2 with q2 | ⟨q2, q3⟩
        · exact Or.inl q2
        · by_cases e : q = j
          · rw [e] at q2; omega
          · exact Or.inr ⟨q2, by omega⟩
    · rw [if_neg (by omega)]
      exact ⟨τ, rfl, g, fun q q1 q2 => hq q q1 (by omega)⟩
theorem mOrd2 (hJ : zJ κ L kd σ) (hm : zT L kd m0 11) (h : zShM N u FR SR m0 σ t) (hM : zM m0 σ = N) (hN : N ≤ 12) (hT : zTr N u) (hu : ∀ c, 1 ≤ c → c < N → (σ.1 (mR σ m0 48) c).toInt = u c) (hS : ∀ c, c < N → (SR c).toInt + 1 = dep N u c) (hO : ∀ q, q < N → O q = ordV u O N q ∧ 1 ≤ (O q).toInt ∧ (O q).toInt ≤ cnt (fun j => An u q j) N) {p1 : Int32} {p : Nat} (hp : p1.toInt = p) (hpN : p < N) : ∀ (n : Nat) (x : Int32) (i : Nat) (τ : zS), x.toInt = (i : Int) - 1 → i ≤ 12 → i < n → zFr (fun c _ => c = mR σ m0 60) t τ → (∀ q, q < N → i + 1 ≤ dep N u q → τ.1 (mR σ m0 60) q = O q) → (F_X11_order_17 m0 p1 n x τ).1 = O p := by
  have em : (-1 : Int32).toInt = -1 := by decide
  have e0 : (0 : Int32).toInt = (0 : Nat) := by decide
  intro n
  induction n with
  | zero => intro x i τ _ _ h; exact absurd h (by omega)
  | succ n ih =>
    intro x i τ hx hi hmn g hq
    have np : p1.toNatClampNeg = p := by rw [ztn, hp]; rfl
    have rr : ∀ x, (τ.2.2 m0 x).getD 0 = mR σ m0 x := fun x => by rw [g.rf]; exact h.r x
    rw [F_X11_order_17]
    simp only [zlt, rr, np]
    by_cases c : i = 0
    · rw [if_pos (by omega)]
      exact hq p hpN (by have := (dep_b hT p hpN).1; omega)
    · rw [if_neg (by omega)]
      have h7 : x.toInt = (i - 1 : Nat) := by omega
      obtain ⟨τ', q1, q2, q3⟩ := mOrd1 hJ hm h hM hN hT hu hS hO (p1 := p1) h7 (k := F_X11_order_17 m0 p1 n) 10000 0 0 τ e0 (by omega) (by omega) g (fun q w1 w2 => hq q w1 (by omega))
      rw [q1]
      exact ih (x + (-1 : Int32)) (i - 1) τ' (by rw [zb_add (by rw [em]; omega) (by rw [em]; omega), em]; omega) (by omega) (by omega) q2 (fun q w1 w2 => q3 q w1 (by omega))
end ORDM
section ORDB
variable {κ : Int} {L1 : List Nat} {kd1 : Nat → Nat} {L2 : List Nat} {kd2 : Nat → Nat} {σ1 σ2 τ1 τ2 : zS} {m0 x0 : Nat} {Q : Nat → zCo → (Nat → Int32) → Prop} {V : zWh} {ps pc sl rv sh cd : Nat} {v1 v2 p q r : Int32}
theorem sr_d {N : Nat} {u : Nat → Nat} {SR : Nat → Int32} (hT : zTr N u) (hN : N ≤ 12) (S0 : SR 0 = 0) (hS : ∀ c, 1 ≤ c → c < N → SR c = SR (u c) + (1 : Int32)) : ∀ c, c < N → (SR c).toInt + 1 = dep N u c := by
  have e0 : (0 : Int32).toInt = 0 := by decide
  have e1 : (1 : Int32).toInt = 1 := by decide
  by_cases hz : 0 < N
  · refine hT.ind _ (by rw [S0, e0, dep_0 hz]; omega) (fun c h1 h2 ih => ?_)
    have d := dep_s hT h1 h2
    have b := (dep_b hT c h2).2
    rw [hS c h1 h2, zb_add (by rw [e1]; omega) (by rw [e1]; omega), e1]
    omega
  · intro c hc
    omega
theorem zRL.order (hG : zGd Q) (h : zRL Q L1 kd1 x0 m0 V ps pc sl rv sh cd σ1 σ2) (hl : zLen x0 m0 σ1 σ2) (hx : zT L1 kd1 x0 10) (hI : zI κ 0 L1 kd1 σ1) (hJ : zJ κ L2 kd2 σ2) (hm : zT L2 kd2 m0 11) (hg : gN m0 σ2) (f1 : (v1, τ1) = F_X10_order x0 p σ1) (f2 : (v2, τ2) = F_X11_order m0 p σ2) : v1.toInt = v2.toInt := by
  obtain ⟨N, M, u, FR, SR, ℓ, l, A1, A2, A3, A4, A6, s, t, hs, ht, ⟨⟨n1, n2, n3, n4⟩, ⟨F0, S0, hF, hS, hℓ⟩, hb, ⟨C1, C2, -⟩, hM⟩, ⟨g0, g1, g2, g3, g4, g6⟩, hP, hMN⟩ := h.lk2 hG hl hx hI hJ hm hg
  have hL := h.1
  have hV := h.2.1
  have e0 : (0 : Int32).toInt = 0 := by decide
  have e1 : (1 : Int32).toInt = 1 := by decide
  have k1 := zN1 n3 n1
  have k2 := zN1 (x := F_X11_many m0 σ2) (mMany.trans n2) n1
  obtain ⟨⟨tA, tI, tW, tM⟩, -⟩ := hL.2.2.2.1 0 (by decide)
  have ns : sh ≠ rv := zNk hV.2.1.2.2.1 hV.2.1.2.1 (by decide)
  have nx : x0 ≠ rv := zNk hx hV.2.1.2.1 (by decide)
  have nA : V.1 0 ≠ rv := zNk tA hV.2.1.2.1 (by decide)
  have t5 := hV.2.2.2.2.1 5 (by omega) (by omega)
  have t2' := hV.2.2.2.2.1 2 (by omega) (by omega)
  have g5 : (s.2.2 sh 5).getD 0 = (σ1.2.2 sh 5).getD 0 := by rw [C1 sh 5 (fun z => ns z.1)]
  have g2' : (σ1.2.2 sh 2).getD 0 = A2 := by rw [← g2, C1 sh 2 (fun z => ns z.1)]
  rw [g2'] at t2'
  have g6x : (s.2.2 x0 6).getD 0 = V.1 0 := by rw [C1 x0 6 (fun z => nx z.1), hL.1.1]; rfl
  have gI : (s.2.2 (V.1 0) 0).getD 0 = V.2.1 0 := by rw [C1 (V.1 0) 0 (fun z => nA z.1)]; exact (hL.gA (k := 0) (by decide)).1
  obtain ⟨hN', r1, er⟩ := h.rows hG hg n2 n1
  have uI : ∀ c, 1 ≤ c → c < N → (s.1 (V.2.1 0) c).toInt = u c := fun c c1 c2 => by
    rw [C2 (V.2.1 0) c (by unfold zKs; rw [tI.2]; omega), er c c1 c2]
    exact (hb c c1 c2).2
  unfold F_X10_order at f1
  unfold F_X11_order at f2
  simp only [zlt, zlt2, cPlace, mPlc, cWithin, mIn, e0, k1, k2] at f1 f2
  by_cases cp : 0 ≤ p.toInt ∧ p.toInt ≤ (N : Int) - 1
  · rw [if_neg (fun z => z cp)] at f1 f2
    obtain ⟨a, ha⟩ : ∃ a : Nat, p.toInt = a := ⟨p.toInt.toNat, by omega⟩
    obtain ⟨τ', q1, q2⟩ := cOrd2 (p2 := p) n4 g2 g5 gI ⟨zNk t5 hV.2.1.2.2.1 (by decide), zNk t5 t2' (by decide), zNk t5 tI (by decide)⟩ hP.1 n1 uI hP.2.1 ha (by omega) 10000 (s.1 sh 0 - (1 : Int32)) N s (zN1 hP.1 n1) (Nat.le_refl _) (by omega) zFr.id (fun k k1 k2 => by omega)
    have m := mOrd2 hJ hm hM n2 n1 n4 (fun c c1 c2 => (hb c c1 c2).2) (sr_d n4 n1 S0 hS) q2 ha (by omega) 10000 11 12 t (by decide) (by omega) (by omega) zFr.id (fun q w1 w2 => by have := (dep_b n4 q w1).2; omega)
    have eC : F_X6_orderOf sh (V.1 0) p s = (τ'.1 ((σ1.2.2 sh 5).getD 0) a, τ') := by
      unfold F_X6_orderOf
      simp only [zlt]
      exact q1
    rw [← hs, g0, g6x, eC] at f1
    rw [← ht] at f2
    rw [(zPr2 f1).1, show v2 = (F_X11_order_17 m0 p 10000 11 t).1 from congrArg Prod.fst f2, m]
  · rw [if_pos cp] at f1 f2
    rw [(zPr2 f1).1, (zPr2 f2).1]
end ORDB
