/-! BOTH SIDES' TOKENS ARE ALIKE -/
def zvr (b : Int) : List Int → Int
  | [] => 0
  | c :: l => zvr b l * b + c
theorem zvb_rev (b : Int) (l : List Int) : zvb b l = zvr b l.reverse := by
  have key : ∀ m : List Int, zvb b m.reverse = zvr b m := fun m => by
    induction m with
    | nil => rfl
    | cons c m ih => rw [List.reverse_cons, zvb_snoc, ih]; rfl
  have := key l.reverse
  rw [List.reverse_reverse] at this
  exact this
def zlet (l : List Int) : Prop := ∀ c ∈ l, 1 ≤ c ∧ c ≤ 26
theorem zvr_nn27 : ∀ l, zlet l → 0 ≤ zvr 27 l
  | [], _ => by decide
  | c :: l, h => by
    have h1 := h c List.mem_cons_self
    have h2 := zvr_nn27 l (fun x hx => h x (List.mem_cons_of_mem _ hx))
    show 0 ≤ zvr 27 l * 27 + c
    omega
theorem zvr_nn32 : ∀ l, zlet l → 0 ≤ zvr 32 l
  | [], _ => by decide
  | c :: l, h => by
    have h1 := h c List.mem_cons_self
    have h2 := zvr_nn32 l (fun x hx => h x (List.mem_cons_of_mem _ hx))
    show 0 ≤ zvr 32 l * 32 + c
    omega
theorem zvr_i27 : ∀ l l', zlet l → zlet l' → zvr 27 l = zvr 27 l' → l = l'
  | [], [], _, _, _ => rfl
  | [], c :: l', _, h', e => by
    have h1 := h' c List.mem_cons_self
    have h2 := zvr_nn27 l' (fun x hx => h' x (List.mem_cons_of_mem _ hx))
    have e2 : (0 : Int) = zvr 27 l' * 27 + c := e
    omega
  | c :: l, [], h, _, e => by
    have h1 := h c List.mem_cons_self
    have h2 := zvr_nn27 l (fun x hx => h x (List.mem_cons_of_mem _ hx))
    have e2 : zvr 27 l * 27 + c = 0 := e
    omega
  | c :: l, c' :: l', h, h', e => by
    have h1 := h c List.mem_cons_self
    have h1' := h' c' List.mem_cons_self
    have e2 : zvr 27 l * 27 + c = zvr 27 l' * 27 + c' := e
    have e3 : c = c' := by omega
    have e4 : zvr 27 l = zvr 27 l' := by omega
    rw [e3, zvr_i27 l l' (fun x hx => h x (List.mem_cons_of_mem _ hx)) (fun x hx => h' x (List.mem_cons_of_mem _ hx)) e4]
theorem zvr_i32 : ∀ l l', zlet l → zlet l' → zvr 32 l = zvr 32 l' → l = l'
  | [], [], _, _, _ => rfl
  | [], c :: l', _, h', e => by
    have h1 := h' c List.mem_cons_self
    have h2 := zvr_nn32 l' (fun x hx => h' x (List.mem_cons_of_mem _ hx))
    have e2 : (0 : Int) = zvr 32 l' * 32 + c := e
    omega
  | c :: l, [], h, _, e => by
    have h1 := h c List.mem_cons_self
    have h2 := zvr_nn32 l (fun x hx => h x (List.mem_cons_of_mem _ hx))
    have e2 : zvr 32 l * 32 + c = 0 := e
    omega
  | c :: l, c' :: l', h, h', e => by
    have h1 := h c List.mem_cons_self
    have h1' := h' c' List.mem_cons_self
    have e2 : zvr 32 l * 32 + c = zvr 32 l' * 32 + c' := e
    have e3 : c = c' := by omega
    have e4 : zvr 32 l = zvr 32 l' := by omega
    rw [e3, zvr_i32 l l' (fun x hx => h x (List.mem_cons_of_mem _ hx)) (fun x hx => h' x (List.mem_cons_of_mem _ hx)) e4]
theorem zvr_b27 : ∀ l, zlet l → zvr 27 l < 27 ^ l.length
  | [], _ => by decide
  | c :: l, h => by
    have h1 := h c List.mem_cons_self
    have h2 := zvr_b27 l (fun x hx => h x (List.mem_cons_of_mem _ hx))
    show zvr 27 l * 27 + c < 27 ^ (l.length + 1)
    rw [Int.pow_succ]
    omega
theorem zvr_b32 : ∀ l, zlet l → zvr 32 l < 32 ^ l.length
  | [], _ => by decide
  | c :: l, h => by
    have h1 := h c List.mem_cons_self
    have h2 := zvr_b32 l (fun x hx => h x (List.mem_cons_of_mem _ hx))
    show zvr 32 l * 32 + c < 32 ^ (l.length + 1)
    rw [Int.pow_succ]
    omega
theorem zlet_rev {l : List Int} (h : zlet l) : zlet l.reverse := fun c hc => h c (List.mem_reverse.mp hc)
theorem zpw {b : Int} (hb : 1 ≤ b) : ∀ {n m : Nat}, n ≤ m → b ^ n ≤ b ^ m := fun {n m} h => by
  induction m with
  | zero => rw [show n = 0 by omega]; exact Int.le_refl _
  | succ m ih =>
    by_cases e : n = m + 1
    · subst e; exact Int.le_refl _
    · have q := ih (by omega)
      have p0 : 0 ≤ b ^ m := Int.pow_nonneg (by omega)
      rw [Int.pow_succ]
      have : b ^ m * 1 ≤ b ^ m * b := Int.mul_le_mul_of_nonneg_left hb p0
      omega
theorem zof27 {l : List Int} (h : zlet l) (hl : l.length ≤ 8) : (Int64.ofInt (zvb 27 l)).toInt = zvr 27 l.reverse := by
  rw [zvb_rev]
  have h1 := zvr_nn27 _ (zlet_rev h)
  have h2 := zvr_b27 _ (zlet_rev h)
  have h3 := zpw (b := 27) (by decide) (show l.reverse.length ≤ 8 by simpa using hl)
  have e8 : (27 : Int) ^ 8 = 282429536481 := by decide
  rw [e8] at h3
  exact Int64.toInt_ofInt_of_le (by omega) (by omega)
theorem zof32 {l : List Int} (h : zlet l) (hl : l.length ≤ 8) : (Int64.ofInt (zvb 32 l)).toInt = zvr 32 l.reverse := by
  rw [zvb_rev]
  have h1 := zvr_nn32 _ (zlet_rev h)
  have h2 := zvr_b32 _ (zlet_rev h)
  have h3 := zpw (b := 32) (by decide) (show l.reverse.length ≤ 8 by simpa using hl)
  have e8 : (32 : Int) ^ 8 = 1099511627776 := by decide
  rw [e8] at h3
  exact Int64.toInt_ofInt_of_le (by omega) (by omega)
/-- one word on both sides -/
def zNR (x y : Int64) : Prop := ∃ w : List Int, zlet w ∧ w.length ≤ 8 ∧ x = Int64.ofInt (zvb 32 w) ∧ y = Int64.ofInt (zvb 27 w)
theorem zNR.inj {x y x' y' : Int64} (h : zNR x y) (g : zNR x' y') : x = x' ↔ y = y' := by
  obtain ⟨w, h1, h2, rfl, rfl⟩ := h
  obtain ⟨w', g1, g2, rfl, rfl⟩ := g
  constructor
  · intro e
    have q := congrArg Int64.toInt e
    rw [zof32 h1 h2, zof32 g1 g2] at q
    have q2 := zvr_i32 _ _ (zlet_rev h1) (zlet_rev g1) q
    rw [List.reverse_inj.mp q2]
  · intro e
    have q := congrArg Int64.toInt e
    rw [zof27 h1 h2, zof27 g1 g2] at q
    have q2 := zvr_i27 _ _ (zlet_rev h1) (zlet_rev g1) q
    rw [List.reverse_inj.mp q2]
theorem zwd_len (b : Nat → Int32) (a : Nat) : ∀ k, (zwd b a k).length = k
  | 0 => rfl
  | k + 1 => by rw [zwd, List.length_append, zwd_len b a k]; rfl
theorem zwd_let {b : Nat → Int32} {a : Nat} : ∀ k, (∀ j, j < k → zLt (b (a + j)).toInt) → zlet (zwd b a k)
  | 0, _ => fun c hc => absurd hc List.not_mem_nil
  | k + 1, h => fun c hc => by
    rw [zwd] at hc
    rcases List.mem_append.mp hc with q | q
    · exact zwd_let k (fun j hj => h j (by omega)) c q
    · have e := List.mem_singleton.mp q
      have := h k (by omega)
      unfold zLt at this
      omega
theorem zNR_words : ∀ i, i < 22 → zNR (zw32 i) (zw27 i) := by
  intro i hi
  have key : ∀ j : Fin 22, (zwl.getD j.val []).length ≤ 8 ∧ (zwl.getD j.val []).all (fun c => decide (1 ≤ c ∧ c ≤ 26)) = true := by decide +kernel
  have q := key ⟨i, hi⟩
  exact ⟨zwl.getD i [], fun c hc => of_decide_eq_true (List.all_eq_true.mp q.2 c hc), q.1, rfl, rfl⟩
theorem zw27_inj : ∀ i j, i < 22 → j < 22 → zw27 i = zw27 j → i = j := by
  intro i j hi hj h
  have key : ∀ a b : Fin 22, zw27 a.val = zw27 b.val → a = b := by decide +kernel
  have q := key ⟨i, hi⟩ ⟨j, hj⟩ h
  exact congrArg Fin.val q
def zrho (k : Int) : Int := if k ≤ 21 then 20 + k else if k = 22 then 1 else if k = 23 then 2 else if k = 24 then 4 else if k = 25 then 5 else if k = 26 then 8 else if k = 27 then 9 else if k = 28 then 10 else if k = 29 then 15 else if k = 30 then 13 else if k = 31 then 6 else if k = 32 then 7 else if k = 33 then 0 else 3
theorem zrho_sg (c : Int) : zrho (zsg c) = zsr c := by
  unfold zsg zsr
  split
  · rfl
  split
  · rfl
  split
  · rfl
  split
  · rfl
  split
  · rfl
  split
  · rfl
  split
  · rfl
  split
  · rfl
  split
  · rfl
  rfl
theorem zsg_rng (c : Int) : 24 ≤ zsg c ∧ zsg c ≤ 34 := by
  unfold zsg
  split
  · decide
  split
  · decide
  split
  · decide
  split
  · decide
  split
  · decide
  split
  · decide
  split
  · decide
  split
  · decide
  split
  · decide
  decide
/-- a token on both sides -/
def zTR (K : Int) (V : Int64) (Q rk rq rv : Int) (M : Int64) : Prop := Q = rq ∧ rk = zrho K ∧ 0 ≤ K ∧ K ≤ 34 ∧ (K = 22 → zNR V M) ∧ (K = 23 → V.toInt32.toInt = rv)
theorem zone {b : Nat → Int32} {n a e e' : Nat} {W Y : Nat → Int64} {K Q rk rq rv : Int} {V M : Int64} (hW : ∀ i, i < 22 → W i = zw32 i) (hY : ∀ i, i < 22 → Y i = zw27 i) (h : zCT b n W a K V Q e) (g : zRT b n Y a rk rq rv M e') : zTR K V Q rk rq rv M ∧ (K < 33 → e = e') ∧ (K = 33 ↔ rk = 0) := by
  obtain ⟨s, h1, h2, h3, h4⟩ := h
  obtain ⟨s', g1, g2, g3, g4⟩ := g
  have es := h1.uniq g1
  subst es
  have hQ : Q = rq := by omega
  have ld : ∀ c : Int, zLt c → zDg c → False := fun c x y => by unfold zLt at x; unfold zDg at y; omega
  have simple : rk = zrho K → 0 ≤ K → K ≤ 34 → K ≠ 22 → K ≠ 23 → zTR K V Q rk rq rv M := fun q1 q2 q3 q4 q5 => ⟨hQ, q1, q2, q3, fun z => absurd z q4, fun z => absurd z q5⟩
  rcases h4 with ⟨c1, c2, -⟩ | ⟨c1, c2, c3, c4, c5⟩ | ⟨c1, c2, c3, c5⟩ | ⟨c1, c2, c3, c4, c5⟩
  · rcases g4 with ⟨d1, d2⟩ | ⟨d1, d2, d3, d4⟩ | ⟨d1, d2, d3, d4⟩ | ⟨d1, d2, d3, d4, d5⟩
    · refine ⟨simple (by rw [c2, d2]; decide) (by omega) (by omega) (by omega) (by omega), fun z => by omega, by omega⟩
    · omega
    · omega
    · omega
  · rcases g4 with ⟨d1, d2⟩ | ⟨d1, d2, d3, d4⟩ | ⟨d1, d2, d3, d4⟩ | ⟨d1, d2, d3, d4, d5⟩
    · omega
    · have ee := c3.uniq d3
      subst ee
      rcases c5 with ⟨c6, c7⟩ | ⟨c6, c7⟩
      · rcases d4 with ⟨d5, d6⟩ | ⟨d5, d6, d7⟩
        · exact ⟨simple (by rw [c7, d6]; decide) (by omega) (by omega) (by omega) (by omega), fun _ => rfl, by omega⟩
        · omega
      · rcases d4 with ⟨d5, d6⟩ | ⟨d5, d6, d7⟩
        · omega
        · have hse := c3.1
          have hlet : zlet (zwd b s (e - s)) := zwd_let _ (fun j hj => (c3.2.1 (s + j) (by omega) (by omega)).2)
          have hN : zNR V M := ⟨zwd b s (e - s), hlet, by rw [zwd_len]; exact c6, by rw [c4]; unfold zlv; rw [if_pos c6], d6⟩
          rcases c7 with ⟨x1, x2⟩ | ⟨i, x1, x2, x3⟩
          · rcases d7 with ⟨y1, y2⟩ | ⟨j, y1, y2, y3⟩
            · exact ⟨⟨hQ, by rw [x1, y1]; decide, by omega, by omega, fun _ => hN, fun z => by omega⟩, fun _ => rfl, by omega⟩
            · exfalso
              rw [hY j y1] at y3
              exact x2 j y1 (by rw [hW j y1]; exact ((zNR_words j y1).inj hN).mpr y3)
          · rcases d7 with ⟨y1, y2⟩ | ⟨j, y1, y2, y3⟩
            · exfalso
              rw [hW i x1] at x3
              exact y2 i x1 (by rw [hY i x1]; exact ((zNR_words i x1).inj hN).mp x3)
            · rw [hW i x1] at x3
              rw [hY j y1] at y3
              have e1 := ((zNR_words i x1).inj hN).mp x3
              have e2 := zw27_inj i j x1 y1 (e1.trans y3.symm)
              subst e2
              refine ⟨simple ?_ (by omega) (by omega) (by omega) (by omega), fun _ => rfl, by omega⟩
              rw [x2, y2]
              unfold zrho
              rw [if_pos (by omega)]
    · exact absurd d2 (fun z => ld _ c2 z)
    · exact absurd c2 d2
  · rcases g4 with ⟨d1, d2⟩ | ⟨d1, d2, d3, d4⟩ | ⟨d1, d2, d3, d4⟩ | ⟨d1, d2, d3, d4, d5⟩
    · omega
    · exact absurd c2 (fun z => ld _ d2 z)
    · have ee := c3.uniq d3
      subst ee
      rcases c5 with ⟨c6, c7⟩ | ⟨c6, c7, y, c8, c9⟩
      · rcases d4 with ⟨d5, d6⟩ | ⟨d5, d6, d7⟩
        · exact ⟨simple (by rw [c7, d6]; decide) (by omega) (by omega) (by omega) (by omega), fun _ => rfl, by omega⟩
        · omega
      · rcases d4 with ⟨d5, d6⟩ | ⟨d5, d6, d7⟩
        · omega
        · exact ⟨⟨hQ, by rw [c7, d6]; decide, by omega, by omega, fun z => by omega, fun _ => by rw [c8, Int32.toInt32_toInt64, c9, d7]⟩, fun _ => rfl, by omega⟩
    · exact absurd c2 d3
  · rcases g4 with ⟨d1, d2⟩ | ⟨d1, d2, d3, d4⟩ | ⟨d1, d2, d3, d4⟩ | ⟨d1, d2, d3, d4, d5⟩
    · omega
    · exact absurd d2 c2
    · exact absurd d2 c3
    · have r := zsg_rng (b s).toInt
      refine ⟨simple (by rw [c5, d5, zrho_sg]) (by omega) (by omega) (by omega) (by omega), fun _ => by omega, ?_⟩
      rw [c5, d5]
      constructor
      · intro z
        have := zrho_sg (b s).toInt
        rw [z] at this
        rw [← this]
        decide
      · intro z
        have e := zrho_sg (b s).toInt
        rw [z] at e
        unfold zrho at e
        rcases (show zsg (b s).toInt = 24 ∨ zsg (b s).toInt = 25 ∨ zsg (b s).toInt = 26 ∨ zsg (b s).toInt = 27 ∨ zsg (b s).toInt = 28 ∨ zsg (b s).toInt = 29 ∨ zsg (b s).toInt = 30 ∨ zsg (b s).toInt = 31 ∨ zsg (b s).toInt = 32 ∨ zsg (b s).toInt = 33 ∨ zsg (b s).toInt = 34 by omega) with q | q | q | q | q | q | q | q | q | q | q
        all_goals (rw [q] at e; first | exact q | exact absurd e (by decide))
/-- all tokens -/
theorem zall {b : Nat → Int32} {n m m' : Nat} {W Y : Nat → Int64} {k v q k' q' v' nm : Nat} {σ τ : zS} {E E' : Nat → Nat} (hW : ∀ i, i < 22 → W i = zw32 i) (hY : ∀ i, i < 22 → Y i = zw27 i) (h : zTk b n W k v q σ m E) (g : zRq b n Y k' q' v' nm τ m' E') (hm : m ≤ 401) (ge : m' = 401 ∨ (0 < m' ∧ (τ.1 k' (m' - 1)).toInt = 0)) (h0 : 0 < m) (g0 : 0 < m') :
    ∀ j, j < m → j < m' ∧ E j = E' j ∧ zTR (σ.1 k j).toInt (σ.2.1 v j) (σ.1 q j).toInt (τ.1 k' j).toInt (τ.1 q' j).toInt (τ.1 v' j).toInt (τ.2.1 nm j) := by
  intro j
  induction j with
  | zero =>
    intro hj
    have e0 : E 0 = E' 0 := h.1.trans g.1.symm
    have gq := g.2.1 0 g0
    rw [← e0] at gq
    exact ⟨g0, e0, (zone hW hY (h.2.1 0 hj).1 gq).1⟩
  | succ j ih =>
    intro hj
    obtain ⟨i1, i2, i3⟩ := ih (by omega)
    have gq := g.2.1 j i1
    rw [← i2] at gq
    have o := zone hW hY (h.2.1 j (by omega)).1 gq
    have hk := h.2.2 j hj
    have e1 := o.2.1 hk
    have lt : j + 1 < m' := by
      rcases ge with z | ⟨z1, z2⟩
      · omega
      · by_cases q : m' - 1 = j
        · rw [q] at z2
          have := o.2.2.mpr z2
          omega
        · omega
    have gq1 := g.2.1 (j + 1) lt
    rw [← e1] at gq1
    exact ⟨lt, e1, (zone hW hY (h.2.1 (j + 1) hj).1 gq1).1⟩
/-- places grow -/
theorem zmono {b : Nat → Int32} {n m : Nat} {W : Nat → Int64} {k v q : Nat} {σ : zS} {E : Nat → Nat} (h : zTk b n W k v q σ m E) : ∀ j, j + 1 < m → (σ.1 q j).toInt < (σ.1 q (j + 1)).toInt := by
  intro j hj
  obtain ⟨s, h1, h2, h3, h4⟩ := (h.2.1 j (by omega)).1
  obtain ⟨s', g1, g2, g3, -⟩ := (h.2.1 (j + 1) hj).1
  have hk := h.2.2 j hj
  have hs : s < E (j + 1) := by
    rcases h4 with ⟨c1, c2, -⟩ | ⟨c1, c2, c3, -, -⟩ | ⟨c1, c2, c3, -⟩ | ⟨c1, c2, c3, c4, -⟩
    · omega
    · rcases Nat.lt_or_ge s (E (j + 1)) with z | z
      · exact z
      · have e := Nat.le_antisymm z c3.1
        rw [e] at c3
        exact absurd ⟨c1, c2⟩ c3.2.2
    · rcases Nat.lt_or_ge s (E (j + 1)) with z | z
      · exact z
      · have e := Nat.le_antisymm z c3.1
        rw [e] at c3
        exact absurd ⟨c1, c2⟩ c3.2.2
    · omega
  have := g1.1
  omega
