/-! MAKING: a constructor's world is the blank object alone; what it makes joins a typed world of its own -/
def zja {α : Type} (M : List Nat) (f g : Nat → α) : Nat → α := fun a => if a ∈ M then g a else f a
def zjs (M : List Nat) (σ1 σ2 : zS) : zS := (zja M σ1.1 σ2.1, zja M σ1.2.1 σ2.2.1, zja M σ1.2.2 σ2.2.2)
theorem zja_l {α : Type} {M : List Nat} {f g : Nat → α} {a : Nat} (h : a ∉ M) : zja M f g a = f a := if_neg h
theorem zja_r {α : Type} {M : List Nat} {f g : Nat → α} {a : Nat} (h : a ∈ M) : zja M f g a = g a := if_pos h
theorem zW_app {dA : Nat → ClassId} {L1 L2 : List Nat} {kd1 kd2 : Nat → Nat} {σ1 σ2 : zS} (h : ∀ a ∈ L1, a ∉ L2) : zW dA (L1 ++ L2) (zja L2 kd1 kd2) (zjs L2 σ1 σ2) = zW dA L1 kd1 σ1 ++ zW dA L2 kd2 σ2 := by
  unfold zW va_pl
  rw [List.map_append]
  congr 1
  · refine List.map_congr_left (fun a ha => ?_)
    simp only [zF, zjs, zja_l (h a ha)]
  · refine List.map_congr_left (fun a ha => ?_)
    simp only [zF, zjs, zja_r ha]
/-- what is there stays as it is -/
def zEx0 (L : List Nat) (kd : Nat → Nat) (σ : zS) (L2 : List Nat) (kd2 : Nat → Nat) (σ2 : zS) : Prop := ∀ a ∈ L, a ∈ L2 ∧ kd2 a = kd a ∧ σ2.1 a = σ.1 a ∧ σ2.2.1 a = σ.2.1 a ∧ σ2.2.2 a = σ.2.2 a
/-- nobody refers to it -/
def zrt (L : List Nat) (σ : zS) (y : Nat) : Prop := ∀ a ∈ L, ∀ j, σ.2.2 a j ≠ some y
/-- and to whom nobody referred, nobody refers still -/
def zExt (L : List Nat) (kd : Nat → Nat) (σ : zS) (L2 : List Nat) (kd2 : Nat → Nat) (σ2 : zS) : Prop := zEx0 L kd σ L2 kd2 σ2 ∧ ∀ y ∈ L, zrt L σ y → zrt L2 σ2 y
theorem zEx0.rf {L : List Nat} {kd : Nat → Nat} {σ : zS} : zEx0 L kd σ L kd σ := fun _ h => ⟨h, rfl, rfl, rfl, rfl⟩
theorem zExt.rf {L : List Nat} {kd : Nat → Nat} {σ : zS} : zExt L kd σ L kd σ := ⟨zEx0.rf, fun _ _ h => h⟩
theorem zEx0.tr {L1 L2 L3 : List Nat} {kd1 kd2 kd3 : Nat → Nat} {σ1 σ2 σ3 : zS} (h : zEx0 L1 kd1 σ1 L2 kd2 σ2) (g : zEx0 L2 kd2 σ2 L3 kd3 σ3) : zEx0 L1 kd1 σ1 L3 kd3 σ3 := fun a ha => by
  obtain ⟨h1, h2, h3, h4, h5⟩ := h a ha
  obtain ⟨g1, g2, g3, g4, g5⟩ := g a h1
  exact ⟨g1, g2.trans h2, g3.trans h3, g4.trans h4, g5.trans h5⟩
theorem zEx0.t {L1 L2 : List Nat} {kd1 kd2 : Nat → Nat} {σ1 σ2 : zS} {a k : Nat} (h : zEx0 L1 kd1 σ1 L2 kd2 σ2) (ha : zT L1 kd1 a k) : zT L2 kd2 a k := ⟨(h a ha.1).1, (h a ha.1).2.1.trans ha.2⟩
theorem zExt.t {L1 L2 : List Nat} {kd1 kd2 : Nat → Nat} {σ1 σ2 : zS} {a k : Nat} (h : zExt L1 kd1 σ1 L2 kd2 σ2) (ha : zT L1 kd1 a k) : zT L2 kd2 a k := h.1.t ha
theorem zExt.rr {L1 L2 : List Nat} {kd1 kd2 : Nat → Nat} {σ1 σ2 : zS} {a k : Nat} (h : zExt L1 kd1 σ1 L2 kd2 σ2) (ha : zT L1 kd1 a k) (r : zrt L1 σ1 a) : zrt L2 σ2 a := h.2 a ha.1 r
/-- how many places of a row count -/
def zro (k j : Nat) : Prop := zb k ≠ 16 ∨ j < zn k
/-- what a cell of a kind holds where all has been made and nothing has happened (b: the words have been read) -/
def zini (b : Bool) (k : Nat) (f : Nat → Int32) (g : Nat → Int64) : Prop := (k = 1 → f 3 = 0 ∧ f 4 = 0 ∧ f 5 = 0) ∧ (k = 2 → f 4 = 0) ∧ (k = 4 → f 1 = 0 ∧ f 2 = 0) ∧ (k = 9 → f 0 = 0 ∧ f 10 = 0) ∧ (k = 10 → f 12 = 0 ∧ f 13 = -1) ∧ (k = 40 → b = true → ∀ j, j < 22 → g j = zw32 j) ∧ (k = 24 → f 0 = 0)
/-- refers to what is there; each but for a shape is referred to by one -/
def zcl (L : List Nat) (σ : zS) : Prop := ∀ a ∈ L, ∀ j y, σ.2.2 a j = some y → y ∈ L
def zow (L : List Nat) (kd : Nat → Nat) (σ : zS) : Prop := ∀ a ∈ L, ∀ a' ∈ L, ∀ j j' y, σ.2.2 a j = some y → σ.2.2 a' j' = some y → kd y ≠ 6 → zro (kd a) j → zro (kd a') j' → a = a' ∧ j = j'
/-- kinds of which one is made -/
def zs1 (k : Nat) : Bool := k == 0 || k == 2 || k == 4 || k == 6 || k == 8 || k == 10 || k == 29 || k == 40 || k == 52
def zKb (b : Bool) (ks : List Nat) (L : List Nat) (kd : Nat → Nat) (σ : zS) : Prop := zI 0 0 L kd σ ∧ (∀ a ∈ L, kd a ∈ ks) ∧ (∀ a ∈ L, zini b (kd a) (σ.1 a) (σ.2.1 a)) ∧ zcl L σ ∧ zow L kd σ ∧ ∀ a ∈ L, ∀ a' ∈ L, zs1 (kd a) = true → kd a = kd a' → a = a'
def zK (ks : List Nat) (L : List Nat) (kd : Nat → Nat) (σ : zS) : Prop := zKb (ks.contains 8) ks L kd σ
def zsole (k : Nat) : Bool := k == 3 || k == 5 || k == 7
theorem zEx0.l {L1 L2 : List Nat} {kd1 kd2 : Nat → Nat} {σ1 σ2 : zS} (hd : ∀ a ∈ L1, a ∉ L2) : zEx0 L1 kd1 σ1 (L1 ++ L2) (zja L2 kd1 kd2) (zjs L2 σ1 σ2) := fun a ha => ⟨List.mem_append_left _ ha, zja_l (hd a ha), zja_l (hd a ha), zja_l (hd a ha), zja_l (hd a ha)⟩
theorem zEx0.r {L1 L2 : List Nat} {kd1 kd2 : Nat → Nat} {σ1 σ2 : zS} : zEx0 L2 kd2 σ2 (L1 ++ L2) (zja L2 kd1 kd2) (zjs L2 σ1 σ2) := fun a ha => ⟨List.mem_append_right _ ha, zja_r ha, zja_r ha, zja_r ha, zja_r ha⟩
theorem zExt.l {L1 L2 : List Nat} {kd1 kd2 : Nat → Nat} {σ1 σ2 : zS} (hd : ∀ a ∈ L1, a ∉ L2) (hc : zcl L2 σ2) : zExt L1 kd1 σ1 (L1 ++ L2) (zja L2 kd1 kd2) (zjs L2 σ1 σ2) := ⟨zEx0.l hd, fun y hy hr a ha j e => by
  by_cases q : a ∈ L2
  · rw [show (zjs L2 σ1 σ2).2.2 a = σ2.2.2 a from zja_r q] at e
    exact hd y hy (hc a q j y e)
  · rw [show (zjs L2 σ1 σ2).2.2 a = σ1.2.2 a from zja_l q] at e
    rcases List.mem_append.mp ha with u | u
    · exact hr a u j e
    · exact q u⟩
theorem zExt.r {L1 L2 : List Nat} {kd1 kd2 : Nat → Nat} {σ1 σ2 : zS} (hd : ∀ a ∈ L1, a ∉ L2) (hc : zcl L1 σ1) : zExt L2 kd2 σ2 (L1 ++ L2) (zja L2 kd1 kd2) (zjs L2 σ1 σ2) := ⟨zEx0.r, fun y hy hr a ha j e => by
  by_cases q : a ∈ L2
  · rw [show (zjs L2 σ1 σ2).2.2 a = σ2.2.2 a from zja_r q] at e
    exact hr a q j e
  · rw [show (zjs L2 σ1 σ2).2.2 a = σ1.2.2 a from zja_l q] at e
    rcases List.mem_append.mp ha with u | u
    · exact hd y (hc a u j y e) hy
    · exact q u⟩
/-- two worlds side by side: what the words' flag must be -/
def zwk (b b1 b2 : Bool) (ks1 ks2 : List Nat) : Bool := (!b || ((b1 || !ks1.contains 40) && (b2 || !ks2.contains 40))) && (ks1.filter zs1).all (fun k => !(ks2.contains k))
theorem zini.up {b b1 : Bool} {ks : List Nat} {k : Nat} {f : Nat → Int32} {g : Nat → Int64} (h : zini b1 k f g) (hk : k ∈ ks) (hb : b = true → b1 = true ∨ ks.contains 40 = false) : zini b k f g := by
  obtain ⟨h1, h2, h3, h4, h5, h6, h7⟩ := h
  refine ⟨h1, h2, h3, h4, h5, fun e c => h6 e ?_, h7⟩
  rcases hb c with q | q
  · exact q
  · rw [e] at hk
    simp [hk] at q
theorem zKb.app {b b1 b2 : Bool} {ks1 ks2 L1 L2 : List Nat} {kd1 kd2 : Nat → Nat} {σ1 σ2 : zS} (h1 : zKb b1 ks1 L1 kd1 σ1) (h2 : zKb b2 ks2 L2 kd2 σ2) (hd : ∀ a ∈ L1, a ∉ L2) (hk : (ks1.filter zsole).all (fun k => !(ks2.contains k)) = true) (hw : zwk b b1 b2 ks1 ks2 = true) : zKb b (ks1 ++ ks2) (L1 ++ L2) (zja L2 kd1 kd2) (zjs L2 σ1 σ2) := by
  have el := zEx0.l (kd1 := kd1) (kd2 := kd2) (σ1 := σ1) (σ2 := σ2) hd
  have er := zEx0.r (L1 := L1) (L2 := L2) (kd1 := kd1) (kd2 := kd2) (σ1 := σ1) (σ2 := σ2)
  have hx : ∀ k, (k = 3 ∨ k = 5 ∨ k = 7) → k ∈ ks1 → k ∈ ks2 → False := fun k hs m1 m2 => by
    have q := List.all_eq_true.mp hk k (List.mem_filter.mpr ⟨m1, by rcases hs with rfl | rfl | rfl <;> rfl⟩)
    simp [m2] at q
  refine ⟨⟨fun a ha j => ?_, fun a ha j k hf => ?_, by omega, fun a ha a' ha' e hs => ?_, fun a ha => ?_⟩, fun a ha => ?_, fun a ha => ?_, fun a ha j y e => ?_, fun a ha a' ha' j j' y e e' n6 z z' => ?_, fun a ha a' ha' e e' => ?_⟩
  · rcases List.mem_append.mp ha with q | q
    · rw [(el a q).2.1, (el a q).2.2.1]; exact h1.1.1 a q j
    · rw [(er a q).2.1, (er a q).2.2.1]; exact h2.1.1 a q j
  · rcases List.mem_append.mp ha with q | q
    · rw [(el a q).2.1] at hf
      rw [(el a q).2.2.2.2]
      obtain ⟨y, hy, ht⟩ := h1.1.2.1 a q j k hf
      exact ⟨y, hy, el.t ht⟩
    · rw [(er a q).2.1] at hf
      rw [(er a q).2.2.2.2]
      obtain ⟨y, hy, ht⟩ := h2.1.2.1 a q j k hf
      exact ⟨y, hy, er.t ht⟩
  · rcases List.mem_append.mp ha with q | q <;> rcases List.mem_append.mp ha' with q' | q'
    · rw [(el a q).2.1] at e hs
      rw [(el a' q').2.1] at e
      exact h1.1.2.2.2.1 a q a' q' e hs
    · rw [(el a q).2.1] at e hs
      rw [(er a' q').2.1] at e
      exact absurd (hx _ hs (h1.2.1 a q) (by rw [e]; exact h2.2.1 a' q')) id
    · rw [(er a q).2.1] at e hs
      rw [(el a' q').2.1] at e
      exact absurd (hx _ hs (by rw [e]; exact h1.2.1 a' q') (h2.2.1 a q)) id
    · rw [(er a q).2.1] at e hs
      rw [(er a' q').2.1] at e
      exact h2.1.2.2.2.1 a q a' q' e hs
  · rcases List.mem_append.mp ha with q | q
    · rw [(el a q).2.1]; exact h1.1.2.2.2.2 a q
    · rw [(er a q).2.1]; exact h2.1.2.2.2.2 a q
  · rcases List.mem_append.mp ha with q | q
    · rw [(el a q).2.1]; exact List.mem_append_left _ (h1.2.1 a q)
    · rw [(er a q).2.1]; exact List.mem_append_right _ (h2.2.1 a q)
  · unfold zwk at hw
    simp only [Bool.and_eq_true, Bool.or_eq_true, Bool.not_eq_true'] at hw
    rcases List.mem_append.mp ha with q | q
    · rw [(el a q).2.1, (el a q).2.2.1, (el a q).2.2.2.1]
      exact (h1.2.2.1 a q).up (h1.2.1 a q) (fun c => by
        rcases hw.1 with w | w
        · rw [w] at c; cases c
        · exact w.1)
    · rw [(er a q).2.1, (er a q).2.2.1, (er a q).2.2.2.1]
      exact (h2.2.2.1 a q).up (h2.2.1 a q) (fun c => by
        rcases hw.1 with w | w
        · rw [w] at c; cases c
        · exact w.2)
  · rcases List.mem_append.mp ha with q | q
    · rw [(el a q).2.2.2.2] at e; exact List.mem_append_left _ (h1.2.2.2.1 a q j y e)
    · rw [(er a q).2.2.2.2] at e; exact List.mem_append_right _ (h2.2.2.2.1 a q j y e)
  · rcases List.mem_append.mp ha with q | q <;> rcases List.mem_append.mp ha' with q' | q'
    · rw [(el a q).2.2.2.2] at e
      rw [(el a' q').2.2.2.2] at e'
      rw [(el a q).2.1] at z
      rw [(el a' q').2.1] at z'
      rw [(el y (h1.2.2.2.1 a q j y e)).2.1] at n6
      exact h1.2.2.2.2.1 a q a' q' j j' y e e' n6 z z'
    · rw [(el a q).2.2.2.2] at e
      rw [(er a' q').2.2.2.2] at e'
      exact absurd (h2.2.2.2.1 a' q' j' y e') (hd y (h1.2.2.2.1 a q j y e))
    · rw [(er a q).2.2.2.2] at e
      rw [(el a' q').2.2.2.2] at e'
      exact absurd (h2.2.2.2.1 a q j y e) (hd y (h1.2.2.2.1 a' q' j' y e'))
    · rw [(er a q).2.2.2.2] at e
      rw [(er a' q').2.2.2.2] at e'
      rw [(er a q).2.1] at z
      rw [(er a' q').2.1] at z'
      rw [(er y (h2.2.2.2.1 a q j y e)).2.1] at n6
      exact h2.2.2.2.2.1 a q a' q' j j' y e e' n6 z z'
  · have n : ∀ k, zs1 k = true → k ∈ ks1 → k ∈ ks2 → False := fun k z1 w1 w2 => by
      unfold zwk at hw
      have hw2 := (Bool.and_eq_true_iff.mp hw).2
      have q := List.all_eq_true.mp hw2 k (List.mem_filter.mpr ⟨w1, z1⟩)
      simp [w2] at q
    rcases List.mem_append.mp ha with q | q <;> rcases List.mem_append.mp ha' with q' | q'
    · rw [(el a q).2.1] at e e'
      rw [(el a' q').2.1] at e'
      exact h1.2.2.2.2.2 a q a' q' e e'
    · rw [(el a q).2.1] at e e'
      rw [(er a' q').2.1] at e'
      exact absurd (n _ e (h1.2.1 a q) (by rw [e']; exact h2.2.1 a' q')) id
    · rw [(er a q).2.1] at e e'
      rw [(el a' q').2.1] at e'
      exact absurd (n _ e (by rw [e']; exact h1.2.1 a' q') (h2.2.1 a q)) id
    · rw [(er a q).2.1] at e e'
      rw [(er a' q').2.1] at e'
      exact h2.2.2.2.2.2 a q a' q' e e'
theorem zK.app {ks1 ks2 L1 L2 : List Nat} {kd1 kd2 : Nat → Nat} {σ1 σ2 : zS} (h1 : zK ks1 L1 kd1 σ1) (h2 : zK ks2 L2 kd2 σ2) (hd : ∀ a ∈ L1, a ∉ L2) (hk : (ks1.filter zsole).all (fun k => !(ks2.contains k)) = true) (hw : zwk ((ks1 ++ ks2).contains 8) (ks1.contains 8) (ks2.contains 8) ks1 ks2 = true) : zK (ks1 ++ ks2) (L1 ++ L2) (zja L2 kd1 kd2) (zjs L2 σ1 σ2) := zKb.app h1 h2 hd hk hw
theorem zKb.nil {b : Bool} : zKb b [] [] (fun _ => 0) (fun _ _ => 0, fun _ _ => 0, fun _ _ => none) := ⟨⟨fun _ h => absurd h List.not_mem_nil, fun _ h => absurd h List.not_mem_nil, by omega, fun _ h => absurd h List.not_mem_nil, fun _ h => absurd h List.not_mem_nil⟩, fun _ h => absurd h List.not_mem_nil, fun _ h => absurd h List.not_mem_nil, fun _ h => absurd h List.not_mem_nil, fun _ h => absurd h List.not_mem_nil, fun _ h => absurd h List.not_mem_nil⟩
theorem zK.nil : zK [] [] (fun _ => 0) (fun _ _ => 0, fun _ _ => 0, fun _ _ => none) := zKb.nil
/-- one cell: an array of zeros -/
theorem zKb.one {b : Bool} {k q : Nat} (hr : ∀ j, (zr 0 k j).1 ≤ 0 ∧ 0 ≤ (zr 0 k j).2) (hf : ∀ j, zf 0 k j = none) (h11 : k ≠ 11) (hk : 12 ≤ k) (hw : k = 40 → b = false) : zKb b [k] [q] (fun _ => k) (fun _ _ => 0, fun _ _ => 0, fun _ _ => none) := by
  refine ⟨⟨fun a ha j => ?_, fun a ha j k2 h => ?_, by omega, fun a ha a' ha' _ _ => ?_, fun a ha => h11⟩, fun a ha => List.mem_cons_self, fun a ha => ?_, fun a ha j y e => ?_, fun a ha a' ha' j j' y e => ?_, fun a ha a' ha' _ _ => ?_⟩
  · exact hr j
  · rw [hf j] at h; cases h
  · rw [List.mem_singleton.mp ha, List.mem_singleton.mp ha']
  · exact ⟨fun e => absurd (show k = 1 from e) (by omega), fun e => absurd (show k = 2 from e) (by omega), fun e => absurd (show k = 4 from e) (by omega), fun e => absurd (show k = 9 from e) (by omega), fun e => absurd (show k = 10 from e) (by omega), fun e c => (by rw [hw e] at c; cases c), fun _ => rfl⟩
  · cases e
  · cases e
  · rw [List.mem_singleton.mp ha, List.mem_singleton.mp ha']
theorem zb12 {k b : Nat} (hb : zb k = b) (h : 12 ≤ b) : 12 ≤ k := by
  rcases Nat.lt_or_ge k 12 with c | c
  · have q : ∀ i : Fin 12, zb i.val = i.val := by decide
    have := q ⟨k, c⟩
    have q2 : zb k = k := this
    omega
  · exact c
theorem zK.one {k q : Nat} (hr : ∀ j, (zr 0 k j).1 ≤ 0 ∧ 0 ≤ (zr 0 k j).2) (hf : ∀ j, zf 0 k j = none) (h11 : k ≠ 11) (hk : 12 ≤ k) : zK [k] [q] (fun _ => k) (fun _ _ => 0, fun _ _ => 0, fun _ _ => none) := zKb.one hr hf h11 hk (fun e => by subst e; rfl)
/-- a made object, all its fields set, joins the world that it stands on -/
theorem zKb.obj {b b2 : Bool} {ks L : List Nat} {kd : Nat → Nat} {σ τ : zS} {a0 k : Nat} (h : zKb b ks L kd σ) (hd : ∀ a ∈ [a0], a ∉ L) (hr : ∀ j, (zr 0 k j).1 ≤ (τ.1 a0 j).toInt ∧ (τ.1 a0 j).toInt ≤ (zr 0 k j).2) (hf : ∀ j k2, zf 0 k j = some k2 → ∃ y, τ.2.2 a0 j = some y ∧ zT L kd y k2) (hk : zsole k = true → ks.contains k = false) (h11 : k ≠ 11) (hb2 : b2 = true → b = true) (h40 : k ≠ 40) (h1s : zs1 k = true → ks.contains k = false) (hin : zini b2 k (τ.1 a0) (τ.2.1 a0)) (hq : ∀ j y, τ.2.2 a0 j = some y → y ∈ L ∧ (kd y ≠ 6 → zrt L σ y)) (hi : ∀ j j' y, τ.2.2 a0 j = some y → τ.2.2 a0 j' = some y → kd y ≠ 6 → zro k j → zro k j' → j = j') : zKb b2 (k :: ks) ([a0] ++ L) (zja L (fun _ => k) kd) (zjs L τ σ) := by
  have el := zEx0.l (L1 := [a0]) (L2 := L) (kd1 := fun _ => k) (kd2 := kd) (σ1 := τ) (σ2 := σ) hd
  have er := zEx0.r (L1 := [a0]) (L2 := L) (kd1 := fun _ => k) (kd2 := kd) (σ1 := τ) (σ2 := σ)
  have m0 : ∀ a, a ∈ [a0] → a = a0 := fun a h => List.mem_singleton.mp h
  have hx : ∀ a ∈ L, kd a = k → (k = 3 ∨ k = 5 ∨ k = 7) → False := fun a ha e hs => by
    have q := hk (by rcases hs with rfl | rfl | rfl <;> rfl)
    have q2 := h.2.1 a ha
    rw [e] at q2
    simp [q2] at q
  refine ⟨⟨fun a ha j => ?_, fun a ha j k2 hf2 => ?_, by omega, fun a ha a' ha' e hs => ?_, fun a ha => ?_⟩, fun a ha => ?_, fun a ha => ?_, fun a ha j y e => ?_, fun a ha a' ha' j j' y e e' n6 z z' => ?_, fun a ha a' ha' e e' => ?_⟩
  · rcases List.mem_append.mp ha with q | q
    · rw [(el a q).2.1, (el a q).2.2.1, m0 a q]; exact hr j
    · rw [(er a q).2.1, (er a q).2.2.1]; exact h.1.1 a q j
  · rcases List.mem_append.mp ha with q | q
    · rw [(el a q).2.1] at hf2
      rw [(el a q).2.2.2.2, m0 a q]
      obtain ⟨y, hy, ht⟩ := hf j k2 hf2
      exact ⟨y, hy, er.t ht⟩
    · rw [(er a q).2.1] at hf2
      rw [(er a q).2.2.2.2]
      obtain ⟨y, hy, ht⟩ := h.1.2.1 a q j k2 hf2
      exact ⟨y, hy, er.t ht⟩
  · rcases List.mem_append.mp ha with q | q <;> rcases List.mem_append.mp ha' with q' | q'
    · rw [m0 a q, m0 a' q']
    · rw [(el a q).2.1] at e hs
      rw [(er a' q').2.1] at e
      exact absurd (hx a' q' e.symm hs) id
    · rw [(er a q).2.1] at e hs
      rw [(el a' q').2.1] at e
      have e2 : kd a = k := e
      exact absurd (hx a q e2 (by rw [← e2]; exact hs)) id
    · rw [(er a q).2.1] at e hs
      rw [(er a' q').2.1] at e
      exact h.1.2.2.2.1 a q a' q' e hs
  · rcases List.mem_append.mp ha with q | q
    · rw [(el a q).2.1]; exact h11
    · rw [(er a q).2.1]; exact h.1.2.2.2.2 a q
  · rcases List.mem_append.mp ha with q | q
    · rw [(el a q).2.1]; exact List.mem_cons_self
    · rw [(er a q).2.1]; exact List.mem_cons_of_mem _ (h.2.1 a q)
  · rcases List.mem_append.mp ha with q | q
    · rw [(el a q).2.1, (el a q).2.2.1, (el a q).2.2.2.1, m0 a q]; exact hin
    · rw [(er a q).2.1, (er a q).2.2.1, (er a q).2.2.2.1]
      obtain ⟨i1, i2, i3, i4, i5, i6⟩ := h.2.2.1 a q
      exact ⟨i1, i2, i3, i4, i5, ⟨fun e c => i6.1 e (hb2 c), i6.2⟩⟩
  · rcases List.mem_append.mp ha with q | q
    · rw [(el a q).2.2.2.2, m0 a q] at e; exact List.mem_append_right _ (hq j y e).1
    · rw [(er a q).2.2.2.2] at e; exact List.mem_append_right _ (h.2.2.2.1 a q j y e)
  · rcases List.mem_append.mp ha with q | q <;> rcases List.mem_append.mp ha' with q' | q'
    · rw [(el a q).2.2.2.2, m0 a q] at e
      rw [(el a' q').2.2.2.2, m0 a' q'] at e'
      rw [(el a q).2.1] at z
      rw [(el a' q').2.1] at z'
      rw [(er y (hq j y e).1).2.1] at n6
      exact ⟨by rw [m0 a q, m0 a' q'], hi j j' y e e' n6 z z'⟩
    · rw [(el a q).2.2.2.2, m0 a q] at e
      rw [(er a' q').2.2.2.2] at e'
      rw [(er y (hq j y e).1).2.1] at n6
      exact absurd e' ((hq j y e).2 n6 a' q' j')
    · rw [(er a q).2.2.2.2] at e
      rw [(el a' q').2.2.2.2, m0 a' q'] at e'
      rw [(er y (hq j' y e').1).2.1] at n6
      exact absurd e ((hq j' y e').2 n6 a q j)
    · rw [(er a q).2.2.2.2] at e
      rw [(er a' q').2.2.2.2] at e'
      rw [(er a q).2.1] at z
      rw [(er a' q').2.1] at z'
      rw [(er y (h.2.2.2.1 a q j y e)).2.1] at n6
      exact h.2.2.2.2.1 a q a' q' j j' y e e' n6 z z'
  · have hx1 : ∀ c ∈ L, kd c = k → zs1 k = true → False := fun c hc e1 z1 => by
      have q := h1s z1
      have q2 := h.2.1 c hc
      rw [e1] at q2
      simp [q2] at q
    rcases List.mem_append.mp ha with q | q <;> rcases List.mem_append.mp ha' with q' | q'
    · rw [m0 a q, m0 a' q']
    · rw [(el a q).2.1] at e e'
      rw [(er a' q').2.1] at e'
      exact absurd (hx1 a' q' e'.symm e) id
    · rw [(er a q).2.1] at e e'
      rw [(el a' q').2.1] at e'
      have e2 : kd a = k := e'
      exact absurd (hx1 a q e2 (by rw [← e2]; exact e)) id
    · rw [(er a q).2.1] at e e'
      rw [(er a' q').2.1] at e'
      exact h.2.2.2.2.2 a q a' q' e e'
theorem zdis {A : Nat → Prop} {rs : va_W} {dA : Nat → ClassId} {L1 L2 : List Nat} {kd1 kd2 : Nat → Nat} {σ1 σ2 : zS} (h : va_D A ((rs ++ zW dA L1 kd1 σ1) ++ zW dA L2 kd2 σ2)) : ∀ a ∈ L1, a ∉ L2 := by
  intro a h1 h2
  obtain ⟨k1, hk1⟩ := zR_at (dA := dA) (kd := kd1) rs σ1 h1
  obtain ⟨k2, hk2⟩ := zW_at (dA := dA) (kd := kd2) σ2 h2
  have hlt : k1 < (rs ++ zW dA L1 kd1 σ1).length := (List.getElem?_eq_some_iff.mp hk1).1
  have e1 : ((rs ++ zW dA L1 kd1 σ1) ++ zW dA L2 kd2 σ2)[k1]? = some (a, zF dA kd1 σ1 a) := by rw [List.getElem?_append_left hlt]; exact hk1
  have e2 : ((rs ++ zW dA L1 kd1 σ1) ++ zW dA L2 kd2 σ2)[(rs ++ zW dA L1 kd1 σ1).length + k2]? = some (a, zF dA kd2 σ2 a) := by rw [List.getElem?_append_right (by omega), Nat.add_sub_cancel_left]; exact hk2
  have := h.1 _ _ _ _ e1 e2 rfl
  omega
abbrev zS0 : zS := (fun _ _ => 0, fun _ _ => 0, fun _ _ => none)
theorem zRA_eq {d : zD2} {s : State} {cA : ClassId} {ty : FieldType} {i : Nat} {c1 : ClassId} (hK : va_K (d.1, d.2.1) vwCl (zty d.2.2) s) (hK2 : va_K (d.1, d.2.1) vwCl (zty d.2.2 ++ [(cA, ty)]) s) (hi : (zty d.2.2)[i]? = some (c1, ty)) : cA = c1 := by
  have h1 := (hK.2 i _ hi).2
  have h2 := (hK2.2 5 (cA, ty) rfl).2
  cases ty with
  | object C =>
    obtain ⟨_, _, -, -, -, e1⟩ := h1
    obtain ⟨_, _, -, -, -, e2⟩ := h2
    exact Option.some.inj (e2.symm.trans e1)
  | _ => exact Option.some.inj (Eq.trans (Eq.symm h2) h1)
section ZNEW
variable {rs : va_W} {cs sl : Nat} {d : zD2} {L ks : List Nat} {kd : Nat → Nat} {A : Nat → Prop} {nL : Nat} {p : Program} {l : Launch} {e : Env} {R : Room} {s : State} {m : MethodId} {args : Array Value} {below : List Frame} {meth : Method} {c : Code} {cc : ByteArray} {own : String} {Q : State → Prop} {σ : zS} {pc : Nat} {lv : List (Nat × Value)} {st : List Value}
/-- what came beside the world joins it -/
theorem zc_join {L2 ks2 : List Nat} {kd2 : Nat → Nat} {σ2 : zS} {H : Heap} (hk : zK ks L kd σ) (hk2 : zK ks2 L2 kd2 σ2) (hs : (ks.filter zsole).all (fun k => !(ks2.contains k)) = true) (hw : zwk ((ks ++ ks2).contains 8) (ks.contains 8) (ks2.contains 8) ks ks2 = true) (hP : va_P (d.1, d.2.1) vwCl ((rs ++ zW d.2.2 L kd σ) ++ zW d.2.2 L2 kd2 σ2) H) (hD : va_D A ((rs ++ zW d.2.2 L kd σ) ++ zW d.2.2 L2 kd2 σ2)) : ∃ (L3 : List Nat) (kd3 : Nat → Nat) (σ3 : zS), zExt L kd σ L3 kd3 σ3 ∧ zExt L2 kd2 σ2 L3 kd3 σ3 ∧ zK (ks ++ ks2) L3 kd3 σ3 ∧ (∀ y ∈ L2, y ∉ L) ∧ va_P (d.1, d.2.1) vwCl (rs ++ zW d.2.2 L3 kd3 σ3) H ∧ va_D A (rs ++ zW d.2.2 L3 kd3 σ3) := by
  have hd := zdis hD
  refine ⟨L ++ L2, zja L2 kd kd2, zjs L2 σ σ2, zExt.l hd hk2.2.2.2.1, zExt.r hd hk.2.2.2.1, hk.app hk2 hd hs hw, fun y hy h => hd y h hy, ?_, ?_⟩
  · rw [zW_app hd, ← List.append_assoc]; exact hP
  · rw [zW_app hd, ← List.append_assoc]; exact hD
end ZNEW
