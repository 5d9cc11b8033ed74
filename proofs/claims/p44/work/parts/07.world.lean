/-! THE WORLD as a typed heap: addresses L, to each a kind kd (a class, or an array by the field that holds it), its contents three functions of the address and the place: whole numbers, longs, references. A method's contract speaks of the whole world. -/
abbrev zS : Type := (Nat → Nat → Int32) × (Nat → Nat → Int64) × (Nat → Nat → Option Nat)
def zu {α : Type} (f : Nat → Nat → α) (a j : Nat) (v : α) : Nat → Nat → α := fun b k => if b = a then (if k = j then v else f b k) else f b k
theorem zu_s {α : Type} (f : Nat → Nat → α) (a j : Nat) (v : α) : zu f a j v a j = v := by simp [zu]
theorem zu_a {α : Type} (f : Nat → Nat → α) (a j : Nat) (v : α) : zu f a j v a = fun k => if k = j then v else f a k := by funext k; simp [zu]
theorem zu_n {α : Type} (f : Nat → Nat → α) {a b : Nat} (j : Nat) (v : α) (h : ¬ b = a) : zu f a j v b = f b := by funext k; simp [zu, h]
def zfs (i : Nat → Int32) (jl : Nat → Int64) (q : Nat → Option Nat) : List Nat → Nat → List Value
  | [], _ => []
  | t :: ts, n => (if t = 0 then Value.int (i n) else if t = 1 then Value.long (jl n) else va_rf (q n)) :: zfs i jl q ts (n + 1)
theorem zfs_len (i : Nat → Int32) (jl : Nat → Int64) (q : Nat → Option Nat) : ∀ (ts : List Nat) (n : Nat), (zfs i jl q ts n).length = ts.length
  | [], _ => rfl
  | _ :: ts, n => by simp [zfs, zfs_len i jl q ts (n + 1)]
theorem zfs_at (i : Nat → Int32) (jl : Nat → Int64) (q : Nat → Option Nat) : ∀ (ts : List Nat) (n k t : Nat), ts[k]? = some t → (zfs i jl q ts n)[k]? = some (if t = 0 then Value.int (i (n + k)) else if t = 1 then Value.long (jl (n + k)) else va_rf (q (n + k)))
  | [], _, _, _, h => by simp at h
  | t' :: ts, n, 0, t, h => by
    have h2 : t' = t := by simpa using h
    subst h2
    rfl
  | t' :: ts, n, k + 1, t, h => by
    have h2 : ts[k]? = some t := by simpa using h
    have := zfs_at i jl q ts (n + 1) k t h2
    rw [show n + (k + 1) = n + 1 + k by omega]
    exact this
theorem zfs_ext {i i' : Nat → Int32} {jl jl' : Nat → Int64} {q q' : Nat → Option Nat} : ∀ (ts : List Nat) (n : Nat), (∀ k, n ≤ k → (ts[k - n]? = some 0 → i k = i' k) ∧ (ts[k - n]? = some 1 → jl k = jl' k) ∧ (∀ t, ts[k - n]? = some t → t ≠ 0 → t ≠ 1 → q k = q' k)) → zfs i jl q ts n = zfs i' jl' q' ts n
  | [], _, _ => rfl
  | t :: ts, n, h => by
    have h0 := h n (Nat.le_refl n)
    rw [Nat.sub_self] at h0
    have e : (if t = 0 then Value.int (i n) else if t = 1 then Value.long (jl n) else va_rf (q n)) = (if t = 0 then Value.int (i' n) else if t = 1 then Value.long (jl' n) else va_rf (q' n)) := by
      by_cases c0 : t = 0
      · rw [if_pos c0, if_pos c0, h0.1 (by rw [c0]; rfl)]
      · rw [if_neg c0, if_neg c0]
        by_cases c1 : t = 1
        · rw [if_pos c1, if_pos c1, h0.2.1 (by rw [c1]; rfl)]
        · rw [if_neg c1, if_neg c1, h0.2.2 t rfl c0 c1]
    show _ :: _ = _ :: _
    rw [e, zfs_ext ts (n + 1) (fun k hk => by
      have h1 := h k (by omega)
      rw [show k - n = (k - (n + 1)) + 1 by omega] at h1
      simpa using h1)]
theorem zfs_set0 (i : Nat → Int32) (jl : Nat → Int64) (q : Nat → Option Nat) (v : Int32) : ∀ (ts : List Nat) (n k : Nat), ts[k]? = some 0 → (zfs i jl q ts n).set k (.int v) = zfs (fun x => if x = n + k then v else i x) jl q ts n
  | [], _, _, h => by simp at h
  | t :: ts, n, 0, h => by
    have h2 : t = 0 := by simpa using h
    subst h2
    show _ :: _ = _ :: _
    rw [zfs_ext (i := i) (i' := fun x => if x = n + 0 then v else i x) (jl := jl) (jl' := jl) (q := q) (q' := q) ts (n + 1) (fun k hk => ⟨fun _ => by rw [if_neg (by omega)], fun _ => rfl, fun _ _ _ _ => rfl⟩)]
    simp
  | t :: ts, n, k + 1, h => by
    have h2 : ts[k]? = some 0 := by simpa using h
    have e := zfs_set0 i jl q v ts (n + 1) k h2
    show _ :: (zfs i jl q ts (n + 1)).set k (.int v) = _ :: _
    rw [e, show n + (k + 1) = n + 1 + k by omega]
    simp [show ¬ (n = n + 1 + k) by omega]
theorem zfs_set1 (i : Nat → Int32) (jl : Nat → Int64) (q : Nat → Option Nat) (v : Int64) : ∀ (ts : List Nat) (n k : Nat), ts[k]? = some 1 → (zfs i jl q ts n).set k (.long v) = zfs i (fun x => if x = n + k then v else jl x) q ts n
  | [], _, _, h => by simp at h
  | t :: ts, n, 0, h => by
    have h2 : t = 1 := by simpa using h
    subst h2
    show _ :: _ = _ :: _
    rw [zfs_ext (i := i) (i' := i) (jl := jl) (jl' := fun x => if x = n + 0 then v else jl x) (q := q) (q' := q) ts (n + 1) (fun k hk => ⟨fun _ => rfl, fun _ => by rw [if_neg (by omega)], fun _ _ _ _ => rfl⟩)]
    simp
  | t :: ts, n, k + 1, h => by
    have h2 : ts[k]? = some 1 := by simpa using h
    have e := zfs_set1 i jl q v ts (n + 1) k h2
    show _ :: (zfs i jl q ts (n + 1)).set k (.long v) = _ :: _
    rw [e, show n + (k + 1) = n + 1 + k by omega]
    simp [show ¬ (n = n + 1 + k) by omega]
theorem zfs_set2 (i : Nat → Int32) (jl : Nat → Int64) (q : Nat → Option Nat) (v : Option Nat) : ∀ (ts : List Nat) (n k : Nat), ts[k]? = some 2 → (zfs i jl q ts n).set k (va_rf v) = zfs i jl (fun x => if x = n + k then v else q x) ts n
  | [], _, _, h => by simp at h
  | t :: ts, n, 0, h => by
    have h2 : t = 2 := by simpa using h
    subst h2
    show _ :: _ = _ :: _
    rw [zfs_ext (i := i) (i' := i) (jl := jl) (jl' := jl) (q := q) (q' := fun x => if x = n + 0 then v else q x) ts (n + 1) (fun k hk => ⟨fun _ => rfl, fun _ => rfl, fun _ _ _ _ => by rw [if_neg (by omega)]⟩)]
    simp
  | t :: ts, n, k + 1, h => by
    have h2 : ts[k]? = some 2 := by simpa using h
    have e := zfs_set2 i jl q v ts (n + 1) k h2
    show _ :: (zfs i jl q ts (n + 1)).set k (va_rf v) = _ :: _
    rw [e, show n + (k + 1) = n + 1 + k by omega]
    simp [show ¬ (n = n + 1 + k) by omega]
/-- a cell by its kind -/
def zE (dA : Nat → ClassId) (kd : Nat) (i : Nat → Int32) (jl : Nat → Int64) (q : Nat → Option Nat) : va_E :=
  if zb kd = 14 then .inl (dA 14, zn kd, .inr (.inl jl)) else if zb kd = 16 then .inl (dA 16, zn kd, .inr (.inr (.inr (.inr q)))) else if zb kd < 12 then .inr (zb kd, zfs i jl q (ztys (zb kd)) 0) else .inl (dA (zb kd), zn kd, .inl i)
theorem zE_o {dA : Nat → ClassId} {kd c : Nat} {i : Nat → Int32} {jl : Nat → Int64} {q : Nat → Option Nat} (h : zb kd = c) (hc : c < 12) : zE dA kd i jl q = .inr (c, zfs i jl q (ztys c) 0) := by
  subst h
  rw [zE, if_neg (by omega), if_neg (by omega), if_pos hc]
theorem zE_i {dA : Nat → ClassId} {kd c : Nat} {i : Nat → Int32} {jl : Nat → Int64} {q : Nat → Option Nat} (h : zb kd = c) (hc : c = 12 ∨ c = 13 ∨ c = 15) : zE dA kd i jl q = .inl (dA c, zn kd, .inl i) := by
  subst h
  rw [zE, if_neg (by omega), if_neg (by omega), if_neg (by omega)]
theorem zE_l {dA : Nat → ClassId} {kd : Nat} {i : Nat → Int32} {jl : Nat → Int64} {q : Nat → Option Nat} (h : zb kd = 14) : zE dA kd i jl q = .inl (dA 14, zn kd, .inr (.inl jl)) := by
  rw [zE, if_pos h]
theorem zE_q {dA : Nat → ClassId} {kd : Nat} {i : Nat → Int32} {jl : Nat → Int64} {q : Nat → Option Nat} (h : zb kd = 16) : zE dA kd i jl q = .inl (dA 16, zn kd, .inr (.inr (.inr (.inr q)))) := by
  rw [zE, if_neg (by omega), if_pos h]
def zF (dA : Nat → ClassId) (kd : Nat → Nat) (σ : zS) : Nat → va_E := fun a => zE dA (kd a) (σ.1 a) (σ.2.1 a) (σ.2.2 a)
def zW (dA : Nat → ClassId) (L : List Nat) (kd : Nat → Nat) (σ : zS) : va_W := va_pl L (zF dA kd σ)
theorem zW_at {dA : Nat → ClassId} {L : List Nat} {kd : Nat → Nat} (σ : zS) {a : Nat} (h : a ∈ L) : ∃ k : Nat, (zW dA L kd σ)[k]? = some (a, zF dA kd σ a) := by
  obtain ⟨k, hk⟩ := va_pl_get (X := []) (f := zF dA kd σ) h
  exact ⟨k, hk⟩
theorem zW_set {dA : Nat → ClassId} {L : List Nat} {kd : Nat → Nat} {σ σ' : zS} {A : Nat → Prop} {a k : Nat} {e : va_E} (hD : va_D A (zW dA L kd σ)) (h : a ∈ L) (hk : (zW dA L kd σ)[k]? = some (a, zF dA kd σ a)) (h1 : zF dA kd σ' a = e) (h2 : ∀ b, ¬ b = a → zF dA kd σ' b = zF dA kd σ b) : (zW dA L kd σ).set k (a, e) = zW dA L kd σ' := by
  have q := va_pl_set (X := []) (e := e) (f := zF dA kd σ) hD h hk
  refine Eq.trans q ?_
  refine va_pl_congr (fun b => ?_)
  by_cases hb : b = a
  · subst hb
    rw [h1]
    simp [va_up]
  · rw [h2 b hb]
    simp [va_up, hb]
/-- the addresses are apart: the same of every content -/
theorem zD_any {dA : Nat → ClassId} {L : List Nat} {kd : Nat → Nat} {σ σ' : zS} {A : Nat → Prop} (h : va_D A (zW dA L kd σ)) : va_D A (zW dA L kd σ') := by
  have key : ∀ (τ : zS) (k : Nat), (zW dA L kd τ)[k]? = (L[k]?).map (fun a => (a, zF dA kd τ a)) := fun τ k => by simp [zW, va_pl]
  refine ⟨fun i j p q hi hj hpq => ?_, fun k q hk => ?_⟩
  · rw [key] at hi hj
    obtain ⟨x, hx, rfl⟩ := Option.map_eq_some_iff.mp hi
    obtain ⟨y, hy, rfl⟩ := Option.map_eq_some_iff.mp hj
    exact h.1 i j (x, zF dA kd σ x) (y, zF dA kd σ y) (by rw [key, hx]; rfl) (by rw [key, hy]; rfl) hpq
  · rw [key] at hk
    obtain ⟨x, hx, rfl⟩ := Option.map_eq_some_iff.mp hk
    exact h.2 k (x, zF dA kd σ x) (by rw [key, hx]; rfl)
/-- which cells a method may change: the same of every content -/
theorem zA_any {dA : Nat → ClassId} {L : List Nat} {kd : Nat → Nat} {σ σ' : zS} {sz q : Nat} (h : va_A (zW dA L kd σ) sz q) : va_A (zW dA L kd σ') sz q := by
  have key : ∀ (τ : zS) (k : Nat), (zW dA L kd τ)[k]? = (L[k]?).map (fun a => (a, zF dA kd τ a)) := fun τ k => by simp [zW, va_pl]
  rcases h with ⟨k, e, hk⟩ | h
  · rw [key] at hk
    obtain ⟨x, hx, he⟩ := Option.map_eq_some_iff.mp hk
    cases he
    exact Or.inl ⟨k, _, by rw [key, hx]; rfl⟩
  · exact Or.inr h
theorem zR_at {dA : Nat → ClassId} {L : List Nat} {kd : Nat → Nat} (rs : va_W) (σ : zS) {a : Nat} (h : a ∈ L) : ∃ k : Nat, (rs ++ zW dA L kd σ)[k]? = some (a, zF dA kd σ a) := va_pl_get (X := rs) (f := zF dA kd σ) h
theorem zR_set {rs : va_W} {dA : Nat → ClassId} {L : List Nat} {kd : Nat → Nat} {σ σ' : zS} {A : Nat → Prop} {a k : Nat} {e : va_E} (hD : va_D A (rs ++ zW dA L kd σ)) (h : a ∈ L) (hk : (rs ++ zW dA L kd σ)[k]? = some (a, zF dA kd σ a)) (h1 : zF dA kd σ' a = e) (h2 : ∀ b, ¬ b = a → zF dA kd σ' b = zF dA kd σ b) : (rs ++ zW dA L kd σ).set k (a, e) = rs ++ zW dA L kd σ' := by
  have q := va_pl_set (X := rs) (e := e) (f := zF dA kd σ) hD h hk
  refine Eq.trans q ?_
  refine congrArg (fun z => rs ++ z) (va_pl_congr (fun b => ?_))
  by_cases hb : b = a
  · subst hb
    rw [h1]
    simp [va_up]
  · rw [h2 b hb]
    simp [va_up, hb]
theorem zP_suf {D : va_G} {cl : List vw_C} {rs ws : va_W} {H : Heap} (h : va_P D cl (rs ++ ws) H) : va_P D cl ws H := fun k q hk => h (rs.length + k) q (by rw [List.getElem?_append_right (by omega), Nat.add_sub_cancel_left]; exact hk)
theorem zD_suf {A : Nat → Prop} {rs ws : va_W} (h : va_D A (rs ++ ws)) : va_D A ws := by
  have key : ∀ (k : Nat) (q : Nat × va_E), ws[k]? = some q → (rs ++ ws)[rs.length + k]? = some q := fun k q hk => by rw [List.getElem?_append_right (by omega), Nat.add_sub_cancel_left]; exact hk
  exact ⟨fun i j p q hi hj e => by have := h.1 _ _ p q (key i p hi) (key j q hj) e; omega, fun k q hk => h.2 _ q (key k q hk)⟩
theorem zR_any {rs : va_W} {dA : Nat → ClassId} {L : List Nat} {kd : Nat → Nat} {σ σ' : zS} {A : Nat → Prop} (h : va_D A (rs ++ zW dA L kd σ)) : va_D A (rs ++ zW dA L kd σ') := by
  have key : ∀ (k : Nat) (p : Nat × va_E), (rs ++ zW dA L kd σ')[k]? = some p → ∃ p', (rs ++ zW dA L kd σ)[k]? = some p' ∧ p'.1 = p.1 := fun k p hk => by
    rcases Nat.lt_or_ge k rs.length with hl | hl
    · rw [List.getElem?_append_left hl] at hk ⊢
      exact ⟨p, hk, rfl⟩
    · rw [List.getElem?_append_right hl] at hk ⊢
      have e : ∀ (τ : zS), (zW dA L kd τ)[k - rs.length]? = (L[k - rs.length]?).map (fun a => (a, zF dA kd τ a)) := fun τ => by simp [zW, va_pl]
      rw [e] at hk ⊢
      obtain ⟨x, hx, rfl⟩ := Option.map_eq_some_iff.mp hk
      exact ⟨(x, zF dA kd σ x), by rw [hx]; rfl, rfl⟩
  refine ⟨fun i j p q hi hj e => ?_, fun k q hk => ?_⟩
  · obtain ⟨p', h1, h2⟩ := key i p hi
    obtain ⟨q', h3, h4⟩ := key j q hj
    exact h.1 i j p' q' h1 h3 (by rw [h2, h4, e])
  · obtain ⟨q', h3, h4⟩ := key k q hk
    rw [← h4]
    exact h.2 k q' h3
/-- what a callee with the typed world gives back stands beside the raw cells -/
theorem zR_back {D : va_G} {cl : List vw_C} {rs : va_W} {dA : Nat → ClassId} {L L2 : List Nat} {kd kd2 : Nat → Nat} {σ σ2 : zS} {A : Nat → Prop} {H H1 : Heap} (hP : va_P D cl (rs ++ zW dA L kd σ) H) (hD : va_D A (rs ++ zW dA L kd σ)) (hk : ∀ q : Nat, q < H.size → ¬ va_A (zW dA L kd σ) H.size q → H1[q]? = H[q]?) (hP1 : va_P D cl (zW dA L2 kd2 σ2) H1) : va_P D cl (rs ++ zW dA L2 kd2 σ2) H1 := by
  intro k p hp
  rcases Nat.lt_or_ge k rs.length with hl | hl
  · rw [List.getElem?_append_left hl] at hp
    have hp2 : (rs ++ zW dA L kd σ)[k]? = some p := by rw [List.getElem?_append_left hl]; exact hp
    have h0 := hP k p hp2
    have hlt := va_at.lt h0
    refine va_at.kept h0 (hk p.1 hlt ?_)
    rintro (⟨j, e, hj⟩ | hj)
    · have hj2 : (rs ++ zW dA L kd σ)[rs.length + j]? = some (p.1, e) := by rw [List.getElem?_append_right (by omega), Nat.add_sub_cancel_left]; exact hj
      have := hD.1 k _ p _ hp2 hj2 rfl
      omega
    · omega
  · rw [List.getElem?_append_right hl] at hp
    exact hP1 _ p hp
theorem zA_sub {A0 : Nat → Prop} {ws : va_W} {H0 H : Heap} {locs : List Loc} (hD : va_D A0 ws) (hS : va_S A0 H0 H locs) (hA : ∀ q, H0.size ≤ q → A0 q) : ∀ q, va_A ws H.size q → A0 q := by
  intro q h
  rcases h with ⟨k, e, hk⟩ | h
  · exact hD.2 k (q, e) hk
  · exact hA q (Nat.le_trans hS.1 h)
/-- the array classes, by the kinds' numbers -/
def zty (dA : Nat → ClassId) : List (ClassId × FieldType) := [(dA 12, .byte), (dA 13, .int), (dA 14, .long), (dA 15, .boolean), (dA 16, .object RX1)]
/-- links of nest mates -/
def zisN : Cond → Bool
  | .fieldLinkNest _ _ _ _ _ _ => true
  | .methodLinkNest _ _ _ _ => true
  | _ => false
def zN (U : State) : Prop := ∀ w ∈ tables_1, zisN w = true → va_Nw w U
theorem zN.warm {s U : State} (hW : s.WarmedH U.vm) (h : zN s) : zN U := by
  intro w hw hn
  have h1 := h w hw hn
  cases w <;> first | (exact va_Nw.warmF hW h1) | (exact va_Nw.warmM hW h1) | (simp [zisN] at hn)
theorem zN.same {u U : State} (hv : u.vm = U.vm) (h : zN u) : zN U := by
  intro w hw hn
  have h1 := h w hw hn
  cases w <;> first | (exact va_Nw.same rfl hv h1) | (simp [zisN] at hn)
/-- what stands outside every world: the texts and the static row that the class reads -/
def zstr : Nat → String := fun i => if i = 0 then "mouth place rains dries one two three storm prize seed if then else rain far tale month flow length won which above " else ";=+-*/<()"
def zstrI : Nat → Nat := fun i => if i = 0 then 27 else 66
def zlen : List Nat := [116, 9]
def zbyt : List (List Int32) := [[109, 111, 117, 116, 104, 32, 112, 108, 97, 99, 101, 32, 114, 97, 105, 110, 115, 32, 100, 114, 105, 101, 115, 32, 111, 110, 101, 32, 116, 119, 111, 32, 116, 104, 114, 101, 101, 32, 115, 116, 111, 114, 109, 32, 112, 114, 105, 122, 101, 32, 115, 101, 101, 100, 32, 105, 102, 32, 116, 104, 101, 110, 32, 101, 108, 115, 101, 32, 114, 97, 105, 110, 32, 102, 97, 114, 32, 116, 97, 108, 101, 32, 109, 111, 110, 116, 104, 32, 102, 108, 111, 119, 32, 108, 101, 110, 103, 116, 104, 32, 119, 111, 110, 32, 119, 104, 105, 99, 104, 32, 97, 98, 111, 118, 101, 32], [59, 61, 43, 45, 42, 47, 60, 40, 41]]
def zunt : Nat → Value := fun j => .int ([0, -1, 1, 4, 2].getD j 0)
def zEX (dA : Nat → ClassId) (A : Nat → Prop) (U : State) (H : Heap) : Prop :=
  va_Z "SourceDispute$Told" "UNTOLD_LAWS" "[I" (.ref (dA 104)) A U H ∧ va_T .int (dA 104) 5 zunt A U H ∧ vk_S 2 zlen zbyt (fun i => dA (100 + i)) (fun i => dA (102 + i)) A U H ∧ (∀ i, i < 2 → vk_R RX8 (zstrI i) (zstr i) (dA (100 + i)) U) ∧ va_Z "java/lang/String" "COMPACT_STRINGS" "Z" (.int 1) A U H ∧ va_Zq "jdk/internal/util/Preconditions" "SIOOBE_FORMATTER" "Ljava/util/function/BiFunction;" A U H ∧ va_AO "SourceDispute$Course" U
theorem zEX.warm {dA : Nat → ClassId} {A : Nat → Prop} {s U : State} {H : Heap} (hW : s.WarmedH U.vm) (h : zEX dA A s H) : zEX dA A U H := by
  obtain ⟨h1, h2, h3, h4, h5, h6, h7⟩ := h
  exact ⟨h1.moved hW.alike, h2.moved hW.alike, h3.moved hW.alike, fun i hi => (h4 i hi).warm hW, h5.moved hW.alike, h6.moved hW.alike, h7.moved hW.alike⟩
theorem zEX.same {dA : Nat → ClassId} {A : Nat → Prop} {u U : State} {H : Heap} (hv : U.vm = u.vm) (h : zEX dA A u H) : zEX dA A U H := by
  obtain ⟨h1, h2, h3, h4, h5, h6, h7⟩ := h
  have ha : u.vm.Alike U.vm := by rw [hv]; exact Vm.Alike.refl _
  exact ⟨h1.moved ha, h2.moved ha, h3.moved ha, fun i hi => (h4 i hi).same hv, h5.moved ha, h6.moved ha, h7.moved ha⟩
theorem zEX.kept {dA : Nat → ClassId} {A : Nat → Prop} {U : State} {H H1 : Heap} (h : zEX dA A U H) (hq : ∀ a : Nat, a < H.size → ¬ A a → H1[a]? = H[a]?) : zEX dA A U H1 := by
  obtain ⟨h1, h2, h3, h4, h5, h6, h7⟩ := h
  exact ⟨h1.kept hq, h2.kept hq, h3.kept hq, h4, h5.kept hq, h6.kept hq, h7⟩
theorem zEX.narrow {dA : Nat → ClassId} {A B : Nat → Prop} {U : State} {H : Heap} (h : zEX dA A U H) (hAB : ∀ q, B q → A q) : zEX dA B U H := by
  obtain ⟨h1, h2, h3, h4, h5, h6, h7⟩ := h
  exact ⟨h1.narrow hAB, h2.narrow hAB, h3.narrow hAB, h4, h5.narrow hAB, h6.narrow hAB, h7⟩
abbrev zD2 : Type := (Nat → ClassId) × (Nat → Nat → Nat) × (Nat → ClassId)
/-- the world stands -/
def zB (d : zD2) (L : List Nat) (kd : Nat → Nat) (σ : zS) (U : State) : Prop := va_P (d.1, d.2.1) vwCl (zW d.2.2 L kd σ) U.heap ∧ va_K (d.1, d.2.1) vwCl (zty d.2.2) U
def zPc (d : zD2) (L : List Nat) (kd : Nat → Nat) (σ : zS) (sz : Nat) (U : State) : Prop := U.heap.size = sz ∧ zB d L kd σ U ∧ zN U ∧ va_D (fun _ => True) (zW d.2.2 L kd σ) ∧ zEX d.2.2 (va_A (zW d.2.2 L kd σ) sz) U U.heap
def zQc (d : zD2) (L : List Nat) (kd : Nat → Nat) (σ : zS) (sz : Nat) (σ' : zS) (t : State) : Prop := zB d L kd σ' t ∧ va_D (va_A (zW d.2.2 L kd σ) sz) (zW d.2.2 L kd σ')
/-- contracts by what is answered: a whole number, a long, a reference, nothing -/
def zMi (l : Launch) (y : MethodName) (ws : List Cond) (n : Nat) (av : List Value) (d : zD2) (L : List Nat) (kd : Nat → Nat) (σ : zS) (post : Int32 → zS → Prop) : Prop := ∀ sz : Nat, Met l y ws (k2_rm n (100 * n)) (va_Pc av (zPc d L kd σ sz)) (va_Qi post (zQc d L kd σ sz) (va_A (zW d.2.2 L kd σ) sz)) 0 0 (va_A (zW d.2.2 L kd σ) sz)
def zMl (l : Launch) (y : MethodName) (ws : List Cond) (n : Nat) (av : List Value) (d : zD2) (L : List Nat) (kd : Nat → Nat) (σ : zS) (post : Int64 → zS → Prop) : Prop := ∀ sz : Nat, Met l y ws (k2_rm n (100 * n)) (va_Pc av (zPc d L kd σ sz)) (va_Ql post (zQc d L kd σ sz) (va_A (zW d.2.2 L kd σ) sz)) 0 0 (va_A (zW d.2.2 L kd σ) sz)
def zMv (l : Launch) (y : MethodName) (ws : List Cond) (n : Nat) (av : List Value) (d : zD2) (L : List Nat) (kd : Nat → Nat) (σ : zS) (post : zS → Prop) : Prop := ∀ sz : Nat, Met l y ws (k2_rm n (100 * n)) (va_Pc av (zPc d L kd σ sz)) (va_Qv post (zQc d L kd σ sz) (va_A (zW d.2.2 L kd σ) sz)) 0 0 (va_A (zW d.2.2 L kd σ) sz)
def zX (d : zD2) (L : List Nat) (kd : Nat → Nat) (A : Nat → Prop) (nL : Nat) (p : Program) (s : State) (m : MethodId) (args : Array Value) (c : Code) (cc : ByteArray) (own : String) : Prop :=
  p.tables.exec = Jvm.exec ∧ c.code = cc ∧ c.maxLocals = nL ∧ s.vm.findClass own = some m.cls ∧ (∀ w ∈ zWL, w.before args s = true) ∧ va_K (d.1, d.2.1) vwCl (zty d.2.2) s ∧ zN s ∧ True ∧ (∀ q, s.heap.size ≤ q → A q) ∧ zEX d.2.2 A s s.heap
/-- from here (pc, locals, stack, contents) the machine comes to Q; cs cells of sl slots are made already -/
def zGc (rs : va_W) (cs sl : Nat) (d : zD2) (L : List Nat) (kd : Nat → Nat) (A : Nat → Prop) (nL : Nat) (p : Program) (l : Launch) (e : Env) (R : Room) (s : State) (m : MethodId) (args : Array Value) (below : List Frame) (meth : Method) (c : Code) (Q : State → Prop) (σ : zS) (pc : Nat) (lv : List (Nat × Value)) (st : List Value) : Prop :=
  cs ≤ R.cells ∧ sl ≤ R.slots → ∀ (H : Heap) (locs : List Loc) (ls : Array Slot), va_P (d.1, d.2.1) vwCl (rs ++ zW d.2.2 L kd σ) H → va_D A (rs ++ zW d.2.2 L kd σ) → va_S A s.heap H locs → lv_has ls nL lv → W p l e R s m args below meth c H locs cs sl Q (F0 m pc ls st)
abbrev zG (d : zD2) (L : List Nat) (kd : Nat → Nat) (A : Nat → Prop) (nL : Nat) (p : Program) (l : Launch) (e : Env) (R : Room) (s : State) (m : MethodId) (args : Array Value) (below : List Frame) (meth : Method) (c : Code) (Q : State → Prop) (σ : zS) (pc : Nat) (lv : List (Nat × Value)) (st : List Value) : Prop := zGc [] 0 0 d L kd A nL p l e R s m args below meth c Q σ pc lv st
def zT (L : List Nat) (kd : Nat → Nat) (a k : Nat) : Prop := a ∈ L ∧ kd a = k
section ZROWS
variable {rs : va_W} {cs sl : Nat} {d : zD2} {L : List Nat} {kd : Nat → Nat} {A : Nat → Prop} {nL : Nat} {p : Program} {l : Launch} {e : Env} {R : Room} {s : State} {m : MethodId} {args : Array Value} {below : List Frame} {meth : Method} {c : Code} {cc : ByteArray} {own : String} {Q : State → Prop} {σ : zS} {pc : Nat} {lv : List (Nat × Value)} {st : List Value}
theorem zb_rng (x : Int32) : -2147483648 ≤ x.toInt ∧ x.toInt ≤ 2147483647 := ⟨by have := Int32.le_toInt x; omega, by have := Int32.toInt_lt x; omega⟩
theorem zb_add {x y : Int32} (h1 : -2147483648 ≤ x.toInt + y.toInt) (h2 : x.toInt + y.toInt ≤ 2147483647) : (x + y).toInt = x.toInt + y.toInt := by
  rw [Int32.toInt_add, Int.bmod_eq_of_le (by omega) (by omega)]
theorem zb_sub {x y : Int32} (h1 : -2147483648 ≤ x.toInt - y.toInt) (h2 : x.toInt - y.toInt ≤ 2147483647) : (x - y).toInt = x.toInt - y.toInt := by
  rw [Int32.toInt_sub, Int.bmod_eq_of_le (by omega) (by omega)]
theorem zb_in {x : Int32} {n : Nat} (h0 : 0 ≤ x.toInt) (h1 : x.toInt < n) : vp_in x n := vp_in_iff.mpr ⟨h0, h1⟩
theorem zg_iconst (X : zX d L kd A nL p s m args c cc own) {n : Int} (z : Int) (hdg : decode cc pc = .ok (.iconst n, 1)) (hz : (Int32.ofInt n).toInt = z) (k : ∀ v : Int32, v = Int32.ofInt n → v.toInt = z → zGc rs cs sl d L kd A nL p l e R s m args below meth c Q σ (pc + 1) lv (.int v :: st)) : zGc rs cs sl d L kd A nL p l e R s m args below meth c Q σ pc lv st := fun hrm H locs ls hP hD hS hl => lv_iconst X.1 X.2.1 hdg rfl (k _ rfl hz hrm H locs ls hP hD hS hl)
theorem zg_bipush (X : zX d L kd A nL p s m args c cc own) {n : Int} (z : Int) (hdg : decode cc pc = .ok (.bipush n, 2)) (hz : ((Int8.ofInt n).toInt32).toInt = z) (k : ∀ v : Int32, v = (Int8.ofInt n).toInt32 → v.toInt = z → zGc rs cs sl d L kd A nL p l e R s m args below meth c Q σ (pc + 2) lv (.int v :: st)) : zGc rs cs sl d L kd A nL p l e R s m args below meth c Q σ pc lv st := fun hrm H locs ls hP hD hS hl => lv_bipush X.1 X.2.1 hdg rfl (k _ rfl hz hrm H locs ls hP hD hS hl)
theorem zg_sipush (X : zX d L kd A nL p s m args c cc own) {n : Int} (z : Int) (hdg : decode cc pc = .ok (.sipush n, 3)) (hz : ((Int16.ofInt n).toInt32).toInt = z) (k : ∀ v : Int32, v = (Int16.ofInt n).toInt32 → v.toInt = z → zGc rs cs sl d L kd A nL p l e R s m args below meth c Q σ (pc + 3) lv (.int v :: st)) : zGc rs cs sl d L kd A nL p l e R s m args below meth c Q σ pc lv st := fun hrm H locs ls hP hD hS hl => lv_sipush X.1 X.2.1 hdg rfl (k _ rfl hz hrm H locs ls hP hD hS hl)
theorem zg_ldc (X : zX d L kd A nL p s m args c cc own) {index : Nat} {v : Int32} (z : Int) (hc : Cond.constant own index v ∈ zWL) (hdg : decode cc pc = .ok (.ldc index, 2)) (hz : v.toInt = z) (k : ∀ v : Int32, v.toInt = z → zGc rs cs sl d L kd A nL p l e R s m args below meth c Q σ (pc + 2) lv (.int v :: st)) : zGc rs cs sl d L kd A nL p l e R s m args below meth c Q σ pc lv st := fun hrm H locs ls hP hD hS hl => lv_ldc X.1 X.2.1 X.2.2.2.1 (X.2.2.2.2.1 _ hc) hdg (k _ hz hrm H locs ls hP hD hS hl)
theorem zg_lconst (X : zX d L kd A nL p s m args c cc own) {n : Fin 2} (hdg : decode cc pc = .ok (.lconst n, 1)) (k : ∀ v : Int64, v = Int64.ofNat n → zGc rs cs sl d L kd A nL p l e R s m args below meth c Q σ (pc + 1) lv (.long v :: st)) : zGc rs cs sl d L kd A nL p l e R s m args below meth c Q σ pc lv st := fun hrm H locs ls hP hD hS hl => lv_lconst X.1 X.2.1 hdg rfl (k _ rfl hrm H locs ls hP hD hS hl)
theorem zg_ldc2 (X : zX d L kd A nL p s m args c cc own) {index : Nat} {v : Int64} (hc : Cond.constantLong own index v ∈ zWL) (hdg : decode cc pc = .ok (.ldc2_w index, 3)) (k : ∀ w : Int64, w = v → zGc rs cs sl d L kd A nL p l e R s m args below meth c Q σ (pc + 3) lv (.long w :: st)) : zGc rs cs sl d L kd A nL p l e R s m args below meth c Q σ pc lv st := fun hrm H locs ls hP hD hS hl => lv_ldc2 X.1 X.2.1 X.2.2.2.1 (X.2.2.2.2.1 _ hc) hdg (k _ rfl hrm H locs ls hP hD hS hl)
theorem zg_iload (X : zX d L kd A nL p s m args c cc own) {i : Nat} {x : Int32} (j : Nat) (hj : lv[j]? = some (i, .int x)) (hdg : decode cc pc = .ok (.iload i, 2)) (k : zGc rs cs sl d L kd A nL p l e R s m args below meth c Q σ (pc + 2) lv (.int x :: st)) : zGc rs cs sl d L kd A nL p l e R s m args below meth c Q σ pc lv st := fun hrm H locs ls hP hD hS hl => lv_iload X.1 X.2.1 hdg (lv_at hl j hj) (k hrm H locs ls hP hD hS hl)
theorem zg_iload_n (X : zX d L kd A nL p s m args c cc own) {q : Fin 4} {x : Int32} (j : Nat) (hj : lv[j]? = some ((q : Nat), .int x)) (hdg : decode cc pc = .ok (.iload_n q, 1)) (k : zGc rs cs sl d L kd A nL p l e R s m args below meth c Q σ (pc + 1) lv (.int x :: st)) : zGc rs cs sl d L kd A nL p l e R s m args below meth c Q σ pc lv st := fun hrm H locs ls hP hD hS hl => lv_iload_n X.1 X.2.1 hdg rfl (lv_at hl j hj) (k hrm H locs ls hP hD hS hl)
theorem zg_lload (X : zX d L kd A nL p s m args c cc own) {i : Nat} {x : Int64} (j : Nat) (hj : lv[j]? = some (i, .long x)) (hdg : decode cc pc = .ok (.lload i, 2)) (k : zGc rs cs sl d L kd A nL p l e R s m args below meth c Q σ (pc + 2) lv (.long x :: st)) : zGc rs cs sl d L kd A nL p l e R s m args below meth c Q σ pc lv st := fun hrm H locs ls hP hD hS hl => lv_lload X.1 X.2.1 hdg (lv_at hl j hj) (k hrm H locs ls hP hD hS hl)
theorem zg_lload_n (X : zX d L kd A nL p s m args c cc own) {q : Fin 4} {x : Int64} (j : Nat) (hj : lv[j]? = some ((q : Nat), .long x)) (hdg : decode cc pc = .ok (.lload_n q, 1)) (k : zGc rs cs sl d L kd A nL p l e R s m args below meth c Q σ (pc + 1) lv (.long x :: st)) : zGc rs cs sl d L kd A nL p l e R s m args below meth c Q σ pc lv st := fun hrm H locs ls hP hD hS hl => lv_lload_n X.1 X.2.1 hdg rfl (lv_at hl j hj) (k hrm H locs ls hP hD hS hl)
theorem zg_aload (X : zX d L kd A nL p s m args c cc own) {i : Nat} {x : Nat} (j : Nat) (hj : lv[j]? = some (i, .ref x)) (hdg : decode cc pc = .ok (.aload i, 2)) (k : zGc rs cs sl d L kd A nL p l e R s m args below meth c Q σ (pc + 2) lv (.ref x :: st)) : zGc rs cs sl d L kd A nL p l e R s m args below meth c Q σ pc lv st := fun hrm H locs ls hP hD hS hl => lv_aload X.1 X.2.1 hdg (lv_at hl j hj) (k hrm H locs ls hP hD hS hl)
theorem zg_aload_n (X : zX d L kd A nL p s m args c cc own) {q : Fin 4} {x : Nat} (j : Nat) (hj : lv[j]? = some ((q : Nat), .ref x)) (hdg : decode cc pc = .ok (.aload_n q, 1)) (k : zGc rs cs sl d L kd A nL p l e R s m args below meth c Q σ (pc + 1) lv (.ref x :: st)) : zGc rs cs sl d L kd A nL p l e R s m args below meth c Q σ pc lv st := fun hrm H locs ls hP hD hS hl => lv_aload_n X.1 X.2.1 hdg rfl (lv_at hl j hj) (k hrm H locs ls hP hD hS hl)
theorem zg_istore (X : zX d L kd A nL p s m args c cc own) {i : Nat} {x : Int32} (lv2 : List (Nat × Value)) (hdg : decode cc pc = .ok (.istore i, 2)) (hi : i < nL) (hl2 : (i, Value.int x) :: lv.filter (fun q => !(q.1 == i) && !(q.1 + 1 == i && q.2.category == 2)) = lv2) (k : zGc rs cs sl d L kd A nL p l e R s m args below meth c Q σ (pc + 2) lv2 st) : zGc rs cs sl d L kd A nL p l e R s m args below meth c Q σ pc lv (.int x :: st) := fun hrm H locs ls hP hD hS hl => lv_istore X.1 X.2.1 hdg hl hi hl2 (fun ls hl => k hrm H locs ls hP hD hS hl)
theorem zg_istore_n (X : zX d L kd A nL p s m args c cc own) {r : Fin 4} {x : Int32} (lv2 : List (Nat × Value)) (hdg : decode cc pc = .ok (.istore_n r, 1)) (hi : (r : Nat) < nL) (hl2 : ((r : Nat), Value.int x) :: lv.filter (fun q => !(q.1 == (r : Nat)) && !(q.1 + 1 == (r : Nat) && q.2.category == 2)) = lv2) (k : zGc rs cs sl d L kd A nL p l e R s m args below meth c Q σ (pc + 1) lv2 st) : zGc rs cs sl d L kd A nL p l e R s m args below meth c Q σ pc lv (.int x :: st) := fun hrm H locs ls hP hD hS hl => lv_istore_n X.1 X.2.1 hdg rfl hl hi hl2 (fun ls hl => k hrm H locs ls hP hD hS hl)
theorem zg_astore (X : zX d L kd A nL p s m args c cc own) {i : Nat} {x : Nat} (lv2 : List (Nat × Value)) (hdg : decode cc pc = .ok (.astore i, 2)) (hi : i < nL) (hl2 : (i, Value.ref x) :: lv.filter (fun q => !(q.1 == i) && !(q.1 + 1 == i && q.2.category == 2)) = lv2) (k : zGc rs cs sl d L kd A nL p l e R s m args below meth c Q σ (pc + 2) lv2 st) : zGc rs cs sl d L kd A nL p l e R s m args below meth c Q σ pc lv (.ref x :: st) := fun hrm H locs ls hP hD hS hl => lv_astore X.1 X.2.1 hdg hl hi hl2 (fun ls hl => k hrm H locs ls hP hD hS hl)
theorem zg_astore_n (X : zX d L kd A nL p s m args c cc own) {r : Fin 4} {x : Nat} (lv2 : List (Nat × Value)) (hdg : decode cc pc = .ok (.astore_n r, 1)) (hi : (r : Nat) < nL) (hl2 : ((r : Nat), Value.ref x) :: lv.filter (fun q => !(q.1 == (r : Nat)) && !(q.1 + 1 == (r : Nat) && q.2.category == 2)) = lv2) (k : zGc rs cs sl d L kd A nL p l e R s m args below meth c Q σ (pc + 1) lv2 st) : zGc rs cs sl d L kd A nL p l e R s m args below meth c Q σ pc lv (.ref x :: st) := fun hrm H locs ls hP hD hS hl => lv_astore_n X.1 X.2.1 hdg rfl hl hi hl2 (fun ls hl => k hrm H locs ls hP hD hS hl)
theorem zg_lstore (X : zX d L kd A nL p s m args c cc own) {i : Nat} {x : Int64} (lv2 : List (Nat × Value)) (hdg : decode cc pc = .ok (.lstore i, 2)) (hi : i + 1 < nL) (hl2 : (i, Value.long x) :: lv.filter (fun q => !(q.1 == i) && (!(q.1 == i + 1) && !(q.1 + 1 == i && q.2.category == 2))) = lv2) (k : zGc rs cs sl d L kd A nL p l e R s m args below meth c Q σ (pc + 2) lv2 st) : zGc rs cs sl d L kd A nL p l e R s m args below meth c Q σ pc lv (.long x :: st) := fun hrm H locs ls hP hD hS hl => lv_lstore X.1 X.2.1 hdg hl hi hl2 (fun ls hl => k hrm H locs ls hP hD hS hl)
theorem zg_lstore_n (X : zX d L kd A nL p s m args c cc own) {r : Fin 4} {x : Int64} (lv2 : List (Nat × Value)) (hdg : decode cc pc = .ok (.lstore_n r, 1)) (hi : (r : Nat) + 1 < nL) (hl2 : ((r : Nat), Value.long x) :: lv.filter (fun q => !(q.1 == (r : Nat)) && (!(q.1 == (r : Nat) + 1) && !(q.1 + 1 == (r : Nat) && q.2.category == 2))) = lv2) (k : zGc rs cs sl d L kd A nL p l e R s m args below meth c Q σ (pc + 1) lv2 st) : zGc rs cs sl d L kd A nL p l e R s m args below meth c Q σ pc lv (.long x :: st) := fun hrm H locs ls hP hD hS hl => lv_lstore_n X.1 X.2.1 hdg rfl hl hi hl2 (fun ls hl => k hrm H locs ls hP hD hS hl)
theorem zg_iinc (X : zX d L kd A nL p s m args c cc own) {i : Nat} {n : Int} {x : Int32} (z : Int) (lv2 : Int32 → List (Nat × Value)) (j : Nat) (hdg : decode cc pc = .ok (.iinc i n, 3)) (hj : lv[j]? = some (i, .int x)) (hi : i < nL) (hz : (Int32.ofInt n).toInt = z) (h1 : -2147483648 ≤ x.toInt + z) (h2 : x.toInt + z ≤ 2147483647) (hl2 : ∀ v : Int32, (i, Value.int v) :: lv.filter (fun q => !(q.1 == i) && !(q.1 + 1 == i && q.2.category == 2)) = lv2 v) (k : ∀ v : Int32, v = x + Int32.ofInt n → v.toInt = x.toInt + z → zGc rs cs sl d L kd A nL p l e R s m args below meth c Q σ (pc + 3) (lv2 v) st) : zGc rs cs sl d L kd A nL p l e R s m args below meth c Q σ pc lv st := fun hrm H locs ls hP hD hS hl => lv_iinc X.1 X.2.1 hdg hl hj rfl hi (hl2 _) (fun ls hl => k _ rfl (by rw [zb_add (by omega) (by omega), hz]) hrm H locs ls hP hD hS hl)
theorem zg_iincW (X : zX d L kd A nL p s m args c cc own) {i : Nat} {n : Int} {x : Int32} (lv2 : Int32 → List (Nat × Value)) (j : Nat) (hdg : decode cc pc = .ok (.iinc i n, 3)) (hj : lv[j]? = some (i, .int x)) (hi : i < nL) (hl2 : ∀ v : Int32, (i, Value.int v) :: lv.filter (fun q => !(q.1 == i) && !(q.1 + 1 == i && q.2.category == 2)) = lv2 v) (k : ∀ v : Int32, v = x + Int32.ofInt n → zGc rs cs sl d L kd A nL p l e R s m args below meth c Q σ (pc + 3) (lv2 v) st) : zGc rs cs sl d L kd A nL p l e R s m args below meth c Q σ pc lv st := fun hrm H locs ls hP hD hS hl => lv_iinc X.1 X.2.1 hdg hl hj rfl hi (hl2 _) (fun ls hl => k _ rfl hrm H locs ls hP hD hS hl)
theorem zg_iadd (X : zX d L kd A nL p s m args c cc own) {x y : Int32} (hdg : decode cc pc = .ok (.iadd, 1)) (h1 : -2147483648 ≤ x.toInt + y.toInt) (h2 : x.toInt + y.toInt ≤ 2147483647) (k : ∀ v : Int32, v = x + y → v.toInt = x.toInt + y.toInt → zGc rs cs sl d L kd A nL p l e R s m args below meth c Q σ (pc + 1) lv (.int v :: st)) : zGc rs cs sl d L kd A nL p l e R s m args below meth c Q σ pc lv (.int y :: .int x :: st) := fun hrm H locs ls hP hD hS hl => lv_iadd X.1 X.2.1 hdg (k _ rfl (zb_add h1 h2) hrm H locs ls hP hD hS hl)
theorem zg_isub (X : zX d L kd A nL p s m args c cc own) {x y : Int32} (hdg : decode cc pc = .ok (.isub, 1)) (h1 : -2147483648 ≤ x.toInt - y.toInt) (h2 : x.toInt - y.toInt ≤ 2147483647) (k : ∀ v : Int32, v = x - y → v.toInt = x.toInt - y.toInt → zGc rs cs sl d L kd A nL p l e R s m args below meth c Q σ (pc + 1) lv (.int v :: st)) : zGc rs cs sl d L kd A nL p l e R s m args below meth c Q σ pc lv (.int y :: .int x :: st) := fun hrm H locs ls hP hD hS hl => lv_isub X.1 X.2.1 hdg (k _ rfl (zb_sub h1 h2) hrm H locs ls hP hD hS hl)
theorem zg_iaddW (X : zX d L kd A nL p s m args c cc own) {x y : Int32} (hdg : decode cc pc = .ok (.iadd, 1)) (k : ∀ v : Int32, v = x + y → zGc rs cs sl d L kd A nL p l e R s m args below meth c Q σ (pc + 1) lv (.int v :: st)) : zGc rs cs sl d L kd A nL p l e R s m args below meth c Q σ pc lv (.int y :: .int x :: st) := fun hrm H locs ls hP hD hS hl => lv_iadd X.1 X.2.1 hdg (k _ rfl hrm H locs ls hP hD hS hl)
theorem zg_isubW (X : zX d L kd A nL p s m args c cc own) {x y : Int32} (hdg : decode cc pc = .ok (.isub, 1)) (k : ∀ v : Int32, v = x - y → zGc rs cs sl d L kd A nL p l e R s m args below meth c Q σ (pc + 1) lv (.int v :: st)) : zGc rs cs sl d L kd A nL p l e R s m args below meth c Q σ pc lv (.int y :: .int x :: st) := fun hrm H locs ls hP hD hS hl => lv_isub X.1 X.2.1 hdg (k _ rfl hrm H locs ls hP hD hS hl)
theorem zg_imulW (X : zX d L kd A nL p s m args c cc own) {x y : Int32} (hdg : decode cc pc = .ok (.imul, 1)) (k : ∀ v : Int32, v = x * y → zGc rs cs sl d L kd A nL p l e R s m args below meth c Q σ (pc + 1) lv (.int v :: st)) : zGc rs cs sl d L kd A nL p l e R s m args below meth c Q σ pc lv (.int y :: .int x :: st) := fun hrm H locs ls hP hD hS hl => lv_imul X.1 X.2.1 hdg (k _ rfl hrm H locs ls hP hD hS hl)
theorem zg_iandW (X : zX d L kd A nL p s m args c cc own) {x y : Int32} (hdg : decode cc pc = .ok (.iand, 1)) (k : ∀ v : Int32, v = x &&& y → zGc rs cs sl d L kd A nL p l e R s m args below meth c Q σ (pc + 1) lv (.int v :: st)) : zGc rs cs sl d L kd A nL p l e R s m args below meth c Q σ pc lv (.int y :: .int x :: st) := fun hrm H locs ls hP hD hS hl => lv_iand X.1 X.2.1 hdg (k _ rfl hrm H locs ls hP hD hS hl)
theorem zg_iorW (X : zX d L kd A nL p s m args c cc own) {x y : Int32} (hdg : decode cc pc = .ok (.ior, 1)) (k : ∀ v : Int32, v = x ||| y → zGc rs cs sl d L kd A nL p l e R s m args below meth c Q σ (pc + 1) lv (.int v :: st)) : zGc rs cs sl d L kd A nL p l e R s m args below meth c Q σ pc lv (.int y :: .int x :: st) := fun hrm H locs ls hP hD hS hl => lv_ior X.1 X.2.1 hdg (k _ rfl hrm H locs ls hP hD hS hl)
theorem zg_ixorW (X : zX d L kd A nL p s m args c cc own) {x y : Int32} (hdg : decode cc pc = .ok (.ixor, 1)) (k : ∀ v : Int32, v = x ^^^ y → zGc rs cs sl d L kd A nL p l e R s m args below meth c Q σ (pc + 1) lv (.int v :: st)) : zGc rs cs sl d L kd A nL p l e R s m args below meth c Q σ pc lv (.int y :: .int x :: st) := fun hrm H locs ls hP hD hS hl => lv_ixor X.1 X.2.1 hdg (k _ rfl hrm H locs ls hP hD hS hl)
theorem zg_ishlW (X : zX d L kd A nL p s m args c cc own) {x y : Int32} (hdg : decode cc pc = .ok (.ishl, 1)) (k : ∀ v : Int32, v = x <<< (y &&& 31) → zGc rs cs sl d L kd A nL p l e R s m args below meth c Q σ (pc + 1) lv (.int v :: st)) : zGc rs cs sl d L kd A nL p l e R s m args below meth c Q σ pc lv (.int y :: .int x :: st) := fun hrm H locs ls hP hD hS hl => lv_ishl X.1 X.2.1 hdg (k _ rfl hrm H locs ls hP hD hS hl)
theorem zg_ishrW (X : zX d L kd A nL p s m args c cc own) {x y : Int32} (hdg : decode cc pc = .ok (.ishr, 1)) (k : ∀ v : Int32, v = x >>> (y &&& 31) → zGc rs cs sl d L kd A nL p l e R s m args below meth c Q σ (pc + 1) lv (.int v :: st)) : zGc rs cs sl d L kd A nL p l e R s m args below meth c Q σ pc lv (.int y :: .int x :: st) := fun hrm H locs ls hP hD hS hl => lv_ishr X.1 X.2.1 hdg (k _ rfl hrm H locs ls hP hD hS hl)
theorem zg_iushrW (X : zX d L kd A nL p s m args c cc own) {x y : Int32} (hdg : decode cc pc = .ok (.iushr, 1)) (k : ∀ v : Int32, v = (x.toUInt32 >>> (y.toUInt32 &&& Int32.toUInt32 31)).toInt32 → zGc rs cs sl d L kd A nL p l e R s m args below meth c Q σ (pc + 1) lv (.int v :: st)) : zGc rs cs sl d L kd A nL p l e R s m args below meth c Q σ pc lv (.int y :: .int x :: st) := fun hrm H locs ls hP hD hS hl => lv_iushr X.1 X.2.1 hdg rfl (k _ rfl hrm H locs ls hP hD hS hl)
theorem zg_idivW (X : zX d L kd A nL p s m args c cc own) {x y : Int32} (hdg : decode cc pc = .ok (.idiv, 1)) (hy : y.toInt ≠ 0) (k : ∀ v : Int32, v = x / y → zGc rs cs sl d L kd A nL p l e R s m args below meth c Q σ (pc + 1) lv (.int v :: st)) : zGc rs cs sl d L kd A nL p l e R s m args below meth c Q σ pc lv (.int y :: .int x :: st) := fun hrm H locs ls hP hD hS hl => lv_idiv X.1 X.2.1 hdg (fun h => hy (by rw [h]; rfl)) (k _ rfl hrm H locs ls hP hD hS hl)
theorem zg_iremW (X : zX d L kd A nL p s m args c cc own) {x y : Int32} (hdg : decode cc pc = .ok (.irem, 1)) (hy : y.toInt ≠ 0) (k : ∀ v : Int32, v = x - x / y * y → zGc rs cs sl d L kd A nL p l e R s m args below meth c Q σ (pc + 1) lv (.int v :: st)) : zGc rs cs sl d L kd A nL p l e R s m args below meth c Q σ pc lv (.int y :: .int x :: st) := fun hrm H locs ls hP hD hS hl => lv_irem X.1 X.2.1 hdg (fun h => hy (by rw [h]; rfl)) (k _ rfl hrm H locs ls hP hD hS hl)
theorem zg_inegW (X : zX d L kd A nL p s m args c cc own) {x : Int32} (hdg : decode cc pc = .ok (.ineg, 1)) (k : ∀ v : Int32, v = -x → zGc rs cs sl d L kd A nL p l e R s m args below meth c Q σ (pc + 1) lv (.int v :: st)) : zGc rs cs sl d L kd A nL p l e R s m args below meth c Q σ pc lv (.int x :: st) := fun hrm H locs ls hP hD hS hl => lv_ineg X.1 X.2.1 hdg (k _ rfl hrm H locs ls hP hD hS hl)
theorem zg_i2l (X : zX d L kd A nL p s m args c cc own) {x : Int32} (hdg : decode cc pc = .ok (.i2l, 1)) (k : ∀ v : Int64, v = x.toInt64 → zGc rs cs sl d L kd A nL p l e R s m args below meth c Q σ (pc + 1) lv (.long v :: st)) : zGc rs cs sl d L kd A nL p l e R s m args below meth c Q σ pc lv (.int x :: st) := fun hrm H locs ls hP hD hS hl => lv_i2l X.1 X.2.1 hdg rfl (k _ rfl hrm H locs ls hP hD hS hl)
theorem zg_l2i (X : zX d L kd A nL p s m args c cc own) {x : Int64} (hdg : decode cc pc = .ok (.l2i, 1)) (k : ∀ v : Int32, v = x.toInt32 → zGc rs cs sl d L kd A nL p l e R s m args below meth c Q σ (pc + 1) lv (.int v :: st)) : zGc rs cs sl d L kd A nL p l e R s m args below meth c Q σ pc lv (.long x :: st) := fun hrm H locs ls hP hD hS hl => lv_l2i X.1 X.2.1 hdg rfl (k _ rfl hrm H locs ls hP hD hS hl)
theorem zg_i2b (X : zX d L kd A nL p s m args c cc own) {x : Int32} (hdg : decode cc pc = .ok (.i2b, 1)) (k : ∀ v : Int32, v = x.toInt8.toInt32 → zGc rs cs sl d L kd A nL p l e R s m args below meth c Q σ (pc + 1) lv (.int v :: st)) : zGc rs cs sl d L kd A nL p l e R s m args below meth c Q σ pc lv (.int x :: st) := fun hrm H locs ls hP hD hS hl => lv_i2b X.1 X.2.1 hdg rfl (k _ rfl hrm H locs ls hP hD hS hl)
theorem zg_i2c (X : zX d L kd A nL p s m args c cc own) {x : Int32} (hdg : decode cc pc = .ok (.i2c, 1)) (k : ∀ v : Int32, v = (x.toUInt32 % 65536).toInt32 → zGc rs cs sl d L kd A nL p l e R s m args below meth c Q σ (pc + 1) lv (.int v :: st)) : zGc rs cs sl d L kd A nL p l e R s m args below meth c Q σ pc lv (.int x :: st) := fun hrm H locs ls hP hD hS hl => lv_i2c X.1 X.2.1 hdg rfl (k _ rfl hrm H locs ls hP hD hS hl)
theorem zg_ladd (X : zX d L kd A nL p s m args c cc own) {x y : Int64} (hdg : decode cc pc = .ok (.ladd, 1)) (k : ∀ v : Int64, v = x + y → zGc rs cs sl d L kd A nL p l e R s m args below meth c Q σ (pc + 1) lv (.long v :: st)) : zGc rs cs sl d L kd A nL p l e R s m args below meth c Q σ pc lv (.long y :: .long x :: st) := fun hrm H locs ls hP hD hS hl => lv_ladd X.1 X.2.1 hdg (k _ rfl hrm H locs ls hP hD hS hl)
theorem zg_lmul (X : zX d L kd A nL p s m args c cc own) {x y : Int64} (hdg : decode cc pc = .ok (.lmul, 1)) (k : ∀ v : Int64, v = x * y → zGc rs cs sl d L kd A nL p l e R s m args below meth c Q σ (pc + 1) lv (.long v :: st)) : zGc rs cs sl d L kd A nL p l e R s m args below meth c Q σ pc lv (.long y :: .long x :: st) := fun hrm H locs ls hP hD hS hl => lv_lmul X.1 X.2.1 hdg (k _ rfl hrm H locs ls hP hD hS hl)
theorem zg_lsub (X : zX d L kd A nL p s m args c cc own) {x y : Int64} (hdg : decode cc pc = .ok (.lsub, 1)) (k : ∀ v : Int64, v = x - y → zGc rs cs sl d L kd A nL p l e R s m args below meth c Q σ (pc + 1) lv (.long v :: st)) : zGc rs cs sl d L kd A nL p l e R s m args below meth c Q σ pc lv (.long y :: .long x :: st) := fun hrm H locs ls hP hD hS hl => lv_lsub X.1 X.2.1 hdg (k _ rfl hrm H locs ls hP hD hS hl)
theorem zg_lcmp (X : zX d L kd A nL p s m args c cc own) {x y : Int64} (hdg : decode cc pc = .ok (.lcmp, 1)) (k : ∀ v : Int32, v = lg_cmp x y → zGc rs cs sl d L kd A nL p l e R s m args below meth c Q σ (pc + 1) lv (.int v :: st)) : zGc rs cs sl d L kd A nL p l e R s m args below meth c Q σ pc lv (.long y :: .long x :: st) := fun hrm H locs ls hP hD hS hl => W.lcmp X.1 X.2.1 hdg (k _ rfl hrm H locs ls hP hD hS hl)
theorem zg_dup (X : zX d L kd A nL p s m args c cc own) {v : Value} (hdg : decode cc pc = .ok (.dup, 1)) (hv : v.category = 1) (k : zGc rs cs sl d L kd A nL p l e R s m args below meth c Q σ (pc + 1) lv (v :: v :: st)) : zGc rs cs sl d L kd A nL p l e R s m args below meth c Q σ pc lv (v :: st) := fun hrm H locs ls hP hD hS hl => lv_dup X.1 X.2.1 hdg hv (k hrm H locs ls hP hD hS hl)
theorem zg_pop (X : zX d L kd A nL p s m args c cc own) {v : Value} (hdg : decode cc pc = .ok (.pop, 1)) (hv : v.category = 1) (k : zGc rs cs sl d L kd A nL p l e R s m args below meth c Q σ (pc + 1) lv st) : zGc rs cs sl d L kd A nL p l e R s m args below meth c Q σ pc lv (v :: st) := fun hrm H locs ls hP hD hS hl => lv_pop X.1 X.2.1 hdg hv (k hrm H locs ls hP hD hS hl)
theorem zg_pop2 (X : zX d L kd A nL p s m args c cc own) {v : Value} (hdg : decode cc pc = .ok (.pop2, 1)) (hv : v.category = 2) (k : zGc rs cs sl d L kd A nL p l e R s m args below meth c Q σ (pc + 1) lv st) : zGc rs cs sl d L kd A nL p l e R s m args below meth c Q σ pc lv (v :: st) := fun hrm H locs ls hP hD hS hl => lv_pop2_2 X.1 X.2.1 hdg hv (k hrm H locs ls hP hD hS hl)
theorem zg_dup2 (X : zX d L kd A nL p s m args c cc own) {v w : Value} (hdg : decode cc pc = .ok (.dup2, 1)) (hv : v.category = 1) (hw : w.category = 1) (k : zGc rs cs sl d L kd A nL p l e R s m args below meth c Q σ (pc + 1) lv (v :: w :: v :: w :: st)) : zGc rs cs sl d L kd A nL p l e R s m args below meth c Q σ pc lv (v :: w :: st) := fun hrm H locs ls hP hD hS hl => lv_dup2_11 X.1 X.2.1 hdg hv hw (k hrm H locs ls hP hD hS hl)
theorem zg_dup_x1 (X : zX d L kd A nL p s m args c cc own) {v w : Value} (hdg : decode cc pc = .ok (.dup_x1, 1)) (hv : v.category = 1) (hw : w.category = 1) (k : zGc rs cs sl d L kd A nL p l e R s m args below meth c Q σ (pc + 1) lv (v :: w :: v :: st)) : zGc rs cs sl d L kd A nL p l e R s m args below meth c Q σ pc lv (v :: w :: st) := fun hrm H locs ls hP hD hS hl => lv_dup_x1 X.1 X.2.1 hdg hv hw (k hrm H locs ls hP hD hS hl)
theorem zg_goto (X : zX d L kd A nL p s m args c cc own) {off : Int} (tgt : Nat) (hdg : decode cc pc = .ok (.goto off, 3)) (ht : (pc : Int) + off = (tgt : Int)) (k : zGc rs cs sl d L kd A nL p l e R s m args below meth c Q σ tgt lv st) : zGc rs cs sl d L kd A nL p l e R s m args below meth c Q σ pc lv st := fun hrm H locs ls hP hD hS hl => lv_goto X.1 X.2.1 hdg ht (k hrm H locs ls hP hD hS hl)
theorem zg_icmp_lt (X : zX d L kd A nL p s m args c cc own) {x y : Int32} {off : Int} (tgt : Nat) (hdg : decode cc pc = .ok (.if_icmp .lt off, 3)) (ht : (pc : Int) + off = (tgt : Int)) (kt : x.toInt < y.toInt → zGc rs cs sl d L kd A nL p l e R s m args below meth c Q σ tgt lv st) (kf : y.toInt ≤ x.toInt → zGc rs cs sl d L kd A nL p l e R s m args below meth c Q σ (pc + 3) lv st) : zGc rs cs sl d L kd A nL p l e R s m args below meth c Q σ pc lv (.int y :: .int x :: st) := fun hrm H locs ls hP hD hS hl => lv_icmp_lt X.1 X.2.1 hdg ht (fun h => kt (Int32.lt_iff_toInt_lt.mp h) hrm H locs ls hP hD hS hl) (fun h => kf (Int.not_lt.mp (fun q => h (Int32.lt_iff_toInt_lt.mpr q))) hrm H locs ls hP hD hS hl)
theorem zg_if_lt (X : zX d L kd A nL p s m args c cc own) {x : Int32} {off : Int} (tgt : Nat) (hdg : decode cc pc = .ok (.ifCond .lt off, 3)) (ht : (pc : Int) + off = (tgt : Int)) (kt : x.toInt < 0 → zGc rs cs sl d L kd A nL p l e R s m args below meth c Q σ tgt lv st) (kf : 0 ≤ x.toInt → zGc rs cs sl d L kd A nL p l e R s m args below meth c Q σ (pc + 3) lv st) : zGc rs cs sl d L kd A nL p l e R s m args below meth c Q σ pc lv (.int x :: st) := fun hrm H locs ls hP hD hS hl => lv_if_lt X.1 X.2.1 hdg ht (fun h => kt (by have h2 := Int32.lt_iff_toInt_lt.mp h; rw [show (0 : Int32).toInt = 0 from rfl] at h2; exact h2) hrm H locs ls hP hD hS hl) (fun h => kf (Int.not_lt.mp (fun q => h (Int32.lt_iff_toInt_lt.mpr (by rw [show (0 : Int32).toInt = 0 from rfl]; exact q)))) hrm H locs ls hP hD hS hl)
theorem zg_icmp_ge (X : zX d L kd A nL p s m args c cc own) {x y : Int32} {off : Int} (tgt : Nat) (hdg : decode cc pc = .ok (.if_icmp .ge off, 3)) (ht : (pc : Int) + off = (tgt : Int)) (kt : y.toInt ≤ x.toInt → zGc rs cs sl d L kd A nL p l e R s m args below meth c Q σ tgt lv st) (kf : x.toInt < y.toInt → zGc rs cs sl d L kd A nL p l e R s m args below meth c Q σ (pc + 3) lv st) : zGc rs cs sl d L kd A nL p l e R s m args below meth c Q σ pc lv (.int y :: .int x :: st) := fun hrm H locs ls hP hD hS hl => lv_icmp_ge X.1 X.2.1 hdg ht (fun h => kt (Int32.le_iff_toInt_le.mp h) hrm H locs ls hP hD hS hl) (fun h => kf (Int.not_le.mp (fun q => h (Int32.le_iff_toInt_le.mpr q))) hrm H locs ls hP hD hS hl)
theorem zg_if_ge (X : zX d L kd A nL p s m args c cc own) {x : Int32} {off : Int} (tgt : Nat) (hdg : decode cc pc = .ok (.ifCond .ge off, 3)) (ht : (pc : Int) + off = (tgt : Int)) (kt : 0 ≤ x.toInt → zGc rs cs sl d L kd A nL p l e R s m args below meth c Q σ tgt lv st) (kf : x.toInt < 0 → zGc rs cs sl d L kd A nL p l e R s m args below meth c Q σ (pc + 3) lv st) : zGc rs cs sl d L kd A nL p l e R s m args below meth c Q σ pc lv (.int x :: st) := fun hrm H locs ls hP hD hS hl => lv_if_ge X.1 X.2.1 hdg ht (fun h => kt (by have h2 := Int32.le_iff_toInt_le.mp h; rw [show (0 : Int32).toInt = 0 from rfl] at h2; exact h2) hrm H locs ls hP hD hS hl) (fun h => kf (Int.not_le.mp (fun q => h (Int32.le_iff_toInt_le.mpr (by rw [show (0 : Int32).toInt = 0 from rfl]; exact q)))) hrm H locs ls hP hD hS hl)
theorem zg_icmp_gt (X : zX d L kd A nL p s m args c cc own) {x y : Int32} {off : Int} (tgt : Nat) (hdg : decode cc pc = .ok (.if_icmp .gt off, 3)) (ht : (pc : Int) + off = (tgt : Int)) (kt : y.toInt < x.toInt → zGc rs cs sl d L kd A nL p l e R s m args below meth c Q σ tgt lv st) (kf : x.toInt ≤ y.toInt → zGc rs cs sl d L kd A nL p l e R s m args below meth c Q σ (pc + 3) lv st) : zGc rs cs sl d L kd A nL p l e R s m args below meth c Q σ pc lv (.int y :: .int x :: st) := fun hrm H locs ls hP hD hS hl => lv_icmp_gt X.1 X.2.1 hdg ht (fun h => kt (Int32.lt_iff_toInt_lt.mp h) hrm H locs ls hP hD hS hl) (fun h => kf (Int.not_lt.mp (fun q => h (Int32.lt_iff_toInt_lt.mpr q))) hrm H locs ls hP hD hS hl)
theorem zg_if_gt (X : zX d L kd A nL p s m args c cc own) {x : Int32} {off : Int} (tgt : Nat) (hdg : decode cc pc = .ok (.ifCond .gt off, 3)) (ht : (pc : Int) + off = (tgt : Int)) (kt : 0 < x.toInt → zGc rs cs sl d L kd A nL p l e R s m args below meth c Q σ tgt lv st) (kf : x.toInt ≤ 0 → zGc rs cs sl d L kd A nL p l e R s m args below meth c Q σ (pc + 3) lv st) : zGc rs cs sl d L kd A nL p l e R s m args below meth c Q σ pc lv (.int x :: st) := fun hrm H locs ls hP hD hS hl => lv_if_gt X.1 X.2.1 hdg ht (fun h => kt (by have h2 := Int32.lt_iff_toInt_lt.mp h; rw [show (0 : Int32).toInt = 0 from rfl] at h2; exact h2) hrm H locs ls hP hD hS hl) (fun h => kf (Int.not_lt.mp (fun q => h (Int32.lt_iff_toInt_lt.mpr (by rw [show (0 : Int32).toInt = 0 from rfl]; exact q)))) hrm H locs ls hP hD hS hl)
theorem zg_icmp_le (X : zX d L kd A nL p s m args c cc own) {x y : Int32} {off : Int} (tgt : Nat) (hdg : decode cc pc = .ok (.if_icmp .le off, 3)) (ht : (pc : Int) + off = (tgt : Int)) (kt : x.toInt ≤ y.toInt → zGc rs cs sl d L kd A nL p l e R s m args below meth c Q σ tgt lv st) (kf : y.toInt < x.toInt → zGc rs cs sl d L kd A nL p l e R s m args below meth c Q σ (pc + 3) lv st) : zGc rs cs sl d L kd A nL p l e R s m args below meth c Q σ pc lv (.int y :: .int x :: st) := fun hrm H locs ls hP hD hS hl => lv_icmp_le X.1 X.2.1 hdg ht (fun h => kt (Int32.le_iff_toInt_le.mp h) hrm H locs ls hP hD hS hl) (fun h => kf (Int.not_le.mp (fun q => h (Int32.le_iff_toInt_le.mpr q))) hrm H locs ls hP hD hS hl)
theorem zg_if_le (X : zX d L kd A nL p s m args c cc own) {x : Int32} {off : Int} (tgt : Nat) (hdg : decode cc pc = .ok (.ifCond .le off, 3)) (ht : (pc : Int) + off = (tgt : Int)) (kt : x.toInt ≤ 0 → zGc rs cs sl d L kd A nL p l e R s m args below meth c Q σ tgt lv st) (kf : 0 < x.toInt → zGc rs cs sl d L kd A nL p l e R s m args below meth c Q σ (pc + 3) lv st) : zGc rs cs sl d L kd A nL p l e R s m args below meth c Q σ pc lv (.int x :: st) := fun hrm H locs ls hP hD hS hl => lv_if_le X.1 X.2.1 hdg ht (fun h => kt (by have h2 := Int32.le_iff_toInt_le.mp h; rw [show (0 : Int32).toInt = 0 from rfl] at h2; exact h2) hrm H locs ls hP hD hS hl) (fun h => kf (Int.not_le.mp (fun q => h (Int32.le_iff_toInt_le.mpr (by rw [show (0 : Int32).toInt = 0 from rfl]; exact q)))) hrm H locs ls hP hD hS hl)
theorem zg_icmp_eq (X : zX d L kd A nL p s m args c cc own) {x y : Int32} {off : Int} (tgt : Nat) (hdg : decode cc pc = .ok (.if_icmp .eq off, 3)) (ht : (pc : Int) + off = (tgt : Int)) (kt : x.toInt = y.toInt → zGc rs cs sl d L kd A nL p l e R s m args below meth c Q σ tgt lv st) (kf : x.toInt ≠ y.toInt → zGc rs cs sl d L kd A nL p l e R s m args below meth c Q σ (pc + 3) lv st) : zGc rs cs sl d L kd A nL p l e R s m args below meth c Q σ pc lv (.int y :: .int x :: st) := fun hrm H locs ls hP hD hS hl => lv_icmp_eq X.1 X.2.1 hdg ht (fun h => kt (by rw [h]) hrm H locs ls hP hD hS hl) (fun h => kf (fun q => h (Int32.toInt_inj.mp q)) hrm H locs ls hP hD hS hl)
theorem zg_if_eq (X : zX d L kd A nL p s m args c cc own) {x : Int32} {off : Int} (tgt : Nat) (hdg : decode cc pc = .ok (.ifCond .eq off, 3)) (ht : (pc : Int) + off = (tgt : Int)) (kt : x.toInt = 0 → zGc rs cs sl d L kd A nL p l e R s m args below meth c Q σ tgt lv st) (kf : x.toInt ≠ 0 → zGc rs cs sl d L kd A nL p l e R s m args below meth c Q σ (pc + 3) lv st) : zGc rs cs sl d L kd A nL p l e R s m args below meth c Q σ pc lv (.int x :: st) := fun hrm H locs ls hP hD hS hl => lv_if_eq X.1 X.2.1 hdg ht (fun h => kt (by rw [h]; rfl) hrm H locs ls hP hD hS hl) (fun h => kf (fun q => h (Int32.toInt_inj.mp q)) hrm H locs ls hP hD hS hl)
theorem zg_icmp_ne (X : zX d L kd A nL p s m args c cc own) {x y : Int32} {off : Int} (tgt : Nat) (hdg : decode cc pc = .ok (.if_icmp .ne off, 3)) (ht : (pc : Int) + off = (tgt : Int)) (kt : x.toInt ≠ y.toInt → zGc rs cs sl d L kd A nL p l e R s m args below meth c Q σ tgt lv st) (kf : x.toInt = y.toInt → zGc rs cs sl d L kd A nL p l e R s m args below meth c Q σ (pc + 3) lv st) : zGc rs cs sl d L kd A nL p l e R s m args below meth c Q σ pc lv (.int y :: .int x :: st) := fun hrm H locs ls hP hD hS hl => lv_icmp_ne X.1 X.2.1 hdg ht (fun h => kt (fun q => h (Int32.toInt_inj.mp q)) hrm H locs ls hP hD hS hl) (fun h => kf (by rw [h]) hrm H locs ls hP hD hS hl)
theorem zg_if_ne (X : zX d L kd A nL p s m args c cc own) {x : Int32} {off : Int} (tgt : Nat) (hdg : decode cc pc = .ok (.ifCond .ne off, 3)) (ht : (pc : Int) + off = (tgt : Int)) (kt : x.toInt ≠ 0 → zGc rs cs sl d L kd A nL p l e R s m args below meth c Q σ tgt lv st) (kf : x.toInt = 0 → zGc rs cs sl d L kd A nL p l e R s m args below meth c Q σ (pc + 3) lv st) : zGc rs cs sl d L kd A nL p l e R s m args below meth c Q σ pc lv (.int x :: st) := fun hrm H locs ls hP hD hS hl => lv_if_ne X.1 X.2.1 hdg ht (fun h => kt (fun q => h (Int32.toInt_inj.mp q)) hrm H locs ls hP hD hS hl) (fun h => kf (by rw [h]; rfl) hrm H locs ls hP hD hS hl)
theorem zg_tabIn (X : zX d L kd A nL p s m args c cc own) {dflt lo hi : Int} {offs : Array Int} {len : Nat} {x : Int32} {off : Int} (tgt : Nat) (z : Int) (hdg : decode cc pc = .ok (.tableswitch dflt lo hi offs, len)) (hx : x.toInt = z) (h1 : ¬ z < lo) (h2 : ¬ hi < z) (ho : offs[(z - lo).toNat]? = some off) (ht : (pc : Int) + off = (tgt : Int)) (k : zGc rs cs sl d L kd A nL p l e R s m args below meth c Q σ tgt lv st) : zGc rs cs sl d L kd A nL p l e R s m args below meth c Q σ pc lv (.int x :: st) := fun hrm H locs ls hP hD hS hl => lv_tableIn X.1 X.2.1 hdg (by rw [hx]; exact h1) (by rw [hx]; exact h2) (by rw [hx]; exact ho) ht (k hrm H locs ls hP hD hS hl)
theorem zg_tabOut (X : zX d L kd A nL p s m args c cc own) {dflt lo hi : Int} {offs : Array Int} {len : Nat} {x : Int32} (tgt : Nat) (hdg : decode cc pc = .ok (.tableswitch dflt lo hi offs, len)) (h : x.toInt < lo ∨ hi < x.toInt) (ht : (pc : Int) + dflt = (tgt : Int)) (k : zGc rs cs sl d L kd A nL p l e R s m args below meth c Q σ tgt lv st) : zGc rs cs sl d L kd A nL p l e R s m args below meth c Q σ pc lv (.int x :: st) := fun hrm H locs ls hP hD hS hl => lv_tableOut X.1 X.2.1 hdg h ht (k hrm H locs ls hP hD hS hl)
theorem zg_geti (X : zX d L kd A nL p s m args c cc own) {a k ci j index N : Nat} {C : String} {T : u_T} (ha : zT L kd a k) (hb : zb k = ci) (hci : ci < 12) (hcl : vwCl[ci]? = some (C, T, N)) (hj : j < N) (hty : (ztys ci)[j]? = some 0) (hin : ∀ w ∈ u_ws C T N, w ∈ zWL) (hlink : Cond.fieldLink own index (T j).1 (T j).2.1 (T j).2.2.1 ∈ zWL ∨ ∃ host, Cond.fieldLinkNest own index (T j).1 (T j).2.1 (T j).2.2.1 host ∈ tables_1) (hdg : decode cc pc = .ok (.getfield index, 3)) (kk : zGc rs cs sl d L kd A nL p l e R s m args below meth c Q σ (pc + 3) lv (.int (σ.1 a j) :: st)) : zGc rs cs sl d L kd A nL p l e R s m args below meth c Q σ pc lv (.ref a :: st) := by
  intro hrm H locs ls hP hD hS hl
  obtain ⟨q0, hq⟩ := zR_at (dA := d.2.2) (kd := kd) rs σ ha.1
  have he : zF d.2.2 kd σ a = .inr (ci, zfs (σ.1 a) (σ.2.1 a) (σ.2.2 a) (ztys ci) 0) := zE_o (by rw [ha.2]; exact hb) hci
  rw [he] at hq
  have hv := zfs_at (σ.1 a) (σ.2.1 a) (σ.2.2 a) (ztys ci) 0 j 0 hty
  rw [if_pos rfl, Nat.zero_add] at hv
  rcases hlink with hlink | ⟨host, hlink⟩
  · exact va_get X.1 X.2.1 X.2.2.2.2.1 hin X.2.2.2.1 X.2.2.2.2.2.1 hP q0 hq hcl j hj (X.2.2.2.2.1 _ hlink) (fun _ h => h) hv hdg (kk hrm H locs ls hP hD hS hl)
  · exact va_getN X.1 X.2.1 X.2.2.2.2.1 hin X.2.2.2.1 X.2.2.2.2.2.1 hP q0 hq hcl j hj (va_Nw.use rfl (X.2.2.2.2.2.2.1 _ hlink rfl)) (fun _ h => h) hv hdg (kk hrm H locs ls hP hD hS hl)
theorem zg_getl (X : zX d L kd A nL p s m args c cc own) {a k ci j index N : Nat} {C : String} {T : u_T} (ha : zT L kd a k) (hb : zb k = ci) (hci : ci < 12) (hcl : vwCl[ci]? = some (C, T, N)) (hj : j < N) (hty : (ztys ci)[j]? = some 1) (hin : ∀ w ∈ u_ws C T N, w ∈ zWL) (hlink : Cond.fieldLink own index (T j).1 (T j).2.1 (T j).2.2.1 ∈ zWL ∨ ∃ host, Cond.fieldLinkNest own index (T j).1 (T j).2.1 (T j).2.2.1 host ∈ tables_1) (hdg : decode cc pc = .ok (.getfield index, 3)) (kk : zGc rs cs sl d L kd A nL p l e R s m args below meth c Q σ (pc + 3) lv (.long (σ.2.1 a j) :: st)) : zGc rs cs sl d L kd A nL p l e R s m args below meth c Q σ pc lv (.ref a :: st) := by
  intro hrm H locs ls hP hD hS hl
  obtain ⟨q0, hq⟩ := zR_at (dA := d.2.2) (kd := kd) rs σ ha.1
  have he : zF d.2.2 kd σ a = .inr (ci, zfs (σ.1 a) (σ.2.1 a) (σ.2.2 a) (ztys ci) 0) := zE_o (by rw [ha.2]; exact hb) hci
  rw [he] at hq
  have hv := zfs_at (σ.1 a) (σ.2.1 a) (σ.2.2 a) (ztys ci) 0 j 1 hty
  rw [if_neg (by decide), if_pos rfl, Nat.zero_add] at hv
  rcases hlink with hlink | ⟨host, hlink⟩
  · exact va_get X.1 X.2.1 X.2.2.2.2.1 hin X.2.2.2.1 X.2.2.2.2.2.1 hP q0 hq hcl j hj (X.2.2.2.2.1 _ hlink) (fun _ h => h) hv hdg (kk hrm H locs ls hP hD hS hl)
  · exact va_getN X.1 X.2.1 X.2.2.2.2.1 hin X.2.2.2.1 X.2.2.2.2.2.1 hP q0 hq hcl j hj (va_Nw.use rfl (X.2.2.2.2.2.2.1 _ hlink rfl)) (fun _ h => h) hv hdg (kk hrm H locs ls hP hD hS hl)
theorem zg_getr (X : zX d L kd A nL p s m args c cc own) {a k ci j index N : Nat} {C : String} {T : u_T} (ha : zT L kd a k) (hb : zb k = ci) (hci : ci < 12) (hcl : vwCl[ci]? = some (C, T, N)) (hj : j < N) (hty : (ztys ci)[j]? = some 2) (hin : ∀ w ∈ u_ws C T N, w ∈ zWL) (hlink : Cond.fieldLink own index (T j).1 (T j).2.1 (T j).2.2.1 ∈ zWL ∨ ∃ host, Cond.fieldLinkNest own index (T j).1 (T j).2.1 (T j).2.2.1 host ∈ tables_1) (hdg : decode cc pc = .ok (.getfield index, 3)) (kk : zGc rs cs sl d L kd A nL p l e R s m args below meth c Q σ (pc + 3) lv (va_rf (σ.2.2 a j) :: st)) : zGc rs cs sl d L kd A nL p l e R s m args below meth c Q σ pc lv (.ref a :: st) := by
  intro hrm H locs ls hP hD hS hl
  obtain ⟨q0, hq⟩ := zR_at (dA := d.2.2) (kd := kd) rs σ ha.1
  have he : zF d.2.2 kd σ a = .inr (ci, zfs (σ.1 a) (σ.2.1 a) (σ.2.2 a) (ztys ci) 0) := zE_o (by rw [ha.2]; exact hb) hci
  rw [he] at hq
  have hv := zfs_at (σ.1 a) (σ.2.1 a) (σ.2.2 a) (ztys ci) 0 j 2 hty
  rw [if_neg (by decide), if_neg (by decide), Nat.zero_add] at hv
  rcases hlink with hlink | ⟨host, hlink⟩
  · exact va_get X.1 X.2.1 X.2.2.2.2.1 hin X.2.2.2.1 X.2.2.2.2.2.1 hP q0 hq hcl j hj (X.2.2.2.2.1 _ hlink) (fun _ h => h) hv hdg (kk hrm H locs ls hP hD hS hl)
  · exact va_getN X.1 X.2.1 X.2.2.2.2.1 hin X.2.2.2.1 X.2.2.2.2.2.1 hP q0 hq hcl j hj (va_Nw.use rfl (X.2.2.2.2.2.2.1 _ hlink rfl)) (fun _ h => h) hv hdg (kk hrm H locs ls hP hD hS hl)
theorem zg_puti (X : zX d L kd A nL p s m args c cc own) {a k ci j index N : Nat} {C : String} {T : u_T} {v : Int32} {ty : FieldType} {ty0 : Nat → FieldType} (ha : zT L kd a k) (hb : zb k = ci) (hci : ci < 12) (hcl : vwCl[ci]? = some (C, T, N)) (hj : j < N) (hty : (ztys ci)[j]? = some 0) (hlen : (ztys ci).length = N) (hin : ∀ w ∈ u_ws C T N, w ∈ zWL) (hty0 : ∀ k, k < N → parseFieldDescriptor (T k).2.2.1 = some (ty0 k)) (hnm : ∀ a, a < N → ∀ b, b < N → a ≠ b → (T a).2.1 ≠ (T b).2.1) (hlink : Cond.fieldLink own index (T j).1 (T j).2.1 (T j).2.2.1 ∈ zWL ∨ ∃ host, Cond.fieldLinkNest own index (T j).1 (T j).2.1 (T j).2.2.1 host ∈ tables_1) (hfin : (T j).2.2.2 = false) (hd : parseFieldDescriptor (T j).2.2.1 = some ty) (hn : narrow ty (.int v) = .int v) (hfit : fits ty (.int v) = true) (hdg : decode cc pc = .ok (.putfield index, 3)) (kk : ∀ σ2 : zS, σ2 = (zu σ.1 a j v, σ.2.1, σ.2.2) → zGc rs cs sl d L kd A nL p l e R s m args below meth c Q σ2 (pc + 3) lv st) : zGc rs cs sl d L kd A nL p l e R s m args below meth c Q σ pc lv (.int v :: .ref a :: st) := by
  intro hrm H locs ls hP hD hS hl
  obtain ⟨q0, hq⟩ := zR_at (dA := d.2.2) (kd := kd) rs σ ha.1
  have hq1 := hq
  have he : ∀ τ : zS, zF d.2.2 kd τ a = .inr (ci, zfs (τ.1 a) (τ.2.1 a) (τ.2.2 a) (ztys ci) 0) := fun τ => zE_o (by rw [ha.2]; exact hb) hci
  rw [he] at hq
  have hset : (rs ++ zW d.2.2 L kd σ).set q0 (a, .inr (ci, (zfs (σ.1 a) (σ.2.1 a) (σ.2.2 a) (ztys ci) 0).set j (.int v))) = rs ++ zW d.2.2 L kd (zu σ.1 a j v, σ.2.1, σ.2.2) := by
    refine zR_set hD ha.1 hq1 ?_ (fun b hb => by simp only [zF, zu_n _ _ _ hb])
    rw [he, zfs_set0 _ _ _ _ _ 0 j hty, Nat.zero_add]
    simp only [zu_a]
  have hlt : j < (zfs (σ.1 a) (σ.2.1 a) (σ.2.2 a) (ztys ci) 0).length := by rw [zfs_len, hlen]; exact hj
  rcases hlink with hlink | ⟨host, hlink⟩
  · exact va_put X.1 X.2.1 X.2.2.2.2.1 hin ty0 hty0 hnm X.2.2.2.1 X.2.2.2.2.2.1 hP hD hS q0 hq hcl j hj (X.2.2.2.2.1 _ hlink) (fun _ h => h) hfin hd hn hfit hlt hdg (fun H1 locs1 hP hD hS => kk _ rfl hrm H1 locs1 ls (by rw [hset] at hP; exact hP) (by rw [hset] at hD; exact hD) hS hl)
  · exact va_putN X.1 X.2.1 X.2.2.2.2.1 hin ty0 hty0 hnm X.2.2.2.1 X.2.2.2.2.2.1 hP hD hS q0 hq hcl j hj (va_Nw.use rfl (X.2.2.2.2.2.2.1 _ hlink rfl)) (fun _ h => h) hfin hd hn hfit hlt hdg (fun H1 locs1 hP hD hS => kk _ rfl hrm H1 locs1 ls (by rw [hset] at hP; exact hP) (by rw [hset] at hD; exact hD) hS hl)
theorem zg_putl (X : zX d L kd A nL p s m args c cc own) {a k ci j index N : Nat} {C : String} {T : u_T} {v : Int64} {ty : FieldType} {ty0 : Nat → FieldType} (ha : zT L kd a k) (hb : zb k = ci) (hci : ci < 12) (hcl : vwCl[ci]? = some (C, T, N)) (hj : j < N) (hty : (ztys ci)[j]? = some 1) (hlen : (ztys ci).length = N) (hin : ∀ w ∈ u_ws C T N, w ∈ zWL) (hty0 : ∀ k, k < N → parseFieldDescriptor (T k).2.2.1 = some (ty0 k)) (hnm : ∀ a, a < N → ∀ b, b < N → a ≠ b → (T a).2.1 ≠ (T b).2.1) (hlink : Cond.fieldLink own index (T j).1 (T j).2.1 (T j).2.2.1 ∈ zWL ∨ ∃ host, Cond.fieldLinkNest own index (T j).1 (T j).2.1 (T j).2.2.1 host ∈ tables_1) (hfin : (T j).2.2.2 = false) (hd : parseFieldDescriptor (T j).2.2.1 = some ty) (hn : narrow ty (.long v) = .long v) (hfit : fits ty (.long v) = true) (hdg : decode cc pc = .ok (.putfield index, 3)) (kk : ∀ σ2 : zS, σ2 = (σ.1, zu σ.2.1 a j v, σ.2.2) → zGc rs cs sl d L kd A nL p l e R s m args below meth c Q σ2 (pc + 3) lv st) : zGc rs cs sl d L kd A nL p l e R s m args below meth c Q σ pc lv (.long v :: .ref a :: st) := by
  intro hrm H locs ls hP hD hS hl
  obtain ⟨q0, hq⟩ := zR_at (dA := d.2.2) (kd := kd) rs σ ha.1
  have hq1 := hq
  have he : ∀ τ : zS, zF d.2.2 kd τ a = .inr (ci, zfs (τ.1 a) (τ.2.1 a) (τ.2.2 a) (ztys ci) 0) := fun τ => zE_o (by rw [ha.2]; exact hb) hci
  rw [he] at hq
  have hset : (rs ++ zW d.2.2 L kd σ).set q0 (a, .inr (ci, (zfs (σ.1 a) (σ.2.1 a) (σ.2.2 a) (ztys ci) 0).set j (.long v))) = rs ++ zW d.2.2 L kd (σ.1, zu σ.2.1 a j v, σ.2.2) := by
    refine zR_set hD ha.1 hq1 ?_ (fun b hb => by simp only [zF, zu_n _ _ _ hb])
    rw [he, zfs_set1 _ _ _ _ _ 0 j hty, Nat.zero_add]
    simp only [zu_a]
  have hlt : j < (zfs (σ.1 a) (σ.2.1 a) (σ.2.2 a) (ztys ci) 0).length := by rw [zfs_len, hlen]; exact hj
  rcases hlink with hlink | ⟨host, hlink⟩
  · exact va_put X.1 X.2.1 X.2.2.2.2.1 hin ty0 hty0 hnm X.2.2.2.1 X.2.2.2.2.2.1 hP hD hS q0 hq hcl j hj (X.2.2.2.2.1 _ hlink) (fun _ h => h) hfin hd hn hfit hlt hdg (fun H1 locs1 hP hD hS => kk _ rfl hrm H1 locs1 ls (by rw [hset] at hP; exact hP) (by rw [hset] at hD; exact hD) hS hl)
  · exact va_putN X.1 X.2.1 X.2.2.2.2.1 hin ty0 hty0 hnm X.2.2.2.1 X.2.2.2.2.2.1 hP hD hS q0 hq hcl j hj (va_Nw.use rfl (X.2.2.2.2.2.2.1 _ hlink rfl)) (fun _ h => h) hfin hd hn hfit hlt hdg (fun H1 locs1 hP hD hS => kk _ rfl hrm H1 locs1 ls (by rw [hset] at hP; exact hP) (by rw [hset] at hD; exact hD) hS hl)
theorem zg_putr (X : zX d L kd A nL p s m args c cc own) {a k ci j index N : Nat} {C : String} {T : u_T} {v : Option Nat} {ty : FieldType} {ty0 : Nat → FieldType} (ha : zT L kd a k) (hb : zb k = ci) (hci : ci < 12) (hcl : vwCl[ci]? = some (C, T, N)) (hj : j < N) (hty : (ztys ci)[j]? = some 2) (hlen : (ztys ci).length = N) (hin : ∀ w ∈ u_ws C T N, w ∈ zWL) (hty0 : ∀ k, k < N → parseFieldDescriptor (T k).2.2.1 = some (ty0 k)) (hnm : ∀ a, a < N → ∀ b, b < N → a ≠ b → (T a).2.1 ≠ (T b).2.1) (hlink : Cond.fieldLink own index (T j).1 (T j).2.1 (T j).2.2.1 ∈ zWL ∨ ∃ host, Cond.fieldLinkNest own index (T j).1 (T j).2.1 (T j).2.2.1 host ∈ tables_1) (hfin : (T j).2.2.2 = false) (hd : parseFieldDescriptor (T j).2.2.1 = some ty) (hn : narrow ty (va_rf v) = va_rf v) (hfit : fits ty (va_rf v) = true) (hdg : decode cc pc = .ok (.putfield index, 3)) (kk : ∀ σ2 : zS, σ2 = (σ.1, σ.2.1, zu σ.2.2 a j v) → zGc rs cs sl d L kd A nL p l e R s m args below meth c Q σ2 (pc + 3) lv st) : zGc rs cs sl d L kd A nL p l e R s m args below meth c Q σ pc lv (va_rf v :: .ref a :: st) := by
  intro hrm H locs ls hP hD hS hl
  obtain ⟨q0, hq⟩ := zR_at (dA := d.2.2) (kd := kd) rs σ ha.1
  have hq1 := hq
  have he : ∀ τ : zS, zF d.2.2 kd τ a = .inr (ci, zfs (τ.1 a) (τ.2.1 a) (τ.2.2 a) (ztys ci) 0) := fun τ => zE_o (by rw [ha.2]; exact hb) hci
  rw [he] at hq
  have hset : (rs ++ zW d.2.2 L kd σ).set q0 (a, .inr (ci, (zfs (σ.1 a) (σ.2.1 a) (σ.2.2 a) (ztys ci) 0).set j (va_rf v))) = rs ++ zW d.2.2 L kd (σ.1, σ.2.1, zu σ.2.2 a j v) := by
    refine zR_set hD ha.1 hq1 ?_ (fun b hb => by simp only [zF, zu_n _ _ _ hb])
    rw [he, zfs_set2 _ _ _ _ _ 0 j hty, Nat.zero_add]
    simp only [zu_a]
  have hlt : j < (zfs (σ.1 a) (σ.2.1 a) (σ.2.2 a) (ztys ci) 0).length := by rw [zfs_len, hlen]; exact hj
  rcases hlink with hlink | ⟨host, hlink⟩
  · exact va_put X.1 X.2.1 X.2.2.2.2.1 hin ty0 hty0 hnm X.2.2.2.1 X.2.2.2.2.2.1 hP hD hS q0 hq hcl j hj (X.2.2.2.2.1 _ hlink) (fun _ h => h) hfin hd hn hfit hlt hdg (fun H1 locs1 hP hD hS => kk _ rfl hrm H1 locs1 ls (by rw [hset] at hP; exact hP) (by rw [hset] at hD; exact hD) hS hl)
  · exact va_putN X.1 X.2.1 X.2.2.2.2.1 hin ty0 hty0 hnm X.2.2.2.1 X.2.2.2.2.2.1 hP hD hS q0 hq hcl j hj (va_Nw.use rfl (X.2.2.2.2.2.2.1 _ hlink rfl)) (fun _ h => h) hfin hd hn hfit hlt hdg (fun H1 locs1 hP hD hS => kk _ rfl hrm H1 locs1 ls (by rw [hset] at hP; exact hP) (by rw [hset] at hD; exact hD) hS hl)
theorem zg_iald (X : zX d L kd A nL p s m args c cc own) {a k : Nat} {i : Int32} (ha : zT L kd a k) (hb : zb k = 13) (h0 : 0 ≤ i.toInt) (h1 : i.toInt < zn k) (hdg : decode cc pc = .ok (.iaload, 1)) (kk : zGc rs cs sl d L kd A nL p l e R s m args below meth c Q σ (pc + 1) lv (.int (σ.1 a i.toNatClampNeg) :: st)) : zGc rs cs sl d L kd A nL p l e R s m args below meth c Q σ pc lv (.int i :: .ref a :: st) := by
  intro hrm H locs ls hP hD hS hl
  obtain ⟨q0, hq⟩ := zR_at (dA := d.2.2) (kd := kd) rs σ ha.1
  have he : zF d.2.2 kd σ a = .inl (d.2.2 13, zn (kd a), .inl (σ.1 a)) := zE_i (by rw [ha.2]; exact hb) (Or.inr (Or.inl rfl))
  rw [he, ha.2] at hq
  exact va_iald X.1 X.2.1 X.2.2.2.2.2.1 hP q0 1 hq rfl (zb_in h0 h1) hdg (kk hrm H locs ls hP hD hS hl)
theorem zg_iast (X : zX d L kd A nL p s m args c cc own) {a k : Nat} {i x : Int32} (ha : zT L kd a k) (hb : zb k = 13) (h0 : 0 ≤ i.toInt) (h1 : i.toInt < zn k) (hdg : decode cc pc = .ok (.iastore, 1)) (kk : ∀ σ2 : zS, σ2 = (zu σ.1 a i.toNatClampNeg x, σ.2.1, σ.2.2) → zGc rs cs sl d L kd A nL p l e R s m args below meth c Q σ2 (pc + 1) lv st) : zGc rs cs sl d L kd A nL p l e R s m args below meth c Q σ pc lv (.int x :: .int i :: .ref a :: st) := by
  intro hrm H locs ls hP hD hS hl
  obtain ⟨q0, hq⟩ := zR_at (dA := d.2.2) (kd := kd) rs σ ha.1
  have hq1 := hq
  have he : ∀ τ : zS, zF d.2.2 kd τ a = .inl (d.2.2 13, zn k, .inl (τ.1 a)) := fun τ => by rw [← ha.2]; exact zE_i (by rw [ha.2]; exact hb) (Or.inr (Or.inl rfl))
  rw [he] at hq
  refine va_iast X.1 X.2.1 X.2.2.2.2.2.1 hP hD hS q0 1 hq rfl (zb_in h0 h1) hdg (fun H1 locs1 hP hD2 hS => kk _ rfl hrm H1 locs1 ls ?_ (zR_any hD) hS hl)
  rw [zR_set (σ' := (zu σ.1 a i.toNatClampNeg x, σ.2.1, σ.2.2)) hD ha.1 hq1 (by rw [he]; simp only [zu_a]; rfl) (fun b hb => by simp only [zF, zu_n _ _ _ hb])] at hP
  exact hP
theorem zg_bald (X : zX d L kd A nL p s m args c cc own) {a k : Nat} {i : Int32} (ha : zT L kd a k) (hb : zb k = 12) (h0 : 0 ≤ i.toInt) (h1 : i.toInt < zn k) (hdg : decode cc pc = .ok (.baload, 1)) (kk : zGc rs cs sl d L kd A nL p l e R s m args below meth c Q σ (pc + 1) lv (.int (σ.1 a i.toNatClampNeg) :: st)) : zGc rs cs sl d L kd A nL p l e R s m args below meth c Q σ pc lv (.int i :: .ref a :: st) := by
  intro hrm H locs ls hP hD hS hl
  obtain ⟨q0, hq⟩ := zR_at (dA := d.2.2) (kd := kd) rs σ ha.1
  have he : zF d.2.2 kd σ a = .inl (d.2.2 12, zn (kd a), .inl (σ.1 a)) := zE_i (by rw [ha.2]; exact hb) (Or.inl rfl)
  rw [he, ha.2] at hq
  exact va_bald X.1 X.2.1 X.2.2.2.2.2.1 hP q0 0 hq rfl (zb_in h0 h1) hdg (kk hrm H locs ls hP hD hS hl)
theorem zg_bast (X : zX d L kd A nL p s m args c cc own) {a k : Nat} {i x : Int32} (ha : zT L kd a k) (hb : zb k = 12) (h0 : 0 ≤ i.toInt) (h1 : i.toInt < zn k) (hdg : decode cc pc = .ok (.bastore, 1)) (kk : ∀ σ2 : zS, σ2 = (zu σ.1 a i.toNatClampNeg (vp_nar .byte x), σ.2.1, σ.2.2) → zGc rs cs sl d L kd A nL p l e R s m args below meth c Q σ2 (pc + 1) lv st) : zGc rs cs sl d L kd A nL p l e R s m args below meth c Q σ pc lv (.int x :: .int i :: .ref a :: st) := by
  intro hrm H locs ls hP hD hS hl
  obtain ⟨q0, hq⟩ := zR_at (dA := d.2.2) (kd := kd) rs σ ha.1
  have hq1 := hq
  have he : ∀ τ : zS, zF d.2.2 kd τ a = .inl (d.2.2 12, zn k, .inl (τ.1 a)) := fun τ => by rw [← ha.2]; exact zE_i (by rw [ha.2]; exact hb) (Or.inl rfl)
  rw [he] at hq
  refine va_bast X.1 X.2.1 X.2.2.2.2.2.1 hP hD hS q0 0 hq rfl (zb_in h0 h1) hdg (fun H1 locs1 hP hD2 hS => kk _ rfl hrm H1 locs1 ls ?_ (zR_any hD) hS hl)
  rw [zR_set (σ' := (zu σ.1 a i.toNatClampNeg (vp_nar .byte x), σ.2.1, σ.2.2)) hD ha.1 hq1 (by rw [he]; simp only [zu_a]; rfl) (fun b hb => by simp only [zF, zu_n _ _ _ hb])] at hP
  exact hP
theorem zg_zald (X : zX d L kd A nL p s m args c cc own) {a k : Nat} {i : Int32} (ha : zT L kd a k) (hb : zb k = 15) (h0 : 0 ≤ i.toInt) (h1 : i.toInt < zn k) (hdg : decode cc pc = .ok (.baload, 1)) (kk : zGc rs cs sl d L kd A nL p l e R s m args below meth c Q σ (pc + 1) lv (.int (σ.1 a i.toNatClampNeg) :: st)) : zGc rs cs sl d L kd A nL p l e R s m args below meth c Q σ pc lv (.int i :: .ref a :: st) := by
  intro hrm H locs ls hP hD hS hl
  obtain ⟨q0, hq⟩ := zR_at (dA := d.2.2) (kd := kd) rs σ ha.1
  have he : zF d.2.2 kd σ a = .inl (d.2.2 15, zn (kd a), .inl (σ.1 a)) := zE_i (by rw [ha.2]; exact hb) (Or.inr (Or.inr rfl))
  rw [he, ha.2] at hq
  exact va_zald X.1 X.2.1 X.2.2.2.2.2.1 hP q0 3 hq rfl (zb_in h0 h1) hdg (kk hrm H locs ls hP hD hS hl)
theorem zg_zast (X : zX d L kd A nL p s m args c cc own) {a k : Nat} {i x : Int32} (ha : zT L kd a k) (hb : zb k = 15) (h0 : 0 ≤ i.toInt) (h1 : i.toInt < zn k) (hdg : decode cc pc = .ok (.bastore, 1)) (kk : ∀ σ2 : zS, σ2 = (zu σ.1 a i.toNatClampNeg (vp_nar .boolean x), σ.2.1, σ.2.2) → zGc rs cs sl d L kd A nL p l e R s m args below meth c Q σ2 (pc + 1) lv st) : zGc rs cs sl d L kd A nL p l e R s m args below meth c Q σ pc lv (.int x :: .int i :: .ref a :: st) := by
  intro hrm H locs ls hP hD hS hl
  obtain ⟨q0, hq⟩ := zR_at (dA := d.2.2) (kd := kd) rs σ ha.1
  have hq1 := hq
  have he : ∀ τ : zS, zF d.2.2 kd τ a = .inl (d.2.2 15, zn k, .inl (τ.1 a)) := fun τ => by rw [← ha.2]; exact zE_i (by rw [ha.2]; exact hb) (Or.inr (Or.inr rfl))
  rw [he] at hq
  refine va_zast X.1 X.2.1 X.2.2.2.2.2.1 hP hD hS q0 3 hq rfl (zb_in h0 h1) hdg (fun H1 locs1 hP hD2 hS => kk _ rfl hrm H1 locs1 ls ?_ (zR_any hD) hS hl)
  rw [zR_set (σ' := (zu σ.1 a i.toNatClampNeg (vp_nar .boolean x), σ.2.1, σ.2.2)) hD ha.1 hq1 (by rw [he]; simp only [zu_a]; rfl) (fun b hb => by simp only [zF, zu_n _ _ _ hb])] at hP
  exact hP
theorem zg_lald (X : zX d L kd A nL p s m args c cc own) {a k : Nat} {i : Int32} (ha : zT L kd a k) (hb : zb k = 14) (h0 : 0 ≤ i.toInt) (h1 : i.toInt < zn k) (hdg : decode cc pc = .ok (.laload, 1)) (kk : zGc rs cs sl d L kd A nL p l e R s m args below meth c Q σ (pc + 1) lv (.long (σ.2.1 a i.toNatClampNeg) :: st)) : zGc rs cs sl d L kd A nL p l e R s m args below meth c Q σ pc lv (.int i :: .ref a :: st) := by
  intro hrm H locs ls hP hD hS hl
  obtain ⟨q0, hq⟩ := zR_at (dA := d.2.2) (kd := kd) rs σ ha.1
  have he : zF d.2.2 kd σ a = .inl (d.2.2 14, zn (kd a), .inr (.inl (σ.2.1 a))) := zE_l (by rw [ha.2]; exact hb)
  rw [he, ha.2] at hq
  exact va_lald X.1 X.2.1 X.2.2.2.2.2.1 hP q0 2 hq rfl (zb_in h0 h1) hdg (kk hrm H locs ls hP hD hS hl)
theorem zg_last (X : zX d L kd A nL p s m args c cc own) {a k : Nat} {i : Int32} {x : Int64} (ha : zT L kd a k) (hb : zb k = 14) (h0 : 0 ≤ i.toInt) (h1 : i.toInt < zn k) (hdg : decode cc pc = .ok (.lastore, 1)) (kk : ∀ σ2 : zS, σ2 = (σ.1, zu σ.2.1 a i.toNatClampNeg x, σ.2.2) → zGc rs cs sl d L kd A nL p l e R s m args below meth c Q σ2 (pc + 1) lv st) : zGc rs cs sl d L kd A nL p l e R s m args below meth c Q σ pc lv (.long x :: .int i :: .ref a :: st) := by
  intro hrm H locs ls hP hD hS hl
  obtain ⟨q0, hq⟩ := zR_at (dA := d.2.2) (kd := kd) rs σ ha.1
  have hq1 := hq
  have he : ∀ τ : zS, zF d.2.2 kd τ a = .inl (d.2.2 14, zn k, .inr (.inl (τ.2.1 a))) := fun τ => by rw [← ha.2]; exact zE_l (by rw [ha.2]; exact hb)
  rw [he] at hq
  refine va_last X.1 X.2.1 X.2.2.2.2.2.1 hP hD hS q0 2 hq rfl (zb_in h0 h1) hdg (fun H1 locs1 hP hD2 hS => kk _ rfl hrm H1 locs1 ls ?_ (zR_any hD) hS hl)
  rw [zR_set (σ' := (σ.1, zu σ.2.1 a i.toNatClampNeg x, σ.2.2)) hD ha.1 hq1 (by rw [he]; simp only [zu_a]; rfl) (fun b hb => by simp only [zF, zu_n _ _ _ hb])] at hP
  exact hP
theorem zg_aald (X : zX d L kd A nL p s m args c cc own) {a k : Nat} {i : Int32} (ha : zT L kd a k) (hb : zb k = 16) (h0 : 0 ≤ i.toInt) (h1 : i.toInt < zn k) (hdg : decode cc pc = .ok (.aaload, 1)) (kk : zGc rs cs sl d L kd A nL p l e R s m args below meth c Q σ (pc + 1) lv (va_rf (σ.2.2 a i.toNatClampNeg) :: st)) : zGc rs cs sl d L kd A nL p l e R s m args below meth c Q σ pc lv (.int i :: .ref a :: st) := by
  intro hrm H locs ls hP hD hS hl
  obtain ⟨q0, hq⟩ := zR_at (dA := d.2.2) (kd := kd) rs σ ha.1
  have he : zF d.2.2 kd σ a = .inl (d.2.2 16, zn (kd a), .inr (.inr (.inr (.inr (σ.2.2 a))))) := zE_q (by rw [ha.2]; exact hb)
  rw [he, ha.2] at hq
  exact va_aldq X.1 X.2.1 X.2.2.2.2.2.1 hP q0 4 hq rfl (zb_in h0 h1) hdg (kk hrm H locs ls hP hD hS hl)
theorem zg_alen12 (X : zX d L kd A nL p s m args c cc own) {a k : Nat} (ha : zT L kd a k) (hb : zb k = 12) (hlt : zn k < 2147483648) (hdg : decode cc pc = .ok (.arraylength, 1)) (kk : ∀ v : Int32, v.toInt = zn k → zGc rs cs sl d L kd A nL p l e R s m args below meth c Q σ (pc + 1) lv (.int v :: st)) : zGc rs cs sl d L kd A nL p l e R s m args below meth c Q σ pc lv (.ref a :: st) := by
  intro hrm H locs ls hP hD hS hl
  obtain ⟨q0, hq⟩ := zR_at (dA := d.2.2) (kd := kd) rs σ ha.1
  have he : zF d.2.2 kd σ a = .inl (d.2.2 12, zn (kd a), .inl (σ.1 a)) := zE_i (by rw [ha.2]; exact hb) (Or.inl rfl)
  rw [he, ha.2] at hq
  exact va_alen (tys := zty d.2.2) (ty := .byte) X.1 X.2.1 X.2.2.2.2.2.1 hP q0 0 hq rfl rfl hdg (kk _ (nI_toInt hlt) hrm H locs ls hP hD hS hl)
theorem zg_alen13 (X : zX d L kd A nL p s m args c cc own) {a k : Nat} (ha : zT L kd a k) (hb : zb k = 13) (hlt : zn k < 2147483648) (hdg : decode cc pc = .ok (.arraylength, 1)) (kk : ∀ v : Int32, v.toInt = zn k → zGc rs cs sl d L kd A nL p l e R s m args below meth c Q σ (pc + 1) lv (.int v :: st)) : zGc rs cs sl d L kd A nL p l e R s m args below meth c Q σ pc lv (.ref a :: st) := by
  intro hrm H locs ls hP hD hS hl
  obtain ⟨q0, hq⟩ := zR_at (dA := d.2.2) (kd := kd) rs σ ha.1
  have he : zF d.2.2 kd σ a = .inl (d.2.2 13, zn (kd a), .inl (σ.1 a)) := zE_i (by rw [ha.2]; exact hb) (Or.inr (Or.inl rfl))
  rw [he, ha.2] at hq
  exact va_alen (tys := zty d.2.2) (ty := .int) X.1 X.2.1 X.2.2.2.2.2.1 hP q0 1 hq rfl rfl hdg (kk _ (nI_toInt hlt) hrm H locs ls hP hD hS hl)
theorem zg_alen15 (X : zX d L kd A nL p s m args c cc own) {a k : Nat} (ha : zT L kd a k) (hb : zb k = 15) (hlt : zn k < 2147483648) (hdg : decode cc pc = .ok (.arraylength, 1)) (kk : ∀ v : Int32, v.toInt = zn k → zGc rs cs sl d L kd A nL p l e R s m args below meth c Q σ (pc + 1) lv (.int v :: st)) : zGc rs cs sl d L kd A nL p l e R s m args below meth c Q σ pc lv (.ref a :: st) := by
  intro hrm H locs ls hP hD hS hl
  obtain ⟨q0, hq⟩ := zR_at (dA := d.2.2) (kd := kd) rs σ ha.1
  have he : zF d.2.2 kd σ a = .inl (d.2.2 15, zn (kd a), .inl (σ.1 a)) := zE_i (by rw [ha.2]; exact hb) (Or.inr (Or.inr rfl))
  rw [he, ha.2] at hq
  exact va_alen (tys := zty d.2.2) (ty := .boolean) X.1 X.2.1 X.2.2.2.2.2.1 hP q0 3 hq rfl rfl hdg (kk _ (nI_toInt hlt) hrm H locs ls hP hD hS hl)
end ZROWS
