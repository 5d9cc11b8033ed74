theorem zf_list {k j k2 : Nat} (hk : k < 12) (h : zf 0 k j = some k2) : (j, k2) ∈ (zfl.filter (fun q => q.1 == k && q.2.2.2 == 0)).map (fun q => (q.2.1, q.2.2.1)) := by
  unfold zf at h
  split at h
  · next q hq =>
    have hm := List.mem_of_find?_eq_some hq
    have hp := List.find?_some hq
    have key : ∀ q ∈ zfl, q.1 < 12 → q.2.1 ≠ 9999 := by decide +kernel
    split at h
    · next c =>
      cases h
      simp only [Bool.and_eq_true, Bool.or_eq_true, beq_iff_eq] at hp
      have h9 := key q hm (by omega)
      have hj : q.2.1 = j := by omega
      refine List.mem_map.mpr ⟨q, List.mem_filter.mpr ⟨hm, ?_⟩, by rw [hj]⟩
      simp only [Bool.and_eq_true, beq_iff_eq]
      omega
    · cases h
  · cases h
theorem zr_list {k : Nat} (hk : k < 12) (j : Nat) : zr 0 k j = (-2147483648, 2147483647) ∨ (j, zr 0 k j) ∈ ((zrl 0).filter (fun q => q.1 == k)).map (fun q => (q.2.1, q.2.2)) := by
  cases hq : (zrl 0).find? (fun q => q.1 == k && (q.2.1 == 9999 || q.2.1 == j)) with
  | none => exact Or.inl (by simp [zr, hq])
  | some q =>
    right
    have e : zr 0 k j = q.2.2 := by simp [zr, hq]
    have hm := List.mem_of_find?_eq_some hq
    have hp := List.find?_some hq
    have key : ∀ q ∈ zrl 0, q.1 < 12 → q.2.1 ≠ 9999 := by decide +kernel
    simp only [Bool.and_eq_true, Bool.or_eq_true, beq_iff_eq] at hp
    have h9 := key q hm (by omega)
    refine List.mem_map.mpr ⟨q, List.mem_filter.mpr ⟨hm, by simp only [beq_iff_eq]; omega⟩, ?_⟩
    rw [e]
    have hj : q.2.1 = j := by omega
    rw [hj]
theorem zb_i0 : (0 : Int32).toInt = 0 := rfl
section ZNEW4
variable {rs : va_W} {cs sl : Nat} {d : zD2} {L ks : List Nat} {kd : Nat → Nat} {A : Nat → Prop} {nL : Nat} {p : Program} {l : Launch} {e : Env} {R : Room} {s : State} {m : MethodId} {args : Array Value} {below : List Frame} {meth : Method} {c : Code} {cc : ByteArray} {own : String} {Q : State → Prop} {σ : zS} {pc : Nat} {lv : List (Nat × Value)} {st : List Value}
theorem zg_null (X : zX d L kd A nL p s m args c cc own) (hdg : decode cc pc = .ok (.aconst_null, 1)) (k : zGc rs cs sl d L kd A nL p l e R s m args below meth c Q σ (pc + 1) lv (.null :: st)) : zGc rs cs sl d L kd A nL p l e R s m args below meth c Q σ pc lv st := fun hz H locs ls hP hD hS hl => lv_null X.1 X.2.1 hdg (k hz H locs ls hP hD hS hl)
/-- the object that was being made stands among the others -/
theorem zc_typed {b2 : Bool} {a0 k : Nat} {fs : List Value} (i : Nat → Int32) (jl : Nat → Int64) (q : Nat → Option Nat) (hk : zK ks L kd σ) (hb : zb k = k) (h12 : k < 12) (hfs : fs = zfs i jl q (ztys k) 0) (hr : ∀ j, (zr 0 k j).1 ≤ (i j).toInt ∧ (i j).toInt ≤ (zr 0 k j).2) (hf : ∀ j k2, zf 0 k j = some k2 → ∃ y, q j = some y ∧ zT L kd y k2) (hs : zsole k = true → ks.contains k = false) (h11 : k ≠ 11) (h1s : zs1 k = true → ks.contains k = false) (hb2 : b2 = true → ks.contains 8 = true) (hin : zini b2 k i jl) (hq : ∀ j y, q j = some y → y ∈ L ∧ (kd y ≠ 6 → zrt L σ y)) (hi : ∀ j j' y, q j = some y → q j' = some y → kd y ≠ 6 → zro k j → zro k j' → j = j')
    (kk : ∀ (L2 : List Nat) (kd2 : Nat → Nat) (σ2 : zS), zEx0 L kd σ L2 kd2 σ2 → zT L2 kd2 a0 k → zrt L2 σ2 a0 → zKb b2 (k :: ks) L2 kd2 σ2 → zGc [] cs sl d L2 kd2 A nL p l e R s m args below meth c Q σ2 pc lv st) : zGc [(a0, .inr (k, fs))] cs sl d L kd A nL p l e R s m args below meth c Q σ pc lv st := by
  intro hz H locs ls hP hD hS hl
  have hw : zW d.2.2 [a0] (fun _ => k) (fun _ => i, fun _ => jl, fun _ => q) = [(a0, .inr (k, fs))] := by
    show [(a0, zE d.2.2 k i jl q)] = _
    rw [zE_o hb h12, hfs]
  rw [← hw] at hP hD
  have hd : ∀ a ∈ [a0], a ∉ L := zdis (rs := []) (dA := d.2.2) (kd1 := fun _ => k) (kd2 := kd) (σ1 := (fun _ => i, fun _ => jl, fun _ => q)) (σ2 := σ) hD
  rw [← zW_app hd] at hP hD
  refine kk _ _ _ zEx0.r ⟨List.mem_append_left _ List.mem_cons_self, zja_l (hd _ List.mem_cons_self)⟩ (fun a ha j e => ?_) (zKb.obj (τ := (fun _ => i, fun _ => jl, fun _ => q)) hk hd hr hf hs h11 hb2 (by omega) h1s hin hq hi) hz H locs ls hP hD hS hl
  by_cases c : a ∈ L
  · rw [show (zjs L (fun _ => i, fun _ => jl, fun _ => q) σ).2.2 a = σ.2.2 a from zja_r c] at e
    exact hd a0 List.mem_cons_self (hk.2.2.2.1 a c j a0 e)
  · rw [show (zjs L (fun _ => i, fun _ => jl, fun _ => q) σ).2.2 a = q from zja_l c] at e
    exact hd a0 List.mem_cons_self (hq j a0 e).1
end ZNEW4
theorem zK.sub {ks ks2 L : List Nat} {kd : Nat → Nat} {σ : zS} (h : zK ks L kd σ) (hs : ∀ k ∈ ks, k ∈ ks2) (h8 : ks2.contains 8 = false) : zK ks2 L kd σ := ⟨h.1, fun a ha => hs _ (h.2.1 a ha), fun a ha => by
  obtain ⟨i1, i2, i3, i4, i5, i6⟩ := h.2.2.1 a ha
  exact ⟨i1, i2, i3, i4, i5, fun _ c => (by rw [h8] at c; cases c), i6.2⟩, h.2.2.2⟩
section ZNEW5
variable {rs : va_W} {cs sl : Nat} {d : zD2} {L ks : List Nat} {kd : Nat → Nat} {A : Nat → Prop} {nL : Nat} {p : Program} {l : Launch} {e : Env} {R : Room} {s : State} {m : MethodId} {args : Array Value} {below : List Frame} {meth : Method} {c : Code} {cc : ByteArray} {own : String} {Q : State → Prop} {σ : zS} {pc : Nat} {lv : List (Nat × Value)} {st : List Value}
/-- a new row of courses: a raw cell yet -/
theorem zc_newq (X : zX d L kd A nL p s m args c cc own) {index : Nat} {n : Int32} (N : Nat) (hlink : Cond.classLink own index RX1 ∈ zWL) (hn : n.toInt = N) (hby : N * 4 ≤ 536870912) (hroom : cs + 1 ≤ R.cells ∧ sl + N ≤ R.slots) (hdg : decode cc pc = .ok (.anewarray index, 3))
    (kk : ∀ q : Nat, zGc (rs ++ [(q, .inl (d.2.2 16, N, .inr (.inr (.inr (.inr (fun _ => none))))))]) (cs + 1) (sl + N) d L kd A nL p l e R s m args below meth c Q σ (pc + 3) lv (.ref q :: st)) : zGc rs cs sl d L kd A nL p l e R s m args below meth c Q σ pc lv (.int n :: st) := by
  intro hz H locs ls hP hD hS hl
  have hnn : ¬ n < 0 := fun h => by
    have h2 := Int32.lt_iff_toInt_lt.mp h
    rw [hn, show (0 : Int32).toInt = 0 from rfl] at h2
    omega
  have hnc : n.toNatClampNeg = N := by
    show n.toInt.toNat = N
    rw [hn]
    rfl
  refine va_newq X.1 X.2.1 X.2.2.2.1 (X.2.2.2.2.1 _ hlink) X.2.2.2.2.2.2.2.2.2.2.2.2.2.2.2 X.2.2.2.2.2.1 hP hD hS X.2.2.2.2.2.2.2.2.1 hnn hnc hby hroom.1 hroom.2 hdg (fun q cA H1 hK1 hP1 hD1 hS1 => ?_)
  have hc : cA = d.2.2 16 := zRA_eq (i := 4) X.2.2.2.2.2.1 hK1 rfl
  subst hc
  exact kk q hroom H1 locs ls hP1.swap hD1.swap hS1 hl
/-- a course into the raw row that stands second -/
theorem zc_ast {a0 qa y N ci : Nat} {fs : List Value} {f : Nat → Option Nat} {i : Int32} (iN : Nat) (X : zX d L kd A nL p s m args c cc own) (hy : zT L kd y 1) (hiN : i.toInt = iN) (h1 : iN < N) (hdg : decode cc pc = .ok (.aastore, 1)) (k : zGc [(a0, .inr (ci, fs)), (qa, .inl (d.2.2 16, N, .inr (.inr (.inr (.inr (va_up f iN (some y)))))))] cs sl d L kd A nL p l e R s m args below meth c Q σ (pc + 1) lv st) : zGc [(a0, .inr (ci, fs)), (qa, .inl (d.2.2 16, N, .inr (.inr (.inr (.inr f)))))] cs sl d L kd A nL p l e R s m args below meth c Q σ pc lv (.ref y :: .int i :: .ref qa :: st) := by
  intro hz H locs ls hP hD hS hl
  have hic : i.toNatClampNeg = iN := by
    show i.toInt.toNat = iN
    rw [hiN]
    rfl
  subst hic
  obtain ⟨q0, hq⟩ := zR_at (dA := d.2.2) (kd := kd) [(a0, .inr (ci, fs)), (qa, .inl (d.2.2 16, N, .inr (.inr (.inr (.inr f)))))] σ hy.1
  have he : zF d.2.2 kd σ y = .inr (1, zfs (σ.1 y) (σ.2.1 y) (σ.2.2 y) (ztys 1) 0) := zE_o (by rw [hy.2]; rfl) (by decide)
  rw [he] at hq
  exact va_astq (r := (RX1, TX1, 6)) X.1 X.2.1 X.2.2.2.2.2.1 hP hD hS 1 4 q0 1 rfl rfl hq rfl (zb_in (by omega) (by omega)) hdg (fun H1 locs1 hP hD hS => k hz H1 locs1 ls hP hD hS hl)
/-- the row of courses, full, joins the typed world -/
theorem zc_row {a0 qa k N ci : Nat} {fs : List Value} {f : Nat → Option Nat} (hk : zK ks L kd σ) (hb : zb k = 16) (hN : zn k = N) (h0 : 0 < N) (hz9 : ∀ j, zf 0 k j = some 1) (hr9 : ∀ j, zr 0 k j = (-2147483648, 2147483647)) (h11 : k ≠ 11) (hs : zsole k = false) (h40 : k ≠ 40) (h1s : zs1 k = true → ks.contains k = false) (h12 : 12 ≤ k) (h8 : (k :: ks).contains 8 = ks.contains 8) (hf : ∀ j, j < N → ∃ y, f j = some y ∧ zT L kd y 1 ∧ zrt L σ y) (hfi : ∀ i j y, i < N → j < N → f i = some y → f j = some y → i = j)
    (kk : ∀ (L2 : List Nat) (kd2 : Nat → Nat) (σ2 : zS), zEx0 L kd σ L2 kd2 σ2 → (∀ y ∈ L, zrt L σ y → (∀ j, j < N → f j ≠ some y) → zrt L2 σ2 y) → zT L2 kd2 qa k → zrt L2 σ2 qa ∧ qa ∉ L → zK (k :: ks) L2 kd2 σ2 → zGc [(a0, .inr (ci, fs))] cs sl d L2 kd2 A nL p l e R s m args below meth c Q σ2 pc lv st) : zGc [(a0, .inr (ci, fs)), (qa, .inl (d.2.2 16, N, .inr (.inr (.inr (.inr f)))))] cs sl d L kd A nL p l e R s m args below meth c Q σ pc lv st := by
  intro hz H locs ls hP hD hS hl
  let g : Nat → Option Nat := fun j => if j < N then f j else f 0
  have hw : zW d.2.2 [qa] (fun _ => k) (fun _ _ => 0, fun _ _ => 0, fun _ => g) = [(qa, .inl (d.2.2 16, N, .inr (.inr (.inr (.inr g)))))] := by
    show [(qa, zE d.2.2 k (fun _ => 0) (fun _ => 0) g)] = _
    rw [zE_q hb, hN]
  have hP2 : va_P (d.1, d.2.1) vwCl (([(a0, .inr (ci, fs))] ++ zW d.2.2 [qa] (fun _ => k) (fun _ _ => 0, fun _ _ => 0, fun _ => g)) ++ zW d.2.2 L kd σ) H := by
    rw [hw]
    intro j q hq
    match j, hq with
    | 0, hq => exact hP 0 q hq
    | 1, hq =>
      cases hq
      have h1 := hP 1 _ rfl
      show H[qa]? = some (vp_cell (d.2.2 16) (N, .inr (.inr (.inr (.inr g)))))
      have h2 : H[qa]? = some (vp_cell (d.2.2 16) (N, .inr (.inr (.inr (.inr f))))) := h1
      rw [h2]
      have e3 : ∀ (u v : Nat → Value), (∀ j, j < N → u j = v j) → arrV (d.2.2 16) N u = arrV (d.2.2 16) N v := fun u v huv => by
        unfold arrV
        congr 1
        apply Array.ext
        · simp
        · intro j h3 h4
          simp only [Array.getElem_ofFn]
          exact huv j (by simpa using h3)
      show some (arrV (d.2.2 16) N (fun j => va_rf (f j))) = some (arrV (d.2.2 16) N (fun j => va_rf (g j)))
      exact congrArg some (e3 (fun j => va_rf (f j)) (fun j => va_rf (g j)) (fun j hj => by show va_rf (f j) = va_rf (if j < N then f j else f 0); rw [if_pos hj]))
    | j + 2, hq => exact hP (j + 2) q hq
  have hD2 : va_D A (([(a0, .inr (ci, fs))] ++ zW d.2.2 [qa] (fun _ => k) (fun _ _ => 0, fun _ _ => 0, fun _ => g)) ++ zW d.2.2 L kd σ) := by
    rw [hw]
    have key : ∀ (j : Nat) (q : Nat × va_E), ([(a0, (.inr (ci, fs) : va_E))] ++ [(qa, .inl (d.2.2 16, N, .inr (.inr (.inr (.inr g)))))] ++ zW d.2.2 L kd σ)[j]? = some q → ∃ q', ([(a0, (.inr (ci, fs) : va_E)), (qa, .inl (d.2.2 16, N, .inr (.inr (.inr (.inr f)))))] ++ zW d.2.2 L kd σ)[j]? = some q' ∧ q'.1 = q.1 := fun j q hq => by
      match j, hq with
      | 0, hq => exact ⟨q, hq, rfl⟩
      | 1, hq => cases hq; exact ⟨_, rfl, rfl⟩
      | j + 2, hq => exact ⟨q, hq, rfl⟩
    refine ⟨fun i j x y hx hy exy => ?_, fun j q hq => ?_⟩
    · obtain ⟨x', h1, h2⟩ := key i x hx
      obtain ⟨y', h3, h4⟩ := key j y hy
      exact hD.1 i j x' y' h1 h3 (by rw [h2, h4, exy])
    · obtain ⟨q', h3, h4⟩ := key j q hq
      rw [← h4]
      exact hD.2 j q' h3
  have hd := zdis hD2
  have hrf : ∀ j, zf 0 k j = some 1 → ∃ y, g j = some y ∧ zT L kd y 1 := fun j _ => by
    simp only [g]
    split
    · next h => obtain ⟨y, y1, y2, -⟩ := hf j h; exact ⟨y, y1, y2⟩
    · obtain ⟨y, y1, y2, -⟩ := hf 0 h0; exact ⟨y, y1, y2⟩
  have hg : ∀ j y, g j = some y → ∃ i, i < N ∧ f i = some y := fun j y e => by
    simp only [g] at e
    split at e
    · next h => exact ⟨j, h, e⟩
    · exact ⟨0, h0, e⟩
  have hq : ∀ j y, g j = some y → y ∈ L ∧ (kd y ≠ 6 → zrt L σ y) := fun j y e => by
    obtain ⟨i, h1, h2⟩ := hg j y e
    obtain ⟨y2, h3, h4, h5⟩ := hf i h1
    rw [h2] at h3
    cases h3
    exact ⟨h4.1, fun _ => h5⟩
  have hlt : ∀ j, zro k j → j < N := fun j z => by
    rcases z with z | z
    · exact absurd hb z
    · rw [← hN]; exact z
  have hk2 := zKb.obj (b2 := (k :: ks).contains 8) (τ := (fun _ _ => 0, fun _ _ => 0, fun _ => g)) (a0 := qa) (k := k) hk hd (fun j => by rw [hr9 j]; exact zb_rng _) (fun j k2 h => by rw [hz9 j] at h; cases h; exact hrf j (hz9 j)) (fun h => by rw [hs] at h; cases h) h11 (fun c => by rw [← h8]; exact c) h40 h1s ⟨fun e => absurd e (by omega), fun e => absurd e (by omega), fun e => absurd e (by omega), fun e => absurd e (by omega), fun e => absurd e (by omega), fun e => absurd e h40, fun _ => rfl⟩ hq (fun j j' y e e' _ z z' => by
    have l := hlt j z
    have l' := hlt j' z'
    simp only [g] at e e'
    rw [if_pos l] at e
    rw [if_pos l'] at e'
    exact hfi j j' y l l' e e')
  rw [List.append_assoc, ← zW_app hd] at hP2 hD2
  refine kk _ _ _ zEx0.r (fun y hy hr n a ha j e => ?_) ⟨List.mem_append_left _ List.mem_cons_self, zja_l (hd _ List.mem_cons_self)⟩ ⟨fun a ha j e => ?_, hd _ List.mem_cons_self⟩ hk2 hz H locs ls hP2 hD2 hS hl
  · by_cases c : a ∈ L
    · rw [show (zjs L (fun _ _ => 0, fun _ _ => 0, fun _ => g) σ).2.2 a = σ.2.2 a from zja_r c] at e
      exact hr a c j e
    · rw [show (zjs L (fun _ _ => 0, fun _ _ => 0, fun _ => g) σ).2.2 a = g from zja_l c] at e
      obtain ⟨i, h1, h2⟩ := hg j y e
      exact n i h1 h2
  · by_cases c : a ∈ L
    · rw [show (zjs L (fun _ _ => 0, fun _ _ => 0, fun _ => g) σ).2.2 a = σ.2.2 a from zja_r c] at e
      exact hd qa List.mem_cons_self (hk.2.2.2.1 a c j qa e)
    · rw [show (zjs L (fun _ _ => 0, fun _ _ => 0, fun _ => g) σ).2.2 a = g from zja_l c] at e
      exact hd qa List.mem_cons_self (hq j qa e).1
end ZNEW5
theorem zc_cs {rs : va_W} {cs sl cs2 sl2 : Nat} {d : zD2} {L : List Nat} {kd : Nat → Nat} {A : Nat → Prop} {nL : Nat} {p : Program} {l : Launch} {e : Env} {R : Room} {s : State} {m : MethodId} {args : Array Value} {below : List Frame} {meth : Method} {c : Code} {Q : State → Prop} {σ : zS} {pc : Nat} {lv : List (Nat × Value)} {st : List Value} (h1 : cs = cs2) (h2 : sl = sl2) (k : zGc rs cs2 sl2 d L kd A nL p l e R s m args below meth c Q σ pc lv st) : zGc rs cs sl d L kd A nL p l e R s m args below meth c Q σ pc lv st := by
  subst h1 h2
  exact k
theorem zNk {L : List Nat} {kd : Nat → Nat} {a b ka kb : Nat} (ha : zT L kd a ka) (hb : zT L kd b kb) (h : ka ≠ kb) : a ≠ b := fun e => h (ha.2.symm.trans ((congrArg kd e).trans hb.2))
theorem zgN {l : List (Option Nat)} {j y : Nat} (N : Nat) (e : l.getD j none = some y) (hN : l.length ≤ N := by exact Nat.le_of_ble_eq_true rfl) : j < N := by
  rcases Nat.lt_or_ge j l.length with c | c
  · omega
  · rw [List.getD_eq_getElem?_getD, List.getElem?_eq_none c] at e
    cases e
theorem zinjk {q : Nat → Option Nat} {k N : Nat} {L : List Nat} {kd : Nat → Nat} {Xr : Nat → Nat → Prop} (hf : ∀ j k2, zf 0 k j = some k2 → ∃ y, q j = some y ∧ zT L kd y k2) (hN : ∀ j y, q j = some y → j < N ∧ zf 0 k j ≠ none) (hd : ∀ j, j < N → ∀ j', j' < N → zf 0 k j = zf 0 k j' → zf 0 k j ≠ none → j = j' ∨ Xr j j') {j j' y : Nat} (e : q j = some y) (e' : q j' = some y) : j = j' ∨ Xr j j' := by
  obtain ⟨h1, h2⟩ := hN j y e
  obtain ⟨h3, h4⟩ := hN j' y e'
  obtain ⟨k2, hk⟩ := Option.ne_none_iff_exists'.mp h2
  obtain ⟨k3, hk'⟩ := Option.ne_none_iff_exists'.mp h4
  obtain ⟨y2, g1, g2⟩ := hf j k2 hk
  obtain ⟨y3, g3, g4⟩ := hf j' k3 hk'
  rw [e] at g1
  rw [e'] at g3
  cases g1
  cases g3
  refine hd j h1 j' h3 ?_ h2
  rw [hk, hk', ← g2.2, ← g4.2]
theorem zrt.sm {Wk L : List Nat} {kd : Nat → Nat} {σ σ' : zS} {y : Nat} (r : zrt L σ y) (g : zSm Wk [] L kd σ σ') : zrt L σ' y := fun a ha j e => r a ha j (by rw [← (g a ha).2 List.not_mem_nil]; exact e)
theorem z9w {a b j : Nat} {v : Int32} {f : Nat → Nat → Int32} (h : f a 0 = 0 ∧ f a 10 = 0) (hb : b ≠ a ∨ (j ≠ 0 ∧ j ≠ 10) ∨ v = 0) : zu f b j v a 0 = 0 ∧ zu f b j v a 10 = 0 := by
  unfold zu
  rcases hb with c | c | c
  · rw [if_neg (fun e => c e.symm), if_neg (fun e => c e.symm)]
    exact h
  · by_cases e : a = b
    · rw [if_pos e, if_pos e, if_neg (fun z => c.1 z.symm), if_neg (fun z => c.2 z.symm)]
      exact h
    · rw [if_neg e, if_neg e]
      exact h
  · subst c
    by_cases e : a = b
    · rw [if_pos e, if_pos e]
      constructor
      · split
        · rfl
        · exact h.1
      · split
        · rfl
        · exact h.2
    · rw [if_neg e, if_neg e]
      exact h
/-- a told text's places and its storm stay none -/
def z9P (a tt : Nat) (τ : zS) : Prop := (τ.1 a 0 = 0 ∧ τ.1 a 10 = 0) ∧ (τ.2.2 tt 6).getD 0 ≠ a ∧ (τ.2.2 tt 7).getD 0 ≠ a ∧ (τ.2.2 tt 9).getD 0 ≠ a
theorem z9add {a tt : Nat} {x y : Int32} {τ : zS} (h : z9P a tt τ) : z9P a tt (F_X9_addStep tt x y τ) := by
  obtain ⟨h1, h2, h3, h4⟩ := h
  unfold F_X9_addStep
  simp only [zlt]
  split
  · exact ⟨z9w (z9w (z9w h1 (Or.inl h2)) (Or.inl h3)) (Or.inr (Or.inl ⟨by decide, by decide⟩)), h2, h3, h4⟩
  · exact ⟨h1, h2, h3, h4⟩
theorem z9clr_l {a tt : Nat} : ∀ (n : Nat) (x : Int32) (τ : zS), z9P a tt τ → z9P a tt (F_X9_clear_12 tt n x τ) := by
  intro n
  induction n with
  | zero => intro x τ h; exact h
  | succ n ih =>
    intro x τ h
    rw [F_X9_clear_12]
    simp only [zlt]
    obtain ⟨h1, h2, h3, h4⟩ := id h
    have hs : ∀ v : Int32, z9P a tt (zu τ.1 ((τ.2.2 tt 9).getD 0) x.toNatClampNeg v, τ.2.1, τ.2.2) := fun v => ⟨z9w h1 (Or.inl h4), h2, h3, h4⟩
    split
    · split
      · exact ih _ _ (z9add (z9add (hs _)))
      · exact ih _ _ (z9add (z9add (hs _)))
    · exact ⟨z9w (z9w (z9w (z9w h1 (Or.inr (Or.inr rfl))) (Or.inr (Or.inl ⟨by decide, by decide⟩))) (Or.inr (Or.inl ⟨by decide, by decide⟩))) (Or.inr (Or.inl ⟨by decide, by decide⟩)), h2, h3, h4⟩
theorem z9clr {a tt : Nat} {τ : zS} (h : z9P a tt τ) : z9P a tt (F_X9_clear tt τ) := by
  obtain ⟨h1, h2, h3, h4⟩ := h
  unfold F_X9_clear
  simp only [zlt]
  exact z9clr_l _ _ _ ⟨z9w (z9w h1 (Or.inr (Or.inr rfl))) (Or.inr (Or.inl ⟨by decide, by decide⟩)), h2, h3, h4⟩
theorem zKb.clr {b : Bool} {ks L : List Nat} {kd : Nat → Nat} {σ σ' : zS} {a0 : Nat} (h : zKb b ks L kd σ) (hI : zI 0 0 L kd σ') (ha : zT L kd a0 9) (hF : σ' = F_X9_clear a0 σ) (g : zSm [9, 49, 50, 51] [] L kd σ σ') : zKb b ks L kd σ' := by
  have hr : ∀ a ∈ L, σ'.2.2 a = σ.2.2 a := fun a m => (g a m).2 List.not_mem_nil
  refine ⟨hI, h.2.1, fun a m => ?_, fun a m j y e => ?_, fun a m a' m' j j' y e e' => ?_, h.2.2.2.2.2⟩
  · have q := h.2.2.1 a m
    by_cases c : kd a ∈ [9, 49, 50, 51]
    · simp only [List.mem_cons, List.not_mem_nil, or_false] at c
      refine ⟨fun e => absurd e (by omega), fun e => absurd e (by omega), fun e => absurd e (by omega), fun e => ?_, fun e => absurd e (by omega), fun e => absurd e (by omega), fun e => absurd e (by omega)⟩
      have ref : ∀ j k2, zf 0 9 j = some k2 → k2 ≠ 9 → (σ.2.2 a0 j).getD 0 ≠ a := fun j k2 hj hk => by
        obtain ⟨y, y1, y2⟩ := zi_ref h.1 ha hj
        rw [y1]
        exact zNk y2 ⟨m, e⟩ hk
      have := z9clr (a := a) (tt := a0) (τ := σ) ⟨q.2.2.2.1 e, ref 6 49 (by rfl) (by decide), ref 7 50 (by rfl) (by decide), ref 9 51 (by rfl) (by decide)⟩
      rw [← hF] at this
      exact this.1
    · rw [((g a m).1 c).1, ((g a m).1 c).2]
      exact q
  · rw [hr a m] at e; exact h.2.2.2.1 a m j y e
  · rw [hr a m] at e
    rw [hr a' m'] at e'
    exact h.2.2.2.2.1 a m a' m' j j' y e e'
/-- the words have been read -/
theorem zKb.words {ks L : List Nat} {kd : Nat → Nat} {σ τ : zS} {q : Nat} (h : zKb false ks L kd σ) (hI : zI 0 0 L kd τ) (h1 : τ.2.2 = σ.2.2) (h2 : τ.1 = σ.1) (hq : zT L kd q 40) (hw : ∀ j, j < 22 → τ.2.1 q j = zw32 j) : zKb true ks L kd τ := by
  refine ⟨hI, h.2.1, fun a m => ?_, by unfold zcl; rw [h1]; exact h.2.2.2.1, by unfold zow; rw [h1]; exact h.2.2.2.2.1, h.2.2.2.2.2⟩
  obtain ⟨i1, i2, i3, i4, i5, -, i7⟩ := h.2.2.1 a m
  rw [h2]
  refine ⟨i1, i2, i3, i4, i5, fun e _ => ?_, i7⟩
  rw [h.2.2.2.2.2 a m q hq.1 (by rw [e]; rfl) (e.trans hq.2.symm)]
  exact hw
theorem zrt.eq {L : List Nat} {σ τ : zS} {y : Nat} (r : zrt L σ y) (h : τ.2.2 = σ.2.2) : zrt L τ y := by unfold zrt; rw [h]; exact r
