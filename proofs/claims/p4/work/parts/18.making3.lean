theorem zf_list {k j k2 : Nat} (hk : k < 12) (h : zf 0 k j = some k2) : (j, k2) ∈ (zfl.filter (fun q => q.1 == k && q.2.2.2 == 0)).map (fun q => (q.2.1, q.2.2.1)) := by
  unfold zf at h
  split at h
  · next q hq =>
    have hm := List.mem_of_find?_eq_some hq
    have hp := List.find?_some hq
    have key : ∀ q ∈ zfl, q.1 < 12 → q.2.1 ≠ 9999 := by decide +kernel
    split at h
    · next c =>
      cases h
      simp only [Bool.and_eq_true, Bool.or_eq_true, beq_iff_eq] at hp
      have h9 := key q hm (by omega)
      have hj : q.2.1 = j := by omega
      refine List.mem_map.mpr ⟨q, List.mem_filter.mpr ⟨hm, ?_⟩, by rw [hj]⟩
      simp only [Bool.and_eq_true, beq_iff_eq]
      omega
    · cases h
  · cases h
theorem zr_list {k : Nat} (hk : k < 12) (j : Nat) : zr 0 k j = (-2147483648, 2147483647) ∨ (j, zr 0 k j) ∈ ((zrl 0).filter (fun q => q.1 == k)).map (fun q => (q.2.1, q.2.2)) := by
  cases hq : (zrl 0).find? (fun q => q.1 == k && (q.2.1 == 9999 || q.2.1 == j)) with
  | none => exact Or.inl (by simp [zr, hq])
  | some q =>
    right
    have e : zr 0 k j = q.2.2 := by simp [zr, hq]
    have hm := List.mem_of_find?_eq_some hq
    have hp := List.find?_some hq
    have key : ∀ q ∈ zrl 0, q.1 < 12 → q.2.1 ≠ 9999 := by decide +kernel
    simp only [Bool.and_eq_true, Bool.or_eq_true, beq_iff_eq] at hp
    have h9 := key q hm (by omega)
    refine List.mem_map.mpr ⟨q, List.mem_filter.mpr ⟨hm, by simp only [beq_iff_eq]; omega⟩, ?_⟩
    rw [e]
    have hj : q.2.1 = j := by omega
    rw [hj]
theorem zb_i0 : (0 : Int32).toInt = 0 := rfl
section ZNEW4
variable {rs : va_W} {cs sl : Nat} {d : zD2} {L ks : List Nat} {kd : Nat → Nat} {A : Nat → Prop} {nL : Nat} {p : Program} {l : Launch} {e : Env} {R : Room} {s : State} {m : MethodId} {args : Array Value} {below : List Frame} {meth : Method} {c : Code} {cc : ByteArray} {own : String} {Q : State → Prop} {σ : zS} {pc : Nat} {lv : List (Nat × Value)} {st : List Value}
theorem zg_null (X : zX d L kd A nL p s m args c cc own) (hdg : decode cc pc = .ok (.aconst_null, 1)) (k : zGc rs cs sl d L kd A nL p l e R s m args below meth c Q σ (pc + 1) lv (.null :: st)) : zGc rs cs sl d L kd A nL p l e R s m args below meth c Q σ pc lv st := fun hz H locs ls hP hD hS hl => lv_null X.1 X.2.1 hdg (k hz H locs ls hP hD hS hl)
/-- the object that was being made stands among the others -/
theorem zc_typed {a0 k : Nat} {fs : List Value} (i : Nat → Int32) (jl : Nat → Int64) (q : Nat → Option Nat) (hk : zK ks L kd σ) (hb : zb k = k) (h12 : k < 12) (hfs : fs = zfs i jl q (ztys k) 0) (hr : ∀ j, (zr 0 k j).1 ≤ (i j).toInt ∧ (i j).toInt ≤ (zr 0 k j).2) (hf : ∀ j k2, zf 0 k j = some k2 → ∃ y, q j = some y ∧ zT L kd y k2) (hs : zsole k = true → ks.contains k = false) (h11 : k ≠ 11)
    (kk : ∀ (L2 : List Nat) (kd2 : Nat → Nat) (σ2 : zS), zExt L kd σ L2 kd2 σ2 → zT L2 kd2 a0 k → zK (k :: ks) L2 kd2 σ2 → zGc [] cs sl d L2 kd2 A nL p l e R s m args below meth c Q σ2 pc lv st) : zGc [(a0, .inr (k, fs))] cs sl d L kd A nL p l e R s m args below meth c Q σ pc lv st := by
  intro hz H locs ls hP hD hS hl
  have hw : zW d.2.2 [a0] (fun _ => k) (fun _ => i, fun _ => jl, fun _ => q) = [(a0, .inr (k, fs))] := by
    show [(a0, zE d.2.2 k i jl q)] = _
    rw [zE_o hb h12, hfs]
  rw [← hw] at hP hD
  have hd : ∀ a ∈ [a0], a ∉ L := zdis (rs := []) (dA := d.2.2) (kd1 := fun _ => k) (kd2 := kd) (σ1 := (fun _ => i, fun _ => jl, fun _ => q)) (σ2 := σ) hD
  rw [← zW_app hd] at hP hD
  exact kk _ _ _ zExt.r ⟨List.mem_append_left _ List.mem_cons_self, zja_l (hd _ List.mem_cons_self)⟩ (hk.obj (τ := (fun _ => i, fun _ => jl, fun _ => q)) hd hr hf hs h11) hz H locs ls hP hD hS hl
end ZNEW4
theorem zK.sub {ks ks2 L : List Nat} {kd : Nat → Nat} {σ : zS} (h : zK ks L kd σ) (hs : ∀ k ∈ ks, k ∈ ks2) : zK ks2 L kd σ := ⟨h.1, fun a ha => hs _ (h.2 a ha)⟩
section ZNEW5
variable {rs : va_W} {cs sl : Nat} {d : zD2} {L ks : List Nat} {kd : Nat → Nat} {A : Nat → Prop} {nL : Nat} {p : Program} {l : Launch} {e : Env} {R : Room} {s : State} {m : MethodId} {args : Array Value} {below : List Frame} {meth : Method} {c : Code} {cc : ByteArray} {own : String} {Q : State → Prop} {σ : zS} {pc : Nat} {lv : List (Nat × Value)} {st : List Value}
/-- a new row of courses: a raw cell yet -/
theorem zc_newq (X : zX d L kd A nL p s m args c cc own) {index : Nat} {n : Int32} (N : Nat) (hlink : Cond.classLink own index RX1 ∈ zWL) (hn : n.toInt = N) (hby : N * 4 ≤ 536870912) (hroom : cs + 1 ≤ R.cells ∧ sl + N ≤ R.slots) (hdg : decode cc pc = .ok (.anewarray index, 3))
    (kk : ∀ q : Nat, zGc (rs ++ [(q, .inl (d.2.2 16, N, .inr (.inr (.inr (.inr (fun _ => none))))))]) (cs + 1) (sl + N) d L kd A nL p l e R s m args below meth c Q σ (pc + 3) lv (.ref q :: st)) : zGc rs cs sl d L kd A nL p l e R s m args below meth c Q σ pc lv (.int n :: st) := by
  intro hz H locs ls hP hD hS hl
  have hnn : ¬ n < 0 := fun h => by
    have h2 := Int32.lt_iff_toInt_lt.mp h
    rw [hn, show (0 : Int32).toInt = 0 from rfl] at h2
    omega
  have hnc : n.toNatClampNeg = N := by
    show n.toInt.toNat = N
    rw [hn]
    rfl
  refine va_newq X.1 X.2.1 X.2.2.2.1 (X.2.2.2.2.1 _ hlink) X.2.2.2.2.2.2.2.2.2.2.2.2.2.2.2 X.2.2.2.2.2.1 hP hD hS X.2.2.2.2.2.2.2.2.1 hnn hnc hby hroom.1 hroom.2 hdg (fun q cA H1 hK1 hP1 hD1 hS1 => ?_)
  have hc : cA = d.2.2 16 := zRA_eq (i := 4) X.2.2.2.2.2.1 hK1 rfl
  subst hc
  exact kk q hroom H1 locs ls hP1.swap hD1.swap hS1 hl
/-- a course into the raw row that stands second -/
theorem zc_ast {a0 qa y N ci : Nat} {fs : List Value} {f : Nat → Option Nat} {i : Int32} (iN : Nat) (X : zX d L kd A nL p s m args c cc own) (hy : zT L kd y 1) (hiN : i.toInt = iN) (h1 : iN < N) (hdg : decode cc pc = .ok (.aastore, 1)) (k : zGc [(a0, .inr (ci, fs)), (qa, .inl (d.2.2 16, N, .inr (.inr (.inr (.inr (va_up f iN (some y)))))))] cs sl d L kd A nL p l e R s m args below meth c Q σ (pc + 1) lv st) : zGc [(a0, .inr (ci, fs)), (qa, .inl (d.2.2 16, N, .inr (.inr (.inr (.inr f)))))] cs sl d L kd A nL p l e R s m args below meth c Q σ pc lv (.ref y :: .int i :: .ref qa :: st) := by
  intro hz H locs ls hP hD hS hl
  have hic : i.toNatClampNeg = iN := by
    show i.toInt.toNat = iN
    rw [hiN]
    rfl
  subst hic
  obtain ⟨q0, hq⟩ := zR_at (dA := d.2.2) (kd := kd) [(a0, .inr (ci, fs)), (qa, .inl (d.2.2 16, N, .inr (.inr (.inr (.inr f)))))] σ hy.1
  have he : zF d.2.2 kd σ y = .inr (1, zfs (σ.1 y) (σ.2.1 y) (σ.2.2 y) (ztys 1) 0) := zE_o (by rw [hy.2]; rfl) (by decide)
  rw [he] at hq
  exact va_astq (r := (RX1, TX1, 6)) X.1 X.2.1 X.2.2.2.2.2.1 hP hD hS 1 4 q0 1 rfl rfl hq rfl (zb_in (by omega) (by omega)) hdg (fun H1 locs1 hP hD hS => k hz H1 locs1 ls hP hD hS hl)
/-- the row of courses, full, joins the typed world -/
theorem zc_row {a0 qa k N ci : Nat} {fs : List Value} {f : Nat → Option Nat} (hk : zK ks L kd σ) (hb : zb k = 16) (hN : zn k = N) (h0 : 0 < N) (hz9 : ∀ j, zf 0 k j = some 1) (hr9 : ∀ j, zr 0 k j = (-2147483648, 2147483647)) (h11 : k ≠ 11) (hs : zsole k = false) (hf : ∀ j, j < N → ∃ y, f j = some y ∧ zT L kd y 1)
    (kk : ∀ (L2 : List Nat) (kd2 : Nat → Nat) (σ2 : zS), zExt L kd σ L2 kd2 σ2 → zT L2 kd2 qa k → zK (k :: ks) L2 kd2 σ2 → zGc [(a0, .inr (ci, fs))] cs sl d L2 kd2 A nL p l e R s m args below meth c Q σ2 pc lv st) : zGc [(a0, .inr (ci, fs)), (qa, .inl (d.2.2 16, N, .inr (.inr (.inr (.inr f)))))] cs sl d L kd A nL p l e R s m args below meth c Q σ pc lv st := by
  intro hz H locs ls hP hD hS hl
  let g : Nat → Option Nat := fun j => if j < N then f j else f 0
  have hw : zW d.2.2 [qa] (fun _ => k) (fun _ _ => 0, fun _ _ => 0, fun _ => g) = [(qa, .inl (d.2.2 16, N, .inr (.inr (.inr (.inr g)))))] := by
    show [(qa, zE d.2.2 k (fun _ => 0) (fun _ => 0) g)] = _
    rw [zE_q hb, hN]
  have hP2 : va_P (d.1, d.2.1) vwCl (([(a0, .inr (ci, fs))] ++ zW d.2.2 [qa] (fun _ => k) (fun _ _ => 0, fun _ _ => 0, fun _ => g)) ++ zW d.2.2 L kd σ) H := by
    rw [hw]
    intro j q hq
    match j, hq with
    | 0, hq => exact hP 0 q hq
    | 1, hq =>
      cases hq
      have h1 := hP 1 _ rfl
      show H[qa]? = some (vp_cell (d.2.2 16) (N, .inr (.inr (.inr (.inr g)))))
      have h2 : H[qa]? = some (vp_cell (d.2.2 16) (N, .inr (.inr (.inr (.inr f))))) := h1
      rw [h2]
      have e3 : ∀ (u v : Nat → Value), (∀ j, j < N → u j = v j) → arrV (d.2.2 16) N u = arrV (d.2.2 16) N v := fun u v huv => by
        unfold arrV
        congr 1
        apply Array.ext
        · simp
        · intro j h3 h4
          simp only [Array.getElem_ofFn]
          exact huv j (by simpa using h3)
      show some (arrV (d.2.2 16) N (fun j => va_rf (f j))) = some (arrV (d.2.2 16) N (fun j => va_rf (g j)))
      exact congrArg some (e3 (fun j => va_rf (f j)) (fun j => va_rf (g j)) (fun j hj => by show va_rf (f j) = va_rf (if j < N then f j else f 0); rw [if_pos hj]))
    | j + 2, hq => exact hP (j + 2) q hq
  have hD2 : va_D A (([(a0, .inr (ci, fs))] ++ zW d.2.2 [qa] (fun _ => k) (fun _ _ => 0, fun _ _ => 0, fun _ => g)) ++ zW d.2.2 L kd σ) := by
    rw [hw]
    have key : ∀ (j : Nat) (q : Nat × va_E), ([(a0, (.inr (ci, fs) : va_E))] ++ [(qa, .inl (d.2.2 16, N, .inr (.inr (.inr (.inr g)))))] ++ zW d.2.2 L kd σ)[j]? = some q → ∃ q', ([(a0, (.inr (ci, fs) : va_E)), (qa, .inl (d.2.2 16, N, .inr (.inr (.inr (.inr f)))))] ++ zW d.2.2 L kd σ)[j]? = some q' ∧ q'.1 = q.1 := fun j q hq => by
      match j, hq with
      | 0, hq => exact ⟨q, hq, rfl⟩
      | 1, hq => cases hq; exact ⟨_, rfl, rfl⟩
      | j + 2, hq => exact ⟨q, hq, rfl⟩
    refine ⟨fun i j x y hx hy exy => ?_, fun j q hq => ?_⟩
    · obtain ⟨x', h1, h2⟩ := key i x hx
      obtain ⟨y', h3, h4⟩ := key j y hy
      exact hD.1 i j x' y' h1 h3 (by rw [h2, h4, exy])
    · obtain ⟨q', h3, h4⟩ := key j q hq
      rw [← h4]
      exact hD.2 j q' h3
  have hd := zdis hD2
  have hrf : ∀ j, zf 0 k j = some 1 → ∃ y, g j = some y ∧ zT L kd y 1 := fun j _ => by
    simp only [g]
    split
    · next h => exact hf j h
    · exact hf 0 h0
  have hk2 := hk.obj (τ := (fun _ _ => 0, fun _ _ => 0, fun _ => g)) (a0 := qa) (k := k) hd (fun j => by rw [hr9 j]; exact zb_rng _) (fun j k2 h => by rw [hz9 j] at h; cases h; exact hrf j (hz9 j)) (fun h => by rw [hs] at h; cases h) h11
  rw [List.append_assoc, ← zW_app hd] at hP2 hD2
  exact kk _ _ _ zExt.r ⟨List.mem_append_left _ List.mem_cons_self, zja_l (hd _ List.mem_cons_self)⟩ hk2 hz H locs ls hP2 hD2 hS hl
end ZNEW5
theorem zc_cs {rs : va_W} {cs sl cs2 sl2 : Nat} {d : zD2} {L : List Nat} {kd : Nat → Nat} {A : Nat → Prop} {nL : Nat} {p : Program} {l : Launch} {e : Env} {R : Room} {s : State} {m : MethodId} {args : Array Value} {below : List Frame} {meth : Method} {c : Code} {Q : State → Prop} {σ : zS} {pc : Nat} {lv : List (Nat × Value)} {st : List Value} (h1 : cs = cs2) (h2 : sl = sl2) (k : zGc rs cs2 sl2 d L kd A nL p l e R s m args below meth c Q σ pc lv st) : zGc rs cs sl d L kd A nL p l e R s m args below meth c Q σ pc lv st := by
  subst h1 h2
  exact k
