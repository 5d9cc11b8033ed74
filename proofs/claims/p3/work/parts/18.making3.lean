theorem zf_list {k j k2 : Nat} (hk : k < 12) (h : zf 0 k j = some k2) : (j, k2) ∈ (zfl.filter (fun q => q.1 == k && q.2.2.2 == 0)).map (fun q => (q.2.1, q.2.2.1)) := by
  unfold zf at h
  split at h
  · next q hq =>
    have hm := List.mem_of_find?_eq_some hq
    have hp := List.find?_some hq
    have key : ∀ q ∈ zfl, q.1 < 12 → q.2.1 ≠ 9999 := by decide +kernel
    split at h
    · next c =>
      cases h
      simp only [Bool.and_eq_true, Bool.or_eq_true, beq_iff_eq] at hp
      have h9 := key q hm (by omega)
      have hj : q.2.1 = j := by omega
      refine List.mem_map.mpr ⟨q, List.mem_filter.mpr ⟨hm, ?_⟩, by rw [hj]⟩
      simp only [Bool.and_eq_true, beq_iff_eq]
      omega
    · cases h
  · cases h
theorem zr_list {k : Nat} (hk : k < 12) (j : Nat) : zr 0 k j = (-2147483648, 2147483647) ∨ (j, zr 0 k j) ∈ ((zrl 0).filter (fun q => q.1 == k)).map (fun q => (q.2.1, q.2.2)) := by
  cases hq : (zrl 0).find? (fun q => q.1 == k && (q.2.1 == 9999 || q.2.1 == j)) with
  | none => exact Or.inl (by simp [zr, hq])
  | some q =>
    right
    have e : zr 0 k j = q.2.2 := by simp [zr, hq]
    have hm := List.mem_of_find?_eq_some hq
    have hp := List.find?_some hq
    have key : ∀ q ∈ zrl 0, q.1 < 12 → q.2.1 ≠ 9999 := by decide +kernel
    simp only [Bool.and_eq_true, Bool.or_eq_true, beq_iff_eq] at hp
    have h9 := key q hm (by omega)
    refine List.mem_map.mpr ⟨q, List.mem_filter.mpr ⟨hm, by simp only [beq_iff_eq]; omega⟩, ?_⟩
    rw [e]
    have hj : q.2.1 = j := by omega
    rw [hj]
theorem zb_i0 : (0 : Int32).toInt = 0 := rfl
section ZNEW4
variable {rs : va_W} {cs sl : Nat} {d : zD2} {L ks : List Nat} {kd : Nat → Nat} {A : Nat → Prop} {nL : Nat} {p : Program} {l : Launch} {e : Env} {R : Room} {s : State} {m : MethodId} {args : Array Value} {below : List Frame} {meth : Method} {c : Code} {cc : ByteArray} {own : String} {Q : State → Prop} {σ : zS} {pc : Nat} {lv : List (Nat × Value)} {st : List Value}
theorem zg_null (X : zX d L kd A nL p s m args c cc own) (hdg : decode cc pc = .ok (.aconst_null, 1)) (k : zGc rs cs sl d L kd A nL p l e R s m args below meth c Q σ (pc + 1) lv (.null :: st)) : zGc rs cs sl d L kd A nL p l e R s m args below meth c Q σ pc lv st := fun hz H locs ls hP hD hS hl => lv_null X.1 X.2.1 hdg (k hz H locs ls hP hD hS hl)
/-- the object that was being made stands among the others -/
theorem zc_typed {a0 k : Nat} {fs : List Value} (i : Nat → Int32) (jl : Nat → Int64) (q : Nat → Option Nat) (hk : zK ks L kd σ) (hb : zb k = k) (h12 : k < 12) (hfs : fs = zfs i jl q (ztys k) 0) (hr : ∀ j, (zr 0 k j).1 ≤ (i j).toInt ∧ (i j).toInt ≤ (zr 0 k j).2) (hf : ∀ j k2, zf 0 k j = some k2 → ∃ y, q j = some y ∧ zT L kd y k2) (hs : zsole k = true → ks.contains k = false) (h11 : k ≠ 11)
    (kk : ∀ (L2 : List Nat) (kd2 : Nat → Nat) (σ2 : zS), zExt L kd σ L2 kd2 σ2 → zT L2 kd2 a0 k → zK (k :: ks) L2 kd2 σ2 → zGc [] cs sl d L2 kd2 A nL p l e R s m args below meth c Q σ2 pc lv st) : zGc [(a0, .inr (k, fs))] cs sl d L kd A nL p l e R s m args below meth c Q σ pc lv st := by
  intro hz H locs ls hP hD hS hl
  have hw : zW d.2.2 [a0] (fun _ => k) (fun _ => i, fun _ => jl, fun _ => q) = [(a0, .inr (k, fs))] := by
    show [(a0, zE d.2.2 k i jl q)] = _
    rw [zE_o hb h12, hfs]
  rw [← hw] at hP hD
  have hd : ∀ a ∈ [a0], a ∉ L := zdis (rs := []) (dA := d.2.2) (kd1 := fun _ => k) (kd2 := kd) (σ1 := (fun _ => i, fun _ => jl, fun _ => q)) (σ2 := σ) hD
  rw [← zW_app hd] at hP hD
  exact kk _ _ _ zExt.r ⟨List.mem_append_left _ List.mem_cons_self, zja_l (hd _ List.mem_cons_self)⟩ (hk.obj (τ := (fun _ => i, fun _ => jl, fun _ => q)) hd hr hf hs h11) hz H locs ls hP hD hS hl
end ZNEW4
