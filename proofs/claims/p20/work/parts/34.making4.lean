theorem zky {κ : Int} {σ0 : zS} {L : List Nat} {kd : Nat → Nat} {τ τ' : zS} {y i : Nat} {idx : Int32} {v : Int64} (hI : zJ κ L kd σ0) (h : ∀ b, zT L kd b 109 → ∀ j, j < i → τ.2.1 b j = zw27 j) (hy : zT L kd y 109) (es : τ' = (τ.1, zu τ.2.1 y idx.toNatClampNeg v, τ.2.2)) (hi : idx.toInt = i) (hv : v = zw27 i) : ∀ b, zT L kd b 109 → ∀ j, j < i + 1 → τ'.2.1 b j = zw27 j := by
  intro b hb j hj
  have e : b = y := hI.2.2.2.1 b hb.1 y hy.1 (hb.2.trans hy.2.symm)
  have en : idx.toNatClampNeg = i := by rw [ztn, hi]; rfl
  subst e
  rw [es, en]
  by_cases c : j = i
  · rw [c]
    exact (zu_s _ _ _ _).trans hv
  · exact (zu_j _ _ _ _ _ (fun z => c z.symm)).trans (h b hb j (by omega))
theorem zkyS {o : Nat} {Wf Wa L : List Nat} {kd : Nat → Nat} {τ τ' : zS} {i : Nat} (h : ∀ b, zT L kd b 109 → ∀ j, j < i → τ.2.1 b j = zw27 j) (g : zSame o Wf Wa L kd τ τ') (hw : Wa.contains 109 = false) : ∀ b, zT L kd b 109 → ∀ j, j < i → τ'.2.1 b j = zw27 j := by
  have n : 109 ∉ Wa := fun q => by simp [q] at hw
  intro b hb j hj
  rw [(g.1 b hb.1 (by rw [hb.2]; decide) (by rw [hb.2]; exact n)).2]
  exact h b hb j hj
/-! THE REFERENCE IS MADE: its rows, each of a kind of its own, hold zeros; then it stands (zJ), and all that its methods need of it (zRef) -/
/-- as it stands first: no place, no undos, nothing told, no places, nothing held -/
def zRf0 (a0 : Nat) (σ : zS) : Prop := (σ.1 a0 17).toInt = -1 ∧ (σ.1 a0 57).toInt = 0 ∧ (σ.1 a0 62).toInt = 0 ∧ (σ.1 a0 18).toInt = 0 ∧ zM a0 σ = 0 ∧ (∀ j, zp a0 σ 67 j = 0) ∧ ∃ s : zS, σ = F_X11_keepsRow a0 (F_X11_begins a0 s)
def zRef (κ : Int) (a0 : Nat) (L : List Nat) (kd : Nat → Nat) (σ : zS) : Prop := zJ κ L kd σ ∧ gN a0 σ ∧ gH a0 σ ∧ gE a0 σ ∧ gL a0 σ ∧ gK a0 σ ∧ (∀ b, zT L kd b 109 → ∀ j, j < 22 → σ.2.1 b j = zw27 j) ∧ zRf0 a0 σ
def zKz (ks : List Nat) (L : List Nat) (kd : Nat → Nat) (σ : zS) : Prop := zKb false ks L kd σ ∧ (∀ a ∈ L, ∀ a' ∈ L, kd a = kd a' → a = a') ∧ ∀ a ∈ L, ∀ j, σ.1 a j = 0
theorem zKz.nil : zKz [] [] (fun _ => 0) zS0 := ⟨zKb.nil, fun _ h => absurd h List.not_mem_nil, fun _ h => absurd h List.not_mem_nil⟩
theorem zKz.add {ks L : List Nat} {kd : Nat → Nat} {σ : zS} {q k : Nat} (h : zKz ks L kd σ) (hr : ∀ j, (zr 0 k j).1 ≤ 0 ∧ 0 ≤ (zr 0 k j).2) (hf : ∀ j, zf 0 k j = none) (h11 : k ≠ 11) (hd : ∀ a ∈ L, a ∉ [q]) (hk : ks.contains k = false) (h12 : 12 ≤ k) : zKz (ks ++ [k]) (L ++ [q]) (zja [q] kd (fun _ => k)) (zjs [q] σ zS0) := by
  have el := zEx0.l (kd1 := kd) (kd2 := fun _ => k) (σ1 := σ) (σ2 := zS0) hd
  have er := zEx0.r (L1 := L) (L2 := [q]) (kd1 := kd) (kd2 := fun _ => k) (σ1 := σ) (σ2 := zS0)
  have hk2 : ∀ x ∈ ks, x ≠ k := fun x hx e => by
    rw [e] at hx
    simp [hx] at hk
  have hw : zwk false false false ks [k] = true := by
    unfold zwk
    refine Bool.and_eq_true_iff.mpr ⟨rfl, List.all_eq_true.mpr (fun x hx => ?_)⟩
    have := hk2 x (List.mem_filter.mp hx).1
    simp [this]
  refine ⟨zKb.app h.1 (zKb.one (b := false) (q := q) hr hf h11 h12 (fun _ => rfl)) hd (List.all_eq_true.mpr (fun x hx => ?_)) hw, fun a ha a' ha' e => ?_, fun a ha j => ?_⟩
  · have := hk2 x (List.mem_filter.mp hx).1
    simp [this]
  · rcases List.mem_append.mp ha with u | u <;> rcases List.mem_append.mp ha' with u' | u'
    · rw [(el a u).2.1, (el a' u').2.1] at e
      exact h.2.1 a u a' u' e
    · rw [(el a u).2.1, (er a' u').2.1] at e
      exact absurd e (hk2 _ (h.1.2.1 a u))
    · rw [(er a u).2.1, (el a' u').2.1] at e
      exact absurd e.symm (hk2 _ (h.1.2.1 a' u'))
    · rw [List.mem_singleton.mp u, List.mem_singleton.mp u']
  · rcases List.mem_append.mp ha with u | u
    · rw [(el a u).2.2.1]; exact h.2.2 a u j
    · rw [(er a u).2.2.1]
section ZNEW7
variable {rs : va_W} {cs sl : Nat} {d : zD2} {L ks : List Nat} {kd : Nat → Nat} {A : Nat → Prop} {nL : Nat} {p : Program} {l : Launch} {e : Env} {R : Room} {s : State} {m : MethodId} {args : Array Value} {below : List Frame} {meth : Method} {c : Code} {cc : ByteArray} {own : String} {Q : State → Prop} {σ : zS} {pc : Nat} {lv : List (Nat × Value)} {st : List Value}
theorem zc_newiZ (X : zX d L kd A nL p s m args c cc own) {atype : ArrayType} {n : Int32} (k b i : Nat) {ty : FieldType} (hk : zKz ks L kd σ) (harr : Cond.arrayClass ty ∈ zWL) (hty : newarray.typeOf atype = ty) (hb : zb k = b) (hb2 : b = 12 ∨ b = 13 ∨ b = 15) (hi : (zty d.2.2)[i]? = some (d.2.2 b, ty)) (hdef : defaultValue ty = .int 0) (hn : n.toInt = zn k) (hby : zn k * componentBytes ty ≤ 536870912) (hr : ∀ j, (zr 0 k j).1 ≤ 0 ∧ 0 ≤ (zr 0 k j).2) (hf : ∀ j, zf 0 k j = none) (h11 : k ≠ 11) (hs : ks.contains k = false) (_ : True) (hroom : cs + 1 ≤ R.cells ∧ sl + zn k ≤ R.slots) (hdg : decode cc pc = .ok (.newarray atype, 2))
    (kk : ∀ (q : Nat) (L2 : List Nat) (kd2 : Nat → Nat) (σ2 : zS), zEx0 L kd σ L2 kd2 σ2 → zT L2 kd2 q k → True → zKz (ks ++ [k]) L2 kd2 σ2 → zGc rs (cs + 1) (sl + zn k) d L2 kd2 A nL p l e R s m args below meth c Q σ2 (pc + 2) lv (.ref q :: st)) : zGc rs cs sl d L kd A nL p l e R s m args below meth c Q σ pc lv (.int n :: st) := by
  intro hz H locs ls hP hD hS hl
  subst hty
  have hnn : ¬ n < 0 := fun h => by
    have h2 := Int32.lt_iff_toInt_lt.mp h
    rw [hn, show (0 : Int32).toInt = 0 from rfl] at h2
    omega
  have hnc : n.toNatClampNeg = zn k := by
    show n.toInt.toNat = zn k
    rw [hn]
    rfl
  refine va_newa (a0 := (zn k, .inl (fun _ => 0))) X.1 X.2.1 (X.2.2.2.2.1 _ harr) rfl X.2.2.2.2.2.1 hP hD hS X.2.2.2.2.2.2.2.2.1 (fun cA => by rw [hdef]; rfl) hnn hnc hby hroom.1 hroom.2 hdg (fun q cA H1 hK1 hP1 hD1 hS1 => ?_)
  have hc : cA = d.2.2 b := zRA_eq X.2.2.2.2.2.1 hK1 hi
  subst hc
  have hw : zW d.2.2 [q] (fun _ => k) zS0 = [(q, .inl (d.2.2 b, zn k, .inl (fun _ => 0)))] := by
    show [(q, zE d.2.2 k (fun _ => 0) (fun _ => 0) (fun _ => none))] = _
    rw [zE_i hb hb2]
  rw [← hw] at hP1 hD1
  have hd := zdis hD1
  exact kk q (L ++ [q]) (zja [q] kd (fun _ => k)) (zjs [q] σ zS0) (zEx0.l hd) ⟨List.mem_append_right _ List.mem_cons_self, zja_r List.mem_cons_self⟩ trivial (hk.add hr hf h11 hd hs (zb12 hb (by omega))) hroom H1 locs ls (by rw [zW_app hd, ← List.append_assoc]; exact hP1) (by rw [zW_app hd, ← List.append_assoc]; exact hD1) hS1 hl
theorem zc_newlZ (X : zX d L kd A nL p s m args c cc own) {atype : ArrayType} {n : Int32} (k : Nat) (hk : zKz ks L kd σ) (harr : Cond.arrayClass .long ∈ zWL) (hty : newarray.typeOf atype = .long) (hb : zb k = 14) (hn : n.toInt = zn k) (hby : zn k * componentBytes .long ≤ 536870912) (hr : ∀ j, (zr 0 k j).1 ≤ 0 ∧ 0 ≤ (zr 0 k j).2) (hf : ∀ j, zf 0 k j = none) (h11 : k ≠ 11) (hs : ks.contains k = false) (_ : True) (hroom : cs + 1 ≤ R.cells ∧ sl + zn k ≤ R.slots) (hdg : decode cc pc = .ok (.newarray atype, 2))
    (kk : ∀ (q : Nat) (L2 : List Nat) (kd2 : Nat → Nat) (σ2 : zS), zEx0 L kd σ L2 kd2 σ2 → zT L2 kd2 q k → True → True → zKz (ks ++ [k]) L2 kd2 σ2 → zGc rs (cs + 1) (sl + zn k) d L2 kd2 A nL p l e R s m args below meth c Q σ2 (pc + 2) lv (.ref q :: st)) : zGc rs cs sl d L kd A nL p l e R s m args below meth c Q σ pc lv (.int n :: st) := by
  intro hz H locs ls hP hD hS hl
  have hnn : ¬ n < 0 := fun h => by
    have h2 := Int32.lt_iff_toInt_lt.mp h
    rw [hn, show (0 : Int32).toInt = 0 from rfl] at h2
    omega
  have hnc : n.toNatClampNeg = zn k := by
    show n.toInt.toNat = zn k
    rw [hn]
    rfl
  refine va_newa (a0 := (zn k, .inr (.inl (fun _ => 0)))) X.1 X.2.1 (by rw [hty]; exact X.2.2.2.2.1 _ harr) hty X.2.2.2.2.2.1 hP hD hS X.2.2.2.2.2.2.2.2.1 (fun cA => rfl) hnn hnc hby hroom.1 hroom.2 hdg (fun q cA H1 hK1 hP1 hD1 hS1 => ?_)
  have hc : cA = d.2.2 14 := zRA_eq (i := 2) X.2.2.2.2.2.1 hK1 rfl
  subst hc
  have hw : zW d.2.2 [q] (fun _ => k) zS0 = [(q, .inl (d.2.2 14, zn k, .inr (.inl (fun _ => 0))))] := by
    show [(q, zE d.2.2 k (fun _ => 0) (fun _ => 0) (fun _ => none))] = _
    rw [zE_l hb]
  rw [← hw] at hP1 hD1
  have hd := zdis hD1
  exact kk q (L ++ [q]) (zja [q] kd (fun _ => k)) (zjs [q] σ zS0) (zEx0.l hd) ⟨List.mem_append_right _ List.mem_cons_self, zja_r List.mem_cons_self⟩ trivial trivial (hk.add hr hf h11 hd hs (zb12 hb (by omega))) hroom H1 locs ls (by rw [zW_app hd, ← List.append_assoc]; exact hP1) (by rw [zW_app hd, ← List.append_assoc]; exact hD1) hS1 hl
theorem h11k {ks L : List Nat} {kd : Nat → Nat} {σ : zS} (h : zKb false ks L kd σ) : ∀ a ∈ L, kd a ≠ 11 := h.1.2.2.2.2
/-- the reference stands -/
theorem zc_typedJ {a0 : Nat} {fs : List Value} (i : Nat → Int32) (jl : Nat → Int64) (q : Nat → Option Nat) (hk : zKz ks L kd σ) (hfs : fs = zfs i jl q (ztys 11) 0) (hr : ∀ j, (zr 0 11 j).1 ≤ (i j).toInt ∧ (i j).toInt ≤ (zr 0 11 j).2) (hf : ∀ j k2, zf 0 11 j = some k2 → ∃ y, q j = some y ∧ zT L kd y k2) (h7 : ks.contains 7 = false)
    (kk : ∀ (L2 : List Nat) (kd2 : Nat → Nat) (σ2 : zS), zT L2 kd2 a0 11 → zJ 0 L2 kd2 σ2 → (∀ a ∈ L2, kd2 a ≠ 11 → ∀ j, σ2.1 a j = 0) → σ2.1 a0 = i → zGc [] cs sl d L2 kd2 A nL p l e R s m args below meth c Q σ2 pc lv st) : zGc [(a0, .inr (11, fs))] cs sl d L kd A nL p l e R s m args below meth c Q σ pc lv st := by
  intro hz H locs ls hP hD hS hl
  have hw : zW d.2.2 [a0] (fun _ => 11) (fun _ => i, fun _ => jl, fun _ => q) = [(a0, .inr (11, fs))] := by
    show [(a0, zE d.2.2 11 i jl q)] = _
    rw [zE_o (c := 11) rfl (by decide), hfs]
  rw [← hw] at hP hD
  have hd : ∀ a ∈ [a0], a ∉ L := zdis (rs := []) (dA := d.2.2) (kd1 := fun _ => 11) (kd2 := kd) (σ1 := (fun _ => i, fun _ => jl, fun _ => q)) (σ2 := σ) hD
  rw [← zW_app hd] at hP hD
  have el := zEx0.l (L1 := [a0]) (L2 := L) (kd1 := fun _ => 11) (kd2 := kd) (σ1 := (fun _ => i, fun _ => jl, fun _ => q)) (σ2 := σ) hd
  have er := zEx0.r (L1 := [a0]) (L2 := L) (kd1 := fun _ => 11) (kd2 := kd) (σ1 := (fun _ => i, fun _ => jl, fun _ => q)) (σ2 := σ)
  have m0 : a0 ∈ [a0] := List.mem_cons_self
  have n11 : ∀ a ∈ L, kd a ≠ 11 := h11k hk.1
  refine kk _ _ _ ⟨List.mem_append_left _ m0, (el a0 m0).2.1⟩ ⟨fun a ha j => ?_, fun a ha j k2 h => ?_, by omega, fun a ha a' ha' e => ?_, fun a ha => ?_⟩ (fun a ha hn j => ?_) (el a0 m0).2.2.1 hz H locs ls hP hD hS hl
  · rcases List.mem_append.mp ha with u | u
    · rw [(el a u).2.1, (el a u).2.2.1]; exact hr j
    · rw [(er a u).2.1, (er a u).2.2.1]; exact hk.1.1.1 a u j
  · rcases List.mem_append.mp ha with u | u
    · rw [(el a u).2.1] at h
      rw [(el a u).2.2.2.2]
      obtain ⟨y, hy, ht⟩ := hf j k2 h
      exact ⟨y, hy, er.t ht⟩
    · rw [(er a u).2.1] at h
      rw [(er a u).2.2.2.2]
      obtain ⟨y, hy, ht⟩ := hk.1.1.2.1 a u j k2 h
      exact ⟨y, hy, er.t ht⟩
  · rcases List.mem_append.mp ha with u | u <;> rcases List.mem_append.mp ha' with u' | u'
    · rw [List.mem_singleton.mp u, List.mem_singleton.mp u']
    · rw [(el a u).2.1, (er a' u').2.1] at e
      exact absurd e.symm (n11 a' u')
    · rw [(er a u).2.1, (el a' u').2.1] at e
      exact absurd e (n11 a u)
    · rw [(er a u).2.1, (er a' u').2.1] at e
      exact hk.2.1 a u a' u' e
  · rcases List.mem_append.mp ha with u | u
    · rw [(el a u).2.1]; show (11 : Nat) ≠ 7; decide
    · rw [(er a u).2.1]
      intro e
      have := hk.1.2.1 a u
      rw [e] at this
      simp [this] at h7
  · rcases List.mem_append.mp ha with u | u
    · exact absurd (el a u).2.1 hn
    · rw [(er a u).2.2.1]; exact hk.2.2 a u j
end ZNEW7
def zNewJ (l : Launch) (y : MethodName) (ws : List Cond) (n mc ms : Nat) (d : zD2) (fs0 : List Value) : Prop := ∀ (a0 sz : Nat), Met l y ws { frames := n, cells := mc, slots := ms, locals := 100 * n } (va_Pc [.ref a0] (fun U => U.heap.size = sz ∧ va_P (d.1, d.2.1) vwCl [(a0, .inr (11, fs0))] U.heap ∧ va_K (d.1, d.2.1) vwCl (zty d.2.2) U ∧ zN U ∧ va_D (fun _ => True) [(a0, .inr (11, fs0))] ∧ zEX d.2.2 (va_A [(a0, .inr (11, fs0))] sz) U U.heap)) (va_Qv (fun u : List Nat × (Nat → Nat) × zS => zT u.1 u.2.1 a0 11 ∧ zRef 0 a0 u.1 u.2.1 u.2.2) (fun u t => va_P (d.1, d.2.1) vwCl (zW d.2.2 u.1 u.2.1 u.2.2) t.heap ∧ va_K (d.1, d.2.1) vwCl (zty d.2.2) t ∧ va_D (va_A [(a0, .inr (11, fs0))] sz) (zW d.2.2 u.1 u.2.1 u.2.2)) (va_A [(a0, .inr (11, fs0))] sz)) mc ms (va_A [(a0, .inr (11, fs0))] sz)
theorem zNewJ.of {l : Launch} {y : MethodName} {ws : List Cond} {n maxL mc ms : Nat} {d : zD2} {fs0 : List Value} {cc : ByteArray} {own : String} (hy : plainName y.cls = true) (hw : ws = Cond.code y cc maxL none :: zWL) (hown : y.cls = own) (hyn : y.name = "<init>") (hml1 : 1 ≤ maxL)
    (body : ∀ (a0 : Nat) (p : Program) (e : Env) (s : State) (m : MethodId) (args : Array Value) (below : List Frame) (meth : Method) (c : Code) (A : Nat → Prop) (Q : State → Prop), zX d [] (fun _ => 0) A maxL p s m args c cc own → meth.name = "<init>" → (∀ (L2 : List Nat) (kd2 : Nat → Nat) (σ2 : zS) (pc : Nat) (lv : List (Nat × Value)), decode cc pc = .ok (.return_, 1) → zT L2 kd2 a0 11 → zRef 0 a0 L2 kd2 σ2 → zGc [] mc ms d L2 kd2 A maxL p l e { frames := n, cells := mc, slots := ms, locals := 100 * n } s m args below meth c Q σ2 pc lv []) → zGc [(a0, .inr (11, fs0))] 0 0 d [] (fun _ => 0) A maxL p l e { frames := n, cells := mc, slots := ms, locals := 100 * n } s m args below meth c Q zS0 0 [(0, .ref a0)] []) : zNewJ l y ws n mc ms d fs0 := by
  intro a0 sz
  refine Met.ofW (cc := cc) (maxL := maxL) (ret := none) hy hw ?_
  intro p e s m args below meth c s₁ B hml hv
  obtain ⟨rfl, hsz, hP, hK, hN, hD0, hE⟩ := hv
  have hts := atoms_spec (ws := ws) B.pre
  have hown2 : s.vm.findClass y.cls = some m.cls := findClass_of_methodNamed B.named
  have hlocks := B.notSynchronized
  have hin : meth.name = "<init>" := by rw [(name_of_methodNamed B.named B.method).1]; exact hyn
  subst hsz
  have hl := lv_entry [Value.ref a0] (n := maxL) hml1
  rw [lg_entry_eq]
  generalize (lg_sl [Value.ref a0] ++ List.replicate (maxL - (lg_sl [Value.ref a0]).length) Slot.unset).toArray = ls at hl ⊢
  refine body a0 p e s m _ below meth c (va_A [(a0, .inr (11, fs0))] s.heap.size) _ ⟨B.exec, B.bytes, hml, by rw [← hown]; exact hown2, fun w h => hts w (by rw [hw]; exact List.mem_cons_of_mem _ h), hK, hN, trivial, fun q h => Or.inr h, hE⟩ hin ?_ ⟨Nat.zero_le _, Nat.zero_le _⟩ s.heap [] ls hP (hD0.self (sz := s.heap.size)) va_S.rf hl
  intro L2 kd2 σ2 pc lv hdg hT hk2 _ H locs ls hP hD hS hl
  exact W.vret B.exec B.bytes B.returns (fun t ht hW => ⟨⟨(L2, kd2, σ2), rfl, ⟨hT, hk2⟩, by rw [ht]; exact hP, va_K.moved hW.alike hK, hD⟩, hS.F ht⟩) hS.2.2 hdg
section ZNEW8
variable {rs : va_W} {cs sl : Nat} {d : zD2} {L ks : List Nat} {kd : Nat → Nat} {A : Nat → Prop} {nL : Nat} {p : Program} {l : Launch} {e : Env} {R : Room} {s : State} {m : MethodId} {args : Array Value} {below : List Frame} {meth : Method} {c : Code} {cc : ByteArray} {own : String} {Q : State → Prop} {σ : zS} {pc : Nat} {lv : List (Nat × Value)} {st : List Value}
/-- new, dup, the constructor's call, of the reference -/
theorem zc_newJ (X : zX d [] (fun _ => 0) A nL p s m args c cc own) {y : MethodName} {b : ByteArray} {mL n mc ms index ixc N : Nat} {C : String} {T : u_T} {ty : Nat → FieldType} {fs0 : List Value} (hM : zNewJ l y (Cond.code y b mL none :: zWL) n mc ms d fs0)
    (hcl : vwCl[11]? = some (C, T, N)) (hin : ∀ w ∈ u_ws C T N, w ∈ zWL) (hty : ∀ k, k < N → parseFieldDescriptor (T k).2.2.1 = some (ty k)) (hclk : Cond.classLink own index C ∈ zWL) (hinst : Cond.instantiable C N ∈ zWL) (hini : Cond.initialized C ∈ zWL) (hfs : ∀ j, j < N → defaultValue (ty j) = vp_V fs0 j)
    (hlink : Cond.methodLink own ixc y ∈ zWL ∨ ∃ host, Cond.methodLinkNest own ixc y host ∈ tables_1) (hcode : Cond.code y b mL none ∈ zWL) (hyini : Cond.initialized y.cls ∈ zWL) (hyinst : Cond.instanceMethod y ∈ zWL) (hyn : y.name = "<init>") (hd : y.cls ≠ "java/lang/invoke/MethodHandle" ∧ y.cls ≠ "java/lang/invoke/VarHandle" ∧ (parseMethodDescriptor y.desc).map (fun q => q.parameters.length) = some 0)
    (h1 : decode cc pc = .ok (.new index, 3)) (h2 : decode cc (pc + 3) = .ok (.dup, 1)) (h3 : decode cc (pc + 4) = .ok (.invokespecial ixc, 3)) (hroom : (cs + 1 + mc ≤ R.cells ∧ sl + N + ms ≤ R.slots) ∧ n + 1 ≤ R.frames ∧ 8 + (mL + 11) + 100 * n ≤ R.locals) (hst : ((.ref 0 :: st).map fun v => v.category).sum ≤ 8)
    (kk : ∀ (q : Nat) (L2 : List Nat) (kd2 : Nat → Nat) (σ2 : zS), zT L2 kd2 q 11 → zRef 0 q L2 kd2 σ2 → zGc rs (cs + 1 + mc) (sl + N + ms) d L2 kd2 A nL p l e R s m args below meth c Q σ2 (pc + 7) lv (.ref q :: st)) : zGc rs cs sl d [] (fun _ => 0) A nL p l e R s m args below meth c Q zS0 pc lv st := by
  intro hz H locs ls hP hD hS hl
  have U := X.2.2.2.2.1
  have hA := X.2.2.2.2.2.2.2.2.1
  refine va_new (ci := 11) (fs := fs0) X.1 X.2.1 U hin ty hty X.2.2.2.1 (U _ hclk) (U _ hinst) (U _ hini) X.2.2.2.2.2.1 hP hD hS hA hcl hfs (by omega) (by omega) h1 (fun q H1 hP1 hD1 hS1 => ?_)
  refine lv_dup X.1 X.2.1 h2 rfl ?_
  have hPc : va_P (d.1, d.2.1) vwCl [(q, .inr (11, fs0))] H1 := zP_suf hP1
  have hDc : va_D A [(q, .inr (11, fs0))] := zD_suf hD1
  have hF := zA_sub hDc hS1 hA
  have hsig : ∀ sig, parseMethodDescriptor y.desc = some sig → ([] : List Value).length = sig.parameters.length := fun sig h => by
    have h5 := hd.2.2
    rw [h] at h5
    exact (Option.some.inj h5).symm
  have hpre : PreS s H1 (va_Pc [.ref q] (fun U => U.heap.size = H1.size ∧ va_P (d.1, d.2.1) vwCl [(q, .inr (11, fs0))] U.heap ∧ va_K (d.1, d.2.1) vwCl (zty d.2.2) U ∧ zN U ∧ va_D (fun _ => True) [(q, .inr (11, fs0))] ∧ zEX d.2.2 (va_A [(q, .inr (11, fs0))] H1.size) U U.heap)) (.ref q :: []) := by
    refine ⟨fun a U g mk z => ?_, fun U hU hW => ⟨rfl, by rw [hU], by rw [hU]; exact hPc, va_K.moved hW.alike X.2.2.2.2.2.1, zN.warm hW X.2.2.2.2.2.2.1, hDc.weaken (fun _ _ _ _ => trivial), by rw [hU]; exact ((X.2.2.2.2.2.2.2.2.2.kept hS1.2.1).narrow hF).warm hW⟩⟩
    obtain ⟨z0, z1, zP, zK, zN0, zD, zE0⟩ := z
    exact ⟨z0, z1, zP, va_K.moved (u := U) (U := U.calling g mk a) (Vm.Alike.refl U.vm) zK, zN.same (u := U) (U := U.calling g mk a) rfl zN0, zD, zEX.same (u := U) (U := U.calling g mk a) rfl zE0⟩
  have hsum : ((.ref q :: st).map fun v => v.category).sum ≤ 8 := hst
  have run : va_Run p l e R s m args below meth c H1 locs (cs + 1) (sl + N) mc ms (F0 m (pc + 3 + 1) ls (.ref q :: .ref q :: st)) (.ref q :: st) (va_Qv (fun u : List Nat × (Nat → Nat) × zS => zT u.1 u.2.1 q 11 ∧ zRef 0 q u.1 u.2.1 u.2.2) (fun u t => va_P (d.1, d.2.1) vwCl (zW d.2.2 u.1 u.2.1 u.2.2) t.heap ∧ va_K (d.1, d.2.1) vwCl (zty d.2.2) t ∧ va_D (va_A [(q, .inr (11, fs0))] H1.size) (zW d.2.2 u.1 u.2.1 u.2.2)) (va_A [(q, .inr (11, fs0))] H1.size) (Value.ref q :: []).toArray) (va_A [(q, .inr (11, fs0))] H1.size) := by
    rcases hlink with hlink | ⟨host, hlink⟩
    · exact va_runI (As := []) (rest := .ref q :: st) (n := 0) ⟨X.1, X.2.1, X.2.2.1, X.2.2.2.1, U⟩ (hM q H1.size) ⟨⟨rfl, rfl, hroom.2.1, hroom.2.2, zpay U hcode, List.mem_cons_self, U _ hcode, U _ hyini, ⟨hd.1, hd.2.1⟩, hsig, U _ hlink⟩, hyn, U _ hyinst⟩ hpre rfl rfl hl.1 rfl (lv_room hsum) h3 ⟨by omega, by omega⟩
    · exact va_runIN (As := []) (rest := .ref q :: st) (n := 0) ⟨X.1, X.2.1, X.2.2.1, X.2.2.2.1, U⟩ (hM q H1.size) ⟨⟨⟨rfl, rfl, hroom.2.1, hroom.2.2, zpay U hcode, List.mem_cons_self⟩, U _ hcode, U _ hyini, ⟨hd.1, hd.2.1⟩, hsig, va_Nw.use rfl (X.2.2.2.2.2.2.1 _ hlink rfl)⟩, hyn, U _ hyinst⟩ hpre rfl rfl hl.1 rfl (lv_room hsum) h3 ⟨by omega, by omega⟩
  refine va_callv run hS1 (fun q _ h => hF q h) hF (fun u t H2 locs ht hvm hw hB hz1 hk1 hS2 => ?_)
  obtain ⟨L2, kd2, σ2⟩ := u
  obtain ⟨hP2, hK2, hD2⟩ := hB
  rw [ht] at hP2
  obtain ⟨hP3, hD3⟩ := zB_back hP1 hD1 hF hk1 hP2 hD2
  have e0 : zW d.2.2 [] (fun _ => 0) zS0 = [] := rfl
  rw [e0, List.append_nil] at hP3 hD3
  exact kk q L2 kd2 σ2 hw.1 hw.2 ⟨by omega, by omega⟩ H2 locs ls hP3 hD3 hS2 hl
end ZNEW8
theorem va_P_swap {D : va_G} {cl : List vw_C} {A B : va_W} {H : Heap} (h : va_P D cl (A ++ B) H) : va_P D cl (B ++ A) H := by
  intro k q hk
  rcases Nat.lt_or_ge k B.length with g | g
  · rw [List.getElem?_append_left g] at hk
    exact h (A.length + k) q (by rw [List.getElem?_append_right (by omega), Nat.add_sub_cancel_left]; exact hk)
  · rw [List.getElem?_append_right g] at hk
    have hl := (List.getElem?_eq_some_iff.mp hk).1
    exact h (k - B.length) q (by rw [List.getElem?_append_left hl]; exact hk)
theorem va_D_swap {P : Nat → Prop} {A B : va_W} (h : va_D P (A ++ B)) : va_D P (B ++ A) := by
  have key : ∀ (k : Nat) (q : Nat × va_E), (B ++ A)[k]? = some q → (k < B.length ∧ (A ++ B)[A.length + k]? = some q) ∨ (B.length ≤ k ∧ k - B.length < A.length ∧ (A ++ B)[k - B.length]? = some q) := fun k q hk => by
    rcases Nat.lt_or_ge k B.length with g | g
    · rw [List.getElem?_append_left g] at hk
      exact Or.inl ⟨g, by rw [List.getElem?_append_right (by omega), Nat.add_sub_cancel_left]; exact hk⟩
    · rw [List.getElem?_append_right g] at hk
      have hl := (List.getElem?_eq_some_iff.mp hk).1
      exact Or.inr ⟨g, hl, by rw [List.getElem?_append_left hl]; exact hk⟩
  refine ⟨fun i j p q hi hj e => ?_, fun k q hk => ?_⟩
  · rcases key i p hi with ⟨g1, g2⟩ | ⟨g1, g3, g2⟩ <;> rcases key j q hj with ⟨k1, k2⟩ | ⟨k1, k3, k2⟩ <;> (have := h.1 _ _ p q g2 k2 e; omega)
  · rcases key k q hk with ⟨-, g⟩ | ⟨-, -, g⟩
    · exact h.2 _ q g
    · exact h.2 _ q g
theorem zb_len {N : Nat} (h : N ≤ 3072) : (Int32.ofNat N).toInt = N := Int32.toInt_ofNat_of_lt (by omega)
section ZLAW
variable {cs sl : Nat} {d : zD2} {A : Nat → Prop} {nL : Nat} {p : Program} {l : Launch} {e : Env} {R : Room} {s : State} {m : MethodId} {args : Array Value} {below : List Frame} {meth : Method} {c : Code} {cc : ByteArray} {own : String} {Q : State → Prop} {pc : Nat} {lv : List (Nat × Value)} {st : List Value}
/-- the one world, or the other, is the typed one -/
theorem zg_swap {L1 L2 : List Nat} {kd1 kd2 : Nat → Nat} {σ1 σ2 : zS} (h : zGc (zW d.2.2 L1 kd1 σ1) cs sl d L2 kd2 A nL p l e R s m args below meth c Q σ2 pc lv st) : zGc (zW d.2.2 L2 kd2 σ2) cs sl d L1 kd1 A nL p l e R s m args below meth c Q σ1 pc lv st := fun hz H locs ls hP hD hS hl => h hz H locs ls (va_P_swap hP) (va_D_swap hD) hS hl
theorem zg_raw {L1 : List Nat} {kd1 : Nat → Nat} {σ1 : zS} (h : zGc (zW d.2.2 L1 kd1 σ1) cs sl d [] (fun _ => 0) A nL p l e R s m args below meth c Q zS0 pc lv st) : zGc [] cs sl d L1 kd1 A nL p l e R s m args below meth c Q σ1 pc lv st := fun hz H locs ls hP hD hS hl => h hz H locs ls (va_P_swap hP) (va_D_swap hD) hS hl
variable {rs : va_W} {L : List Nat} {kd : Nat → Nat} {σ : zS}
theorem zg_sld (X : zX d L kd A nL p s m args c cc own) {b N : Nat} {xs : Nat → Int32} (hX : va_X b N xs s s.heap) (hbl : b < s.heap.size) (hbA : ¬ A b) {i : Int32} (h0 : 0 ≤ i.toInt) (h1 : i.toInt < N) (hdg : decode cc pc = .ok (.iaload, 1)) (k : ∀ v : Int32, v = xs i.toNatClampNeg → zGc rs cs sl d L kd A nL p l e R s m args below meth c Q σ (pc + 1) lv (.int v :: st)) : zGc rs cs sl d L kd A nL p l e R s m args below meth c Q σ pc lv (.int i :: .ref b :: st) := fun hz H locs ls hP hD hS hl => va_sld X.1 X.2.1 hX hbl hbA hS (zb_in h0 h1) hdg (k _ rfl hz H locs ls hP hD hS hl)
theorem zg_slenX (X : zX d L kd A nL p s m args c cc own) {b N : Nat} {xs : Nat → Int32} (hX : va_X b N xs s s.heap) (hbl : b < s.heap.size) (hbA : ¬ A b) (hN : N ≤ 3072) (hdg : decode cc pc = .ok (.arraylength, 1)) (k : ∀ v : Int32, v.toInt = N → zGc rs cs sl d L kd A nL p l e R s m args below meth c Q σ (pc + 1) lv (.int v :: st)) : zGc rs cs sl d L kd A nL p l e R s m args below meth c Q σ pc lv (.ref b :: st) := fun hz H locs ls hP hD hS hl => va_slen X.1 X.2.1 hX hbl hbA hS hdg (k _ (zb_len hN) hz H locs ls hP hD hS hl)
end ZLAW
