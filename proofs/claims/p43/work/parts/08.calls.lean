theorem zMi.of {l : Launch} {y : MethodName} {ws : List Cond} {n maxL : Nat} {av : List Value} {d : zD2} {L : List Nat} {kd : Nat → Nat} {σ : zS} {post : Int32 → zS → Prop} {cc : ByteArray} {rt : FieldType} {own : String} (hy : plainName y.cls = true) (hw : ws = Cond.code y cc maxL (some rt) :: zWL) (hown : y.cls = own) (hav : (lg_sl av).length ≤ maxL)
    (body : ∀ (p : Program) (e : Env) (s : State) (m : MethodId) (args : Array Value) (below : List Frame) (meth : Method) (c : Code) (A : Nat → Prop) (Q : State → Prop), zX d L kd A maxL p s m args c cc own → (∀ (v : Int32) (σ2 : zS) (pc : Nat) (lv : List (Nat × Value)), decode cc pc = .ok (.ireturn, 1) → narrow rt (.int v) = .int v → post v σ2 → zG d L kd A maxL p l e (k2_rm n (100 * n)) s m args below meth c Q σ2 pc lv [.int v]) → zG d L kd A maxL p l e (k2_rm n (100 * n)) s m args below meth c Q σ 0 (lv_args 0 av) []) : zMi l y ws n av d L kd σ post := by
  intro sz
  refine Met.ofW (cc := cc) (maxL := maxL) (ret := (some rt)) hy hw ?_
  intro p e s m args below meth c s₁ B hml hv
  obtain ⟨rfl, hsz, ⟨hP, hK⟩, hN, hD0, hE⟩ := hv
  have hts := atoms_spec (ws := ws) B.pre
  have hown2 : s.vm.findClass y.cls = some m.cls := findClass_of_methodNamed B.named
  have hlocks := B.notSynchronized
  subst hsz
  have hl := lv_entry av (n := maxL) hav
  rw [lg_entry_eq]
  generalize (lg_sl av ++ List.replicate (maxL - (lg_sl av).length) Slot.unset).toArray = ls at hl ⊢
  refine body p e s m _ below meth c (va_A (zW d.2.2 L kd σ) s.heap.size) _ ⟨B.exec, B.bytes, hml, by rw [← hown]; exact hown2, fun w h => hts w (by rw [hw]; exact List.mem_cons_of_mem _ h), hK, hN, trivial, fun q h => Or.inr h, hE⟩ ?_ ⟨Nat.zero_le _, Nat.zero_le _⟩ s.heap [] ls hP (hD0.self (sz := s.heap.size)) va_S.rf hl
  intro v σ2 pc lv hdg hn hp _ H locs ls hP hD hS hl
  exact W.zret B.exec B.bytes B.returns hn (fun t ht hW => ⟨⟨v, σ2, rfl, hp, ⟨by rw [ht]; exact hP, va_K.moved hW.alike hK⟩, hD⟩, hS.F ht⟩) hS.2.2 hdg
theorem zMl.of {l : Launch} {y : MethodName} {ws : List Cond} {n maxL : Nat} {av : List Value} {d : zD2} {L : List Nat} {kd : Nat → Nat} {σ : zS} {post : Int64 → zS → Prop} {cc : ByteArray} {own : String} (hy : plainName y.cls = true) (hw : ws = Cond.code y cc maxL (some .long) :: zWL) (hown : y.cls = own) (hav : (lg_sl av).length ≤ maxL)
    (body : ∀ (p : Program) (e : Env) (s : State) (m : MethodId) (args : Array Value) (below : List Frame) (meth : Method) (c : Code) (A : Nat → Prop) (Q : State → Prop), zX d L kd A maxL p s m args c cc own → (∀ (v : Int64) (σ2 : zS) (pc : Nat) (lv : List (Nat × Value)), decode cc pc = .ok (.lreturn, 1) → post v σ2 → zG d L kd A maxL p l e (k2_rm n (100 * n)) s m args below meth c Q σ2 pc lv [.long v]) → zG d L kd A maxL p l e (k2_rm n (100 * n)) s m args below meth c Q σ 0 (lv_args 0 av) []) : zMl l y ws n av d L kd σ post := by
  intro sz
  refine Met.ofW (cc := cc) (maxL := maxL) (ret := (some .long)) hy hw ?_
  intro p e s m args below meth c s₁ B hml hv
  obtain ⟨rfl, hsz, ⟨hP, hK⟩, hN, hD0, hE⟩ := hv
  have hts := atoms_spec (ws := ws) B.pre
  have hown2 : s.vm.findClass y.cls = some m.cls := findClass_of_methodNamed B.named
  have hlocks := B.notSynchronized
  subst hsz
  have hl := lv_entry av (n := maxL) hav
  rw [lg_entry_eq]
  generalize (lg_sl av ++ List.replicate (maxL - (lg_sl av).length) Slot.unset).toArray = ls at hl ⊢
  refine body p e s m _ below meth c (va_A (zW d.2.2 L kd σ) s.heap.size) _ ⟨B.exec, B.bytes, hml, by rw [← hown]; exact hown2, fun w h => hts w (by rw [hw]; exact List.mem_cons_of_mem _ h), hK, hN, trivial, fun q h => Or.inr h, hE⟩ ?_ ⟨Nat.zero_le _, Nat.zero_le _⟩ s.heap [] ls hP (hD0.self (sz := s.heap.size)) va_S.rf hl
  intro v σ2 pc lv hdg hp _ H locs ls hP hD hS hl
  exact W.lret B.exec B.bytes B.returns (fun t ht hW => ⟨⟨v, σ2, rfl, hp, ⟨by rw [ht]; exact hP, va_K.moved hW.alike hK⟩, hD⟩, hS.F ht⟩) hS.2.2 hdg
theorem zMv.of {l : Launch} {y : MethodName} {ws : List Cond} {n maxL : Nat} {av : List Value} {d : zD2} {L : List Nat} {kd : Nat → Nat} {σ : zS} {post : zS → Prop} {cc : ByteArray} {own : String} (hy : plainName y.cls = true) (hw : ws = Cond.code y cc maxL none :: zWL) (hown : y.cls = own) (hav : (lg_sl av).length ≤ maxL)
    (body : ∀ (p : Program) (e : Env) (s : State) (m : MethodId) (args : Array Value) (below : List Frame) (meth : Method) (c : Code) (A : Nat → Prop) (Q : State → Prop), zX d L kd A maxL p s m args c cc own → (∀ (σ2 : zS) (pc : Nat) (lv : List (Nat × Value)), decode cc pc = .ok (.return_, 1) → post σ2 → zG d L kd A maxL p l e (k2_rm n (100 * n)) s m args below meth c Q σ2 pc lv []) → zG d L kd A maxL p l e (k2_rm n (100 * n)) s m args below meth c Q σ 0 (lv_args 0 av) []) : zMv l y ws n av d L kd σ post := by
  intro sz
  refine Met.ofW (cc := cc) (maxL := maxL) (ret := none) hy hw ?_
  intro p e s m args below meth c s₁ B hml hv
  obtain ⟨rfl, hsz, ⟨hP, hK⟩, hN, hD0, hE⟩ := hv
  have hts := atoms_spec (ws := ws) B.pre
  have hown2 : s.vm.findClass y.cls = some m.cls := findClass_of_methodNamed B.named
  have hlocks := B.notSynchronized
  subst hsz
  have hl := lv_entry av (n := maxL) hav
  rw [lg_entry_eq]
  generalize (lg_sl av ++ List.replicate (maxL - (lg_sl av).length) Slot.unset).toArray = ls at hl ⊢
  refine body p e s m _ below meth c (va_A (zW d.2.2 L kd σ) s.heap.size) _ ⟨B.exec, B.bytes, hml, by rw [← hown]; exact hown2, fun w h => hts w (by rw [hw]; exact List.mem_cons_of_mem _ h), hK, hN, trivial, fun q h => Or.inr h, hE⟩ ?_ ⟨Nat.zero_le _, Nat.zero_le _⟩ s.heap [] ls hP (hD0.self (sz := s.heap.size)) va_S.rf hl
  intro σ2 pc lv hdg hp _ H locs ls hP hD hS hl
  exact W.vret B.exec B.bytes B.returns (fun t ht hW => ⟨⟨σ2, rfl, hp, ⟨by rw [ht]; exact hP, va_K.moved hW.alike hK⟩, hD⟩, hS.F ht⟩) hS.2.2 hdg
theorem zb_bool {v : Int32} (h : 0 ≤ v.toInt ∧ v.toInt ≤ 1) : narrow .boolean (.int v) = .int v := by
  rcases (show v.toInt = 0 ∨ v.toInt = 1 by omega) with q | q
  · rw [show v = 0 from Int32.toInt_inj.mp q]; rfl
  · rw [show v = 1 from Int32.toInt_inj.mp q]; rfl
theorem zb_boolF {v : Int32} (h : 0 ≤ v.toInt ∧ v.toInt ≤ 1) : fits .boolean (.int v) = true := by
  rcases (show v.toInt = 0 ∨ v.toInt = 1 by omega) with q | q
  · rw [show v = 0 from Int32.toInt_inj.mp q]; rfl
  · rw [show v = 1 from Int32.toInt_inj.mp q]; rfl
theorem zWL_good : ∀ w ∈ zWL, goodWord w = true := by
  intro w h
  rcases List.mem_append.mp h with h | h <;> exact (List.mem_filter.mp h).2
/-- a callee's words hold wherever the caller's hold -/
theorem zpay {y : MethodName} {b : ByteArray} {nl : Nat} {r : Option FieldType} {args : Array Value} {s : State} (hts : ∀ w ∈ zWL, w.before args s = true) (hc : Cond.code y b nl r ∈ zWL) : ∀ w ∈ Cond.code y b nl r :: zWL, ∀ (a' : Array Value) (U : State), s.WarmedH U.vm → w.before a' U = true :=
  pay_in hts (fun w h => by
    rcases List.mem_cons.mp h with rfl | h
    · exact ⟨hc, good_of_word (zWL_good _ hc)⟩
    · exact ⟨h, good_of_word (zWL_good _ h)⟩)
theorem zblind {av : List Value} {d : zD2} {L : List Nat} {kd : Nat → Nat} {σ : zS} {sz : Nat} : FrameBlind (va_Pc av (zPc d L kd σ sz)) := fun a U g mk q => by
  obtain ⟨q0, q1, ⟨qP, qK⟩, qN, qD, qE⟩ := q
  exact ⟨q0, q1, ⟨qP, va_K.moved (u := U) (U := U.calling g mk a) (Vm.Alike.refl U.vm) qK⟩, zN.same (u := U) (U := U.calling g mk a) rfl qN, qD, zEX.same (u := U) (U := U.calling g mk a) rfl qE⟩
section ZCALLS
variable {rs : va_W} {cs sl : Nat} {d : zD2} {L : List Nat} {kd : Nat → Nat} {A : Nat → Prop} {nL : Nat} {p : Program} {l : Launch} {e : Env} {R : Room} {s : State} {m : MethodId} {args : Array Value} {below : List Frame} {meth : Method} {c : Code} {cc : ByteArray} {own : String} {Q : State → Prop} {σ : zS} {pc : Nat} {lv : List (Nat × Value)} {st : List Value}
theorem zg_cVi (X : zX d L kd A nL p s m args c cc own) {y : MethodName} {b : ByteArray} {mL n index na : Nat} {rt : FieldType} {As : List Value} {post : Int32 → zS → Prop} {a k ci N : Nat} {C : String} {T : u_T} (ha : zT L kd a k) (hb : zb k = ci) (hci : ci < 12) (hcl : vwCl[ci]? = some (C, T, N)) (hM : zMi l y (Cond.code y b mL (some rt) :: zWL) n (.ref a :: As) d L kd σ post) (hlink : Cond.methodLink own index y ∈ zWL) (hcode : Cond.code y b mL (some rt) ∈ zWL) (hini : Cond.initialized y.cls ∈ zWL) (hinst : Cond.instanceMethod y ∈ zWL) (hsel : Cond.selects C y y ∈ zWL) (hd : y.cls ≠ "java/lang/invoke/MethodHandle" ∧ y.cls ≠ "java/lang/invoke/VarHandle" ∧ (parseMethodDescriptor y.desc).map (fun q => q.parameters.length) = some na) (hna : As.length = na) (hR : n + 1 ≤ R.frames ∧ 8 + (mL + 11) + 100 * n ≤ R.locals) (hst : (st.map fun v => v.category).sum ≤ 8) (hdg : decode cc pc = .ok (.invokevirtual index, 3)) (k : ∀ (v : Int32) (σ2 : zS), post v σ2 → zGc rs cs sl d L kd A nL p l e R s m args below meth c Q σ2 (pc + 3) lv (.int v :: st)) : zGc rs cs sl d L kd A nL p l e R s m args below meth c Q σ pc lv (As.reverse ++ .ref a :: st) := by
  intro hz H locs ls hP hD hS hl
  obtain ⟨q0, hq⟩ := zR_at (dA := d.2.2) (kd := kd) rs σ ha.1
  have he : zF d.2.2 kd σ a = .inr (ci, zfs (σ.1 a) (σ.2.1 a) (σ.2.2 a) (ztys ci) 0) := zE_o (by rw [ha.2]; exact hb) hci
  rw [he] at hq
  have hsig : ∀ sig, parseMethodDescriptor y.desc = some sig → As.length = sig.parameters.length := fun sig h => by
    have h2 := hd.2.2
    rw [h, ← hna] at h2
    exact (Option.some.inj h2).symm
  have hF := zA_sub (zD_suf hD) hS X.2.2.2.2.2.2.2.2.1
  refine va_calli (va_runV (As := As) (rest := st) (n := As.length) ⟨X.1, X.2.1, X.2.2.1, X.2.2.2.1, X.2.2.2.2.1⟩ (hM H.size) ⟨⟨rfl, rfl, hR.1, hR.2, zpay X.2.2.2.2.1 hcode, List.mem_cons_self, (X.2.2.2.2.1 _ hcode), (X.2.2.2.2.1 _ hini), ⟨hd.1, hd.2.1⟩, hsig, (X.2.2.2.2.1 _ hlink)⟩, (X.2.2.2.2.1 _ hinst), (X.2.2.2.2.1 _ hsel)⟩ ⟨zblind, va_recv X.2.2.2.2.2.1 hP hcl hq, fun U hU hW => ⟨rfl, by rw [hU], ⟨by rw [hU]; exact zP_suf hP, va_K.moved hW.alike X.2.2.2.2.2.1⟩, zN.warm hW X.2.2.2.2.2.2.1, (zD_suf hD).weaken (fun _ _ _ _ => trivial), by rw [hU]; exact ((X.2.2.2.2.2.2.2.2.2.kept hS.2.1).narrow hF).warm hW⟩⟩ rfl rfl hl.1 rfl (lv_room hst) hdg ⟨hz.1, hz.2⟩) hS (fun q _ h => hF q h) hF (fun v σ2 t H1 locs ht hvm hw hB hz1 hk1 hS => ?_)
  obtain ⟨⟨hP1, hK1⟩, hD1⟩ := hB
  rw [ht] at hP1
  exact k v σ2 hw hz H1 locs ls (zR_back hP hD hk1 hP1) (zR_any hD) hS hl
theorem zg_cVl (X : zX d L kd A nL p s m args c cc own) {y : MethodName} {b : ByteArray} {mL n index na : Nat} {As : List Value} {post : Int64 → zS → Prop} {a k ci N : Nat} {C : String} {T : u_T} (ha : zT L kd a k) (hb : zb k = ci) (hci : ci < 12) (hcl : vwCl[ci]? = some (C, T, N)) (hM : zMl l y (Cond.code y b mL (some .long) :: zWL) n (.ref a :: As) d L kd σ post) (hlink : Cond.methodLink own index y ∈ zWL) (hcode : Cond.code y b mL (some .long) ∈ zWL) (hini : Cond.initialized y.cls ∈ zWL) (hinst : Cond.instanceMethod y ∈ zWL) (hsel : Cond.selects C y y ∈ zWL) (hd : y.cls ≠ "java/lang/invoke/MethodHandle" ∧ y.cls ≠ "java/lang/invoke/VarHandle" ∧ (parseMethodDescriptor y.desc).map (fun q => q.parameters.length) = some na) (hna : As.length = na) (hR : n + 1 ≤ R.frames ∧ 8 + (mL + 11) + 100 * n ≤ R.locals) (hst : (st.map fun v => v.category).sum ≤ 8) (hdg : decode cc pc = .ok (.invokevirtual index, 3)) (k : ∀ (v : Int64) (σ2 : zS), post v σ2 → zGc rs cs sl d L kd A nL p l e R s m args below meth c Q σ2 (pc + 3) lv (.long v :: st)) : zGc rs cs sl d L kd A nL p l e R s m args below meth c Q σ pc lv (As.reverse ++ .ref a :: st) := by
  intro hz H locs ls hP hD hS hl
  obtain ⟨q0, hq⟩ := zR_at (dA := d.2.2) (kd := kd) rs σ ha.1
  have he : zF d.2.2 kd σ a = .inr (ci, zfs (σ.1 a) (σ.2.1 a) (σ.2.2 a) (ztys ci) 0) := zE_o (by rw [ha.2]; exact hb) hci
  rw [he] at hq
  have hsig : ∀ sig, parseMethodDescriptor y.desc = some sig → As.length = sig.parameters.length := fun sig h => by
    have h2 := hd.2.2
    rw [h, ← hna] at h2
    exact (Option.some.inj h2).symm
  have hF := zA_sub (zD_suf hD) hS X.2.2.2.2.2.2.2.2.1
  refine va_calll (va_runV (As := As) (rest := st) (n := As.length) ⟨X.1, X.2.1, X.2.2.1, X.2.2.2.1, X.2.2.2.2.1⟩ (hM H.size) ⟨⟨rfl, rfl, hR.1, hR.2, zpay X.2.2.2.2.1 hcode, List.mem_cons_self, (X.2.2.2.2.1 _ hcode), (X.2.2.2.2.1 _ hini), ⟨hd.1, hd.2.1⟩, hsig, (X.2.2.2.2.1 _ hlink)⟩, (X.2.2.2.2.1 _ hinst), (X.2.2.2.2.1 _ hsel)⟩ ⟨zblind, va_recv X.2.2.2.2.2.1 hP hcl hq, fun U hU hW => ⟨rfl, by rw [hU], ⟨by rw [hU]; exact zP_suf hP, va_K.moved hW.alike X.2.2.2.2.2.1⟩, zN.warm hW X.2.2.2.2.2.2.1, (zD_suf hD).weaken (fun _ _ _ _ => trivial), by rw [hU]; exact ((X.2.2.2.2.2.2.2.2.2.kept hS.2.1).narrow hF).warm hW⟩⟩ rfl rfl hl.1 rfl (lv_room hst) hdg ⟨hz.1, hz.2⟩) hS (fun q _ h => hF q h) hF (fun v σ2 t H1 locs ht hvm hw hB hz1 hk1 hS => ?_)
  obtain ⟨⟨hP1, hK1⟩, hD1⟩ := hB
  rw [ht] at hP1
  exact k v σ2 hw hz H1 locs ls (zR_back hP hD hk1 hP1) (zR_any hD) hS hl
theorem zg_cVv (X : zX d L kd A nL p s m args c cc own) {y : MethodName} {b : ByteArray} {mL n index na : Nat} {As : List Value} {post : zS → Prop} {a k ci N : Nat} {C : String} {T : u_T} (ha : zT L kd a k) (hb : zb k = ci) (hci : ci < 12) (hcl : vwCl[ci]? = some (C, T, N)) (hM : zMv l y (Cond.code y b mL none :: zWL) n (.ref a :: As) d L kd σ post) (hlink : Cond.methodLink own index y ∈ zWL) (hcode : Cond.code y b mL none ∈ zWL) (hini : Cond.initialized y.cls ∈ zWL) (hinst : Cond.instanceMethod y ∈ zWL) (hsel : Cond.selects C y y ∈ zWL) (hd : y.cls ≠ "java/lang/invoke/MethodHandle" ∧ y.cls ≠ "java/lang/invoke/VarHandle" ∧ (parseMethodDescriptor y.desc).map (fun q => q.parameters.length) = some na) (hna : As.length = na) (hR : n + 1 ≤ R.frames ∧ 8 + (mL + 11) + 100 * n ≤ R.locals) (hst : (st.map fun v => v.category).sum ≤ 8) (hdg : decode cc pc = .ok (.invokevirtual index, 3)) (k : ∀ (σ2 : zS), post σ2 → zGc rs cs sl d L kd A nL p l e R s m args below meth c Q σ2 (pc + 3) lv st) : zGc rs cs sl d L kd A nL p l e R s m args below meth c Q σ pc lv (As.reverse ++ .ref a :: st) := by
  intro hz H locs ls hP hD hS hl
  obtain ⟨q0, hq⟩ := zR_at (dA := d.2.2) (kd := kd) rs σ ha.1
  have he : zF d.2.2 kd σ a = .inr (ci, zfs (σ.1 a) (σ.2.1 a) (σ.2.2 a) (ztys ci) 0) := zE_o (by rw [ha.2]; exact hb) hci
  rw [he] at hq
  have hsig : ∀ sig, parseMethodDescriptor y.desc = some sig → As.length = sig.parameters.length := fun sig h => by
    have h2 := hd.2.2
    rw [h, ← hna] at h2
    exact (Option.some.inj h2).symm
  have hF := zA_sub (zD_suf hD) hS X.2.2.2.2.2.2.2.2.1
  refine va_callv (va_runV (As := As) (rest := st) (n := As.length) ⟨X.1, X.2.1, X.2.2.1, X.2.2.2.1, X.2.2.2.2.1⟩ (hM H.size) ⟨⟨rfl, rfl, hR.1, hR.2, zpay X.2.2.2.2.1 hcode, List.mem_cons_self, (X.2.2.2.2.1 _ hcode), (X.2.2.2.2.1 _ hini), ⟨hd.1, hd.2.1⟩, hsig, (X.2.2.2.2.1 _ hlink)⟩, (X.2.2.2.2.1 _ hinst), (X.2.2.2.2.1 _ hsel)⟩ ⟨zblind, va_recv X.2.2.2.2.2.1 hP hcl hq, fun U hU hW => ⟨rfl, by rw [hU], ⟨by rw [hU]; exact zP_suf hP, va_K.moved hW.alike X.2.2.2.2.2.1⟩, zN.warm hW X.2.2.2.2.2.2.1, (zD_suf hD).weaken (fun _ _ _ _ => trivial), by rw [hU]; exact ((X.2.2.2.2.2.2.2.2.2.kept hS.2.1).narrow hF).warm hW⟩⟩ rfl rfl hl.1 rfl (lv_room hst) hdg ⟨hz.1, hz.2⟩) hS (fun q _ h => hF q h) hF (fun σ2 t H1 locs ht hvm hw hB hz1 hk1 hS => ?_)
  obtain ⟨⟨hP1, hK1⟩, hD1⟩ := hB
  rw [ht] at hP1
  exact k σ2 hw hz H1 locs ls (zR_back hP hD hk1 hP1) (zR_any hD) hS hl
theorem zg_cSi (X : zX d L kd A nL p s m args c cc own) {y : MethodName} {b : ByteArray} {mL n index na : Nat} {rt : FieldType} {As : List Value} {post : Int32 → zS → Prop} (hM : zMi l y (Cond.code y b mL (some rt) :: zWL) n As d L kd σ post) (hlink : Cond.methodLink own index y ∈ zWL) (hcode : Cond.code y b mL (some rt) ∈ zWL) (hini : Cond.initialized y.cls ∈ zWL) (hstat : Cond.static y ∈ zWL) (hd : y.cls ≠ "java/lang/invoke/MethodHandle" ∧ y.cls ≠ "java/lang/invoke/VarHandle" ∧ (parseMethodDescriptor y.desc).map (fun q => q.parameters.length) = some na) (hna : As.length = na) (hR : n + 1 ≤ R.frames ∧ 8 + (mL + 11) + 100 * n ≤ R.locals) (hst : (st.map fun v => v.category).sum ≤ 8) (hdg : decode cc pc = .ok (.invokestatic index, 3)) (k : ∀ (v : Int32) (σ2 : zS), post v σ2 → zGc rs cs sl d L kd A nL p l e R s m args below meth c Q σ2 (pc + 3) lv (.int v :: st)) : zGc rs cs sl d L kd A nL p l e R s m args below meth c Q σ pc lv (As.reverse ++ st) := by
  intro hz H locs ls hP hD hS hl
  have hsig : ∀ sig, parseMethodDescriptor y.desc = some sig → As.length = sig.parameters.length := fun sig h => by
    have h2 := hd.2.2
    rw [h, ← hna] at h2
    exact (Option.some.inj h2).symm
  have hF := zA_sub (zD_suf hD) hS X.2.2.2.2.2.2.2.2.1
  refine va_calli (va_runS (As := As) (rest := st) (n := As.length) ⟨X.1, X.2.1, X.2.2.1, X.2.2.2.1, X.2.2.2.2.1⟩ (hM H.size) ⟨⟨rfl, rfl, hR.1, hR.2, zpay X.2.2.2.2.1 hcode, List.mem_cons_self, (X.2.2.2.2.1 _ hcode), (X.2.2.2.2.1 _ hini), ⟨hd.1, hd.2.1⟩, hsig, (X.2.2.2.2.1 _ hlink)⟩, (X.2.2.2.2.1 _ hstat)⟩ ⟨zblind, fun U hU hW => ⟨rfl, by rw [hU], ⟨by rw [hU]; exact zP_suf hP, va_K.moved hW.alike X.2.2.2.2.2.1⟩, zN.warm hW X.2.2.2.2.2.2.1, (zD_suf hD).weaken (fun _ _ _ _ => trivial), by rw [hU]; exact ((X.2.2.2.2.2.2.2.2.2.kept hS.2.1).narrow hF).warm hW⟩⟩ rfl rfl hl.1 rfl (lv_room hst) hdg ⟨hz.1, hz.2⟩) hS (fun q _ h => hF q h) hF (fun v σ2 t H1 locs ht hvm hw hB hz1 hk1 hS => ?_)
  obtain ⟨⟨hP1, hK1⟩, hD1⟩ := hB
  rw [ht] at hP1
  exact k v σ2 hw hz H1 locs ls (zR_back hP hD hk1 hP1) (zR_any hD) hS hl
theorem zg_cSl (X : zX d L kd A nL p s m args c cc own) {y : MethodName} {b : ByteArray} {mL n index na : Nat} {As : List Value} {post : Int64 → zS → Prop} (hM : zMl l y (Cond.code y b mL (some .long) :: zWL) n As d L kd σ post) (hlink : Cond.methodLink own index y ∈ zWL) (hcode : Cond.code y b mL (some .long) ∈ zWL) (hini : Cond.initialized y.cls ∈ zWL) (hstat : Cond.static y ∈ zWL) (hd : y.cls ≠ "java/lang/invoke/MethodHandle" ∧ y.cls ≠ "java/lang/invoke/VarHandle" ∧ (parseMethodDescriptor y.desc).map (fun q => q.parameters.length) = some na) (hna : As.length = na) (hR : n + 1 ≤ R.frames ∧ 8 + (mL + 11) + 100 * n ≤ R.locals) (hst : (st.map fun v => v.category).sum ≤ 8) (hdg : decode cc pc = .ok (.invokestatic index, 3)) (k : ∀ (v : Int64) (σ2 : zS), post v σ2 → zGc rs cs sl d L kd A nL p l e R s m args below meth c Q σ2 (pc + 3) lv (.long v :: st)) : zGc rs cs sl d L kd A nL p l e R s m args below meth c Q σ pc lv (As.reverse ++ st) := by
  intro hz H locs ls hP hD hS hl
  have hsig : ∀ sig, parseMethodDescriptor y.desc = some sig → As.length = sig.parameters.length := fun sig h => by
    have h2 := hd.2.2
    rw [h, ← hna] at h2
    exact (Option.some.inj h2).symm
  have hF := zA_sub (zD_suf hD) hS X.2.2.2.2.2.2.2.2.1
  refine va_calll (va_runS (As := As) (rest := st) (n := As.length) ⟨X.1, X.2.1, X.2.2.1, X.2.2.2.1, X.2.2.2.2.1⟩ (hM H.size) ⟨⟨rfl, rfl, hR.1, hR.2, zpay X.2.2.2.2.1 hcode, List.mem_cons_self, (X.2.2.2.2.1 _ hcode), (X.2.2.2.2.1 _ hini), ⟨hd.1, hd.2.1⟩, hsig, (X.2.2.2.2.1 _ hlink)⟩, (X.2.2.2.2.1 _ hstat)⟩ ⟨zblind, fun U hU hW => ⟨rfl, by rw [hU], ⟨by rw [hU]; exact zP_suf hP, va_K.moved hW.alike X.2.2.2.2.2.1⟩, zN.warm hW X.2.2.2.2.2.2.1, (zD_suf hD).weaken (fun _ _ _ _ => trivial), by rw [hU]; exact ((X.2.2.2.2.2.2.2.2.2.kept hS.2.1).narrow hF).warm hW⟩⟩ rfl rfl hl.1 rfl (lv_room hst) hdg ⟨hz.1, hz.2⟩) hS (fun q _ h => hF q h) hF (fun v σ2 t H1 locs ht hvm hw hB hz1 hk1 hS => ?_)
  obtain ⟨⟨hP1, hK1⟩, hD1⟩ := hB
  rw [ht] at hP1
  exact k v σ2 hw hz H1 locs ls (zR_back hP hD hk1 hP1) (zR_any hD) hS hl
theorem zg_cSv (X : zX d L kd A nL p s m args c cc own) {y : MethodName} {b : ByteArray} {mL n index na : Nat} {As : List Value} {post : zS → Prop} (hM : zMv l y (Cond.code y b mL none :: zWL) n As d L kd σ post) (hlink : Cond.methodLink own index y ∈ zWL) (hcode : Cond.code y b mL none ∈ zWL) (hini : Cond.initialized y.cls ∈ zWL) (hstat : Cond.static y ∈ zWL) (hd : y.cls ≠ "java/lang/invoke/MethodHandle" ∧ y.cls ≠ "java/lang/invoke/VarHandle" ∧ (parseMethodDescriptor y.desc).map (fun q => q.parameters.length) = some na) (hna : As.length = na) (hR : n + 1 ≤ R.frames ∧ 8 + (mL + 11) + 100 * n ≤ R.locals) (hst : (st.map fun v => v.category).sum ≤ 8) (hdg : decode cc pc = .ok (.invokestatic index, 3)) (k : ∀ (σ2 : zS), post σ2 → zGc rs cs sl d L kd A nL p l e R s m args below meth c Q σ2 (pc + 3) lv st) : zGc rs cs sl d L kd A nL p l e R s m args below meth c Q σ pc lv (As.reverse ++ st) := by
  intro hz H locs ls hP hD hS hl
  have hsig : ∀ sig, parseMethodDescriptor y.desc = some sig → As.length = sig.parameters.length := fun sig h => by
    have h2 := hd.2.2
    rw [h, ← hna] at h2
    exact (Option.some.inj h2).symm
  have hF := zA_sub (zD_suf hD) hS X.2.2.2.2.2.2.2.2.1
  refine va_callv (va_runS (As := As) (rest := st) (n := As.length) ⟨X.1, X.2.1, X.2.2.1, X.2.2.2.1, X.2.2.2.2.1⟩ (hM H.size) ⟨⟨rfl, rfl, hR.1, hR.2, zpay X.2.2.2.2.1 hcode, List.mem_cons_self, (X.2.2.2.2.1 _ hcode), (X.2.2.2.2.1 _ hini), ⟨hd.1, hd.2.1⟩, hsig, (X.2.2.2.2.1 _ hlink)⟩, (X.2.2.2.2.1 _ hstat)⟩ ⟨zblind, fun U hU hW => ⟨rfl, by rw [hU], ⟨by rw [hU]; exact zP_suf hP, va_K.moved hW.alike X.2.2.2.2.2.1⟩, zN.warm hW X.2.2.2.2.2.2.1, (zD_suf hD).weaken (fun _ _ _ _ => trivial), by rw [hU]; exact ((X.2.2.2.2.2.2.2.2.2.kept hS.2.1).narrow hF).warm hW⟩⟩ rfl rfl hl.1 rfl (lv_room hst) hdg ⟨hz.1, hz.2⟩) hS (fun q _ h => hF q h) hF (fun σ2 t H1 locs ht hvm hw hB hz1 hk1 hS => ?_)
  obtain ⟨⟨hP1, hK1⟩, hD1⟩ := hB
  rw [ht] at hP1
  exact k σ2 hw hz H1 locs ls (zR_back hP hD hk1 hP1) (zR_any hD) hS hl
theorem zg_cSNi (X : zX d L kd A nL p s m args c cc own) {y : MethodName} {b : ByteArray} {mL n index na : Nat} {rt : FieldType} {host : String} {As : List Value} {post : Int32 → zS → Prop} (hM : zMi l y (Cond.code y b mL (some rt) :: zWL) n As d L kd σ post) (hlink : Cond.methodLinkNest own index y host ∈ tables_1) (hcode : Cond.code y b mL (some rt) ∈ zWL) (hini : Cond.initialized y.cls ∈ zWL) (hstat : Cond.static y ∈ zWL) (hd : y.cls ≠ "java/lang/invoke/MethodHandle" ∧ y.cls ≠ "java/lang/invoke/VarHandle" ∧ (parseMethodDescriptor y.desc).map (fun q => q.parameters.length) = some na) (hna : As.length = na) (hR : n + 1 ≤ R.frames ∧ 8 + (mL + 11) + 100 * n ≤ R.locals) (hst : (st.map fun v => v.category).sum ≤ 8) (hdg : decode cc pc = .ok (.invokestatic index, 3)) (k : ∀ (v : Int32) (σ2 : zS), post v σ2 → zGc rs cs sl d L kd A nL p l e R s m args below meth c Q σ2 (pc + 3) lv (.int v :: st)) : zGc rs cs sl d L kd A nL p l e R s m args below meth c Q σ pc lv (As.reverse ++ st) := by
  intro hz H locs ls hP hD hS hl
  have hsig : ∀ sig, parseMethodDescriptor y.desc = some sig → As.length = sig.parameters.length := fun sig h => by
    have h2 := hd.2.2
    rw [h, ← hna] at h2
    exact (Option.some.inj h2).symm
  have hF := zA_sub (zD_suf hD) hS X.2.2.2.2.2.2.2.2.1
  refine va_calli (va_runSN (As := As) (rest := st) (n := As.length) ⟨X.1, X.2.1, X.2.2.1, X.2.2.2.1, X.2.2.2.2.1⟩ (hM H.size) ⟨⟨⟨rfl, rfl, hR.1, hR.2, zpay X.2.2.2.2.1 hcode, List.mem_cons_self⟩, (X.2.2.2.2.1 _ hcode), (X.2.2.2.2.1 _ hini), ⟨hd.1, hd.2.1⟩, hsig, (va_Nw.use rfl (X.2.2.2.2.2.2.1 _ hlink rfl))⟩, (X.2.2.2.2.1 _ hstat), trivial⟩ ⟨zblind, fun U hU hW => ⟨rfl, by rw [hU], ⟨by rw [hU]; exact zP_suf hP, va_K.moved hW.alike X.2.2.2.2.2.1⟩, zN.warm hW X.2.2.2.2.2.2.1, (zD_suf hD).weaken (fun _ _ _ _ => trivial), by rw [hU]; exact ((X.2.2.2.2.2.2.2.2.2.kept hS.2.1).narrow hF).warm hW⟩⟩ rfl rfl hl.1 rfl (lv_room hst) hdg ⟨hz.1, hz.2⟩) hS (fun q _ h => hF q h) hF (fun v σ2 t H1 locs ht hvm hw hB hz1 hk1 hS => ?_)
  obtain ⟨⟨hP1, hK1⟩, hD1⟩ := hB
  rw [ht] at hP1
  exact k v σ2 hw hz H1 locs ls (zR_back hP hD hk1 hP1) (zR_any hD) hS hl
end ZCALLS
/-! THE INVARIANT of every class' cells: ranges of whole numbers, kinds of references. κ: what the tape's size is; b: the stage (1: the river has its text and course; 2: the parser has its text) -/
def zI (κ : Int) (b : Nat) (L : List Nat) (kd : Nat → Nat) (σ : zS) : Prop :=
  (∀ a ∈ L, ∀ j, (zr κ (kd a) j).1 ≤ (σ.1 a j).toInt ∧ (σ.1 a j).toInt ≤ (zr κ (kd a) j).2) ∧ (∀ a ∈ L, ∀ j k, zf b (kd a) j = some k → ∃ y, σ.2.2 a j = some y ∧ zT L kd y k) ∧ (0 ≤ κ ∧ κ ≤ 2000) ∧ (∀ a ∈ L, ∀ a' ∈ L, kd a = kd a' → (kd a = 3 ∨ kd a = 5 ∨ kd a = 7) → a = a') ∧ (∀ a ∈ L, kd a ≠ 11)
theorem zi_get {κ : Int} {b : Nat} {L : List Nat} {kd : Nat → Nat} {σ : zS} {a k j : Nat} {lo hi : Int} (h : zI κ b L kd σ) (ha : zT L kd a k) (hr : zr κ k j = (lo, hi)) : lo ≤ (σ.1 a j).toInt ∧ (σ.1 a j).toInt ≤ hi := by
  have q := h.1 a ha.1 j
  rw [ha.2, hr] at q
  exact q
theorem zi_ref {κ : Int} {b : Nat} {L : List Nat} {kd : Nat → Nat} {σ : zS} {a k j k2 : Nat} (h : zI κ b L kd σ) (ha : zT L kd a k) (hf : zf b k j = some k2) : ∃ y, σ.2.2 a j = some y ∧ zT L kd y k2 := h.2.1 a ha.1 j k2 (by rw [ha.2]; exact hf)
theorem zi_puti {κ : Int} {b : Nat} {L : List Nat} {kd : Nat → Nat} {σ : zS} {a k j : Nat} {lo hi : Int} {v : Int32} (h : zI κ b L kd σ) (ha : zT L kd a k) (hr : zr κ k j = (lo, hi)) (h1 : lo ≤ v.toInt) (h2 : v.toInt ≤ hi) : zI κ b L kd (zu σ.1 a j v, σ.2.1, σ.2.2) := by
  refine ⟨fun a' ha' j' => ?_, h.2.1, h.2.2⟩
  show _ ≤ (zu σ.1 a j v a' j').toInt ∧ (zu σ.1 a j v a' j').toInt ≤ _
  unfold zu
  split
  · next e =>
    subst e
    split
    · next e2 =>
      subst e2
      rw [ha.2, hr]
      exact ⟨h1, h2⟩
    · exact h.1 _ ha' j'
  · exact h.1 a' ha' j'
theorem zi_putl {κ : Int} {b : Nat} {L : List Nat} {kd : Nat → Nat} {σ : zS} {f : Nat → Nat → Int64} (h : zI κ b L kd σ) : zI κ b L kd (σ.1, f, σ.2.2) := h
theorem zi_putr {κ : Int} {b : Nat} {L : List Nat} {kd : Nat → Nat} {σ : zS} {a k j k2 y : Nat} (h : zI κ b L kd σ) (ha : zT L kd a k) (hf : zf b k j = some k2) (hy : zT L kd y k2) : zI κ b L kd (σ.1, σ.2.1, zu σ.2.2 a j (some y)) := by
  refine ⟨h.1, fun a' ha' j' k' hk' => ?_, h.2.2⟩
  show ∃ y', zu σ.2.2 a j (some y) a' j' = some y' ∧ _
  unfold zu
  split
  · next e =>
    subst e
    split
    · next e2 =>
      subst e2
      rw [ha.2, hf] at hk'
      cases hk'
      exact ⟨y, rfl, hy⟩
    · exact h.2.1 _ ha' j' k' hk'
  · exact h.2.1 a' ha' j' k' hk'
/-- a reference of which nothing is said yet -/
theorem zi_putn {κ : Int} {b : Nat} {L : List Nat} {kd : Nat → Nat} {σ : zS} {a k j : Nat} {y : Option Nat} (h : zI κ b L kd σ) (ha : zT L kd a k) (hf : zf b k j = none) : zI κ b L kd (σ.1, σ.2.1, zu σ.2.2 a j y) := by
  refine ⟨h.1, fun a' ha' j' k' hk' => ?_, h.2.2⟩
  show ∃ y', zu σ.2.2 a j y a' j' = some y' ∧ _
  unfold zu
  split
  · next e =>
    subst e
    split
    · next e2 =>
      subst e2
      rw [ha.2, hf] at hk'
      cases hk'
    · exact h.2.1 _ ha' j' k' hk'
  · exact h.2.1 a' ha' j' k' hk'
theorem zr_other {κ κ2 : Int} {k j : Nat} (h7 : k ≠ 7) (h11 : k ≠ 11) : zr κ k j = zr κ2 k j := by
  have e : (zrl κ).find? (fun q => q.1 == k && (q.2.1 == 9999 || q.2.1 == j)) = (zrl κ2).find? (fun q => q.1 == k && (q.2.1 == 9999 || q.2.1 == j)) := by
    simp [zrl, List.find?, show (7 == k) = false from by simp; omega, show (11 == k) = false from by simp; omega]
  unfold zr
  rw [e]
/-! THE FUNCTION BESIDE THE WALK: a method's answer and contents as a function of its arguments and contents, told step by step; zSm: what a method of the class leaves as it was -/
def zLet {α β : Type} (x : α) (f : α → β) : β := f x
def zLet2 {α β γ : Type} (x : α × β) (f : α → β → γ) : γ := f x.1 x.2
theorem zLet_s {α β : Type} {R : β} {x v : α} {f : α → β} (e : v = x) (E : R = zLet x f) : R = f v := by rw [e]; exact E
theorem zLet2_s {α β γ : Type} {R : γ} {v : α} {s : β} {x : α × β} {f : α → β → γ} (e : (v, s) = x) (E : R = zLet2 x f) : R = f v s := by rw [← e] at E; exact E
theorem zIf_t {α : Type} {R x y : α} {c : Prop} {i : Decidable c} (h : c) (E : R = @ite α c i x y) : R = x := by rw [if_pos h] at E; exact E
theorem zIf_f {α : Type} {R x y : α} {c : Prop} {i : Decidable c} (h : ¬ c) (E : R = @ite α c i x y) : R = y := by rw [if_neg h] at E; exact E
theorem zcst {v w : Int32} {z : Int} (h : v.toInt = z) (hw : w.toInt = z) : v = w := Int32.toInt_inj.mp (h.trans hw.symm)
theorem zinc {v x a b : Int32} (e : v = x + a) (h : a = b) : v = x + b := by rw [e, h]
theorem zgr {o : Option Nat} {y : Nat} (h : o = some y) : y = o.getD 0 := by rw [h]; rfl
theorem zmin_e {v x y : Int32} (h : v.toInt ≤ x.toInt ∧ v.toInt ≤ y.toInt ∧ (v.toInt = x.toInt ∨ v.toInt = y.toInt)) : v = if x.toInt ≤ y.toInt then x else y := by
  split
  · exact Int32.toInt_inj.mp (by omega)
  · exact Int32.toInt_inj.mp (by omega)
theorem zmax_e {v x y : Int32} (h : x.toInt ≤ v.toInt ∧ y.toInt ≤ v.toInt ∧ (v.toInt = x.toInt ∨ v.toInt = y.toInt)) : v = if x.toInt ≤ y.toInt then y else x := by
  split
  · exact Int32.toInt_inj.mp (by omega)
  · exact Int32.toInt_inj.mp (by omega)
abbrev zcpy (σ : zS) (a a2 n : Nat) : zS := (fun q => if q = a2 then va_cpy (σ.1 a) (σ.1 a2) 0 0 n else σ.1 q, σ.2.1, σ.2.2)
def zfil (σ : zS) (a : Nat) (v : Int32) (n : Nat) : zS := (fun q => if q = a then (fun j => if j < n then v else σ.1 a j) else σ.1 q, σ.2.1, σ.2.2)
def zSm (Wk Wr : List Nat) (L : List Nat) (kd : Nat → Nat) (σ σ2 : zS) : Prop := ∀ a ∈ L, (kd a ∉ Wk → σ2.1 a = σ.1 a ∧ σ2.2.1 a = σ.2.1 a) ∧ (kd a ∉ Wr → σ2.2.2 a = σ.2.2 a)
theorem zSm.rf {Wk Wr L : List Nat} {kd : Nat → Nat} {σ : zS} : zSm Wk Wr L kd σ σ := fun _ _ => ⟨fun _ => ⟨rfl, rfl⟩, fun _ => rfl⟩
theorem zSm.tr {Wk Wr Wk2 Wr2 L : List Nat} {kd : Nat → Nat} {σ0 σ σ2 : zS} (h : zSm Wk Wr L kd σ0 σ) (g : zSm Wk2 Wr2 L kd σ σ2) (h1 : Wk2.all (fun j => Wk.contains j) = true) (h2 : Wr2.all (fun j => Wr.contains j) = true) : zSm Wk Wr L kd σ0 σ2 := fun a ha => by
  have k1 : kd a ∉ Wk → kd a ∉ Wk2 := fun hj hm => hj (by have q := List.all_eq_true.mp h1 _ hm; simpa using q)
  have k2 : kd a ∉ Wr → kd a ∉ Wr2 := fun hj hm => hj (by have q := List.all_eq_true.mp h2 _ hm; simpa using q)
  exact ⟨fun q => ⟨((g a ha).1 (k1 q)).1.trans ((h a ha).1 q).1, ((g a ha).1 (k1 q)).2.trans ((h a ha).1 q).2⟩, fun q => ((g a ha).2 (k2 q)).trans ((h a ha).2 q)⟩
theorem zSm.i {Wk Wr L : List Nat} {kd : Nat → Nat} {σ0 σ σ2 : zS} {b k j : Nat} {v : Int32} (h : zSm Wk Wr L kd σ0 σ) (hb : zT L kd b k) (e : σ2 = (zu σ.1 b j v, σ.2.1, σ.2.2)) (hk : Wk.contains k = true) : zSm Wk Wr L kd σ0 σ2 := fun a ha => by
  subst e
  have hk2 : k ∈ Wk := by simpa using hk
  refine ⟨fun q => ?_, fun q => (h a ha).2 q⟩
  have hne : ¬ a = b := fun z => q (by rw [z, hb.2]; exact hk2)
  exact ⟨(zu_n σ.1 j v hne).trans ((h a ha).1 q).1, ((h a ha).1 q).2⟩
theorem zSm.l {Wk Wr L : List Nat} {kd : Nat → Nat} {σ0 σ σ2 : zS} {b k j : Nat} {v : Int64} (h : zSm Wk Wr L kd σ0 σ) (hb : zT L kd b k) (e : σ2 = (σ.1, zu σ.2.1 b j v, σ.2.2)) (hk : Wk.contains k = true) : zSm Wk Wr L kd σ0 σ2 := fun a ha => by
  subst e
  have hk2 : k ∈ Wk := by simpa using hk
  refine ⟨fun q => ?_, fun q => (h a ha).2 q⟩
  have hne : ¬ a = b := fun z => q (by rw [z, hb.2]; exact hk2)
  exact ⟨((h a ha).1 q).1, (zu_n σ.2.1 j v hne).trans ((h a ha).1 q).2⟩
theorem zSm.r {Wk Wr L : List Nat} {kd : Nat → Nat} {σ0 σ σ2 : zS} {b k j : Nat} {v : Option Nat} (h : zSm Wk Wr L kd σ0 σ) (hb : zT L kd b k) (e : σ2 = (σ.1, σ.2.1, zu σ.2.2 b j v)) (hk : Wr.contains k = true) : zSm Wk Wr L kd σ0 σ2 := fun a ha => by
  subst e
  have hk2 : k ∈ Wr := by simpa using hk
  refine ⟨fun q => (h a ha).1 q, fun q => ?_⟩
  have hne : ¬ a = b := fun z => q (by rw [z, hb.2]; exact hk2)
  exact (zu_n σ.2.2 j v hne).trans ((h a ha).2 q)
theorem zSm.c {Wk Wr L : List Nat} {kd : Nat → Nat} {σ0 σ σ2 : zS} {x b k n : Nat} (h : zSm Wk Wr L kd σ0 σ) (hb : zT L kd b k) (e : σ2 = zcpy σ x b n) (hk : Wk.contains k = true) : zSm Wk Wr L kd σ0 σ2 := fun a ha => by
  subst e
  have hk2 : k ∈ Wk := by simpa using hk
  refine ⟨fun q => ?_, fun q => (h a ha).2 q⟩
  have hne : ¬ a = b := fun z => q (by rw [z, hb.2]; exact hk2)
  exact ⟨(if_neg hne).trans ((h a ha).1 q).1, ((h a ha).1 q).2⟩
theorem zSm.fil {Wk Wr L : List Nat} {kd : Nat → Nat} {σ0 σ σ2 : zS} {b k n : Nat} {v : Int32} (h : zSm Wk Wr L kd σ0 σ) (hb : zT L kd b k) (e : σ2 = zfil σ b v n) (hk : Wk.contains k = true) : zSm Wk Wr L kd σ0 σ2 := fun a ha => by
  subst e
  have hk2 : k ∈ Wk := by simpa using hk
  refine ⟨fun q => ?_, fun q => (h a ha).2 q⟩
  have hne : ¬ a = b := fun z => q (by rw [z, hb.2]; exact hk2)
  exact ⟨(if_neg hne).trans ((h a ha).1 q).1, ((h a ha).1 q).2⟩
section ZMORE
variable {rs : va_W} {cs sl : Nat} {κ : Int} {b : Nat} {d : zD2} {L : List Nat} {kd : Nat → Nat} {A : Nat → Prop} {nL : Nat} {p : Program} {l : Launch} {e : Env} {R : Room} {s : State} {m : MethodId} {args : Array Value} {below : List Frame} {meth : Method} {c : Code} {cc : ByteArray} {own : String} {Q : State → Prop} {σ : zS} {pc : Nat} {lv : List (Nat × Value)} {st : List Value}
theorem zg_lv {lv2 : List (Nat × Value)} (h : lv = lv2) (k : zGc rs cs sl d L kd A nL p l e R s m args below meth c Q σ pc lv2 st) : zGc rs cs sl d L kd A nL p l e R s m args below meth c Q σ pc lv st := h ▸ k
theorem zg_sub {lv2 : List (Nat × Value)} (ks : List Nat) (h : lv_pick lv ks = lv2) (k : zGc rs cs sl d L kd A nL p l e R s m args below meth c Q σ pc lv2 st) : zGc rs cs sl d L kd A nL p l e R s m args below meth c Q σ pc lv st := fun hz H locs ls hP hD hS hl => k hz H locs ls hP hD hS (lv_sub hl ks h)
theorem zb_rem {x y : Int32} (n : Int) (hy : y.toInt = n) (hn : 0 < n) : -n < (x - x / y * y).toInt ∧ (x - x / y * y).toInt < n ∧ (0 ≤ x.toInt → 0 ≤ (x - x / y * y).toInt) := by
  rw [rem_toInt, hy]
  have h := tmod_bounds (a := x.toInt) hn
  exact ⟨h.1, h.2, fun h0 => Int.tmod_nonneg n h0⟩
theorem zg_min (X : zX d L kd A nL p s m args c cc own) {index : Nat} {x y : Int32} (hw : Cond.methodLink own index Lib.Math.min.name ∈ zWL ∧ Cond.static Lib.Math.min.name ∈ zWL ∧ Cond.initialized "java/lang/Math" ∈ zWL ∧ Cond.code Lib.Math.min.name Lib.Math.min.code 2 (some .int) ∈ zWL) (hR : 1 ≤ R.frames ∧ (st.map fun v => v.category).sum + 13 ≤ R.locals) (hdg : decode cc pc = .ok (.invokestatic index, 3)) (k : ∀ v : Int32, v.toInt ≤ x.toInt ∧ v.toInt ≤ y.toInt ∧ (v.toInt = x.toInt ∨ v.toInt = y.toInt) → zGc rs cs sl d L kd A nL p l e R s m args below meth c Q σ (pc + 3) lv (.int v :: st)) : zGc rs cs sl d L kd A nL p l e R s m args below meth c Q σ pc lv (.int y :: .int x :: st) := by
  intro hz H locs ls hP hD hS hl
  have U := X.2.2.2.2.1
  refine va_mmin X.1 X.2.1 (by rw [X.2.2.1]; exact hl.1.symm) X.2.2.2.1 (U _ hw.1) (U _ hw.2.1) (U _ hw.2.2.1) (U _ hw.2.2.2) hR.1 hR.2 hz.1 hz.2 hdg (k _ ?_ hz H locs ls hP hD hS hl)
  by_cases h : y < x
  · rw [if_pos h]
    have := Int32.lt_iff_toInt_lt.mp h
    omega
  · rw [if_neg h]
    have : ¬ y.toInt < x.toInt := fun q => h (Int32.lt_iff_toInt_lt.mpr q)
    omega
theorem zg_max (X : zX d L kd A nL p s m args c cc own) {index : Nat} {x y : Int32} (hw : Cond.methodLink own index Lib.Math.max.name ∈ zWL ∧ Cond.static Lib.Math.max.name ∈ zWL ∧ Cond.initialized "java/lang/Math" ∈ zWL ∧ Cond.code Lib.Math.max.name Lib.Math.max.code 2 (some .int) ∈ zWL) (hR : 1 ≤ R.frames ∧ (st.map fun v => v.category).sum + 13 ≤ R.locals) (hdg : decode cc pc = .ok (.invokestatic index, 3)) (k : ∀ v : Int32, x.toInt ≤ v.toInt ∧ y.toInt ≤ v.toInt ∧ (v.toInt = x.toInt ∨ v.toInt = y.toInt) → zGc rs cs sl d L kd A nL p l e R s m args below meth c Q σ (pc + 3) lv (.int v :: st)) : zGc rs cs sl d L kd A nL p l e R s m args below meth c Q σ pc lv (.int y :: .int x :: st) := by
  intro hz H locs ls hP hD hS hl
  have U := X.2.2.2.2.1
  refine va_mmax X.1 X.2.1 (by rw [X.2.2.1]; exact hl.1.symm) X.2.2.2.1 (U _ hw.1) (U _ hw.2.1) (U _ hw.2.2.1) (U _ hw.2.2.2) hR.1 hR.2 hz.1 hz.2 hdg (k _ ?_ hz H locs ls hP hD hS hl)
  by_cases h : x < y
  · rw [if_pos h]
    have := Int32.lt_iff_toInt_lt.mp h
    omega
  · rw [if_neg h]
    have : ¬ x.toInt < y.toInt := fun q => h (Int32.lt_iff_toInt_lt.mpr q)
    omega
/-- arraycopy of the first n from one array of whole numbers to another -/
theorem zg_copy (X : zX d L kd A nL p s m args c cc own) {index k k2 n : Nat} {lo hi : Int} {a a2 : Nat} {sp dp nn : Int32} (hw : Cond.methodLink own index arraycopyName ∈ zWL ∧ Cond.native arraycopyName ∈ zWL ∧ Cond.static arraycopyName ∈ zWL ∧ Cond.initialized "java/lang/System" ∈ zWL) (hI : zI κ b L kd σ) (ha : zT L kd a k) (ha2 : zT L kd a2 k2) (hb : zb k = 13) (hb2 : zb k2 = 13) (hr : ∀ j, zr κ k2 j = (lo, hi)) (hn : n ≤ zn k) (hn2 : n ≤ zn k2)
    (hin : ∀ j, ((zr κ k j).1 ≤ (σ.1 a j).toInt ∧ (σ.1 a j).toInt ≤ (zr κ k j).2) → True → lo ≤ (σ.1 a j).toInt ∧ (σ.1 a j).toInt ≤ hi) (h1 : sp.toInt = 0) (h2 : dp.toInt = 0) (h3 : nn.toInt = n) (hR : 1 ≤ R.frames ∧ (st.map fun v => v.category).sum + (nativeFrameWords "java/lang/System" "arraycopy" 5 + 11) ≤ R.locals) (hdg : decode cc pc = .ok (.invokestatic index, 3)) (kk : ∀ σ2 : zS, σ2 = (fun q => if q = a2 then va_cpy (σ.1 a) (σ.1 a2) 0 0 n else σ.1 q, σ.2.1, σ.2.2) → zI κ b L kd σ2 → zGc rs cs sl d L kd A nL p l e R s m args below meth c Q σ2 (pc + 3) lv st) : zGc rs cs sl d L kd A nL p l e R s m args below meth c Q σ pc lv (.int nn :: .int dp :: .ref a2 :: .int sp :: .ref a :: st) := by
  intro hz H locs ls hP hD hS hl
  have U := X.2.2.2.2.1
  obtain ⟨q0, hq⟩ := zR_at (dA := d.2.2) (kd := kd) rs σ ha.1
  obtain ⟨q1, hq1⟩ := zR_at (dA := d.2.2) (kd := kd) rs σ ha2.1
  have hq2 := hq1
  have he : zF d.2.2 kd σ a = .inl (d.2.2 13, zn k, .inl (σ.1 a)) := by rw [← ha.2]; exact zE_i (by rw [ha.2]; exact hb) (Or.inr (Or.inl rfl))
  have he2 : ∀ τ : zS, zF d.2.2 kd τ a2 = .inl (d.2.2 13, zn k2, .inl (τ.1 a2)) := fun τ => by rw [← ha2.2]; exact zE_i (by rw [ha2.2]; exact hb2) (Or.inr (Or.inl rfl))
  rw [he] at hq
  rw [he2] at hq1
  have c0 : ∀ x : Int32, x.toInt = 0 → x.toNatClampNeg = 0 ∧ ¬ x < 0 := fun x hx => by
    have e : x = 0 := Int32.toInt_inj.mp (by rw [hx]; rfl)
    rw [e]
    exact ⟨by decide, by decide⟩
  have cn : nn.toNatClampNeg = n := by
    have e : nn.toNatClampNeg = nn.toInt.toNat := rfl
    rw [e, h3]
    rfl
  have n0 : ¬ nn < 0 := fun q => by
    have q2 := Int32.lt_iff_toInt_lt.mp q
    rw [h3, show (0 : Int32).toInt = 0 from rfl] at q2
    omega
  have hI2 : zI κ b L kd (fun q => if q = a2 then va_cpy (σ.1 a) (σ.1 a2) 0 0 n else σ.1 q, σ.2.1, σ.2.2) := by
    refine ⟨fun a' ha' j' => ?_, hI.2.1, hI.2.2⟩
    show _ ≤ ((if a' = a2 then va_cpy (σ.1 a) (σ.1 a2) 0 0 n else σ.1 a') j').toInt ∧ ((if a' = a2 then va_cpy (σ.1 a) (σ.1 a2) 0 0 n else σ.1 a') j').toInt ≤ _
    split
    · next e =>
      subst e
      rw [ha2.2, hr j']
      unfold va_cpy
      split
      · next hc =>
        rw [show 0 + (j' - 0) = j' by omega]
        have q := hI.1 a ha.1 j'
        rw [ha.2] at q
        exact hin j' q trivial
      · have q := hI.1 _ ha' j'
        rw [ha2.2, hr j'] at q
        exact q
    · exact hI.1 a' ha' j'
  refine va_copyi X.1 X.2.1 (by rw [X.2.2.1]; exact hl.1.symm) X.2.2.2.1 (U _ hw.1) (U _ hw.2.1) (U _ hw.2.2.1) (U _ hw.2.2.2) X.2.2.2.2.2.1 hP hD hS q0 q1 1 1 hq hq1 rfl rfl rfl (c0 _ h1).2 (c0 _ h2).2 n0 (by rw [(c0 _ h1).1, cn]; omega) (by rw [(c0 _ h2).1, cn]; omega) (fun _ _ => rfl) hR.1 hR.2 hdg (fun H1 locs1 hP hD2 hS => ?_)
  rw [(c0 _ h1).1, (c0 _ h2).1, cn] at hP
  refine kk _ rfl hI2 hz H1 locs1 ls ?_ (zR_any hD) hS hl
  rw [zR_set (σ' := (fun q => if q = a2 then va_cpy (σ.1 a) (σ.1 a2) 0 0 n else σ.1 q, σ.2.1, σ.2.2)) hD ha2.1 hq2 (by rw [he2]; simp) (fun q hq => by simp only [zF]; rw [if_neg hq])] at hP
  exact hP
theorem zm_k {f : Nat → Nat → Int32} {a a2 k k2 j j2 : Nat} {x v : Int32} (ha : zT L kd a k) (ha2 : zT L kd a2 k2) (h : k2 ≠ k) (e : v = f a2 j2) : v = zu f a j x a2 j2 := by
  have hn : ¬ a2 = a := fun q => h (by rw [← ha.2, ← ha2.2, q])
  simp [zu, hn, e]
theorem zm_j {f : Nat → Nat → Int32} {a a2 j j2 : Nat} {x v : Int32} (h : j2 ≠ j) (e : v = f a2 j2) : v = zu f a j x a2 j2 := by
  simp only [zu, if_neg h, ite_self]
  exact e
theorem zm_s {f : Nat → Nat → Int32} {a j : Nat} {x : Int32} : x = zu f a j x a j := by simp [zu]
/-- the static row of the laws that are not told -/
theorem zg_unt (X : zX d L kd A nL p s m args c cc own) {index : Nat} (hlink : Cond.fieldLink own index "SourceDispute$Told" "UNTOLD_LAWS" "[I" ∈ zWL) (hdg : decode cc pc = .ok (.getstatic index, 3)) (k : ∀ t : Nat, va_T .int t 5 zunt A s s.heap → zGc rs cs sl d L kd A nL p l e R s m args below meth c Q σ (pc + 3) lv (.ref t :: st)) : zGc rs cs sl d L kd A nL p l e R s m args below meth c Q σ pc lv st := by
  intro hz H locs ls hP hD hS hl
  obtain ⟨hZ, hT, -⟩ := X.2.2.2.2.2.2.2.2.2
  exact va_gets X.1 X.2.1 hZ hS X.2.2.2.1 (X.2.2.2.2.1 _ hlink) (fun _ h => h) hdg (k _ hT hz H locs ls hP hD hS hl)
theorem zg_untA (X : zX d L kd A nL p s m args c cc own) {t : Nat} {i : Int32} (hT : va_T .int t 5 zunt A s s.heap) (h0 : 0 ≤ i.toInt) (h1 : i.toInt < 5) (hdg : decode cc pc = .ok (.iaload, 1)) (k : ∀ v : Int32, v = [0, -1, 1, 4, 2].getD i.toNatClampNeg 0 → zGc rs cs sl d L kd A nL p l e R s m args below meth c Q σ (pc + 1) lv (.int v :: st)) : zGc rs cs sl d L kd A nL p l e R s m args below meth c Q σ pc lv (.int i :: .ref t :: st) := fun hz H locs ls hP hD hS hl => va_ti X.1 X.2.1 hT hS (zb_in h0 h1) rfl hdg (k _ rfl hz H locs ls hP hD hS hl)
theorem zf_0 {b k j k2 : Nat} (h : zf 0 k j = some k2) : zf b k j = some k2 := by
  unfold zf at h ⊢
  split at h
  · next q hq =>
    split at h
    · next c =>
      have c0 : q.2.2.2 = 0 := by omega
      rw [if_pos (Or.inl c0)]
      exact h
    · cases h
  · cases h
theorem zi_weak {L : List Nat} {kd : Nat → Nat} {κ : Int} {b : Nat} {σ : zS} (h : zI κ b L kd σ) : zI κ 0 L kd σ := ⟨h.1, fun a ha j k hk => h.2.1 a ha j k (zf_0 hk), h.2.2⟩
theorem zi_eq {L : List Nat} {kd : Nat → Nat} {κ κ2 : Int} {b : Nat} {σ : zS} (e : κ2 = κ) (h : zI κ2 b L kd σ) : zI κ b L kd σ := e ▸ h
theorem zf_1 {k j k2 : Nat} (h : zf 1 k j = some k2) : zf 0 k j = some k2 ∨ (k = 5 ∧ j = 5 ∧ k2 = 9) ∨ (k = 5 ∧ j = 6 ∧ k2 = 1) := by
  unfold zf at h ⊢
  split at h
  · next q hq =>
    have hm := List.mem_of_find?_eq_some hq
    have hp := List.find?_some hq
    have key : ∀ q ∈ zfl, q.2.2.2 = 1 → (q.1 = 5 ∧ q.2.1 = 5 ∧ q.2.2.1 = 9) ∨ (q.1 = 5 ∧ q.2.1 = 6 ∧ q.2.2.1 = 1) := by decide +kernel
    split at h
    · next c =>
      rcases c with c | c
      · left
        rw [if_pos (Or.inl c)]
        exact h
      · right
        simp only [Bool.and_eq_true, Bool.or_eq_true, beq_iff_eq] at hp
        cases h
        rcases key q hm c with ⟨x1, x2, x3⟩ | ⟨x1, x2, x3⟩
        · exact Or.inl ⟨by omega, by omega, x3⟩
        · exact Or.inr ⟨by omega, by omega, x3⟩
    · cases h
  · cases h
theorem zf_2 {k j k2 : Nat} (h : zf 2 k j = some k2) : zf 0 k j = some k2 ∨ (k = 3 ∧ j = 1 ∧ k2 = 9) := by
  unfold zf at h ⊢
  split at h
  · next q hq =>
    have hm := List.mem_of_find?_eq_some hq
    have hp := List.find?_some hq
    have key : ∀ q ∈ zfl, q.2.2.2 = 2 → (q.1 = 3 ∧ q.2.1 = 1 ∧ q.2.2.1 = 9) := by decide +kernel
    split at h
    · next c =>
      rcases c with c | c
      · left
        rw [if_pos (Or.inl c)]
        exact h
      · right
        simp only [Bool.and_eq_true, Bool.or_eq_true, beq_iff_eq] at hp
        cases h
        obtain ⟨x1, x2, x3⟩ := key q hm c
        exact ⟨by omega, by omega, x3⟩
    · cases h
  · cases h
/-- the river has its text and its course -/
theorem zi_river {L : List Nat} {kd : Nat → Nat} {κ : Int} {σ : zS} {a t c2 : Nat} (h : zI κ 0 L kd σ) (ha : zT L kd a 5) (ht : zT L kd t 9) (hc : zT L kd c2 1) (e1 : σ.2.2 a 5 = some t) (e2 : σ.2.2 a 6 = some c2) : zI κ 1 L kd σ := by
  refine ⟨h.1, fun a' ha' j k hk => ?_, h.2.2⟩
  rcases zf_1 hk with q | ⟨q1, q2, q3⟩ | ⟨q1, q2, q3⟩
  · exact h.2.1 a' ha' j k q
  · have e : a' = a := h.2.2.2.1 a' ha' a ha.1 (by rw [q1, ha.2]) (by omega)
    subst e q2 q3
    exact ⟨t, e1, ht⟩
  · have e : a' = a := h.2.2.2.1 a' ha' a ha.1 (by rw [q1, ha.2]) (by omega)
    subst e q2 q3
    exact ⟨c2, e2, hc⟩
theorem zi_parser {L : List Nat} {kd : Nat → Nat} {κ : Int} {σ : zS} {a t : Nat} (h : zI κ 0 L kd σ) (ha : zT L kd a 3) (ht : zT L kd t 9) (e1 : σ.2.2 a 1 = some t) : zI κ 2 L kd σ := by
  refine ⟨h.1, fun a' ha' j k hk => ?_, h.2.2⟩
  rcases zf_2 hk with q | ⟨q1, q2, q3⟩
  · exact h.2.1 a' ha' j k q
  · have e : a' = a := h.2.2.2.1 a' ha' a ha.1 (by rw [q1, ha.2]) (by omega)
    subst e q2 q3
    exact ⟨t, e1, ht⟩
/-- the tape's size -/
theorem zi_tape {L : List Nat} {kd : Nat → Nat} {κ : Int} {b : Nat} {σ : zS} {a : Nat} {v : Int32} (h : zI κ b L kd σ) (ha : zT L kd a 7) (h0 : 0 ≤ v.toInt) (h1 : v.toInt ≤ 2000) : zI v.toInt b L kd (zu σ.1 a 1 v, σ.2.1, σ.2.2) := by
  refine ⟨fun a' ha' j' => ?_, h.2.1, ⟨h0, h1⟩, h.2.2.2⟩
  show _ ≤ (zu σ.1 a 1 v a' j').toInt ∧ (zu σ.1 a 1 v a' j').toInt ≤ _
  by_cases e : a' = a
  · subst e
    by_cases e2 : j' = 1
    · subst e2
      rw [ha.2, zu_s]
      exact ⟨Int.le_refl _, Int.le_refl _⟩
    · have q := h.1 _ ha' j'
      rw [ha.2] at q ⊢
      have z1 : zr v.toInt 7 j' = (-2147483648, 2147483647) := by
        have e3 : (zrl v.toInt).find? (fun q => q.1 == 7 && (q.2.1 == 9999 || q.2.1 == j')) = none := by
          simp [zrl, List.find?, show (1 == j') = false from by simp; omega]
        simp [zr, e3]
      rw [z1]
      exact zb_rng _
  · rw [zu_n _ _ _ e]
    have q := h.1 a' ha' j'
    have h7 : kd a' ≠ 7 := fun z => e (h.2.2.2.1 a' ha' a ha.1 (by rw [z, ha.2]) (by omega))
    rw [zr_other (κ2 := v.toInt) h7 (h.2.2.2.2 a' ha')] at q
    exact q
end ZMORE
theorem zg_ldcwE {rs : va_W} {cs sl : Nat} {d : zD2} {L : List Nat} {kd : Nat → Nat} {A : Nat → Prop} {nL : Nat} {p : Program} {l : Launch} {e : Env} {R : Room} {s : State} {m : MethodId} {args : Array Value} {below : List Frame} {meth : Method} {c : Code} {cc : ByteArray} {own : String} {Q : State → Prop} {σ : zS} {pc : Nat} {lv : List (Nat × Value)} {st : List Value} (X : zX d L kd A nL p s m args c cc own) {index : Nat} {v : Int32} (hc : Cond.constant own index v ∈ zWL) (hdg : decode cc pc = .ok (.ldc_w index, 3)) (k : ∀ w : Int32, w = v → zGc rs cs sl d L kd A nL p l e R s m args below meth c Q σ (pc + 3) lv (.int w :: st)) : zGc rs cs sl d L kd A nL p l e R s m args below meth c Q σ pc lv st := fun hz H locs ls hP hD hS hl => lv_ldcw X.1 X.2.1 X.2.2.2.1 (X.2.2.2.2.1 _ hc) hdg (k _ rfl hz H locs ls hP hD hS hl)
theorem zg_topi {rs : va_W} {cs sl : Nat} {d : zD2} {L : List Nat} {kd : Nat → Nat} {A : Nat → Prop} {nL : Nat} {p : Program} {l : Launch} {e : Env} {R : Room} {s : State} {m : MethodId} {args : Array Value} {below : List Frame} {meth : Method} {c : Code} {Q : State → Prop} {σ : zS} {pc : Nat} {lv : List (Nat × Value)} {st : List Value} {x : Int32} (k : ∀ v : Int32, v = x → zGc rs cs sl d L kd A nL p l e R s m args below meth c Q σ pc lv (.int v :: st)) : zGc rs cs sl d L kd A nL p l e R s m args below meth c Q σ pc lv (.int x :: st) := k _ rfl
/-- one of the two of an 'and' not below 0: the 'and' is between 0 and it -/
theorem zb_and (x y : Int32) (h : 0 ≤ x.toInt) : 0 ≤ (x &&& y).toInt ∧ (x &&& y).toInt ≤ x.toInt := by
  have hx : x.toBitVec.toNat < 2 ^ 31 := by
    rcases Nat.lt_or_ge x.toBitVec.toNat (2 ^ 31) with q | q
    · exact q
    · have e : x.toInt = x.toBitVec.toInt := rfl
      have h2 := BitVec.isLt x.toBitVec
      rw [e, BitVec.toInt_eq_toNat_cond, if_neg (by omega)] at h
      omega
  have hb : (x &&& y).toBitVec.toNat ≤ x.toBitVec.toNat := by
    rw [Int32.toBitVec_and, BitVec.toNat_and]
    exact Nat.and_le_left
  have e1 : x.toInt = (x.toBitVec.toNat : Int) := by
    show x.toBitVec.toInt = _
    rw [BitVec.toInt_eq_toNat_cond, if_pos (by omega)]
  have e2 : (x &&& y).toInt = ((x &&& y).toBitVec.toNat : Int) := by
    show (x &&& y).toBitVec.toInt = _
    rw [BitVec.toInt_eq_toNat_cond, if_pos (by omega)]
  omega
theorem zb_bit {x : Int32} (h0 : 0 ≤ x.toInt) (h1 : x.toInt ≤ 12) : 1 ≤ ((1 : Int32) <<< (x &&& 31)).toInt ∧ ((1 : Int32) <<< (x &&& 31)).toInt ≤ 4096 := by
  have key : ∀ k : Fin 13, 1 ≤ ((1 : Int32) <<< ((Int32.ofNat k.val) &&& 31)).toInt ∧ ((1 : Int32) <<< ((Int32.ofNat k.val) &&& 31)).toInt ≤ 4096 := by decide +kernel
  have e : x = Int32.ofNat x.toInt.toNat := by
    apply Int32.toInt_inj.mp
    have := nI_toInt (n := x.toInt.toNat) (by omega)
    unfold nI at this
    rw [this]
    omega
  have q := key ⟨x.toInt.toNat, by omega⟩
  rw [← e] at q
  exact q
section ZSTR
variable {rs : va_W} {cs sl : Nat} {κ : Int} {b : Nat} {d : zD2} {L : List Nat} {kd : Nat → Nat} {A : Nat → Prop} {nL : Nat} {p : Program} {l : Launch} {e : Env} {R : Room} {s : State} {m : MethodId} {args : Array Value} {below : List Frame} {meth : Method} {c : Code} {cc : ByteArray} {own : String} {Q : State → Prop} {σ : zS} {pc : Nat} {lv : List (Nat × Value)} {st : List Value}
theorem zg_sval (X : zX d L kd A nL p s m args c cc own) {i index : Nat} (hi : i < 2) (hlink : Cond.fieldLink own index "java/lang/String" "value" "[B" ∈ zWL) (hdg : decode cc pc = .ok (.getfield index, 3)) (k : zGc rs cs sl d L kd A nL p l e R s m args below meth c Q σ (pc + 3) lv (.ref (d.2.2 (102 + i)) :: st)) : zGc rs cs sl d L kd A nL p l e R s m args below meth c Q σ pc lv (.ref (d.2.2 (100 + i)) :: st) := fun hz H locs ls hP hD hS hl =>
  vk_getf X.1 X.2.1 (X.2.2.2.2.2.2.2.2.2.2.2.1.1 i hi).2.2.1 hS X.2.2.2.1 (X.2.2.2.2.1 _ hlink) (fun _ h => h) hdg (k hz H locs ls hP hD hS hl)
theorem zg_scod (X : zX d L kd A nL p s m args c cc own) {i index : Nat} (hi : i < 2) (hlink : Cond.fieldLink own index "java/lang/String" "coder" "B" ∈ zWL) (hdg : decode cc pc = .ok (.getfield index, 3)) (k : ∀ v : Int32, v.toInt = 0 → zGc rs cs sl d L kd A nL p l e R s m args below meth c Q σ (pc + 3) lv (.int v :: st)) : zGc rs cs sl d L kd A nL p l e R s m args below meth c Q σ pc lv (.ref (d.2.2 (100 + i)) :: st) := fun hz H locs ls hP hD hS hl =>
  vk_getf X.1 X.2.1 (X.2.2.2.2.2.2.2.2.2.2.2.1.1 i hi).2.1 hS X.2.2.2.1 (X.2.2.2.2.1 _ hlink) (fun _ h => h) hdg (k 0 rfl hz H locs ls hP hD hS hl)
theorem zlen_lt {i : Nat} (hi : i < 2) : zlen.getD i 0 < 2147483648 := by
  have key : ∀ i, i < 2 → zlen.getD i 0 < 2147483648 := by decide +kernel
  exact key i hi
theorem zg_slen (X : zX d L kd A nL p s m args c cc own) {i : Nat} (hi : i < 2) (hdg : decode cc pc = .ok (.arraylength, 1)) (k : ∀ v : Int32, v.toInt = zlen.getD i 0 → zGc rs cs sl d L kd A nL p l e R s m args below meth c Q σ (pc + 1) lv (.int v :: st)) : zGc rs cs sl d L kd A nL p l e R s m args below meth c Q σ pc lv (.ref (d.2.2 (102 + i)) :: st) := fun hz H locs ls hP hD hS hl =>
  va_tlen X.1 X.2.1 (X.2.2.2.2.2.2.2.2.2.2.2.1.1 i hi).2.2.2 hS rfl hdg (k _ (nI_toInt (zlen_lt hi)) hz H locs ls hP hD hS hl)
theorem zg_sby (X : zX d L kd A nL p s m args c cc own) {i : Nat} {j : Int32} (hi : i < 2) (h0 : 0 ≤ j.toInt) (h1 : j.toInt < zlen.getD i 0) (hdg : decode cc pc = .ok (.baload, 1)) (k : ∀ v : Int32, v = (zbyt.getD i []).getD j.toNatClampNeg 0 → zGc rs cs sl d L kd A nL p l e R s m args below meth c Q σ (pc + 1) lv (.int v :: st)) : zGc rs cs sl d L kd A nL p l e R s m args below meth c Q σ pc lv (.int j :: .ref (d.2.2 (102 + i)) :: st) := fun hz H locs ls hP hD hS hl =>
  va_tb X.1 X.2.1 (X.2.2.2.2.2.2.2.2.2.2.2.1.1 i hi).2.2.2 hS (zb_in h0 h1) rfl hdg (k _ rfl hz H locs ls hP hD hS hl)
theorem zg_scs (X : zX d L kd A nL p s m args c cc own) {index : Nat} (hlink : Cond.fieldLink own index "java/lang/String" "COMPACT_STRINGS" "Z" ∈ zWL) (hdg : decode cc pc = .ok (.getstatic index, 3)) (k : ∀ v : Int32, v.toInt = 1 → zGc rs cs sl d L kd A nL p l e R s m args below meth c Q σ (pc + 3) lv (.int v :: st)) : zGc rs cs sl d L kd A nL p l e R s m args below meth c Q σ pc lv st := fun hz H locs ls hP hD hS hl =>
  va_gets X.1 X.2.1 X.2.2.2.2.2.2.2.2.2.2.2.2.2.1 hS X.2.2.2.1 (X.2.2.2.2.1 _ hlink) (fun _ h => h) hdg (k 1 rfl hz H locs ls hP hD hS hl)
theorem zg_sio (X : zX d L kd A nL p s m args c cc own) {index : Nat} (hlink : Cond.fieldLink own index "jdk/internal/util/Preconditions" "SIOOBE_FORMATTER" "Ljava/util/function/BiFunction;" ∈ zWL) (hdg : decode cc pc = .ok (.getstatic index, 3)) (k : ∀ o : Option Nat, zGc rs cs sl d L kd A nL p l e R s m args below meth c Q σ (pc + 3) lv (va_rf o :: st)) : zGc rs cs sl d L kd A nL p l e R s m args below meth c Q σ pc lv st := fun hz H locs ls hP hD hS hl => by
  rcases X.2.2.2.2.2.2.2.2.2.2.2.2.2.2.1 with hZ | ⟨t, hZ⟩
  · exact va_gets X.1 X.2.1 hZ hS X.2.2.2.1 (X.2.2.2.2.1 _ hlink) (fun _ h => h) hdg (k none hz H locs ls hP hD hS hl)
  · exact va_gets X.1 X.2.1 hZ hS X.2.2.2.1 (X.2.2.2.2.1 _ hlink) (fun _ h => h) hdg (k (some t) hz H locs ls hP hD hS hl)
theorem zg_sldc (X : zX d L kd A nL p s m args c cc RX8) {i index : Nat} (hi : i < 2) (hx : zstrI i = index) (hdg : decode cc pc = .ok (.ldc index, 2)) (k : zGc rs cs sl d L kd A nL p l e R s m args below meth c Q σ (pc + 2) lv (.ref (d.2.2 (100 + i)) :: st)) : zGc rs cs sl d L kd A nL p l e R s m args below meth c Q σ pc lv st := fun hz H locs ls hP hD hS hl => by
  subst hx
  exact va_ldcS X.1 X.2.1 X.2.2.2.1 (X.2.2.2.2.2.2.2.2.2.2.2.2.1 i hi) hdg (k hz H locs ls hP hD hS hl)
theorem zi_recvS (X : zX d L kd A nL p s m args c cc own) {i : Nat} (hi : i < 2) {H : Heap} {locs : List Loc} (hS : va_S A s.heap H locs) : ∃ cell : Cell, H[d.2.2 (100 + i)]? = some cell ∧ cell.vm.isStatics = false ∧ s.vm.findClass "java/lang/String" = some cell.cls := vk_recv (adK := fun i => d.2.2 (100 + i)) (i := i) X.2.2.2.2.2.2.2.2.2.2.2.1 hi hS
end ZSTR
theorem zb_z0 {v : Int32} (h : v.toInt = 0) : v = 0 := Int32.toInt_inj.mp (by rw [h]; rfl)
section ZCALLK
variable {rs : va_W} {cs sl : Nat} {d : zD2} {L : List Nat} {kd : Nat → Nat} {A : Nat → Prop} {nL : Nat} {p : Program} {l : Launch} {e : Env} {R : Room} {s : State} {m : MethodId} {args : Array Value} {below : List Frame} {meth : Method} {c : Code} {cc : ByteArray} {own : String} {Q : State → Prop} {σ : zS} {pc : Nat} {lv : List (Nat × Value)} {st : List Value}
theorem zg_cKi (X : zX d L kd A nL p s m args c cc own) {y : MethodName} {b : ByteArray} {mL n index na : Nat} {rt : FieldType} {As : List Value} {post : Int32 → zS → Prop} {i : Nat} (hi : i < 2) (hcl : y.cls = "java/lang/String") (hM : zMi l y (Cond.code y b mL (some rt) :: zWL) n (.ref (d.2.2 (100 + i)) :: As) d L kd σ post) (hlink : Cond.methodLink own index y ∈ zWL) (hcode : Cond.code y b mL (some rt) ∈ zWL) (hini : Cond.initialized y.cls ∈ zWL) (hinst : Cond.instanceMethod y ∈ zWL) (hsel : Cond.selects "java/lang/String" y y ∈ zWL) (hd : y.cls ≠ "java/lang/invoke/MethodHandle" ∧ y.cls ≠ "java/lang/invoke/VarHandle" ∧ (parseMethodDescriptor y.desc).map (fun q => q.parameters.length) = some na) (hna : As.length = na) (hR : n + 1 ≤ R.frames ∧ 8 + (mL + 11) + 100 * n ≤ R.locals) (hst : (st.map fun v => v.category).sum ≤ 8) (hdg : decode cc pc = .ok (.invokevirtual index, 3)) (k : ∀ (v : Int32) (σ2 : zS), post v σ2 → zGc rs cs sl d L kd A nL p l e R s m args below meth c Q σ2 (pc + 3) lv (.int v :: st)) : zGc rs cs sl d L kd A nL p l e R s m args below meth c Q σ pc lv (As.reverse ++ .ref (d.2.2 (100 + i)) :: st) := by
  intro hz H locs ls hP hD hS hl
  have hsig : ∀ sig, parseMethodDescriptor y.desc = some sig → As.length = sig.parameters.length := fun sig h => by
    have h2 := hd.2.2
    rw [h, ← hna] at h2
    exact (Option.some.inj h2).symm
  have hF := zA_sub (zD_suf hD) hS X.2.2.2.2.2.2.2.2.1
  refine va_calli (va_runV (As := As) (rest := st) (n := As.length) ⟨X.1, X.2.1, X.2.2.1, X.2.2.2.1, X.2.2.2.2.1⟩ (hM H.size) ⟨⟨rfl, rfl, hR.1, hR.2, zpay X.2.2.2.2.1 hcode, List.mem_cons_self, (X.2.2.2.2.1 _ hcode), (X.2.2.2.2.1 _ hini), ⟨hd.1, hd.2.1⟩, hsig, (X.2.2.2.2.1 _ hlink)⟩, (X.2.2.2.2.1 _ hinst), (X.2.2.2.2.1 _ hsel)⟩ ⟨zblind, zi_recvS X hi hS, fun U hU hW => ⟨rfl, by rw [hU], ⟨by rw [hU]; exact zP_suf hP, va_K.moved hW.alike X.2.2.2.2.2.1⟩, zN.warm hW X.2.2.2.2.2.2.1, (zD_suf hD).weaken (fun _ _ _ _ => trivial), by rw [hU]; exact ((X.2.2.2.2.2.2.2.2.2.kept hS.2.1).narrow hF).warm hW⟩⟩ rfl rfl hl.1 rfl (lv_room hst) hdg ⟨hz.1, hz.2⟩) hS (fun q _ h => hF q h) hF (fun v σ2 t H1 locs ht hvm hw hB hz1 hk1 hS => ?_)
  obtain ⟨⟨hP1, hK1⟩, hD1⟩ := hB
  rw [ht] at hP1
  exact k v σ2 hw hz H1 locs ls (zR_back hP hD hk1 hP1) (zR_any hD) hS hl
end ZCALLK
theorem zt1 {w : Cond} (h : w ∈ tables_1_1) : w ∈ tables_1 := List.mem_append_left _ h
theorem zw1 {w : Cond} (h : w ∈ tables_1_1) (hg : goodWord w = true) : w ∈ zWL := List.mem_append_left _ (List.mem_filter.mpr ⟨zt1 h, hg⟩)
theorem zt2 {w : Cond} (h : w ∈ tables_1_2) : w ∈ tables_1 := List.mem_append_right _ (List.mem_append_left _ h)
theorem zw2 {w : Cond} (h : w ∈ tables_1_2) (hg : goodWord w = true) : w ∈ zWL := List.mem_append_left _ (List.mem_filter.mpr ⟨zt2 h, hg⟩)
theorem zt3 {w : Cond} (h : w ∈ tables_1_3) : w ∈ tables_1 := List.mem_append_right _ (List.mem_append_right _ (List.mem_append_left _ h))
theorem zw3 {w : Cond} (h : w ∈ tables_1_3) (hg : goodWord w = true) : w ∈ zWL := List.mem_append_left _ (List.mem_filter.mpr ⟨zt3 h, hg⟩)
theorem zt4 {w : Cond} (h : w ∈ tables_1_4) : w ∈ tables_1 := List.mem_append_right _ (List.mem_append_right _ (List.mem_append_right _ (List.mem_append_left _ h)))
theorem zw4 {w : Cond} (h : w ∈ tables_1_4) (hg : goodWord w = true) : w ∈ zWL := List.mem_append_left _ (List.mem_filter.mpr ⟨zt4 h, hg⟩)
theorem zt5 {w : Cond} (h : w ∈ tables_1_5) : w ∈ tables_1 := List.mem_append_right _ (List.mem_append_right _ (List.mem_append_right _ (List.mem_append_right _ (List.mem_append_left _ h))))
theorem zw5 {w : Cond} (h : w ∈ tables_1_5) (hg : goodWord w = true) : w ∈ zWL := List.mem_append_left _ (List.mem_filter.mpr ⟨zt5 h, hg⟩)
theorem zt6 {w : Cond} (h : w ∈ tables_1_6) : w ∈ tables_1 := List.mem_append_right _ (List.mem_append_right _ (List.mem_append_right _ (List.mem_append_right _ (List.mem_append_right _ (List.mem_append_left _ h)))))
theorem zw6 {w : Cond} (h : w ∈ tables_1_6) (hg : goodWord w = true) : w ∈ zWL := List.mem_append_left _ (List.mem_filter.mpr ⟨zt6 h, hg⟩)
theorem zt7 {w : Cond} (h : w ∈ tables_1_7) : w ∈ tables_1 := List.mem_append_right _ (List.mem_append_right _ (List.mem_append_right _ (List.mem_append_right _ (List.mem_append_right _ (List.mem_append_right _ (List.mem_append_left _ h))))))
theorem zw7 {w : Cond} (h : w ∈ tables_1_7) (hg : goodWord w = true) : w ∈ zWL := List.mem_append_left _ (List.mem_filter.mpr ⟨zt7 h, hg⟩)
theorem zt8 {w : Cond} (h : w ∈ tables_1_8) : w ∈ tables_1 := List.mem_append_right _ (List.mem_append_right _ (List.mem_append_right _ (List.mem_append_right _ (List.mem_append_right _ (List.mem_append_right _ (List.mem_append_right _ (h)))))))
theorem zw8 {w : Cond} (h : w ∈ tables_1_8) (hg : goodWord w = true) : w ∈ zWL := List.mem_append_left _ (List.mem_filter.mpr ⟨zt8 h, hg⟩)
