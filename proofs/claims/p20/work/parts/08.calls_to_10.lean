-- 08.calls
section
theorem zMi.of {l : Launch} {y : MethodName} {ws : List Cond} {n maxL : Nat} {av : List Value} {d : zD2} {L : List Nat} {kd : Nat → Nat} {σ : zS} {post : Int32 → zS → Prop} {cc : ByteArray} {rt : FieldType} {own : String} (hy : plainName y.cls = true) (hw : ws = Cond.code y cc maxL (some rt) :: zWL) (hown : y.cls = own) (hav : (lg_sl av).length ≤ maxL)
    (body : ∀ (p : Program) (e : Env) (s : State) (m : MethodId) (args : Array Value) (below : List Frame) (meth : Method) (c : Code) (A : Nat → Prop) (Q : State → Prop), zX d L kd A maxL p s m args c cc own → (∀ (v : Int32) (σ2 : zS) (pc : Nat) (lv : List (Nat × Value)), decode cc pc = .ok (.ireturn, 1) → narrow rt (.int v) = .int v → post v σ2 → zG d L kd A maxL p l e (k2_rm n (100 * n)) s m args below meth c Q σ2 pc lv [.int v]) → zG d L kd A maxL p l e (k2_rm n (100 * n)) s m args below meth c Q σ 0 (lv_args 0 av) []) : zMi l y ws n av d L kd σ post := by
  intro sz
  refine Met.ofW (cc := cc) (maxL := maxL) (ret := (some rt)) hy hw ?_
  intro p e s m args below meth c s₁ B hml hv
  obtain ⟨rfl, hsz, ⟨hP, hK⟩, hN, hD0, hE⟩ := hv
  have hts := atoms_spec (ws := ws) B.pre
  have hown2 : s.vm.findClass y.cls = some m.cls := findClass_of_methodNamed B.named
  have hlocks := B.notSynchronized
  subst hsz
  have hl := lv_entry av (n := maxL) hav
  rw [lg_entry_eq]
  generalize (lg_sl av ++ List.replicate (maxL - (lg_sl av).length) Slot.unset).toArray = ls at hl ⊢
  refine body p e s m _ below meth c (va_A (zW d.2.2 L kd σ) s.heap.size) _ ⟨B.exec, B.bytes, hml, by rw [← hown]; exact hown2, fun w h => hts w (by rw [hw]; exact List.mem_cons_of_mem _ h), hK, hN, trivial, fun q h => Or.inr h, hE⟩ ?_ ⟨Nat.zero_le _, Nat.zero_le _⟩ s.heap [] ls hP (hD0.self (sz := s.heap.size)) va_S.rf hl
  intro v σ2 pc lv hdg hn hp _ H locs ls hP hD hS hl
  exact W.zret B.exec B.bytes B.returns hn (fun t ht hW => ⟨⟨v, σ2, rfl, hp, ⟨by rw [ht]; exact hP, va_K.moved hW.alike hK⟩, hD⟩, hS.F ht⟩) hS.2.2 hdg
theorem zMl.of {l : Launch} {y : MethodName} {ws : List Cond} {n maxL : Nat} {av : List Value} {d : zD2} {L : List Nat} {kd : Nat → Nat} {σ : zS} {post : Int64 → zS → Prop} {cc : ByteArray} {own : String} (hy : plainName y.cls = true) (hw : ws = Cond.code y cc maxL (some .long) :: zWL) (hown : y.cls = own) (hav : (lg_sl av).length ≤ maxL)
    (body : ∀ (p : Program) (e : Env) (s : State) (m : MethodId) (args : Array Value) (below : List Frame) (meth : Method) (c : Code) (A : Nat → Prop) (Q : State → Prop), zX d L kd A maxL p s m args c cc own → (∀ (v : Int64) (σ2 : zS) (pc : Nat) (lv : List (Nat × Value)), decode cc pc = .ok (.lreturn, 1) → post v σ2 → zG d L kd A maxL p l e (k2_rm n (100 * n)) s m args below meth c Q σ2 pc lv [.long v]) → zG d L kd A maxL p l e (k2_rm n (100 * n)) s m args below meth c Q σ 0 (lv_args 0 av) []) : zMl l y ws n av d L kd σ post := by
  intro sz
  refine Met.ofW (cc := cc) (maxL := maxL) (ret := (some .long)) hy hw ?_
  intro p e s m args below meth c s₁ B hml hv
  obtain ⟨rfl, hsz, ⟨hP, hK⟩, hN, hD0, hE⟩ := hv
  have hts := atoms_spec (ws := ws) B.pre
  have hown2 : s.vm.findClass y.cls = some m.cls := findClass_of_methodNamed B.named
  have hlocks := B.notSynchronized
  subst hsz
  have hl := lv_entry av (n := maxL) hav
  rw [lg_entry_eq]
  generalize (lg_sl av ++ List.replicate (maxL - (lg_sl av).length) Slot.unset).toArray = ls at hl ⊢
  refine body p e s m _ below meth c (va_A (zW d.2.2 L kd σ) s.heap.size) _ ⟨B.exec, B.bytes, hml, by rw [← hown]; exact hown2, fun w h => hts w (by rw [hw]; exact List.mem_cons_of_mem _ h), hK, hN, trivial, fun q h => Or.inr h, hE⟩ ?_ ⟨Nat.zero_le _, Nat.zero_le _⟩ s.heap [] ls hP (hD0.self (sz := s.heap.size)) va_S.rf hl
  intro v σ2 pc lv hdg hp _ H locs ls hP hD hS hl
  exact W.lret B.exec B.bytes B.returns (fun t ht hW => ⟨⟨v, σ2, rfl, hp, ⟨by rw [ht]; exact hP, va_K.moved hW.alike hK⟩, hD⟩, hS.F ht⟩) hS.2.2 hdg
theorem zMv.of {l : Launch} {y : MethodName} {ws : List Cond} {n maxL : Nat} {av : List Value} {d : zD2} {L : List Nat} {kd : Nat → Nat} {σ : zS} {post : zS → Prop} {cc : ByteArray} {own : String} (hy : plainName y.cls = true) (hw : ws = Cond.code y cc maxL none :: zWL) (hown : y.cls = own) (hav : (lg_sl av).length ≤ maxL)
    (body : ∀ (p : Program) (e : Env) (s : State) (m : MethodId) (args : Array Value) (below : List Frame) (meth : Method) (c : Code) (A : Nat → Prop) (Q : State → Prop), zX d L kd A maxL p s m args c cc own → (∀ (σ2 : zS) (pc : Nat) (lv : List (Nat × Value)), decode cc pc = .ok (.return_, 1) → post σ2 → zG d L kd A maxL p l e (k2_rm n (100 * n)) s m args below meth c Q σ2 pc lv []) → zG d L kd A maxL p l e (k2_rm n (100 * n)) s m args below meth c Q σ 0 (lv_args 0 av) []) : zMv l y ws n av d L kd σ post := by
  intro sz
  refine Met.ofW (cc := cc) (maxL := maxL) (ret := none) hy hw ?_
  intro p e s m args below meth c s₁ B hml hv
  obtain ⟨rfl, hsz, ⟨hP, hK⟩, hN, hD0, hE⟩ := hv
  have hts := atoms_spec (ws := ws) B.pre
  have hown2 : s.vm.findClass y.cls = some m.cls := findClass_of_methodNamed B.named
  have hlocks := B.notSynchronized
  subst hsz
  have hl := lv_entry av (n := maxL) hav
  rw [lg_entry_eq]
  generalize (lg_sl av ++ List.replicate (maxL - (lg_sl av).length) Slot.unset).toArray = ls at hl ⊢
  refine body p e s m _ below meth c (va_A (zW d.2.2 L kd σ) s.heap.size) _ ⟨B.exec, B.bytes, hml, by rw [← hown]; exact hown2, fun w h => hts w (by rw [hw]; exact List.mem_cons_of_mem _ h), hK, hN, trivial, fun q h => Or.inr h, hE⟩ ?_ ⟨Nat.zero_le _, Nat.zero_le _⟩ s.heap [] ls hP (hD0.self (sz := s.heap.size)) va_S.rf hl
  intro σ2 pc lv hdg hp _ H locs ls hP hD hS hl
  exact W.vret B.exec B.bytes B.returns (fun t ht hW => ⟨⟨σ2, rfl, hp, ⟨by rw [ht]; exact hP, va_K.moved hW.alike hK⟩, hD⟩, hS.F ht⟩) hS.2.2 hdg
theorem zb_bool {v : Int32} (h : 0 ≤ v.toInt ∧ v.toInt ≤ 1) : narrow .boolean (.int v) = .int v := by
  rcases (show v.toInt = 0 ∨ v.toInt = 1 by omega) with q | q
  · rw [show v = 0 from Int32.toInt_inj.mp q]; rfl
  · rw [show v = 1 from Int32.toInt_inj.mp q]; rfl
theorem zb_boolF {v : Int32} (h : 0 ≤ v.toInt ∧ v.toInt ≤ 1) : fits .boolean (.int v) = true := by
  rcases (show v.toInt = 0 ∨ v.toInt = 1 by omega) with q | q
  · rw [show v = 0 from Int32.toInt_inj.mp q]; rfl
  · rw [show v = 1 from Int32.toInt_inj.mp q]; rfl
theorem zWL_good : ∀ w ∈ zWL, goodWord w = true := by
  intro w h
  rcases List.mem_append.mp h with h | h <;> exact (List.mem_filter.mp h).2
/-- a callee's words hold wherever the caller's hold -/
theorem zpay {y : MethodName} {b : ByteArray} {nl : Nat} {r : Option FieldType} {args : Array Value} {s : State} (hts : ∀ w ∈ zWL, w.before args s = true) (hc : Cond.code y b nl r ∈ zWL) : ∀ w ∈ Cond.code y b nl r :: zWL, ∀ (a' : Array Value) (U : State), s.WarmedH U.vm → w.before a' U = true :=
  pay_in hts (fun w h => by
    rcases List.mem_cons.mp h with rfl | h
    · exact ⟨hc, good_of_word (zWL_good _ hc)⟩
    · exact ⟨h, good_of_word (zWL_good _ h)⟩)
theorem zblind {av : List Value} {d : zD2} {L : List Nat} {kd : Nat → Nat} {σ : zS} {sz : Nat} : FrameBlind (va_Pc av (zPc d L kd σ sz)) := fun a U g mk q => by
  obtain ⟨q0, q1, ⟨qP, qK⟩, qN, qD, qE⟩ := q
  exact ⟨q0, q1, ⟨qP, va_K.moved (u := U) (U := U.calling g mk a) (Vm.Alike.refl U.vm) qK⟩, zN.same (u := U) (U := U.calling g mk a) rfl qN, qD, zEX.same (u := U) (U := U.calling g mk a) rfl qE⟩
section ZCALLS
variable {rs : va_W} {cs sl : Nat} {d : zD2} {L : List Nat} {kd : Nat → Nat} {A : Nat → Prop} {nL : Nat} {p : Program} {l : Launch} {e : Env} {R : Room} {s : State} {m : MethodId} {args : Array Value} {below : List Frame} {meth : Method} {c : Code} {cc : ByteArray} {own : String} {Q : State → Prop} {σ : zS} {pc : Nat} {lv : List (Nat × Value)} {st : List Value}
theorem zg_cVi (X : zX d L kd A nL p s m args c cc own) {y : MethodName} {b : ByteArray} {mL n index na : Nat} {rt : FieldType} {As : List Value} {post : Int32 → zS → Prop} {a k ci N : Nat} {C : String} {T : u_T} (ha : zT L kd a k) (hb : zb k = ci) (hci : ci < 12) (hcl : vwCl[ci]? = some (C, T, N)) (hM : zMi l y (Cond.code y b mL (some rt) :: zWL) n (.ref a :: As) d L kd σ post) (hlink : Cond.methodLink own index y ∈ zWL) (hcode : Cond.code y b mL (some rt) ∈ zWL) (hini : Cond.initialized y.cls ∈ zWL) (hinst : Cond.instanceMethod y ∈ zWL) (hsel : Cond.selects C y y ∈ zWL) (hd : y.cls ≠ "java/lang/invoke/MethodHandle" ∧ y.cls ≠ "java/lang/invoke/VarHandle" ∧ (parseMethodDescriptor y.desc).map (fun q => q.parameters.length) = some na) (hna : As.length = na) (hR : n + 1 ≤ R.frames ∧ 8 + (mL + 11) + 100 * n ≤ R.locals) (hst : (st.map fun v => v.category).sum ≤ 8) (hdg : decode cc pc = .ok (.invokevirtual index, 3)) (k : ∀ (v : Int32) (σ2 : zS), post v σ2 → zGc rs cs sl d L kd A nL p l e R s m args below meth c Q σ2 (pc + 3) lv (.int v :: st)) : zGc rs cs sl d L kd A nL p l e R s m args below meth c Q σ pc lv (As.reverse ++ .ref a :: st) := by
  intro hz H locs ls hP hD hS hl
  obtain ⟨q0, hq⟩ := zR_at (dA := d.2.2) (kd := kd) rs σ ha.1
  have he : zF d.2.2 kd σ a = .inr (ci, zfs (σ.1 a) (σ.2.1 a) (σ.2.2 a) (ztys ci) 0) := zE_o (by rw [ha.2]; exact hb) hci
  rw [he] at hq
  have hsig : ∀ sig, parseMethodDescriptor y.desc = some sig → As.length = sig.parameters.length := fun sig h => by
    have h2 := hd.2.2
    rw [h, ← hna] at h2
    exact (Option.some.inj h2).symm
  have hF := zA_sub (zD_suf hD) hS X.2.2.2.2.2.2.2.2.1
  refine va_calli (va_runV (As := As) (rest := st) (n := As.length) ⟨X.1, X.2.1, X.2.2.1, X.2.2.2.1, X.2.2.2.2.1⟩ (hM H.size) ⟨⟨rfl, rfl, hR.1, hR.2, zpay X.2.2.2.2.1 hcode, List.mem_cons_self, (X.2.2.2.2.1 _ hcode), (X.2.2.2.2.1 _ hini), ⟨hd.1, hd.2.1⟩, hsig, (X.2.2.2.2.1 _ hlink)⟩, (X.2.2.2.2.1 _ hinst), (X.2.2.2.2.1 _ hsel)⟩ ⟨zblind, va_recv X.2.2.2.2.2.1 hP hcl hq, fun U hU hW => ⟨rfl, by rw [hU], ⟨by rw [hU]; exact zP_suf hP, va_K.moved hW.alike X.2.2.2.2.2.1⟩, zN.warm hW X.2.2.2.2.2.2.1, (zD_suf hD).weaken (fun _ _ _ _ => trivial), by rw [hU]; exact ((X.2.2.2.2.2.2.2.2.2.kept hS.2.1).narrow hF).warm hW⟩⟩ rfl rfl hl.1 rfl (lv_room hst) hdg ⟨hz.1, hz.2⟩) hS (fun q _ h => hF q h) hF (fun v σ2 t H1 locs ht hvm hw hB hz1 hk1 hS => ?_)
  obtain ⟨⟨hP1, hK1⟩, hD1⟩ := hB
  rw [ht] at hP1
  exact k v σ2 hw hz H1 locs ls (zR_back hP hD hk1 hP1) (zR_any hD) hS hl
theorem zg_cVl (X : zX d L kd A nL p s m args c cc own) {y : MethodName} {b : ByteArray} {mL n index na : Nat} {As : List Value} {post : Int64 → zS → Prop} {a k ci N : Nat} {C : String} {T : u_T} (ha : zT L kd a k) (hb : zb k = ci) (hci : ci < 12) (hcl : vwCl[ci]? = some (C, T, N)) (hM : zMl l y (Cond.code y b mL (some .long) :: zWL) n (.ref a :: As) d L kd σ post) (hlink : Cond.methodLink own index y ∈ zWL) (hcode : Cond.code y b mL (some .long) ∈ zWL) (hini : Cond.initialized y.cls ∈ zWL) (hinst : Cond.instanceMethod y ∈ zWL) (hsel : Cond.selects C y y ∈ zWL) (hd : y.cls ≠ "java/lang/invoke/MethodHandle" ∧ y.cls ≠ "java/lang/invoke/VarHandle" ∧ (parseMethodDescriptor y.desc).map (fun q => q.parameters.length) = some na) (hna : As.length = na) (hR : n + 1 ≤ R.frames ∧ 8 + (mL + 11) + 100 * n ≤ R.locals) (hst : (st.map fun v => v.category).sum ≤ 8) (hdg : decode cc pc = .ok (.invokevirtual index, 3)) (k : ∀ (v : Int64) (σ2 : zS), post v σ2 → zGc rs cs sl d L kd A nL p l e R s m args below meth c Q σ2 (pc + 3) lv (.long v :: st)) : zGc rs cs sl d L kd A nL p l e R s m args below meth c Q σ pc lv (As.reverse ++ .ref a :: st) := by
  intro hz H locs ls hP hD hS hl
  obtain ⟨q0, hq⟩ := zR_at (dA := d.2.2) (kd := kd) rs σ ha.1
  have he : zF d.2.2 kd σ a = .inr (ci, zfs (σ.1 a) (σ.2.1 a) (σ.2.2 a) (ztys ci) 0) := zE_o (by rw [ha.2]; exact hb) hci
  rw [he] at hq
  have hsig : ∀ sig, parseMethodDescriptor y.desc = some sig → As.length = sig.parameters.length := fun sig h => by
    have h2 := hd.2.2
    rw [h, ← hna] at h2
    exact (Option.some.inj h2).symm
  have hF := zA_sub (zD_suf hD) hS X.2.2.2.2.2.2.2.2.1
  refine va_calll (va_runV (As := As) (rest := st) (n := As.length) ⟨X.1, X.2.1, X.2.2.1, X.2.2.2.1, X.2.2.2.2.1⟩ (hM H.size) ⟨⟨rfl, rfl, hR.1, hR.2, zpay X.2.2.2.2.1 hcode, List.mem_cons_self, (X.2.2.2.2.1 _ hcode), (X.2.2.2.2.1 _ hini), ⟨hd.1, hd.2.1⟩, hsig, (X.2.2.2.2.1 _ hlink)⟩, (X.2.2.2.2.1 _ hinst), (X.2.2.2.2.1 _ hsel)⟩ ⟨zblind, va_recv X.2.2.2.2.2.1 hP hcl hq, fun U hU hW => ⟨rfl, by rw [hU], ⟨by rw [hU]; exact zP_suf hP, va_K.moved hW.alike X.2.2.2.2.2.1⟩, zN.warm hW X.2.2.2.2.2.2.1, (zD_suf hD).weaken (fun _ _ _ _ => trivial), by rw [hU]; exact ((X.2.2.2.2.2.2.2.2.2.kept hS.2.1).narrow hF).warm hW⟩⟩ rfl rfl hl.1 rfl (lv_room hst) hdg ⟨hz.1, hz.2⟩) hS (fun q _ h => hF q h) hF (fun v σ2 t H1 locs ht hvm hw hB hz1 hk1 hS => ?_)
  obtain ⟨⟨hP1, hK1⟩, hD1⟩ := hB
  rw [ht] at hP1
  exact k v σ2 hw hz H1 locs ls (zR_back hP hD hk1 hP1) (zR_any hD) hS hl
theorem zg_cVv (X : zX d L kd A nL p s m args c cc own) {y : MethodName} {b : ByteArray} {mL n index na : Nat} {As : List Value} {post : zS → Prop} {a k ci N : Nat} {C : String} {T : u_T} (ha : zT L kd a k) (hb : zb k = ci) (hci : ci < 12) (hcl : vwCl[ci]? = some (C, T, N)) (hM : zMv l y (Cond.code y b mL none :: zWL) n (.ref a :: As) d L kd σ post) (hlink : Cond.methodLink own index y ∈ zWL) (hcode : Cond.code y b mL none ∈ zWL) (hini : Cond.initialized y.cls ∈ zWL) (hinst : Cond.instanceMethod y ∈ zWL) (hsel : Cond.selects C y y ∈ zWL) (hd : y.cls ≠ "java/lang/invoke/MethodHandle" ∧ y.cls ≠ "java/lang/invoke/VarHandle" ∧ (parseMethodDescriptor y.desc).map (fun q => q.parameters.length) = some na) (hna : As.length = na) (hR : n + 1 ≤ R.frames ∧ 8 + (mL + 11) + 100 * n ≤ R.locals) (hst : (st.map fun v => v.category).sum ≤ 8) (hdg : decode cc pc = .ok (.invokevirtual index, 3)) (k : ∀ (σ2 : zS), post σ2 → zGc rs cs sl d L kd A nL p l e R s m args below meth c Q σ2 (pc + 3) lv st) : zGc rs cs sl d L kd A nL p l e R s m args below meth c Q σ pc lv (As.reverse ++ .ref a :: st) := by
  intro hz H locs ls hP hD hS hl
  obtain ⟨q0, hq⟩ := zR_at (dA := d.2.2) (kd := kd) rs σ ha.1
  have he : zF d.2.2 kd σ a = .inr (ci, zfs (σ.1 a) (σ.2.1 a) (σ.2.2 a) (ztys ci) 0) := zE_o (by rw [ha.2]; exact hb) hci
  rw [he] at hq
  have hsig : ∀ sig, parseMethodDescriptor y.desc = some sig → As.length = sig.parameters.length := fun sig h => by
    have h2 := hd.2.2
    rw [h, ← hna] at h2
    exact (Option.some.inj h2).symm
  have hF := zA_sub (zD_suf hD) hS X.2.2.2.2.2.2.2.2.1
  refine va_callv (va_runV (As := As) (rest := st) (n := As.length) ⟨X.1, X.2.1, X.2.2.1, X.2.2.2.1, X.2.2.2.2.1⟩ (hM H.size) ⟨⟨rfl, rfl, hR.1, hR.2, zpay X.2.2.2.2.1 hcode, List.mem_cons_self, (X.2.2.2.2.1 _ hcode), (X.2.2.2.2.1 _ hini), ⟨hd.1, hd.2.1⟩, hsig, (X.2.2.2.2.1 _ hlink)⟩, (X.2.2.2.2.1 _ hinst), (X.2.2.2.2.1 _ hsel)⟩ ⟨zblind, va_recv X.2.2.2.2.2.1 hP hcl hq, fun U hU hW => ⟨rfl, by rw [hU], ⟨by rw [hU]; exact zP_suf hP, va_K.moved hW.alike X.2.2.2.2.2.1⟩, zN.warm hW X.2.2.2.2.2.2.1, (zD_suf hD).weaken (fun _ _ _ _ => trivial), by rw [hU]; exact ((X.2.2.2.2.2.2.2.2.2.kept hS.2.1).narrow hF).warm hW⟩⟩ rfl rfl hl.1 rfl (lv_room hst) hdg ⟨hz.1, hz.2⟩) hS (fun q _ h => hF q h) hF (fun σ2 t H1 locs ht hvm hw hB hz1 hk1 hS => ?_)
  obtain ⟨⟨hP1, hK1⟩, hD1⟩ := hB
  rw [ht] at hP1
  exact k σ2 hw hz H1 locs ls (zR_back hP hD hk1 hP1) (zR_any hD) hS hl
theorem zg_cSi (X : zX d L kd A nL p s m args c cc own) {y : MethodName} {b : ByteArray} {mL n index na : Nat} {rt : FieldType} {As : List Value} {post : Int32 → zS → Prop} (hM : zMi l y (Cond.code y b mL (some rt) :: zWL) n As d L kd σ post) (hlink : Cond.methodLink own index y ∈ zWL) (hcode : Cond.code y b mL (some rt) ∈ zWL) (hini : Cond.initialized y.cls ∈ zWL) (hstat : Cond.static y ∈ zWL) (hd : y.cls ≠ "java/lang/invoke/MethodHandle" ∧ y.cls ≠ "java/lang/invoke/VarHandle" ∧ (parseMethodDescriptor y.desc).map (fun q => q.parameters.length) = some na) (hna : As.length = na) (hR : n + 1 ≤ R.frames ∧ 8 + (mL + 11) + 100 * n ≤ R.locals) (hst : (st.map fun v => v.category).sum ≤ 8) (hdg : decode cc pc = .ok (.invokestatic index, 3)) (k : ∀ (v : Int32) (σ2 : zS), post v σ2 → zGc rs cs sl d L kd A nL p l e R s m args below meth c Q σ2 (pc + 3) lv (.int v :: st)) : zGc rs cs sl d L kd A nL p l e R s m args below meth c Q σ pc lv (As.reverse ++ st) := by
  intro hz H locs ls hP hD hS hl
  have hsig : ∀ sig, parseMethodDescriptor y.desc = some sig → As.length = sig.parameters.length := fun sig h => by
    have h2 := hd.2.2
    rw [h, ← hna] at h2
    exact (Option.some.inj h2).symm
  have hF := zA_sub (zD_suf hD) hS X.2.2.2.2.2.2.2.2.1
  refine va_calli (va_runS (As := As) (rest := st) (n := As.length) ⟨X.1, X.2.1, X.2.2.1, X.2.2.2.1, X.2.2.2.2.1⟩ (hM H.size) ⟨⟨rfl, rfl, hR.1, hR.2, zpay X.2.2.2.2.1 hcode, List.mem_cons_self, (X.2.2.2.2.1 _ hcode), (X.2.2.2.2.1 _ hini), ⟨hd.1, hd.2.1⟩, hsig, (X.2.2.2.2.1 _ hlink)⟩, (X.2.2.2.2.1 _ hstat)⟩ ⟨zblind, fun U hU hW => ⟨rfl, by rw [hU], ⟨by rw [hU]; exact zP_suf hP, va_K.moved hW.alike X.2.2.2.2.2.1⟩, zN.warm hW X.2.2.2.2.2.2.1, (zD_suf hD).weaken (fun _ _ _ _ => trivial), by rw [hU]; exact ((X.2.2.2.2.2.2.2.2.2.kept hS.2.1).narrow hF).warm hW⟩⟩ rfl rfl hl.1 rfl (lv_room hst) hdg ⟨hz.1, hz.2⟩) hS (fun q _ h => hF q h) hF (fun v σ2 t H1 locs ht hvm hw hB hz1 hk1 hS => ?_)
  obtain ⟨⟨hP1, hK1⟩, hD1⟩ := hB
  rw [ht] at hP1
  exact k v σ2 hw hz H1 locs ls (zR_back hP hD hk1 hP1) (zR_any hD) hS hl
theorem zg_cSl (X : zX d L kd A nL p s m args c cc own) {y : MethodName} {b : ByteArray} {mL n index na : Nat} {As : List Value} {post : Int64 → zS → Prop} (hM : zMl l y (Cond.code y b mL (some .long) :: zWL) n As d L kd σ post) (hlink : Cond.methodLink own index y ∈ zWL) (hcode : Cond.code y b mL (some .long) ∈ zWL) (hini : Cond.initialized y.cls ∈ zWL) (hstat : Cond.static y ∈ zWL) (hd : y.cls ≠ "java/lang/invoke/MethodHandle" ∧ y.cls ≠ "java/lang/invoke/VarHandle" ∧ (parseMethodDescriptor y.desc).map (fun q => q.parameters.length) = some na) (hna : As.length = na) (hR : n + 1 ≤ R.frames ∧ 8 + (mL + 11) + 100 * n ≤ R.locals) (hst : (st.map fun v => v.category).sum ≤ 8) (hdg : decode cc pc = .ok (.invokestatic index, 3)) (k : ∀ (v : Int64) (σ2 : zS), post v σ2 → zGc rs cs sl d L kd A nL p l e R s m args below meth c Q σ2 (pc + 3) lv (.long v :: st)) : zGc rs cs sl d L kd A nL p l e R s m args below meth c Q σ pc lv (As.reverse ++ st) := by
  intro hz H locs ls hP hD hS hl
  have hsig : ∀ sig, parseMethodDescriptor y.desc = some sig → As.length = sig.parameters.length := fun sig h => by
    have h2 := hd.2.2
    rw [h, ← hna] at h2
    exact (Option.some.inj h2).symm
  have hF := zA_sub (zD_suf hD) hS X.2.2.2.2.2.2.2.2.1
  refine va_calll (va_runS (As := As) (rest := st) (n := As.length) ⟨X.1, X.2.1, X.2.2.1, X.2.2.2.1, X.2.2.2.2.1⟩ (hM H.size) ⟨⟨rfl, rfl, hR.1, hR.2, zpay X.2.2.2.2.1 hcode, List.mem_cons_self, (X.2.2.2.2.1 _ hcode), (X.2.2.2.2.1 _ hini), ⟨hd.1, hd.2.1⟩, hsig, (X.2.2.2.2.1 _ hlink)⟩, (X.2.2.2.2.1 _ hstat)⟩ ⟨zblind, fun U hU hW => ⟨rfl, by rw [hU], ⟨by rw [hU]; exact zP_suf hP, va_K.moved hW.alike X.2.2.2.2.2.1⟩, zN.warm hW X.2.2.2.2.2.2.1, (zD_suf hD).weaken (fun _ _ _ _ => trivial), by rw [hU]; exact ((X.2.2.2.2.2.2.2.2.2.kept hS.2.1).narrow hF).warm hW⟩⟩ rfl rfl hl.1 rfl (lv_room hst) hdg ⟨hz.1, hz.2⟩) hS (fun q _ h => hF q h) hF (fun v σ2 t H1 locs ht hvm hw hB hz1 hk1 hS => ?_)
  obtain ⟨⟨hP1, hK1⟩, hD1⟩ := hB
  rw [ht] at hP1
  exact k v σ2 hw hz H1 locs ls (zR_back hP hD hk1 hP1) (zR_any hD) hS hl
theorem zg_cSv (X : zX d L kd A nL p s m args c cc own) {y : MethodName} {b : ByteArray} {mL n index na : Nat} {As : List Value} {post : zS → Prop} (hM : zMv l y (Cond.code y b mL none :: zWL) n As d L kd σ post) (hlink : Cond.methodLink own index y ∈ zWL) (hcode : Cond.code y b mL none ∈ zWL) (hini : Cond.initialized y.cls ∈ zWL) (hstat : Cond.static y ∈ zWL) (hd : y.cls ≠ "java/lang/invoke/MethodHandle" ∧ y.cls ≠ "java/lang/invoke/VarHandle" ∧ (parseMethodDescriptor y.desc).map (fun q => q.parameters.length) = some na) (hna : As.length = na) (hR : n + 1 ≤ R.frames ∧ 8 + (mL + 11) + 100 * n ≤ R.locals) (hst : (st.map fun v => v.category).sum ≤ 8) (hdg : decode cc pc = .ok (.invokestatic index, 3)) (k : ∀ (σ2 : zS), post σ2 → zGc rs cs sl d L kd A nL p l e R s m args below meth c Q σ2 (pc + 3) lv st) : zGc rs cs sl d L kd A nL p l e R s m args below meth c Q σ pc lv (As.reverse ++ st) := by
  intro hz H locs ls hP hD hS hl
  have hsig : ∀ sig, parseMethodDescriptor y.desc = some sig → As.length = sig.parameters.length := fun sig h => by
    have h2 := hd.2.2
    rw [h, ← hna] at h2
    exact (Option.some.inj h2).symm
  have hF := zA_sub (zD_suf hD) hS X.2.2.2.2.2.2.2.2.1
  refine va_callv (va_runS (As := As) (rest := st) (n := As.length) ⟨X.1, X.2.1, X.2.2.1, X.2.2.2.1, X.2.2.2.2.1⟩ (hM H.size) ⟨⟨rfl, rfl, hR.1, hR.2, zpay X.2.2.2.2.1 hcode, List.mem_cons_self, (X.2.2.2.2.1 _ hcode), (X.2.2.2.2.1 _ hini), ⟨hd.1, hd.2.1⟩, hsig, (X.2.2.2.2.1 _ hlink)⟩, (X.2.2.2.2.1 _ hstat)⟩ ⟨zblind, fun U hU hW => ⟨rfl, by rw [hU], ⟨by rw [hU]; exact zP_suf hP, va_K.moved hW.alike X.2.2.2.2.2.1⟩, zN.warm hW X.2.2.2.2.2.2.1, (zD_suf hD).weaken (fun _ _ _ _ => trivial), by rw [hU]; exact ((X.2.2.2.2.2.2.2.2.2.kept hS.2.1).narrow hF).warm hW⟩⟩ rfl rfl hl.1 rfl (lv_room hst) hdg ⟨hz.1, hz.2⟩) hS (fun q _ h => hF q h) hF (fun σ2 t H1 locs ht hvm hw hB hz1 hk1 hS => ?_)
  obtain ⟨⟨hP1, hK1⟩, hD1⟩ := hB
  rw [ht] at hP1
  exact k σ2 hw hz H1 locs ls (zR_back hP hD hk1 hP1) (zR_any hD) hS hl
theorem zg_cSNi (X : zX d L kd A nL p s m args c cc own) {y : MethodName} {b : ByteArray} {mL n index na : Nat} {rt : FieldType} {host : String} {As : List Value} {post : Int32 → zS → Prop} (hM : zMi l y (Cond.code y b mL (some rt) :: zWL) n As d L kd σ post) (hlink : Cond.methodLinkNest own index y host ∈ tables_1) (hcode : Cond.code y b mL (some rt) ∈ zWL) (hini : Cond.initialized y.cls ∈ zWL) (hstat : Cond.static y ∈ zWL) (hd : y.cls ≠ "java/lang/invoke/MethodHandle" ∧ y.cls ≠ "java/lang/invoke/VarHandle" ∧ (parseMethodDescriptor y.desc).map (fun q => q.parameters.length) = some na) (hna : As.length = na) (hR : n + 1 ≤ R.frames ∧ 8 + (mL + 11) + 100 * n ≤ R.locals) (hst : (st.map fun v => v.category).sum ≤ 8) (hdg : decode cc pc = .ok (.invokestatic index, 3)) (k : ∀ (v : Int32) (σ2 : zS), post v σ2 → zGc rs cs sl d L kd A nL p l e R s m args below meth c Q σ2 (pc + 3) lv (.int v :: st)) : zGc rs cs sl d L kd A nL p l e R s m args below meth c Q σ pc lv (As.reverse ++ st) := by
  intro hz H locs ls hP hD hS hl
  have hsig : ∀ sig, parseMethodDescriptor y.desc = some sig → As.length = sig.parameters.length := fun sig h => by
    have h2 := hd.2.2
    rw [h, ← hna] at h2
    exact (Option.some.inj h2).symm
  have hF := zA_sub (zD_suf hD) hS X.2.2.2.2.2.2.2.2.1
  refine va_calli (va_runSN (As := As) (rest := st) (n := As.length) ⟨X.1, X.2.1, X.2.2.1, X.2.2.2.1, X.2.2.2.2.1⟩ (hM H.size) ⟨⟨⟨rfl, rfl, hR.1, hR.2, zpay X.2.2.2.2.1 hcode, List.mem_cons_self⟩, (X.2.2.2.2.1 _ hcode), (X.2.2.2.2.1 _ hini), ⟨hd.1, hd.2.1⟩, hsig, (va_Nw.use rfl (X.2.2.2.2.2.2.1 _ hlink rfl))⟩, (X.2.2.2.2.1 _ hstat), trivial⟩ ⟨zblind, fun U hU hW => ⟨rfl, by rw [hU], ⟨by rw [hU]; exact zP_suf hP, va_K.moved hW.alike X.2.2.2.2.2.1⟩, zN.warm hW X.2.2.2.2.2.2.1, (zD_suf hD).weaken (fun _ _ _ _ => trivial), by rw [hU]; exact ((X.2.2.2.2.2.2.2.2.2.kept hS.2.1).narrow hF).warm hW⟩⟩ rfl rfl hl.1 rfl (lv_room hst) hdg ⟨hz.1, hz.2⟩) hS (fun q _ h => hF q h) hF (fun v σ2 t H1 locs ht hvm hw hB hz1 hk1 hS => ?_)
  obtain ⟨⟨hP1, hK1⟩, hD1⟩ := hB
  rw [ht] at hP1
  exact k v σ2 hw hz H1 locs ls (zR_back hP hD hk1 hP1) (zR_any hD) hS hl
end ZCALLS
/-! THE INVARIANT of every class' cells: ranges of whole numbers, kinds of references. κ: what the tape's size is; b: the stage (1: the river has its text and course; 2: the parser has its text) -/
def zI (κ : Int) (b : Nat) (L : List Nat) (kd : Nat → Nat) (σ : zS) : Prop :=
  (∀ a ∈ L, ∀ j, (zr κ (kd a) j).1 ≤ (σ.1 a j).toInt ∧ (σ.1 a j).toInt ≤ (zr κ (kd a) j).2) ∧ (∀ a ∈ L, ∀ j k, zf b (kd a) j = some k → ∃ y, σ.2.2 a j = some y ∧ zT L kd y k) ∧ (0 ≤ κ ∧ κ ≤ 2000) ∧ (∀ a ∈ L, ∀ a' ∈ L, kd a = kd a' → (kd a = 3 ∨ kd a = 5 ∨ kd a = 7) → a = a') ∧ (∀ a ∈ L, kd a ≠ 11)
theorem zi_get {κ : Int} {b : Nat} {L : List Nat} {kd : Nat → Nat} {σ : zS} {a k j : Nat} {lo hi : Int} (h : zI κ b L kd σ) (ha : zT L kd a k) (hr : zr κ k j = (lo, hi)) : lo ≤ (σ.1 a j).toInt ∧ (σ.1 a j).toInt ≤ hi := by
  have q := h.1 a ha.1 j
  rw [ha.2, hr] at q
  exact q
theorem zi_ref {κ : Int} {b : Nat} {L : List Nat} {kd : Nat → Nat} {σ : zS} {a k j k2 : Nat} (h : zI κ b L kd σ) (ha : zT L kd a k) (hf : zf b k j = some k2) : ∃ y, σ.2.2 a j = some y ∧ zT L kd y k2 := h.2.1 a ha.1 j k2 (by rw [ha.2]; exact hf)
theorem zi_puti {κ : Int} {b : Nat} {L : List Nat} {kd : Nat → Nat} {σ : zS} {a k j : Nat} {lo hi : Int} {v : Int32} (h : zI κ b L kd σ) (ha : zT L kd a k) (hr : zr κ k j = (lo, hi)) (h1 : lo ≤ v.toInt) (h2 : v.toInt ≤ hi) : zI κ b L kd (zu σ.1 a j v, σ.2.1, σ.2.2) := by
  refine ⟨fun a' ha' j' => ?_, h.2.1, h.2.2⟩
  show _ ≤ (zu σ.1 a j v a' j').toInt ∧ (zu σ.1 a j v a' j').toInt ≤ _
  unfold zu
  split
  · next e =>
    subst e
    split
    · next e2 =>
      subst e2
      rw [ha.2, hr]
      exact ⟨h1, h2⟩
    · exact h.1 _ ha' j'
  · exact h.1 a' ha' j'
theorem zi_putl {κ : Int} {b : Nat} {L : List Nat} {kd : Nat → Nat} {σ : zS} {f : Nat → Nat → Int64} (h : zI κ b L kd σ) : zI κ b L kd (σ.1, f, σ.2.2) := h
theorem zi_putr {κ : Int} {b : Nat} {L : List Nat} {kd : Nat → Nat} {σ : zS} {a k j k2 y : Nat} (h : zI κ b L kd σ) (ha : zT L kd a k) (hf : zf b k j = some k2) (hy : zT L kd y k2) : zI κ b L kd (σ.1, σ.2.1, zu σ.2.2 a j (some y)) := by
  refine ⟨h.1, fun a' ha' j' k' hk' => ?_, h.2.2⟩
  show ∃ y', zu σ.2.2 a j (some y) a' j' = some y' ∧ _
  unfold zu
  split
  · next e =>
    subst e
    split
    · next e2 =>
      subst e2
      rw [ha.2, hf] at hk'
      cases hk'
      exact ⟨y, rfl, hy⟩
    · exact h.2.1 _ ha' j' k' hk'
  · exact h.2.1 a' ha' j' k' hk'
/-- a reference of which nothing is said yet -/
theorem zi_putn {κ : Int} {b : Nat} {L : List Nat} {kd : Nat → Nat} {σ : zS} {a k j : Nat} {y : Option Nat} (h : zI κ b L kd σ) (ha : zT L kd a k) (hf : zf b k j = none) : zI κ b L kd (σ.1, σ.2.1, zu σ.2.2 a j y) := by
  refine ⟨h.1, fun a' ha' j' k' hk' => ?_, h.2.2⟩
  show ∃ y', zu σ.2.2 a j y a' j' = some y' ∧ _
  unfold zu
  split
  · next e =>
    subst e
    split
    · next e2 =>
      subst e2
      rw [ha.2, hf] at hk'
      cases hk'
    · exact h.2.1 _ ha' j' k' hk'
  · exact h.2.1 a' ha' j' k' hk'
theorem zr_other {κ κ2 : Int} {k j : Nat} (h7 : k ≠ 7) (h11 : k ≠ 11) : zr κ k j = zr κ2 k j := by
  have e : (zrl κ).find? (fun q => q.1 == k && (q.2.1 == 9999 || q.2.1 == j)) = (zrl κ2).find? (fun q => q.1 == k && (q.2.1 == 9999 || q.2.1 == j)) := by
    simp [zrl, List.find?, show (7 == k) = false from by simp; omega, show (11 == k) = false from by simp; omega]
  unfold zr
  rw [e]
/-! THE FUNCTION BESIDE THE WALK: a method's answer and contents as a function of its arguments and contents, told step by step; zSm: what a method of the class leaves as it was -/
def zLet {α β : Type} (x : α) (f : α → β) : β := f x
def zLet2 {α β γ : Type} (x : α × β) (f : α → β → γ) : γ := f x.1 x.2
theorem zLet_s {α β : Type} {R : β} {x v : α} {f : α → β} (e : v = x) (E : R = zLet x f) : R = f v := by rw [e]; exact E
theorem zLet2_s {α β γ : Type} {R : γ} {v : α} {s : β} {x : α × β} {f : α → β → γ} (e : (v, s) = x) (E : R = zLet2 x f) : R = f v s := by rw [← e] at E; exact E
theorem zIf_t {α : Type} {R x y : α} {c : Prop} {i : Decidable c} (h : c) (E : R = @ite α c i x y) : R = x := by rw [if_pos h] at E; exact E
theorem zIf_f {α : Type} {R x y : α} {c : Prop} {i : Decidable c} (h : ¬ c) (E : R = @ite α c i x y) : R = y := by rw [if_neg h] at E; exact E
theorem zcst {v w : Int32} {z : Int} (h : v.toInt = z) (hw : w.toInt = z) : v = w := Int32.toInt_inj.mp (h.trans hw.symm)
theorem zinc {v x a b : Int32} (e : v = x + a) (h : a = b) : v = x + b := by rw [e, h]
theorem zgr {o : Option Nat} {y : Nat} (h : o = some y) : y = o.getD 0 := by rw [h]; rfl
theorem zmin_e {v x y : Int32} (h : v.toInt ≤ x.toInt ∧ v.toInt ≤ y.toInt ∧ (v.toInt = x.toInt ∨ v.toInt = y.toInt)) : v = if x.toInt ≤ y.toInt then x else y := by
  split
  · exact Int32.toInt_inj.mp (by omega)
  · exact Int32.toInt_inj.mp (by omega)
theorem zmax_e {v x y : Int32} (h : x.toInt ≤ v.toInt ∧ y.toInt ≤ v.toInt ∧ (v.toInt = x.toInt ∨ v.toInt = y.toInt)) : v = if x.toInt ≤ y.toInt then y else x := by
  split
  · exact Int32.toInt_inj.mp (by omega)
  · exact Int32.toInt_inj.mp (by omega)
abbrev zcpy (σ : zS) (a a2 n : Nat) : zS := (fun q => if q = a2 then va_cpy (σ.1 a) (σ.1 a2) 0 0 n else σ.1 q, σ.2.1, σ.2.2)
def zfil (σ : zS) (a : Nat) (v : Int32) (n : Nat) : zS := (fun q => if q = a then (fun j => if j < n then v else σ.1 a j) else σ.1 q, σ.2.1, σ.2.2)
def zSm (Wk Wr : List Nat) (L : List Nat) (kd : Nat → Nat) (σ σ2 : zS) : Prop := ∀ a ∈ L, (kd a ∉ Wk → σ2.1 a = σ.1 a ∧ σ2.2.1 a = σ.2.1 a) ∧ (kd a ∉ Wr → σ2.2.2 a = σ.2.2 a)
theorem zSm.rf {Wk Wr L : List Nat} {kd : Nat → Nat} {σ : zS} : zSm Wk Wr L kd σ σ := fun _ _ => ⟨fun _ => ⟨rfl, rfl⟩, fun _ => rfl⟩
theorem zSm.tr {Wk Wr Wk2 Wr2 L : List Nat} {kd : Nat → Nat} {σ0 σ σ2 : zS} (h : zSm Wk Wr L kd σ0 σ) (g : zSm Wk2 Wr2 L kd σ σ2) (h1 : Wk2.all (fun j => Wk.contains j) = true) (h2 : Wr2.all (fun j => Wr.contains j) = true) : zSm Wk Wr L kd σ0 σ2 := fun a ha => by
  have k1 : kd a ∉ Wk → kd a ∉ Wk2 := fun hj hm => hj (by have q := List.all_eq_true.mp h1 _ hm; simpa using q)
  have k2 : kd a ∉ Wr → kd a ∉ Wr2 := fun hj hm => hj (by have q := List.all_eq_true.mp h2 _ hm; simpa using q)
  exact ⟨fun q => ⟨((g a ha).1 (k1 q)).1.trans ((h a ha).1 q).1, ((g a ha).1 (k1 q)).2.trans ((h a ha).1 q).2⟩, fun q => ((g a ha).2 (k2 q)).trans ((h a ha).2 q)⟩
theorem zSm.i {Wk Wr L : List Nat} {kd : Nat → Nat} {σ0 σ σ2 : zS} {b k j : Nat} {v : Int32} (h : zSm Wk Wr L kd σ0 σ) (hb : zT L kd b k) (e : σ2 = (zu σ.1 b j v, σ.2.1, σ.2.2)) (hk : Wk.contains k = true) : zSm Wk Wr L kd σ0 σ2 := fun a ha => by
  subst e
  have hk2 : k ∈ Wk := by simpa using hk
  refine ⟨fun q => ?_, fun q => (h a ha).2 q⟩
  have hne : ¬ a = b := fun z => q (by rw [z, hb.2]; exact hk2)
  exact ⟨(zu_n σ.1 j v hne).trans ((h a ha).1 q).1, ((h a ha).1 q).2⟩
theorem zSm.l {Wk Wr L : List Nat} {kd : Nat → Nat} {σ0 σ σ2 : zS} {b k j : Nat} {v : Int64} (h : zSm Wk Wr L kd σ0 σ) (hb : zT L kd b k) (e : σ2 = (σ.1, zu σ.2.1 b j v, σ.2.2)) (hk : Wk.contains k = true) : zSm Wk Wr L kd σ0 σ2 := fun a ha => by
  subst e
  have hk2 : k ∈ Wk := by simpa using hk
  refine ⟨fun q => ?_, fun q => (h a ha).2 q⟩
  have hne : ¬ a = b := fun z => q (by rw [z, hb.2]; exact hk2)
  exact ⟨((h a ha).1 q).1, (zu_n σ.2.1 j v hne).trans ((h a ha).1 q).2⟩
theorem zSm.r {Wk Wr L : List Nat} {kd : Nat → Nat} {σ0 σ σ2 : zS} {b k j : Nat} {v : Option Nat} (h : zSm Wk Wr L kd σ0 σ) (hb : zT L kd b k) (e : σ2 = (σ.1, σ.2.1, zu σ.2.2 b j v)) (hk : Wr.contains k = true) : zSm Wk Wr L kd σ0 σ2 := fun a ha => by
  subst e
  have hk2 : k ∈ Wr := by simpa using hk
  refine ⟨fun q => (h a ha).1 q, fun q => ?_⟩
  have hne : ¬ a = b := fun z => q (by rw [z, hb.2]; exact hk2)
  exact (zu_n σ.2.2 j v hne).trans ((h a ha).2 q)
theorem zSm.c {Wk Wr L : List Nat} {kd : Nat → Nat} {σ0 σ σ2 : zS} {x b k n : Nat} (h : zSm Wk Wr L kd σ0 σ) (hb : zT L kd b k) (e : σ2 = zcpy σ x b n) (hk : Wk.contains k = true) : zSm Wk Wr L kd σ0 σ2 := fun a ha => by
  subst e
  have hk2 : k ∈ Wk := by simpa using hk
  refine ⟨fun q => ?_, fun q => (h a ha).2 q⟩
  have hne : ¬ a = b := fun z => q (by rw [z, hb.2]; exact hk2)
  exact ⟨(if_neg hne).trans ((h a ha).1 q).1, ((h a ha).1 q).2⟩
theorem zSm.fil {Wk Wr L : List Nat} {kd : Nat → Nat} {σ0 σ σ2 : zS} {b k n : Nat} {v : Int32} (h : zSm Wk Wr L kd σ0 σ) (hb : zT L kd b k) (e : σ2 = zfil σ b v n) (hk : Wk.contains k = true) : zSm Wk Wr L kd σ0 σ2 := fun a ha => by
  subst e
  have hk2 : k ∈ Wk := by simpa using hk
  refine ⟨fun q => ?_, fun q => (h a ha).2 q⟩
  have hne : ¬ a = b := fun z => q (by rw [z, hb.2]; exact hk2)
  exact ⟨(if_neg hne).trans ((h a ha).1 q).1, ((h a ha).1 q).2⟩
section ZMORE
variable {rs : va_W} {cs sl : Nat} {κ : Int} {b : Nat} {d : zD2} {L : List Nat} {kd : Nat → Nat} {A : Nat → Prop} {nL : Nat} {p : Program} {l : Launch} {e : Env} {R : Room} {s : State} {m : MethodId} {args : Array Value} {below : List Frame} {meth : Method} {c : Code} {cc : ByteArray} {own : String} {Q : State → Prop} {σ : zS} {pc : Nat} {lv : List (Nat × Value)} {st : List Value}
theorem zg_lv {lv2 : List (Nat × Value)} (h : lv = lv2) (k : zGc rs cs sl d L kd A nL p l e R s m args below meth c Q σ pc lv2 st) : zGc rs cs sl d L kd A nL p l e R s m args below meth c Q σ pc lv st := h ▸ k
theorem zg_sub {lv2 : List (Nat × Value)} (ks : List Nat) (h : lv_pick lv ks = lv2) (k : zGc rs cs sl d L kd A nL p l e R s m args below meth c Q σ pc lv2 st) : zGc rs cs sl d L kd A nL p l e R s m args below meth c Q σ pc lv st := fun hz H locs ls hP hD hS hl => k hz H locs ls hP hD hS (lv_sub hl ks h)
theorem zb_rem {x y : Int32} (n : Int) (hy : y.toInt = n) (hn : 0 < n) : -n < (x - x / y * y).toInt ∧ (x - x / y * y).toInt < n ∧ (0 ≤ x.toInt → 0 ≤ (x - x / y * y).toInt) := by
  rw [rem_toInt, hy]
  have h := tmod_bounds (a := x.toInt) hn
  exact ⟨h.1, h.2, fun h0 => Int.tmod_nonneg n h0⟩
theorem zg_min (X : zX d L kd A nL p s m args c cc own) {index : Nat} {x y : Int32} (hw : Cond.methodLink own index Lib.Math.min.name ∈ zWL ∧ Cond.static Lib.Math.min.name ∈ zWL ∧ Cond.initialized "java/lang/Math" ∈ zWL ∧ Cond.code Lib.Math.min.name Lib.Math.min.code 2 (some .int) ∈ zWL) (hR : 1 ≤ R.frames ∧ (st.map fun v => v.category).sum + 13 ≤ R.locals) (hdg : decode cc pc = .ok (.invokestatic index, 3)) (k : ∀ v : Int32, v.toInt ≤ x.toInt ∧ v.toInt ≤ y.toInt ∧ (v.toInt = x.toInt ∨ v.toInt = y.toInt) → zGc rs cs sl d L kd A nL p l e R s m args below meth c Q σ (pc + 3) lv (.int v :: st)) : zGc rs cs sl d L kd A nL p l e R s m args below meth c Q σ pc lv (.int y :: .int x :: st) := by
  intro hz H locs ls hP hD hS hl
  have U := X.2.2.2.2.1
  refine va_mmin X.1 X.2.1 (by rw [X.2.2.1]; exact hl.1.symm) X.2.2.2.1 (U _ hw.1) (U _ hw.2.1) (U _ hw.2.2.1) (U _ hw.2.2.2) hR.1 hR.2 hz.1 hz.2 hdg (k _ ?_ hz H locs ls hP hD hS hl)
  by_cases h : y < x
  · rw [if_pos h]
    have := Int32.lt_iff_toInt_lt.mp h
    omega
  · rw [if_neg h]
    have : ¬ y.toInt < x.toInt := fun q => h (Int32.lt_iff_toInt_lt.mpr q)
    omega
theorem zg_max (X : zX d L kd A nL p s m args c cc own) {index : Nat} {x y : Int32} (hw : Cond.methodLink own index Lib.Math.max.name ∈ zWL ∧ Cond.static Lib.Math.max.name ∈ zWL ∧ Cond.initialized "java/lang/Math" ∈ zWL ∧ Cond.code Lib.Math.max.name Lib.Math.max.code 2 (some .int) ∈ zWL) (hR : 1 ≤ R.frames ∧ (st.map fun v => v.category).sum + 13 ≤ R.locals) (hdg : decode cc pc = .ok (.invokestatic index, 3)) (k : ∀ v : Int32, x.toInt ≤ v.toInt ∧ y.toInt ≤ v.toInt ∧ (v.toInt = x.toInt ∨ v.toInt = y.toInt) → zGc rs cs sl d L kd A nL p l e R s m args below meth c Q σ (pc + 3) lv (.int v :: st)) : zGc rs cs sl d L kd A nL p l e R s m args below meth c Q σ pc lv (.int y :: .int x :: st) := by
  intro hz H locs ls hP hD hS hl
  have U := X.2.2.2.2.1
  refine va_mmax X.1 X.2.1 (by rw [X.2.2.1]; exact hl.1.symm) X.2.2.2.1 (U _ hw.1) (U _ hw.2.1) (U _ hw.2.2.1) (U _ hw.2.2.2) hR.1 hR.2 hz.1 hz.2 hdg (k _ ?_ hz H locs ls hP hD hS hl)
  by_cases h : x < y
  · rw [if_pos h]
    have := Int32.lt_iff_toInt_lt.mp h
    omega
  · rw [if_neg h]
    have : ¬ x.toInt < y.toInt := fun q => h (Int32.lt_iff_toInt_lt.mpr q)
    omega
/-- arraycopy of the first n from one array of whole numbers to another -/
theorem zg_copy (X : zX d L kd A nL p s m args c cc own) {index k k2 n : Nat} {lo hi : Int} {a a2 : Nat} {sp dp nn : Int32} (hw : Cond.methodLink own index arraycopyName ∈ zWL ∧ Cond.native arraycopyName ∈ zWL ∧ Cond.static arraycopyName ∈ zWL ∧ Cond.initialized "java/lang/System" ∈ zWL) (hI : zI κ b L kd σ) (ha : zT L kd a k) (ha2 : zT L kd a2 k2) (hb : zb k = 13) (hb2 : zb k2 = 13) (hr : ∀ j, zr κ k2 j = (lo, hi)) (hn : n ≤ zn k) (hn2 : n ≤ zn k2)
    (hin : ∀ j, ((zr κ k j).1 ≤ (σ.1 a j).toInt ∧ (σ.1 a j).toInt ≤ (zr κ k j).2) → True → lo ≤ (σ.1 a j).toInt ∧ (σ.1 a j).toInt ≤ hi) (h1 : sp.toInt = 0) (h2 : dp.toInt = 0) (h3 : nn.toInt = n) (hR : 1 ≤ R.frames ∧ (st.map fun v => v.category).sum + (nativeFrameWords "java/lang/System" "arraycopy" 5 + 11) ≤ R.locals) (hdg : decode cc pc = .ok (.invokestatic index, 3)) (kk : ∀ σ2 : zS, σ2 = (fun q => if q = a2 then va_cpy (σ.1 a) (σ.1 a2) 0 0 n else σ.1 q, σ.2.1, σ.2.2) → zI κ b L kd σ2 → zGc rs cs sl d L kd A nL p l e R s m args below meth c Q σ2 (pc + 3) lv st) : zGc rs cs sl d L kd A nL p l e R s m args below meth c Q σ pc lv (.int nn :: .int dp :: .ref a2 :: .int sp :: .ref a :: st) := by
  intro hz H locs ls hP hD hS hl
  have U := X.2.2.2.2.1
  obtain ⟨q0, hq⟩ := zR_at (dA := d.2.2) (kd := kd) rs σ ha.1
  obtain ⟨q1, hq1⟩ := zR_at (dA := d.2.2) (kd := kd) rs σ ha2.1
  have hq2 := hq1
  have he : zF d.2.2 kd σ a = .inl (d.2.2 13, zn k, .inl (σ.1 a)) := by rw [← ha.2]; exact zE_i (by rw [ha.2]; exact hb) (Or.inr (Or.inl rfl))
  have he2 : ∀ τ : zS, zF d.2.2 kd τ a2 = .inl (d.2.2 13, zn k2, .inl (τ.1 a2)) := fun τ => by rw [← ha2.2]; exact zE_i (by rw [ha2.2]; exact hb2) (Or.inr (Or.inl rfl))
  rw [he] at hq
  rw [he2] at hq1
  have c0 : ∀ x : Int32, x.toInt = 0 → x.toNatClampNeg = 0 ∧ ¬ x < 0 := fun x hx => by
    have e : x = 0 := Int32.toInt_inj.mp (by rw [hx]; rfl)
    rw [e]
    exact ⟨by decide, by decide⟩
  have cn : nn.toNatClampNeg = n := by
    have e : nn.toNatClampNeg = nn.toInt.toNat := rfl
    rw [e, h3]
    rfl
  have n0 : ¬ nn < 0 := fun q => by
    have q2 := Int32.lt_iff_toInt_lt.mp q
    rw [h3, show (0 : Int32).toInt = 0 from rfl] at q2
    omega
  have hI2 : zI κ b L kd (fun q => if q = a2 then va_cpy (σ.1 a) (σ.1 a2) 0 0 n else σ.1 q, σ.2.1, σ.2.2) := by
    refine ⟨fun a' ha' j' => ?_, hI.2.1, hI.2.2⟩
    show _ ≤ ((if a' = a2 then va_cpy (σ.1 a) (σ.1 a2) 0 0 n else σ.1 a') j').toInt ∧ ((if a' = a2 then va_cpy (σ.1 a) (σ.1 a2) 0 0 n else σ.1 a') j').toInt ≤ _
    split
    · next e =>
      subst e
      rw [ha2.2, hr j']
      unfold va_cpy
      split
      · next hc =>
        rw [show 0 + (j' - 0) = j' by omega]
        have q := hI.1 a ha.1 j'
        rw [ha.2] at q
        exact hin j' q trivial
      · have q := hI.1 _ ha' j'
        rw [ha2.2, hr j'] at q
        exact q
    · exact hI.1 a' ha' j'
  refine va_copyi X.1 X.2.1 (by rw [X.2.2.1]; exact hl.1.symm) X.2.2.2.1 (U _ hw.1) (U _ hw.2.1) (U _ hw.2.2.1) (U _ hw.2.2.2) X.2.2.2.2.2.1 hP hD hS q0 q1 1 1 hq hq1 rfl rfl rfl (c0 _ h1).2 (c0 _ h2).2 n0 (by rw [(c0 _ h1).1, cn]; omega) (by rw [(c0 _ h2).1, cn]; omega) (fun _ _ => rfl) hR.1 hR.2 hdg (fun H1 locs1 hP hD2 hS => ?_)
  rw [(c0 _ h1).1, (c0 _ h2).1, cn] at hP
  refine kk _ rfl hI2 hz H1 locs1 ls ?_ (zR_any hD) hS hl
  rw [zR_set (σ' := (fun q => if q = a2 then va_cpy (σ.1 a) (σ.1 a2) 0 0 n else σ.1 q, σ.2.1, σ.2.2)) hD ha2.1 hq2 (by rw [he2]; simp) (fun q hq => by simp only [zF]; rw [if_neg hq])] at hP
  exact hP
theorem zm_k {f : Nat → Nat → Int32} {a a2 k k2 j j2 : Nat} {x v : Int32} (ha : zT L kd a k) (ha2 : zT L kd a2 k2) (h : k2 ≠ k) (e : v = f a2 j2) : v = zu f a j x a2 j2 := by
  have hn : ¬ a2 = a := fun q => h (by rw [← ha.2, ← ha2.2, q])
  simp [zu, hn, e]
theorem zm_j {f : Nat → Nat → Int32} {a a2 j j2 : Nat} {x v : Int32} (h : j2 ≠ j) (e : v = f a2 j2) : v = zu f a j x a2 j2 := by
  simp only [zu, if_neg h, ite_self]
  exact e
theorem zm_s {f : Nat → Nat → Int32} {a j : Nat} {x : Int32} : x = zu f a j x a j := by simp [zu]
/-- the static row of the laws that are not told -/
theorem zg_unt (X : zX d L kd A nL p s m args c cc own) {index : Nat} (hlink : Cond.fieldLink own index "SourceDispute$Told" "UNTOLD_LAWS" "[I" ∈ zWL) (hdg : decode cc pc = .ok (.getstatic index, 3)) (k : ∀ t : Nat, va_T .int t 5 zunt A s s.heap → zGc rs cs sl d L kd A nL p l e R s m args below meth c Q σ (pc + 3) lv (.ref t :: st)) : zGc rs cs sl d L kd A nL p l e R s m args below meth c Q σ pc lv st := by
  intro hz H locs ls hP hD hS hl
  obtain ⟨hZ, hT, -⟩ := X.2.2.2.2.2.2.2.2.2
  exact va_gets X.1 X.2.1 hZ hS X.2.2.2.1 (X.2.2.2.2.1 _ hlink) (fun _ h => h) hdg (k _ hT hz H locs ls hP hD hS hl)
theorem zg_untA (X : zX d L kd A nL p s m args c cc own) {t : Nat} {i : Int32} (hT : va_T .int t 5 zunt A s s.heap) (h0 : 0 ≤ i.toInt) (h1 : i.toInt < 5) (hdg : decode cc pc = .ok (.iaload, 1)) (k : ∀ v : Int32, v = [0, -1, 1, 4, 2].getD i.toNatClampNeg 0 → zGc rs cs sl d L kd A nL p l e R s m args below meth c Q σ (pc + 1) lv (.int v :: st)) : zGc rs cs sl d L kd A nL p l e R s m args below meth c Q σ pc lv (.int i :: .ref t :: st) := fun hz H locs ls hP hD hS hl => va_ti X.1 X.2.1 hT hS (zb_in h0 h1) rfl hdg (k _ rfl hz H locs ls hP hD hS hl)
theorem zf_0 {b k j k2 : Nat} (h : zf 0 k j = some k2) : zf b k j = some k2 := by
  unfold zf at h ⊢
  split at h
  · next q hq =>
    split at h
    · next c =>
      have c0 : q.2.2.2 = 0 := by omega
      rw [if_pos (Or.inl c0)]
      exact h
    · cases h
  · cases h
theorem zi_weak {L : List Nat} {kd : Nat → Nat} {κ : Int} {b : Nat} {σ : zS} (h : zI κ b L kd σ) : zI κ 0 L kd σ := ⟨h.1, fun a ha j k hk => h.2.1 a ha j k (zf_0 hk), h.2.2⟩
theorem zi_eq {L : List Nat} {kd : Nat → Nat} {κ κ2 : Int} {b : Nat} {σ : zS} (e : κ2 = κ) (h : zI κ2 b L kd σ) : zI κ b L kd σ := e ▸ h
theorem zf_1 {k j k2 : Nat} (h : zf 1 k j = some k2) : zf 0 k j = some k2 ∨ (k = 5 ∧ j = 5 ∧ k2 = 9) ∨ (k = 5 ∧ j = 6 ∧ k2 = 1) := by
  unfold zf at h ⊢
  split at h
  · next q hq =>
    have hm := List.mem_of_find?_eq_some hq
    have hp := List.find?_some hq
    have key : ∀ q ∈ zfl, q.2.2.2 = 1 → (q.1 = 5 ∧ q.2.1 = 5 ∧ q.2.2.1 = 9) ∨ (q.1 = 5 ∧ q.2.1 = 6 ∧ q.2.2.1 = 1) := by decide +kernel
    split at h
    · next c =>
      rcases c with c | c
      · left
        rw [if_pos (Or.inl c)]
        exact h
      · right
        simp only [Bool.and_eq_true, Bool.or_eq_true, beq_iff_eq] at hp
        cases h
        rcases key q hm c with ⟨x1, x2, x3⟩ | ⟨x1, x2, x3⟩
        · exact Or.inl ⟨by omega, by omega, x3⟩
        · exact Or.inr ⟨by omega, by omega, x3⟩
    · cases h
  · cases h
theorem zf_2 {k j k2 : Nat} (h : zf 2 k j = some k2) : zf 0 k j = some k2 ∨ (k = 3 ∧ j = 1 ∧ k2 = 9) := by
  unfold zf at h ⊢
  split at h
  · next q hq =>
    have hm := List.mem_of_find?_eq_some hq
    have hp := List.find?_some hq
    have key : ∀ q ∈ zfl, q.2.2.2 = 2 → (q.1 = 3 ∧ q.2.1 = 1 ∧ q.2.2.1 = 9) := by decide +kernel
    split at h
    · next c =>
      rcases c with c | c
      · left
        rw [if_pos (Or.inl c)]
        exact h
      · right
        simp only [Bool.and_eq_true, Bool.or_eq_true, beq_iff_eq] at hp
        cases h
        obtain ⟨x1, x2, x3⟩ := key q hm c
        exact ⟨by omega, by omega, x3⟩
    · cases h
  · cases h
/-- the river has its text and its course -/
theorem zi_river {L : List Nat} {kd : Nat → Nat} {κ : Int} {σ : zS} {a t c2 : Nat} (h : zI κ 0 L kd σ) (ha : zT L kd a 5) (ht : zT L kd t 9) (hc : zT L kd c2 1) (e1 : σ.2.2 a 5 = some t) (e2 : σ.2.2 a 6 = some c2) : zI κ 1 L kd σ := by
  refine ⟨h.1, fun a' ha' j k hk => ?_, h.2.2⟩
  rcases zf_1 hk with q | ⟨q1, q2, q3⟩ | ⟨q1, q2, q3⟩
  · exact h.2.1 a' ha' j k q
  · have e : a' = a := h.2.2.2.1 a' ha' a ha.1 (by rw [q1, ha.2]) (by omega)
    subst e q2 q3
    exact ⟨t, e1, ht⟩
  · have e : a' = a := h.2.2.2.1 a' ha' a ha.1 (by rw [q1, ha.2]) (by omega)
    subst e q2 q3
    exact ⟨c2, e2, hc⟩
theorem zi_parser {L : List Nat} {kd : Nat → Nat} {κ : Int} {σ : zS} {a t : Nat} (h : zI κ 0 L kd σ) (ha : zT L kd a 3) (ht : zT L kd t 9) (e1 : σ.2.2 a 1 = some t) : zI κ 2 L kd σ := by
  refine ⟨h.1, fun a' ha' j k hk => ?_, h.2.2⟩
  rcases zf_2 hk with q | ⟨q1, q2, q3⟩
  · exact h.2.1 a' ha' j k q
  · have e : a' = a := h.2.2.2.1 a' ha' a ha.1 (by rw [q1, ha.2]) (by omega)
    subst e q2 q3
    exact ⟨t, e1, ht⟩
/-- the tape's size -/
theorem zi_tape {L : List Nat} {kd : Nat → Nat} {κ : Int} {b : Nat} {σ : zS} {a : Nat} {v : Int32} (h : zI κ b L kd σ) (ha : zT L kd a 7) (h0 : 0 ≤ v.toInt) (h1 : v.toInt ≤ 2000) : zI v.toInt b L kd (zu σ.1 a 1 v, σ.2.1, σ.2.2) := by
  refine ⟨fun a' ha' j' => ?_, h.2.1, ⟨h0, h1⟩, h.2.2.2⟩
  show _ ≤ (zu σ.1 a 1 v a' j').toInt ∧ (zu σ.1 a 1 v a' j').toInt ≤ _
  by_cases e : a' = a
  · subst e
    by_cases e2 : j' = 1
    · subst e2
      rw [ha.2, zu_s]
      exact ⟨Int.le_refl _, Int.le_refl _⟩
    · have q := h.1 _ ha' j'
      rw [ha.2] at q ⊢
      have z1 : zr v.toInt 7 j' = (-2147483648, 2147483647) := by
        have e3 : (zrl v.toInt).find? (fun q => q.1 == 7 && (q.2.1 == 9999 || q.2.1 == j')) = none := by
          simp [zrl, List.find?, show (1 == j') = false from by simp; omega]
        simp [zr, e3]
      rw [z1]
      exact zb_rng _
  · rw [zu_n _ _ _ e]
    have q := h.1 a' ha' j'
    have h7 : kd a' ≠ 7 := fun z => e (h.2.2.2.1 a' ha' a ha.1 (by rw [z, ha.2]) (by omega))
    rw [zr_other (κ2 := v.toInt) h7 (h.2.2.2.2 a' ha')] at q
    exact q
end ZMORE
theorem zg_ldcwE {rs : va_W} {cs sl : Nat} {d : zD2} {L : List Nat} {kd : Nat → Nat} {A : Nat → Prop} {nL : Nat} {p : Program} {l : Launch} {e : Env} {R : Room} {s : State} {m : MethodId} {args : Array Value} {below : List Frame} {meth : Method} {c : Code} {cc : ByteArray} {own : String} {Q : State → Prop} {σ : zS} {pc : Nat} {lv : List (Nat × Value)} {st : List Value} (X : zX d L kd A nL p s m args c cc own) {index : Nat} {v : Int32} (hc : Cond.constant own index v ∈ zWL) (hdg : decode cc pc = .ok (.ldc_w index, 3)) (k : ∀ w : Int32, w = v → zGc rs cs sl d L kd A nL p l e R s m args below meth c Q σ (pc + 3) lv (.int w :: st)) : zGc rs cs sl d L kd A nL p l e R s m args below meth c Q σ pc lv st := fun hz H locs ls hP hD hS hl => lv_ldcw X.1 X.2.1 X.2.2.2.1 (X.2.2.2.2.1 _ hc) hdg (k _ rfl hz H locs ls hP hD hS hl)
theorem zg_topi {rs : va_W} {cs sl : Nat} {d : zD2} {L : List Nat} {kd : Nat → Nat} {A : Nat → Prop} {nL : Nat} {p : Program} {l : Launch} {e : Env} {R : Room} {s : State} {m : MethodId} {args : Array Value} {below : List Frame} {meth : Method} {c : Code} {Q : State → Prop} {σ : zS} {pc : Nat} {lv : List (Nat × Value)} {st : List Value} {x : Int32} (k : ∀ v : Int32, v = x → zGc rs cs sl d L kd A nL p l e R s m args below meth c Q σ pc lv (.int v :: st)) : zGc rs cs sl d L kd A nL p l e R s m args below meth c Q σ pc lv (.int x :: st) := k _ rfl
/-- one of the two of an 'and' not below 0: the 'and' is between 0 and it -/
theorem zb_and (x y : Int32) (h : 0 ≤ x.toInt) : 0 ≤ (x &&& y).toInt ∧ (x &&& y).toInt ≤ x.toInt := by
  have hx : x.toBitVec.toNat < 2 ^ 31 := by
    rcases Nat.lt_or_ge x.toBitVec.toNat (2 ^ 31) with q | q
    · exact q
    · have e : x.toInt = x.toBitVec.toInt := rfl
      have h2 := BitVec.isLt x.toBitVec
      rw [e, BitVec.toInt_eq_toNat_cond, if_neg (by omega)] at h
      omega
  have hb : (x &&& y).toBitVec.toNat ≤ x.toBitVec.toNat := by
    rw [Int32.toBitVec_and, BitVec.toNat_and]
    exact Nat.and_le_left
  have e1 : x.toInt = (x.toBitVec.toNat : Int) := by
    show x.toBitVec.toInt = _
    rw [BitVec.toInt_eq_toNat_cond, if_pos (by omega)]
  have e2 : (x &&& y).toInt = ((x &&& y).toBitVec.toNat : Int) := by
    show (x &&& y).toBitVec.toInt = _
    rw [BitVec.toInt_eq_toNat_cond, if_pos (by omega)]
  omega
theorem zb_bit {x : Int32} (h0 : 0 ≤ x.toInt) (h1 : x.toInt ≤ 12) : 1 ≤ ((1 : Int32) <<< (x &&& 31)).toInt ∧ ((1 : Int32) <<< (x &&& 31)).toInt ≤ 4096 := by
  have key : ∀ k : Fin 13, 1 ≤ ((1 : Int32) <<< ((Int32.ofNat k.val) &&& 31)).toInt ∧ ((1 : Int32) <<< ((Int32.ofNat k.val) &&& 31)).toInt ≤ 4096 := by decide +kernel
  have e : x = Int32.ofNat x.toInt.toNat := by
    apply Int32.toInt_inj.mp
    have := nI_toInt (n := x.toInt.toNat) (by omega)
    unfold nI at this
    rw [this]
    omega
  have q := key ⟨x.toInt.toNat, by omega⟩
  rw [← e] at q
  exact q
section ZSTR
variable {rs : va_W} {cs sl : Nat} {κ : Int} {b : Nat} {d : zD2} {L : List Nat} {kd : Nat → Nat} {A : Nat → Prop} {nL : Nat} {p : Program} {l : Launch} {e : Env} {R : Room} {s : State} {m : MethodId} {args : Array Value} {below : List Frame} {meth : Method} {c : Code} {cc : ByteArray} {own : String} {Q : State → Prop} {σ : zS} {pc : Nat} {lv : List (Nat × Value)} {st : List Value}
theorem zg_sval (X : zX d L kd A nL p s m args c cc own) {i index : Nat} (hi : i < 2) (hlink : Cond.fieldLink own index "java/lang/String" "value" "[B" ∈ zWL) (hdg : decode cc pc = .ok (.getfield index, 3)) (k : zGc rs cs sl d L kd A nL p l e R s m args below meth c Q σ (pc + 3) lv (.ref (d.2.2 (102 + i)) :: st)) : zGc rs cs sl d L kd A nL p l e R s m args below meth c Q σ pc lv (.ref (d.2.2 (100 + i)) :: st) := fun hz H locs ls hP hD hS hl =>
  vk_getf X.1 X.2.1 (X.2.2.2.2.2.2.2.2.2.2.2.1.1 i hi).2.2.1 hS X.2.2.2.1 (X.2.2.2.2.1 _ hlink) (fun _ h => h) hdg (k hz H locs ls hP hD hS hl)
theorem zg_scod (X : zX d L kd A nL p s m args c cc own) {i index : Nat} (hi : i < 2) (hlink : Cond.fieldLink own index "java/lang/String" "coder" "B" ∈ zWL) (hdg : decode cc pc = .ok (.getfield index, 3)) (k : ∀ v : Int32, v.toInt = 0 → zGc rs cs sl d L kd A nL p l e R s m args below meth c Q σ (pc + 3) lv (.int v :: st)) : zGc rs cs sl d L kd A nL p l e R s m args below meth c Q σ pc lv (.ref (d.2.2 (100 + i)) :: st) := fun hz H locs ls hP hD hS hl =>
  vk_getf X.1 X.2.1 (X.2.2.2.2.2.2.2.2.2.2.2.1.1 i hi).2.1 hS X.2.2.2.1 (X.2.2.2.2.1 _ hlink) (fun _ h => h) hdg (k 0 rfl hz H locs ls hP hD hS hl)
theorem zlen_lt {i : Nat} (hi : i < 2) : zlen.getD i 0 < 2147483648 := by
  have key : ∀ i, i < 2 → zlen.getD i 0 < 2147483648 := by decide +kernel
  exact key i hi
theorem zg_slen (X : zX d L kd A nL p s m args c cc own) {i : Nat} (hi : i < 2) (hdg : decode cc pc = .ok (.arraylength, 1)) (k : ∀ v : Int32, v.toInt = zlen.getD i 0 → zGc rs cs sl d L kd A nL p l e R s m args below meth c Q σ (pc + 1) lv (.int v :: st)) : zGc rs cs sl d L kd A nL p l e R s m args below meth c Q σ pc lv (.ref (d.2.2 (102 + i)) :: st) := fun hz H locs ls hP hD hS hl =>
  va_tlen X.1 X.2.1 (X.2.2.2.2.2.2.2.2.2.2.2.1.1 i hi).2.2.2 hS rfl hdg (k _ (nI_toInt (zlen_lt hi)) hz H locs ls hP hD hS hl)
theorem zg_sby (X : zX d L kd A nL p s m args c cc own) {i : Nat} {j : Int32} (hi : i < 2) (h0 : 0 ≤ j.toInt) (h1 : j.toInt < zlen.getD i 0) (hdg : decode cc pc = .ok (.baload, 1)) (k : ∀ v : Int32, v = (zbyt.getD i []).getD j.toNatClampNeg 0 → zGc rs cs sl d L kd A nL p l e R s m args below meth c Q σ (pc + 1) lv (.int v :: st)) : zGc rs cs sl d L kd A nL p l e R s m args below meth c Q σ pc lv (.int j :: .ref (d.2.2 (102 + i)) :: st) := fun hz H locs ls hP hD hS hl =>
  va_tb X.1 X.2.1 (X.2.2.2.2.2.2.2.2.2.2.2.1.1 i hi).2.2.2 hS (zb_in h0 h1) rfl hdg (k _ rfl hz H locs ls hP hD hS hl)
theorem zg_scs (X : zX d L kd A nL p s m args c cc own) {index : Nat} (hlink : Cond.fieldLink own index "java/lang/String" "COMPACT_STRINGS" "Z" ∈ zWL) (hdg : decode cc pc = .ok (.getstatic index, 3)) (k : ∀ v : Int32, v.toInt = 1 → zGc rs cs sl d L kd A nL p l e R s m args below meth c Q σ (pc + 3) lv (.int v :: st)) : zGc rs cs sl d L kd A nL p l e R s m args below meth c Q σ pc lv st := fun hz H locs ls hP hD hS hl =>
  va_gets X.1 X.2.1 X.2.2.2.2.2.2.2.2.2.2.2.2.2.1 hS X.2.2.2.1 (X.2.2.2.2.1 _ hlink) (fun _ h => h) hdg (k 1 rfl hz H locs ls hP hD hS hl)
theorem zg_sio (X : zX d L kd A nL p s m args c cc own) {index : Nat} (hlink : Cond.fieldLink own index "jdk/internal/util/Preconditions" "SIOOBE_FORMATTER" "Ljava/util/function/BiFunction;" ∈ zWL) (hdg : decode cc pc = .ok (.getstatic index, 3)) (k : ∀ o : Option Nat, zGc rs cs sl d L kd A nL p l e R s m args below meth c Q σ (pc + 3) lv (va_rf o :: st)) : zGc rs cs sl d L kd A nL p l e R s m args below meth c Q σ pc lv st := fun hz H locs ls hP hD hS hl => by
  rcases X.2.2.2.2.2.2.2.2.2.2.2.2.2.2.1 with hZ | ⟨t, hZ⟩
  · exact va_gets X.1 X.2.1 hZ hS X.2.2.2.1 (X.2.2.2.2.1 _ hlink) (fun _ h => h) hdg (k none hz H locs ls hP hD hS hl)
  · exact va_gets X.1 X.2.1 hZ hS X.2.2.2.1 (X.2.2.2.2.1 _ hlink) (fun _ h => h) hdg (k (some t) hz H locs ls hP hD hS hl)
theorem zg_sldc (X : zX d L kd A nL p s m args c cc RX8) {i index : Nat} (hi : i < 2) (hx : zstrI i = index) (hdg : decode cc pc = .ok (.ldc index, 2)) (k : zGc rs cs sl d L kd A nL p l e R s m args below meth c Q σ (pc + 2) lv (.ref (d.2.2 (100 + i)) :: st)) : zGc rs cs sl d L kd A nL p l e R s m args below meth c Q σ pc lv st := fun hz H locs ls hP hD hS hl => by
  subst hx
  exact va_ldcS X.1 X.2.1 X.2.2.2.1 (X.2.2.2.2.2.2.2.2.2.2.2.2.1 i hi) hdg (k hz H locs ls hP hD hS hl)
theorem zi_recvS (X : zX d L kd A nL p s m args c cc own) {i : Nat} (hi : i < 2) {H : Heap} {locs : List Loc} (hS : va_S A s.heap H locs) : ∃ cell : Cell, H[d.2.2 (100 + i)]? = some cell ∧ cell.vm.isStatics = false ∧ s.vm.findClass "java/lang/String" = some cell.cls := vk_recv (adK := fun i => d.2.2 (100 + i)) (i := i) X.2.2.2.2.2.2.2.2.2.2.2.1 hi hS
end ZSTR
theorem zb_z0 {v : Int32} (h : v.toInt = 0) : v = 0 := Int32.toInt_inj.mp (by rw [h]; rfl)
section ZCALLK
variable {rs : va_W} {cs sl : Nat} {d : zD2} {L : List Nat} {kd : Nat → Nat} {A : Nat → Prop} {nL : Nat} {p : Program} {l : Launch} {e : Env} {R : Room} {s : State} {m : MethodId} {args : Array Value} {below : List Frame} {meth : Method} {c : Code} {cc : ByteArray} {own : String} {Q : State → Prop} {σ : zS} {pc : Nat} {lv : List (Nat × Value)} {st : List Value}
theorem zg_cKi (X : zX d L kd A nL p s m args c cc own) {y : MethodName} {b : ByteArray} {mL n index na : Nat} {rt : FieldType} {As : List Value} {post : Int32 → zS → Prop} {i : Nat} (hi : i < 2) (hcl : y.cls = "java/lang/String") (hM : zMi l y (Cond.code y b mL (some rt) :: zWL) n (.ref (d.2.2 (100 + i)) :: As) d L kd σ post) (hlink : Cond.methodLink own index y ∈ zWL) (hcode : Cond.code y b mL (some rt) ∈ zWL) (hini : Cond.initialized y.cls ∈ zWL) (hinst : Cond.instanceMethod y ∈ zWL) (hsel : Cond.selects "java/lang/String" y y ∈ zWL) (hd : y.cls ≠ "java/lang/invoke/MethodHandle" ∧ y.cls ≠ "java/lang/invoke/VarHandle" ∧ (parseMethodDescriptor y.desc).map (fun q => q.parameters.length) = some na) (hna : As.length = na) (hR : n + 1 ≤ R.frames ∧ 8 + (mL + 11) + 100 * n ≤ R.locals) (hst : (st.map fun v => v.category).sum ≤ 8) (hdg : decode cc pc = .ok (.invokevirtual index, 3)) (k : ∀ (v : Int32) (σ2 : zS), post v σ2 → zGc rs cs sl d L kd A nL p l e R s m args below meth c Q σ2 (pc + 3) lv (.int v :: st)) : zGc rs cs sl d L kd A nL p l e R s m args below meth c Q σ pc lv (As.reverse ++ .ref (d.2.2 (100 + i)) :: st) := by
  intro hz H locs ls hP hD hS hl
  have hsig : ∀ sig, parseMethodDescriptor y.desc = some sig → As.length = sig.parameters.length := fun sig h => by
    have h2 := hd.2.2
    rw [h, ← hna] at h2
    exact (Option.some.inj h2).symm
  have hF := zA_sub (zD_suf hD) hS X.2.2.2.2.2.2.2.2.1
  refine va_calli (va_runV (As := As) (rest := st) (n := As.length) ⟨X.1, X.2.1, X.2.2.1, X.2.2.2.1, X.2.2.2.2.1⟩ (hM H.size) ⟨⟨rfl, rfl, hR.1, hR.2, zpay X.2.2.2.2.1 hcode, List.mem_cons_self, (X.2.2.2.2.1 _ hcode), (X.2.2.2.2.1 _ hini), ⟨hd.1, hd.2.1⟩, hsig, (X.2.2.2.2.1 _ hlink)⟩, (X.2.2.2.2.1 _ hinst), (X.2.2.2.2.1 _ hsel)⟩ ⟨zblind, zi_recvS X hi hS, fun U hU hW => ⟨rfl, by rw [hU], ⟨by rw [hU]; exact zP_suf hP, va_K.moved hW.alike X.2.2.2.2.2.1⟩, zN.warm hW X.2.2.2.2.2.2.1, (zD_suf hD).weaken (fun _ _ _ _ => trivial), by rw [hU]; exact ((X.2.2.2.2.2.2.2.2.2.kept hS.2.1).narrow hF).warm hW⟩⟩ rfl rfl hl.1 rfl (lv_room hst) hdg ⟨hz.1, hz.2⟩) hS (fun q _ h => hF q h) hF (fun v σ2 t H1 locs ht hvm hw hB hz1 hk1 hS => ?_)
  obtain ⟨⟨hP1, hK1⟩, hD1⟩ := hB
  rw [ht] at hP1
  exact k v σ2 hw hz H1 locs ls (zR_back hP hD hk1 hP1) (zR_any hD) hS hl
end ZCALLK
theorem zt1 {w : Cond} (h : w ∈ tables_1_1) : w ∈ tables_1 := List.mem_append_left _ h
theorem zw1 {w : Cond} (h : w ∈ tables_1_1) (hg : goodWord w = true) : w ∈ zWL := List.mem_append_left _ (List.mem_filter.mpr ⟨zt1 h, hg⟩)
theorem zt2 {w : Cond} (h : w ∈ tables_1_2) : w ∈ tables_1 := List.mem_append_right _ (List.mem_append_left _ h)
theorem zw2 {w : Cond} (h : w ∈ tables_1_2) (hg : goodWord w = true) : w ∈ zWL := List.mem_append_left _ (List.mem_filter.mpr ⟨zt2 h, hg⟩)
theorem zt3 {w : Cond} (h : w ∈ tables_1_3) : w ∈ tables_1 := List.mem_append_right _ (List.mem_append_right _ (List.mem_append_left _ h))
theorem zw3 {w : Cond} (h : w ∈ tables_1_3) (hg : goodWord w = true) : w ∈ zWL := List.mem_append_left _ (List.mem_filter.mpr ⟨zt3 h, hg⟩)
theorem zt4 {w : Cond} (h : w ∈ tables_1_4) : w ∈ tables_1 := List.mem_append_right _ (List.mem_append_right _ (List.mem_append_right _ (List.mem_append_left _ h)))
theorem zw4 {w : Cond} (h : w ∈ tables_1_4) (hg : goodWord w = true) : w ∈ zWL := List.mem_append_left _ (List.mem_filter.mpr ⟨zt4 h, hg⟩)
theorem zt5 {w : Cond} (h : w ∈ tables_1_5) : w ∈ tables_1 := List.mem_append_right _ (List.mem_append_right _ (List.mem_append_right _ (List.mem_append_right _ (List.mem_append_left _ h))))
theorem zw5 {w : Cond} (h : w ∈ tables_1_5) (hg : goodWord w = true) : w ∈ zWL := List.mem_append_left _ (List.mem_filter.mpr ⟨zt5 h, hg⟩)
theorem zt6 {w : Cond} (h : w ∈ tables_1_6) : w ∈ tables_1 := List.mem_append_right _ (List.mem_append_right _ (List.mem_append_right _ (List.mem_append_right _ (List.mem_append_right _ (List.mem_append_left _ h)))))
theorem zw6 {w : Cond} (h : w ∈ tables_1_6) (hg : goodWord w = true) : w ∈ zWL := List.mem_append_left _ (List.mem_filter.mpr ⟨zt6 h, hg⟩)
theorem zt7 {w : Cond} (h : w ∈ tables_1_7) : w ∈ tables_1 := List.mem_append_right _ (List.mem_append_right _ (List.mem_append_right _ (List.mem_append_right _ (List.mem_append_right _ (List.mem_append_right _ (List.mem_append_left _ h))))))
theorem zw7 {w : Cond} (h : w ∈ tables_1_7) (hg : goodWord w = true) : w ∈ zWL := List.mem_append_left _ (List.mem_filter.mpr ⟨zt7 h, hg⟩)
theorem zt8 {w : Cond} (h : w ∈ tables_1_8) : w ∈ tables_1 := List.mem_append_right _ (List.mem_append_right _ (List.mem_append_right _ (List.mem_append_right _ (List.mem_append_right _ (List.mem_append_right _ (List.mem_append_right _ (h)))))))
theorem zw8 {w : Cond} (h : w ∈ tables_1_8) (hg : goodWord w = true) : w ∈ zWL := List.mem_append_left _ (List.mem_filter.mpr ⟨zt8 h, hg⟩)
end
-- 08f.fun1
section
set_option maxRecDepth 100000 in
noncomputable def F_X10_isWithin (p1 : Int32) (p2 : Int32) (p3 : Int32) : Int32 :=
  if p1.toInt < p2.toInt then
    zLet ((0 : Int32)) fun v4 =>
    v4
  else
    if p3.toInt < p1.toInt then
      zLet ((0 : Int32)) fun v8 =>
      v8
    else
      zLet ((1 : Int32)) fun v9 =>
      v9
set_option maxRecDepth 100000 in
noncomputable def F_X10_bit (p1 : Int32) : Int32 :=
  zLet ((1 : Int32)) fun v1 =>
  zLet (v1 <<< (p1 &&& 31)) fun v2 =>
  v2
set_option maxRecDepth 100000 in
noncomputable def F_X10_has (p1 : Int32) (p2 : Int32) : Int32 :=
  zLet (F_X10_bit p2) fun v1 =>
  zLet (p1 &&& v1) fun v2 =>
  if v2.toInt = 0 then
    zLet ((0 : Int32)) fun v4 =>
    v4
  else
    zLet ((1 : Int32)) fun v5 =>
    v5
set_option maxRecDepth 100000 in
noncomputable def F_X10_held (p1 : Int32) (p2 : Int32) (p3 : Int32) : Int32 :=
  zLet (if p3.toInt ≤ p1.toInt then p3 else p1) fun v1 =>
  zLet (if p2.toInt ≤ v1.toInt then v1 else p2) fun v2 =>
  v2
set_option maxRecDepth 100000 in
noncomputable def F_X10_bitAt_4 (p1 : Int32) (p2 : Int32)  : Nat → Int32 → Int32 → Int32
  | 0, _, _ => 0
  | n + 1, x3, x4 =>
    zLet ((12 : Int32)) fun v6 =>
    if x3.toInt < v6.toInt then
      zLet (F_X10_has p1 x3) fun v9 =>
      if v9.toInt = 0 then
        zLet (x3 + (1 : Int32)) fun v11 =>
        F_X10_bitAt_4 p1 p2  n v11 x4
      else
        if x4.toInt = p2.toInt then
          x3
        else
          zLet (x4 + (1 : Int32)) fun v13 =>
          zLet (x3 + (1 : Int32)) fun v14 =>
          F_X10_bitAt_4 p1 p2  n v14 v13
    else
      zLet ((-1 : Int32)) fun v8 =>
      v8
set_option maxRecDepth 100000 in
noncomputable def F_X10_bitAt (p1 : Int32) (p2 : Int32) : Int32 :=
  zLet ((0 : Int32)) fun v1 =>
  zLet ((0 : Int32)) fun v2 =>
  F_X10_bitAt_4 p1 p2  10000 v2 v1
set_option maxRecDepth 100000 in
noncomputable def F_X9_addStep (a0 : Nat) (p1 : Int32) (p2 : Int32) (σ : zS) : zS :=
  zLet (σ.1 a0 8) fun v1 =>
  zLet ((420 : Int32)) fun v2 =>
  if v1.toInt < v2.toInt then
    zLet ((σ.2.2 a0 6).getD 0) fun v4 =>
    zLet (σ.1 a0 8) fun v5 =>
    zLet ((zu σ.1 v4 v5.toNatClampNeg p1, σ.2.1, σ.2.2)) fun s6 =>
    zLet ((s6.2.2 a0 7).getD 0) fun v8 =>
    zLet (s6.1 a0 8) fun v9 =>
    zLet ((zu s6.1 v8 v9.toNatClampNeg p2, s6.2.1, s6.2.2)) fun s10 =>
    zLet (s10.1 a0 8) fun v12 =>
    zLet ((1 : Int32)) fun v13 =>
    zLet (v12 + v13) fun v14 =>
    zLet ((zu s10.1 a0 8 v14, s10.2.1, s10.2.2)) fun s15 =>
    s15
  else
    σ
set_option maxRecDepth 100000 in
noncomputable def F_X9_setValue (a0 : Nat) (p1 : Int32) (p2 : Int32) (σ : zS) : zS :=
  if p1.toInt < 0 then
    σ
  else
    zLet (σ.1 a0 8) fun v2 =>
    if p1.toInt < v2.toInt then
      zLet ((σ.2.2 a0 7).getD 0) fun v5 =>
      zLet ((zu σ.1 v5 p1.toNatClampNeg p2, σ.2.1, σ.2.2)) fun s6 =>
      s6
    else
      σ
set_option maxRecDepth 100000 in
noncomputable def F_X9_setPlace (a0 : Nat) (p1 : Int32) (p2 : Int32) (p3 : Int32) (p4 : Int32) (p5 : Int32) (σ : zS) : zS :=
  if p1.toInt < 0 then
    σ
  else
    zLet ((12 : Int32)) fun v2 =>
    if p1.toInt < v2.toInt then
      zLet ((σ.2.2 a0 2).getD 0) fun v5 =>
      zLet ((zu σ.1 v5 p1.toNatClampNeg p2, σ.2.1, σ.2.2)) fun s6 =>
      zLet ((s6.2.2 a0 3).getD 0) fun v7 =>
      zLet ((zu s6.1 v7 p1.toNatClampNeg p3, s6.2.1, s6.2.2)) fun s8 =>
      zLet ((s8.2.2 a0 4).getD 0) fun v9 =>
      zLet ((zu s8.1 v9 p1.toNatClampNeg p4, s8.2.1, s8.2.2)) fun s10 =>
      zLet ((s10.2.2 a0 5).getD 0) fun v11 =>
      zLet ((zu s10.1 v11 p1.toNatClampNeg p5, s10.2.1, s10.2.2)) fun s12 =>
      s12
    else
      σ
set_option maxRecDepth 100000 in
noncomputable def F_X9_stirred (p1 : Int32) (p2 : Int32) : Int32 :=
  zLet (p1 ^^^ p2) fun v1 =>
  zLet ((1103515245 : Int32)) fun v2 =>
  zLet (v1 * v2) fun v3 =>
  zLet ((12345 : Int32)) fun v4 =>
  zLet (v3 + v4) fun v5 =>
  zLet ((15 : Int32)) fun v6 =>
  zLet ((v5.toUInt32 >>> (v6.toUInt32 &&& Int32.toUInt32 31)).toInt32) fun v7 =>
  zLet (v5 ^^^ v7) fun v8 =>
  v8
set_option maxRecDepth 100000 in
noncomputable def F_X9_lot (p1 : Int32) (p2 : Int32) (p3 : Int32) : Int32 :=
  zLet ((147 : Int32)) fun v1 =>
  zLet (F_X9_stirred p2 v1) fun v2 =>
  zLet (F_X9_stirred v2 p3) fun v3 =>
  zLet ((1 : Int32)) fun v4 =>
  zLet ((v3.toUInt32 >>> (v4.toUInt32 &&& Int32.toUInt32 31)).toInt32) fun v5 =>
  zLet ((1 : Int32)) fun v6 =>
  zLet (if v6.toInt ≤ p1.toInt then p1 else v6) fun v7 =>
  zLet (v5 - v5 / v7 * v7) fun v8 =>
  v8
set_option maxRecDepth 100000 in
noncomputable def F_X9_isStorm (a0 : Nat) (p1 : Int32) (p2 : Int32) (σ : zS) : Int32 × zS :=
  zLet ((100 : Int32)) fun v1 =>
  zLet ((4 : Int32)) fun v2 =>
  zLet (v2 * p2) fun v3 =>
  zLet (F_X9_lot v1 p1 v3) fun v4 =>
  zLet (σ.1 a0 10) fun v5 =>
  if v4.toInt < v5.toInt then
    zLet ((1 : Int32)) fun v10 =>
    (v10, σ)
  else
    zLet ((0 : Int32)) fun v9 =>
    (v9, σ)
set_option maxRecDepth 100000 in
noncomputable def F_X1_moon (a0 : Nat) (σ : zS) : Int32 × zS :=
  zLet (σ.1 a0 4) fun v1 =>
  zLet ((12 : Int32)) fun v2 =>
  zLet (v1 - v1 / v2 * v2) fun v3 =>
  (v3, σ)
set_option maxRecDepth 100000 in
noncomputable def F_X1_comesBy_5 (a0 : Nat) (p1 : Int32) (p2 : Int32)  : Nat → Int32 → Int32 → zS → Int32 × zS
  | 0, _, _, s => (0, s)
  | n + 1, x2, x3, τ4 =>
    zLet ((12 : Int32)) fun v5 =>
    if x2.toInt < v5.toInt then
      if x3.toInt = p2.toInt then
        if x3.toInt = p2.toInt then
          zLet ((1 : Int32)) fun v13 =>
          (v13, τ4)
        else
          zLet ((0 : Int32)) fun v12 =>
          (v12, τ4)
      else
        if x3.toInt = 0 then
          if x3.toInt = p2.toInt then
            zLet ((1 : Int32)) fun v17 =>
            (v17, τ4)
          else
            zLet ((0 : Int32)) fun v16 =>
            (v16, τ4)
        else
          zLet ((τ4.2.2 a0 0).getD 0) fun v18 =>
          zLet (τ4.1 v18 x3.toNatClampNeg) fun v19 =>
          zLet (x2 + (1 : Int32)) fun v20 =>
          F_X1_comesBy_5 a0 p1 p2  n v20 v19 τ4
    else
      if x3.toInt = p2.toInt then
        zLet ((1 : Int32)) fun v9 =>
        (v9, τ4)
      else
        zLet ((0 : Int32)) fun v8 =>
        (v8, τ4)
set_option maxRecDepth 100000 in
noncomputable def F_X1_comesBy (a0 : Nat) (p1 : Int32) (p2 : Int32) (σ : zS) : Int32 × zS :=
  zLet ((0 : Int32)) fun v1 =>
  F_X1_comesBy_5 a0 p1 p2  10000 v1 p1 σ
set_option maxRecDepth 100000 in
noncomputable def F_X1_copy (a0 : Nat) (p1 : Nat) (σ : zS) : zS :=
  zLet ((σ.2.2 p1 0).getD 0) fun v1 =>
  zLet ((0 : Int32)) fun v2 =>
  zLet ((σ.2.2 a0 0).getD 0) fun v3 =>
  zLet ((0 : Int32)) fun v4 =>
  zLet ((12 : Int32)) fun v5 =>
  zLet (zcpy σ v1 v3 12) fun s6 =>
  zLet ((s6.2.2 p1 1).getD 0) fun v7 =>
  zLet ((0 : Int32)) fun v8 =>
  zLet ((s6.2.2 a0 1).getD 0) fun v9 =>
  zLet ((0 : Int32)) fun v10 =>
  zLet ((12 : Int32)) fun v11 =>
  zLet (zcpy s6 v7 v9 12) fun s12 =>
  zLet ((s12.2.2 p1 2).getD 0) fun v13 =>
  zLet ((0 : Int32)) fun v14 =>
  zLet ((s12.2.2 a0 2).getD 0) fun v15 =>
  zLet ((0 : Int32)) fun v16 =>
  zLet ((12 : Int32)) fun v17 =>
  zLet (zcpy s12 v13 v15 12) fun s18 =>
  zLet (s18.1 p1 3) fun v19 =>
  zLet ((zu s18.1 a0 3 v19, s18.2.1, s18.2.2)) fun s20 =>
  zLet (s20.1 p1 4) fun v21 =>
  zLet ((zu s20.1 a0 4 v21, s20.2.1, s20.2.2)) fun s22 =>
  zLet (s22.1 p1 5) fun v23 =>
  zLet ((zu s22.1 a0 5 v23, s22.2.1, s22.2.2)) fun s24 =>
  s24
set_option maxRecDepth 100000 in
noncomputable def F_X1_pay (a0 : Nat) (p1 : Int32) (p2 : Int32) (σ : zS) : zS :=
  zLet ((σ.2.2 a0 2).getD 0) fun v1 =>
  zLet (σ.1 v1 p1.toNatClampNeg) fun v2 =>
  zLet (v2 + p2) fun v3 =>
  zLet ((zu σ.1 v1 p1.toNatClampNeg v3, σ.2.1, σ.2.2)) fun s4 =>
  zLet ((s4.2.2 a0 1).getD 0) fun v5 =>
  zLet ((999 : Int32)) fun v6 =>
  zLet ((s4.2.2 a0 1).getD 0) fun v7 =>
  zLet (s4.1 v7 p1.toNatClampNeg) fun v8 =>
  zLet ((1 : Int32)) fun v9 =>
  zLet (v8 + v9) fun v10 =>
  zLet (if v6.toInt ≤ v10.toInt then v6 else v10) fun v11 =>
  zLet ((zu s4.1 v5 p1.toNatClampNeg v11, s4.2.1, s4.2.2)) fun s12 =>
  s12
set_option maxRecDepth 100000 in
noncomputable def F_X4_push (a0 : Nat) (p1 : Nat) (σ : zS) : zS :=
  zLet ((σ.2.2 a0 0).getD 0) fun v1 =>
  zLet (σ.1 a0 1) fun v2 =>
  zLet ((σ.2.2 v1 v2.toNatClampNeg).getD 0) fun v3 =>
  zLet (F_X1_copy v3 p1 σ) fun s4 =>
  zLet (s4.1 a0 1) fun v5 =>
  zLet ((1 : Int32)) fun v6 =>
  zLet (v5 + v6) fun v7 =>
  zLet ((40 : Int32)) fun v8 =>
  zLet (v7 - v7 / v8 * v8) fun v9 =>
  zLet ((zu s4.1 a0 1 v9, s4.2.1, s4.2.2)) fun s10 =>
  zLet ((40 : Int32)) fun v13 =>
  zLet (s10.1 a0 2) fun v14 =>
  zLet ((1 : Int32)) fun v15 =>
  zLet (v14 + v15) fun v16 =>
  zLet (if v13.toInt ≤ v16.toInt then v13 else v16) fun v17 =>
  zLet ((zu s10.1 a0 2 v17, s10.2.1, s10.2.2)) fun s18 =>
  s18
set_option maxRecDepth 100000 in
noncomputable def F_X4_pop (a0 : Nat) (p1 : Nat) (σ : zS) : Int32 × zS :=
  zLet (σ.1 a0 2) fun v1 =>
  if v1.toInt = 0 then
    zLet ((0 : Int32)) fun v26 =>
    (v26, σ)
  else
    zLet (σ.1 a0 1) fun v3 =>
    zLet ((40 : Int32)) fun v4 =>
    zLet (v3 + v4) fun v5 =>
    zLet ((1 : Int32)) fun v6 =>
    zLet (v5 - v6) fun v7 =>
    zLet ((40 : Int32)) fun v8 =>
    zLet (v7 - v7 / v8 * v8) fun v9 =>
    zLet ((zu σ.1 a0 1 v9, σ.2.1, σ.2.2)) fun s10 =>
    zLet (s10.1 a0 2) fun v14 =>
    zLet ((1 : Int32)) fun v15 =>
    zLet (v14 - v15) fun v16 =>
    zLet ((zu s10.1 a0 2 v16, s10.2.1, s10.2.2)) fun s17 =>
    zLet ((s17.2.2 a0 0).getD 0) fun v21 =>
    zLet (s17.1 a0 1) fun v22 =>
    zLet ((s17.2.2 v21 v22.toNatClampNeg).getD 0) fun v23 =>
    zLet (F_X1_copy p1 v23 s17) fun s24 =>
    zLet ((1 : Int32)) fun v25 =>
    (v25, s24)
set_option maxRecDepth 100000 in
noncomputable def F_X0_answer_13 (a0 : Nat) (p1 : Nat) (p2 : Int32)  : Nat → Int32 → Int32 → Int32 → zS → Int32 × zS
  | 0, _, _, _, s => (0, s)
  | n + 1, x5, x6, x7, τ8 =>
    zLet ((420 : Int32)) fun v9 =>
    if x5.toInt < v9.toInt then
      if x6.toInt < 0 then
        zLet ((0 : Int32)) fun v13 =>
        (v13, τ8)
      else
        zLet (τ8.1 p1 8) fun v14 =>
        if x6.toInt < v14.toInt then
          zLet ((τ8.2.2 p1 6).getD 0) fun v18 =>
          zLet (τ8.1 v18 x6.toNatClampNeg) fun v19 =>
          zLet ((τ8.2.2 p1 7).getD 0) fun v20 =>
          zLet (τ8.1 v20 x6.toNatClampNeg) fun v21 =>
          zLet (x6 + (1 : Int32)) fun v22 =>
          zLet ((7 : Int32)) fun v23 =>
          if v19.toInt = v23.toInt then
            if 0 < x7.toInt then
              zLet ((τ8.2.2 a0 1).getD 0) fun v109 =>
              zLet ((1 : Int32)) fun v110 =>
              zLet (x7 - v110) fun v111 =>
              zLet (τ8.1 v109 v111.toNatClampNeg) fun v112 =>
              (v112, τ8)
            else
              zLet ((0 : Int32)) fun v108 =>
              (v108, τ8)
          else
            if v19.toInt = 0 then
              zLet ((32 : Int32)) fun v26 =>
              if x7.toInt < v26.toInt then
                if v21.toInt < 0 then
                  zLet ((0 : Int32)) fun v30 =>
                  (v30, τ8)
                else
                  zLet ((1 : Int32)) fun v31 =>
                  if v19.toInt = v31.toInt then
                    (0, τ8)
                  else
                    zLet ((τ8.2.2 a0 1).getD 0) fun v33 =>
                    if v19.toInt = 0 then
                      zLet ((zu τ8.1 v33 x7.toNatClampNeg v21, τ8.2.1, τ8.2.2)) fun s35 =>
                      zLet (x7 + (1 : Int32)) fun v36 =>
                      zLet (x5 + (1 : Int32)) fun v37 =>
                      F_X0_answer_13 a0 p1 p2  n v37 v22 v36 s35
                    else
                      (0, τ8)
              else
                zLet ((0 : Int32)) fun v28 =>
                (v28, τ8)
            else
              zLet ((1 : Int32)) fun v38 =>
              if v19.toInt = v38.toInt then
                zLet ((32 : Int32)) fun v89 =>
                if x7.toInt < v89.toInt then
                  if v21.toInt < 0 then
                    zLet ((0 : Int32)) fun v93 =>
                    (v93, τ8)
                  else
                    zLet ((1 : Int32)) fun v94 =>
                    if v19.toInt = v94.toInt then
                      zLet ((9 : Int32)) fun v96 =>
                      if v21.toInt < v96.toInt then
                        zLet ((τ8.2.2 a0 1).getD 0) fun v99 =>
                        if v19.toInt = 0 then
                          (0, τ8)
                        else
                          zLet ((τ8.2.2 a0 0).getD 0) fun v101 =>
                          zLet (τ8.1 v101 v21.toNatClampNeg) fun v102 =>
                          zLet ((zu τ8.1 v99 x7.toNatClampNeg v102, τ8.2.1, τ8.2.2)) fun s103 =>
                          zLet (x7 + (1 : Int32)) fun v104 =>
                          zLet (x5 + (1 : Int32)) fun v105 =>
                          F_X0_answer_13 a0 p1 p2  n v105 v22 v104 s103
                      else
                        zLet ((0 : Int32)) fun v106 =>
                        (v106, τ8)
                    else
                      (0, τ8)
                else
                  zLet ((0 : Int32)) fun v91 =>
                  (v91, τ8)
              else
                zLet ((2 : Int32)) fun v40 =>
                if x7.toInt < v40.toInt then
                  zLet ((0 : Int32)) fun v88 =>
                  (v88, τ8)
                else
                  zLet (x7 + (-1 : Int32)) fun v42 =>
                  zLet ((τ8.2.2 a0 1).getD 0) fun v43 =>
                  zLet (τ8.1 v43 v42.toNatClampNeg) fun v44 =>
                  zLet ((τ8.2.2 a0 1).getD 0) fun v45 =>
                  zLet ((1 : Int32)) fun v46 =>
                  zLet (v42 - v46) fun v47 =>
                  zLet (τ8.1 v45 v47.toNatClampNeg) fun v48 =>
                  if v19.toInt = 2 then
                    zLet ((τ8.2.2 a0 1).getD 0) fun v50 =>
                    zLet ((1 : Int32)) fun v51 =>
                    zLet (v42 - v51) fun v52 =>
                    zLet (v48 + v44) fun v53 =>
                    zLet ((zu τ8.1 v50 v52.toNatClampNeg v53, τ8.2.1, τ8.2.2)) fun s54 =>
                    zLet (x5 + (1 : Int32)) fun v55 =>
                    F_X0_answer_13 a0 p1 p2  n v55 v22 v42 s54
                  else
                    if v19.toInt = 3 then
                      zLet ((τ8.2.2 a0 1).getD 0) fun v57 =>
                      zLet ((1 : Int32)) fun v58 =>
                      zLet (v42 - v58) fun v59 =>
                      zLet (v48 - v44) fun v60 =>
                      zLet ((zu τ8.1 v57 v59.toNatClampNeg v60, τ8.2.1, τ8.2.2)) fun s61 =>
                      zLet (x5 + (1 : Int32)) fun v62 =>
                      F_X0_answer_13 a0 p1 p2  n v62 v22 v42 s61
                    else
                      if v19.toInt = 4 then
                        zLet ((τ8.2.2 a0 1).getD 0) fun v64 =>
                        zLet ((1 : Int32)) fun v65 =>
                        zLet (v42 - v65) fun v66 =>
                        zLet (v48 * v44) fun v67 =>
                        zLet ((zu τ8.1 v64 v66.toNatClampNeg v67, τ8.2.1, τ8.2.2)) fun s68 =>
                        zLet (x5 + (1 : Int32)) fun v69 =>
                        F_X0_answer_13 a0 p1 p2  n v69 v22 v42 s68
                      else
                        if v19.toInt = 5 then
                          if v44.toInt = 0 then
                            zLet ((0 : Int32)) fun v78 =>
                            (v78, τ8)
                          else
                            zLet ((τ8.2.2 a0 1).getD 0) fun v72 =>
                            zLet ((1 : Int32)) fun v73 =>
                            zLet (v42 - v73) fun v74 =>
                            zLet (v48 / v44) fun v75 =>
                            zLet ((zu τ8.1 v72 v74.toNatClampNeg v75, τ8.2.1, τ8.2.2)) fun s76 =>
                            zLet (x5 + (1 : Int32)) fun v77 =>
                            F_X0_answer_13 a0 p1 p2  n v77 v22 v42 s76
                        else
                          zLet (v42 + (-1 : Int32)) fun v79 =>
                          if v48.toInt < v44.toInt then
                            zLet (x5 + (1 : Int32)) fun v83 =>
                            F_X0_answer_13 a0 p1 p2  n v83 v22 v79 τ8
                          else
                            if v22.toInt < v21.toInt then
                              zLet (x5 + (1 : Int32)) fun v87 =>
                              F_X0_answer_13 a0 p1 p2  n v87 v21 v79 τ8
                            else
                              zLet (x5 + (1 : Int32)) fun v86 =>
                              F_X0_answer_13 a0 p1 p2  n v86 v22 v79 τ8
        else
          zLet ((0 : Int32)) fun v17 =>
          (v17, τ8)
    else
      zLet ((0 : Int32)) fun v11 =>
      (v11, τ8)
set_option maxRecDepth 100000 in
noncomputable def F_X0_answer (a0 : Nat) (p1 : Nat) (p2 : Int32) (σ : zS) : Int32 × zS :=
  zLet ((0 : Int32)) fun v1 =>
  zLet ((σ.2.2 p1 9).getD 0) fun v2 =>
  zLet (σ.1 v2 p2.toNatClampNeg) fun v3 =>
  zLet ((0 : Int32)) fun v4 =>
  F_X0_answer_13 a0 p1 p2  10000 v4 v3 v1 σ
set_option maxRecDepth 100000 in
noncomputable def F_J6_bitCount_0f7a4 (p1 : Int32) : Int32 :=
  zLet ((1 : Int32)) fun v1 =>
  zLet ((p1.toUInt32 >>> (v1.toUInt32 &&& Int32.toUInt32 31)).toInt32) fun v2 =>
  zLet ((1431655765 : Int32)) fun v3 =>
  zLet (v2 &&& v3) fun v4 =>
  zLet (p1 - v4) fun v5 =>
  zLet ((858993459 : Int32)) fun v6 =>
  zLet (v5 &&& v6) fun v7 =>
  zLet ((2 : Int32)) fun v8 =>
  zLet ((v5.toUInt32 >>> (v8.toUInt32 &&& Int32.toUInt32 31)).toInt32) fun v9 =>
  zLet ((858993459 : Int32)) fun v10 =>
  zLet (v9 &&& v10) fun v11 =>
  zLet (v7 + v11) fun v12 =>
  zLet ((4 : Int32)) fun v13 =>
  zLet ((v12.toUInt32 >>> (v13.toUInt32 &&& Int32.toUInt32 31)).toInt32) fun v14 =>
  zLet (v12 + v14) fun v15 =>
  zLet ((252645135 : Int32)) fun v16 =>
  zLet (v15 &&& v16) fun v17 =>
  zLet ((8 : Int32)) fun v18 =>
  zLet ((v17.toUInt32 >>> (v18.toUInt32 &&& Int32.toUInt32 31)).toInt32) fun v19 =>
  zLet (v17 + v19) fun v20 =>
  zLet ((16 : Int32)) fun v21 =>
  zLet ((v20.toUInt32 >>> (v21.toUInt32 &&& Int32.toUInt32 31)).toInt32) fun v22 =>
  zLet (v20 + v22) fun v23 =>
  zLet ((63 : Int32)) fun v24 =>
  zLet (v23 &&& v24) fun v25 =>
  v25
set_option maxRecDepth 100000 in
noncomputable def F_X9_clear_12 (a0 : Nat)  : Nat → Int32 → zS → zS
  | 0, _, s => s
  | n + 1, x6, τ7 =>
    zLet ((5 : Int32)) fun v8 =>
    if x6.toInt < v8.toInt then
      zLet (([0, -1, 1, 4, 2] : List Int32).getD x6.toNatClampNeg 0) fun v19 =>
      zLet ((τ7.2.2 a0 9).getD 0) fun v20 =>
      zLet (τ7.1 a0 8) fun v21 =>
      zLet ((zu τ7.1 v20 x6.toNatClampNeg v21, τ7.2.1, τ7.2.2)) fun s22 =>
      zLet ((-1 : Int32)) fun v23 =>
      if v19.toInt = v23.toInt then
        zLet ((0 : Int32)) fun v39 =>
        zLet ((-1 : Int32)) fun v40 =>
        if v19.toInt = v40.toInt then
          zLet ((0 : Int32)) fun v42 =>
          zLet (F_X9_addStep a0 v39 v42 s22) fun s43 =>
          zLet ((7 : Int32)) fun v44 =>
          zLet ((0 : Int32)) fun v45 =>
          zLet (F_X9_addStep a0 v44 v45 s43) fun s46 =>
          zLet (x6 + (1 : Int32)) fun v47 =>
          F_X9_clear_12 a0  n v47 s46
        else
          s22
      else
        zLet ((1 : Int32)) fun v25 =>
        zLet ((-1 : Int32)) fun v26 =>
        if v19.toInt = v26.toInt then
          zLet ((0 : Int32)) fun v33 =>
          zLet (F_X9_addStep a0 v25 v33 s22) fun s34 =>
          zLet ((7 : Int32)) fun v35 =>
          zLet ((0 : Int32)) fun v36 =>
          zLet (F_X9_addStep a0 v35 v36 s34) fun s37 =>
          zLet (x6 + (1 : Int32)) fun v38 =>
          F_X9_clear_12 a0  n v38 s37
        else
          zLet (F_X9_addStep a0 v25 v19 s22) fun s28 =>
          zLet ((7 : Int32)) fun v29 =>
          zLet ((0 : Int32)) fun v30 =>
          zLet (F_X9_addStep a0 v29 v30 s28) fun s31 =>
          zLet (x6 + (1 : Int32)) fun v32 =>
          F_X9_clear_12 a0  n v32 s31
    else
      zLet ((0 : Int32)) fun v10 =>
      zLet ((zu τ7.1 a0 10 v10, τ7.2.1, τ7.2.2)) fun s11 =>
      zLet ((0 : Int32)) fun v12 =>
      zLet ((zu s11.1 a0 11 v12, s11.2.1, s11.2.2)) fun s13 =>
      zLet ((1 : Int32)) fun v14 =>
      zLet ((zu s13.1 a0 12 v14, s13.2.1, s13.2.2)) fun s15 =>
      zLet ((0 : Int32)) fun v16 =>
      zLet ((zu s15.1 a0 13 v16, s15.2.1, s15.2.2)) fun s17 =>
      s17
set_option maxRecDepth 100000 in
noncomputable def F_X9_clear (a0 : Nat) (σ : zS) : zS :=
  zLet ((0 : Int32)) fun v1 =>
  zLet ((zu σ.1 a0 0 v1, σ.2.1, σ.2.2)) fun s2 =>
  zLet ((0 : Int32)) fun v3 =>
  zLet ((zu s2.1 a0 8 v3, s2.2.1, s2.2.2)) fun s4 =>
  zLet ((0 : Int32)) fun v5 =>
  F_X9_clear_12 a0  10000 v5 s4
set_option maxRecDepth 100000 in
noncomputable def F_X1_begin (a0 : Nat) (p1 : Nat) (σ : zS) : zS :=
  zLet ((σ.2.2 p1 2).getD 0) fun v1 =>
  zLet ((0 : Int32)) fun v2 =>
  zLet ((σ.2.2 a0 0).getD 0) fun v3 =>
  zLet ((0 : Int32)) fun v4 =>
  zLet ((12 : Int32)) fun v5 =>
  zLet (zcpy σ v1 v3 12) fun s6 =>
  zLet ((s6.2.2 a0 1).getD 0) fun v7 =>
  zLet ((0 : Int32)) fun v8 =>
  zLet (zfil s6 v7 v8 12) fun s9 =>
  zLet ((s9.2.2 a0 2).getD 0) fun v10 =>
  zLet ((0 : Int32)) fun v11 =>
  zLet (zfil s9 v10 v11 12) fun s12 =>
  zLet ((0 : Int32)) fun v13 =>
  zLet ((zu s12.1 a0 3 v13, s12.2.1, s12.2.2)) fun s14 =>
  zLet ((0 : Int32)) fun v15 =>
  zLet ((zu s14.1 a0 4 v15, s14.2.1, s14.2.2)) fun s16 =>
  zLet ((0 : Int32)) fun v17 =>
  zLet ((zu s16.1 a0 5 v17, s16.2.1, s16.2.2)) fun s18 =>
  s18
set_option maxRecDepth 100000 in
noncomputable def F_X6_isSource (a0 : Nat) (p1 : Int32) (σ : zS) : Int32 × zS :=
  if 0 < p1.toInt then
    zLet (σ.1 a0 0) fun v3 =>
    if p1.toInt < v3.toInt then
      zLet ((σ.2.2 a0 4).getD 0) fun v7 =>
      zLet (σ.1 v7 p1.toNatClampNeg) fun v8 =>
      if v8.toInt = 0 then
        zLet ((1 : Int32)) fun v11 =>
        (v11, σ)
      else
        zLet ((0 : Int32)) fun v10 =>
        (v10, σ)
    else
      zLet ((0 : Int32)) fun v6 =>
      (v6, σ)
  else
    zLet ((0 : Int32)) fun v2 =>
    (v2, σ)
set_option maxRecDepth 100000 in
noncomputable def F_X6_sources_4 (a0 : Nat)  : Nat → Int32 → Int32 → zS → Int32 × zS
  | 0, _, _, s => (0, s)
  | n + 1, x3, x4, τ5 =>
    zLet (τ5.1 a0 0) fun v6 =>
    if x3.toInt < v6.toInt then
      zLet ((τ5.2.2 a0 4).getD 0) fun v8 =>
      zLet (τ5.1 v8 x3.toNatClampNeg) fun v9 =>
      if v9.toInt = 0 then
        zLet (F_X10_bit x3) fun v12 =>
        zLet (x4 ||| v12) fun v13 =>
        zLet (x3 + (1 : Int32)) fun v14 =>
        F_X6_sources_4 a0  n v14 v13 τ5
      else
        zLet (x3 + (1 : Int32)) fun v11 =>
        F_X6_sources_4 a0  n v11 x4 τ5
    else
      (x4, τ5)
set_option maxRecDepth 100000 in
noncomputable def F_X6_sources (a0 : Nat) (σ : zS) : Int32 × zS :=
  zLet ((0 : Int32)) fun v1 =>
  zLet ((1 : Int32)) fun v2 =>
  F_X6_sources_4 a0  10000 v2 v1 σ
set_option maxRecDepth 100000 in
noncomputable def F_X6_comingBy_4 (a0 : Nat) (p1 : Int32)  : Nat → Int32 → Int32 → zS → Int32 × zS
  | 0, _, _, s => (0, s)
  | n + 1, x3, x4, τ5 =>
    zLet (τ5.1 a0 0) fun v6 =>
    if x3.toInt < v6.toInt then
      zLet ((τ5.2.2 a0 6).getD 0) fun v8 =>
      zLet (τ5.1 v8 x3.toNatClampNeg) fun v9 =>
      zLet (F_X10_has v9 p1) fun v10 =>
      if v10.toInt = 0 then
        zLet (x3 + (1 : Int32)) fun v12 =>
        F_X6_comingBy_4 a0 p1  n v12 x4 τ5
      else
        zLet (F_X10_bit x3) fun v13 =>
        zLet (x4 ||| v13) fun v14 =>
        zLet (x3 + (1 : Int32)) fun v15 =>
        F_X6_comingBy_4 a0 p1  n v15 v14 τ5
    else
      (x4, τ5)
set_option maxRecDepth 100000 in
noncomputable def F_X6_comingBy (a0 : Nat) (p1 : Int32) (σ : zS) : Int32 × zS :=
  zLet ((0 : Int32)) fun v1 =>
  zLet ((0 : Int32)) fun v2 =>
  F_X6_comingBy_4 a0 p1  10000 v2 v1 σ
set_option maxRecDepth 100000 in
noncomputable def F_X6_greatestFar_4 (a0 : Nat)  : Nat → Int32 → Int32 → zS → Int32 × zS
  | 0, _, _, s => (0, s)
  | n + 1, x3, x4, τ5 =>
    zLet (τ5.1 a0 0) fun v6 =>
    if x3.toInt < v6.toInt then
      zLet ((τ5.2.2 a0 3).getD 0) fun v8 =>
      zLet (τ5.1 v8 x3.toNatClampNeg) fun v9 =>
      zLet (if x4.toInt ≤ v9.toInt then v9 else x4) fun v10 =>
      zLet (x3 + (1 : Int32)) fun v11 =>
      F_X6_greatestFar_4 a0  n v11 v10 τ5
    else
      (x4, τ5)
set_option maxRecDepth 100000 in
noncomputable def F_X6_greatestFar (a0 : Nat) (σ : zS) : Int32 × zS :=
  zLet ((0 : Int32)) fun v1 =>
  zLet ((0 : Int32)) fun v2 =>
  F_X6_greatestFar_4 a0  10000 v2 v1 σ
set_option maxRecDepth 100000 in
noncomputable def F_X6_deepest_4 (a0 : Nat)  : Nat → Int32 → Int32 → zS → Int32 × zS
  | 0, _, _, s => (0, s)
  | n + 1, x3, x4, τ5 =>
    zLet (τ5.1 a0 0) fun v6 =>
    if x3.toInt < v6.toInt then
      zLet ((τ5.2.2 a0 6).getD 0) fun v8 =>
      zLet (τ5.1 v8 x3.toNatClampNeg) fun v9 =>
      zLet (F_J6_bitCount_0f7a4 v9) fun v10 =>
      zLet (if x4.toInt ≤ v10.toInt then v10 else x4) fun v11 =>
      zLet (x3 + (1 : Int32)) fun v12 =>
      F_X6_deepest_4 a0  n v12 v11 τ5
    else
      (x4, τ5)
set_option maxRecDepth 100000 in
noncomputable def F_X6_deepest (a0 : Nat) (σ : zS) : Int32 × zS :=
  zLet ((0 : Int32)) fun v1 =>
  zLet ((1 : Int32)) fun v2 =>
  F_X6_deepest_4 a0  10000 v2 v1 σ
set_option maxRecDepth 100000 in
noncomputable def F_X6_tourOf_59 (x5 : Int32) (x6 : Int32) (a0 : Nat) (p1 : Int32) (kLp7 : Int32 → Int32 → Int32 → zS → Int32 × zS) : Nat → Int32 → Int32 → zS → Int32 × zS
  | 0, _, _, s => (0, s)
  | n + 1, x12, x13, τ14 =>
    zLet (τ14.1 a0 0) fun v15 =>
    if x12.toInt < v15.toInt then
      zLet (F_X10_has x6 x12) fun v20 =>
      if v20.toInt = 0 then
        zLet (x12 + (1 : Int32)) fun v22 =>
        F_X6_tourOf_59 x5 x6 a0 p1 kLp7 n v22 x13 τ14
      else
        zLet ((τ14.2.2 a0 1).getD 0) fun v23 =>
        zLet (τ14.1 v23 x12.toNatClampNeg) fun v24 =>
        zLet (x13 + v24) fun v25 =>
        zLet (x12 + (1 : Int32)) fun v26 =>
        F_X6_tourOf_59 x5 x6 a0 p1 kLp7 n v26 v25 τ14
    else
      zLet ((2 : Int32)) fun v17 =>
      zLet (v17 * x13) fun v18 =>
      zLet (v18 - x5) fun v19 =>
      (v19, τ14)
set_option maxRecDepth 100000 in
noncomputable def F_X6_tourOf_7 (a0 : Nat) (p1 : Int32)  : Nat → Int32 → Int32 → Int32 → zS → Int32 × zS
  | 0, _, _, _, s => (0, s)
  | n + 1, x4, x5, x6, τ7 =>
    zLet (τ7.1 a0 0) fun v8 =>
    if x4.toInt < v8.toInt then
      zLet (F_X10_has p1 x4) fun v27 =>
      if v27.toInt = 0 then
        zLet (x4 + (1 : Int32)) fun v29 =>
        F_X6_tourOf_7 a0 p1  n v29 x5 x6 τ7
      else
        zLet ((τ7.2.2 a0 6).getD 0) fun v30 =>
        zLet (τ7.1 v30 x4.toNatClampNeg) fun v31 =>
        zLet (x6 ||| v31) fun v32 =>
        zLet ((τ7.2.2 a0 3).getD 0) fun v33 =>
        zLet (τ7.1 v33 x4.toNatClampNeg) fun v34 =>
        zLet (if x5.toInt ≤ v34.toInt then v34 else x5) fun v35 =>
        zLet (x4 + (1 : Int32)) fun v36 =>
        F_X6_tourOf_7 a0 p1  n v36 v35 v32 τ7
    else
      zLet ((0 : Int32)) fun v10 =>
      zLet ((1 : Int32)) fun v11 =>
      F_X6_tourOf_59 x5 x6 a0 p1 (F_X6_tourOf_7 a0 p1  n) 10000 v11 v10 τ7
set_option maxRecDepth 100000 in
noncomputable def F_X6_tourOf (a0 : Nat) (p1 : Int32) (σ : zS) : Int32 × zS :=
  zLet ((0 : Int32)) fun v1 =>
  zLet ((0 : Int32)) fun v2 =>
  zLet ((1 : Int32)) fun v3 =>
  F_X6_tourOf_7 a0 p1  10000 v3 v2 v1 σ
set_option maxRecDepth 100000 in
noncomputable def F_X6_meeting_20 (v5 : Int32) (a0 : Nat) (p1 : Int32) (p2 : Int32)  : Nat → Int32 → Int32 → zS → Int32 × zS
  | 0, _, _, s => (0, s)
  | n + 1, x8, x9, τ10 =>
    zLet (τ10.1 a0 0) fun v11 =>
    if x8.toInt < v11.toInt then
      zLet (F_X10_has v5 x8) fun v13 =>
      if v13.toInt = 0 then
        zLet (x8 + (1 : Int32)) fun v15 =>
        F_X6_meeting_20 v5 a0 p1 p2  n v15 x9 τ10
      else
        zLet ((τ10.2.2 a0 3).getD 0) fun v16 =>
        zLet (τ10.1 v16 x8.toNatClampNeg) fun v17 =>
        zLet ((τ10.2.2 a0 3).getD 0) fun v18 =>
        zLet (τ10.1 v18 x9.toNatClampNeg) fun v19 =>
        if v19.toInt < v17.toInt then
          zLet (x8 + (1 : Int32)) fun v24 =>
          F_X6_meeting_20 v5 a0 p1 p2  n v24 x8 τ10
        else
          zLet (x8 + (1 : Int32)) fun v23 =>
          F_X6_meeting_20 v5 a0 p1 p2  n v23 x9 τ10
    else
      (x9, τ10)
set_option maxRecDepth 100000 in
noncomputable def F_X6_meeting (a0 : Nat) (p1 : Int32) (p2 : Int32) (σ : zS) : Int32 × zS :=
  zLet ((σ.2.2 a0 6).getD 0) fun v1 =>
  zLet (σ.1 v1 p1.toNatClampNeg) fun v2 =>
  zLet ((σ.2.2 a0 6).getD 0) fun v3 =>
  zLet (σ.1 v3 p2.toNatClampNeg) fun v4 =>
  zLet (v2 &&& v4) fun v5 =>
  zLet ((0 : Int32)) fun v6 =>
  zLet ((1 : Int32)) fun v7 =>
  F_X6_meeting_20 v5 a0 p1 p2  10000 v7 v6 σ
set_option maxRecDepth 100000 in
noncomputable def F_X6_orderOf_20 (x4 : Int32) (a0 : Nat) (p1 : Nat) (p2 : Int32) (kLp5 : Int32 → zS → Int32 × zS) : Nat → Int32 → Int32 → Int32 → zS → Int32 × zS
  | 0, _, _, _, s => (0, s)
  | n + 1, x12, x13, x14, τ15 =>
    zLet (τ15.1 a0 0) fun v16 =>
    if x12.toInt < v16.toInt then
      zLet ((τ15.2.2 p1 0).getD 0) fun v31 =>
      zLet (τ15.1 v31 x12.toNatClampNeg) fun v32 =>
      zLet ((τ15.2.2 a0 2).getD 0) fun v33 =>
      zLet (τ15.1 v33 x4.toNatClampNeg) fun v34 =>
      if v32.toInt = v34.toInt then
        zLet ((τ15.2.2 a0 5).getD 0) fun v37 =>
        zLet (τ15.1 v37 x12.toNatClampNeg) fun v38 =>
        if v38.toInt < x14.toInt then
          zLet (x12 + (1 : Int32)) fun v42 =>
          F_X6_orderOf_20 x4 a0 p1 p2 kLp5 n v42 x13 x14 τ15
        else
          zLet ((τ15.2.2 a0 5).getD 0) fun v43 =>
          zLet (τ15.1 v43 x12.toNatClampNeg) fun v44 =>
          if v44.toInt = x14.toInt then
            zLet ((1 : Int32)) fun v50 =>
            zLet (x13 + v50) fun v51 =>
            zLet ((τ15.2.2 a0 5).getD 0) fun v52 =>
            zLet (τ15.1 v52 x12.toNatClampNeg) fun v53 =>
            zLet (x12 + (1 : Int32)) fun v54 =>
            F_X6_orderOf_20 x4 a0 p1 p2 kLp5 n v54 v51 v53 τ15
          else
            zLet ((1 : Int32)) fun v46 =>
            zLet ((τ15.2.2 a0 5).getD 0) fun v47 =>
            zLet (τ15.1 v47 x12.toNatClampNeg) fun v48 =>
            zLet (x12 + (1 : Int32)) fun v49 =>
            F_X6_orderOf_20 x4 a0 p1 p2 kLp5 n v49 v46 v48 τ15
      else
        zLet (x12 + (1 : Int32)) fun v36 =>
        F_X6_orderOf_20 x4 a0 p1 p2 kLp5 n v36 x13 x14 τ15
    else
      zLet ((τ15.2.2 a0 5).getD 0) fun v18 =>
      zLet ((τ15.2.2 a0 2).getD 0) fun v19 =>
      zLet (τ15.1 v19 x4.toNatClampNeg) fun v20 =>
      zLet ((1 : Int32)) fun v21 =>
      if x13.toInt = v21.toInt then
        zLet ((zu τ15.1 v18 v20.toNatClampNeg x14, τ15.2.1, τ15.2.2)) fun s28 =>
        zLet (x4 + (-1 : Int32)) fun v30 =>
        kLp5 v30 s28
      else
        zLet ((1 : Int32)) fun v23 =>
        zLet (x14 + v23) fun v24 =>
        zLet ((zu τ15.1 v18 v20.toNatClampNeg v24, τ15.2.1, τ15.2.2)) fun s25 =>
        zLet (x4 + (-1 : Int32)) fun v27 =>
        kLp5 v27 s25
set_option maxRecDepth 100000 in
noncomputable def F_X6_orderOf_7 (a0 : Nat) (p1 : Nat) (p2 : Int32)  : Nat → Int32 → zS → Int32 × zS
  | 0, _, s => (0, s)
  | n + 1, x4, τ5 =>
    if x4.toInt < 0 then
      zLet ((τ5.2.2 a0 5).getD 0) fun v7 =>
      zLet (τ5.1 v7 p2.toNatClampNeg) fun v8 =>
      (v8, τ5)
    else
      zLet ((0 : Int32)) fun v9 =>
      zLet ((0 : Int32)) fun v10 =>
      zLet ((1 : Int32)) fun v11 =>
      F_X6_orderOf_20 x4 a0 p1 p2 (F_X6_orderOf_7 a0 p1 p2  n) 10000 v11 v10 v9 τ5
set_option maxRecDepth 100000 in
noncomputable def F_X6_orderOf (a0 : Nat) (p1 : Nat) (p2 : Int32) (σ : zS) : Int32 × zS :=
  zLet (σ.1 a0 0) fun v1 =>
  zLet ((1 : Int32)) fun v2 =>
  zLet (v1 - v2) fun v3 =>
  F_X6_orderOf_7 a0 p1 p2  10000 v3 σ
set_option maxRecDepth 100000 in
noncomputable def F_X6_countAbove_15 (a0 : Nat) (p1 : Nat)  : Nat → Int32 → zS → zS
  | 0, _, s => s
  | n + 1, x7, τ8 =>
    if 0 < x7.toInt then
      zLet ((τ8.2.2 a0 2).getD 0) fun v10 =>
      zLet (τ8.1 v10 x7.toNatClampNeg) fun v11 =>
      zLet ((τ8.2.2 a0 4).getD 0) fun v12 =>
      zLet ((τ8.2.2 p1 0).getD 0) fun v13 =>
      zLet (τ8.1 v13 v11.toNatClampNeg) fun v14 =>
      zLet (τ8.1 v12 v14.toNatClampNeg) fun v15 =>
      zLet ((τ8.2.2 a0 4).getD 0) fun v16 =>
      zLet (τ8.1 v16 v11.toNatClampNeg) fun v17 =>
      zLet ((1 : Int32)) fun v18 =>
      zLet (v17 + v18) fun v19 =>
      zLet (v15 + v19) fun v20 =>
      zLet ((zu τ8.1 v12 v14.toNatClampNeg v20, τ8.2.1, τ8.2.2)) fun s21 =>
      zLet (x7 + (-1 : Int32)) fun v22 =>
      F_X6_countAbove_15 a0 p1  n v22 s21
    else
      τ8
set_option maxRecDepth 100000 in
noncomputable def F_X6_countAbove (a0 : Nat) (p1 : Nat) (σ : zS) : zS :=
  zLet ((σ.2.2 a0 4).getD 0) fun v1 =>
  zLet ((0 : Int32)) fun v2 =>
  zLet (zfil σ v1 v2 12) fun s3 =>
  zLet (s3.1 a0 0) fun v4 =>
  zLet ((1 : Int32)) fun v5 =>
  zLet (v4 - v5) fun v6 =>
  F_X6_countAbove_15 a0 p1  10000 v6 s3
set_option maxRecDepth 100000 in
noncomputable def F_X6_form_81 (v36 : Int32) (x30 : Int32) (a0 : Nat) (p1 : Nat) (p2 : Nat) (kLp32 : Int32 → Int32 → zS → zS) : Nat → Int32 → Int32 → zS → zS
  | 0, _, _, s => s
  | n + 1, x38, x39, τ40 =>
    zLet (τ40.1 a0 0) fun v41 =>
    if x38.toInt < v41.toInt then
      zLet (τ40.1 a0 0) fun v44 =>
      if x39.toInt < v44.toInt then
        zLet ((τ40.2.2 p2 0).getD 0) fun v47 =>
        zLet (τ40.1 v47 x38.toNatClampNeg) fun v48 =>
        if v48.toInt = v36.toInt then
          zLet ((τ40.2.2 a0 3).getD 0) fun v51 =>
          zLet ((τ40.2.2 a0 3).getD 0) fun v52 =>
          zLet (τ40.1 v52 v36.toNatClampNeg) fun v53 =>
          zLet ((τ40.2.2 a0 1).getD 0) fun v54 =>
          zLet (τ40.1 v54 x38.toNatClampNeg) fun v55 =>
          zLet (v53 + v55) fun v56 =>
          zLet ((zu τ40.1 v51 x38.toNatClampNeg v56, τ40.2.1, τ40.2.2)) fun s57 =>
          zLet ((s57.2.2 a0 6).getD 0) fun v59 =>
          zLet ((s57.2.2 a0 6).getD 0) fun v60 =>
          zLet (s57.1 v60 v36.toNatClampNeg) fun v61 =>
          zLet (F_X10_bit x38) fun v62 =>
          zLet (v61 ||| v62) fun v63 =>
          zLet ((zu s57.1 v59 x38.toNatClampNeg v63, s57.2.1, s57.2.2)) fun s64 =>
          zLet ((s64.2.2 a0 2).getD 0) fun v66 =>
          zLet ((zu s64.1 v66 x39.toNatClampNeg x38, s64.2.1, s64.2.2)) fun s67 =>
          zLet (x39 + (1 : Int32)) fun v69 =>
          zLet (x38 + (1 : Int32)) fun v70 =>
          F_X6_form_81 v36 x30 a0 p1 p2 kLp32 n v70 v69 s67
        else
          zLet (x38 + (1 : Int32)) fun v50 =>
          F_X6_form_81 v36 x30 a0 p1 p2 kLp32 n v50 x39 τ40
      else
        zLet (x30 + (1 : Int32)) fun v46 =>
        kLp32 v46 x39 τ40
    else
      zLet (x30 + (1 : Int32)) fun v43 =>
      kLp32 v43 x39 τ40
set_option maxRecDepth 100000 in
noncomputable def F_X6_form_63 (a0 : Nat) (p1 : Nat) (p2 : Nat)  : Nat → Int32 → Int32 → zS → zS
  | 0, _, _, s => s
  | n + 1, x30, x31, τ32 =>
    if x30.toInt < x31.toInt then
      zLet ((τ32.2.2 a0 2).getD 0) fun v35 =>
      zLet (τ32.1 v35 x30.toNatClampNeg) fun v36 =>
      zLet ((1 : Int32)) fun v37 =>
      F_X6_form_81 v36 x30 a0 p1 p2 (F_X6_form_63 a0 p1 p2  n) 10000 v37 x31 τ32
    else
      zLet (F_X6_countAbove a0 p2 τ32) fun s34 =>
      s34
set_option maxRecDepth 100000 in
noncomputable def F_X6_form_81_1 (v95 : Int32) (x89 : Int32) (a0 : Nat) (p1 : Nat) (p2 : Nat) (kLp91 : Int32 → Int32 → zS → zS) : Nat → Int32 → Int32 → zS → zS
  | 0, _, _, s => s
  | n + 1, x97, x98, τ99 =>
    zLet (τ99.1 a0 0) fun v100 =>
    if x97.toInt < v100.toInt then
      zLet (τ99.1 a0 0) fun v103 =>
      if x98.toInt < v103.toInt then
        zLet ((τ99.2.2 p2 0).getD 0) fun v106 =>
        zLet (τ99.1 v106 x97.toNatClampNeg) fun v107 =>
        if v107.toInt = v95.toInt then
          zLet ((τ99.2.2 a0 3).getD 0) fun v110 =>
          zLet ((τ99.2.2 a0 3).getD 0) fun v111 =>
          zLet (τ99.1 v111 v95.toNatClampNeg) fun v112 =>
          zLet ((τ99.2.2 a0 1).getD 0) fun v113 =>
          zLet (τ99.1 v113 x97.toNatClampNeg) fun v114 =>
          zLet (v112 + v114) fun v115 =>
          zLet ((zu τ99.1 v110 x97.toNatClampNeg v115, τ99.2.1, τ99.2.2)) fun s116 =>
          zLet ((s116.2.2 a0 6).getD 0) fun v118 =>
          zLet ((s116.2.2 a0 6).getD 0) fun v119 =>
          zLet (s116.1 v119 v95.toNatClampNeg) fun v120 =>
          zLet (F_X10_bit x97) fun v121 =>
          zLet (v120 ||| v121) fun v122 =>
          zLet ((zu s116.1 v118 x97.toNatClampNeg v122, s116.2.1, s116.2.2)) fun s123 =>
          zLet ((s123.2.2 a0 2).getD 0) fun v125 =>
          zLet ((zu s123.1 v125 x98.toNatClampNeg x97, s123.2.1, s123.2.2)) fun s126 =>
          zLet (x98 + (1 : Int32)) fun v128 =>
          zLet (x97 + (1 : Int32)) fun v129 =>
          F_X6_form_81_1 v95 x89 a0 p1 p2 kLp91 n v129 v128 s126
        else
          zLet (x97 + (1 : Int32)) fun v109 =>
          F_X6_form_81_1 v95 x89 a0 p1 p2 kLp91 n v109 x98 τ99
      else
        zLet (x89 + (1 : Int32)) fun v105 =>
        kLp91 v105 x98 τ99
    else
      zLet (x89 + (1 : Int32)) fun v102 =>
      kLp91 v102 x98 τ99
set_option maxRecDepth 100000 in
noncomputable def F_X6_form_63_1 (a0 : Nat) (p1 : Nat) (p2 : Nat)  : Nat → Int32 → Int32 → zS → zS
  | 0, _, _, s => s
  | n + 1, x89, x90, τ91 =>
    if x89.toInt < x90.toInt then
      zLet ((τ91.2.2 a0 2).getD 0) fun v94 =>
      zLet (τ91.1 v94 x89.toNatClampNeg) fun v95 =>
      zLet ((1 : Int32)) fun v96 =>
      F_X6_form_81_1 v95 x89 a0 p1 p2 (F_X6_form_63_1 a0 p1 p2  n) 10000 v96 x90 τ91
    else
      zLet (F_X6_countAbove a0 p2 τ91) fun s93 =>
      s93
set_option maxRecDepth 100000 in
noncomputable def F_X6_form (a0 : Nat) (p1 : Nat) (p2 : Nat) (σ : zS) : zS :=
  zLet (σ.1 p1 0) fun v1 =>
  zLet ((zu σ.1 a0 0 v1, σ.2.1, σ.2.2)) fun s2 =>
  zLet ((s2.2.2 p1 3).getD 0) fun v4 =>
  zLet ((0 : Int32)) fun v5 =>
  zLet ((s2.2.2 a0 1).getD 0) fun v6 =>
  zLet ((0 : Int32)) fun v7 =>
  zLet ((12 : Int32)) fun v8 =>
  zLet (zcpy s2 v4 v6 12) fun s9 =>
  zLet (s9.1 a0 0) fun v10 =>
  if 0 < v10.toInt then
    zLet ((1 : Int32)) fun v71 =>
    zLet ((s9.2.2 a0 2).getD 0) fun v72 =>
    zLet ((0 : Int32)) fun v73 =>
    zLet ((0 : Int32)) fun v74 =>
    zLet ((zu s9.1 v72 v73.toNatClampNeg v74, s9.2.1, s9.2.2)) fun s75 =>
    zLet ((s75.2.2 a0 3).getD 0) fun v77 =>
    zLet ((0 : Int32)) fun v78 =>
    zLet ((0 : Int32)) fun v79 =>
    zLet ((zu s75.1 v77 v78.toNatClampNeg v79, s75.2.1, s75.2.2)) fun s80 =>
    zLet ((s80.2.2 a0 6).getD 0) fun v82 =>
    zLet ((0 : Int32)) fun v83 =>
    zLet ((0 : Int32)) fun v84 =>
    zLet (F_X10_bit v84) fun v85 =>
    zLet ((zu s80.1 v82 v83.toNatClampNeg v85, s80.2.1, s80.2.2)) fun s86 =>
    zLet ((0 : Int32)) fun v88 =>
    F_X6_form_63_1 a0 p1 p2  10000 v88 v71 s86
  else
    zLet ((0 : Int32)) fun v12 =>
    zLet ((s9.2.2 a0 2).getD 0) fun v13 =>
    zLet ((0 : Int32)) fun v14 =>
    zLet ((0 : Int32)) fun v15 =>
    zLet ((zu s9.1 v13 v14.toNatClampNeg v15, s9.2.1, s9.2.2)) fun s16 =>
    zLet ((s16.2.2 a0 3).getD 0) fun v18 =>
    zLet ((0 : Int32)) fun v19 =>
    zLet ((0 : Int32)) fun v20 =>
    zLet ((zu s16.1 v18 v19.toNatClampNeg v20, s16.2.1, s16.2.2)) fun s21 =>
    zLet ((s21.2.2 a0 6).getD 0) fun v23 =>
    zLet ((0 : Int32)) fun v24 =>
    zLet ((0 : Int32)) fun v25 =>
    zLet (F_X10_bit v25) fun v26 =>
    zLet ((zu s21.1 v23 v24.toNatClampNeg v26, s21.2.1, s21.2.2)) fun s27 =>
    zLet ((0 : Int32)) fun v29 =>
    F_X6_form_63 a0 p1 p2  10000 v29 v12 s27
set_option maxRecDepth 100000 in
noncomputable def F_X5_tells (a0 : Nat) (p1 : Int32) (p2 : Int32) (p3 : Int32) (σ : zS) : Int32 × zS :=
  zLet ((σ.2.2 a0 1).getD 0) fun v1 =>
  zLet ((σ.2.2 v1 0).getD 0) fun v2 =>
  zLet ((0 : Int32)) fun v3 =>
  zLet ((σ.2.2 a0 5).getD 0) fun v4 =>
  zLet ((σ.2.2 v4 4).getD 0) fun v5 =>
  zLet (σ.1 v5 p2.toNatClampNeg) fun v6 =>
  zLet ((zu σ.1 v2 v3.toNatClampNeg v6, σ.2.1, σ.2.2)) fun s7 =>
  zLet ((1 : Int32)) fun v8 =>
  zLet ((s7.2.2 a0 0).getD 0) fun v9 =>
  zLet ((s7.2.2 v9 3).getD 0) fun v10 =>
  zLet (s7.1 v10 p2.toNatClampNeg) fun v11 =>
  zLet ((zu s7.1 v2 v8.toNatClampNeg v11, s7.2.1, s7.2.2)) fun s12 =>
  zLet ((2 : Int32)) fun v13 =>
  zLet ((s12.2.2 a0 5).getD 0) fun v14 =>
  zLet ((s12.2.2 v14 5).getD 0) fun v15 =>
  zLet (s12.1 v15 p2.toNatClampNeg) fun v16 =>
  zLet ((zu s12.1 v2 v13.toNatClampNeg v16, s12.2.1, s12.2.2)) fun s17 =>
  zLet ((3 : Int32)) fun v18 =>
  zLet ((s17.2.2 a0 6).getD 0) fun v19 =>
  zLet2 (F_X1_moon v19 s17) fun v20 s21 =>
  zLet ((zu s21.1 v2 v18.toNatClampNeg v20, s21.2.1, s21.2.2)) fun s22 =>
  zLet ((4 : Int32)) fun v23 =>
  zLet ((zu s22.1 v2 v23.toNatClampNeg p3, s22.2.1, s22.2.2)) fun s24 =>
  zLet ((5 : Int32)) fun v25 =>
  zLet ((s24.2.2 a0 5).getD 0) fun v26 =>
  zLet ((s24.2.2 v26 3).getD 0) fun v27 =>
  zLet (s24.1 v27 p2.toNatClampNeg) fun v28 =>
  zLet ((zu s24.1 v2 v25.toNatClampNeg v28, s24.2.1, s24.2.2)) fun s29 =>
  zLet ((6 : Int32)) fun v30 =>
  zLet ((s29.2.2 a0 6).getD 0) fun v31 =>
  zLet ((s29.2.2 v31 1).getD 0) fun v32 =>
  zLet (s29.1 v32 p2.toNatClampNeg) fun v33 =>
  zLet ((zu s29.1 v2 v30.toNatClampNeg v33, s29.2.1, s29.2.2)) fun s34 =>
  zLet ((7 : Int32)) fun v35 =>
  zLet ((zu s34.1 v2 v35.toNatClampNeg p2, s34.2.1, s34.2.2)) fun s36 =>
  zLet ((8 : Int32)) fun v37 =>
  zLet ((s36.2.2 a0 0).getD 0) fun v38 =>
  zLet ((s36.2.2 v38 4).getD 0) fun v39 =>
  zLet (s36.1 v39 p2.toNatClampNeg) fun v40 =>
  zLet ((zu s36.1 v2 v37.toNatClampNeg v40, s36.2.1, s36.2.2)) fun s41 =>
  zLet ((s41.2.2 a0 1).getD 0) fun v42 =>
  zLet ((s41.2.2 a0 5).getD 0) fun v43 =>
  zLet2 (F_X0_answer v42 v43 p1 s41) fun v44 s45 =>
  (v44, s45)
set_option maxRecDepth 100000 in
noncomputable def F_X5_dried (a0 : Nat) (p1 : Int32) (σ : zS) : Int32 × zS :=
  zLet ((1 : Int32)) fun v1 =>
  zLet ((σ.2.2 a0 3).getD 0) fun v2 =>
  zLet (σ.1 v2 p1.toNatClampNeg) fun v3 =>
  zLet2 (F_X5_tells a0 v1 p1 v3 σ) fun v4 s5 =>
  zLet ((0 : Int32)) fun v6 =>
  zLet ((s5.2.2 a0 3).getD 0) fun v7 =>
  zLet (s5.1 v7 p1.toNatClampNeg) fun v8 =>
  zLet (F_X10_held v4 v6 v8) fun v9 =>
  (v9, s5)
set_option maxRecDepth 100000 in
noncomputable def F_X5_run_25 (a0 : Nat) (p1 : Int32)  : Nat → Int32 → zS → zS
  | 0, _, s => s
  | n + 1, x11, τ12 =>
    if 0 < x11.toInt then
      zLet ((τ12.2.2 a0 0).getD 0) fun v14 =>
      zLet ((τ12.2.2 v14 2).getD 0) fun v15 =>
      zLet (τ12.1 v15 x11.toNatClampNeg) fun v16 =>
      zLet (F_X10_has p1 v16) fun v17 =>
      if v17.toInt = 0 then
        zLet ((τ12.2.2 a0 3).getD 0) fun v20 =>
        zLet ((τ12.2.2 a0 6).getD 0) fun v21 =>
        zLet ((τ12.2.2 v21 0).getD 0) fun v22 =>
        zLet (τ12.1 v22 v16.toNatClampNeg) fun v23 =>
        zLet (τ12.1 v20 v23.toNatClampNeg) fun v24 =>
        zLet ((τ12.2.2 a0 3).getD 0) fun v25 =>
        zLet (τ12.1 v25 v16.toNatClampNeg) fun v26 =>
        zLet2 (F_X5_dried a0 v16 τ12) fun v27 s28 =>
        zLet (v26 - v27) fun v29 =>
        zLet (v24 + v29) fun v30 =>
        zLet ((zu s28.1 v20 v23.toNatClampNeg v30, s28.2.1, s28.2.2)) fun s31 =>
        zLet (x11 + (-1 : Int32)) fun v32 =>
        F_X5_run_25 a0 p1  n v32 s31
      else
        zLet (x11 + (-1 : Int32)) fun v19 =>
        F_X5_run_25 a0 p1  n v19 τ12
    else
      τ12
set_option maxRecDepth 100000 in
noncomputable def F_X5_run (a0 : Nat) (p1 : Int32) (σ : zS) : zS :=
  zLet ((σ.2.2 a0 2).getD 0) fun v1 =>
  zLet ((0 : Int32)) fun v2 =>
  zLet ((σ.2.2 a0 3).getD 0) fun v3 =>
  zLet ((0 : Int32)) fun v4 =>
  zLet ((12 : Int32)) fun v5 =>
  zLet (zcpy σ v1 v3 12) fun s6 =>
  zLet ((s6.2.2 a0 0).getD 0) fun v7 =>
  zLet (s6.1 v7 0) fun v8 =>
  zLet ((1 : Int32)) fun v9 =>
  zLet (v8 - v9) fun v10 =>
  F_X5_run_25 a0 p1  10000 v10 s6
set_option maxRecDepth 100000 in
noncomputable def F_X5_rainDown_2 (a0 : Nat) (p1 : Int32)  : Nat → Int32 → zS → zS
  | 0, _, s => s
  | n + 1, x2, τ3 =>
    zLet ((τ3.2.2 a0 0).getD 0) fun v4 =>
    zLet (τ3.1 v4 0) fun v5 =>
    if x2.toInt < v5.toInt then
      zLet ((τ3.2.2 a0 2).getD 0) fun v7 =>
      zLet ((0 : Int32)) fun v8 =>
      zLet ((0 : Int32)) fun v9 =>
      zLet2 (F_X5_tells a0 v8 x2 v9 τ3) fun v10 s11 =>
      zLet ((0 : Int32)) fun v12 =>
      zLet ((999 : Int32)) fun v13 =>
      zLet (F_X10_held v10 v12 v13) fun v14 =>
      zLet (v14 + p1) fun v15 =>
      zLet ((zu s11.1 v7 x2.toNatClampNeg v15, s11.2.1, s11.2.2)) fun s16 =>
      zLet (x2 + (1 : Int32)) fun v17 =>
      F_X5_rainDown_2 a0 p1  n v17 s16
    else
      τ3
set_option maxRecDepth 100000 in
noncomputable def F_X5_rainDown (a0 : Nat) (p1 : Int32) (σ : zS) : zS :=
  zLet ((0 : Int32)) fun v1 =>
  F_X5_rainDown_2 a0 p1  10000 v1 σ
set_option maxRecDepth 100000 in
noncomputable def F_X5_fall (a0 : Nat) (p1 : Int32) (σ : zS) : zS :=
  zLet (F_X5_rainDown a0 p1 σ) fun s1 =>
  zLet ((s1.2.2 a0 6).getD 0) fun v2 =>
  zLet (s1.1 v2 3) fun v3 =>
  zLet (F_X5_run a0 v3 s1) fun s4 =>
  s4
set_option maxRecDepth 100000 in
noncomputable def F_X5_claimOf (a0 : Nat) (p1 : Int32) (p2 : Int32) (σ : zS) : Int32 × zS :=
  zLet ((2 : Int32)) fun v1 =>
  zLet (v1 + p2) fun v2 =>
  zLet ((σ.2.2 a0 3).getD 0) fun v3 =>
  zLet (σ.1 v3 p1.toNatClampNeg) fun v4 =>
  zLet2 (F_X5_tells a0 v2 p1 v4 σ) fun v5 s6 =>
  zLet ((0 : Int32)) fun v7 =>
  zLet ((99999 : Int32)) fun v8 =>
  zLet (F_X10_held v5 v7 v8) fun v9 =>
  (v9, s6)
set_option maxRecDepth 100000 in
noncomputable def F_X5_weigh_2 (a0 : Nat) (p1 : Int32)  : Nat → Int32 → zS → zS
  | 0, _, s => s
  | n + 1, x2, τ3 =>
    zLet ((τ3.2.2 a0 0).getD 0) fun v4 =>
    zLet (τ3.1 v4 0) fun v5 =>
    if x2.toInt < v5.toInt then
      zLet ((τ3.2.2 a0 4).getD 0) fun v7 =>
      zLet ((τ3.2.2 a0 0).getD 0) fun v8 =>
      zLet2 (F_X6_isSource v8 x2 τ3) fun v9 s10 =>
      if v9.toInt = 0 then
        zLet ((-1 : Int32)) fun v12 =>
        zLet ((zu s10.1 v7 x2.toNatClampNeg v12, s10.2.1, s10.2.2)) fun s13 =>
        zLet (x2 + (1 : Int32)) fun v14 =>
        F_X5_weigh_2 a0 p1  n v14 s13
      else
        zLet2 (F_X5_claimOf a0 x2 p1 s10) fun v15 s16 =>
        zLet ((zu s16.1 v7 x2.toNatClampNeg v15, s16.2.1, s16.2.2)) fun s17 =>
        zLet (x2 + (1 : Int32)) fun v18 =>
        F_X5_weigh_2 a0 p1  n v18 s17
    else
      τ3
set_option maxRecDepth 100000 in
noncomputable def F_X5_weigh (a0 : Nat) (p1 : Int32) (σ : zS) : zS :=
  zLet ((1 : Int32)) fun v1 =>
  F_X5_weigh_2 a0 p1  10000 v1 σ
set_option maxRecDepth 100000 in
noncomputable def F_X5_greatestClaim_5 (a0 : Nat) (p1 : Int32)  : Nat → Int32 → Int32 → zS → Int32 × zS
  | 0, _, _, s => (0, s)
  | n + 1, x3, x4, τ5 =>
    zLet ((τ5.2.2 a0 0).getD 0) fun v6 =>
    zLet (τ5.1 v6 0) fun v7 =>
    if x3.toInt < v7.toInt then
      if x3.toInt = p1.toInt then
        zLet (x3 + (1 : Int32)) fun v10 =>
        F_X5_greatestClaim_5 a0 p1  n v10 x4 τ5
      else
        zLet ((τ5.2.2 a0 0).getD 0) fun v11 =>
        zLet2 (F_X6_isSource v11 x3 τ5) fun v12 s13 =>
        if v12.toInt = 0 then
          zLet (x3 + (1 : Int32)) fun v15 =>
          F_X5_greatestClaim_5 a0 p1  n v15 x4 s13
        else
          if x4.toInt < 0 then
            zLet (x3 + (1 : Int32)) fun v17 =>
            F_X5_greatestClaim_5 a0 p1  n v17 x3 s13
          else
            zLet ((s13.2.2 a0 4).getD 0) fun v18 =>
            zLet (s13.1 v18 x3.toNatClampNeg) fun v19 =>
            zLet ((s13.2.2 a0 4).getD 0) fun v20 =>
            zLet (s13.1 v20 x4.toNatClampNeg) fun v21 =>
            if v21.toInt < v19.toInt then
              zLet (x3 + (1 : Int32)) fun v26 =>
              F_X5_greatestClaim_5 a0 p1  n v26 x3 s13
            else
              zLet (x3 + (1 : Int32)) fun v25 =>
              F_X5_greatestClaim_5 a0 p1  n v25 x4 s13
    else
      (x4, τ5)
set_option maxRecDepth 100000 in
noncomputable def F_X5_greatestClaim (a0 : Nat) (p1 : Int32) (σ : zS) : Int32 × zS :=
  zLet ((-2 : Int32)) fun v1 =>
  zLet ((1 : Int32)) fun v2 =>
  F_X5_greatestClaim_5 a0 p1  10000 v2 v1 σ
set_option maxRecDepth 100000 in
noncomputable def F_X5_rankOf_4 (a0 : Nat) (p1 : Int32)  : Nat → Int32 → Int32 → zS → Int32 × zS
  | 0, _, _, s => (0, s)
  | n + 1, x3, x4, τ5 =>
    zLet ((τ5.2.2 a0 0).getD 0) fun v6 =>
    zLet (τ5.1 v6 0) fun v7 =>
    if x3.toInt < v7.toInt then
      zLet ((τ5.2.2 a0 4).getD 0) fun v9 =>
      zLet (τ5.1 v9 x3.toNatClampNeg) fun v10 =>
      zLet ((τ5.2.2 a0 4).getD 0) fun v11 =>
      zLet (τ5.1 v11 p1.toNatClampNeg) fun v12 =>
      if v12.toInt < v10.toInt then
        zLet (x4 + (1 : Int32)) fun v16 =>
        zLet (x3 + (1 : Int32)) fun v17 =>
        F_X5_rankOf_4 a0 p1  n v17 v16 τ5
      else
        zLet ((τ5.2.2 a0 4).getD 0) fun v18 =>
        zLet (τ5.1 v18 x3.toNatClampNeg) fun v19 =>
        zLet ((τ5.2.2 a0 4).getD 0) fun v20 =>
        zLet (τ5.1 v20 p1.toNatClampNeg) fun v21 =>
        if v19.toInt = v21.toInt then
          if x3.toInt < p1.toInt then
            zLet (x4 + (1 : Int32)) fun v26 =>
            zLet (x3 + (1 : Int32)) fun v27 =>
            F_X5_rankOf_4 a0 p1  n v27 v26 τ5
          else
            zLet (x3 + (1 : Int32)) fun v25 =>
            F_X5_rankOf_4 a0 p1  n v25 x4 τ5
        else
          zLet (x3 + (1 : Int32)) fun v23 =>
          F_X5_rankOf_4 a0 p1  n v23 x4 τ5
    else
      (x4, τ5)
set_option maxRecDepth 100000 in
noncomputable def F_X5_rankOf (a0 : Nat) (p1 : Int32) (σ : zS) : Int32 × zS :=
  zLet ((0 : Int32)) fun v1 =>
  zLet ((1 : Int32)) fun v2 =>
  F_X5_rankOf_4 a0 p1  10000 v2 v1 σ
set_option maxRecDepth 100000 in
noncomputable def F_X5_winnerBy (a0 : Nat) (p1 : Int32) (σ : zS) : Int32 × zS :=
  zLet (F_X5_weigh a0 p1 σ) fun s1 =>
  zLet ((-1 : Int32)) fun v2 =>
  zLet2 (F_X5_greatestClaim a0 v2 s1) fun v3 s4 =>
  (v3, s4)
set_option maxRecDepth 100000 in
noncomputable def F_X5_rainsOf_4 (a0 : Nat) (p1 : Int32)  : Nat → Int32 → Int32 → zS → Int32 × zS
  | 0, _, _, s => (0, s)
  | n + 1, x3, x4, τ5 =>
    zLet ((τ5.2.2 a0 0).getD 0) fun v6 =>
    zLet (τ5.1 v6 0) fun v7 =>
    if x3.toInt < v7.toInt then
      zLet (F_X10_has p1 x3) fun v9 =>
      if v9.toInt = 0 then
        zLet (x3 + (1 : Int32)) fun v11 =>
        F_X5_rainsOf_4 a0 p1  n v11 x4 τ5
      else
        zLet ((τ5.2.2 a0 2).getD 0) fun v12 =>
        zLet (τ5.1 v12 x3.toNatClampNeg) fun v13 =>
        zLet (x4 + v13) fun v14 =>
        zLet (x3 + (1 : Int32)) fun v15 =>
        F_X5_rainsOf_4 a0 p1  n v15 v14 τ5
    else
      (x4, τ5)
set_option maxRecDepth 100000 in
noncomputable def F_X5_rainsOf (a0 : Nat) (p1 : Int32) (σ : zS) : Int32 × zS :=
  zLet ((0 : Int32)) fun v1 =>
  zLet ((0 : Int32)) fun v2 =>
  F_X5_rainsOf_4 a0 p1  10000 v2 v1 σ
set_option maxRecDepth 100000 in
noncomputable def F_X5_endMonth (a0 : Nat) (σ : zS) : zS :=
  zLet ((σ.2.2 a0 6).getD 0) fun v1 =>
  zLet (σ.1 v1 5) fun v2 =>
  zLet2 (F_X5_winnerBy a0 v2 σ) fun v3 s4 =>
  if 0 < v3.toInt then
    zLet ((s4.2.2 a0 6).getD 0) fun v11 =>
    zLet ((s4.2.2 a0 5).getD 0) fun v12 =>
    zLet (s4.1 v12 12) fun v13 =>
    zLet (F_X1_pay v11 v3 v13 s4) fun s14 =>
    zLet ((s14.2.2 a0 6).getD 0) fun v15 =>
    zLet (s14.1 v15 4) fun v16 =>
    zLet ((1 : Int32)) fun v17 =>
    zLet (v16 + v17) fun v18 =>
    zLet ((zu s14.1 v15 4 v18, s14.2.1, s14.2.2)) fun s19 =>
    s19
  else
    zLet ((s4.2.2 a0 6).getD 0) fun v6 =>
    zLet (s4.1 v6 4) fun v7 =>
    zLet ((1 : Int32)) fun v8 =>
    zLet (v7 + v8) fun v9 =>
    zLet ((zu s4.1 v6 4 v9, s4.2.1, s4.2.2)) fun s10 =>
    s10
set_option maxRecDepth 100000 in
noncomputable def F_X5_goOn (a0 : Nat) (σ : zS) : zS :=
  zLet (F_X5_endMonth a0 σ) fun s1 =>
  zLet ((0 : Int32)) fun v2 =>
  zLet (F_X5_fall a0 v2 s1) fun s3 =>
  s3
set_option maxRecDepth 100000 in
noncomputable def F_X5_form (a0 : Nat) (p1 : Nat) (p2 : Nat) (σ : zS) : zS :=
  zLet ((σ.1, σ.2.1, zu σ.2.2 a0 5 (some p1))) fun s1 =>
  zLet ((s1.1, s1.2.1, zu s1.2.2 a0 6 (some p2))) fun s2 =>
  zLet ((s2.2.2 a0 0).getD 0) fun v3 =>
  zLet (F_X6_form v3 p1 p2 s2) fun s4 =>
  s4
set_option maxRecDepth 100000 in
noncomputable def F_X5_look (a0 : Nat) (p1 : Nat) (p2 : Nat) (σ : zS) : zS :=
  zLet (F_X5_form a0 p1 p2 σ) fun s1 =>
  zLet ((0 : Int32)) fun v2 =>
  zLet (F_X5_fall a0 v2 s1) fun s3 =>
  s3
set_option maxRecDepth 100000 in
noncomputable def F_X5_goThrough_9 (a0 : Nat) (p1 : Nat) (p2 : Nat) (p3 : Int32) (p4 : Int32)  : Nat → Int32 → zS → zS
  | 0, _, s => s
  | n + 1, x3, τ4 =>
    if x3.toInt < p3.toInt then
      zLet (τ4.1 p2 4) fun v7 =>
      zLet2 (F_X9_isStorm p1 p4 v7 τ4) fun v8 s9 =>
      if v8.toInt = 0 then
        zLet ((0 : Int32)) fun v11 =>
        zLet (F_X5_fall a0 v11 s9) fun s12 =>
        zLet (F_X5_endMonth a0 s12) fun s13 =>
        zLet (x3 + (1 : Int32)) fun v14 =>
        F_X5_goThrough_9 a0 p1 p2 p3 p4  n v14 s13
      else
        zLet (s9.1 p1 11) fun v15 =>
        zLet (F_X5_fall a0 v15 s9) fun s16 =>
        zLet (F_X5_endMonth a0 s16) fun s17 =>
        zLet (x3 + (1 : Int32)) fun v18 =>
        F_X5_goThrough_9 a0 p1 p2 p3 p4  n v18 s17
    else
      τ4
set_option maxRecDepth 100000 in
noncomputable def F_X5_goThrough (a0 : Nat) (p1 : Nat) (p2 : Nat) (p3 : Int32) (p4 : Int32) (σ : zS) : zS :=
  zLet (F_X5_form a0 p1 p2 σ) fun s1 =>
  zLet ((0 : Int32)) fun v2 =>
  F_X5_goThrough_9 a0 p1 p2 p3 p4  10000 v2 s1
set_option maxRecDepth 100000 in
noncomputable def F_X2_add (a0 : Nat) (p1 : Int32) (p2 : Int32) (p3 : Int32) (p4 : Int32) (σ : zS) : Int32 × zS :=
  zLet (σ.1 a0 4) fun v1 =>
  zLet ((20 : Int32)) fun v2 =>
  if v1.toInt < v2.toInt then
    zLet ((σ.2.2 a0 0).getD 0) fun v4 =>
    zLet (σ.1 a0 4) fun v5 =>
    zLet ((zu σ.1 v4 v5.toNatClampNeg p1, σ.2.1, σ.2.2)) fun s6 =>
    zLet ((s6.2.2 a0 1).getD 0) fun v8 =>
    zLet (s6.1 a0 4) fun v9 =>
    zLet ((zu s6.1 v8 v9.toNatClampNeg p2, s6.2.1, s6.2.2)) fun s10 =>
    zLet ((s10.2.2 a0 2).getD 0) fun v12 =>
    zLet (s10.1 a0 4) fun v13 =>
    zLet ((zu s10.1 v12 v13.toNatClampNeg p3, s10.2.1, s10.2.2)) fun s14 =>
    zLet ((s14.2.2 a0 3).getD 0) fun v16 =>
    zLet (s14.1 a0 4) fun v17 =>
    zLet ((zu s14.1 v16 v17.toNatClampNeg (vp_nar .boolean p4), s14.2.1, s14.2.2)) fun s18 =>
    zLet (s18.1 a0 4) fun v20 =>
    zLet ((1 : Int32)) fun v21 =>
    zLet (v20 + v21) fun v22 =>
    zLet ((zu s18.1 a0 4 v22, s18.2.1, s18.2.2)) fun s23 =>
    zLet (s23.1 a0 4) fun v26 =>
    zLet ((1 : Int32)) fun v27 =>
    zLet (v26 - v27) fun v28 =>
    (v28, s23)
  else
    zLet ((-1 : Int32)) fun v29 =>
    (v29, σ)
set_option maxRecDepth 100000 in
noncomputable def F_X2_isSo_6 (a0 : Nat) (p1 : Nat) (p2 : Int32) (p3 : Int32)  : Nat → Int32 → Int32 → zS → Int32 × zS
  | 0, _, _, s => (0, s)
  | n + 1, x3, x4, τ5 =>
    if x3.toInt < p3.toInt then
      zLet (τ5.1 a0 4) fun v8 =>
      if x3.toInt < v8.toInt then
        zLet ((τ5.2.2 p1 3).getD 0) fun v10 =>
        zLet (τ5.1 v10 p2.toNatClampNeg) fun v11 =>
        zLet ((τ5.2.2 p1 3).getD 0) fun v12 =>
        zLet ((τ5.2.2 a0 0).getD 0) fun v13 =>
        zLet (τ5.1 v13 x3.toNatClampNeg) fun v14 =>
        zLet (τ5.1 v12 v14.toNatClampNeg) fun v15 =>
        zLet (v11 - v15) fun v16 =>
        zLet ((τ5.2.2 p1 6).getD 0) fun v17 =>
        zLet (τ5.1 v17 p2.toNatClampNeg) fun v18 =>
        zLet ((τ5.2.2 a0 0).getD 0) fun v19 =>
        zLet (τ5.1 v19 x3.toNatClampNeg) fun v20 =>
        zLet (F_X10_has v18 v20) fun v21 =>
        if v21.toInt = 0 then
          zLet ((0 : Int32)) fun v23 =>
          if x4.toInt = 0 then
            zLet ((0 : Int32)) fun v25 =>
            zLet (x3 + (1 : Int32)) fun v26 =>
            F_X2_isSo_6 a0 p1 p2 p3  n v26 v25 τ5
          else
            zLet ((τ5.2.2 a0 3).getD 0) fun v27 =>
            zLet (τ5.1 v27 x3.toNatClampNeg) fun v28 =>
            if v23.toInt = v28.toInt then
              zLet ((1 : Int32)) fun v32 =>
              zLet (x3 + (1 : Int32)) fun v33 =>
              F_X2_isSo_6 a0 p1 p2 p3  n v33 v32 τ5
            else
              zLet ((0 : Int32)) fun v30 =>
              zLet (x3 + (1 : Int32)) fun v31 =>
              F_X2_isSo_6 a0 p1 p2 p3  n v31 v30 τ5
        else
          zLet ((τ5.2.2 a0 1).getD 0) fun v34 =>
          zLet (τ5.1 v34 x3.toNatClampNeg) fun v35 =>
          zLet ((τ5.2.2 a0 2).getD 0) fun v36 =>
          zLet (τ5.1 v36 x3.toNatClampNeg) fun v37 =>
          zLet (F_X10_isWithin v16 v35 v37) fun v38 =>
          if v38.toInt = 0 then
            zLet ((0 : Int32)) fun v40 =>
            if x4.toInt = 0 then
              zLet ((0 : Int32)) fun v42 =>
              zLet (x3 + (1 : Int32)) fun v43 =>
              F_X2_isSo_6 a0 p1 p2 p3  n v43 v42 τ5
            else
              zLet ((τ5.2.2 a0 3).getD 0) fun v44 =>
              zLet (τ5.1 v44 x3.toNatClampNeg) fun v45 =>
              if v40.toInt = v45.toInt then
                zLet ((1 : Int32)) fun v49 =>
                zLet (x3 + (1 : Int32)) fun v50 =>
                F_X2_isSo_6 a0 p1 p2 p3  n v50 v49 τ5
              else
                zLet ((0 : Int32)) fun v47 =>
                zLet (x3 + (1 : Int32)) fun v48 =>
                F_X2_isSo_6 a0 p1 p2 p3  n v48 v47 τ5
          else
            zLet ((1 : Int32)) fun v51 =>
            if x4.toInt = 0 then
              zLet ((0 : Int32)) fun v53 =>
              zLet (x3 + (1 : Int32)) fun v54 =>
              F_X2_isSo_6 a0 p1 p2 p3  n v54 v53 τ5
            else
              zLet ((τ5.2.2 a0 3).getD 0) fun v55 =>
              zLet (τ5.1 v55 x3.toNatClampNeg) fun v56 =>
              if v51.toInt = v56.toInt then
                zLet ((1 : Int32)) fun v60 =>
                zLet (x3 + (1 : Int32)) fun v61 =>
                F_X2_isSo_6 a0 p1 p2 p3  n v61 v60 τ5
              else
                zLet ((0 : Int32)) fun v58 =>
                zLet (x3 + (1 : Int32)) fun v59 =>
                F_X2_isSo_6 a0 p1 p2 p3  n v59 v58 τ5
      else
        (x4, τ5)
    else
      (x4, τ5)
set_option maxRecDepth 100000 in
noncomputable def F_X2_isSo (a0 : Nat) (p1 : Nat) (p2 : Int32) (p3 : Int32) (σ : zS) : Int32 × zS :=
  zLet ((1 : Int32)) fun v1 =>
  zLet ((0 : Int32)) fun v2 =>
  F_X2_isSo_6 a0 p1 p2 p3  4294967299 v2 v1 σ
set_option maxRecDepth 100000 in
noncomputable def F_X2_left_5 (a0 : Nat) (p1 : Nat) (p2 : Int32)  : Nat → Int32 → Int32 → zS → Int32 × zS
  | 0, _, _, s => (0, s)
  | n + 1, x3, x4, τ5 =>
    zLet (τ5.1 p1 0) fun v6 =>
    if x3.toInt < v6.toInt then
      zLet2 (F_X6_isSource p1 x3 τ5) fun v8 s9 =>
      if v8.toInt = 0 then
        zLet (x3 + (1 : Int32)) fun v11 =>
        F_X2_left_5 a0 p1 p2  n v11 x4 s9
      else
        zLet2 (F_X2_isSo a0 p1 x3 p2 s9) fun v12 s13 =>
        if v12.toInt = 0 then
          zLet (x3 + (1 : Int32)) fun v15 =>
          F_X2_left_5 a0 p1 p2  n v15 x4 s13
        else
          zLet (F_X10_bit x3) fun v16 =>
          zLet (x4 ||| v16) fun v17 =>
          zLet (x3 + (1 : Int32)) fun v18 =>
          F_X2_left_5 a0 p1 p2  n v18 v17 s13
    else
      (x4, τ5)
set_option maxRecDepth 100000 in
noncomputable def F_X2_left (a0 : Nat) (p1 : Nat) (p2 : Int32) (σ : zS) : Int32 × zS :=
  zLet ((0 : Int32)) fun v1 =>
  zLet ((1 : Int32)) fun v2 =>
  F_X2_left_5 a0 p1 p2  10000 v2 v1 σ
set_option maxRecDepth 100000 in
noncomputable def F_X7_append (a0 : Nat) (p1 : Int32) (σ : zS) : zS :=
  zLet ((24 : Int32)) fun v1 =>
  if v1.toInt < 0 then
    σ
  else
    zLet (σ.1 a0 1) fun v3 =>
    zLet ((σ.2.2 a0 0).getD 0) fun v4 =>
    zLet ((2000 : Int32)) fun v5 =>
    if v3.toInt < v5.toInt then
      zLet ((σ.2.2 a0 0).getD 0) fun v27 =>
      zLet (σ.1 a0 1) fun v28 =>
      zLet ((p1.toUInt32 >>> (v1.toUInt32 &&& Int32.toUInt32 31)).toInt32) fun v29 =>
      zLet (v29.toInt8.toInt32) fun v30 =>
      zLet ((zu σ.1 v27 v28.toNatClampNeg (vp_nar .byte v30), σ.2.1, σ.2.2)) fun s31 =>
      zLet (s31.1 a0 1) fun v33 =>
      zLet ((1 : Int32)) fun v34 =>
      zLet (v33 + v34) fun v35 =>
      zLet ((zu s31.1 a0 1 v35, s31.2.1, s31.2.2)) fun s36 =>
      zLet (v1 + (-8 : Int32)) fun v37 =>
      if v37.toInt < 0 then
        s36
      else
        zLet (s36.1 a0 1) fun v39 =>
        zLet ((s36.2.2 a0 0).getD 0) fun v40 =>
        zLet ((2000 : Int32)) fun v41 =>
        if v39.toInt < v41.toInt then
          zLet ((s36.2.2 a0 0).getD 0) fun v57 =>
          zLet (s36.1 a0 1) fun v58 =>
          zLet ((p1.toUInt32 >>> (v37.toUInt32 &&& Int32.toUInt32 31)).toInt32) fun v59 =>
          zLet (v59.toInt8.toInt32) fun v60 =>
          zLet ((zu s36.1 v57 v58.toNatClampNeg (vp_nar .byte v60), s36.2.1, s36.2.2)) fun s61 =>
          zLet (s61.1 a0 1) fun v63 =>
          zLet ((1 : Int32)) fun v64 =>
          zLet (v63 + v64) fun v65 =>
          zLet ((zu s61.1 a0 1 v65, s61.2.1, s61.2.2)) fun s66 =>
          zLet (v37 + (-8 : Int32)) fun v67 =>
          if v67.toInt < 0 then
            s66
          else
            zLet (s66.1 a0 1) fun v69 =>
            zLet ((s66.2.2 a0 0).getD 0) fun v70 =>
            zLet ((2000 : Int32)) fun v71 =>
            if v69.toInt < v71.toInt then
              zLet ((s66.2.2 a0 0).getD 0) fun v81 =>
              zLet (s66.1 a0 1) fun v82 =>
              zLet ((p1.toUInt32 >>> (v67.toUInt32 &&& Int32.toUInt32 31)).toInt32) fun v83 =>
              zLet (v83.toInt8.toInt32) fun v84 =>
              zLet ((zu s66.1 v81 v82.toNatClampNeg (vp_nar .byte v84), s66.2.1, s66.2.2)) fun s85 =>
              zLet (s85.1 a0 1) fun v87 =>
              zLet ((1 : Int32)) fun v88 =>
              zLet (v87 + v88) fun v89 =>
              zLet ((zu s85.1 a0 1 v89, s85.2.1, s85.2.2)) fun s90 =>
              zLet (v67 + (-8 : Int32)) fun v91 =>
              if v91.toInt < 0 then
                s90
              else
                zLet (s90.1 a0 1) fun v93 =>
                zLet ((s90.2.2 a0 0).getD 0) fun v94 =>
                zLet ((2000 : Int32)) fun v95 =>
                if v93.toInt < v95.toInt then
                  zLet ((s90.2.2 a0 0).getD 0) fun v99 =>
                  zLet (s90.1 a0 1) fun v100 =>
                  zLet ((p1.toUInt32 >>> (v91.toUInt32 &&& Int32.toUInt32 31)).toInt32) fun v101 =>
                  zLet (v101.toInt8.toInt32) fun v102 =>
                  zLet ((zu s90.1 v99 v100.toNatClampNeg (vp_nar .byte v102), s90.2.1, s90.2.2)) fun s103 =>
                  zLet (s103.1 a0 1) fun v105 =>
                  zLet ((1 : Int32)) fun v106 =>
                  zLet (v105 + v106) fun v107 =>
                  zLet ((zu s103.1 a0 1 v107, s103.2.1, s103.2.2)) fun s108 =>
                  zLet (v91 + (-8 : Int32)) fun v109 =>
                  if v109.toInt < 0 then
                    s108
                  else
                    s108
                else
                  zLet (v91 + (-8 : Int32)) fun v97 =>
                  if v97.toInt < 0 then
                    s90
                  else
                    s90
            else
              zLet (v67 + (-8 : Int32)) fun v73 =>
              if v73.toInt < 0 then
                s66
              else
                zLet (s66.1 a0 1) fun v75 =>
                zLet ((s66.2.2 a0 0).getD 0) fun v76 =>
                zLet ((2000 : Int32)) fun v77 =>
                if v75.toInt < v77.toInt then
                  s66
                else
                  zLet (v73 + (-8 : Int32)) fun v79 =>
                  if v79.toInt < 0 then
                    s66
                  else
                    s66
        else
          zLet (v37 + (-8 : Int32)) fun v43 =>
          if v43.toInt < 0 then
            s36
          else
            zLet (s36.1 a0 1) fun v45 =>
            zLet ((s36.2.2 a0 0).getD 0) fun v46 =>
            zLet ((2000 : Int32)) fun v47 =>
            if v45.toInt < v47.toInt then
              s36
            else
              zLet (v43 + (-8 : Int32)) fun v49 =>
              if v49.toInt < 0 then
                s36
              else
                zLet (s36.1 a0 1) fun v51 =>
                zLet ((s36.2.2 a0 0).getD 0) fun v52 =>
                zLet ((2000 : Int32)) fun v53 =>
                if v51.toInt < v53.toInt then
                  s36
                else
                  zLet (v49 + (-8 : Int32)) fun v55 =>
                  if v55.toInt < 0 then
                    s36
                  else
                    s36
    else
      zLet (v1 + (-8 : Int32)) fun v7 =>
      if v7.toInt < 0 then
        σ
      else
        zLet (σ.1 a0 1) fun v9 =>
        zLet ((σ.2.2 a0 0).getD 0) fun v10 =>
        zLet ((2000 : Int32)) fun v11 =>
        if v9.toInt < v11.toInt then
          σ
        else
          zLet (v7 + (-8 : Int32)) fun v13 =>
          if v13.toInt < 0 then
            σ
          else
            zLet (σ.1 a0 1) fun v15 =>
            zLet ((σ.2.2 a0 0).getD 0) fun v16 =>
            zLet ((2000 : Int32)) fun v17 =>
            if v15.toInt < v17.toInt then
              σ
            else
              zLet (v13 + (-8 : Int32)) fun v19 =>
              if v19.toInt < 0 then
                σ
              else
                zLet (σ.1 a0 1) fun v21 =>
                zLet ((σ.2.2 a0 0).getD 0) fun v22 =>
                zLet ((2000 : Int32)) fun v23 =>
                if v21.toInt < v23.toInt then
                  σ
                else
                  zLet (v19 + (-8 : Int32)) fun v25 =>
                  if v25.toInt < 0 then
                    σ
                  else
                    σ
set_option maxRecDepth 100000 in
noncomputable def F_X10_isPlace (a0 : Nat) (p1 : Int32) (σ : zS) : Int32 × zS :=
  zLet ((0 : Int32)) fun v1 =>
  zLet ((σ.2.2 a0 10).getD 0) fun v2 =>
  zLet (σ.1 v2 0) fun v3 =>
  zLet ((1 : Int32)) fun v4 =>
  zLet (v3 - v4) fun v5 =>
  zLet (F_X10_isWithin p1 v1 v5) fun v6 =>
  (v6, σ)
set_option maxRecDepth 100000 in
noncomputable def F_X10_isLaw (a0 : Nat) (p1 : Int32) (σ : zS) : Int32 × zS :=
  zLet ((0 : Int32)) fun v1 =>
  zLet ((2 : Int32)) fun v2 =>
  zLet (F_X10_isWithin p1 v1 v2) fun v3 =>
  (v3, σ)
set_option maxRecDepth 100000 in
noncomputable def F_X10_hasMouth (a0 : Nat) (σ : zS) : Int32 × zS :=
  zLet ((σ.2.2 a0 10).getD 0) fun v1 =>
  zLet (σ.1 v1 0) fun v2 =>
  if 0 < v2.toInt then
    zLet ((1 : Int32)) fun v5 =>
    (v5, σ)
  else
    zLet ((0 : Int32)) fun v4 =>
    (v4, σ)
set_option maxRecDepth 100000 in
noncomputable def F_X10_mouthFlow (a0 : Nat) (σ : zS) : Int32 × zS :=
  zLet2 (F_X10_hasMouth a0 σ) fun v1 s2 =>
  if v1.toInt = 0 then
    zLet ((0 : Int32)) fun v4 =>
    (v4, s2)
  else
    zLet ((s2.2.2 a0 2).getD 0) fun v5 =>
    zLet ((s2.2.2 v5 3).getD 0) fun v6 =>
    zLet ((0 : Int32)) fun v7 =>
    zLet (s2.1 v6 v7.toNatClampNeg) fun v8 =>
    (v8, s2)
set_option maxRecDepth 100000 in
noncomputable def F_X10_look (a0 : Nat) (σ : zS) : zS :=
  zLet ((σ.2.2 a0 2).getD 0) fun v1 =>
  zLet ((σ.2.2 a0 10).getD 0) fun v2 =>
  zLet ((σ.2.2 a0 6).getD 0) fun v3 =>
  zLet (F_X5_look v1 v2 v3 σ) fun s4 =>
  s4
set_option maxRecDepth 100000 in
noncomputable def F_X10_isContest (a0 : Nat) (p1 : Int32) (p2 : Int32) (σ : zS) : Int32 × zS :=
  zLet ((σ.2.2 a0 2).getD 0) fun v1 =>
  zLet ((σ.2.2 a0 10).getD 0) fun v2 =>
  zLet ((σ.2.2 a0 6).getD 0) fun v3 =>
  zLet (F_X5_look v1 v2 v3 σ) fun s4 =>
  zLet2 (F_X10_isLaw a0 p2 s4) fun v5 s6 =>
  if v5.toInt = 0 then
    zLet ((0 : Int32)) fun v8 =>
    (v8, s6)
  else
    zLet ((s6.2.2 a0 3).getD 0) fun v9 =>
    zLet2 (F_X6_isSource v9 p1 s6) fun v10 s11 =>
    if v10.toInt = 0 then
      zLet ((0 : Int32)) fun v13 =>
      (v13, s11)
    else
      zLet ((1 : Int32)) fun v14 =>
      (v14, s11)
set_option maxRecDepth 100000 in
noncomputable def F_X10_beginAnew (a0 : Nat) (σ : zS) : zS :=
  zLet ((σ.2.2 a0 6).getD 0) fun v1 =>
  zLet ((σ.2.2 a0 10).getD 0) fun v2 =>
  zLet (F_X1_begin v1 v2 σ) fun s3 =>
  zLet ((s3.2.2 a0 4).getD 0) fun v4 =>
  zLet ((0 : Int32)) fun v5 =>
  zLet ((zu s3.1 v4 2 v5, s3.2.1, s3.2.2)) fun s6 =>
  zLet ((s6.2.2 a0 5).getD 0) fun v7 =>
  zLet ((0 : Int32)) fun v8 =>
  zLet ((zu s6.1 v7 4 v8, s6.2.1, s6.2.2)) fun s9 =>
  zLet ((0 : Int32)) fun v10 =>
  zLet ((zu s9.1 a0 12 v10, s9.2.1, s9.2.2)) fun s11 =>
  s11
set_option maxRecDepth 100000 in
noncomputable def F_X10_sumOf_4 (a0 : Nat) (p1 : Nat)  : Nat → Int32 → Int32 → zS → Int32 × zS
  | 0, _, _, s => (0, s)
  | n + 1, x3, x4, τ5 =>
    zLet ((τ5.2.2 a0 10).getD 0) fun v6 =>
    zLet (τ5.1 v6 0) fun v7 =>
    if x3.toInt < v7.toInt then
      zLet (τ5.1 p1 x3.toNatClampNeg) fun v9 =>
      zLet (x4 + v9) fun v10 =>
      zLet (x3 + (1 : Int32)) fun v11 =>
      F_X10_sumOf_4 a0 p1  n v11 v10 τ5
    else
      (x4, τ5)
set_option maxRecDepth 100000 in
noncomputable def F_X10_sumOf (a0 : Nat) (p1 : Nat) (σ : zS) : Int32 × zS :=
  zLet ((0 : Int32)) fun v1 =>
  zLet ((0 : Int32)) fun v2 =>
  F_X10_sumOf_4 a0 p1  10000 v2 v1 σ
set_option maxRecDepth 100000 in
noncomputable def F_X10_turnedPlaces_4 (a0 : Nat)  : Nat → Int32 → Int32 → zS → Int32 × zS
  | 0, _, _, s => (0, s)
  | n + 1, x3, x4, τ5 =>
    zLet ((τ5.2.2 a0 10).getD 0) fun v6 =>
    zLet (τ5.1 v6 0) fun v7 =>
    if x3.toInt < v7.toInt then
      zLet ((τ5.2.2 a0 6).getD 0) fun v9 =>
      zLet ((τ5.2.2 v9 0).getD 0) fun v10 =>
      zLet (τ5.1 v10 x3.toNatClampNeg) fun v11 =>
      zLet ((τ5.2.2 a0 10).getD 0) fun v12 =>
      zLet ((τ5.2.2 v12 2).getD 0) fun v13 =>
      zLet (τ5.1 v13 x3.toNatClampNeg) fun v14 =>
      if v11.toInt = v14.toInt then
        zLet (x3 + (1 : Int32)) fun v16 =>
        F_X10_turnedPlaces_4 a0  n v16 x4 τ5
      else
        zLet (F_X10_bit x3) fun v17 =>
        zLet (x4 ||| v17) fun v18 =>
        zLet (x3 + (1 : Int32)) fun v19 =>
        F_X10_turnedPlaces_4 a0  n v19 v18 τ5
    else
      (x4, τ5)
set_option maxRecDepth 100000 in
noncomputable def F_X10_turnedPlaces (a0 : Nat) (σ : zS) : Int32 × zS :=
  zLet ((0 : Int32)) fun v1 =>
  zLet ((1 : Int32)) fun v2 =>
  F_X10_turnedPlaces_4 a0  10000 v2 v1 σ
set_option maxRecDepth 100000 in
noncomputable def F_X10_isTurn (a0 : Nat) (p1 : Int32) (p2 : Int32) (σ : zS) : Int32 × zS :=
  if p1.toInt = 0 then
    zLet ((0 : Int32)) fun v2 =>
    (v2, σ)
  else
    zLet2 (F_X10_isPlace a0 p1 σ) fun v3 s4 =>
    if v3.toInt = 0 then
      zLet ((0 : Int32)) fun v6 =>
      (v6, s4)
    else
      zLet2 (F_X10_isPlace a0 p2 s4) fun v7 s8 =>
      if v7.toInt = 0 then
        zLet ((0 : Int32)) fun v10 =>
        (v10, s8)
      else
        zLet ((s8.2.2 a0 6).getD 0) fun v11 =>
        zLet ((s8.2.2 v11 0).getD 0) fun v12 =>
        zLet (s8.1 v12 p1.toNatClampNeg) fun v13 =>
        if v13.toInt = p2.toInt then
          zLet ((0 : Int32)) fun v15 =>
          (v15, s8)
        else
          zLet ((s8.2.2 a0 6).getD 0) fun v16 =>
          zLet2 (F_X1_comesBy v16 p2 p1 s8) fun v17 s18 =>
          if v17.toInt = 0 then
            zLet ((1 : Int32)) fun v21 =>
            (v21, s18)
          else
            zLet ((0 : Int32)) fun v20 =>
            (v20, s18)
set_option maxRecDepth 100000 in
noncomputable def F_X10_castVotes_17 (x2 : Int32) (a0 : Nat) (kLp3 : Int32 → zS → zS) : Nat → Int32 → zS → zS
  | 0, _, s => s
  | n + 1, x9, τ10 =>
    zLet ((τ10.2.2 a0 10).getD 0) fun v11 =>
    zLet (τ10.1 v11 0) fun v12 =>
    if x9.toInt < v12.toInt then
      zLet ((3 : Int32)) fun v15 =>
      zLet ((τ10.2.2 a0 2).getD 0) fun v16 =>
      zLet2 (F_X5_rankOf v16 x9 τ10) fun v17 s18 =>
      zLet (v15 * v17) fun v19 =>
      zLet (v19 + x2) fun v20 =>
      zLet ((s18.2.2 a0 9).getD 0) fun v21 =>
      if x2.toInt = 0 then
        zLet ((zu s18.1 v21 x9.toNatClampNeg v20, s18.2.1, s18.2.2)) fun s28 =>
        zLet (x9 + (1 : Int32)) fun v29 =>
        F_X10_castVotes_17 x2 a0 kLp3 n v29 s28
      else
        zLet ((s18.2.2 a0 9).getD 0) fun v23 =>
        zLet (s18.1 v23 x9.toNatClampNeg) fun v24 =>
        zLet (if v24.toInt ≤ v20.toInt then v24 else v20) fun v25 =>
        zLet ((zu s18.1 v21 x9.toNatClampNeg v25, s18.2.1, s18.2.2)) fun s26 =>
        zLet (x9 + (1 : Int32)) fun v27 =>
        F_X10_castVotes_17 x2 a0 kLp3 n v27 s26
    else
      zLet (x2 + (1 : Int32)) fun v14 =>
      kLp3 v14 τ10
set_option maxRecDepth 100000 in
noncomputable def F_X10_castVotes_2 (a0 : Nat)  : Nat → Int32 → zS → zS
  | 0, _, s => s
  | n + 1, x2, τ3 =>
    zLet ((3 : Int32)) fun v4 =>
    if x2.toInt < v4.toInt then
      zLet ((τ3.2.2 a0 2).getD 0) fun v6 =>
      zLet (F_X5_weigh v6 x2 τ3) fun s7 =>
      zLet ((1 : Int32)) fun v8 =>
      F_X10_castVotes_17 x2 a0 (F_X10_castVotes_2 a0  n) 10000 v8 s7
    else
      τ3
set_option maxRecDepth 100000 in
noncomputable def F_X10_castVotes (a0 : Nat) (σ : zS) : zS :=
  zLet ((0 : Int32)) fun v1 =>
  F_X10_castVotes_2 a0  10000 v1 σ
set_option maxRecDepth 100000 in
noncomputable def F_X10_votesFor_4 (a0 : Nat) (p1 : Int32)  : Nat → Int32 → Int32 → zS → Int32 × zS
  | 0, _, _, s => (0, s)
  | n + 1, x3, x4, τ5 =>
    zLet ((τ5.2.2 a0 10).getD 0) fun v6 =>
    zLet (τ5.1 v6 0) fun v7 =>
    if x3.toInt < v7.toInt then
      zLet ((τ5.2.2 a0 3).getD 0) fun v9 =>
      zLet2 (F_X6_isSource v9 x3 τ5) fun v10 s11 =>
      if v10.toInt = 0 then
        zLet (x3 + (1 : Int32)) fun v13 =>
        F_X10_votesFor_4 a0 p1  n v13 x4 s11
      else
        zLet ((s11.2.2 a0 9).getD 0) fun v14 =>
        zLet (s11.1 v14 x3.toNatClampNeg) fun v15 =>
        zLet ((3 : Int32)) fun v16 =>
        zLet (v15 - v15 / v16 * v16) fun v17 =>
        if v17.toInt = p1.toInt then
          zLet (x4 + (1 : Int32)) fun v20 =>
          zLet (x3 + (1 : Int32)) fun v21 =>
          F_X10_votesFor_4 a0 p1  n v21 v20 s11
        else
          zLet (x3 + (1 : Int32)) fun v19 =>
          F_X10_votesFor_4 a0 p1  n v19 x4 s11
    else
      (x4, τ5)
set_option maxRecDepth 100000 in
noncomputable def F_X10_votesFor (a0 : Nat) (p1 : Int32) (σ : zS) : Int32 × zS :=
  zLet ((0 : Int32)) fun v1 =>
  zLet ((1 : Int32)) fun v2 =>
  F_X10_votesFor_4 a0 p1  10000 v2 v1 σ
set_option maxRecDepth 100000 in
noncomputable def F_X10_winsTurned (a0 : Nat) (p1 : Int32) (p2 : Int32) (p3 : Int32) (p4 : Int32) (σ : zS) : Int32 × zS :=
  zLet ((σ.2.2 a0 7).getD 0) fun v1 =>
  zLet ((σ.2.2 a0 6).getD 0) fun v2 =>
  zLet (F_X1_copy v1 v2 σ) fun s3 =>
  zLet ((s3.2.2 a0 7).getD 0) fun v4 =>
  zLet ((s3.2.2 v4 0).getD 0) fun v5 =>
  zLet ((zu s3.1 v5 p3.toNatClampNeg p4, s3.2.1, s3.2.2)) fun s6 =>
  zLet ((s6.2.2 a0 2).getD 0) fun v7 =>
  zLet ((s6.2.2 a0 10).getD 0) fun v8 =>
  zLet ((s6.2.2 a0 7).getD 0) fun v9 =>
  zLet (F_X5_look v7 v8 v9 s6) fun s10 =>
  zLet ((s10.2.2 a0 2).getD 0) fun v11 =>
  zLet2 (F_X5_winnerBy v11 p2 s10) fun v12 s13 =>
  if v12.toInt = p1.toInt then
    zLet ((1 : Int32)) fun v16 =>
    (v16, s13)
  else
    zLet ((0 : Int32)) fun v15 =>
    (v15, s13)
set_option maxRecDepth 100000 in
noncomputable def F_X10_isAhead (p1 : Int32) (p2 : Int32) : Int32 :=
  zLet (F_J6_bitCount_0f7a4 p2) fun v1 =>
  zLet (F_J6_bitCount_0f7a4 p1) fun v2 =>
  zLet (v1 - v2) fun v3 =>
  zLet (p1 ^^^ p2) fun v4 =>
  zLet (p1 ^^^ p2) fun v5 =>
  zLet (-v5) fun v6 =>
  zLet (v4 &&& v6) fun v7 =>
  zLet ((-1 : Int32)) fun v8 =>
  if p2.toInt = v8.toInt then
    zLet ((1 : Int32)) fun v10 =>
    v10
  else
    if 0 < v3.toInt then
      zLet ((1 : Int32)) fun v12 =>
      v12
    else
      if v3.toInt = 0 then
        zLet (p1 &&& v7) fun v15 =>
        if v15.toInt = 0 then
          zLet ((0 : Int32)) fun v17 =>
          v17
        else
          zLet ((1 : Int32)) fun v18 =>
          v18
      else
        zLet ((0 : Int32)) fun v14 =>
        v14
set_option maxRecDepth 100000 in
noncomputable def F_X10_lossOf (a0 : Nat) (p1 : Int32) (σ : zS) : Int32 × zS :=
  zLet2 (F_X10_mouthFlow a0 σ) fun v1 s2 =>
  zLet ((s2.2.2 a0 2).getD 0) fun v3 =>
  zLet ((s2.2.2 a0 6).getD 0) fun v4 =>
  zLet (s2.1 v4 3) fun v5 =>
  zLet (F_X10_bit p1) fun v6 =>
  zLet (v5 ||| v6) fun v7 =>
  zLet (F_X5_run v3 v7 s2) fun s8 =>
  zLet2 (F_X10_mouthFlow a0 s8) fun v9 s10 =>
  zLet (v1 - v9) fun v11 =>
  (v11, s10)
set_option maxRecDepth 100000 in
noncomputable def F_X10_greatestInto_4 (a0 : Nat) (p1 : Int32)  : Nat → Int32 → Int32 → zS → Int32 × zS
  | 0, _, _, s => (0, s)
  | n + 1, x3, x4, τ5 =>
    zLet ((τ5.2.2 a0 10).getD 0) fun v6 =>
    zLet (τ5.1 v6 0) fun v7 =>
    if x3.toInt < v7.toInt then
      zLet ((τ5.2.2 a0 6).getD 0) fun v9 =>
      zLet ((τ5.2.2 v9 0).getD 0) fun v10 =>
      zLet (τ5.1 v10 x3.toNatClampNeg) fun v11 =>
      if v11.toInt = p1.toInt then
        zLet ((-1 : Int32)) fun v14 =>
        if x4.toInt = v14.toInt then
          zLet (x3 + (1 : Int32)) fun v16 =>
          F_X10_greatestInto_4 a0 p1  n v16 x3 τ5
        else
          zLet ((τ5.2.2 a0 2).getD 0) fun v17 =>
          zLet ((τ5.2.2 v17 3).getD 0) fun v18 =>
          zLet (τ5.1 v18 x3.toNatClampNeg) fun v19 =>
          zLet ((τ5.2.2 a0 2).getD 0) fun v20 =>
          zLet ((τ5.2.2 v20 3).getD 0) fun v21 =>
          zLet (τ5.1 v21 x4.toNatClampNeg) fun v22 =>
          if v22.toInt < v19.toInt then
            zLet (x3 + (1 : Int32)) fun v27 =>
            F_X10_greatestInto_4 a0 p1  n v27 x3 τ5
          else
            zLet (x3 + (1 : Int32)) fun v26 =>
            F_X10_greatestInto_4 a0 p1  n v26 x4 τ5
      else
        zLet (x3 + (1 : Int32)) fun v13 =>
        F_X10_greatestInto_4 a0 p1  n v13 x4 τ5
    else
      (x4, τ5)
set_option maxRecDepth 100000 in
noncomputable def F_X10_greatestInto (a0 : Nat) (p1 : Int32) (σ : zS) : Int32 × zS :=
  zLet ((-1 : Int32)) fun v1 =>
  zLet ((1 : Int32)) fun v2 =>
  F_X10_greatestInto_4 a0 p1  10000 v2 v1 σ
set_option maxRecDepth 100000 in
noncomputable def F_X10_tryFromNow (a0 : Nat) (σ : zS) : zS :=
  zLet ((σ.2.2 a0 7).getD 0) fun v1 =>
  zLet ((σ.2.2 a0 6).getD 0) fun v2 =>
  zLet (F_X1_copy v1 v2 σ) fun s3 =>
  zLet ((s3.2.2 a0 2).getD 0) fun v4 =>
  zLet ((s3.2.2 a0 10).getD 0) fun v5 =>
  zLet ((s3.2.2 a0 7).getD 0) fun v6 =>
  zLet (F_X5_look v4 v5 v6 s3) fun s7 =>
  s7
set_option maxRecDepth 100000 in
noncomputable def F_X10_tallied_4 (a0 : Nat)  : Nat → Int32 → Int32 → zS → Int32 × zS
  | 0, _, _, s => (0, s)
  | n + 1, x3, x4, τ5 =>
    zLet ((τ5.2.2 a0 10).getD 0) fun v6 =>
    zLet (τ5.1 v6 0) fun v7 =>
    if x3.toInt < v7.toInt then
      zLet ((τ5.2.2 a0 9).getD 0) fun v9 =>
      zLet (τ5.1 v9 x3.toNatClampNeg) fun v10 =>
      if 0 < v10.toInt then
        zLet (x4 + (1 : Int32)) fun v13 =>
        zLet (x3 + (1 : Int32)) fun v14 =>
        F_X10_tallied_4 a0  n v14 v13 τ5
      else
        zLet (x3 + (1 : Int32)) fun v12 =>
        F_X10_tallied_4 a0  n v12 x4 τ5
    else
      (x4, τ5)
set_option maxRecDepth 100000 in
noncomputable def F_X10_tallied (a0 : Nat) (σ : zS) : Int32 × zS :=
  zLet ((0 : Int32)) fun v1 =>
  zLet ((1 : Int32)) fun v2 =>
  F_X10_tallied_4 a0  10000 v2 v1 σ
set_option maxRecDepth 100000 in
noncomputable def F_X10_mostTallied_5 (a0 : Nat)  : Nat → Int32 → Int32 → zS → Int32 × zS
  | 0, _, _, s => (0, s)
  | n + 1, x3, x4, τ5 =>
    zLet ((τ5.2.2 a0 10).getD 0) fun v6 =>
    zLet (τ5.1 v6 0) fun v7 =>
    if x3.toInt < v7.toInt then
      zLet ((τ5.2.2 a0 9).getD 0) fun v9 =>
      zLet (τ5.1 v9 x3.toNatClampNeg) fun v10 =>
      if x4.toInt < 0 then
        zLet ((0 : Int32)) fun v19 =>
        if v19.toInt < v10.toInt then
          zLet (x3 + (1 : Int32)) fun v23 =>
          F_X10_mostTallied_5 a0  n v23 x3 τ5
        else
          zLet (x3 + (1 : Int32)) fun v22 =>
          F_X10_mostTallied_5 a0  n v22 x4 τ5
      else
        zLet ((τ5.2.2 a0 9).getD 0) fun v12 =>
        zLet (τ5.1 v12 x4.toNatClampNeg) fun v13 =>
        if v13.toInt < v10.toInt then
          zLet (x3 + (1 : Int32)) fun v18 =>
          F_X10_mostTallied_5 a0  n v18 x3 τ5
        else
          zLet (x3 + (1 : Int32)) fun v17 =>
          F_X10_mostTallied_5 a0  n v17 x4 τ5
    else
      (x4, τ5)
set_option maxRecDepth 100000 in
noncomputable def F_X10_mostTallied (a0 : Nat) (σ : zS) : Int32 × zS :=
  zLet ((-2 : Int32)) fun v1 =>
  zLet ((1 : Int32)) fun v2 =>
  F_X10_mostTallied_5 a0  10000 v2 v1 σ
set_option maxRecDepth 100000 in
noncomputable def F_X10_hasWonMost_4 (a0 : Nat) (p1 : Int32)  : Nat → Int32 → Int32 → zS → Int32 × zS
  | 0, _, _, s => (0, s)
  | n + 1, x3, x4, τ5 =>
    zLet ((τ5.2.2 a0 10).getD 0) fun v6 =>
    zLet (τ5.1 v6 0) fun v7 =>
    if x3.toInt < v7.toInt then
      if x3.toInt = p1.toInt then
        zLet (x3 + (1 : Int32)) fun v10 =>
        F_X10_hasWonMost_4 a0 p1  n v10 x4 τ5
      else
        zLet ((τ5.2.2 a0 3).getD 0) fun v11 =>
        zLet2 (F_X6_isSource v11 x3 τ5) fun v12 s13 =>
        if v12.toInt = 0 then
          zLet (x3 + (1 : Int32)) fun v15 =>
          F_X10_hasWonMost_4 a0 p1  n v15 x4 s13
        else
          zLet ((s13.2.2 a0 7).getD 0) fun v16 =>
          zLet ((s13.2.2 v16 1).getD 0) fun v17 =>
          zLet (s13.1 v17 x3.toNatClampNeg) fun v18 =>
          zLet ((s13.2.2 a0 7).getD 0) fun v19 =>
          zLet ((s13.2.2 v19 1).getD 0) fun v20 =>
          zLet (s13.1 v20 p1.toNatClampNeg) fun v21 =>
          if v18.toInt < v21.toInt then
            zLet (x3 + (1 : Int32)) fun v25 =>
            F_X10_hasWonMost_4 a0 p1  n v25 x4 s13
          else
            zLet ((0 : Int32)) fun v26 =>
            zLet (x3 + (1 : Int32)) fun v27 =>
            F_X10_hasWonMost_4 a0 p1  n v27 v26 s13
    else
      (x4, τ5)
set_option maxRecDepth 100000 in
noncomputable def F_X10_hasWonMost (a0 : Nat) (p1 : Int32) (σ : zS) : Int32 × zS :=
  zLet ((1 : Int32)) fun v1 =>
  zLet ((1 : Int32)) fun v2 =>
  F_X10_hasWonMost_4 a0 p1  10000 v2 v1 σ
set_option maxRecDepth 100000 in
noncomputable def F_X10_leftAtWorst (a0 : Nat) (p1 : Int32) (p2 : Int32) (σ : zS) : Int32 × zS :=
  zLet ((σ.2.2 a0 3).getD 0) fun v1 =>
  zLet2 (F_X6_comingBy v1 p2 σ) fun v2 s3 =>
  zLet (p1 &&& v2) fun v4 =>
  zLet (F_J6_bitCount_0f7a4 v4) fun v5 =>
  zLet ((-1 : Int32)) fun v6 =>
  zLet (v4 ^^^ v6) fun v7 =>
  zLet (p1 &&& v7) fun v8 =>
  zLet (F_J6_bitCount_0f7a4 v8) fun v9 =>
  zLet (if v5.toInt ≤ v9.toInt then v9 else v5) fun v10 =>
  (v10, s3)
set_option maxRecDepth 100000 in
noncomputable def F_X10_fewestDams_33 (v13 : Int32) (a0 : Nat) (p1 : Int32)  : Nat → Int32 → Int32 → zS → Int32 × zS
  | 0, _, _, s => (0, s)
  | n + 1, x16, x17, τ18 =>
    if v13.toInt < x16.toInt then
      (x17, τ18)
    else
      zLet ((-1 : Int32)) fun v21 =>
      zLet (v13 ^^^ v21) fun v22 =>
      zLet (x16 &&& v22) fun v23 =>
      if v23.toInt = 0 then
        zLet (F_J6_bitCount_0f7a4 x16) fun v26 =>
        zLet ((3 : Int32)) fun v27 =>
        if v27.toInt < v26.toInt then
          zLet (x16 + (1 : Int32)) fun v30 =>
          F_X10_fewestDams_33 v13 a0 p1  n v30 x17 τ18
        else
          zLet (F_X10_isAhead x16 x17) fun v31 =>
          if v31.toInt = 0 then
            zLet (x16 + (1 : Int32)) fun v33 =>
            F_X10_fewestDams_33 v13 a0 p1  n v33 x17 τ18
          else
            zLet ((τ18.2.2 a0 2).getD 0) fun v34 =>
            zLet ((τ18.2.2 a0 6).getD 0) fun v35 =>
            zLet (τ18.1 v35 3) fun v36 =>
            zLet (v36 ||| x16) fun v37 =>
            zLet (F_X5_run v34 v37 τ18) fun s38 =>
            zLet2 (F_X10_mouthFlow a0 s38) fun v39 s40 =>
            if p1.toInt < v39.toInt then
              zLet (x16 + (1 : Int32)) fun v44 =>
              F_X10_fewestDams_33 v13 a0 p1  n v44 x17 s40
            else
              zLet (x16 + (1 : Int32)) fun v45 =>
              F_X10_fewestDams_33 v13 a0 p1  n v45 x16 s40
      else
        zLet (x16 + (1 : Int32)) fun v25 =>
        F_X10_fewestDams_33 v13 a0 p1  n v25 x17 τ18
set_option maxRecDepth 100000 in
noncomputable def F_X10_fewestDams (a0 : Nat) (p1 : Int32) (σ : zS) : Int32 × zS :=
  zLet ((σ.2.2 a0 10).getD 0) fun v1 =>
  zLet (σ.1 v1 0) fun v2 =>
  zLet (F_X10_bit v2) fun v3 =>
  zLet ((1 : Int32)) fun v4 =>
  zLet (v3 - v4) fun v5 =>
  zLet ((σ.2.2 a0 6).getD 0) fun v6 =>
  zLet (σ.1 v6 3) fun v7 =>
  zLet ((0 : Int32)) fun v8 =>
  zLet (F_X10_bit v8) fun v9 =>
  zLet (v7 ||| v9) fun v10 =>
  zLet ((-1 : Int32)) fun v11 =>
  zLet (v10 ^^^ v11) fun v12 =>
  zLet (v5 &&& v12) fun v13 =>
  zLet ((-1 : Int32)) fun v14 =>
  zLet ((0 : Int32)) fun v15 =>
  F_X10_fewestDams_33 v13 a0 p1  4294967299 v15 v14 σ
set_option maxRecDepth 100000 in
noncomputable def F_X10_place (a0 : Nat) (σ : zS) : Int32 × zS :=
  zLet (σ.1 a0 13) fun v1 =>
  (v1, σ)
set_option maxRecDepth 100000 in
noncomputable def F_X10_spot (a0 : Nat) (p1 : Int32) (p2 : Int32) (σ : zS) : Int32 × zS :=
  zLet2 (F_X10_isPlace a0 p1 σ) fun v1 s2 =>
  if v1.toInt = 0 then
    zLet ((-1 : Int32)) fun v4 =>
    (v4, s2)
  else
    if p2.toInt < 0 then
      zLet ((-1 : Int32)) fun v6 =>
      (v6, s2)
    else
      zLet ((12 : Int32)) fun v7 =>
      if v7.toInt < p2.toInt then
        zLet ((-1 : Int32)) fun v70 =>
        (v70, s2)
      else
        zLet (F_X10_look a0 s2) fun s10 =>
        if p2.toInt = 0 then
          if p1.toInt = 0 then
            zLet ((-2 : Int32)) fun v16 =>
            (v16, s10)
          else
            zLet ((s10.2.2 a0 6).getD 0) fun v13 =>
            zLet ((s10.2.2 v13 0).getD 0) fun v14 =>
            zLet (s10.1 v14 p1.toNatClampNeg) fun v15 =>
            (v15, s10)
        else
          if p2.toInt = 1 then
            zLet ((s10.2.2 a0 10).getD 0) fun v18 =>
            zLet ((s10.2.2 v18 3).getD 0) fun v19 =>
            zLet (s10.1 v19 p1.toNatClampNeg) fun v20 =>
            (v20, s10)
          else
            if p2.toInt = 2 then
              zLet ((s10.2.2 a0 10).getD 0) fun v22 =>
              zLet ((s10.2.2 v22 4).getD 0) fun v23 =>
              zLet (s10.1 v23 p1.toNatClampNeg) fun v24 =>
              (v24, s10)
            else
              if p2.toInt = 3 then
                zLet ((s10.2.2 a0 10).getD 0) fun v26 =>
                zLet ((s10.2.2 v26 5).getD 0) fun v27 =>
                zLet (s10.1 v27 p1.toNatClampNeg) fun v28 =>
                (v28, s10)
              else
                if p2.toInt = 4 then
                  zLet ((s10.2.2 a0 6).getD 0) fun v30 =>
                  zLet (s10.1 v30 3) fun v31 =>
                  zLet (F_X10_has v31 p1) fun v32 =>
                  if v32.toInt = 0 then
                    zLet ((0 : Int32)) fun v34 =>
                    (v34, s10)
                  else
                    zLet ((1 : Int32)) fun v35 =>
                    (v35, s10)
                else
                  if p2.toInt = 5 then
                    zLet ((s10.2.2 a0 2).getD 0) fun v37 =>
                    zLet ((s10.2.2 v37 3).getD 0) fun v38 =>
                    zLet (s10.1 v38 p1.toNatClampNeg) fun v39 =>
                    (v39, s10)
                  else
                    if p2.toInt = 6 then
                      zLet ((s10.2.2 a0 3).getD 0) fun v41 =>
                      zLet ((s10.2.2 v41 3).getD 0) fun v42 =>
                      zLet (s10.1 v42 p1.toNatClampNeg) fun v43 =>
                      (v43, s10)
                    else
                      if p2.toInt = 7 then
                        zLet ((s10.2.2 a0 3).getD 0) fun v45 =>
                        zLet ((s10.2.2 v45 4).getD 0) fun v46 =>
                        zLet (s10.1 v46 p1.toNatClampNeg) fun v47 =>
                        (v47, s10)
                      else
                        if p2.toInt = 8 then
                          zLet ((s10.2.2 a0 3).getD 0) fun v49 =>
                          zLet2 (F_X6_isSource v49 p1 s10) fun v50 s51 =>
                          if v50.toInt = 0 then
                            zLet ((0 : Int32)) fun v53 =>
                            (v53, s51)
                          else
                            zLet ((1 : Int32)) fun v54 =>
                            (v54, s51)
                        else
                          if p2.toInt = 9 then
                            zLet ((s10.2.2 a0 6).getD 0) fun v56 =>
                            zLet ((s10.2.2 v56 1).getD 0) fun v57 =>
                            zLet (s10.1 v57 p1.toNatClampNeg) fun v58 =>
                            (v58, s10)
                          else
                            if p2.toInt = 10 then
                              zLet ((s10.2.2 a0 6).getD 0) fun v60 =>
                              zLet ((s10.2.2 v60 2).getD 0) fun v61 =>
                              zLet (s10.1 v61 p1.toNatClampNeg) fun v62 =>
                              (v62, s10)
                            else
                              if p2.toInt = 11 then
                                zLet ((s10.2.2 a0 2).getD 0) fun v64 =>
                                zLet ((s10.2.2 v64 2).getD 0) fun v65 =>
                                zLet (s10.1 v65 p1.toNatClampNeg) fun v66 =>
                                (v66, s10)
                              else
                                zLet ((s10.2.2 a0 2).getD 0) fun v67 =>
                                zLet2 (F_X5_dried v67 p1 s10) fun v68 s69 =>
                                (v68, s69)
set_option maxRecDepth 100000 in
noncomputable def F_X10_claim (a0 : Nat) (p1 : Int32) (p2 : Int32) (σ : zS) : Int32 × zS :=
  zLet2 (F_X10_isContest a0 p1 p2 σ) fun v1 s2 =>
  if v1.toInt = 0 then
    zLet ((-1 : Int32)) fun v4 =>
    (v4, s2)
  else
    zLet ((s2.2.2 a0 2).getD 0) fun v5 =>
    zLet2 (F_X5_claimOf v5 p1 p2 s2) fun v6 s7 =>
    (v6, s7)
set_option maxRecDepth 100000 in
noncomputable def F_X10_winner (a0 : Nat) (p1 : Int32) (σ : zS) : Int32 × zS :=
  zLet2 (F_X10_isLaw a0 p1 σ) fun v1 s2 =>
  if v1.toInt = 0 then
    zLet ((-1 : Int32)) fun v8 =>
    (v8, s2)
  else
    zLet (F_X10_look a0 s2) fun s4 =>
    zLet ((s4.2.2 a0 2).getD 0) fun v5 =>
    zLet2 (F_X5_winnerBy v5 p1 s4) fun v6 s7 =>
    (v6, s7)
set_option maxRecDepth 100000 in
noncomputable def F_X10_count (a0 : Nat) (p1 : Int32) (σ : zS) : Int32 × zS :=
  zLet (F_X10_look a0 σ) fun s1 =>
  if p1.toInt = 0 then
    zLet ((s1.2.2 a0 10).getD 0) fun v3 =>
    zLet (s1.1 v3 0) fun v4 =>
    (v4, s1)
  else
    if p1.toInt = 1 then
      zLet ((s1.2.2 a0 6).getD 0) fun v6 =>
      zLet (s1.1 v6 4) fun v7 =>
      (v7, s1)
    else
      if p1.toInt = 2 then
        zLet ((s1.2.2 a0 6).getD 0) fun v9 =>
        zLet2 (F_X1_moon v9 s1) fun v10 s11 =>
        (v10, s11)
      else
        if p1.toInt = 3 then
          zLet ((s1.2.2 a0 6).getD 0) fun v13 =>
          zLet (s1.1 v13 5) fun v14 =>
          (v14, s1)
        else
          if p1.toInt = 4 then
            zLet ((s1.2.2 a0 3).getD 0) fun v16 =>
            zLet2 (F_X6_sources v16 s1) fun v17 s18 =>
            (v17, s18)
          else
            if p1.toInt = 5 then
              zLet ((s1.2.2 a0 6).getD 0) fun v20 =>
              zLet (s1.1 v20 3) fun v21 =>
              (v21, s1)
            else
              if p1.toInt = 6 then
                zLet2 (F_X10_mouthFlow a0 s1) fun v23 s24 =>
                (v23, s24)
              else
                if p1.toInt = 7 then
                  zLet ((s1.2.2 a0 6).getD 0) fun v26 =>
                  zLet ((s1.2.2 v26 2).getD 0) fun v27 =>
                  zLet2 (F_X10_sumOf a0 v27 s1) fun v28 s29 =>
                  (v28, s29)
                else
                  if p1.toInt = 8 then
                    zLet ((s1.2.2 a0 0).getD 0) fun v31 =>
                    zLet (s1.1 v31 1) fun v32 =>
                    (v32, s1)
                  else
                    if p1.toInt = 9 then
                      zLet ((s1.2.2 a0 4).getD 0) fun v34 =>
                      zLet (s1.1 v34 2) fun v35 =>
                      (v35, s1)
                    else
                      if p1.toInt = 10 then
                        zLet ((s1.2.2 a0 5).getD 0) fun v37 =>
                        zLet (s1.1 v37 4) fun v38 =>
                        (v38, s1)
                      else
                        if p1.toInt = 11 then
                          zLet (s1.1 a0 12) fun v40 =>
                          zLet (F_J6_bitCount_0f7a4 v40) fun v41 =>
                          (v41, s1)
                        else
                          if p1.toInt = 12 then
                            zLet ((s1.2.2 a0 10).getD 0) fun v43 =>
                            zLet ((s1.2.2 a0 10).getD 0) fun v44 =>
                            zLet (s1.1 v44 13) fun v45 =>
                            zLet ((s1.2.2 a0 6).getD 0) fun v46 =>
                            zLet (s1.1 v46 4) fun v47 =>
                            zLet2 (F_X9_isStorm v43 v45 v47 s1) fun v48 s49 =>
                            if v48.toInt = 0 then
                              zLet ((0 : Int32)) fun v51 =>
                              (v51, s49)
                            else
                              zLet ((1 : Int32)) fun v52 =>
                              (v52, s49)
                          else
                            if p1.toInt = 13 then
                              zLet ((s1.2.2 a0 10).getD 0) fun v54 =>
                              zLet ((s1.2.2 v54 3).getD 0) fun v55 =>
                              zLet2 (F_X10_sumOf a0 v55 s1) fun v56 s57 =>
                              (v56, s57)
                            else
                              if p1.toInt = 14 then
                                zLet2 (F_X10_turnedPlaces a0 s1) fun v59 s60 =>
                                (v59, s60)
                              else
                                if p1.toInt = 15 then
                                  zLet ((s1.2.2 a0 10).getD 0) fun v62 =>
                                  zLet ((s1.2.2 v62 4).getD 0) fun v63 =>
                                  zLet2 (F_X10_sumOf a0 v63 s1) fun v64 s65 =>
                                  (v64, s65)
                                else
                                  if p1.toInt = 16 then
                                    zLet ((s1.2.2 a0 3).getD 0) fun v67 =>
                                    zLet2 (F_X6_greatestFar v67 s1) fun v68 s69 =>
                                    (v68, s69)
                                  else
                                    zLet ((-1 : Int32)) fun v70 =>
                                    (v70, s1)
set_option maxRecDepth 100000 in
noncomputable def F_X10_dam (a0 : Nat) (p1 : Int32) (p2 : Int32) (σ : zS) : Int32 × zS :=
  if p1.toInt = 0 then
    zLet ((0 : Int32)) fun v2 =>
    (v2, σ)
  else
    zLet2 (F_X10_isPlace a0 p1 σ) fun v3 s4 =>
    if v3.toInt = 0 then
      zLet ((0 : Int32)) fun v6 =>
      (v6, s4)
    else
      zLet ((s4.2.2 a0 6).getD 0) fun v7 =>
      zLet (s4.1 v7 3) fun v8 =>
      zLet (F_X10_has v8 p1) fun v9 =>
      if v9.toInt = p2.toInt then
        zLet ((0 : Int32)) fun v22 =>
        (v22, s4)
      else
        zLet ((s4.2.2 a0 4).getD 0) fun v11 =>
        zLet ((s4.2.2 a0 6).getD 0) fun v12 =>
        zLet (F_X4_push v11 v12 s4) fun s13 =>
        zLet ((s13.2.2 a0 6).getD 0) fun v14 =>
        zLet (s13.1 v14 3) fun v15 =>
        zLet (F_X10_bit p1) fun v16 =>
        zLet (v15 ^^^ v16) fun v17 =>
        zLet ((zu s13.1 v14 3 v17, s13.2.1, s13.2.2)) fun s18 =>
        zLet ((1 : Int32)) fun v21 =>
        (v21, s18)
set_option maxRecDepth 100000 in
noncomputable def F_X10_turn (a0 : Nat) (p1 : Int32) (p2 : Int32) (σ : zS) : Int32 × zS :=
  zLet2 (F_X10_isTurn a0 p1 p2 σ) fun v1 s2 =>
  if v1.toInt = 0 then
    zLet ((0 : Int32)) fun v11 =>
    (v11, s2)
  else
    zLet ((s2.2.2 a0 4).getD 0) fun v4 =>
    zLet ((s2.2.2 a0 6).getD 0) fun v5 =>
    zLet (F_X4_push v4 v5 s2) fun s6 =>
    zLet ((s6.2.2 a0 6).getD 0) fun v7 =>
    zLet ((s6.2.2 v7 0).getD 0) fun v8 =>
    zLet ((zu s6.1 v8 p1.toNatClampNeg p2, s6.2.1, s6.2.2)) fun s9 =>
    zLet ((1 : Int32)) fun v10 =>
    (v10, s9)
set_option maxRecDepth 100000 in
noncomputable def F_X10_rule (a0 : Nat) (p1 : Int32) (σ : zS) : Int32 × zS :=
  zLet2 (F_X10_isLaw a0 p1 σ) fun v1 s2 =>
  if v1.toInt = 0 then
    zLet ((0 : Int32)) fun v4 =>
    (v4, s2)
  else
    zLet ((s2.2.2 a0 6).getD 0) fun v5 =>
    zLet (s2.1 v5 5) fun v6 =>
    if v6.toInt = p1.toInt then
      zLet ((0 : Int32)) fun v14 =>
      (v14, s2)
    else
      zLet ((s2.2.2 a0 4).getD 0) fun v8 =>
      zLet ((s2.2.2 a0 6).getD 0) fun v9 =>
      zLet (F_X4_push v8 v9 s2) fun s10 =>
      zLet ((s10.2.2 a0 6).getD 0) fun v11 =>
      zLet ((zu s10.1 v11 5 p1, s10.2.1, s10.2.2)) fun s12 =>
      zLet ((1 : Int32)) fun v13 =>
      (v13, s12)
set_option maxRecDepth 100000 in
noncomputable def F_X10_months (a0 : Nat) (p1 : Int32) (σ : zS) : Int32 × zS :=
  zLet ((0 : Int32)) fun v1 =>
  zLet ((60 : Int32)) fun v2 =>
  zLet (F_X10_isWithin p1 v1 v2) fun v3 =>
  if v3.toInt = 0 then
    zLet ((-1 : Int32)) fun v19 =>
    (v19, σ)
  else
    if 0 < p1.toInt then
      zLet ((σ.2.2 a0 4).getD 0) fun v8 =>
      zLet ((σ.2.2 a0 6).getD 0) fun v9 =>
      zLet (F_X4_push v8 v9 σ) fun s10 =>
      zLet ((s10.2.2 a0 2).getD 0) fun v11 =>
      zLet ((s10.2.2 a0 10).getD 0) fun v12 =>
      zLet ((s10.2.2 a0 6).getD 0) fun v13 =>
      zLet ((s10.2.2 a0 10).getD 0) fun v14 =>
      zLet (s10.1 v14 13) fun v15 =>
      zLet (F_X5_goThrough v11 v12 v13 p1 v15 s10) fun s16 =>
      zLet ((s16.2.2 a0 6).getD 0) fun v17 =>
      zLet (s16.1 v17 4) fun v18 =>
      (v18, s16)
    else
      zLet ((σ.2.2 a0 6).getD 0) fun v6 =>
      zLet (σ.1 v6 4) fun v7 =>
      (v7, σ)
set_option maxRecDepth 100000 in
noncomputable def F_X10_undo (a0 : Nat) (σ : zS) : Int32 × zS :=
  zLet ((σ.2.2 a0 4).getD 0) fun v1 =>
  zLet ((σ.2.2 a0 6).getD 0) fun v2 =>
  zLet2 (F_X4_pop v1 v2 σ) fun v3 s4 =>
  (v3, s4)
set_option maxRecDepth 100000 in
noncomputable def F_X10_hold (a0 : Nat) (p1 : Int32) (σ : zS) : Int32 × zS :=
  zLet ((0 : Int32)) fun v1 =>
  zLet ((2 : Int32)) fun v2 =>
  zLet (F_X10_isWithin p1 v1 v2) fun v3 =>
  if v3.toInt = 0 then
    zLet ((0 : Int32)) fun v14 =>
    (v14, σ)
  else
    zLet ((σ.2.2 a0 8).getD 0) fun v5 =>
    zLet ((σ.2.2 v5 p1.toNatClampNeg).getD 0) fun v6 =>
    zLet ((σ.2.2 a0 6).getD 0) fun v7 =>
    zLet (F_X1_copy v6 v7 σ) fun s8 =>
    zLet (s8.1 a0 12) fun v9 =>
    zLet (F_X10_bit p1) fun v10 =>
    zLet (v9 ||| v10) fun v11 =>
    zLet ((zu s8.1 a0 12 v11, s8.2.1, s8.2.2)) fun s12 =>
    zLet ((1 : Int32)) fun v13 =>
    (v13, s12)
set_option maxRecDepth 100000 in
noncomputable def F_X10_restore (a0 : Nat) (p1 : Int32) (σ : zS) : Int32 × zS :=
  zLet ((0 : Int32)) fun v1 =>
  zLet ((2 : Int32)) fun v2 =>
  zLet (F_X10_isWithin p1 v1 v2) fun v3 =>
  if v3.toInt = 0 then
    zLet ((0 : Int32)) fun v5 =>
    (v5, σ)
  else
    zLet (σ.1 a0 12) fun v6 =>
    zLet (F_X10_has v6 p1) fun v7 =>
    if v7.toInt = 0 then
      zLet ((0 : Int32)) fun v17 =>
      (v17, σ)
    else
      zLet ((σ.2.2 a0 6).getD 0) fun v9 =>
      zLet ((σ.2.2 a0 8).getD 0) fun v10 =>
      zLet ((σ.2.2 v10 p1.toNatClampNeg).getD 0) fun v11 =>
      zLet (F_X1_copy v9 v11 σ) fun s12 =>
      zLet ((s12.2.2 a0 4).getD 0) fun v13 =>
      zLet ((0 : Int32)) fun v14 =>
      zLet ((zu s12.1 v13 2 v14, s12.2.1, s12.2.2)) fun s15 =>
      zLet ((1 : Int32)) fun v16 =>
      (v16, s15)
set_option maxRecDepth 100000 in
noncomputable def F_X10_behind (a0 : Nat) (p1 : Int32) (p2 : Int32) (σ : zS) : Int32 × zS :=
  zLet2 (F_X10_isContest a0 p1 p2 σ) fun v1 s2 =>
  if v1.toInt = 0 then
    zLet ((-1 : Int32)) fun v16 =>
    (v16, s2)
  else
    zLet ((s2.2.2 a0 2).getD 0) fun v4 =>
    zLet2 (F_X5_winnerBy v4 p2 s2) fun v5 s6 =>
    if v5.toInt < 0 then
      zLet ((-1 : Int32)) fun v15 =>
      (v15, s6)
    else
      zLet ((s6.2.2 a0 2).getD 0) fun v8 =>
      zLet ((s6.2.2 v8 4).getD 0) fun v9 =>
      zLet (s6.1 v9 v5.toNatClampNeg) fun v10 =>
      zLet ((s6.2.2 a0 2).getD 0) fun v11 =>
      zLet ((s6.2.2 v11 4).getD 0) fun v12 =>
      zLet (s6.1 v12 p1.toNatClampNeg) fun v13 =>
      zLet (v10 - v13) fun v14 =>
      (v14, s6)
set_option maxRecDepth 100000 in
noncomputable def F_X10_margin (a0 : Nat) (p1 : Int32) (σ : zS) : Int32 × zS :=
  zLet2 (F_X10_isLaw a0 p1 σ) fun v1 s2 =>
  if v1.toInt = 0 then
    zLet ((-1 : Int32)) fun v25 =>
    (v25, s2)
  else
    zLet (F_X10_look a0 s2) fun s4 =>
    zLet ((s4.2.2 a0 2).getD 0) fun v5 =>
    zLet (F_X5_weigh v5 p1 s4) fun s6 =>
    zLet ((s6.2.2 a0 2).getD 0) fun v7 =>
    zLet ((-1 : Int32)) fun v8 =>
    zLet2 (F_X5_greatestClaim v7 v8 s6) fun v9 s10 =>
    zLet ((s10.2.2 a0 2).getD 0) fun v11 =>
    zLet2 (F_X5_greatestClaim v11 v9 s10) fun v12 s13 =>
    if v9.toInt < 0 then
      zLet ((-2 : Int32)) fun v15 =>
      (v15, s13)
    else
      if v12.toInt < 0 then
        zLet ((-2 : Int32)) fun v24 =>
        (v24, s13)
      else
        zLet ((s13.2.2 a0 2).getD 0) fun v17 =>
        zLet ((s13.2.2 v17 4).getD 0) fun v18 =>
        zLet (s13.1 v18 v9.toNatClampNeg) fun v19 =>
        zLet ((s13.2.2 a0 2).getD 0) fun v20 =>
        zLet ((s13.2.2 v20 4).getD 0) fun v21 =>
        zLet (s13.1 v21 v12.toNatClampNeg) fun v22 =>
        zLet (v19 - v22) fun v23 =>
        (v23, s13)
set_option maxRecDepth 100000 in
noncomputable def F_X10_rank (a0 : Nat) (p1 : Int32) (p2 : Int32) (σ : zS) : Int32 × zS :=
  zLet2 (F_X10_isContest a0 p1 p2 σ) fun v1 s2 =>
  if v1.toInt = 0 then
    zLet ((-1 : Int32)) fun v9 =>
    (v9, s2)
  else
    zLet ((s2.2.2 a0 2).getD 0) fun v4 =>
    zLet (F_X5_weigh v4 p2 s2) fun s5 =>
    zLet ((s5.2.2 a0 2).getD 0) fun v6 =>
    zLet2 (F_X5_rankOf v6 p1 s5) fun v7 s8 =>
    (v7, s8)
set_option maxRecDepth 100000 in
noncomputable def F_X10_vote_36 (a0 : Nat) (p1 : Int32)  : Nat → Int32 → Int32 → zS → Int32 × zS
  | 0, _, _, s => (0, s)
  | n + 1, x13, x14, τ15 =>
    zLet ((3 : Int32)) fun v16 =>
    if x13.toInt < v16.toInt then
      zLet2 (F_X10_votesFor a0 x13 τ15) fun v21 s22 =>
      zLet2 (F_X10_votesFor a0 x14 s22) fun v23 s24 =>
      if v23.toInt < v21.toInt then
        zLet (x13 + (1 : Int32)) fun v29 =>
        F_X10_vote_36 a0 p1  n v29 x13 s24
      else
        zLet (x13 + (1 : Int32)) fun v28 =>
        F_X10_vote_36 a0 p1  n v28 x14 s24
    else
      if p1.toInt = 0 then
        (x14, τ15)
      else
        zLet2 (F_X10_votesFor a0 x14 τ15) fun v19 s20 =>
        (v19, s20)
set_option maxRecDepth 100000 in
noncomputable def F_X10_vote (a0 : Nat) (p1 : Int32) (σ : zS) : Int32 × zS :=
  zLet ((0 : Int32)) fun v1 =>
  zLet ((1 : Int32)) fun v2 =>
  zLet (F_X10_isWithin p1 v1 v2) fun v3 =>
  if v3.toInt = 0 then
    zLet ((-1 : Int32)) fun v31 =>
    (v31, σ)
  else
    zLet (F_X10_look a0 σ) fun s5 =>
    zLet ((s5.2.2 a0 3).getD 0) fun v6 =>
    zLet2 (F_X6_sources v6 s5) fun v7 s8 =>
    if v7.toInt = 0 then
      zLet ((-2 : Int32)) fun v30 =>
      (v30, s8)
    else
      zLet (F_X10_castVotes a0 s8) fun s10 =>
      zLet ((0 : Int32)) fun v11 =>
      zLet ((1 : Int32)) fun v12 =>
      F_X10_vote_36 a0 p1  10000 v12 v11 s10
set_option maxRecDepth 100000 in
noncomputable def F_X10_richest_15 (a0 : Nat) (p1 : Int32)  : Nat → Int32 → Int32 → zS → Int32 × zS
  | 0, _, _, s => (0, s)
  | n + 1, x7, x8, τ9 =>
    zLet ((τ9.2.2 a0 10).getD 0) fun v10 =>
    zLet (τ9.1 v10 0) fun v11 =>
    if x7.toInt < v11.toInt then
      zLet ((τ9.2.2 a0 6).getD 0) fun v22 =>
      zLet ((τ9.2.2 v22 2).getD 0) fun v23 =>
      zLet (τ9.1 v23 x7.toNatClampNeg) fun v24 =>
      zLet ((τ9.2.2 a0 6).getD 0) fun v25 =>
      zLet ((τ9.2.2 v25 2).getD 0) fun v26 =>
      zLet (τ9.1 v26 x8.toNatClampNeg) fun v27 =>
      if v27.toInt < v24.toInt then
        zLet (x7 + (1 : Int32)) fun v32 =>
        F_X10_richest_15 a0 p1  n v32 x7 τ9
      else
        zLet (x7 + (1 : Int32)) fun v31 =>
        F_X10_richest_15 a0 p1  n v31 x8 τ9
    else
      zLet ((τ9.2.2 a0 6).getD 0) fun v13 =>
      zLet ((τ9.2.2 v13 2).getD 0) fun v14 =>
      zLet (τ9.1 v14 x8.toNatClampNeg) fun v15 =>
      if v15.toInt = 0 then
        zLet ((-2 : Int32)) fun v21 =>
        (v21, τ9)
      else
        if p1.toInt = 0 then
          (x8, τ9)
        else
          zLet ((τ9.2.2 a0 6).getD 0) fun v18 =>
          zLet ((τ9.2.2 v18 2).getD 0) fun v19 =>
          zLet (τ9.1 v19 x8.toNatClampNeg) fun v20 =>
          (v20, τ9)
set_option maxRecDepth 100000 in
noncomputable def F_X10_richest (a0 : Nat) (p1 : Int32) (σ : zS) : Int32 × zS :=
  zLet ((0 : Int32)) fun v1 =>
  zLet ((1 : Int32)) fun v2 =>
  zLet (F_X10_isWithin p1 v1 v2) fun v3 =>
  if v3.toInt = 0 then
    zLet ((-1 : Int32)) fun v33 =>
    (v33, σ)
  else
    zLet ((0 : Int32)) fun v5 =>
    zLet ((1 : Int32)) fun v6 =>
    F_X10_richest_15 a0 p1  10000 v6 v5 σ
set_option maxRecDepth 100000 in
noncomputable def F_X10_turnFor_27 (x5 : Int32) (a0 : Nat) (p1 : Int32) (p2 : Int32) (kLp6 : Int32 → zS → Int32 × zS) : Nat → Int32 → zS → Int32 × zS
  | 0, _, s => (0, s)
  | n + 1, x12, τ13 =>
    zLet ((τ13.2.2 a0 10).getD 0) fun v14 =>
    zLet (τ13.1 v14 0) fun v15 =>
    if x12.toInt < v15.toInt then
      if x5.toInt = p1.toInt then
        zLet (x12 + (1 : Int32)) fun v19 =>
        F_X10_turnFor_27 x5 a0 p1 p2 kLp6 n v19 τ13
      else
        zLet2 (F_X10_isTurn a0 x5 x12 τ13) fun v20 s21 =>
        if v20.toInt = 0 then
          zLet (x12 + (1 : Int32)) fun v23 =>
          F_X10_turnFor_27 x5 a0 p1 p2 kLp6 n v23 s21
        else
          zLet2 (F_X10_winsTurned a0 p1 p2 x5 x12 s21) fun v24 s25 =>
          if v24.toInt = 0 then
            zLet (x12 + (1 : Int32)) fun v27 =>
            F_X10_turnFor_27 x5 a0 p1 p2 kLp6 n v27 s25
          else
            zLet ((100 : Int32)) fun v28 =>
            zLet (v28 * x5) fun v29 =>
            zLet (v29 + x12) fun v30 =>
            (v30, s25)
    else
      zLet (x5 + (1 : Int32)) fun v17 =>
      kLp6 v17 τ13
set_option maxRecDepth 100000 in
noncomputable def F_X10_turnFor_13 (a0 : Nat) (p1 : Int32) (p2 : Int32)  : Nat → Int32 → zS → Int32 × zS
  | 0, _, s => (0, s)
  | n + 1, x5, τ6 =>
    zLet ((τ6.2.2 a0 10).getD 0) fun v7 =>
    zLet (τ6.1 v7 0) fun v8 =>
    if x5.toInt < v8.toInt then
      zLet ((0 : Int32)) fun v11 =>
      F_X10_turnFor_27 x5 a0 p1 p2 (F_X10_turnFor_13 a0 p1 p2  n) 10000 v11 τ6
    else
      zLet ((-2 : Int32)) fun v10 =>
      (v10, τ6)
set_option maxRecDepth 100000 in
noncomputable def F_X10_turnFor (a0 : Nat) (p1 : Int32) (p2 : Int32) (σ : zS) : Int32 × zS :=
  zLet2 (F_X10_isContest a0 p1 p2 σ) fun v1 s2 =>
  if v1.toInt = 0 then
    zLet ((-1 : Int32)) fun v31 =>
    (v31, s2)
  else
    zLet ((1 : Int32)) fun v4 =>
    F_X10_turnFor_13 a0 p1 p2  10000 v4 s2
set_option maxRecDepth 100000 in
noncomputable def F_X10_damFor_13 (a0 : Nat) (p1 : Int32) (p2 : Int32)  : Nat → Int32 → zS → Int32 × zS
  | 0, _, s => (0, s)
  | n + 1, x5, τ6 =>
    zLet ((τ6.2.2 a0 10).getD 0) fun v7 =>
    zLet (τ6.1 v7 0) fun v8 =>
    if x5.toInt < v8.toInt then
      zLet ((τ6.2.2 a0 6).getD 0) fun v11 =>
      zLet (τ6.1 v11 3) fun v12 =>
      zLet (F_X10_has v12 x5) fun v13 =>
      if v13.toInt = 0 then
        zLet ((τ6.2.2 a0 2).getD 0) fun v16 =>
        zLet ((τ6.2.2 a0 6).getD 0) fun v17 =>
        zLet (τ6.1 v17 3) fun v18 =>
        zLet (F_X10_bit x5) fun v19 =>
        zLet (v18 ||| v19) fun v20 =>
        zLet (F_X5_run v16 v20 τ6) fun s21 =>
        zLet ((s21.2.2 a0 2).getD 0) fun v22 =>
        zLet2 (F_X5_winnerBy v22 p2 s21) fun v23 s24 =>
        if v23.toInt = p1.toInt then
          (x5, s24)
        else
          zLet (x5 + (1 : Int32)) fun v26 =>
          F_X10_damFor_13 a0 p1 p2  n v26 s24
      else
        zLet (x5 + (1 : Int32)) fun v15 =>
        F_X10_damFor_13 a0 p1 p2  n v15 τ6
    else
      zLet ((-2 : Int32)) fun v10 =>
      (v10, τ6)
set_option maxRecDepth 100000 in
noncomputable def F_X10_damFor (a0 : Nat) (p1 : Int32) (p2 : Int32) (σ : zS) : Int32 × zS :=
  zLet2 (F_X10_isContest a0 p1 p2 σ) fun v1 s2 =>
  if v1.toInt = 0 then
    zLet ((-1 : Int32)) fun v27 =>
    (v27, s2)
  else
    zLet ((1 : Int32)) fun v4 =>
    F_X10_damFor_13 a0 p1 p2  10000 v4 s2
set_option maxRecDepth 100000 in
noncomputable def F_X10_loss (a0 : Nat) (p1 : Int32) (σ : zS) : Int32 × zS :=
  if p1.toInt = 0 then
    zLet ((-1 : Int32)) fun v2 =>
    (v2, σ)
  else
    zLet2 (F_X10_isPlace a0 p1 σ) fun v3 s4 =>
    if v3.toInt = 0 then
      zLet ((-1 : Int32)) fun v9 =>
      (v9, s4)
    else
      zLet (F_X10_look a0 s4) fun s6 =>
      zLet2 (F_X10_lossOf a0 p1 s6) fun v7 s8 =>
      (v7, s8)
set_option maxRecDepth 100000 in
noncomputable def F_X10_part (a0 : Nat) (p1 : Int32) (σ : zS) : Int32 × zS :=
  if p1.toInt = 0 then
    zLet ((-1 : Int32)) fun v2 =>
    (v2, σ)
  else
    zLet2 (F_X10_isPlace a0 p1 σ) fun v3 s4 =>
    if v3.toInt = 0 then
      zLet ((-1 : Int32)) fun v16 =>
      (v16, s4)
    else
      zLet (F_X10_look a0 s4) fun s6 =>
      zLet2 (F_X10_mouthFlow a0 s6) fun v7 s8 =>
      if v7.toInt = 0 then
        zLet ((0 : Int32)) fun v15 =>
        (v15, s8)
      else
        zLet2 (F_X10_lossOf a0 p1 s8) fun v10 s11 =>
        zLet ((1000 : Int32)) fun v12 =>
        zLet (v10 * v12) fun v13 =>
        zLet (v13 / v7) fun v14 =>
        (v14, s11)
set_option maxRecDepth 100000 in
noncomputable def F_X10_main_21 (a0 : Nat) (p1 : Int32)  : Nat → Int32 → Int32 → zS → Int32 × zS
  | 0, _, _, s => (0, s)
  | n + 1, x9, x10, τ11 =>
    if x9.toInt < p1.toInt then
      zLet ((-1 : Int32)) fun v15 =>
      if x10.toInt = v15.toInt then
        (x10, τ11)
      else
        zLet2 (F_X10_greatestInto a0 x10 τ11) fun v17 s18 =>
        zLet (x9 + (1 : Int32)) fun v19 =>
        F_X10_main_21 a0 p1  n v19 v17 s18
    else
      (x10, τ11)
set_option maxRecDepth 100000 in
noncomputable def F_X10_main (a0 : Nat) (p1 : Int32) (σ : zS) : Int32 × zS :=
  zLet2 (F_X10_hasMouth a0 σ) fun v1 s2 =>
  if v1.toInt = 0 then
    zLet ((-1 : Int32)) fun v4 =>
    (v4, s2)
  else
    if p1.toInt < 0 then
      zLet ((-1 : Int32)) fun v20 =>
      (v20, s2)
    else
      zLet (F_X10_look a0 s2) fun s6 =>
      zLet ((0 : Int32)) fun v7 =>
      zLet ((0 : Int32)) fun v8 =>
      F_X10_main_21 a0 p1  4294967299 v8 v7 s6
set_option maxRecDepth 100000 in
noncomputable def F_X10_agree_20 (a0 : Nat) (p1 : Int32)  : Nat → Int32 → Int32 → zS → Int32 × zS
  | 0, _, _, s => (0, s)
  | n + 1, x8, x9, τ10 =>
    if x8.toInt < p1.toInt then
      zLet ((τ10.2.2 a0 2).getD 0) fun v14 =>
      zLet ((0 : Int32)) fun v15 =>
      zLet2 (F_X5_winnerBy v14 v15 τ10) fun v16 s17 =>
      if 0 < v16.toInt then
        zLet ((s17.2.2 a0 2).getD 0) fun v22 =>
        zLet ((1 : Int32)) fun v23 =>
        zLet2 (F_X5_winnerBy v22 v23 s17) fun v24 s25 =>
        if v16.toInt = v24.toInt then
          zLet ((s25.2.2 a0 2).getD 0) fun v30 =>
          zLet ((2 : Int32)) fun v31 =>
          zLet2 (F_X5_winnerBy v30 v31 s25) fun v32 s33 =>
          if v16.toInt = v32.toInt then
            zLet (x9 + (1 : Int32)) fun v38 =>
            zLet ((s33.2.2 a0 2).getD 0) fun v39 =>
            zLet (F_X5_goOn v39 s33) fun s40 =>
            zLet (x8 + (1 : Int32)) fun v41 =>
            F_X10_agree_20 a0 p1  n v41 v38 s40
          else
            zLet ((s33.2.2 a0 2).getD 0) fun v35 =>
            zLet (F_X5_goOn v35 s33) fun s36 =>
            zLet (x8 + (1 : Int32)) fun v37 =>
            F_X10_agree_20 a0 p1  n v37 x9 s36
        else
          zLet ((s25.2.2 a0 2).getD 0) fun v27 =>
          zLet (F_X5_goOn v27 s25) fun s28 =>
          zLet (x8 + (1 : Int32)) fun v29 =>
          F_X10_agree_20 a0 p1  n v29 x9 s28
      else
        zLet ((s17.2.2 a0 2).getD 0) fun v19 =>
        zLet (F_X5_goOn v19 s17) fun s20 =>
        zLet (x8 + (1 : Int32)) fun v21 =>
        F_X10_agree_20 a0 p1  n v21 x9 s20
    else
      (x9, τ10)
set_option maxRecDepth 100000 in
noncomputable def F_X10_agree (a0 : Nat) (p1 : Int32) (σ : zS) : Int32 × zS :=
  zLet ((1 : Int32)) fun v1 =>
  zLet ((24 : Int32)) fun v2 =>
  zLet (F_X10_isWithin p1 v1 v2) fun v3 =>
  if v3.toInt = 0 then
    zLet ((-1 : Int32)) fun v42 =>
    (v42, σ)
  else
    zLet ((0 : Int32)) fun v5 =>
    zLet (F_X10_tryFromNow a0 σ) fun s6 =>
    zLet ((0 : Int32)) fun v7 =>
    F_X10_agree_20 a0 p1  4294967299 v7 v5 s6
set_option maxRecDepth 100000 in
noncomputable def F_X10_driest_43 (a0 : Nat) (p1 : Int32) (p2 : Int32)  : Nat → Int32 → Int32 → Int32 → zS → Int32 × zS
  | 0, _, _, _, s => (0, s)
  | n + 1, x19, x20, x21, τ22 =>
    if x19.toInt < p1.toInt then
      zLet ((τ22.2.2 a0 2).getD 0) fun v27 =>
      zLet (F_X5_goOn v27 τ22) fun s28 =>
      zLet2 (F_X10_mouthFlow a0 s28) fun v29 s30 =>
      if v29.toInt < x20.toInt then
        zLet2 (F_X10_mouthFlow a0 s30) fun v35 s36 =>
        zLet (x19 + (1 : Int32)) fun v37 =>
        F_X10_driest_43 a0 p1 p2  n v37 v35 x19 s36
      else
        zLet (x19 + (1 : Int32)) fun v34 =>
        F_X10_driest_43 a0 p1 p2  n v34 x20 x21 s30
    else
      if p2.toInt = 0 then
        (x21, τ22)
      else
        (x20, τ22)
set_option maxRecDepth 100000 in
noncomputable def F_X10_driest (a0 : Nat) (p1 : Int32) (p2 : Int32) (σ : zS) : Int32 × zS :=
  zLet2 (F_X10_hasMouth a0 σ) fun v1 s2 =>
  if v1.toInt = 0 then
    zLet ((-1 : Int32)) fun v4 =>
    (v4, s2)
  else
    zLet ((1 : Int32)) fun v5 =>
    zLet ((24 : Int32)) fun v6 =>
    zLet (F_X10_isWithin p1 v5 v6) fun v7 =>
    if v7.toInt = 0 then
      zLet ((-1 : Int32)) fun v9 =>
      (v9, s2)
    else
      zLet ((0 : Int32)) fun v10 =>
      zLet ((1 : Int32)) fun v11 =>
      zLet (F_X10_isWithin p2 v10 v11) fun v12 =>
      if v12.toInt = 0 then
        zLet ((-1 : Int32)) fun v38 =>
        (v38, s2)
      else
        zLet ((0 : Int32)) fun v14 =>
        zLet (F_X10_tryFromNow a0 s2) fun s15 =>
        zLet2 (F_X10_mouthFlow a0 s15) fun v16 s17 =>
        zLet ((1 : Int32)) fun v18 =>
        F_X10_driest_43 a0 p1 p2  4294967299 v18 v16 v14 s17
set_option maxRecDepth 100000 in
noncomputable def F_X10_reign_44 (a0 : Nat) (p1 : Int32) (p2 : Int32) (p3 : Int32)  : Nat → Int32 → zS → Int32 × zS
  | 0, _, s => (0, s)
  | n + 1, x19, τ20 =>
    if x19.toInt < p2.toInt then
      zLet ((τ20.2.2 a0 2).getD 0) fun v29 =>
      zLet2 (F_X5_winnerBy v29 p1 τ20) fun v30 s31 =>
      if 0 < v30.toInt then
        zLet ((s31.2.2 a0 9).getD 0) fun v36 =>
        zLet (s31.1 v36 v30.toNatClampNeg) fun v37 =>
        zLet ((1 : Int32)) fun v38 =>
        zLet (v37 + v38) fun v39 =>
        zLet ((zu s31.1 v36 v30.toNatClampNeg v39, s31.2.1, s31.2.2)) fun s40 =>
        zLet ((s40.2.2 a0 2).getD 0) fun v41 =>
        zLet (F_X5_goOn v41 s40) fun s42 =>
        zLet (x19 + (1 : Int32)) fun v43 =>
        F_X10_reign_44 a0 p1 p2 p3  n v43 s42
      else
        zLet ((s31.2.2 a0 2).getD 0) fun v33 =>
        zLet (F_X5_goOn v33 s31) fun s34 =>
        zLet (x19 + (1 : Int32)) fun v35 =>
        F_X10_reign_44 a0 p1 p2 p3  n v35 s34
    else
      if p3.toInt = 0 then
        zLet2 (F_X10_tallied a0 τ20) fun v27 s28 =>
        (v27, s28)
      else
        zLet2 (F_X10_mostTallied a0 τ20) fun v25 s26 =>
        (v25, s26)
set_option maxRecDepth 100000 in
noncomputable def F_X10_reign (a0 : Nat) (p1 : Int32) (p2 : Int32) (p3 : Int32) (σ : zS) : Int32 × zS :=
  zLet2 (F_X10_isLaw a0 p1 σ) fun v1 s2 =>
  if v1.toInt = 0 then
    zLet ((-1 : Int32)) fun v4 =>
    (v4, s2)
  else
    zLet ((1 : Int32)) fun v5 =>
    zLet ((24 : Int32)) fun v6 =>
    zLet (F_X10_isWithin p2 v5 v6) fun v7 =>
    if v7.toInt = 0 then
      zLet ((-1 : Int32)) fun v9 =>
      (v9, s2)
    else
      zLet ((0 : Int32)) fun v10 =>
      zLet ((1 : Int32)) fun v11 =>
      zLet (F_X10_isWithin p3 v10 v11) fun v12 =>
      if v12.toInt = 0 then
        zLet ((-1 : Int32)) fun v44 =>
        (v44, s2)
      else
        zLet ((s2.2.2 a0 9).getD 0) fun v14 =>
        zLet ((0 : Int32)) fun v15 =>
        zLet (zfil s2 v14 v15 12) fun s16 =>
        zLet (F_X10_tryFromNow a0 s16) fun s17 =>
        zLet ((0 : Int32)) fun v18 =>
        F_X10_reign_44 a0 p1 p2 p3  4294967299 v18 s17
set_option maxRecDepth 100000 in
noncomputable def F_X10_when_23 (a0 : Nat) (p1 : Int32)  : Nat → Int32 → zS → Int32 × zS
  | 0, _, s => (0, s)
  | n + 1, x8, τ9 =>
    zLet ((60 : Int32)) fun v10 =>
    if v10.toInt < x8.toInt then
      zLet ((-2 : Int32)) fun v12 =>
      (v12, τ9)
    else
      zLet ((τ9.2.2 a0 2).getD 0) fun v13 =>
      zLet (F_X5_goOn v13 τ9) fun s14 =>
      zLet ((s14.2.2 a0 7).getD 0) fun v15 =>
      zLet ((s14.2.2 v15 1).getD 0) fun v16 =>
      zLet (s14.1 v16 p1.toNatClampNeg) fun v17 =>
      zLet ((s14.2.2 a0 6).getD 0) fun v18 =>
      zLet ((s14.2.2 v18 1).getD 0) fun v19 =>
      zLet (s14.1 v19 p1.toNatClampNeg) fun v20 =>
      if v20.toInt < v17.toInt then
        (x8, s14)
      else
        zLet (x8 + (1 : Int32)) fun v24 =>
        F_X10_when_23 a0 p1  n v24 s14
set_option maxRecDepth 100000 in
noncomputable def F_X10_when (a0 : Nat) (p1 : Int32) (σ : zS) : Int32 × zS :=
  zLet (F_X10_look a0 σ) fun s1 =>
  zLet ((s1.2.2 a0 3).getD 0) fun v2 =>
  zLet2 (F_X6_isSource v2 p1 s1) fun v3 s4 =>
  if v3.toInt = 0 then
    zLet ((-1 : Int32)) fun v25 =>
    (v25, s4)
  else
    zLet (F_X10_tryFromNow a0 s4) fun s6 =>
    zLet ((1 : Int32)) fun v7 =>
    F_X10_when_23 a0 p1  10000 v7 s6
set_option maxRecDepth 100000 in
noncomputable def F_X10_then (a0 : Nat) (p1 : Int32) (p2 : Int32) (p3 : Int32) (σ : zS) : Int32 × zS :=
  zLet (F_X10_look a0 σ) fun s1 =>
  zLet ((s1.2.2 a0 3).getD 0) fun v2 =>
  zLet2 (F_X6_isSource v2 p1 s1) fun v3 s4 =>
  if v3.toInt = 0 then
    zLet ((-1 : Int32)) fun v6 =>
    (v6, s4)
  else
    zLet ((0 : Int32)) fun v7 =>
    zLet ((60 : Int32)) fun v8 =>
    zLet (F_X10_isWithin p2 v7 v8) fun v9 =>
    if v9.toInt = 0 then
      zLet ((-1 : Int32)) fun v11 =>
      (v11, s4)
    else
      zLet ((0 : Int32)) fun v12 =>
      zLet ((1 : Int32)) fun v13 =>
      zLet (F_X10_isWithin p3 v12 v13) fun v14 =>
      if v14.toInt = 0 then
        zLet ((-1 : Int32)) fun v32 =>
        (v32, s4)
      else
        zLet ((s4.2.2 a0 7).getD 0) fun v16 =>
        zLet ((s4.2.2 a0 6).getD 0) fun v17 =>
        zLet (F_X1_copy v16 v17 s4) fun s18 =>
        zLet ((s18.2.2 a0 2).getD 0) fun v19 =>
        zLet ((s18.2.2 a0 10).getD 0) fun v20 =>
        zLet ((s18.2.2 a0 7).getD 0) fun v21 =>
        zLet ((s18.2.2 a0 10).getD 0) fun v22 =>
        zLet (s18.1 v22 13) fun v23 =>
        zLet (F_X5_goThrough v19 v20 v21 p2 v23 s18) fun s24 =>
        if p3.toInt = 0 then
          zLet ((s24.2.2 a0 7).getD 0) fun v29 =>
          zLet ((s24.2.2 v29 1).getD 0) fun v30 =>
          zLet (s24.1 v30 p1.toNatClampNeg) fun v31 =>
          (v31, s24)
        else
          zLet ((s24.2.2 a0 7).getD 0) fun v26 =>
          zLet ((s24.2.2 v26 2).getD 0) fun v27 =>
          zLet (s24.1 v27 p1.toNatClampNeg) fun v28 =>
          (v28, s24)
set_option maxRecDepth 100000 in
noncomputable def F_X10_flowIn (a0 : Nat) (p1 : Int32) (σ : zS) : Int32 × zS :=
  zLet2 (F_X10_hasMouth a0 σ) fun v1 s2 =>
  if v1.toInt = 0 then
    zLet ((-1 : Int32)) fun v4 =>
    (v4, s2)
  else
    zLet ((0 : Int32)) fun v5 =>
    zLet ((60 : Int32)) fun v6 =>
    zLet (F_X10_isWithin p1 v5 v6) fun v7 =>
    if v7.toInt = 0 then
      zLet ((-1 : Int32)) fun v24 =>
      (v24, s2)
    else
      zLet ((s2.2.2 a0 7).getD 0) fun v9 =>
      zLet ((s2.2.2 a0 6).getD 0) fun v10 =>
      zLet (F_X1_copy v9 v10 s2) fun s11 =>
      zLet ((s11.2.2 a0 2).getD 0) fun v12 =>
      zLet ((s11.2.2 a0 10).getD 0) fun v13 =>
      zLet ((s11.2.2 a0 7).getD 0) fun v14 =>
      zLet ((s11.2.2 a0 10).getD 0) fun v15 =>
      zLet (s11.1 v15 13) fun v16 =>
      zLet (F_X5_goThrough v12 v13 v14 p1 v16 s11) fun s17 =>
      zLet ((s17.2.2 a0 2).getD 0) fun v18 =>
      zLet ((s17.2.2 a0 10).getD 0) fun v19 =>
      zLet ((s17.2.2 a0 7).getD 0) fun v20 =>
      zLet (F_X5_look v18 v19 v20 s17) fun s21 =>
      zLet2 (F_X10_mouthFlow a0 s21) fun v22 s23 =>
      (v22, s23)
set_option maxRecDepth 100000 in
noncomputable def F_X10_year_43 (a0 : Nat) (p1 : Int32) (p2 : Int32) (p3 : Int32)  : Nat → Int32 → Int32 → zS → Int32 × zS
  | 0, _, _, s => (0, s)
  | n + 1, x18, x19, τ20 =>
    if x18.toInt < p3.toInt then
      zLet ((τ20.2.2 a0 7).getD 0) fun v24 =>
      zLet ((τ20.2.2 a0 6).getD 0) fun v25 =>
      zLet (F_X1_copy v24 v25 τ20) fun s26 =>
      zLet ((s26.2.2 a0 2).getD 0) fun v27 =>
      zLet ((s26.2.2 a0 10).getD 0) fun v28 =>
      zLet ((s26.2.2 a0 7).getD 0) fun v29 =>
      zLet ((s26.2.2 a0 10).getD 0) fun v30 =>
      zLet (s26.1 v30 13) fun v31 =>
      zLet (v31 + x18) fun v32 =>
      zLet (F_X5_goThrough v27 v28 v29 p2 v32 s26) fun s33 =>
      zLet2 (F_X10_hasWonMost a0 p1 s33) fun v34 s35 =>
      if v34.toInt = 0 then
        zLet (x18 + (1 : Int32)) fun v37 =>
        F_X10_year_43 a0 p1 p2 p3  n v37 x19 s35
      else
        zLet (x19 + (1 : Int32)) fun v38 =>
        zLet (x18 + (1 : Int32)) fun v39 =>
        F_X10_year_43 a0 p1 p2 p3  n v39 v38 s35
    else
      (x19, τ20)
set_option maxRecDepth 100000 in
noncomputable def F_X10_year (a0 : Nat) (p1 : Int32) (p2 : Int32) (p3 : Int32) (σ : zS) : Int32 × zS :=
  zLet (F_X10_look a0 σ) fun s1 =>
  zLet ((s1.2.2 a0 3).getD 0) fun v2 =>
  zLet2 (F_X6_isSource v2 p1 s1) fun v3 s4 =>
  if v3.toInt = 0 then
    zLet ((-1 : Int32)) fun v6 =>
    (v6, s4)
  else
    zLet ((0 : Int32)) fun v7 =>
    zLet ((60 : Int32)) fun v8 =>
    zLet (F_X10_isWithin p2 v7 v8) fun v9 =>
    if v9.toInt = 0 then
      zLet ((-1 : Int32)) fun v11 =>
      (v11, s4)
    else
      zLet ((1 : Int32)) fun v12 =>
      zLet ((20 : Int32)) fun v13 =>
      zLet (F_X10_isWithin p3 v12 v13) fun v14 =>
      if v14.toInt = 0 then
        zLet ((-1 : Int32)) fun v40 =>
        (v40, s4)
      else
        zLet ((0 : Int32)) fun v16 =>
        zLet ((0 : Int32)) fun v17 =>
        F_X10_year_43 a0 p1 p2 p3  4294967299 v17 v16 s4
set_option maxRecDepth 100000 in
noncomputable def F_X10_depth (a0 : Nat) (σ : zS) : Int32 × zS :=
  zLet (F_X10_look a0 σ) fun s1 =>
  zLet ((s1.2.2 a0 3).getD 0) fun v2 =>
  zLet2 (F_X6_deepest v2 s1) fun v3 s4 =>
  (v3, s4)
set_option maxRecDepth 100000 in
noncomputable def F_X10_order (a0 : Nat) (p1 : Int32) (σ : zS) : Int32 × zS :=
  zLet2 (F_X10_isPlace a0 p1 σ) fun v1 s2 =>
  if v1.toInt = 0 then
    zLet ((-1 : Int32)) fun v9 =>
    (v9, s2)
  else
    zLet (F_X10_look a0 s2) fun s4 =>
    zLet ((s4.2.2 a0 3).getD 0) fun v5 =>
    zLet ((s4.2.2 a0 6).getD 0) fun v6 =>
    zLet2 (F_X6_orderOf v5 v6 p1 s4) fun v7 s8 =>
    (v7, s8)
set_option maxRecDepth 100000 in
noncomputable def F_X10_basin (a0 : Nat) (p1 : Int32) (p2 : Int32) (σ : zS) : Int32 × zS :=
  zLet2 (F_X10_isPlace a0 p1 σ) fun v1 s2 =>
  if v1.toInt = 0 then
    zLet ((-1 : Int32)) fun v4 =>
    (v4, s2)
  else
    zLet ((0 : Int32)) fun v5 =>
    zLet ((1 : Int32)) fun v6 =>
    zLet (F_X10_isWithin p2 v5 v6) fun v7 =>
    if v7.toInt = 0 then
      zLet ((-1 : Int32)) fun v17 =>
      (v17, s2)
    else
      zLet (F_X10_look a0 s2) fun s9 =>
      zLet ((s9.2.2 a0 3).getD 0) fun v10 =>
      zLet2 (F_X6_comingBy v10 p1 s9) fun v11 s12 =>
      if p2.toInt = 0 then
        (v11, s12)
      else
        zLet ((s12.2.2 a0 2).getD 0) fun v14 =>
        zLet2 (F_X5_rainsOf v14 v11 s12) fun v15 s16 =>
        (v15, s16)
set_option maxRecDepth 100000 in
noncomputable def F_X10_tour (a0 : Nat) (σ : zS) : Int32 × zS :=
  zLet (F_X10_look a0 σ) fun s1 =>
  zLet ((s1.2.2 a0 3).getD 0) fun v2 =>
  zLet ((s1.2.2 a0 3).getD 0) fun v3 =>
  zLet2 (F_X6_sources v3 s1) fun v4 s5 =>
  zLet2 (F_X6_tourOf v2 v4 s5) fun v6 s7 =>
  (v6, s7)
set_option maxRecDepth 100000 in
noncomputable def F_X10_parted_23 (v3 : Int32) (a0 : Nat)  : Nat → Int32 → Int32 → zS → Int32 × zS
  | 0, _, _, s => (0, s)
  | n + 1, x9, x10, τ11 =>
    if x9.toInt < v3.toInt then
      zLet (x9 &&& v3) fun v15 =>
      if v15.toInt = x9.toInt then
        zLet ((τ11.2.2 a0 3).getD 0) fun v18 =>
        zLet2 (F_X6_tourOf v18 x9 τ11) fun v19 s20 =>
        zLet ((s20.2.2 a0 3).getD 0) fun v21 =>
        zLet ((-1 : Int32)) fun v22 =>
        zLet (x9 ^^^ v22) fun v23 =>
        zLet (v3 &&& v23) fun v24 =>
        zLet2 (F_X6_tourOf v21 v24 s20) fun v25 s26 =>
        zLet (if v19.toInt ≤ v25.toInt then v25 else v19) fun v27 =>
        zLet (if x10.toInt ≤ v27.toInt then x10 else v27) fun v28 =>
        zLet (x9 + (1 : Int32)) fun v29 =>
        F_X10_parted_23 v3 a0  n v29 v28 s26
      else
        zLet (x9 + (1 : Int32)) fun v17 =>
        F_X10_parted_23 v3 a0  n v17 x10 τ11
    else
      (x10, τ11)
set_option maxRecDepth 100000 in
noncomputable def F_X10_parted (a0 : Nat) (σ : zS) : Int32 × zS :=
  zLet (F_X10_look a0 σ) fun s1 =>
  zLet ((s1.2.2 a0 3).getD 0) fun v2 =>
  zLet2 (F_X6_sources v2 s1) fun v3 s4 =>
  zLet ((s4.2.2 a0 3).getD 0) fun v5 =>
  zLet2 (F_X6_tourOf v5 v3 s4) fun v6 s7 =>
  zLet ((0 : Int32)) fun v8 =>
  F_X10_parted_23 v3 a0  4294967299 v8 v6 s7
set_option maxRecDepth 100000 in
noncomputable def F_X10_meet (a0 : Nat) (p1 : Int32) (p2 : Int32) (p3 : Int32) (σ : zS) : Int32 × zS :=
  zLet2 (F_X10_isPlace a0 p1 σ) fun v1 s2 =>
  if v1.toInt = 0 then
    zLet ((-1 : Int32)) fun v4 =>
    (v4, s2)
  else
    zLet2 (F_X10_isPlace a0 p2 s2) fun v5 s6 =>
    if v5.toInt = 0 then
      zLet ((-1 : Int32)) fun v8 =>
      (v8, s6)
    else
      zLet ((0 : Int32)) fun v9 =>
      zLet ((1 : Int32)) fun v10 =>
      zLet (F_X10_isWithin p3 v9 v10) fun v11 =>
      if v11.toInt = 0 then
        zLet ((-1 : Int32)) fun v31 =>
        (v31, s6)
      else
        zLet (F_X10_look a0 s6) fun s13 =>
        zLet ((s13.2.2 a0 3).getD 0) fun v14 =>
        zLet2 (F_X6_meeting v14 p1 p2 s13) fun v15 s16 =>
        if p3.toInt = 0 then
          (v15, s16)
        else
          zLet ((s16.2.2 a0 3).getD 0) fun v18 =>
          zLet ((s16.2.2 v18 3).getD 0) fun v19 =>
          zLet (s16.1 v19 p1.toNatClampNeg) fun v20 =>
          zLet ((s16.2.2 a0 3).getD 0) fun v21 =>
          zLet ((s16.2.2 v21 3).getD 0) fun v22 =>
          zLet (s16.1 v22 p2.toNatClampNeg) fun v23 =>
          zLet (v20 + v23) fun v24 =>
          zLet ((2 : Int32)) fun v25 =>
          zLet ((s16.2.2 a0 3).getD 0) fun v26 =>
          zLet ((s16.2.2 v26 3).getD 0) fun v27 =>
          zLet (s16.1 v27 v15.toNatClampNeg) fun v28 =>
          zLet (v25 * v28) fun v29 =>
          zLet (v24 - v29) fun v30 =>
          (v30, s16)
set_option maxRecDepth 100000 in
noncomputable def F_X10_tell (a0 : Nat) (p1 : Int32) (p2 : Int32) (p3 : Int32) (p4 : Int32) (σ : zS) : Int32 × zS :=
  zLet2 (F_X10_isPlace a0 p1 σ) fun v1 s2 =>
  if v1.toInt = 0 then
    zLet ((-1 : Int32)) fun v4 =>
    (v4, s2)
  else
    zLet ((0 : Int32)) fun v5 =>
    zLet ((9999 : Int32)) fun v6 =>
    zLet (F_X10_isWithin p2 v5 v6) fun v7 =>
    if v7.toInt = 0 then
      zLet ((-1 : Int32)) fun v9 =>
      (v9, s2)
    else
      zLet ((9999 : Int32)) fun v10 =>
      zLet (F_X10_isWithin p3 p2 v10) fun v11 =>
      if v11.toInt = 0 then
        zLet ((-1 : Int32)) fun v16 =>
        (v16, s2)
      else
        zLet ((s2.2.2 a0 5).getD 0) fun v13 =>
        zLet2 (F_X2_add v13 p1 p2 p3 p4 s2) fun v14 s15 =>
        (v14, s15)
set_option maxRecDepth 100000 in
noncomputable def F_X10_forget (a0 : Nat) (σ : zS) : Int32 × zS :=
  zLet ((σ.2.2 a0 5).getD 0) fun v1 =>
  zLet (σ.1 v1 4) fun v2 =>
  zLet ((σ.2.2 a0 5).getD 0) fun v3 =>
  zLet ((0 : Int32)) fun v4 =>
  zLet ((zu σ.1 v3 4 v4, σ.2.1, σ.2.2)) fun s5 =>
  (v2, s5)
set_option maxRecDepth 100000 in
noncomputable def F_X10_dyed (a0 : Nat) (p1 : Int32) (p2 : Int32) (σ : zS) : Int32 × zS :=
  zLet ((0 : Int32)) fun v1 =>
  zLet ((σ.2.2 a0 5).getD 0) fun v2 =>
  zLet (σ.1 v2 4) fun v3 =>
  zLet (F_X10_isWithin p1 v1 v3) fun v4 =>
  if v4.toInt = 0 then
    zLet ((-1 : Int32)) fun v6 =>
    (v6, σ)
  else
    zLet ((0 : Int32)) fun v7 =>
    zLet ((1 : Int32)) fun v8 =>
    zLet (F_X10_isWithin p2 v7 v8) fun v9 =>
    if v9.toInt = 0 then
      zLet ((-1 : Int32)) fun v18 =>
      (v18, σ)
    else
      zLet (F_X10_look a0 σ) fun s11 =>
      zLet ((s11.2.2 a0 5).getD 0) fun v12 =>
      zLet ((s11.2.2 a0 3).getD 0) fun v13 =>
      zLet2 (F_X2_left v12 v13 p1 s11) fun v14 s15 =>
      if p2.toInt = 0 then
        zLet (F_J6_bitCount_0f7a4 v14) fun v17 =>
        (v17, s15)
      else
        (v14, s15)
set_option maxRecDepth 100000 in
noncomputable def F_X10_watch_46 (v9 : Int32) (a0 : Nat) (p1 : Int32)  : Nat → Int32 → Int32 → zS → Int32 × zS
  | 0, _, _, s => (0, s)
  | n + 1, x14, x15, τ16 =>
    zLet ((τ16.2.2 a0 10).getD 0) fun v17 =>
    zLet (τ16.1 v17 0) fun v18 =>
    if x14.toInt < v18.toInt then
      zLet2 (F_X10_leftAtWorst a0 v9 x14 τ16) fun v20 s21 =>
      zLet2 (F_X10_leftAtWorst a0 v9 x15 s21) fun v22 s23 =>
      if v20.toInt < v22.toInt then
        zLet (x14 + (1 : Int32)) fun v28 =>
        F_X10_watch_46 v9 a0 p1  n v28 x14 s23
      else
        zLet (x14 + (1 : Int32)) fun v27 =>
        F_X10_watch_46 v9 a0 p1  n v27 x15 s23
    else
      (x15, τ16)
set_option maxRecDepth 100000 in
noncomputable def F_X10_watch (a0 : Nat) (p1 : Int32) (σ : zS) : Int32 × zS :=
  zLet ((0 : Int32)) fun v1 =>
  zLet ((σ.2.2 a0 5).getD 0) fun v2 =>
  zLet (σ.1 v2 4) fun v3 =>
  zLet (F_X10_isWithin p1 v1 v3) fun v4 =>
  if v4.toInt = 0 then
    zLet ((-1 : Int32)) fun v30 =>
    (v30, σ)
  else
    zLet (F_X10_look a0 σ) fun s6 =>
    zLet ((s6.2.2 a0 5).getD 0) fun v7 =>
    zLet ((s6.2.2 a0 3).getD 0) fun v8 =>
    zLet2 (F_X2_left v7 v8 p1 s6) fun v9 s10 =>
    if v9.toInt = 0 then
      zLet ((-2 : Int32)) fun v29 =>
      (v29, s10)
    else
      zLet ((0 : Int32)) fun v12 =>
      zLet ((1 : Int32)) fun v13 =>
      F_X10_watch_46 v9 a0 p1  10000 v13 v12 s10
set_option maxRecDepth 100000 in
noncomputable def F_X10_dams (a0 : Nat) (p1 : Int32) (p2 : Int32) (σ : zS) : Int32 × zS :=
  zLet2 (F_X10_hasMouth a0 σ) fun v1 s2 =>
  if v1.toInt = 0 then
    zLet ((-1 : Int32)) fun v4 =>
    (v4, s2)
  else
    zLet ((0 : Int32)) fun v5 =>
    zLet ((9999 : Int32)) fun v6 =>
    zLet (F_X10_isWithin p1 v5 v6) fun v7 =>
    if v7.toInt = 0 then
      zLet ((-1 : Int32)) fun v9 =>
      (v9, s2)
    else
      zLet ((-1 : Int32)) fun v10 =>
      zLet ((2 : Int32)) fun v11 =>
      zLet (F_X10_isWithin p2 v10 v11) fun v12 =>
      if v12.toInt = 0 then
        zLet ((-1 : Int32)) fun v24 =>
        (v24, s2)
      else
        zLet (F_X10_look a0 s2) fun s14 =>
        zLet2 (F_X10_fewestDams a0 p1 s14) fun v15 s16 =>
        zLet ((-1 : Int32)) fun v17 =>
        if v15.toInt = v17.toInt then
          zLet ((-2 : Int32)) fun v23 =>
          (v23, s16)
        else
          zLet ((-1 : Int32)) fun v19 =>
          if p2.toInt = v19.toInt then
            zLet (F_J6_bitCount_0f7a4 v15) fun v22 =>
            (v22, s16)
          else
            zLet (F_X10_bitAt v15 p2) fun v21 =>
            (v21, s16)
set_option maxRecDepth 100000 in
noncomputable def F_X10_back (a0 : Nat) (p1 : Int32) (σ : zS) : Int32 × zS :=
  if p1.toInt < 0 then
    zLet ((-1 : Int32)) fun v2 =>
    (v2, σ)
  else
    zLet ((σ.2.2 a0 0).getD 0) fun v3 =>
    zLet (σ.1 v3 1) fun v4 =>
    if v4.toInt < p1.toInt then
      zLet ((-1 : Int32)) fun v13 =>
      (v13, σ)
    else
      zLet ((σ.2.2 a0 0).getD 0) fun v7 =>
      zLet (σ.1 v7 1) fun v8 =>
      zLet (v8 - p1) fun v9 =>
      zLet ((zu σ.1 v7 1 v9, σ.2.1, σ.2.2)) fun s10 =>
      zLet ((s10.2.2 a0 0).getD 0) fun v11 =>
      zLet (s10.1 v11 1) fun v12 =>
      (v12, s10)
set_option maxRecDepth 100000 in
noncomputable def F_X10_feed (a0 : Nat) (p1 : Int32) (p2 : Int32) (p3 : Int32) (p4 : Int32) (p5 : Int32) (σ : zS) : Int32 × zS :=
  zLet ((σ.2.2 a0 0).getD 0) fun v1 =>
  zLet (σ.1 v1 1) fun v2 =>
  zLet ((20 : Int32)) fun v3 =>
  zLet (v2 + v3) fun v4 =>
  zLet ((2000 : Int32)) fun v5 =>
  if v5.toInt < v4.toInt then
    zLet ((-1 : Int32)) fun v19 =>
    (v19, σ)
  else
    zLet ((σ.2.2 a0 0).getD 0) fun v7 =>
    zLet (F_X7_append v7 p1 σ) fun s8 =>
    zLet ((s8.2.2 a0 0).getD 0) fun v9 =>
    zLet (F_X7_append v9 p2 s8) fun s10 =>
    zLet ((s10.2.2 a0 0).getD 0) fun v11 =>
    zLet (F_X7_append v11 p3 s10) fun s12 =>
    zLet ((s12.2.2 a0 0).getD 0) fun v13 =>
    zLet (F_X7_append v13 p4 s12) fun s14 =>
    zLet ((s14.2.2 a0 0).getD 0) fun v15 =>
    zLet (F_X7_append v15 p5 s14) fun s16 =>
    zLet ((s16.2.2 a0 0).getD 0) fun v17 =>
    zLet (s16.1 v17 1) fun v18 =>
    (v18, s16)
set_option maxRecDepth 100000 in
noncomputable def F_J0_coder_7d493 (i : Nat) : Int32 :=
  zLet ((1 : Int32)) fun v1 =>
  if v1.toInt = 0 then
    0
  else
    zLet ((0 : Int32)) fun v3 =>
    v3
set_option maxRecDepth 100000 in
noncomputable def F_J0_isLatin1_aae02 (i : Nat) : Int32 :=
  zLet ((1 : Int32)) fun v1 =>
  if v1.toInt = 0 then
    0
  else
    zLet ((0 : Int32)) fun v3 =>
    if v3.toInt = 0 then
      zLet ((1 : Int32)) fun v5 =>
      v5
    else
      0
set_option maxRecDepth 100000 in
noncomputable def F_J0_length_8abf5 (i : Nat) : Int32 :=
  zLet (nI (zlen.getD i 0)) fun v1 =>
  zLet (F_J0_coder_7d493 i) fun v2 =>
  zLet (v1 >>> (v2 &&& 31)) fun v3 =>
  v3
set_option maxRecDepth 100000 in
noncomputable def F_J1_canEncode_9a6ad (p1 : Int32) : Int32 :=
  if p1.toInt < 0 then
    zLet ((0 : Int32)) fun v2 =>
    v2
  else
    zLet ((255 : Int32)) fun v3 =>
    if v3.toInt < p1.toInt then
      zLet ((0 : Int32)) fun v6 =>
      v6
    else
      zLet ((1 : Int32)) fun v7 =>
      v7
set_option maxRecDepth 100000 in
noncomputable def F_J1_indexOfChar_4cfef_7 (v1 : Int32) (i : Nat) (p2 : Int32) (p3 : Int32) (p4 : Int32)  : Nat → Int32 → Int32
  | 0, _ => 0
  | n + 1, x2 =>
    if x2.toInt < p4.toInt then
      zLet ((zbyt.getD i []).getD x2.toNatClampNeg 0) fun v8 =>
      if v8.toInt = v1.toInt then
        x2
      else
        zLet (x2 + (1 : Int32)) fun v10 =>
        F_J1_indexOfChar_4cfef_7 v1 i p2 p3 p4  n v10
    else
      zLet ((-1 : Int32)) fun v7 =>
      v7
set_option maxRecDepth 100000 in
noncomputable def F_J1_indexOfChar_4cfef (i : Nat) (p2 : Int32) (p3 : Int32) (p4 : Int32) : Int32 :=
  zLet (p2.toInt8.toInt32) fun v1 =>
  F_J1_indexOfChar_4cfef_7 v1 i p2 p3 p4  4294967299 p3
set_option maxRecDepth 100000 in
noncomputable def F_J1_indexOf_4cfef (i : Nat) (p2 : Int32) (p3 : Int32) (p4 : Int32) : Int32 :=
  zLet (F_J1_canEncode_9a6ad p2) fun v1 =>
  if v1.toInt = 0 then
    zLet ((-1 : Int32)) fun v12 =>
    v12
  else
    zLet ((0 : Int32)) fun v3 =>
    zLet (if p3.toInt ≤ v3.toInt then v3 else p3) fun v4 =>
    zLet (nI (zlen.getD i 0)) fun v5 =>
    zLet (if p4.toInt ≤ v5.toInt then p4 else v5) fun v6 =>
    if v4.toInt < v6.toInt then
      zLet (F_J1_indexOfChar_4cfef i p2 v4 v6) fun v10 =>
      v10
    else
      zLet ((-1 : Int32)) fun v11 =>
      v11
set_option maxRecDepth 100000 in
noncomputable def F_J0_indexOf_7cf53 (i : Nat) (p1 : Int32) (p2 : Int32) : Int32 :=
  zLet (F_J0_isLatin1_aae02 i) fun v1 =>
  if v1.toInt = 0 then
    0
  else
    zLet (F_J0_length_8abf5 i) fun v3 =>
    zLet (F_J1_indexOf_4cfef i p1 p2 v3) fun v4 =>
    v4
set_option maxRecDepth 100000 in
noncomputable def F_J0_indexOf_0f7a4 (i : Nat) (p1 : Int32) : Int32 :=
  zLet ((0 : Int32)) fun v1 =>
  zLet (F_J0_indexOf_7cf53 i p1 v1) fun v2 =>
  v2
set_option maxRecDepth 100000 in
noncomputable def F_J3_checkIndex_8e157 (p1 : Int32) (p2 : Int32) : Int32 :=
  if p1.toInt < 0 then
    0
  else
    if p1.toInt < p2.toInt then
      p1
    else
      0
set_option maxRecDepth 100000 in
noncomputable def F_J1_charAt_3b067 (i : Nat) (p2 : Int32) : Int32 :=
  zLet (nI (zlen.getD i 0)) fun v1 =>
  zLet ((zbyt.getD i []).getD p2.toNatClampNeg 0) fun v2 =>
  zLet ((255 : Int32)) fun v3 =>
  zLet (v2 &&& v3) fun v4 =>
  zLet ((v4.toUInt32 % 65536).toInt32) fun v5 =>
  v5
set_option maxRecDepth 100000 in
noncomputable def F_J0_charAt_5068e (i : Nat) (p1 : Int32) : Int32 :=
  zLet (F_J0_isLatin1_aae02 i) fun v1 =>
  if v1.toInt = 0 then
    0
  else
    zLet (F_J1_charAt_3b067 i p1) fun v3 =>
    v3
set_option maxRecDepth 100000 in
noncomputable def F_X8_isLetter (p1 : Int32) : Int32 :=
  zLet ((97 : Int32)) fun v1 =>
  if p1.toInt < v1.toInt then
    zLet ((0 : Int32)) fun v4 =>
    v4
  else
    zLet ((122 : Int32)) fun v5 =>
    if v5.toInt < p1.toInt then
      zLet ((0 : Int32)) fun v8 =>
      v8
    else
      zLet ((1 : Int32)) fun v9 =>
      v9
set_option maxRecDepth 100000 in
noncomputable def F_X8_isDigit (p1 : Int32) : Int32 :=
  zLet ((48 : Int32)) fun v1 =>
  if p1.toInt < v1.toInt then
    zLet ((0 : Int32)) fun v4 =>
    v4
  else
    zLet ((57 : Int32)) fun v5 =>
    if v5.toInt < p1.toInt then
      zLet ((0 : Int32)) fun v8 =>
      v8
    else
      zLet ((1 : Int32)) fun v9 =>
      v9
set_option maxRecDepth 100000 in
noncomputable def F_X8_withLetter (p1 : Int64) (p2 : Int32) : Int64 :=
  zLet ((32 : Int64)) fun v1 =>
  zLet (p1 * v1) fun v2 =>
  zLet ((97 : Int32)) fun v3 =>
  zLet (p2 - v3) fun v4 =>
  zLet ((1 : Int32)) fun v5 =>
  zLet (v4 + v5) fun v6 =>
  zLet (v6.toInt64) fun v7 =>
  zLet (v2 + v7) fun v8 =>
  v8
set_option maxRecDepth 100000 in
noncomputable def F_X8_add (a0 : Nat) (p1 : Int32) (p2 : Int64) (p3 : Int32) (σ : zS) : zS :=
  zLet (σ.1 a0 4) fun v1 =>
  zLet ((σ.2.2 a0 1).getD 0) fun v2 =>
  zLet ((402 : Int32)) fun v3 =>
  if v1.toInt < v3.toInt then
    zLet ((σ.2.2 a0 1).getD 0) fun v5 =>
    zLet (σ.1 a0 4) fun v6 =>
    zLet ((zu σ.1 v5 v6.toNatClampNeg p1, σ.2.1, σ.2.2)) fun s7 =>
    zLet ((s7.2.2 a0 2).getD 0) fun v9 =>
    zLet (s7.1 a0 4) fun v10 =>
    zLet ((s7.1, zu s7.2.1 v9 v10.toNatClampNeg p2, s7.2.2)) fun s11 =>
    zLet ((s11.2.2 a0 3).getD 0) fun v13 =>
    zLet (s11.1 a0 4) fun v14 =>
    zLet ((zu s11.1 v13 v14.toNatClampNeg p3, s11.2.1, s11.2.2)) fun s15 =>
    zLet (s15.1 a0 4) fun v17 =>
    zLet ((1 : Int32)) fun v18 =>
    zLet (v17 + v18) fun v19 =>
    zLet ((zu s15.1 a0 4 v19, s15.2.1, s15.2.2)) fun s20 =>
    s20
  else
    σ
set_option maxRecDepth 100000 in
noncomputable def F_X8_kindOf_6 (a0 : Nat) (p1 : Int64)  : Nat → Int32 → Int32 → zS → Int32 × zS
  | 0, _, _, s => (0, s)
  | n + 1, x3, x4, τ5 =>
    zLet ((22 : Int32)) fun v6 =>
    if x3.toInt < v6.toInt then
      zLet ((τ5.2.2 a0 0).getD 0) fun v8 =>
      zLet (τ5.2.1 v8 x3.toNatClampNeg) fun v9 =>
      zLet (lg_cmp v9 p1) fun v10 =>
      if v10.toInt = 0 then
        zLet (x3 + (1 : Int32)) fun v13 =>
        F_X8_kindOf_6 a0 p1  n v13 x3 τ5
      else
        zLet (x3 + (1 : Int32)) fun v12 =>
        F_X8_kindOf_6 a0 p1  n v12 x4 τ5
    else
      (x4, τ5)
set_option maxRecDepth 100000 in
noncomputable def F_X8_kindOf (a0 : Nat) (p1 : Int64) (σ : zS) : Int32 × zS :=
  zLet ((22 : Int32)) fun v1 =>
  zLet ((0 : Int32)) fun v2 =>
  F_X8_kindOf_6 a0 p1  10000 v2 v1 σ
set_option maxRecDepth 100000 in
noncomputable def F_X8_pastBlanks_2 (p1 : Nat) (p2 : Int32) (p3 : Int32)  : Nat → Int32 → zS → Int32 × zS
  | 0, _, s => (0, s)
  | n + 1, x1, τ2 =>
    if x1.toInt < p2.toInt then
      zLet (τ2.1 p1 x1.toNatClampNeg) fun v5 =>
      zLet ((32 : Int32)) fun v6 =>
      if v5.toInt = v6.toInt then
        zLet (x1 + (1 : Int32)) fun v8 =>
        F_X8_pastBlanks_2 p1 p2 p3  n v8 τ2
      else
        zLet (τ2.1 p1 x1.toNatClampNeg) fun v9 =>
        zLet ((9 : Int32)) fun v10 =>
        if v9.toInt = v10.toInt then
          zLet (x1 + (1 : Int32)) fun v12 =>
          F_X8_pastBlanks_2 p1 p2 p3  n v12 τ2
        else
          zLet (τ2.1 p1 x1.toNatClampNeg) fun v13 =>
          zLet ((10 : Int32)) fun v14 =>
          if v13.toInt = v14.toInt then
            zLet (x1 + (1 : Int32)) fun v16 =>
            F_X8_pastBlanks_2 p1 p2 p3  n v16 τ2
          else
            zLet (τ2.1 p1 x1.toNatClampNeg) fun v17 =>
            zLet ((13 : Int32)) fun v18 =>
            if v17.toInt = v18.toInt then
              zLet (x1 + (1 : Int32)) fun v20 =>
              F_X8_pastBlanks_2 p1 p2 p3  n v20 τ2
            else
              (x1, τ2)
    else
      (x1, τ2)
set_option maxRecDepth 100000 in
noncomputable def F_X8_pastBlanks (p1 : Nat) (p2 : Int32) (p3 : Int32) (σ : zS) : Int32 × zS :=
  F_X8_pastBlanks_2 p1 p2 p3  10000 p3 σ
set_option maxRecDepth 100000 in
noncomputable def F_X8_addLetters_6 (a0 : Nat) (p1 : Nat) (p2 : Int32) (p3 : Int32)  : Nat → Int32 → Int64 → zS → Int32 × zS
  | 0, _, _, s => (0, s)
  | n + 1, x2, x3, τ4 =>
    if x2.toInt < p2.toInt then
      zLet (τ4.1 p1 x2.toNatClampNeg) fun v15 =>
      zLet (F_X8_isLetter v15) fun v16 =>
      if v16.toInt = 0 then
        zLet (x2 - p3) fun v18 =>
        zLet ((8 : Int32)) fun v19 =>
        if v19.toInt < v18.toInt then
          zLet ((34 : Int32)) fun v24 =>
          zLet (F_X8_add a0 v24 x3 p3 τ4) fun s25 =>
          (x2, s25)
        else
          zLet2 (F_X8_kindOf a0 x3 τ4) fun v21 s22 =>
          zLet (F_X8_add a0 v21 x3 p3 s22) fun s23 =>
          (x2, s23)
      else
        zLet (x2 - p3) fun v26 =>
        zLet ((8 : Int32)) fun v27 =>
        if v26.toInt < v27.toInt then
          zLet (τ4.1 p1 x2.toNatClampNeg) fun v31 =>
          zLet (F_X8_withLetter x3 v31) fun v32 =>
          zLet (x2 + (1 : Int32)) fun v33 =>
          F_X8_addLetters_6 a0 p1 p2 p3  n v33 v32 τ4
        else
          zLet (Int64.ofNat 0) fun v29 =>
          zLet (x2 + (1 : Int32)) fun v30 =>
          F_X8_addLetters_6 a0 p1 p2 p3  n v30 v29 τ4
    else
      zLet (x2 - p3) fun v7 =>
      zLet ((8 : Int32)) fun v8 =>
      if v8.toInt < v7.toInt then
        zLet ((34 : Int32)) fun v13 =>
        zLet (F_X8_add a0 v13 x3 p3 τ4) fun s14 =>
        (x2, s14)
      else
        zLet2 (F_X8_kindOf a0 x3 τ4) fun v10 s11 =>
        zLet (F_X8_add a0 v10 x3 p3 s11) fun s12 =>
        (x2, s12)
set_option maxRecDepth 100000 in
noncomputable def F_X8_addLetters (a0 : Nat) (p1 : Nat) (p2 : Int32) (p3 : Int32) (σ : zS) : Int32 × zS :=
  zLet (Int64.ofNat 0) fun v1 =>
  F_X8_addLetters_6 a0 p1 p2 p3  10000 p3 v1 σ
set_option maxRecDepth 100000 in
noncomputable def F_X8_addDigits_6 (a0 : Nat) (p1 : Nat) (p2 : Int32) (p3 : Int32)  : Nat → Int32 → Int32 → zS → Int32 × zS
  | 0, _, _, s => (0, s)
  | n + 1, x2, x3, τ4 =>
    if x2.toInt < p2.toInt then
      zLet (τ4.1 p1 x2.toNatClampNeg) fun v16 =>
      zLet (F_X8_isDigit v16) fun v17 =>
      if v17.toInt = 0 then
        zLet (x2 - p3) fun v19 =>
        zLet ((4 : Int32)) fun v20 =>
        if v20.toInt < v19.toInt then
          zLet ((34 : Int32)) fun v25 =>
          zLet (x3.toInt64) fun v26 =>
          zLet (F_X8_add a0 v25 v26 p3 τ4) fun s27 =>
          (x2, s27)
        else
          zLet ((23 : Int32)) fun v22 =>
          zLet (x3.toInt64) fun v23 =>
          zLet (F_X8_add a0 v22 v23 p3 τ4) fun s24 =>
          (x2, s24)
      else
        zLet (x2 - p3) fun v28 =>
        zLet ((4 : Int32)) fun v29 =>
        if v28.toInt < v29.toInt then
          zLet ((10 : Int32)) fun v33 =>
          zLet (x3 * v33) fun v34 =>
          zLet (τ4.1 p1 x2.toNatClampNeg) fun v35 =>
          zLet ((48 : Int32)) fun v36 =>
          zLet (v35 - v36) fun v37 =>
          zLet (v34 + v37) fun v38 =>
          zLet (x2 + (1 : Int32)) fun v39 =>
          F_X8_addDigits_6 a0 p1 p2 p3  n v39 v38 τ4
        else
          zLet ((0 : Int32)) fun v31 =>
          zLet (x2 + (1 : Int32)) fun v32 =>
          F_X8_addDigits_6 a0 p1 p2 p3  n v32 v31 τ4
    else
      zLet (x2 - p3) fun v7 =>
      zLet ((4 : Int32)) fun v8 =>
      if v8.toInt < v7.toInt then
        zLet ((34 : Int32)) fun v13 =>
        zLet (x3.toInt64) fun v14 =>
        zLet (F_X8_add a0 v13 v14 p3 τ4) fun s15 =>
        (x2, s15)
      else
        zLet ((23 : Int32)) fun v10 =>
        zLet (x3.toInt64) fun v11 =>
        zLet (F_X8_add a0 v10 v11 p3 τ4) fun s12 =>
        (x2, s12)
set_option maxRecDepth 100000 in
noncomputable def F_X8_addDigits (a0 : Nat) (p1 : Nat) (p2 : Int32) (p3 : Int32) (σ : zS) : Int32 × zS :=
  zLet ((0 : Int32)) fun v1 =>
  F_X8_addDigits_6 a0 p1 p2 p3  10000 p3 v1 σ
set_option maxRecDepth 100000 in
noncomputable def F_X8_scan_13 (a0 : Nat) (p1 : Nat) (p2 : Int32)  : Nat → Int32 → Int32 → Int32 → zS → zS
  | 0, _, _, _, s => s
  | n + 1, x7, x8, x9, τ10 =>
    zLet ((400 : Int32)) fun v11 =>
    if v11.toInt < x7.toInt then
      τ10
    else
      if x8.toInt = 0 then
        τ10
      else
        zLet2 (F_X8_pastBlanks p1 p2 x9 τ10) fun v14 s15 =>
        if v14.toInt < p2.toInt then
          zLet (s15.1 p1 v14.toNatClampNeg) fun v103 =>
          if v14.toInt < p2.toInt then
            zLet (F_X8_isLetter v103) fun v105 =>
            if v105.toInt = 0 then
              zLet (F_X8_isDigit v103) fun v107 =>
              if v107.toInt = 0 then
                if 0 < v103.toInt then
                  zLet ((v103.toUInt32 % 65536).toInt32) fun v132 =>
                  zLet (F_J0_indexOf_0f7a4 1 v132) fun v133 =>
                  if v133.toInt < 0 then
                    zLet ((34 : Int32)) fun v156 =>
                    zLet (Int64.ofNat 0) fun v157 =>
                    zLet (F_X8_add a0 v156 v157 v14 s15) fun s158 =>
                    zLet (v14 + (1 : Int32)) fun v159 =>
                    zLet (s158.1 a0 4) fun v160 =>
                    if 0 < v160.toInt then
                      zLet ((s158.2.2 a0 1).getD 0) fun v164 =>
                      zLet (s158.1 a0 4) fun v165 =>
                      zLet ((1 : Int32)) fun v166 =>
                      zLet (v165 - v166) fun v167 =>
                      zLet (s158.1 v164 v167.toNatClampNeg) fun v168 =>
                      zLet ((33 : Int32)) fun v169 =>
                      if v168.toInt < v169.toInt then
                        zLet ((1 : Int32)) fun v174 =>
                        zLet (x7 + (1 : Int32)) fun v175 =>
                        F_X8_scan_13 a0 p1 p2  n v175 v174 v159 s158
                      else
                        zLet ((0 : Int32)) fun v172 =>
                        zLet (x7 + (1 : Int32)) fun v173 =>
                        F_X8_scan_13 a0 p1 p2  n v173 v172 v159 s158
                    else
                      zLet ((0 : Int32)) fun v162 =>
                      zLet (x7 + (1 : Int32)) fun v163 =>
                      F_X8_scan_13 a0 p1 p2  n v163 v162 v159 s158
                  else
                    zLet ((24 : Int32)) fun v135 =>
                    zLet (v135 + v133) fun v136 =>
                    zLet (Int64.ofNat 0) fun v137 =>
                    zLet (F_X8_add a0 v136 v137 v14 s15) fun s138 =>
                    zLet (v14 + (1 : Int32)) fun v139 =>
                    zLet (s138.1 a0 4) fun v140 =>
                    if 0 < v140.toInt then
                      zLet ((s138.2.2 a0 1).getD 0) fun v144 =>
                      zLet (s138.1 a0 4) fun v145 =>
                      zLet ((1 : Int32)) fun v146 =>
                      zLet (v145 - v146) fun v147 =>
                      zLet (s138.1 v144 v147.toNatClampNeg) fun v148 =>
                      zLet ((33 : Int32)) fun v149 =>
                      if v148.toInt < v149.toInt then
                        zLet ((1 : Int32)) fun v154 =>
                        zLet (x7 + (1 : Int32)) fun v155 =>
                        F_X8_scan_13 a0 p1 p2  n v155 v154 v139 s138
                      else
                        zLet ((0 : Int32)) fun v152 =>
                        zLet (x7 + (1 : Int32)) fun v153 =>
                        F_X8_scan_13 a0 p1 p2  n v153 v152 v139 s138
                    else
                      zLet ((0 : Int32)) fun v142 =>
                      zLet (x7 + (1 : Int32)) fun v143 =>
                      F_X8_scan_13 a0 p1 p2  n v143 v142 v139 s138
                else
                  zLet ((-1 : Int32)) fun v110 =>
                  if v110.toInt < 0 then
                    zLet ((34 : Int32)) fun v112 =>
                    zLet (Int64.ofNat 0) fun v113 =>
                    zLet (F_X8_add a0 v112 v113 v14 s15) fun s114 =>
                    zLet (v14 + (1 : Int32)) fun v115 =>
                    zLet (s114.1 a0 4) fun v116 =>
                    if 0 < v116.toInt then
                      zLet ((s114.2.2 a0 1).getD 0) fun v120 =>
                      zLet (s114.1 a0 4) fun v121 =>
                      zLet ((1 : Int32)) fun v122 =>
                      zLet (v121 - v122) fun v123 =>
                      zLet (s114.1 v120 v123.toNatClampNeg) fun v124 =>
                      zLet ((33 : Int32)) fun v125 =>
                      if v124.toInt < v125.toInt then
                        zLet ((1 : Int32)) fun v130 =>
                        zLet (x7 + (1 : Int32)) fun v131 =>
                        F_X8_scan_13 a0 p1 p2  n v131 v130 v115 s114
                      else
                        zLet ((0 : Int32)) fun v128 =>
                        zLet (x7 + (1 : Int32)) fun v129 =>
                        F_X8_scan_13 a0 p1 p2  n v129 v128 v115 s114
                    else
                      zLet ((0 : Int32)) fun v118 =>
                      zLet (x7 + (1 : Int32)) fun v119 =>
                      F_X8_scan_13 a0 p1 p2  n v119 v118 v115 s114
                  else
                    s15
              else
                zLet2 (F_X8_addDigits a0 p1 p2 v14 s15) fun v176 s177 =>
                zLet (s177.1 a0 4) fun v178 =>
                if 0 < v178.toInt then
                  zLet ((s177.2.2 a0 1).getD 0) fun v182 =>
                  zLet (s177.1 a0 4) fun v183 =>
                  zLet ((1 : Int32)) fun v184 =>
                  zLet (v183 - v184) fun v185 =>
                  zLet (s177.1 v182 v185.toNatClampNeg) fun v186 =>
                  zLet ((33 : Int32)) fun v187 =>
                  if v186.toInt < v187.toInt then
                    zLet ((1 : Int32)) fun v192 =>
                    zLet (x7 + (1 : Int32)) fun v193 =>
                    F_X8_scan_13 a0 p1 p2  n v193 v192 v176 s177
                  else
                    zLet ((0 : Int32)) fun v190 =>
                    zLet (x7 + (1 : Int32)) fun v191 =>
                    F_X8_scan_13 a0 p1 p2  n v191 v190 v176 s177
                else
                  zLet ((0 : Int32)) fun v180 =>
                  zLet (x7 + (1 : Int32)) fun v181 =>
                  F_X8_scan_13 a0 p1 p2  n v181 v180 v176 s177
            else
              zLet2 (F_X8_addLetters a0 p1 p2 v14 s15) fun v194 s195 =>
              zLet (s195.1 a0 4) fun v196 =>
              if 0 < v196.toInt then
                zLet ((s195.2.2 a0 1).getD 0) fun v200 =>
                zLet (s195.1 a0 4) fun v201 =>
                zLet ((1 : Int32)) fun v202 =>
                zLet (v201 - v202) fun v203 =>
                zLet (s195.1 v200 v203.toNatClampNeg) fun v204 =>
                zLet ((33 : Int32)) fun v205 =>
                if v204.toInt < v205.toInt then
                  zLet ((1 : Int32)) fun v210 =>
                  zLet (x7 + (1 : Int32)) fun v211 =>
                  F_X8_scan_13 a0 p1 p2  n v211 v210 v194 s195
                else
                  zLet ((0 : Int32)) fun v208 =>
                  zLet (x7 + (1 : Int32)) fun v209 =>
                  F_X8_scan_13 a0 p1 p2  n v209 v208 v194 s195
              else
                zLet ((0 : Int32)) fun v198 =>
                zLet (x7 + (1 : Int32)) fun v199 =>
                F_X8_scan_13 a0 p1 p2  n v199 v198 v194 s195
          else
            zLet ((33 : Int32)) fun v212 =>
            zLet (Int64.ofNat 0) fun v213 =>
            zLet (F_X8_add a0 v212 v213 p2 s15) fun s214 =>
            zLet (s214.1 a0 4) fun v215 =>
            if 0 < v215.toInt then
              zLet ((s214.2.2 a0 1).getD 0) fun v219 =>
              zLet (s214.1 a0 4) fun v220 =>
              zLet ((1 : Int32)) fun v221 =>
              zLet (v220 - v221) fun v222 =>
              zLet (s214.1 v219 v222.toNatClampNeg) fun v223 =>
              zLet ((33 : Int32)) fun v224 =>
              if v223.toInt < v224.toInt then
                zLet ((1 : Int32)) fun v229 =>
                zLet (x7 + (1 : Int32)) fun v230 =>
                F_X8_scan_13 a0 p1 p2  n v230 v229 v14 s214
              else
                zLet ((0 : Int32)) fun v227 =>
                zLet (x7 + (1 : Int32)) fun v228 =>
                F_X8_scan_13 a0 p1 p2  n v228 v227 v14 s214
            else
              zLet ((0 : Int32)) fun v217 =>
              zLet (x7 + (1 : Int32)) fun v218 =>
              F_X8_scan_13 a0 p1 p2  n v218 v217 v14 s214
        else
          zLet ((0 : Int32)) fun v18 =>
          if v14.toInt < p2.toInt then
            zLet (F_X8_isLetter v18) fun v21 =>
            if v21.toInt = 0 then
              zLet (F_X8_isDigit v18) fun v23 =>
              if v23.toInt = 0 then
                if 0 < v18.toInt then
                  s15
                else
                  zLet ((-1 : Int32)) fun v26 =>
                  if v26.toInt < 0 then
                    zLet ((34 : Int32)) fun v28 =>
                    zLet (Int64.ofNat 0) fun v29 =>
                    zLet (F_X8_add a0 v28 v29 v14 s15) fun s30 =>
                    zLet (v14 + (1 : Int32)) fun v31 =>
                    zLet (s30.1 a0 4) fun v32 =>
                    if 0 < v32.toInt then
                      zLet ((s30.2.2 a0 1).getD 0) fun v36 =>
                      zLet (s30.1 a0 4) fun v37 =>
                      zLet ((1 : Int32)) fun v38 =>
                      zLet (v37 - v38) fun v39 =>
                      zLet (s30.1 v36 v39.toNatClampNeg) fun v40 =>
                      zLet ((33 : Int32)) fun v41 =>
                      if v40.toInt < v41.toInt then
                        zLet ((1 : Int32)) fun v46 =>
                        zLet (x7 + (1 : Int32)) fun v47 =>
                        F_X8_scan_13 a0 p1 p2  n v47 v46 v31 s30
                      else
                        zLet ((0 : Int32)) fun v44 =>
                        zLet (x7 + (1 : Int32)) fun v45 =>
                        F_X8_scan_13 a0 p1 p2  n v45 v44 v31 s30
                    else
                      zLet ((0 : Int32)) fun v34 =>
                      zLet (x7 + (1 : Int32)) fun v35 =>
                      F_X8_scan_13 a0 p1 p2  n v35 v34 v31 s30
                  else
                    s15
              else
                zLet2 (F_X8_addDigits a0 p1 p2 v14 s15) fun v48 s49 =>
                zLet (s49.1 a0 4) fun v50 =>
                if 0 < v50.toInt then
                  zLet ((s49.2.2 a0 1).getD 0) fun v54 =>
                  zLet (s49.1 a0 4) fun v55 =>
                  zLet ((1 : Int32)) fun v56 =>
                  zLet (v55 - v56) fun v57 =>
                  zLet (s49.1 v54 v57.toNatClampNeg) fun v58 =>
                  zLet ((33 : Int32)) fun v59 =>
                  if v58.toInt < v59.toInt then
                    zLet ((1 : Int32)) fun v64 =>
                    zLet (x7 + (1 : Int32)) fun v65 =>
                    F_X8_scan_13 a0 p1 p2  n v65 v64 v48 s49
                  else
                    zLet ((0 : Int32)) fun v62 =>
                    zLet (x7 + (1 : Int32)) fun v63 =>
                    F_X8_scan_13 a0 p1 p2  n v63 v62 v48 s49
                else
                  zLet ((0 : Int32)) fun v52 =>
                  zLet (x7 + (1 : Int32)) fun v53 =>
                  F_X8_scan_13 a0 p1 p2  n v53 v52 v48 s49
            else
              zLet2 (F_X8_addLetters a0 p1 p2 v14 s15) fun v66 s67 =>
              zLet (s67.1 a0 4) fun v68 =>
              if 0 < v68.toInt then
                zLet ((s67.2.2 a0 1).getD 0) fun v72 =>
                zLet (s67.1 a0 4) fun v73 =>
                zLet ((1 : Int32)) fun v74 =>
                zLet (v73 - v74) fun v75 =>
                zLet (s67.1 v72 v75.toNatClampNeg) fun v76 =>
                zLet ((33 : Int32)) fun v77 =>
                if v76.toInt < v77.toInt then
                  zLet ((1 : Int32)) fun v82 =>
                  zLet (x7 + (1 : Int32)) fun v83 =>
                  F_X8_scan_13 a0 p1 p2  n v83 v82 v66 s67
                else
                  zLet ((0 : Int32)) fun v80 =>
                  zLet (x7 + (1 : Int32)) fun v81 =>
                  F_X8_scan_13 a0 p1 p2  n v81 v80 v66 s67
              else
                zLet ((0 : Int32)) fun v70 =>
                zLet (x7 + (1 : Int32)) fun v71 =>
                F_X8_scan_13 a0 p1 p2  n v71 v70 v66 s67
          else
            zLet ((33 : Int32)) fun v84 =>
            zLet (Int64.ofNat 0) fun v85 =>
            zLet (F_X8_add a0 v84 v85 p2 s15) fun s86 =>
            zLet (s86.1 a0 4) fun v87 =>
            if 0 < v87.toInt then
              zLet ((s86.2.2 a0 1).getD 0) fun v91 =>
              zLet (s86.1 a0 4) fun v92 =>
              zLet ((1 : Int32)) fun v93 =>
              zLet (v92 - v93) fun v94 =>
              zLet (s86.1 v91 v94.toNatClampNeg) fun v95 =>
              zLet ((33 : Int32)) fun v96 =>
              if v95.toInt < v96.toInt then
                zLet ((1 : Int32)) fun v101 =>
                zLet (x7 + (1 : Int32)) fun v102 =>
                F_X8_scan_13 a0 p1 p2  n v102 v101 v14 s86
              else
                zLet ((0 : Int32)) fun v99 =>
                zLet (x7 + (1 : Int32)) fun v100 =>
                F_X8_scan_13 a0 p1 p2  n v100 v99 v14 s86
            else
              zLet ((0 : Int32)) fun v89 =>
              zLet (x7 + (1 : Int32)) fun v90 =>
              F_X8_scan_13 a0 p1 p2  n v90 v89 v14 s86
set_option maxRecDepth 100000 in
noncomputable def F_X8_scan (a0 : Nat) (p1 : Nat) (p2 : Int32) (σ : zS) : zS :=
  zLet ((0 : Int32)) fun v1 =>
  zLet ((zu σ.1 a0 4 v1, σ.2.1, σ.2.2)) fun s2 =>
  zLet ((0 : Int32)) fun v4 =>
  zLet ((1 : Int32)) fun v5 =>
  zLet ((0 : Int32)) fun v6 =>
  F_X8_scan_13 a0 p1 p2  10000 v6 v5 v4 s2
set_option maxRecDepth 100000 in
noncomputable def F_X3_goTo (a0 : Nat) (p1 : Int32) (σ : zS) : zS :=
  if p1.toInt < 0 then
    zLet ((0 : Int32)) fun v2 =>
    zLet ((zu σ.1 a0 2 p1, σ.2.1, σ.2.2)) fun s3 =>
    if v2.toInt = 0 then
      zLet ((34 : Int32)) fun v5 =>
      zLet ((zu s3.1 a0 3 v5, s3.2.1, s3.2.2)) fun s6 =>
      if v2.toInt = 0 then
        zLet (Int64.ofNat 0) fun v8 =>
        zLet ((s6.1, zu s6.2.1 a0 4 v8, s6.2.2)) fun s9 =>
        if v2.toInt = 0 then
          zLet ((-1 : Int32)) fun v11 =>
          zLet ((zu s9.1 a0 5 v11, s9.2.1, s9.2.2)) fun s12 =>
          s12
        else
          s9
      else
        s6
    else
      s3
  else
    zLet ((σ.2.2 a0 0).getD 0) fun v13 =>
    zLet (σ.1 v13 4) fun v14 =>
    if p1.toInt < v14.toInt then
      zLet ((1 : Int32)) fun v28 =>
      zLet ((zu σ.1 a0 2 p1, σ.2.1, σ.2.2)) fun s29 =>
      if v28.toInt = 0 then
        s29
      else
        zLet ((s29.2.2 a0 0).getD 0) fun v31 =>
        zLet ((s29.2.2 v31 1).getD 0) fun v32 =>
        zLet (s29.1 v32 p1.toNatClampNeg) fun v33 =>
        zLet ((zu s29.1 a0 3 v33, s29.2.1, s29.2.2)) fun s34 =>
        if v28.toInt = 0 then
          s34
        else
          zLet ((s34.2.2 a0 0).getD 0) fun v36 =>
          zLet ((s34.2.2 v36 2).getD 0) fun v37 =>
          zLet (s34.2.1 v37 p1.toNatClampNeg) fun v38 =>
          zLet ((s34.1, zu s34.2.1 a0 4 v38, s34.2.2)) fun s39 =>
          if v28.toInt = 0 then
            s39
          else
            zLet ((s39.2.2 a0 0).getD 0) fun v41 =>
            zLet ((s39.2.2 v41 3).getD 0) fun v42 =>
            zLet (s39.1 v42 p1.toNatClampNeg) fun v43 =>
            zLet ((zu s39.1 a0 5 v43, s39.2.1, s39.2.2)) fun s44 =>
            s44
    else
      zLet ((0 : Int32)) fun v17 =>
      zLet ((zu σ.1 a0 2 p1, σ.2.1, σ.2.2)) fun s18 =>
      if v17.toInt = 0 then
        zLet ((34 : Int32)) fun v20 =>
        zLet ((zu s18.1 a0 3 v20, s18.2.1, s18.2.2)) fun s21 =>
        if v17.toInt = 0 then
          zLet (Int64.ofNat 0) fun v23 =>
          zLet ((s21.1, zu s21.2.1 a0 4 v23, s21.2.2)) fun s24 =>
          if v17.toInt = 0 then
            zLet ((-1 : Int32)) fun v26 =>
            zLet ((zu s24.1 a0 5 v26, s24.2.1, s24.2.2)) fun s27 =>
            s27
          else
            s24
        else
          s21
      else
        s18
set_option maxRecDepth 100000 in
noncomputable def F_X3_fail (a0 : Nat) (p1 : Int32) (σ : zS) : zS :=
  zLet (σ.1 a0 8) fun v1 =>
  if v1.toInt = 0 then
    zLet ((zu σ.1 a0 8 p1, σ.2.1, σ.2.2)) fun s3 =>
    zLet (s3.1 a0 5) fun v4 =>
    zLet ((zu s3.1 a0 9 v4, s3.2.1, s3.2.2)) fun s5 =>
    zLet ((34 : Int32)) fun v6 =>
    zLet ((zu s5.1 a0 3 v6, s5.2.1, s5.2.2)) fun s7 =>
    s7
  else
    σ
set_option maxRecDepth 100000 in
noncomputable def F_X3_failLate (a0 : Nat) (p1 : Int32) (σ : zS) : zS :=
  zLet (σ.1 a0 10) fun v1 =>
  if v1.toInt = 0 then
    zLet ((zu σ.1 a0 10 p1, σ.2.1, σ.2.2)) fun s3 =>
    zLet (s3.1 a0 5) fun v4 =>
    zLet ((zu s3.1 a0 11 v4, s3.2.1, s3.2.2)) fun s5 =>
    s5
  else
    σ
set_option maxRecDepth 100000 in
noncomputable def F_X3_take (a0 : Nat) (p1 : Int32) (σ : zS) : zS :=
  zLet (σ.1 a0 3) fun v1 =>
  if v1.toInt = p1.toInt then
    zLet (σ.1 a0 2) fun v3 =>
    zLet ((400 : Int32)) fun v4 =>
    if v3.toInt < v4.toInt then
      zLet (σ.1 a0 2) fun v7 =>
      zLet ((1 : Int32)) fun v8 =>
      zLet (v7 + v8) fun v9 =>
      zLet (F_X3_goTo a0 v9 σ) fun s10 =>
      s10
    else
      zLet ((2 : Int32)) fun v11 =>
      zLet (F_X3_fail a0 v11 σ) fun s12 =>
      s12
  else
    zLet ((1 : Int32)) fun v13 =>
    zLet (F_X3_fail a0 v13 σ) fun s14 =>
    s14
set_option maxRecDepth 100000 in
noncomputable def F_X3_placeNamed_13 (a0 : Nat) (p1 : Int64)  : Nat → Int32 → zS → Int32 × zS
  | 0, _, s => (0, s)
  | n + 1, x4, τ5 =>
    zLet (τ5.1 a0 7) fun v6 =>
    if v6.toInt < x4.toInt then
      zLet ((-1 : Int32)) fun v8 =>
      (v8, τ5)
    else
      zLet ((12 : Int32)) fun v9 =>
      if x4.toInt < v9.toInt then
        zLet ((τ5.2.2 a0 1).getD 0) fun v11 =>
        zLet ((τ5.2.2 v11 1).getD 0) fun v12 =>
        zLet (τ5.2.1 v12 x4.toNatClampNeg) fun v13 =>
        zLet (lg_cmp v13 p1) fun v14 =>
        if v14.toInt = 0 then
          (x4, τ5)
        else
          zLet (x4 + (1 : Int32)) fun v16 =>
          F_X3_placeNamed_13 a0 p1  n v16 τ5
      else
        (0, τ5)
set_option maxRecDepth 100000 in
noncomputable def F_X3_placeNamed_13_1 (a0 : Nat) (p1 : Int64)  : Nat → Int32 → zS → Int32 × zS
  | 0, _, s => (0, s)
  | n + 1, x18, τ19 =>
    zLet (τ19.1 a0 7) fun v20 =>
    if v20.toInt < x18.toInt then
      zLet ((-1 : Int32)) fun v22 =>
      (v22, τ19)
    else
      zLet ((12 : Int32)) fun v23 =>
      if x18.toInt < v23.toInt then
        zLet ((τ19.2.2 a0 1).getD 0) fun v25 =>
        zLet ((τ19.2.2 v25 1).getD 0) fun v26 =>
        zLet (τ19.2.1 v26 x18.toNatClampNeg) fun v27 =>
        zLet (lg_cmp v27 p1) fun v28 =>
        if v28.toInt = 0 then
          (x18, τ19)
        else
          zLet (x18 + (1 : Int32)) fun v30 =>
          F_X3_placeNamed_13_1 a0 p1  n v30 τ19
      else
        (0, τ19)
set_option maxRecDepth 100000 in
noncomputable def F_X3_placeNamed (a0 : Nat) (p1 : Int64) (σ : zS) : Int32 × zS :=
  zLet (σ.1 a0 6) fun v1 =>
  if v1.toInt = 0 then
    zLet ((1 : Int32)) fun v3 =>
    F_X3_placeNamed_13 a0 p1  10000 v3 σ
  else
    zLet ((0 : Int32)) fun v17 =>
    F_X3_placeNamed_13_1 a0 p1  10000 v17 σ
set_option maxRecDepth 100000 in
noncomputable def F_X3_newName (a0 : Nat) (σ : zS) : Int64 × zS :=
  zLet (σ.2.1 a0 4) fun v1 =>
  zLet (σ.1 a0 3) fun v2 =>
  zLet ((22 : Int32)) fun v3 =>
  if v2.toInt = v3.toInt then
    zLet2 (F_X3_placeNamed a0 v1 σ) fun v7 s8 =>
    zLet ((-1 : Int32)) fun v9 =>
    if v7.toInt = v9.toInt then
      zLet ((22 : Int32)) fun v11 =>
      zLet (F_X3_take a0 v11 s8) fun s12 =>
      (v1, s12)
    else
      zLet ((3 : Int32)) fun v13 =>
      zLet (F_X3_failLate a0 v13 s8) fun s14 =>
      zLet ((22 : Int32)) fun v15 =>
      zLet (F_X3_take a0 v15 s14) fun s16 =>
      (v1, s16)
  else
    zLet ((22 : Int32)) fun v5 =>
    zLet (F_X3_take a0 v5 σ) fun s6 =>
    (v1, s6)
set_option maxRecDepth 100000 in
noncomputable def F_X3_knownName (a0 : Nat) (σ : zS) : Int32 × zS :=
  zLet (σ.2.1 a0 4) fun v1 =>
  zLet2 (F_X3_placeNamed a0 v1 σ) fun v2 s3 =>
  zLet (s3.1 a0 3) fun v4 =>
  zLet ((22 : Int32)) fun v5 =>
  if v4.toInt = v5.toInt then
    zLet ((-1 : Int32)) fun v11 =>
    if v2.toInt = v11.toInt then
      zLet ((4 : Int32)) fun v17 =>
      zLet (F_X3_failLate a0 v17 s3) fun s18 =>
      zLet ((22 : Int32)) fun v19 =>
      zLet (F_X3_take a0 v19 s18) fun s20 =>
      zLet ((0 : Int32)) fun v21 =>
      zLet (if v21.toInt ≤ v2.toInt then v2 else v21) fun v22 =>
      (v22, s20)
    else
      zLet ((22 : Int32)) fun v13 =>
      zLet (F_X3_take a0 v13 s3) fun s14 =>
      zLet ((0 : Int32)) fun v15 =>
      zLet (if v15.toInt ≤ v2.toInt then v2 else v15) fun v16 =>
      (v16, s14)
  else
    zLet ((22 : Int32)) fun v7 =>
    zLet (F_X3_take a0 v7 s3) fun s8 =>
    zLet ((0 : Int32)) fun v9 =>
    zLet (if v9.toInt ≤ v2.toInt then v2 else v9) fun v10 =>
    (v10, s8)
set_option maxRecDepth 100000 in
noncomputable def F_X3_number (a0 : Nat) (p1 : Int32) (p2 : Int32) (σ : zS) : Int32 × zS :=
  zLet (σ.2.1 a0 4) fun v1 =>
  zLet (v1.toInt32) fun v2 =>
  zLet (σ.1 a0 3) fun v3 =>
  zLet ((23 : Int32)) fun v4 =>
  if v3.toInt = v4.toInt then
    zLet (F_X10_isWithin v2 p1 p2) fun v8 =>
    if v8.toInt = 0 then
      zLet ((5 : Int32)) fun v12 =>
      zLet (F_X3_failLate a0 v12 σ) fun s13 =>
      zLet ((23 : Int32)) fun v14 =>
      zLet (F_X3_take a0 v14 s13) fun s15 =>
      (v2, s15)
    else
      zLet ((23 : Int32)) fun v10 =>
      zLet (F_X3_take a0 v10 σ) fun s11 =>
      (v2, s11)
  else
    zLet ((23 : Int32)) fun v6 =>
    zLet (F_X3_take a0 v6 σ) fun s7 =>
    (v2, s7)
set_option maxRecDepth 100000 in
noncomputable def F_X3_mouth (a0 : Nat) (σ : zS) : zS :=
  zLet (σ.1 a0 6) fun v1 =>
  if v1.toInt = 0 then
    zLet ((0 : Int32)) fun v3 =>
    zLet (F_X3_take a0 v3 σ) fun s4 =>
    zLet2 (F_X3_newName a0 s4) fun v5 s6 =>
    zLet (s6.1 a0 8) fun v7 =>
    if v7.toInt = 0 then
      zLet ((1 : Int32)) fun v9 =>
      zLet ((zu s6.1 a0 6 v9, s6.2.1, s6.2.2)) fun s10 =>
      zLet ((s10.2.2 a0 1).getD 0) fun v11 =>
      zLet ((s10.2.2 v11 1).getD 0) fun v12 =>
      zLet ((0 : Int32)) fun v13 =>
      zLet ((s10.1, zu s10.2.1 v12 v13.toNatClampNeg v5, s10.2.2)) fun s14 =>
      zLet ((s14.2.2 a0 1).getD 0) fun v15 =>
      zLet ((0 : Int32)) fun v16 =>
      zLet ((0 : Int32)) fun v17 =>
      zLet ((0 : Int32)) fun v18 =>
      zLet ((0 : Int32)) fun v19 =>
      zLet ((0 : Int32)) fun v20 =>
      zLet (F_X9_setPlace v15 v16 v17 v18 v19 v20 s14) fun s21 =>
      s21
    else
      s6
  else
    zLet ((2 : Int32)) fun v22 =>
    zLet (F_X3_fail a0 v22 σ) fun s23 =>
    zLet ((0 : Int32)) fun v24 =>
    zLet (F_X3_take a0 v24 s23) fun s25 =>
    zLet2 (F_X3_newName a0 s25) fun v26 s27 =>
    zLet (s27.1 a0 8) fun v28 =>
    if v28.toInt = 0 then
      zLet ((1 : Int32)) fun v30 =>
      zLet ((zu s27.1 a0 6 v30, s27.2.1, s27.2.2)) fun s31 =>
      zLet ((s31.2.2 a0 1).getD 0) fun v32 =>
      zLet ((s31.2.2 v32 1).getD 0) fun v33 =>
      zLet ((0 : Int32)) fun v34 =>
      zLet ((s31.1, zu s31.2.1 v33 v34.toNatClampNeg v26, s31.2.2)) fun s35 =>
      zLet ((s35.2.2 a0 1).getD 0) fun v36 =>
      zLet ((0 : Int32)) fun v37 =>
      zLet ((0 : Int32)) fun v38 =>
      zLet ((0 : Int32)) fun v39 =>
      zLet ((0 : Int32)) fun v40 =>
      zLet ((0 : Int32)) fun v41 =>
      zLet (F_X9_setPlace v36 v37 v38 v39 v40 v41 s35) fun s42 =>
      s42
    else
      s27
set_option maxRecDepth 100000 in
noncomputable def F_X3_newPlace (a0 : Nat) (σ : zS) : zS :=
  zLet (σ.1 a0 7) fun v1 =>
  zLet ((11 : Int32)) fun v2 =>
  if v1.toInt < v2.toInt then
    zLet ((1 : Int32)) fun v4 =>
    zLet (F_X3_take a0 v4 σ) fun s5 =>
    zLet2 (F_X3_newName a0 s5) fun v6 s7 =>
    zLet2 (F_X3_knownName a0 s7) fun v8 s9 =>
    zLet ((1 : Int32)) fun v10 =>
    zLet ((99 : Int32)) fun v11 =>
    zLet2 (F_X3_number a0 v10 v11 s9) fun v12 s13 =>
    zLet ((0 : Int32)) fun v14 =>
    zLet ((99 : Int32)) fun v15 =>
    zLet2 (F_X3_number a0 v14 v15 s13) fun v16 s17 =>
    zLet ((0 : Int32)) fun v18 =>
    zLet ((99 : Int32)) fun v19 =>
    zLet2 (F_X3_number a0 v18 v19 s17) fun v20 s21 =>
    zLet (s21.1 a0 8) fun v22 =>
    if v22.toInt = 0 then
      zLet (s21.1 a0 7) fun v24 =>
      zLet ((11 : Int32)) fun v25 =>
      if v24.toInt < v25.toInt then
        zLet (s21.1 a0 7) fun v27 =>
        zLet ((1 : Int32)) fun v28 =>
        zLet (v27 + v28) fun v29 =>
        zLet ((zu s21.1 a0 7 v29, s21.2.1, s21.2.2)) fun s30 =>
        zLet ((s30.2.2 a0 1).getD 0) fun v33 =>
        zLet ((s30.2.2 v33 1).getD 0) fun v34 =>
        zLet (s30.1 a0 7) fun v35 =>
        zLet ((s30.1, zu s30.2.1 v34 v35.toNatClampNeg v6, s30.2.2)) fun s36 =>
        zLet ((s36.2.2 a0 1).getD 0) fun v38 =>
        zLet (s36.1 a0 7) fun v39 =>
        zLet (F_X9_setPlace v38 v39 v8 v12 v16 v20 s36) fun s40 =>
        s40
      else
        s21
    else
      s21
  else
    zLet ((2 : Int32)) fun v41 =>
    zLet (F_X3_fail a0 v41 σ) fun s42 =>
    zLet ((1 : Int32)) fun v43 =>
    zLet (F_X3_take a0 v43 s42) fun s44 =>
    zLet2 (F_X3_newName a0 s44) fun v45 s46 =>
    zLet2 (F_X3_knownName a0 s46) fun v47 s48 =>
    zLet ((1 : Int32)) fun v49 =>
    zLet ((99 : Int32)) fun v50 =>
    zLet2 (F_X3_number a0 v49 v50 s48) fun v51 s52 =>
    zLet ((0 : Int32)) fun v53 =>
    zLet ((99 : Int32)) fun v54 =>
    zLet2 (F_X3_number a0 v53 v54 s52) fun v55 s56 =>
    zLet ((0 : Int32)) fun v57 =>
    zLet ((99 : Int32)) fun v58 =>
    zLet2 (F_X3_number a0 v57 v58 s56) fun v59 s60 =>
    zLet (s60.1 a0 8) fun v61 =>
    if v61.toInt = 0 then
      zLet (s60.1 a0 7) fun v63 =>
      zLet ((11 : Int32)) fun v64 =>
      if v63.toInt < v64.toInt then
        zLet (s60.1 a0 7) fun v66 =>
        zLet ((1 : Int32)) fun v67 =>
        zLet (v66 + v67) fun v68 =>
        zLet ((zu s60.1 a0 7 v68, s60.2.1, s60.2.2)) fun s69 =>
        zLet ((s69.2.2 a0 1).getD 0) fun v72 =>
        zLet ((s69.2.2 v72 1).getD 0) fun v73 =>
        zLet (s69.1 a0 7) fun v74 =>
        zLet ((s69.1, zu s69.2.1 v73 v74.toNatClampNeg v45, s69.2.2)) fun s75 =>
        zLet ((s75.2.2 a0 1).getD 0) fun v77 =>
        zLet (s75.1 a0 7) fun v78 =>
        zLet (F_X9_setPlace v77 v78 v47 v51 v55 v59 s75) fun s79 =>
        s79
      else
        s60
    else
      s60
set_option maxRecDepth 100000 in
noncomputable def F_X3_unit_o6 (a0 : Nat) (p1 : Int32) (σ : zS) : zS :=
  zLet (σ.1 a0 3) fun v1 =>
  zLet ((23 : Int32)) fun v2 =>
  if v1.toInt = v2.toInt then
    zLet ((σ.2.2 a0 1).getD 0) fun v45 =>
    zLet ((0 : Int32)) fun v46 =>
    zLet (σ.2.1 a0 4) fun v47 =>
    zLet (v47.toInt32) fun v48 =>
    zLet (F_X9_addStep v45 v46 v48 σ) fun s49 =>
    zLet (s49.1 a0 3) fun v50 =>
    zLet (F_X3_take a0 v50 s49) fun s51 =>
    s51
  else
    zLet (σ.1 a0 3) fun v4 =>
    zLet ((13 : Int32)) fun v5 =>
    if v4.toInt < v5.toInt then
      zLet (σ.1 a0 3) fun v8 =>
      zLet ((31 : Int32)) fun v9 =>
      if v8.toInt = v9.toInt then
        σ
      else
        zLet (σ.1 a0 3) fun v11 =>
        zLet ((31 : Int32)) fun v12 =>
        if v11.toInt = v12.toInt then
          σ
        else
          zLet ((1 : Int32)) fun v14 =>
          zLet (F_X3_fail a0 v14 σ) fun s15 =>
          s15
    else
      zLet (σ.1 a0 3) fun v16 =>
      zLet ((22 : Int32)) fun v17 =>
      if v16.toInt < v17.toInt then
        zLet ((σ.2.2 a0 1).getD 0) fun v37 =>
        zLet ((1 : Int32)) fun v38 =>
        zLet (σ.1 a0 3) fun v39 =>
        zLet ((13 : Int32)) fun v40 =>
        zLet (v39 - v40) fun v41 =>
        zLet (F_X9_addStep v37 v38 v41 σ) fun s42 =>
        zLet (s42.1 a0 3) fun v43 =>
        zLet (F_X3_take a0 v43 s42) fun s44 =>
        s44
      else
        zLet (σ.1 a0 3) fun v20 =>
        zLet ((31 : Int32)) fun v21 =>
        if v20.toInt = v21.toInt then
          zLet ((6 : Int32)) fun v30 =>
          if p1.toInt < v30.toInt then
            σ
          else
            zLet (σ.1 a0 3) fun v32 =>
            zLet ((31 : Int32)) fun v33 =>
            if v32.toInt = v33.toInt then
              zLet ((2 : Int32)) fun v35 =>
              zLet (F_X3_fail a0 v35 σ) fun s36 =>
              s36
            else
              σ
        else
          zLet (σ.1 a0 3) fun v23 =>
          zLet ((31 : Int32)) fun v24 =>
          if v23.toInt = v24.toInt then
            zLet ((2 : Int32)) fun v28 =>
            zLet (F_X3_fail a0 v28 σ) fun s29 =>
            s29
          else
            zLet ((1 : Int32)) fun v26 =>
            zLet (F_X3_fail a0 v26 σ) fun s27 =>
            s27
set_option maxRecDepth 100000 in
noncomputable def F_X3_product_o6_7 (a0 : Nat) (p1 : Int32)  : Nat → Int32 → zS → zS
  | 0, _, s => s
  | n + 1, x3, τ4 =>
    zLet ((400 : Int32)) fun v5 =>
    if v5.toInt < x3.toInt then
      τ4
    else
      zLet (τ4.1 a0 3) fun v7 =>
      zLet ((28 : Int32)) fun v8 =>
      zLet ((29 : Int32)) fun v9 =>
      zLet (F_X10_isWithin v7 v8 v9) fun v10 =>
      if v10.toInt = 0 then
        τ4
      else
        zLet (τ4.1 a0 3) fun v12 =>
        zLet (F_X3_take a0 v12 τ4) fun s13 =>
        zLet (F_X3_unit_o6 a0 p1 s13) fun s14 =>
        zLet ((s14.2.2 a0 1).getD 0) fun v15 =>
        zLet ((28 : Int32)) fun v16 =>
        if v12.toInt = v16.toInt then
          zLet ((4 : Int32)) fun v22 =>
          zLet ((0 : Int32)) fun v23 =>
          zLet (F_X9_addStep v15 v22 v23 s14) fun s24 =>
          zLet (x3 + (1 : Int32)) fun v25 =>
          F_X3_product_o6_7 a0 p1  n v25 s24
        else
          zLet ((5 : Int32)) fun v18 =>
          zLet ((0 : Int32)) fun v19 =>
          zLet (F_X9_addStep v15 v18 v19 s14) fun s20 =>
          zLet (x3 + (1 : Int32)) fun v21 =>
          F_X3_product_o6_7 a0 p1  n v21 s20
set_option maxRecDepth 100000 in
noncomputable def F_X3_product_o6 (a0 : Nat) (p1 : Int32) (σ : zS) : zS :=
  zLet (F_X3_unit_o6 a0 p1 σ) fun s1 =>
  zLet ((0 : Int32)) fun v2 =>
  F_X3_product_o6_7 a0 p1  10000 v2 s1
set_option maxRecDepth 100000 in
noncomputable def F_X3_sum_o6_7 (a0 : Nat) (p1 : Int32)  : Nat → Int32 → zS → zS
  | 0, _, s => s
  | n + 1, x3, τ4 =>
    zLet ((400 : Int32)) fun v5 =>
    if v5.toInt < x3.toInt then
      τ4
    else
      zLet (τ4.1 a0 3) fun v7 =>
      zLet ((26 : Int32)) fun v8 =>
      zLet ((27 : Int32)) fun v9 =>
      zLet (F_X10_isWithin v7 v8 v9) fun v10 =>
      if v10.toInt = 0 then
        τ4
      else
        zLet (τ4.1 a0 3) fun v12 =>
        zLet (F_X3_take a0 v12 τ4) fun s13 =>
        zLet (F_X3_product_o6 a0 p1 s13) fun s14 =>
        zLet ((s14.2.2 a0 1).getD 0) fun v15 =>
        zLet ((26 : Int32)) fun v16 =>
        if v12.toInt = v16.toInt then
          zLet ((2 : Int32)) fun v22 =>
          zLet ((0 : Int32)) fun v23 =>
          zLet (F_X9_addStep v15 v22 v23 s14) fun s24 =>
          zLet (x3 + (1 : Int32)) fun v25 =>
          F_X3_sum_o6_7 a0 p1  n v25 s24
        else
          zLet ((3 : Int32)) fun v18 =>
          zLet ((0 : Int32)) fun v19 =>
          zLet (F_X9_addStep v15 v18 v19 s14) fun s20 =>
          zLet (x3 + (1 : Int32)) fun v21 =>
          F_X3_sum_o6_7 a0 p1  n v21 s20
set_option maxRecDepth 100000 in
noncomputable def F_X3_sum_o6 (a0 : Nat) (p1 : Int32) (σ : zS) : zS :=
  zLet (F_X3_product_o6 a0 p1 σ) fun s1 =>
  zLet ((0 : Int32)) fun v2 =>
  F_X3_sum_o6_7 a0 p1  10000 v2 s1
set_option maxRecDepth 100000 in
noncomputable def F_X3_unit_o5 (a0 : Nat) (p1 : Int32) (σ : zS) : zS :=
  zLet (σ.1 a0 3) fun v1 =>
  zLet ((23 : Int32)) fun v2 =>
  if v1.toInt = v2.toInt then
    zLet ((σ.2.2 a0 1).getD 0) fun v47 =>
    zLet ((0 : Int32)) fun v48 =>
    zLet (σ.2.1 a0 4) fun v49 =>
    zLet (v49.toInt32) fun v50 =>
    zLet (F_X9_addStep v47 v48 v50 σ) fun s51 =>
    zLet (s51.1 a0 3) fun v52 =>
    zLet (F_X3_take a0 v52 s51) fun s53 =>
    s53
  else
    zLet (σ.1 a0 3) fun v4 =>
    zLet ((13 : Int32)) fun v5 =>
    if v4.toInt < v5.toInt then
      zLet (σ.1 a0 3) fun v8 =>
      zLet ((31 : Int32)) fun v9 =>
      if v8.toInt = v9.toInt then
        σ
      else
        zLet (σ.1 a0 3) fun v11 =>
        zLet ((31 : Int32)) fun v12 =>
        if v11.toInt = v12.toInt then
          σ
        else
          zLet ((1 : Int32)) fun v14 =>
          zLet (F_X3_fail a0 v14 σ) fun s15 =>
          s15
    else
      zLet (σ.1 a0 3) fun v16 =>
      zLet ((22 : Int32)) fun v17 =>
      if v16.toInt < v17.toInt then
        zLet ((σ.2.2 a0 1).getD 0) fun v39 =>
        zLet ((1 : Int32)) fun v40 =>
        zLet (σ.1 a0 3) fun v41 =>
        zLet ((13 : Int32)) fun v42 =>
        zLet (v41 - v42) fun v43 =>
        zLet (F_X9_addStep v39 v40 v43 σ) fun s44 =>
        zLet (s44.1 a0 3) fun v45 =>
        zLet (F_X3_take a0 v45 s44) fun s46 =>
        s46
      else
        zLet (σ.1 a0 3) fun v20 =>
        zLet ((31 : Int32)) fun v21 =>
        if v20.toInt = v21.toInt then
          zLet ((6 : Int32)) fun v30 =>
          if p1.toInt < v30.toInt then
            zLet (σ.1 a0 3) fun v32 =>
            zLet (F_X3_take a0 v32 σ) fun s33 =>
            zLet ((1 : Int32)) fun v34 =>
            zLet (p1 + v34) fun v35 =>
            zLet (F_X3_sum_o6 a0 v35 s33) fun s36 =>
            zLet ((32 : Int32)) fun v37 =>
            zLet (F_X3_take a0 v37 s36) fun s38 =>
            s38
          else
            σ
        else
          zLet (σ.1 a0 3) fun v23 =>
          zLet ((31 : Int32)) fun v24 =>
          if v23.toInt = v24.toInt then
            zLet ((2 : Int32)) fun v28 =>
            zLet (F_X3_fail a0 v28 σ) fun s29 =>
            s29
          else
            zLet ((1 : Int32)) fun v26 =>
            zLet (F_X3_fail a0 v26 σ) fun s27 =>
            s27
set_option maxRecDepth 100000 in
noncomputable def F_X3_product_o5_7 (a0 : Nat) (p1 : Int32)  : Nat → Int32 → zS → zS
  | 0, _, s => s
  | n + 1, x3, τ4 =>
    zLet ((400 : Int32)) fun v5 =>
    if v5.toInt < x3.toInt then
      τ4
    else
      zLet (τ4.1 a0 3) fun v7 =>
      zLet ((28 : Int32)) fun v8 =>
      zLet ((29 : Int32)) fun v9 =>
      zLet (F_X10_isWithin v7 v8 v9) fun v10 =>
      if v10.toInt = 0 then
        τ4
      else
        zLet (τ4.1 a0 3) fun v12 =>
        zLet (F_X3_take a0 v12 τ4) fun s13 =>
        zLet (F_X3_unit_o5 a0 p1 s13) fun s14 =>
        zLet ((s14.2.2 a0 1).getD 0) fun v15 =>
        zLet ((28 : Int32)) fun v16 =>
        if v12.toInt = v16.toInt then
          zLet ((4 : Int32)) fun v22 =>
          zLet ((0 : Int32)) fun v23 =>
          zLet (F_X9_addStep v15 v22 v23 s14) fun s24 =>
          zLet (x3 + (1 : Int32)) fun v25 =>
          F_X3_product_o5_7 a0 p1  n v25 s24
        else
          zLet ((5 : Int32)) fun v18 =>
          zLet ((0 : Int32)) fun v19 =>
          zLet (F_X9_addStep v15 v18 v19 s14) fun s20 =>
          zLet (x3 + (1 : Int32)) fun v21 =>
          F_X3_product_o5_7 a0 p1  n v21 s20
set_option maxRecDepth 100000 in
noncomputable def F_X3_product_o5 (a0 : Nat) (p1 : Int32) (σ : zS) : zS :=
  zLet (F_X3_unit_o5 a0 p1 σ) fun s1 =>
  zLet ((0 : Int32)) fun v2 =>
  F_X3_product_o5_7 a0 p1  10000 v2 s1
set_option maxRecDepth 100000 in
noncomputable def F_X3_sum_o5_7 (a0 : Nat) (p1 : Int32)  : Nat → Int32 → zS → zS
  | 0, _, s => s
  | n + 1, x3, τ4 =>
    zLet ((400 : Int32)) fun v5 =>
    if v5.toInt < x3.toInt then
      τ4
    else
      zLet (τ4.1 a0 3) fun v7 =>
      zLet ((26 : Int32)) fun v8 =>
      zLet ((27 : Int32)) fun v9 =>
      zLet (F_X10_isWithin v7 v8 v9) fun v10 =>
      if v10.toInt = 0 then
        τ4
      else
        zLet (τ4.1 a0 3) fun v12 =>
        zLet (F_X3_take a0 v12 τ4) fun s13 =>
        zLet (F_X3_product_o5 a0 p1 s13) fun s14 =>
        zLet ((s14.2.2 a0 1).getD 0) fun v15 =>
        zLet ((26 : Int32)) fun v16 =>
        if v12.toInt = v16.toInt then
          zLet ((2 : Int32)) fun v22 =>
          zLet ((0 : Int32)) fun v23 =>
          zLet (F_X9_addStep v15 v22 v23 s14) fun s24 =>
          zLet (x3 + (1 : Int32)) fun v25 =>
          F_X3_sum_o5_7 a0 p1  n v25 s24
        else
          zLet ((3 : Int32)) fun v18 =>
          zLet ((0 : Int32)) fun v19 =>
          zLet (F_X9_addStep v15 v18 v19 s14) fun s20 =>
          zLet (x3 + (1 : Int32)) fun v21 =>
          F_X3_sum_o5_7 a0 p1  n v21 s20
set_option maxRecDepth 100000 in
noncomputable def F_X3_sum_o5 (a0 : Nat) (p1 : Int32) (σ : zS) : zS :=
  zLet (F_X3_product_o5 a0 p1 σ) fun s1 =>
  zLet ((0 : Int32)) fun v2 =>
  F_X3_sum_o5_7 a0 p1  10000 v2 s1
set_option maxRecDepth 100000 in
noncomputable def F_X3_unit_o4 (a0 : Nat) (p1 : Int32) (σ : zS) : zS :=
  zLet (σ.1 a0 3) fun v1 =>
  zLet ((23 : Int32)) fun v2 =>
  if v1.toInt = v2.toInt then
    zLet ((σ.2.2 a0 1).getD 0) fun v47 =>
    zLet ((0 : Int32)) fun v48 =>
    zLet (σ.2.1 a0 4) fun v49 =>
    zLet (v49.toInt32) fun v50 =>
    zLet (F_X9_addStep v47 v48 v50 σ) fun s51 =>
    zLet (s51.1 a0 3) fun v52 =>
    zLet (F_X3_take a0 v52 s51) fun s53 =>
    s53
  else
    zLet (σ.1 a0 3) fun v4 =>
    zLet ((13 : Int32)) fun v5 =>
    if v4.toInt < v5.toInt then
      zLet (σ.1 a0 3) fun v8 =>
      zLet ((31 : Int32)) fun v9 =>
      if v8.toInt = v9.toInt then
        σ
      else
        zLet (σ.1 a0 3) fun v11 =>
        zLet ((31 : Int32)) fun v12 =>
        if v11.toInt = v12.toInt then
          σ
        else
          zLet ((1 : Int32)) fun v14 =>
          zLet (F_X3_fail a0 v14 σ) fun s15 =>
          s15
    else
      zLet (σ.1 a0 3) fun v16 =>
      zLet ((22 : Int32)) fun v17 =>
      if v16.toInt < v17.toInt then
        zLet ((σ.2.2 a0 1).getD 0) fun v39 =>
        zLet ((1 : Int32)) fun v40 =>
        zLet (σ.1 a0 3) fun v41 =>
        zLet ((13 : Int32)) fun v42 =>
        zLet (v41 - v42) fun v43 =>
        zLet (F_X9_addStep v39 v40 v43 σ) fun s44 =>
        zLet (s44.1 a0 3) fun v45 =>
        zLet (F_X3_take a0 v45 s44) fun s46 =>
        s46
      else
        zLet (σ.1 a0 3) fun v20 =>
        zLet ((31 : Int32)) fun v21 =>
        if v20.toInt = v21.toInt then
          zLet ((6 : Int32)) fun v30 =>
          if p1.toInt < v30.toInt then
            zLet (σ.1 a0 3) fun v32 =>
            zLet (F_X3_take a0 v32 σ) fun s33 =>
            zLet ((1 : Int32)) fun v34 =>
            zLet (p1 + v34) fun v35 =>
            zLet (F_X3_sum_o5 a0 v35 s33) fun s36 =>
            zLet ((32 : Int32)) fun v37 =>
            zLet (F_X3_take a0 v37 s36) fun s38 =>
            s38
          else
            σ
        else
          zLet (σ.1 a0 3) fun v23 =>
          zLet ((31 : Int32)) fun v24 =>
          if v23.toInt = v24.toInt then
            zLet ((2 : Int32)) fun v28 =>
            zLet (F_X3_fail a0 v28 σ) fun s29 =>
            s29
          else
            zLet ((1 : Int32)) fun v26 =>
            zLet (F_X3_fail a0 v26 σ) fun s27 =>
            s27
set_option maxRecDepth 100000 in
noncomputable def F_X3_product_o4_7 (a0 : Nat) (p1 : Int32)  : Nat → Int32 → zS → zS
  | 0, _, s => s
  | n + 1, x3, τ4 =>
    zLet ((400 : Int32)) fun v5 =>
    if v5.toInt < x3.toInt then
      τ4
    else
      zLet (τ4.1 a0 3) fun v7 =>
      zLet ((28 : Int32)) fun v8 =>
      zLet ((29 : Int32)) fun v9 =>
      zLet (F_X10_isWithin v7 v8 v9) fun v10 =>
      if v10.toInt = 0 then
        τ4
      else
        zLet (τ4.1 a0 3) fun v12 =>
        zLet (F_X3_take a0 v12 τ4) fun s13 =>
        zLet (F_X3_unit_o4 a0 p1 s13) fun s14 =>
        zLet ((s14.2.2 a0 1).getD 0) fun v15 =>
        zLet ((28 : Int32)) fun v16 =>
        if v12.toInt = v16.toInt then
          zLet ((4 : Int32)) fun v22 =>
          zLet ((0 : Int32)) fun v23 =>
          zLet (F_X9_addStep v15 v22 v23 s14) fun s24 =>
          zLet (x3 + (1 : Int32)) fun v25 =>
          F_X3_product_o4_7 a0 p1  n v25 s24
        else
          zLet ((5 : Int32)) fun v18 =>
          zLet ((0 : Int32)) fun v19 =>
          zLet (F_X9_addStep v15 v18 v19 s14) fun s20 =>
          zLet (x3 + (1 : Int32)) fun v21 =>
          F_X3_product_o4_7 a0 p1  n v21 s20
set_option maxRecDepth 100000 in
noncomputable def F_X3_product_o4 (a0 : Nat) (p1 : Int32) (σ : zS) : zS :=
  zLet (F_X3_unit_o4 a0 p1 σ) fun s1 =>
  zLet ((0 : Int32)) fun v2 =>
  F_X3_product_o4_7 a0 p1  10000 v2 s1
set_option maxRecDepth 100000 in
noncomputable def F_X3_sum_o4_7 (a0 : Nat) (p1 : Int32)  : Nat → Int32 → zS → zS
  | 0, _, s => s
  | n + 1, x3, τ4 =>
    zLet ((400 : Int32)) fun v5 =>
    if v5.toInt < x3.toInt then
      τ4
    else
      zLet (τ4.1 a0 3) fun v7 =>
      zLet ((26 : Int32)) fun v8 =>
      zLet ((27 : Int32)) fun v9 =>
      zLet (F_X10_isWithin v7 v8 v9) fun v10 =>
      if v10.toInt = 0 then
        τ4
      else
        zLet (τ4.1 a0 3) fun v12 =>
        zLet (F_X3_take a0 v12 τ4) fun s13 =>
        zLet (F_X3_product_o4 a0 p1 s13) fun s14 =>
        zLet ((s14.2.2 a0 1).getD 0) fun v15 =>
        zLet ((26 : Int32)) fun v16 =>
        if v12.toInt = v16.toInt then
          zLet ((2 : Int32)) fun v22 =>
          zLet ((0 : Int32)) fun v23 =>
          zLet (F_X9_addStep v15 v22 v23 s14) fun s24 =>
          zLet (x3 + (1 : Int32)) fun v25 =>
          F_X3_sum_o4_7 a0 p1  n v25 s24
        else
          zLet ((3 : Int32)) fun v18 =>
          zLet ((0 : Int32)) fun v19 =>
          zLet (F_X9_addStep v15 v18 v19 s14) fun s20 =>
          zLet (x3 + (1 : Int32)) fun v21 =>
          F_X3_sum_o4_7 a0 p1  n v21 s20
set_option maxRecDepth 100000 in
noncomputable def F_X3_sum_o4 (a0 : Nat) (p1 : Int32) (σ : zS) : zS :=
  zLet (F_X3_product_o4 a0 p1 σ) fun s1 =>
  zLet ((0 : Int32)) fun v2 =>
  F_X3_sum_o4_7 a0 p1  10000 v2 s1
set_option maxRecDepth 100000 in
noncomputable def F_X3_unit_o3 (a0 : Nat) (p1 : Int32) (σ : zS) : zS :=
  zLet (σ.1 a0 3) fun v1 =>
  zLet ((23 : Int32)) fun v2 =>
  if v1.toInt = v2.toInt then
    zLet ((σ.2.2 a0 1).getD 0) fun v47 =>
    zLet ((0 : Int32)) fun v48 =>
    zLet (σ.2.1 a0 4) fun v49 =>
    zLet (v49.toInt32) fun v50 =>
    zLet (F_X9_addStep v47 v48 v50 σ) fun s51 =>
    zLet (s51.1 a0 3) fun v52 =>
    zLet (F_X3_take a0 v52 s51) fun s53 =>
    s53
  else
    zLet (σ.1 a0 3) fun v4 =>
    zLet ((13 : Int32)) fun v5 =>
    if v4.toInt < v5.toInt then
      zLet (σ.1 a0 3) fun v8 =>
      zLet ((31 : Int32)) fun v9 =>
      if v8.toInt = v9.toInt then
        σ
      else
        zLet (σ.1 a0 3) fun v11 =>
        zLet ((31 : Int32)) fun v12 =>
        if v11.toInt = v12.toInt then
          σ
        else
          zLet ((1 : Int32)) fun v14 =>
          zLet (F_X3_fail a0 v14 σ) fun s15 =>
          s15
    else
      zLet (σ.1 a0 3) fun v16 =>
      zLet ((22 : Int32)) fun v17 =>
      if v16.toInt < v17.toInt then
        zLet ((σ.2.2 a0 1).getD 0) fun v39 =>
        zLet ((1 : Int32)) fun v40 =>
        zLet (σ.1 a0 3) fun v41 =>
        zLet ((13 : Int32)) fun v42 =>
        zLet (v41 - v42) fun v43 =>
        zLet (F_X9_addStep v39 v40 v43 σ) fun s44 =>
        zLet (s44.1 a0 3) fun v45 =>
        zLet (F_X3_take a0 v45 s44) fun s46 =>
        s46
      else
        zLet (σ.1 a0 3) fun v20 =>
        zLet ((31 : Int32)) fun v21 =>
        if v20.toInt = v21.toInt then
          zLet ((6 : Int32)) fun v30 =>
          if p1.toInt < v30.toInt then
            zLet (σ.1 a0 3) fun v32 =>
            zLet (F_X3_take a0 v32 σ) fun s33 =>
            zLet ((1 : Int32)) fun v34 =>
            zLet (p1 + v34) fun v35 =>
            zLet (F_X3_sum_o4 a0 v35 s33) fun s36 =>
            zLet ((32 : Int32)) fun v37 =>
            zLet (F_X3_take a0 v37 s36) fun s38 =>
            s38
          else
            σ
        else
          zLet (σ.1 a0 3) fun v23 =>
          zLet ((31 : Int32)) fun v24 =>
          if v23.toInt = v24.toInt then
            zLet ((2 : Int32)) fun v28 =>
            zLet (F_X3_fail a0 v28 σ) fun s29 =>
            s29
          else
            zLet ((1 : Int32)) fun v26 =>
            zLet (F_X3_fail a0 v26 σ) fun s27 =>
            s27
set_option maxRecDepth 100000 in
noncomputable def F_X3_product_o3_7 (a0 : Nat) (p1 : Int32)  : Nat → Int32 → zS → zS
  | 0, _, s => s
  | n + 1, x3, τ4 =>
    zLet ((400 : Int32)) fun v5 =>
    if v5.toInt < x3.toInt then
      τ4
    else
      zLet (τ4.1 a0 3) fun v7 =>
      zLet ((28 : Int32)) fun v8 =>
      zLet ((29 : Int32)) fun v9 =>
      zLet (F_X10_isWithin v7 v8 v9) fun v10 =>
      if v10.toInt = 0 then
        τ4
      else
        zLet (τ4.1 a0 3) fun v12 =>
        zLet (F_X3_take a0 v12 τ4) fun s13 =>
        zLet (F_X3_unit_o3 a0 p1 s13) fun s14 =>
        zLet ((s14.2.2 a0 1).getD 0) fun v15 =>
        zLet ((28 : Int32)) fun v16 =>
        if v12.toInt = v16.toInt then
          zLet ((4 : Int32)) fun v22 =>
          zLet ((0 : Int32)) fun v23 =>
          zLet (F_X9_addStep v15 v22 v23 s14) fun s24 =>
          zLet (x3 + (1 : Int32)) fun v25 =>
          F_X3_product_o3_7 a0 p1  n v25 s24
        else
          zLet ((5 : Int32)) fun v18 =>
          zLet ((0 : Int32)) fun v19 =>
          zLet (F_X9_addStep v15 v18 v19 s14) fun s20 =>
          zLet (x3 + (1 : Int32)) fun v21 =>
          F_X3_product_o3_7 a0 p1  n v21 s20
set_option maxRecDepth 100000 in
noncomputable def F_X3_product_o3 (a0 : Nat) (p1 : Int32) (σ : zS) : zS :=
  zLet (F_X3_unit_o3 a0 p1 σ) fun s1 =>
  zLet ((0 : Int32)) fun v2 =>
  F_X3_product_o3_7 a0 p1  10000 v2 s1
set_option maxRecDepth 100000 in
noncomputable def F_X3_sum_o3_7 (a0 : Nat) (p1 : Int32)  : Nat → Int32 → zS → zS
  | 0, _, s => s
  | n + 1, x3, τ4 =>
    zLet ((400 : Int32)) fun v5 =>
    if v5.toInt < x3.toInt then
      τ4
    else
      zLet (τ4.1 a0 3) fun v7 =>
      zLet ((26 : Int32)) fun v8 =>
      zLet ((27 : Int32)) fun v9 =>
      zLet (F_X10_isWithin v7 v8 v9) fun v10 =>
      if v10.toInt = 0 then
        τ4
      else
        zLet (τ4.1 a0 3) fun v12 =>
        zLet (F_X3_take a0 v12 τ4) fun s13 =>
        zLet (F_X3_product_o3 a0 p1 s13) fun s14 =>
        zLet ((s14.2.2 a0 1).getD 0) fun v15 =>
        zLet ((26 : Int32)) fun v16 =>
        if v12.toInt = v16.toInt then
          zLet ((2 : Int32)) fun v22 =>
          zLet ((0 : Int32)) fun v23 =>
          zLet (F_X9_addStep v15 v22 v23 s14) fun s24 =>
          zLet (x3 + (1 : Int32)) fun v25 =>
          F_X3_sum_o3_7 a0 p1  n v25 s24
        else
          zLet ((3 : Int32)) fun v18 =>
          zLet ((0 : Int32)) fun v19 =>
          zLet (F_X9_addStep v15 v18 v19 s14) fun s20 =>
          zLet (x3 + (1 : Int32)) fun v21 =>
          F_X3_sum_o3_7 a0 p1  n v21 s20
set_option maxRecDepth 100000 in
noncomputable def F_X3_sum_o3 (a0 : Nat) (p1 : Int32) (σ : zS) : zS :=
  zLet (F_X3_product_o3 a0 p1 σ) fun s1 =>
  zLet ((0 : Int32)) fun v2 =>
  F_X3_sum_o3_7 a0 p1  10000 v2 s1
set_option maxRecDepth 100000 in
noncomputable def F_X3_unit_o2 (a0 : Nat) (p1 : Int32) (σ : zS) : zS :=
  zLet (σ.1 a0 3) fun v1 =>
  zLet ((23 : Int32)) fun v2 =>
  if v1.toInt = v2.toInt then
    zLet ((σ.2.2 a0 1).getD 0) fun v47 =>
    zLet ((0 : Int32)) fun v48 =>
    zLet (σ.2.1 a0 4) fun v49 =>
    zLet (v49.toInt32) fun v50 =>
    zLet (F_X9_addStep v47 v48 v50 σ) fun s51 =>
    zLet (s51.1 a0 3) fun v52 =>
    zLet (F_X3_take a0 v52 s51) fun s53 =>
    s53
  else
    zLet (σ.1 a0 3) fun v4 =>
    zLet ((13 : Int32)) fun v5 =>
    if v4.toInt < v5.toInt then
      zLet (σ.1 a0 3) fun v8 =>
      zLet ((31 : Int32)) fun v9 =>
      if v8.toInt = v9.toInt then
        σ
      else
        zLet (σ.1 a0 3) fun v11 =>
        zLet ((31 : Int32)) fun v12 =>
        if v11.toInt = v12.toInt then
          σ
        else
          zLet ((1 : Int32)) fun v14 =>
          zLet (F_X3_fail a0 v14 σ) fun s15 =>
          s15
    else
      zLet (σ.1 a0 3) fun v16 =>
      zLet ((22 : Int32)) fun v17 =>
      if v16.toInt < v17.toInt then
        zLet ((σ.2.2 a0 1).getD 0) fun v39 =>
        zLet ((1 : Int32)) fun v40 =>
        zLet (σ.1 a0 3) fun v41 =>
        zLet ((13 : Int32)) fun v42 =>
        zLet (v41 - v42) fun v43 =>
        zLet (F_X9_addStep v39 v40 v43 σ) fun s44 =>
        zLet (s44.1 a0 3) fun v45 =>
        zLet (F_X3_take a0 v45 s44) fun s46 =>
        s46
      else
        zLet (σ.1 a0 3) fun v20 =>
        zLet ((31 : Int32)) fun v21 =>
        if v20.toInt = v21.toInt then
          zLet ((6 : Int32)) fun v30 =>
          if p1.toInt < v30.toInt then
            zLet (σ.1 a0 3) fun v32 =>
            zLet (F_X3_take a0 v32 σ) fun s33 =>
            zLet ((1 : Int32)) fun v34 =>
            zLet (p1 + v34) fun v35 =>
            zLet (F_X3_sum_o3 a0 v35 s33) fun s36 =>
            zLet ((32 : Int32)) fun v37 =>
            zLet (F_X3_take a0 v37 s36) fun s38 =>
            s38
          else
            σ
        else
          zLet (σ.1 a0 3) fun v23 =>
          zLet ((31 : Int32)) fun v24 =>
          if v23.toInt = v24.toInt then
            zLet ((2 : Int32)) fun v28 =>
            zLet (F_X3_fail a0 v28 σ) fun s29 =>
            s29
          else
            zLet ((1 : Int32)) fun v26 =>
            zLet (F_X3_fail a0 v26 σ) fun s27 =>
            s27
set_option maxRecDepth 100000 in
noncomputable def F_X3_product_o2_7 (a0 : Nat) (p1 : Int32)  : Nat → Int32 → zS → zS
  | 0, _, s => s
  | n + 1, x3, τ4 =>
    zLet ((400 : Int32)) fun v5 =>
    if v5.toInt < x3.toInt then
      τ4
    else
      zLet (τ4.1 a0 3) fun v7 =>
      zLet ((28 : Int32)) fun v8 =>
      zLet ((29 : Int32)) fun v9 =>
      zLet (F_X10_isWithin v7 v8 v9) fun v10 =>
      if v10.toInt = 0 then
        τ4
      else
        zLet (τ4.1 a0 3) fun v12 =>
        zLet (F_X3_take a0 v12 τ4) fun s13 =>
        zLet (F_X3_unit_o2 a0 p1 s13) fun s14 =>
        zLet ((s14.2.2 a0 1).getD 0) fun v15 =>
        zLet ((28 : Int32)) fun v16 =>
        if v12.toInt = v16.toInt then
          zLet ((4 : Int32)) fun v22 =>
          zLet ((0 : Int32)) fun v23 =>
          zLet (F_X9_addStep v15 v22 v23 s14) fun s24 =>
          zLet (x3 + (1 : Int32)) fun v25 =>
          F_X3_product_o2_7 a0 p1  n v25 s24
        else
          zLet ((5 : Int32)) fun v18 =>
          zLet ((0 : Int32)) fun v19 =>
          zLet (F_X9_addStep v15 v18 v19 s14) fun s20 =>
          zLet (x3 + (1 : Int32)) fun v21 =>
          F_X3_product_o2_7 a0 p1  n v21 s20
set_option maxRecDepth 100000 in
noncomputable def F_X3_product_o2 (a0 : Nat) (p1 : Int32) (σ : zS) : zS :=
  zLet (F_X3_unit_o2 a0 p1 σ) fun s1 =>
  zLet ((0 : Int32)) fun v2 =>
  F_X3_product_o2_7 a0 p1  10000 v2 s1
set_option maxRecDepth 100000 in
noncomputable def F_X3_sum_o2_7 (a0 : Nat) (p1 : Int32)  : Nat → Int32 → zS → zS
  | 0, _, s => s
  | n + 1, x3, τ4 =>
    zLet ((400 : Int32)) fun v5 =>
    if v5.toInt < x3.toInt then
      τ4
    else
      zLet (τ4.1 a0 3) fun v7 =>
      zLet ((26 : Int32)) fun v8 =>
      zLet ((27 : Int32)) fun v9 =>
      zLet (F_X10_isWithin v7 v8 v9) fun v10 =>
      if v10.toInt = 0 then
        τ4
      else
        zLet (τ4.1 a0 3) fun v12 =>
        zLet (F_X3_take a0 v12 τ4) fun s13 =>
        zLet (F_X3_product_o2 a0 p1 s13) fun s14 =>
        zLet ((s14.2.2 a0 1).getD 0) fun v15 =>
        zLet ((26 : Int32)) fun v16 =>
        if v12.toInt = v16.toInt then
          zLet ((2 : Int32)) fun v22 =>
          zLet ((0 : Int32)) fun v23 =>
          zLet (F_X9_addStep v15 v22 v23 s14) fun s24 =>
          zLet (x3 + (1 : Int32)) fun v25 =>
          F_X3_sum_o2_7 a0 p1  n v25 s24
        else
          zLet ((3 : Int32)) fun v18 =>
          zLet ((0 : Int32)) fun v19 =>
          zLet (F_X9_addStep v15 v18 v19 s14) fun s20 =>
          zLet (x3 + (1 : Int32)) fun v21 =>
          F_X3_sum_o2_7 a0 p1  n v21 s20
set_option maxRecDepth 100000 in
noncomputable def F_X3_sum_o2 (a0 : Nat) (p1 : Int32) (σ : zS) : zS :=
  zLet (F_X3_product_o2 a0 p1 σ) fun s1 =>
  zLet ((0 : Int32)) fun v2 =>
  F_X3_sum_o2_7 a0 p1  10000 v2 s1
set_option maxRecDepth 100000 in
noncomputable def F_X3_unit_o1 (a0 : Nat) (p1 : Int32) (σ : zS) : zS :=
  zLet (σ.1 a0 3) fun v1 =>
  zLet ((23 : Int32)) fun v2 =>
  if v1.toInt = v2.toInt then
    zLet ((σ.2.2 a0 1).getD 0) fun v47 =>
    zLet ((0 : Int32)) fun v48 =>
    zLet (σ.2.1 a0 4) fun v49 =>
    zLet (v49.toInt32) fun v50 =>
    zLet (F_X9_addStep v47 v48 v50 σ) fun s51 =>
    zLet (s51.1 a0 3) fun v52 =>
    zLet (F_X3_take a0 v52 s51) fun s53 =>
    s53
  else
    zLet (σ.1 a0 3) fun v4 =>
    zLet ((13 : Int32)) fun v5 =>
    if v4.toInt < v5.toInt then
      zLet (σ.1 a0 3) fun v8 =>
      zLet ((31 : Int32)) fun v9 =>
      if v8.toInt = v9.toInt then
        σ
      else
        zLet (σ.1 a0 3) fun v11 =>
        zLet ((31 : Int32)) fun v12 =>
        if v11.toInt = v12.toInt then
          σ
        else
          zLet ((1 : Int32)) fun v14 =>
          zLet (F_X3_fail a0 v14 σ) fun s15 =>
          s15
    else
      zLet (σ.1 a0 3) fun v16 =>
      zLet ((22 : Int32)) fun v17 =>
      if v16.toInt < v17.toInt then
        zLet ((σ.2.2 a0 1).getD 0) fun v39 =>
        zLet ((1 : Int32)) fun v40 =>
        zLet (σ.1 a0 3) fun v41 =>
        zLet ((13 : Int32)) fun v42 =>
        zLet (v41 - v42) fun v43 =>
        zLet (F_X9_addStep v39 v40 v43 σ) fun s44 =>
        zLet (s44.1 a0 3) fun v45 =>
        zLet (F_X3_take a0 v45 s44) fun s46 =>
        s46
      else
        zLet (σ.1 a0 3) fun v20 =>
        zLet ((31 : Int32)) fun v21 =>
        if v20.toInt = v21.toInt then
          zLet ((6 : Int32)) fun v30 =>
          if p1.toInt < v30.toInt then
            zLet (σ.1 a0 3) fun v32 =>
            zLet (F_X3_take a0 v32 σ) fun s33 =>
            zLet ((1 : Int32)) fun v34 =>
            zLet (p1 + v34) fun v35 =>
            zLet (F_X3_sum_o2 a0 v35 s33) fun s36 =>
            zLet ((32 : Int32)) fun v37 =>
            zLet (F_X3_take a0 v37 s36) fun s38 =>
            s38
          else
            σ
        else
          zLet (σ.1 a0 3) fun v23 =>
          zLet ((31 : Int32)) fun v24 =>
          if v23.toInt = v24.toInt then
            zLet ((2 : Int32)) fun v28 =>
            zLet (F_X3_fail a0 v28 σ) fun s29 =>
            s29
          else
            zLet ((1 : Int32)) fun v26 =>
            zLet (F_X3_fail a0 v26 σ) fun s27 =>
            s27
set_option maxRecDepth 100000 in
noncomputable def F_X3_product_o1_7 (a0 : Nat) (p1 : Int32)  : Nat → Int32 → zS → zS
  | 0, _, s => s
  | n + 1, x3, τ4 =>
    zLet ((400 : Int32)) fun v5 =>
    if v5.toInt < x3.toInt then
      τ4
    else
      zLet (τ4.1 a0 3) fun v7 =>
      zLet ((28 : Int32)) fun v8 =>
      zLet ((29 : Int32)) fun v9 =>
      zLet (F_X10_isWithin v7 v8 v9) fun v10 =>
      if v10.toInt = 0 then
        τ4
      else
        zLet (τ4.1 a0 3) fun v12 =>
        zLet (F_X3_take a0 v12 τ4) fun s13 =>
        zLet (F_X3_unit_o1 a0 p1 s13) fun s14 =>
        zLet ((s14.2.2 a0 1).getD 0) fun v15 =>
        zLet ((28 : Int32)) fun v16 =>
        if v12.toInt = v16.toInt then
          zLet ((4 : Int32)) fun v22 =>
          zLet ((0 : Int32)) fun v23 =>
          zLet (F_X9_addStep v15 v22 v23 s14) fun s24 =>
          zLet (x3 + (1 : Int32)) fun v25 =>
          F_X3_product_o1_7 a0 p1  n v25 s24
        else
          zLet ((5 : Int32)) fun v18 =>
          zLet ((0 : Int32)) fun v19 =>
          zLet (F_X9_addStep v15 v18 v19 s14) fun s20 =>
          zLet (x3 + (1 : Int32)) fun v21 =>
          F_X3_product_o1_7 a0 p1  n v21 s20
set_option maxRecDepth 100000 in
noncomputable def F_X3_product_o1 (a0 : Nat) (p1 : Int32) (σ : zS) : zS :=
  zLet (F_X3_unit_o1 a0 p1 σ) fun s1 =>
  zLet ((0 : Int32)) fun v2 =>
  F_X3_product_o1_7 a0 p1  10000 v2 s1
set_option maxRecDepth 100000 in
noncomputable def F_X3_sum_o1_7 (a0 : Nat) (p1 : Int32)  : Nat → Int32 → zS → zS
  | 0, _, s => s
  | n + 1, x3, τ4 =>
    zLet ((400 : Int32)) fun v5 =>
    if v5.toInt < x3.toInt then
      τ4
    else
      zLet (τ4.1 a0 3) fun v7 =>
      zLet ((26 : Int32)) fun v8 =>
      zLet ((27 : Int32)) fun v9 =>
      zLet (F_X10_isWithin v7 v8 v9) fun v10 =>
      if v10.toInt = 0 then
        τ4
      else
        zLet (τ4.1 a0 3) fun v12 =>
        zLet (F_X3_take a0 v12 τ4) fun s13 =>
        zLet (F_X3_product_o1 a0 p1 s13) fun s14 =>
        zLet ((s14.2.2 a0 1).getD 0) fun v15 =>
        zLet ((26 : Int32)) fun v16 =>
        if v12.toInt = v16.toInt then
          zLet ((2 : Int32)) fun v22 =>
          zLet ((0 : Int32)) fun v23 =>
          zLet (F_X9_addStep v15 v22 v23 s14) fun s24 =>
          zLet (x3 + (1 : Int32)) fun v25 =>
          F_X3_sum_o1_7 a0 p1  n v25 s24
        else
          zLet ((3 : Int32)) fun v18 =>
          zLet ((0 : Int32)) fun v19 =>
          zLet (F_X9_addStep v15 v18 v19 s14) fun s20 =>
          zLet (x3 + (1 : Int32)) fun v21 =>
          F_X3_sum_o1_7 a0 p1  n v21 s20
set_option maxRecDepth 100000 in
noncomputable def F_X3_sum_o1 (a0 : Nat) (p1 : Int32) (σ : zS) : zS :=
  zLet (F_X3_product_o1 a0 p1 σ) fun s1 =>
  zLet ((0 : Int32)) fun v2 =>
  F_X3_sum_o1_7 a0 p1  10000 v2 s1
set_option maxRecDepth 100000 in
noncomputable def F_X3_unit_o0 (a0 : Nat) (p1 : Int32) (σ : zS) : zS :=
  zLet (σ.1 a0 3) fun v1 =>
  zLet ((23 : Int32)) fun v2 =>
  if v1.toInt = v2.toInt then
    zLet ((σ.2.2 a0 1).getD 0) fun v47 =>
    zLet ((0 : Int32)) fun v48 =>
    zLet (σ.2.1 a0 4) fun v49 =>
    zLet (v49.toInt32) fun v50 =>
    zLet (F_X9_addStep v47 v48 v50 σ) fun s51 =>
    zLet (s51.1 a0 3) fun v52 =>
    zLet (F_X3_take a0 v52 s51) fun s53 =>
    s53
  else
    zLet (σ.1 a0 3) fun v4 =>
    zLet ((13 : Int32)) fun v5 =>
    if v4.toInt < v5.toInt then
      zLet (σ.1 a0 3) fun v8 =>
      zLet ((31 : Int32)) fun v9 =>
      if v8.toInt = v9.toInt then
        σ
      else
        zLet (σ.1 a0 3) fun v11 =>
        zLet ((31 : Int32)) fun v12 =>
        if v11.toInt = v12.toInt then
          σ
        else
          zLet ((1 : Int32)) fun v14 =>
          zLet (F_X3_fail a0 v14 σ) fun s15 =>
          s15
    else
      zLet (σ.1 a0 3) fun v16 =>
      zLet ((22 : Int32)) fun v17 =>
      if v16.toInt < v17.toInt then
        zLet ((σ.2.2 a0 1).getD 0) fun v39 =>
        zLet ((1 : Int32)) fun v40 =>
        zLet (σ.1 a0 3) fun v41 =>
        zLet ((13 : Int32)) fun v42 =>
        zLet (v41 - v42) fun v43 =>
        zLet (F_X9_addStep v39 v40 v43 σ) fun s44 =>
        zLet (s44.1 a0 3) fun v45 =>
        zLet (F_X3_take a0 v45 s44) fun s46 =>
        s46
      else
        zLet (σ.1 a0 3) fun v20 =>
        zLet ((31 : Int32)) fun v21 =>
        if v20.toInt = v21.toInt then
          zLet ((6 : Int32)) fun v30 =>
          if p1.toInt < v30.toInt then
            zLet (σ.1 a0 3) fun v32 =>
            zLet (F_X3_take a0 v32 σ) fun s33 =>
            zLet ((1 : Int32)) fun v34 =>
            zLet (p1 + v34) fun v35 =>
            zLet (F_X3_sum_o1 a0 v35 s33) fun s36 =>
            zLet ((32 : Int32)) fun v37 =>
            zLet (F_X3_take a0 v37 s36) fun s38 =>
            s38
          else
            σ
        else
          zLet (σ.1 a0 3) fun v23 =>
          zLet ((31 : Int32)) fun v24 =>
          if v23.toInt = v24.toInt then
            zLet ((2 : Int32)) fun v28 =>
            zLet (F_X3_fail a0 v28 σ) fun s29 =>
            s29
          else
            zLet ((1 : Int32)) fun v26 =>
            zLet (F_X3_fail a0 v26 σ) fun s27 =>
            s27
set_option maxRecDepth 100000 in
noncomputable def F_X3_product_o0_7 (a0 : Nat) (p1 : Int32)  : Nat → Int32 → zS → zS
  | 0, _, s => s
  | n + 1, x3, τ4 =>
    zLet ((400 : Int32)) fun v5 =>
    if v5.toInt < x3.toInt then
      τ4
    else
      zLet (τ4.1 a0 3) fun v7 =>
      zLet ((28 : Int32)) fun v8 =>
      zLet ((29 : Int32)) fun v9 =>
      zLet (F_X10_isWithin v7 v8 v9) fun v10 =>
      if v10.toInt = 0 then
        τ4
      else
        zLet (τ4.1 a0 3) fun v12 =>
        zLet (F_X3_take a0 v12 τ4) fun s13 =>
        zLet (F_X3_unit_o0 a0 p1 s13) fun s14 =>
        zLet ((s14.2.2 a0 1).getD 0) fun v15 =>
        zLet ((28 : Int32)) fun v16 =>
        if v12.toInt = v16.toInt then
          zLet ((4 : Int32)) fun v22 =>
          zLet ((0 : Int32)) fun v23 =>
          zLet (F_X9_addStep v15 v22 v23 s14) fun s24 =>
          zLet (x3 + (1 : Int32)) fun v25 =>
          F_X3_product_o0_7 a0 p1  n v25 s24
        else
          zLet ((5 : Int32)) fun v18 =>
          zLet ((0 : Int32)) fun v19 =>
          zLet (F_X9_addStep v15 v18 v19 s14) fun s20 =>
          zLet (x3 + (1 : Int32)) fun v21 =>
          F_X3_product_o0_7 a0 p1  n v21 s20
set_option maxRecDepth 100000 in
noncomputable def F_X3_product_o0 (a0 : Nat) (p1 : Int32) (σ : zS) : zS :=
  zLet (F_X3_unit_o0 a0 p1 σ) fun s1 =>
  zLet ((0 : Int32)) fun v2 =>
  F_X3_product_o0_7 a0 p1  10000 v2 s1
set_option maxRecDepth 100000 in
noncomputable def F_X3_sum_o0_7 (a0 : Nat) (p1 : Int32)  : Nat → Int32 → zS → zS
  | 0, _, s => s
  | n + 1, x3, τ4 =>
    zLet ((400 : Int32)) fun v5 =>
    if v5.toInt < x3.toInt then
      τ4
    else
      zLet (τ4.1 a0 3) fun v7 =>
      zLet ((26 : Int32)) fun v8 =>
      zLet ((27 : Int32)) fun v9 =>
      zLet (F_X10_isWithin v7 v8 v9) fun v10 =>
      if v10.toInt = 0 then
        τ4
      else
        zLet (τ4.1 a0 3) fun v12 =>
        zLet (F_X3_take a0 v12 τ4) fun s13 =>
        zLet (F_X3_product_o0 a0 p1 s13) fun s14 =>
        zLet ((s14.2.2 a0 1).getD 0) fun v15 =>
        zLet ((26 : Int32)) fun v16 =>
        if v12.toInt = v16.toInt then
          zLet ((2 : Int32)) fun v22 =>
          zLet ((0 : Int32)) fun v23 =>
          zLet (F_X9_addStep v15 v22 v23 s14) fun s24 =>
          zLet (x3 + (1 : Int32)) fun v25 =>
          F_X3_sum_o0_7 a0 p1  n v25 s24
        else
          zLet ((3 : Int32)) fun v18 =>
          zLet ((0 : Int32)) fun v19 =>
          zLet (F_X9_addStep v15 v18 v19 s14) fun s20 =>
          zLet (x3 + (1 : Int32)) fun v21 =>
          F_X3_sum_o0_7 a0 p1  n v21 s20
set_option maxRecDepth 100000 in
noncomputable def F_X3_sum_o0 (a0 : Nat) (p1 : Int32) (σ : zS) : zS :=
  zLet (F_X3_product_o0 a0 p1 σ) fun s1 =>
  zLet ((0 : Int32)) fun v2 =>
  F_X3_sum_o0_7 a0 p1  10000 v2 s1
set_option maxRecDepth 100000 in
noncomputable def F_X3_law_23 (v7 : Int32) (a0 : Nat) (p1 : Int32)  : Nat → Int32 → zS → zS
  | 0, _, s => s
  | n + 1, x9, τ10 =>
    zLet ((4 : Int32)) fun v11 =>
    if v11.toInt < x9.toInt then
      zLet ((0 : Int32)) fun v13 =>
      zLet (F_X3_sum_o0 a0 v13 τ10) fun s14 =>
      zLet ((s14.2.2 a0 1).getD 0) fun v15 =>
      zLet ((7 : Int32)) fun v16 =>
      zLet ((0 : Int32)) fun v17 =>
      zLet (F_X9_addStep v15 v16 v17 s14) fun s18 =>
      zLet ((s18.2.2 a0 1).getD 0) fun v19 =>
      zLet ((s18.2.2 v19 9).getD 0) fun v20 =>
      zLet ((zu s18.1 v20 p1.toNatClampNeg v7, s18.2.1, s18.2.2)) fun s21 =>
      s21
    else
      zLet (τ10.1 a0 3) fun v22 =>
      zLet ((10 : Int32)) fun v23 =>
      if v22.toInt = v23.toInt then
        zLet ((4 : Int32)) fun v34 =>
        if x9.toInt = v34.toInt then
          zLet ((2 : Int32)) fun v65 =>
          zLet (F_X3_fail a0 v65 τ10) fun s66 =>
          zLet ((10 : Int32)) fun v67 =>
          zLet (F_X3_take a0 v67 s66) fun s68 =>
          zLet ((0 : Int32)) fun v69 =>
          zLet (F_X3_sum_o0 a0 v69 s68) fun s70 =>
          zLet ((30 : Int32)) fun v71 =>
          zLet (F_X3_take a0 v71 s70) fun s72 =>
          zLet ((0 : Int32)) fun v73 =>
          zLet (F_X3_sum_o0 a0 v73 s72) fun s74 =>
          zLet ((11 : Int32)) fun v75 =>
          zLet (F_X3_take a0 v75 s74) fun s76 =>
          zLet ((s76.2.2 a0 1).getD 0) fun v77 =>
          zLet (s76.1 v77 8) fun v78 =>
          zLet ((s76.2.2 a0 1).getD 0) fun v79 =>
          zLet ((6 : Int32)) fun v80 =>
          zLet ((0 : Int32)) fun v81 =>
          zLet (F_X9_addStep v79 v80 v81 s76) fun s82 =>
          zLet ((0 : Int32)) fun v83 =>
          zLet (F_X3_sum_o0 a0 v83 s82) fun s84 =>
          zLet ((12 : Int32)) fun v85 =>
          zLet (F_X3_take a0 v85 s84) fun s86 =>
          zLet ((s86.2.2 a0 1).getD 0) fun v87 =>
          zLet ((7 : Int32)) fun v88 =>
          zLet ((0 : Int32)) fun v89 =>
          zLet (F_X9_addStep v87 v88 v89 s86) fun s90 =>
          zLet ((s90.2.2 a0 1).getD 0) fun v91 =>
          zLet ((s90.2.2 a0 1).getD 0) fun v92 =>
          zLet (s90.1 v92 8) fun v93 =>
          zLet (F_X9_setValue v91 v78 v93 s90) fun s94 =>
          zLet (x9 + (1 : Int32)) fun v95 =>
          F_X3_law_23 v7 a0 p1  n v95 s94
        else
          zLet ((10 : Int32)) fun v36 =>
          zLet (F_X3_take a0 v36 τ10) fun s37 =>
          zLet ((0 : Int32)) fun v38 =>
          zLet (F_X3_sum_o0 a0 v38 s37) fun s39 =>
          zLet ((30 : Int32)) fun v40 =>
          zLet (F_X3_take a0 v40 s39) fun s41 =>
          zLet ((0 : Int32)) fun v42 =>
          zLet (F_X3_sum_o0 a0 v42 s41) fun s43 =>
          zLet ((11 : Int32)) fun v44 =>
          zLet (F_X3_take a0 v44 s43) fun s45 =>
          zLet ((s45.2.2 a0 1).getD 0) fun v46 =>
          zLet (s45.1 v46 8) fun v47 =>
          zLet ((s45.2.2 a0 1).getD 0) fun v48 =>
          zLet ((6 : Int32)) fun v49 =>
          zLet ((0 : Int32)) fun v50 =>
          zLet (F_X9_addStep v48 v49 v50 s45) fun s51 =>
          zLet ((0 : Int32)) fun v52 =>
          zLet (F_X3_sum_o0 a0 v52 s51) fun s53 =>
          zLet ((12 : Int32)) fun v54 =>
          zLet (F_X3_take a0 v54 s53) fun s55 =>
          zLet ((s55.2.2 a0 1).getD 0) fun v56 =>
          zLet ((7 : Int32)) fun v57 =>
          zLet ((0 : Int32)) fun v58 =>
          zLet (F_X9_addStep v56 v57 v58 s55) fun s59 =>
          zLet ((s59.2.2 a0 1).getD 0) fun v60 =>
          zLet ((s59.2.2 a0 1).getD 0) fun v61 =>
          zLet (s59.1 v61 8) fun v62 =>
          zLet (F_X9_setValue v60 v47 v62 s59) fun s63 =>
          zLet (x9 + (1 : Int32)) fun v64 =>
          F_X3_law_23 v7 a0 p1  n v64 s63
      else
        zLet ((0 : Int32)) fun v25 =>
        zLet (F_X3_sum_o0 a0 v25 τ10) fun s26 =>
        zLet ((s26.2.2 a0 1).getD 0) fun v27 =>
        zLet ((7 : Int32)) fun v28 =>
        zLet ((0 : Int32)) fun v29 =>
        zLet (F_X9_addStep v27 v28 v29 s26) fun s30 =>
        zLet ((s30.2.2 a0 1).getD 0) fun v31 =>
        zLet ((s30.2.2 v31 9).getD 0) fun v32 =>
        zLet ((zu s30.1 v32 p1.toNatClampNeg v7, s30.2.1, s30.2.2)) fun s33 =>
        s33
set_option maxRecDepth 100000 in
noncomputable def F_X3_law (a0 : Nat) (p1 : Int32) (σ : zS) : zS :=
  zLet ((2 : Int32)) fun v1 =>
  zLet (v1 + p1) fun v2 =>
  zLet (F_X3_take a0 v2 σ) fun s3 =>
  zLet ((25 : Int32)) fun v4 =>
  zLet (F_X3_take a0 v4 s3) fun s5 =>
  zLet ((s5.2.2 a0 1).getD 0) fun v6 =>
  zLet (s5.1 v6 8) fun v7 =>
  zLet ((0 : Int32)) fun v8 =>
  F_X3_law_23 v7 a0 p1  10000 v8 s5
set_option maxRecDepth 100000 in
noncomputable def F_X3_telling (a0 : Nat) (σ : zS) : zS :=
  zLet (σ.1 a0 3) fun v1 =>
  if v1.toInt = 0 then
    zLet (F_X3_mouth a0 σ) fun s69 =>
    zLet ((24 : Int32)) fun v70 =>
    zLet (F_X3_take a0 v70 s69) fun s71 =>
    s71
  else
    zLet (σ.1 a0 3) fun v3 =>
    zLet ((1 : Int32)) fun v4 =>
    if v3.toInt = v4.toInt then
      zLet (F_X3_newPlace a0 σ) fun s66 =>
      zLet ((24 : Int32)) fun v67 =>
      zLet (F_X3_take a0 v67 s66) fun s68 =>
      s68
    else
      zLet (σ.1 a0 3) fun v6 =>
      zLet ((2 : Int32)) fun v7 =>
      zLet ((6 : Int32)) fun v8 =>
      zLet (F_X10_isWithin v6 v7 v8) fun v9 =>
      if v9.toInt = 0 then
        zLet (σ.1 a0 3) fun v11 =>
        zLet ((7 : Int32)) fun v12 =>
        if v11.toInt = v12.toInt then
          zLet (σ.1 a0 3) fun v44 =>
          zLet (F_X3_take a0 v44 σ) fun s45 =>
          zLet ((s45.2.2 a0 1).getD 0) fun v46 =>
          zLet ((0 : Int32)) fun v47 =>
          zLet ((100 : Int32)) fun v48 =>
          zLet2 (F_X3_number a0 v47 v48 s45) fun v49 s50 =>
          zLet ((zu s50.1 v46 10 v49, s50.2.1, s50.2.2)) fun s51 =>
          zLet ((s51.2.2 a0 1).getD 0) fun v52 =>
          zLet ((0 : Int32)) fun v53 =>
          zLet ((99 : Int32)) fun v54 =>
          zLet2 (F_X3_number a0 v53 v54 s51) fun v55 s56 =>
          zLet ((zu s56.1 v52 11 v55, s56.2.1, s56.2.2)) fun s57 =>
          zLet ((24 : Int32)) fun v58 =>
          zLet (F_X3_take a0 v58 s57) fun s59 =>
          s59
        else
          zLet (σ.1 a0 3) fun v14 =>
          zLet ((8 : Int32)) fun v15 =>
          if v14.toInt = v15.toInt then
            zLet (σ.1 a0 3) fun v34 =>
            zLet (F_X3_take a0 v34 σ) fun s35 =>
            zLet ((s35.2.2 a0 1).getD 0) fun v36 =>
            zLet ((0 : Int32)) fun v37 =>
            zLet ((99 : Int32)) fun v38 =>
            zLet2 (F_X3_number a0 v37 v38 s35) fun v39 s40 =>
            zLet ((zu s40.1 v36 12 v39, s40.2.1, s40.2.2)) fun s41 =>
            zLet ((24 : Int32)) fun v42 =>
            zLet (F_X3_take a0 v42 s41) fun s43 =>
            s43
          else
            zLet (σ.1 a0 3) fun v17 =>
            zLet ((9 : Int32)) fun v18 =>
            if v17.toInt = v18.toInt then
              zLet (σ.1 a0 3) fun v24 =>
              zLet (F_X3_take a0 v24 σ) fun s25 =>
              zLet ((s25.2.2 a0 1).getD 0) fun v26 =>
              zLet ((0 : Int32)) fun v27 =>
              zLet ((9999 : Int32)) fun v28 =>
              zLet2 (F_X3_number a0 v27 v28 s25) fun v29 s30 =>
              zLet ((zu s30.1 v26 13 v29, s30.2.1, s30.2.2)) fun s31 =>
              zLet ((24 : Int32)) fun v32 =>
              zLet (F_X3_take a0 v32 s31) fun s33 =>
              s33
            else
              zLet ((1 : Int32)) fun v20 =>
              zLet (F_X3_fail a0 v20 σ) fun s21 =>
              zLet ((24 : Int32)) fun v22 =>
              zLet (F_X3_take a0 v22 s21) fun s23 =>
              s23
      else
        zLet (σ.1 a0 3) fun v60 =>
        zLet ((2 : Int32)) fun v61 =>
        zLet (v60 - v61) fun v62 =>
        zLet (F_X3_law a0 v62 σ) fun s63 =>
        zLet ((24 : Int32)) fun v64 =>
        zLet (F_X3_take a0 v64 s63) fun s65 =>
        s65
set_option maxRecDepth 100000 in
noncomputable def F_X3_parse_59 (a0 : Nat) (p1 : Nat) (p2 : Int32) (p3 : Nat)  : Nat → Int32 → zS → Int32 × zS
  | 0, _, s => (0, s)
  | n + 1, x25, τ26 =>
    zLet ((400 : Int32)) fun v27 =>
    if v27.toInt < x25.toInt then
      zLet (τ26.1 a0 8) fun v29 =>
      if v29.toInt = 0 then
        zLet (τ26.1 a0 10) fun v44 =>
        zLet ((zu τ26.1 a0 8 v44, τ26.2.1, τ26.2.2)) fun s45 =>
        zLet (s45.1 a0 11) fun v48 =>
        zLet ((zu s45.1 a0 9 v48, s45.2.1, s45.2.2)) fun s49 =>
        zLet ((s49.2.2 a0 1).getD 0) fun v51 =>
        zLet (s49.1 a0 6) fun v52 =>
        if v52.toInt = 0 then
          zLet ((0 : Int32)) fun v54 =>
          zLet ((zu s49.1 v51 0 v54, s49.2.1, s49.2.2)) fun s55 =>
          zLet (s55.1 a0 8) fun v57 =>
          (v57, s55)
        else
          zLet ((1 : Int32)) fun v58 =>
          zLet (s49.1 a0 7) fun v59 =>
          zLet (v58 + v59) fun v60 =>
          zLet ((zu s49.1 v51 0 v60, s49.2.1, s49.2.2)) fun s61 =>
          zLet (s61.1 a0 8) fun v63 =>
          (v63, s61)
      else
        zLet ((τ26.2.2 a0 1).getD 0) fun v31 =>
        zLet (τ26.1 a0 6) fun v32 =>
        if v32.toInt = 0 then
          zLet ((0 : Int32)) fun v34 =>
          zLet ((zu τ26.1 v31 0 v34, τ26.2.1, τ26.2.2)) fun s35 =>
          zLet (s35.1 a0 8) fun v37 =>
          (v37, s35)
        else
          zLet ((1 : Int32)) fun v38 =>
          zLet (τ26.1 a0 7) fun v39 =>
          zLet (v38 + v39) fun v40 =>
          zLet ((zu τ26.1 v31 0 v40, τ26.2.1, τ26.2.2)) fun s41 =>
          zLet (s41.1 a0 8) fun v43 =>
          (v43, s41)
    else
      zLet (τ26.1 a0 8) fun v64 =>
      if v64.toInt = 0 then
        zLet (τ26.1 a0 3) fun v101 =>
        zLet ((33 : Int32)) fun v102 =>
        if v101.toInt = v102.toInt then
          zLet (τ26.1 a0 8) fun v104 =>
          if v104.toInt = 0 then
            zLet (τ26.1 a0 10) fun v106 =>
            zLet ((zu τ26.1 a0 8 v106, τ26.2.1, τ26.2.2)) fun s107 =>
            zLet (s107.1 a0 11) fun v110 =>
            zLet ((zu s107.1 a0 9 v110, s107.2.1, s107.2.2)) fun s111 =>
            zLet ((s111.2.2 a0 1).getD 0) fun v113 =>
            zLet (s111.1 a0 6) fun v114 =>
            if v114.toInt = 0 then
              zLet ((0 : Int32)) fun v116 =>
              zLet ((zu s111.1 v113 0 v116, s111.2.1, s111.2.2)) fun s117 =>
              zLet (s117.1 a0 8) fun v119 =>
              (v119, s117)
            else
              zLet ((1 : Int32)) fun v120 =>
              zLet (s111.1 a0 7) fun v121 =>
              zLet (v120 + v121) fun v122 =>
              zLet ((zu s111.1 v113 0 v122, s111.2.1, s111.2.2)) fun s123 =>
              zLet (s123.1 a0 8) fun v125 =>
              (v125, s123)
          else
            (0, τ26)
        else
          zLet (F_X3_telling a0 τ26) fun s126 =>
          zLet (x25 + (1 : Int32)) fun v127 =>
          F_X3_parse_59 a0 p1 p2 p3  n v127 s126
      else
        zLet (τ26.1 a0 8) fun v66 =>
        if v66.toInt = 0 then
          zLet (τ26.1 a0 10) fun v81 =>
          zLet ((zu τ26.1 a0 8 v81, τ26.2.1, τ26.2.2)) fun s82 =>
          zLet (s82.1 a0 11) fun v85 =>
          zLet ((zu s82.1 a0 9 v85, s82.2.1, s82.2.2)) fun s86 =>
          zLet ((s86.2.2 a0 1).getD 0) fun v88 =>
          zLet (s86.1 a0 6) fun v89 =>
          if v89.toInt = 0 then
            zLet ((0 : Int32)) fun v91 =>
            zLet ((zu s86.1 v88 0 v91, s86.2.1, s86.2.2)) fun s92 =>
            zLet (s92.1 a0 8) fun v94 =>
            (v94, s92)
          else
            zLet ((1 : Int32)) fun v95 =>
            zLet (s86.1 a0 7) fun v96 =>
            zLet (v95 + v96) fun v97 =>
            zLet ((zu s86.1 v88 0 v97, s86.2.1, s86.2.2)) fun s98 =>
            zLet (s98.1 a0 8) fun v100 =>
            (v100, s98)
        else
          zLet ((τ26.2.2 a0 1).getD 0) fun v68 =>
          zLet (τ26.1 a0 6) fun v69 =>
          if v69.toInt = 0 then
            zLet ((0 : Int32)) fun v71 =>
            zLet ((zu τ26.1 v68 0 v71, τ26.2.1, τ26.2.2)) fun s72 =>
            zLet (s72.1 a0 8) fun v74 =>
            (v74, s72)
          else
            zLet ((1 : Int32)) fun v75 =>
            zLet (τ26.1 a0 7) fun v76 =>
            zLet (v75 + v76) fun v77 =>
            zLet ((zu τ26.1 v68 0 v77, τ26.2.1, τ26.2.2)) fun s78 =>
            zLet (s78.1 a0 8) fun v80 =>
            (v80, s78)
set_option maxRecDepth 100000 in
noncomputable def F_X3_parse (a0 : Nat) (p1 : Nat) (p2 : Int32) (p3 : Nat) (σ : zS) : Int32 × zS :=
  zLet ((σ.2.2 a0 0).getD 0) fun v1 =>
  zLet (F_X8_scan v1 p1 p2 σ) fun s2 =>
  zLet ((s2.1, s2.2.1, zu s2.2.2 a0 1 (some p3))) fun s3 =>
  zLet ((s3.2.2 a0 1).getD 0) fun v4 =>
  zLet (F_X9_clear v4 s3) fun s5 =>
  zLet ((0 : Int32)) fun v6 =>
  zLet ((zu s5.1 a0 6 v6, s5.2.1, s5.2.2)) fun s7 =>
  zLet ((0 : Int32)) fun v8 =>
  zLet ((zu s7.1 a0 7 v8, s7.2.1, s7.2.2)) fun s9 =>
  zLet ((0 : Int32)) fun v10 =>
  zLet ((zu s9.1 a0 8 v10, s9.2.1, s9.2.2)) fun s11 =>
  zLet ((-1 : Int32)) fun v13 =>
  zLet ((zu s11.1 a0 9 v13, s11.2.1, s11.2.2)) fun s14 =>
  zLet ((0 : Int32)) fun v16 =>
  zLet ((zu s14.1 a0 10 v16, s14.2.1, s14.2.2)) fun s17 =>
  zLet ((-1 : Int32)) fun v19 =>
  zLet ((zu s17.1 a0 11 v19, s17.2.1, s17.2.2)) fun s20 =>
  zLet ((0 : Int32)) fun v22 =>
  zLet (F_X3_goTo a0 v22 s20) fun s23 =>
  zLet ((0 : Int32)) fun v24 =>
  F_X3_parse_59 a0 p1 p2 p3  10000 v24 s23
set_option maxRecDepth 100000 in
noncomputable def F_X10_read (a0 : Nat) (σ : zS) : Int32 × zS :=
  zLet ((σ.2.2 a0 1).getD 0) fun v1 =>
  zLet ((σ.2.2 a0 0).getD 0) fun v2 =>
  zLet ((σ.2.2 v2 0).getD 0) fun v3 =>
  zLet ((σ.2.2 a0 0).getD 0) fun v4 =>
  zLet (σ.1 v4 1) fun v5 =>
  zLet ((σ.2.2 a0 11).getD 0) fun v6 =>
  zLet2 (F_X3_parse v1 v3 v5 v6 σ) fun v7 s8 =>
  zLet ((s8.2.2 a0 1).getD 0) fun v9 =>
  zLet (s8.1 v9 9) fun v10 =>
  zLet ((zu s8.1 a0 13 v10, s8.2.1, s8.2.2)) fun s11 =>
  zLet ((s11.2.2 a0 0).getD 0) fun v12 =>
  zLet ((0 : Int32)) fun v13 =>
  zLet ((zu s11.1 v12 1 v13, s11.2.1, s11.2.2)) fun s14 =>
  if v7.toInt = 0 then
    zLet ((s14.2.2 a0 11).getD 0) fun v16 =>
    zLet ((s14.2.2 a0 10).getD 0) fun v17 =>
    zLet ((s14.1, s14.2.1, zu s14.2.2 a0 11 (some v17))) fun s18 =>
    zLet ((s18.1, s18.2.1, zu s18.2.2 a0 10 (some v16))) fun s19 =>
    zLet (F_X10_beginAnew a0 s19) fun s20 =>
    (v7, s20)
  else
    (v7, s14)
end
-- 08g.fun2
section
set_option maxRecDepth 100000 in
noncomputable def F_X11_in (p1 : Int32) (p2 : Int32) (p3 : Int32) : Int32 :=
  if p1.toInt < p2.toInt then
    zLet ((0 : Int32)) fun v4 =>
    v4
  else
    if p3.toInt < p1.toInt then
      zLet ((0 : Int32)) fun v8 =>
      v8
    else
      zLet ((1 : Int32)) fun v9 =>
      v9
set_option maxRecDepth 100000 in
noncomputable def F_X11_within (p1 : Int32) (p2 : Int32) (p3 : Int32) : Int32 :=
  if p1.toInt < p2.toInt then
    p2
  else
    if p3.toInt < p1.toInt then
      p3
    else
      p1
set_option maxRecDepth 100000 in
noncomputable def F_X11_bits_4 (p1 : Int32)  : Nat → Int32 → Int32 → Int32
  | 0, _, _ => 0
  | n + 1, x3, x4 =>
    zLet ((12 : Int32)) fun v6 =>
    if x3.toInt < v6.toInt then
      zLet (p1 >>> (x3 &&& 31)) fun v8 =>
      zLet ((1 : Int32)) fun v9 =>
      zLet (v8 &&& v9) fun v10 =>
      zLet (x4 + v10) fun v11 =>
      zLet (x3 + (1 : Int32)) fun v12 =>
      F_X11_bits_4 p1  n v12 v11
    else
      x4
set_option maxRecDepth 100000 in
noncomputable def F_X11_bits (p1 : Int32) : Int32 :=
  zLet ((0 : Int32)) fun v1 =>
  zLet ((0 : Int32)) fun v2 =>
  F_X11_bits_4 p1  10000 v2 v1
set_option maxRecDepth 100000 in
noncomputable def F_X11_isDigit (p1 : Int32) : Int32 :=
  zLet ((48 : Int32)) fun v1 =>
  if p1.toInt < v1.toInt then
    zLet ((0 : Int32)) fun v4 =>
    v4
  else
    zLet ((57 : Int32)) fun v5 =>
    if v5.toInt < p1.toInt then
      zLet ((0 : Int32)) fun v8 =>
      v8
    else
      zLet ((1 : Int32)) fun v9 =>
      v9
set_option maxRecDepth 100000 in
noncomputable def F_X11_isLetter (p1 : Int32) : Int32 :=
  zLet ((97 : Int32)) fun v1 =>
  if p1.toInt < v1.toInt then
    zLet ((0 : Int32)) fun v4 =>
    v4
  else
    zLet ((122 : Int32)) fun v5 =>
    if v5.toInt < p1.toInt then
      zLet ((0 : Int32)) fun v8 =>
      v8
    else
      zLet ((1 : Int32)) fun v9 =>
      v9
set_option maxRecDepth 100000 in
noncomputable def F_X11_appends (p1 : Int64) (p2 : Int32) : Int64 :=
  if p2.toInt = 0 then
    p1
  else
    zLet ((27 : Int64)) fun v2 =>
    zLet (v2 * p1) fun v3 =>
    zLet ((97 : Int32)) fun v4 =>
    zLet (p2 - v4) fun v5 =>
    zLet ((1 : Int32)) fun v6 =>
    zLet (v5 + v6) fun v7 =>
    zLet (v7.toInt64) fun v8 =>
    zLet (v3 + v8) fun v9 =>
    v9
set_option maxRecDepth 100000 in
noncomputable def F_X11_word (p1 : Int32) (p2 : Int32) (p3 : Int32) (p4 : Int32) (p5 : Int32) (p6 : Int32) (p7 : Int32) : Int64 :=
  zLet (Int64.ofNat 0) fun v1 =>
  zLet (F_X11_appends v1 p1) fun v2 =>
  zLet (F_X11_appends v2 p2) fun v3 =>
  zLet (F_X11_appends v3 p3) fun v4 =>
  zLet (F_X11_appends v4 p4) fun v5 =>
  zLet (F_X11_appends v5 p5) fun v6 =>
  zLet (F_X11_appends v6 p6) fun v7 =>
  zLet (F_X11_appends v7 p7) fun v8 =>
  v8
set_option maxRecDepth 100000 in
noncomputable def F_X11_isLaw (p1 : Int32) : Int32 :=
  zLet ((0 : Int32)) fun v1 =>
  zLet ((2 : Int32)) fun v2 =>
  zLet (F_X11_in p1 v1 v2) fun v3 =>
  v3
set_option maxRecDepth 100000 in
noncomputable def F_X11_isLong (p1 : Int32) : Int32 :=
  zLet ((0 : Int32)) fun v1 =>
  zLet ((60 : Int32)) fun v2 =>
  zLet (F_X11_in p1 v1 v2) fun v3 =>
  v3
set_option maxRecDepth 100000 in
noncomputable def F_X11_isSome (p1 : Int32) : Int32 :=
  zLet ((1 : Int32)) fun v1 =>
  zLet ((24 : Int32)) fun v2 =>
  zLet (F_X11_in p1 v1 v2) fun v3 =>
  v3
set_option maxRecDepth 100000 in
noncomputable def F_X11_ithOf_4 (p1 : Int32) (p2 : Int32)  : Nat → Int32 → Int32 → Int32
  | 0, _, _ => 0
  | n + 1, x3, x4 =>
    zLet ((12 : Int32)) fun v6 =>
    if x3.toInt < v6.toInt then
      zLet (p1 >>> (x3 &&& 31)) fun v9 =>
      zLet ((1 : Int32)) fun v10 =>
      zLet (v9 &&& v10) fun v11 =>
      if v11.toInt = 0 then
        zLet (x3 + (1 : Int32)) fun v16 =>
        F_X11_ithOf_4 p1 p2  n v16 x4
      else
        if x4.toInt = p2.toInt then
          x3
        else
          zLet (x4 + (1 : Int32)) fun v14 =>
          zLet (x3 + (1 : Int32)) fun v15 =>
          F_X11_ithOf_4 p1 p2  n v15 v14
    else
      zLet ((-1 : Int32)) fun v8 =>
      v8
set_option maxRecDepth 100000 in
noncomputable def F_X11_ithOf (p1 : Int32) (p2 : Int32) : Int32 :=
  zLet ((0 : Int32)) fun v1 =>
  zLet ((0 : Int32)) fun v2 =>
  F_X11_ithOf_4 p1 p2  10000 v2 v1
set_option maxRecDepth 100000 in
noncomputable def F_X11_isEarlier_2 (p1 : Int32) (p2 : Int32)  : Nat → Int32 → Int32
  | 0, _ => 0
  | n + 1, x2 =>
    zLet ((3 : Int32)) fun v4 =>
    if x2.toInt < v4.toInt then
      zLet (F_X11_ithOf p1 x2) fun v7 =>
      zLet (F_X11_ithOf p2 x2) fun v8 =>
      if v7.toInt = v8.toInt then
        zLet (x2 + (1 : Int32)) fun v10 =>
        F_X11_isEarlier_2 p1 p2  n v10
      else
        zLet (F_X11_ithOf p1 x2) fun v11 =>
        zLet (F_X11_ithOf p2 x2) fun v12 =>
        if v11.toInt < v12.toInt then
          zLet ((1 : Int32)) fun v17 =>
          v17
        else
          zLet ((0 : Int32)) fun v16 =>
          v16
    else
      zLet ((0 : Int32)) fun v6 =>
      v6
set_option maxRecDepth 100000 in
noncomputable def F_X11_isEarlier (p1 : Int32) (p2 : Int32) : Int32 :=
  zLet ((0 : Int32)) fun v1 =>
  F_X11_isEarlier_2 p1 p2  10000 v1
set_option maxRecDepth 100000 in
noncomputable def F_X11_mixed (p1 : Int32) (p2 : Int32) : Int32 :=
  zLet (p1 ^^^ p2) fun v1 =>
  zLet ((1103515245 : Int32)) fun v2 =>
  zLet (v1 * v2) fun v3 =>
  zLet ((12345 : Int32)) fun v4 =>
  zLet (v3 + v4) fun v5 =>
  zLet ((15 : Int32)) fun v6 =>
  zLet ((v5.toUInt32 >>> (v6.toUInt32 &&& Int32.toUInt32 31)).toInt32) fun v7 =>
  zLet (v5 ^^^ v7) fun v8 =>
  v8
set_option maxRecDepth 100000 in
noncomputable def F_X11_many (a0 : Nat) (σ : zS) : Int32 :=
  zLet ((σ.2.2 a0 21).getD 0) fun v1 =>
  zLet (σ.1 a0 18) fun v2 =>
  zLet (σ.1 v1 v2.toNatClampNeg) fun v3 =>
  v3
set_option maxRecDepth 100000 in
noncomputable def F_X11_isPlace (a0 : Nat) (p1 : Int32) (σ : zS) : Int32 :=
  zLet ((0 : Int32)) fun v1 =>
  zLet (F_X11_many a0  σ) fun v3 =>
  zLet ((1 : Int32)) fun v4 =>
  zLet (v3 - v4) fun v5 =>
  zLet (F_X11_in p1 v1 v5) fun v6 =>
  v6
set_option maxRecDepth 100000 in
noncomputable def F_X11_isBeside (a0 : Nat) (p1 : Int32) (σ : zS) : Int32 :=
  zLet ((1 : Int32)) fun v1 =>
  zLet (F_X11_many a0  σ) fun v3 =>
  zLet ((1 : Int32)) fun v4 =>
  zLet (v3 - v4) fun v5 =>
  zLet (F_X11_in p1 v1 v5) fun v6 =>
  v6
set_option maxRecDepth 100000 in
noncomputable def F_X11_byteAt (a0 : Nat) (p1 : Int32) (σ : zS) : Int32 :=
  zLet (σ.1 a0 4) fun v1 =>
  if p1.toInt < v1.toInt then
    zLet ((σ.2.2 a0 3).getD 0) fun v5 =>
    zLet (σ.1 v5 p1.toNatClampNeg) fun v6 =>
    zLet ((255 : Int32)) fun v7 =>
    zLet (v6 &&& v7) fun v8 =>
    v8
  else
    zLet ((0 : Int32)) fun v4 =>
    v4
set_option maxRecDepth 100000 in
noncomputable def F_X11_place (a0 : Nat) (σ : zS) : Int32 :=
  zLet (σ.1 a0 17) fun v1 =>
  v1
set_option maxRecDepth 100000 in
noncomputable def F_X11_fail (a0 : Nat) (p1 : Int32) (σ : zS) : zS :=
  zLet (σ.1 a0 13) fun v1 =>
  if 0 < v1.toInt then
    σ
  else
    zLet ((zu σ.1 a0 13 p1, σ.2.1, σ.2.2)) fun s4 =>
    zLet ((s4.2.2 a0 6).getD 0) fun v7 =>
    zLet (s4.1 a0 11) fun v8 =>
    zLet (s4.1 v7 v8.toNatClampNeg) fun v9 =>
    zLet ((zu s4.1 a0 14 v9, s4.2.1, s4.2.2)) fun s10 =>
    s10
set_option maxRecDepth 100000 in
noncomputable def F_X11_is (a0 : Nat) (p1 : Int32) (σ : zS) : Int32 :=
  zLet (σ.1 a0 13) fun v1 =>
  if v1.toInt = 0 then
    zLet ((σ.2.2 a0 5).getD 0) fun v4 =>
    zLet (σ.1 a0 11) fun v5 =>
    zLet (σ.1 v4 v5.toNatClampNeg) fun v6 =>
    if v6.toInt = p1.toInt then
      zLet ((1 : Int32)) fun v9 =>
      v9
    else
      zLet ((0 : Int32)) fun v8 =>
      v8
  else
    zLet ((0 : Int32)) fun v3 =>
    v3
set_option maxRecDepth 100000 in
noncomputable def F_X11_goesOn (a0 : Nat) (σ : zS) : zS :=
  zLet (σ.1 a0 11) fun v1 =>
  zLet ((400 : Int32)) fun v2 =>
  if v1.toInt = v2.toInt then
    zLet ((2 : Int32)) fun v10 =>
    zLet (F_X11_fail a0 v10 σ) fun t11 =>
    t11
  else
    zLet (σ.1 a0 11) fun v4 =>
    zLet ((1 : Int32)) fun v5 =>
    zLet (v4 + v5) fun v6 =>
    zLet ((zu σ.1 a0 11 v6, σ.2.1, σ.2.2)) fun s7 =>
    s7
set_option maxRecDepth 100000 in
noncomputable def F_X11_must (a0 : Nat) (p1 : Int32) (σ : zS) : zS :=
  zLet (F_X11_is a0 p1 σ) fun v2 =>
  if v2.toInt = 0 then
    zLet ((1 : Int32)) fun v4 =>
    zLet (F_X11_fail a0 v4 σ) fun t5 =>
    t5
  else
    zLet (F_X11_goesOn a0  σ) fun t7 =>
    t7
set_option maxRecDepth 100000 in
noncomputable def F_X11_wrong (a0 : Nat) (p1 : Int32) (p2 : Int32) (σ : zS) : zS :=
  zLet ((σ.2.2 a0 6).getD 0) fun v1 =>
  zLet (σ.1 v1 p2.toNatClampNeg) fun v2 =>
  zLet (σ.1 a0 13) fun v3 =>
  if 0 < v3.toInt then
    σ
  else
    zLet (σ.1 a0 15) fun v5 =>
    if v5.toInt = 0 then
      zLet ((zu σ.1 a0 15 p1, σ.2.1, σ.2.2)) fun s7 =>
      zLet ((zu s7.1 a0 16 v2, s7.2.1, s7.2.2)) fun s11 =>
      s11
    else
      zLet (σ.1 a0 16) fun v16 =>
      if v16.toInt < v2.toInt then
        σ
      else
        zLet (σ.1 a0 16) fun v20 =>
        if v2.toInt = v20.toInt then
          zLet (σ.1 a0 15) fun v32 =>
          if p1.toInt < v32.toInt then
            zLet ((zu σ.1 a0 15 p1, σ.2.1, σ.2.2)) fun s36 =>
            zLet ((zu s36.1 a0 16 v2, s36.2.1, s36.2.2)) fun s41 =>
            s41
          else
            σ
        else
          zLet ((zu σ.1 a0 15 p1, σ.2.1, σ.2.2)) fun s22 =>
          zLet ((zu s22.1 a0 16 v2, s22.2.1, s22.2.2)) fun s27 =>
          s27
set_option maxRecDepth 100000 in
noncomputable def F_X11_keepsRow_2 (a0 : Nat)  : Nat → Int32 → zS → zS
  | 0, _, s => s
  | n + 1, x2, τ3 =>
    zLet ((50 : Int32)) fun v4 =>
    if x2.toInt < v4.toInt then
      zLet ((τ3.2.2 a0 48).getD 0) fun v6 =>
      zLet ((τ3.2.2 a0 49).getD 0) fun v7 =>
      zLet (τ3.1 v7 x2.toNatClampNeg) fun v8 =>
      zLet ((zu τ3.1 v6 x2.toNatClampNeg v8, τ3.2.1, τ3.2.2)) fun s9 =>
      zLet (x2 + (1 : Int32)) fun v11 =>
      F_X11_keepsRow_2 a0  n v11 s9
    else
      τ3
set_option maxRecDepth 100000 in
noncomputable def F_X11_keepsRow (a0 : Nat) (σ : zS) : zS :=
  zLet ((0 : Int32)) fun v1 =>
  F_X11_keepsRow_2 a0  10000 v1 σ
set_option maxRecDepth 100000 in
noncomputable def F_X11_dammedBits_4 (a0 : Nat) (σ : zS)  : Nat → Int32 → Int32 → Int32
  | 0, _, _ => 0
  | n + 1, x3, x4 =>
    zLet (F_X11_many a0  σ) fun v7 =>
    if x3.toInt < v7.toInt then
      zLet ((σ.2.2 a0 48).getD 0) fun v9 =>
      zLet ((12 : Int32)) fun v10 =>
      zLet (v10 + x3) fun v11 =>
      zLet (σ.1 v9 v11.toNatClampNeg) fun v12 =>
      zLet (v12 <<< (x3 &&& 31)) fun v13 =>
      zLet (x4 ||| v13) fun v14 =>
      zLet (x3 + (1 : Int32)) fun v15 =>
      F_X11_dammedBits_4 a0 σ  n v15 v14
    else
      x4
set_option maxRecDepth 100000 in
noncomputable def F_X11_dammedBits (a0 : Nat) (σ : zS) : Int32 :=
  zLet ((0 : Int32)) fun v1 =>
  zLet ((1 : Int32)) fun v2 =>
  F_X11_dammedBits_4 a0 σ  10000 v2 v1
set_option maxRecDepth 100000 in
noncomputable def F_X11_put (a0 : Nat) (p1 : Int32) (σ : zS) : zS :=
  zLet ((24 : Int32)) fun v1 =>
  if v1.toInt < 0 then
    σ
  else
    zLet ((σ.2.2 a0 1).getD 0) fun v3 =>
    zLet (σ.1 a0 2) fun v4 =>
    zLet (p1 >>> (v1 &&& 31)) fun v5 =>
    zLet (v5.toInt8.toInt32) fun v6 =>
    zLet ((zu σ.1 v3 v4.toNatClampNeg (vp_nar .byte v6), σ.2.1, σ.2.2)) fun s7 =>
    zLet (s7.1 a0 2) fun v10 =>
    zLet ((1 : Int32)) fun v11 =>
    zLet (v10 + v11) fun v12 =>
    zLet ((zu s7.1 a0 2 v12, s7.2.1, s7.2.2)) fun s13 =>
    zLet (v1 + (-8 : Int32)) fun v16 =>
    if v16.toInt < 0 then
      s13
    else
      zLet ((s13.2.2 a0 1).getD 0) fun v18 =>
      zLet (s13.1 a0 2) fun v19 =>
      zLet (p1 >>> (v16 &&& 31)) fun v20 =>
      zLet (v20.toInt8.toInt32) fun v21 =>
      zLet ((zu s13.1 v18 v19.toNatClampNeg (vp_nar .byte v21), s13.2.1, s13.2.2)) fun s22 =>
      zLet (s22.1 a0 2) fun v25 =>
      zLet ((1 : Int32)) fun v26 =>
      zLet (v25 + v26) fun v27 =>
      zLet ((zu s22.1 a0 2 v27, s22.2.1, s22.2.2)) fun s28 =>
      zLet (v16 + (-8 : Int32)) fun v31 =>
      if v31.toInt < 0 then
        s28
      else
        zLet ((s28.2.2 a0 1).getD 0) fun v33 =>
        zLet (s28.1 a0 2) fun v34 =>
        zLet (p1 >>> (v31 &&& 31)) fun v35 =>
        zLet (v35.toInt8.toInt32) fun v36 =>
        zLet ((zu s28.1 v33 v34.toNatClampNeg (vp_nar .byte v36), s28.2.1, s28.2.2)) fun s37 =>
        zLet (s37.1 a0 2) fun v40 =>
        zLet ((1 : Int32)) fun v41 =>
        zLet (v40 + v41) fun v42 =>
        zLet ((zu s37.1 a0 2 v42, s37.2.1, s37.2.2)) fun s43 =>
        zLet (v31 + (-8 : Int32)) fun v46 =>
        if v46.toInt < 0 then
          s43
        else
          zLet ((s43.2.2 a0 1).getD 0) fun v48 =>
          zLet (s43.1 a0 2) fun v49 =>
          zLet (p1 >>> (v46 &&& 31)) fun v50 =>
          zLet (v50.toInt8.toInt32) fun v51 =>
          zLet ((zu s43.1 v48 v49.toNatClampNeg (vp_nar .byte v51), s43.2.1, s43.2.2)) fun s52 =>
          zLet (s52.1 a0 2) fun v55 =>
          zLet ((1 : Int32)) fun v56 =>
          zLet (v55 + v56) fun v57 =>
          zLet ((zu s52.1 a0 2 v57, s52.2.1, s52.2.2)) fun s58 =>
          zLet (v46 + (-8 : Int32)) fun v61 =>
          if v61.toInt < 0 then
            s58
          else
            s58
set_option maxRecDepth 100000 in
noncomputable def F_X11_plain_37 (a0 : Nat) (p1 : Int32)  : Nat → Int32 → zS → zS
  | 0, _, s => s
  | n + 1, x22, τ23 =>
    zLet ((5 : Int32)) fun v24 =>
    if x22.toInt < v24.toInt then
      zLet ((τ23.2.2 a0 30).getD 0) fun v26 =>
      zLet ((5 : Int32)) fun v27 =>
      zLet (v27 * p1) fun v28 =>
      zLet (v28 + x22) fun v29 =>
      zLet ((0 : Int32)) fun v30 =>
      zLet ((zu τ23.1 v26 v29.toNatClampNeg v30, τ23.2.1, τ23.2.2)) fun s31 =>
      zLet ((s31.2.2 a0 31).getD 0) fun v33 =>
      zLet ((5 : Int32)) fun v34 =>
      zLet (v34 * p1) fun v35 =>
      zLet (v35 + x22) fun v36 =>
      zLet ((0 : Int32)) fun v37 =>
      zLet ((zu s31.1 v33 v36.toNatClampNeg v37, s31.2.1, s31.2.2)) fun s38 =>
      zLet (x22 + (1 : Int32)) fun v40 =>
      F_X11_plain_37 a0 p1  n v40 s38
    else
      τ23
set_option maxRecDepth 100000 in
noncomputable def F_X11_plain (a0 : Nat) (p1 : Int32) (σ : zS) : zS :=
  zLet ((σ.2.2 a0 21).getD 0) fun v1 =>
  zLet ((0 : Int32)) fun v2 =>
  zLet ((zu σ.1 v1 p1.toNatClampNeg v2, σ.2.1, σ.2.2)) fun s3 =>
  zLet ((s3.2.2 a0 26).getD 0) fun v5 =>
  zLet ((0 : Int32)) fun v6 =>
  zLet ((zu s3.1 v5 p1.toNatClampNeg v6, s3.2.1, s3.2.2)) fun s7 =>
  zLet ((s7.2.2 a0 27).getD 0) fun v9 =>
  zLet ((0 : Int32)) fun v10 =>
  zLet ((zu s7.1 v9 p1.toNatClampNeg v10, s7.2.1, s7.2.2)) fun s11 =>
  zLet ((s11.2.2 a0 28).getD 0) fun v13 =>
  zLet ((1 : Int32)) fun v14 =>
  zLet ((zu s11.1 v13 p1.toNatClampNeg v14, s11.2.1, s11.2.2)) fun s15 =>
  zLet ((s15.2.2 a0 29).getD 0) fun v17 =>
  zLet ((0 : Int32)) fun v18 =>
  zLet ((zu s15.1 v17 p1.toNatClampNeg v18, s15.2.1, s15.2.2)) fun s19 =>
  zLet ((0 : Int32)) fun v21 =>
  F_X11_plain_37 a0 p1  10000 v21 s19
set_option maxRecDepth 100000 in
noncomputable def F_X11_looks (a0 : Nat) (p1 : Int32) (p2 : Int32) (σ : zS) : zS :=
  zLet ((σ.2.2 a0 45).getD 0) fun v1 =>
  zLet ((0 : Int32)) fun v2 =>
  zLet ((σ.2.2 a0 24).getD 0) fun v3 =>
  zLet ((12 : Int32)) fun v4 =>
  zLet (σ.1 a0 18) fun v5 =>
  zLet (v4 * v5) fun v6 =>
  zLet (v6 + p1) fun v7 =>
  zLet (σ.1 v3 v7.toNatClampNeg) fun v8 =>
  zLet ((zu σ.1 v1 v2.toNatClampNeg v8, σ.2.1, σ.2.2)) fun s9 =>
  zLet ((s9.2.2 a0 45).getD 0) fun v12 =>
  zLet ((1 : Int32)) fun v13 =>
  zLet ((s9.2.2 a0 52).getD 0) fun v14 =>
  zLet (s9.1 v14 p1.toNatClampNeg) fun v15 =>
  zLet ((zu s9.1 v12 v13.toNatClampNeg v15, s9.2.1, s9.2.2)) fun s16 =>
  zLet ((s16.2.2 a0 45).getD 0) fun v19 =>
  zLet ((2 : Int32)) fun v20 =>
  zLet ((s16.2.2 a0 25).getD 0) fun v21 =>
  zLet ((12 : Int32)) fun v22 =>
  zLet (s16.1 a0 18) fun v23 =>
  zLet (v22 * v23) fun v24 =>
  zLet (v24 + p1) fun v25 =>
  zLet (s16.1 v21 v25.toNatClampNeg) fun v26 =>
  zLet ((zu s16.1 v19 v20.toNatClampNeg v26, s16.2.1, s16.2.2)) fun s27 =>
  zLet ((s27.2.2 a0 45).getD 0) fun v30 =>
  zLet ((3 : Int32)) fun v31 =>
  zLet ((s27.2.2 a0 49).getD 0) fun v32 =>
  zLet ((48 : Int32)) fun v33 =>
  zLet (s27.1 v32 v33.toNatClampNeg) fun v34 =>
  zLet ((12 : Int32)) fun v35 =>
  zLet (v34 - v34 / v35 * v35) fun v36 =>
  zLet ((zu s27.1 v30 v31.toNatClampNeg v36, s27.2.1, s27.2.2)) fun s37 =>
  zLet ((s37.2.2 a0 45).getD 0) fun v40 =>
  zLet ((4 : Int32)) fun v41 =>
  zLet ((zu s37.1 v40 v41.toNatClampNeg p2, s37.2.1, s37.2.2)) fun s42 =>
  zLet ((s42.2.2 a0 45).getD 0) fun v45 =>
  zLet ((5 : Int32)) fun v46 =>
  zLet ((s42.2.2 a0 23).getD 0) fun v47 =>
  zLet ((12 : Int32)) fun v48 =>
  zLet (s42.1 a0 18) fun v49 =>
  zLet (v48 * v49) fun v50 =>
  zLet (v50 + p1) fun v51 =>
  zLet (s42.1 v47 v51.toNatClampNeg) fun v52 =>
  zLet ((zu s42.1 v45 v46.toNatClampNeg v52, s42.2.1, s42.2.2)) fun s53 =>
  zLet ((s53.2.2 a0 45).getD 0) fun v56 =>
  zLet ((6 : Int32)) fun v57 =>
  zLet ((s53.2.2 a0 49).getD 0) fun v58 =>
  zLet ((24 : Int32)) fun v59 =>
  zLet (v59 + p1) fun v60 =>
  zLet (s53.1 v58 v60.toNatClampNeg) fun v61 =>
  zLet ((zu s53.1 v56 v57.toNatClampNeg v61, s53.2.1, s53.2.2)) fun s62 =>
  zLet ((s62.2.2 a0 45).getD 0) fun v65 =>
  zLet ((7 : Int32)) fun v66 =>
  zLet ((zu s62.1 v65 v66.toNatClampNeg p1, s62.2.1, s62.2.2)) fun s67 =>
  zLet ((s67.2.2 a0 45).getD 0) fun v70 =>
  zLet ((8 : Int32)) fun v71 =>
  zLet ((s67.2.2 a0 54).getD 0) fun v72 =>
  zLet (s67.1 v72 p1.toNatClampNeg) fun v73 =>
  zLet (F_X11_bits v73) fun v74 =>
  zLet ((1 : Int32)) fun v75 =>
  zLet (v74 - v75) fun v76 =>
  zLet ((zu s67.1 v70 v71.toNatClampNeg v76, s67.2.1, s67.2.2)) fun s77 =>
  s77
set_option maxRecDepth 100000 in
noncomputable def F_X11_termOf_5 (a0 : Nat) (p1 : Int32) (p2 : Int32)  : Nat → Int32 → Int32 → zS → Int32 × zS
  | 0, _, _, s => (0, s)
  | n + 1, x2, x3, τ4 =>
    if x2.toInt < p2.toInt then
      zLet ((τ4.2.2 a0 39).getD 0) fun v9 =>
      zLet (τ4.1 v9 x2.toNatClampNeg) fun v10 =>
      zLet ((2 : Int32)) fun v11 =>
      if v10.toInt < v11.toInt then
        zLet ((τ4.2.2 a0 46).getD 0) fun v67 =>
        if v10.toInt = 0 then
          zLet ((τ4.2.2 a0 40).getD 0) fun v77 =>
          zLet (τ4.1 v77 x2.toNatClampNeg) fun v78 =>
          zLet ((zu τ4.1 v67 x3.toNatClampNeg v78, τ4.2.1, τ4.2.2)) fun s79 =>
          zLet (x3 + (1 : Int32)) fun v81 =>
          zLet (x2 + (1 : Int32)) fun v82 =>
          F_X11_termOf_5 a0 p1 p2  n v82 v81 s79
        else
          zLet ((τ4.2.2 a0 45).getD 0) fun v69 =>
          zLet ((τ4.2.2 a0 40).getD 0) fun v70 =>
          zLet (τ4.1 v70 x2.toNatClampNeg) fun v71 =>
          zLet (τ4.1 v69 v71.toNatClampNeg) fun v72 =>
          zLet ((zu τ4.1 v67 x3.toNatClampNeg v72, τ4.2.1, τ4.2.2)) fun s73 =>
          zLet (x3 + (1 : Int32)) fun v75 =>
          zLet (x2 + (1 : Int32)) fun v76 =>
          F_X11_termOf_5 a0 p1 p2  n v76 v75 s73
      else
        zLet (x3 + (-1 : Int32)) fun v14 =>
        zLet ((τ4.2.2 a0 46).getD 0) fun v15 =>
        zLet ((1 : Int32)) fun v16 =>
        zLet (v14 - v16) fun v17 =>
        zLet (τ4.1 v15 v17.toNatClampNeg) fun v18 =>
        zLet ((τ4.2.2 a0 46).getD 0) fun v19 =>
        zLet (τ4.1 v19 v14.toNatClampNeg) fun v20 =>
        zLet ((5 : Int32)) fun v21 =>
        if v10.toInt = v21.toInt then
          if v20.toInt = 0 then
            zLet ((1 : Int32)) fun v62 =>
            zLet ((zu τ4.1 a0 47 v62, τ4.2.1, τ4.2.2)) fun s63 =>
            zLet ((0 : Int32)) fun v66 =>
            (v66, s63)
          else
            zLet ((τ4.2.2 a0 46).getD 0) fun v49 =>
            zLet ((1 : Int32)) fun v50 =>
            zLet (v14 - v50) fun v51 =>
            zLet ((2 : Int32)) fun v52 =>
            if v10.toInt = v52.toInt then
              (0, τ4)
            else
              zLet ((3 : Int32)) fun v54 =>
              if v10.toInt = v54.toInt then
                (0, τ4)
              else
                zLet ((4 : Int32)) fun v56 =>
                if v10.toInt = v56.toInt then
                  (0, τ4)
                else
                  zLet (v18 / v20) fun v58 =>
                  zLet ((zu τ4.1 v49 v51.toNatClampNeg v58, τ4.2.1, τ4.2.2)) fun s59 =>
                  zLet (x2 + (1 : Int32)) fun v61 =>
                  F_X11_termOf_5 a0 p1 p2  n v61 v14 s59
        else
          zLet ((τ4.2.2 a0 46).getD 0) fun v23 =>
          zLet ((1 : Int32)) fun v24 =>
          zLet (v14 - v24) fun v25 =>
          zLet ((2 : Int32)) fun v26 =>
          if v10.toInt = v26.toInt then
            zLet (v18 + v20) fun v44 =>
            zLet ((zu τ4.1 v23 v25.toNatClampNeg v44, τ4.2.1, τ4.2.2)) fun s45 =>
            zLet (x2 + (1 : Int32)) fun v47 =>
            F_X11_termOf_5 a0 p1 p2  n v47 v14 s45
          else
            zLet ((3 : Int32)) fun v28 =>
            if v10.toInt = v28.toInt then
              zLet (v18 - v20) fun v40 =>
              zLet ((zu τ4.1 v23 v25.toNatClampNeg v40, τ4.2.1, τ4.2.2)) fun s41 =>
              zLet (x2 + (1 : Int32)) fun v43 =>
              F_X11_termOf_5 a0 p1 p2  n v43 v14 s41
            else
              zLet ((4 : Int32)) fun v30 =>
              if v10.toInt = v30.toInt then
                zLet (v18 * v20) fun v36 =>
                zLet ((zu τ4.1 v23 v25.toNatClampNeg v36, τ4.2.1, τ4.2.2)) fun s37 =>
                zLet (x2 + (1 : Int32)) fun v39 =>
                F_X11_termOf_5 a0 p1 p2  n v39 v14 s37
              else
                zLet (v18 / v20) fun v32 =>
                zLet ((zu τ4.1 v23 v25.toNatClampNeg v32, τ4.2.1, τ4.2.2)) fun s33 =>
                zLet (x2 + (1 : Int32)) fun v35 =>
                F_X11_termOf_5 a0 p1 p2  n v35 v14 s33
    else
      zLet ((τ4.2.2 a0 46).getD 0) fun v6 =>
      zLet ((0 : Int32)) fun v7 =>
      zLet (τ4.1 v6 v7.toNatClampNeg) fun v8 =>
      (v8, τ4)
set_option maxRecDepth 100000 in
noncomputable def F_X11_termOf (a0 : Nat) (p1 : Int32) (p2 : Int32) (σ : zS) : Int32 × zS :=
  zLet ((0 : Int32)) fun v1 =>
  F_X11_termOf_5 a0 p1 p2  10000 p1 v1 σ
set_option maxRecDepth 100000 in
noncomputable def F_X11_lawTells_39 (v4 : Int32) (a0 : Nat) (p1 : Int32) (p2 : Int32)  : Nat → Int32 → zS → Int32 × zS
  | 0, _, s => (0, s)
  | n + 1, x17, τ18 =>
    zLet ((τ18.2.2 a0 31).getD 0) fun v19 =>
    zLet (τ18.1 v19 v4.toNatClampNeg) fun v20 =>
    if x17.toInt < v20.toInt then
      zLet ((τ18.2.2 a0 33).getD 0) fun v25 =>
      zLet (τ18.1 v25 x17.toNatClampNeg) fun v26 =>
      if v26.toInt = 0 then
        zLet ((τ18.2.2 a0 36).getD 0) fun v28 =>
        zLet (τ18.1 v28 x17.toNatClampNeg) fun v29 =>
        zLet ((τ18.2.2 a0 37).getD 0) fun v30 =>
        zLet (τ18.1 v30 x17.toNatClampNeg) fun v31 =>
        zLet2 (F_X11_termOf a0 v29 v31 τ18) fun v33 t32 =>
        zLet (t32.1 a0 47) fun v35 =>
        if v35.toInt = 0 then
          (v33, t32)
        else
          zLet ((0 : Int32)) fun v37 =>
          (v37, t32)
      else
        zLet ((τ18.2.2 a0 34).getD 0) fun v38 =>
        zLet (τ18.1 v38 x17.toNatClampNeg) fun v39 =>
        zLet ((τ18.2.2 a0 35).getD 0) fun v40 =>
        zLet (τ18.1 v40 x17.toNatClampNeg) fun v41 =>
        zLet2 (F_X11_termOf a0 v39 v41 τ18) fun v43 t42 =>
        zLet ((t42.2.2 a0 35).getD 0) fun v45 =>
        zLet (t42.1 v45 x17.toNatClampNeg) fun v46 =>
        zLet ((t42.2.2 a0 36).getD 0) fun v47 =>
        zLet (t42.1 v47 x17.toNatClampNeg) fun v48 =>
        zLet2 (F_X11_termOf a0 v46 v48 t42) fun v50 t49 =>
        zLet (t49.1 a0 47) fun v52 =>
        if v52.toInt = 0 then
          if v43.toInt < v50.toInt then
            zLet ((t49.2.2 a0 36).getD 0) fun v57 =>
            zLet (t49.1 v57 x17.toNatClampNeg) fun v58 =>
            zLet ((t49.2.2 a0 37).getD 0) fun v59 =>
            zLet (t49.1 v59 x17.toNatClampNeg) fun v60 =>
            zLet2 (F_X11_termOf a0 v58 v60 t49) fun v62 t61 =>
            zLet (t61.1 a0 47) fun v64 =>
            if v64.toInt = 0 then
              (v62, t61)
            else
              zLet ((0 : Int32)) fun v66 =>
              (v66, t61)
          else
            zLet (x17 + (1 : Int32)) fun v67 =>
            F_X11_lawTells_39 v4 a0 p1 p2  n v67 t49
        else
          zLet ((0 : Int32)) fun v68 =>
          (v68, t49)
    else
      zLet ((0 : Int32)) fun v24 =>
      (v24, τ18)
set_option maxRecDepth 100000 in
noncomputable def F_X11_lawTells (a0 : Nat) (p1 : Int32) (p2 : Int32) (σ : zS) : Int32 × zS :=
  zLet ((5 : Int32)) fun v1 =>
  zLet (σ.1 a0 18) fun v2 =>
  zLet (v1 * v2) fun v3 =>
  zLet (v3 + p1) fun v4 =>
  zLet ((σ.2.2 a0 30).getD 0) fun v5 =>
  zLet (σ.1 v5 v4.toNatClampNeg) fun v6 =>
  zLet ((σ.2.2 a0 31).getD 0) fun v7 =>
  zLet (σ.1 v7 v4.toNatClampNeg) fun v8 =>
  if v6.toInt = v8.toInt then
    (p2, σ)
  else
    zLet ((0 : Int32)) fun v10 =>
    zLet ((zu σ.1 a0 47 v10, σ.2.1, σ.2.2)) fun s11 =>
    zLet ((s11.2.2 a0 30).getD 0) fun v15 =>
    zLet (s11.1 v15 v4.toNatClampNeg) fun v16 =>
    F_X11_lawTells_39 v4 a0 p1 p2  4294967299 v16 s11
set_option maxRecDepth 100000 in
noncomputable def F_X11_isSource (a0 : Nat) (p1 : Int32) (σ : zS) : Int32 :=
  zLet (F_X11_isBeside a0 p1 σ) fun v2 =>
  if v2.toInt = 0 then
    zLet ((0 : Int32)) fun v4 =>
    v4
  else
    zLet ((σ.2.2 a0 54).getD 0) fun v5 =>
    zLet (σ.1 v5 p1.toNatClampNeg) fun v6 =>
    zLet ((1 : Int32)) fun v7 =>
    zLet (v7 <<< (p1 &&& 31)) fun v8 =>
    if v6.toInt = v8.toInt then
      zLet ((1 : Int32)) fun v11 =>
      v11
    else
      zLet ((0 : Int32)) fun v10 =>
      v10
set_option maxRecDepth 100000 in
noncomputable def F_X11_sourceBits_4 (a0 : Nat) (σ : zS)  : Nat → Int32 → Int32 → Int32
  | 0, _, _ => 0
  | n + 1, x3, x4 =>
    zLet (F_X11_many a0  σ) fun v7 =>
    if x3.toInt < v7.toInt then
      zLet (F_X11_isSource a0 x3 σ) fun v10 =>
      if v10.toInt = 0 then
        zLet (x3 + (1 : Int32)) fun v12 =>
        F_X11_sourceBits_4 a0 σ  n v12 x4
      else
        zLet ((1 : Int32)) fun v13 =>
        zLet (v13 <<< (x3 &&& 31)) fun v14 =>
        zLet (x4 ||| v14) fun v15 =>
        zLet (x3 + (1 : Int32)) fun v16 =>
        F_X11_sourceBits_4 a0 σ  n v16 v15
    else
      x4
set_option maxRecDepth 100000 in
noncomputable def F_X11_sourceBits (a0 : Nat) (σ : zS) : Int32 :=
  zLet ((0 : Int32)) fun v1 =>
  zLet ((1 : Int32)) fun v2 =>
  F_X11_sourceBits_4 a0 σ  10000 v2 v1
set_option maxRecDepth 100000 in
noncomputable def F_X11_rainsAt (a0 : Nat) (p1 : Int32) (σ : zS) : Int32 × zS :=
  zLet ((0 : Int32)) fun v1 =>
  zLet (F_X11_looks a0 p1 v1 σ) fun t2 =>
  zLet ((0 : Int32)) fun v4 =>
  zLet ((t2.2.2 a0 45).getD 0) fun v5 =>
  zLet ((0 : Int32)) fun v6 =>
  zLet (t2.1 v5 v6.toNatClampNeg) fun v7 =>
  zLet2 (F_X11_lawTells a0 v4 v7 t2) fun v9 t8 =>
  zLet ((0 : Int32)) fun v11 =>
  zLet ((999 : Int32)) fun v12 =>
  zLet (F_X11_within v9 v11 v12) fun v13 =>
  (v13, t8)
set_option maxRecDepth 100000 in
noncomputable def F_X11_driesAt (a0 : Nat) (p1 : Int32) (σ : zS) : Int32 × zS :=
  zLet ((σ.2.2 a0 55).getD 0) fun v1 =>
  zLet (σ.1 v1 p1.toNatClampNeg) fun v2 =>
  zLet (F_X11_looks a0 p1 v2 σ) fun t3 =>
  zLet ((1 : Int32)) fun v5 =>
  zLet ((0 : Int32)) fun v6 =>
  zLet2 (F_X11_lawTells a0 v5 v6 t3) fun v8 t7 =>
  zLet ((0 : Int32)) fun v10 =>
  zLet ((t7.2.2 a0 55).getD 0) fun v11 =>
  zLet (t7.1 v11 p1.toNatClampNeg) fun v12 =>
  zLet (F_X11_within v8 v10 v12) fun v13 =>
  (v13, t7)
set_option maxRecDepth 100000 in
noncomputable def F_X11_claimOf (a0 : Nat) (p1 : Int32) (p2 : Int32) (σ : zS) : Int32 × zS :=
  zLet ((σ.2.2 a0 55).getD 0) fun v1 =>
  zLet (σ.1 v1 p1.toNatClampNeg) fun v2 =>
  zLet (F_X11_looks a0 p1 v2 σ) fun t3 =>
  if p2.toInt = 0 then
    zLet ((t3.2.2 a0 45).getD 0) fun v30 =>
    zLet ((1 : Int32)) fun v31 =>
    zLet (t3.1 v30 v31.toNatClampNeg) fun v32 =>
    zLet ((2 : Int32)) fun v33 =>
    zLet (v33 + p2) fun v34 =>
    zLet2 (F_X11_lawTells a0 v34 v32 t3) fun v36 t35 =>
    zLet ((0 : Int32)) fun v38 =>
    zLet ((99999 : Int32)) fun v39 =>
    zLet (F_X11_within v36 v38 v39) fun v40 =>
    (v40, t35)
  else
    zLet ((1 : Int32)) fun v6 =>
    if p2.toInt = v6.toInt then
      zLet ((t3.2.2 a0 45).getD 0) fun v19 =>
      zLet ((4 : Int32)) fun v20 =>
      zLet (t3.1 v19 v20.toNatClampNeg) fun v21 =>
      zLet ((2 : Int32)) fun v22 =>
      zLet (v22 + p2) fun v23 =>
      zLet2 (F_X11_lawTells a0 v23 v21 t3) fun v25 t24 =>
      zLet ((0 : Int32)) fun v27 =>
      zLet ((99999 : Int32)) fun v28 =>
      zLet (F_X11_within v25 v27 v28) fun v29 =>
      (v29, t24)
    else
      zLet ((t3.2.2 a0 45).getD 0) fun v8 =>
      zLet ((2 : Int32)) fun v9 =>
      zLet (t3.1 v8 v9.toNatClampNeg) fun v10 =>
      zLet ((2 : Int32)) fun v11 =>
      zLet (v11 + p2) fun v12 =>
      zLet2 (F_X11_lawTells a0 v12 v10 t3) fun v14 t13 =>
      zLet ((0 : Int32)) fun v16 =>
      zLet ((99999 : Int32)) fun v17 =>
      zLet (F_X11_within v14 v16 v17) fun v18 =>
      (v18, t13)
set_option maxRecDepth 100000 in
noncomputable def F_X11_winnerBy_8 (a0 : Nat) (p1 : Int32)  : Nat → Int32 → Int32 → Int32 → zS → Int32 × zS
  | 0, _, _, _, s => (0, s)
  | n + 1, x4, x5, x6, τ7 =>
    zLet (F_X11_many a0  τ7) fun v9 =>
    if x4.toInt < v9.toInt then
      zLet (F_X11_isSource a0 x4 τ7) fun v12 =>
      if v12.toInt = 0 then
        zLet (x4 + (1 : Int32)) fun v24 =>
        F_X11_winnerBy_8 a0 p1  n v24 x5 x6 τ7
      else
        zLet2 (F_X11_claimOf a0 x4 p1 τ7) fun v15 t14 =>
        if x6.toInt < 0 then
          zLet (x4 + (1 : Int32)) fun v18 =>
          F_X11_winnerBy_8 a0 p1  n v18 v15 x4 t14
        else
          if x5.toInt < v15.toInt then
            zLet (x4 + (1 : Int32)) fun v22 =>
            F_X11_winnerBy_8 a0 p1  n v22 v15 x4 t14
          else
            zLet (x4 + (1 : Int32)) fun v23 =>
            F_X11_winnerBy_8 a0 p1  n v23 x5 x6 t14
    else
      (x6, τ7)
set_option maxRecDepth 100000 in
noncomputable def F_X11_winnerBy (a0 : Nat) (p1 : Int32) (σ : zS) : Int32 × zS :=
  zLet ((-2 : Int32)) fun v1 =>
  zLet ((0 : Int32)) fun v2 =>
  zLet ((1 : Int32)) fun v3 =>
  F_X11_winnerBy_8 a0 p1  10000 v3 v2 v1 σ
set_option maxRecDepth 100000 in
noncomputable def F_X11_fillsWays_61 (x8 : Int32) (a0 : Nat) (kLp3 : Int32 → zS → zS) (kLp9 : Int32 → zS → zS) : Nat → Int32 → zS → zS
  | 0, _, s => s
  | n + 1, x28, τ29 =>
    if 0 < x28.toInt then
      zLet ((τ29.2.2 a0 52).getD 0) fun v32 =>
      zLet (τ29.1 v32 x8.toNatClampNeg) fun v33 =>
      zLet ((τ29.2.2 a0 23).getD 0) fun v34 =>
      zLet ((12 : Int32)) fun v35 =>
      zLet (τ29.1 a0 18) fun v36 =>
      zLet (v35 * v36) fun v37 =>
      zLet (v37 + x28) fun v38 =>
      zLet (τ29.1 v34 v38.toNatClampNeg) fun v39 =>
      zLet (v33 + v39) fun v40 =>
      zLet ((zu τ29.1 v32 x8.toNatClampNeg v40, τ29.2.1, τ29.2.2)) fun s41 =>
      zLet ((s41.2.2 a0 53).getD 0) fun v44 =>
      zLet (s41.1 v44 x8.toNatClampNeg) fun v45 =>
      zLet ((1 : Int32)) fun v46 =>
      zLet (v45 + v46) fun v47 =>
      zLet ((zu s41.1 v44 x8.toNatClampNeg v47, s41.2.1, s41.2.2)) fun s48 =>
      zLet ((s48.2.2 a0 49).getD 0) fun v51 =>
      zLet (s48.1 v51 x28.toNatClampNeg) fun v52 =>
      zLet ((s48.2.2 a0 54).getD 0) fun v53 =>
      zLet (s48.1 v53 v52.toNatClampNeg) fun v54 =>
      zLet ((1 : Int32)) fun v55 =>
      zLet (v55 <<< (x8 &&& 31)) fun v56 =>
      zLet (v54 ||| v56) fun v57 =>
      zLet ((zu s48.1 v53 v52.toNatClampNeg v57, s48.2.1, s48.2.2)) fun s58 =>
      F_X11_fillsWays_61 x8 a0 kLp3 kLp9 n v52 s58
    else
      zLet (x8 + (1 : Int32)) fun v31 =>
      kLp9 v31 τ29
set_option maxRecDepth 100000 in
noncomputable def F_X11_fillsWays_25 (a0 : Nat) (kLp3 : Int32 → zS → zS) : Nat → Int32 → zS → zS
  | 0, _, s => s
  | n + 1, x8, τ9 =>
    zLet (F_X11_many a0  τ9) fun v11 =>
    if x8.toInt < v11.toInt then
      zLet ((τ9.2.2 a0 52).getD 0) fun v13 =>
      zLet ((0 : Int32)) fun v14 =>
      zLet ((zu τ9.1 v13 x8.toNatClampNeg v14, τ9.2.1, τ9.2.2)) fun s15 =>
      zLet ((s15.2.2 a0 53).getD 0) fun v17 =>
      zLet ((0 : Int32)) fun v18 =>
      zLet ((zu s15.1 v17 x8.toNatClampNeg v18, s15.2.1, s15.2.2)) fun s19 =>
      zLet ((s19.2.2 a0 54).getD 0) fun v21 =>
      zLet (s19.1 v21 x8.toNatClampNeg) fun v22 =>
      zLet ((1 : Int32)) fun v23 =>
      zLet (v23 <<< (x8 &&& 31)) fun v24 =>
      zLet (v22 ||| v24) fun v25 =>
      zLet ((zu s19.1 v21 x8.toNatClampNeg v25, s19.2.1, s19.2.2)) fun s26 =>
      F_X11_fillsWays_61 x8 a0 kLp3 (F_X11_fillsWays_25 a0 kLp3 n) 10000 x8 s26
    else
      τ9
set_option maxRecDepth 100000 in
noncomputable def F_X11_fillsWays_2 (a0 : Nat)  : Nat → Int32 → zS → zS
  | 0, _, s => s
  | n + 1, x2, τ3 =>
    zLet (F_X11_many a0  τ3) fun v5 =>
    if x2.toInt < v5.toInt then
      zLet ((τ3.2.2 a0 54).getD 0) fun v61 =>
      zLet ((0 : Int32)) fun v62 =>
      zLet ((zu τ3.1 v61 x2.toNatClampNeg v62, τ3.2.1, τ3.2.2)) fun s63 =>
      zLet (x2 + (1 : Int32)) fun v65 =>
      F_X11_fillsWays_2 a0  n v65 s63
    else
      zLet ((0 : Int32)) fun v7 =>
      F_X11_fillsWays_25 a0 (F_X11_fillsWays_2 a0  n) 10000 v7 τ3
set_option maxRecDepth 100000 in
noncomputable def F_X11_fillsWays (a0 : Nat) (σ : zS) : zS :=
  zLet ((0 : Int32)) fun v1 =>
  F_X11_fillsWays_2 a0  10000 v1 σ
set_option maxRecDepth 100000 in
noncomputable def F_X11_fillsFlows_38 (x8 : Int32) (a0 : Nat) (p1 : Int32) (kLp3 : Int32 → zS → zS) (kLp9 : Int32 → zS → zS) : Nat → Int32 → zS → zS
  | 0, _, s => s
  | n + 1, x12, τ13 =>
    zLet (F_X11_many a0  τ13) fun v15 =>
    if x12.toInt < v15.toInt then
      zLet ((τ13.2.2 a0 53).getD 0) fun v18 =>
      zLet (τ13.1 v18 x12.toNatClampNeg) fun v19 =>
      if v19.toInt = x8.toInt then
        zLet ((τ13.2.2 a0 49).getD 0) fun v22 =>
        zLet ((12 : Int32)) fun v23 =>
        zLet (v23 + x12) fun v24 =>
        zLet (τ13.1 v22 v24.toNatClampNeg) fun v25 =>
        zLet ((1 : Int32)) fun v26 =>
        if v25.toInt = v26.toInt then
          zLet (x12 + (1 : Int32)) fun v42 =>
          F_X11_fillsFlows_38 x8 a0 p1 kLp3 kLp9 n v42 τ13
        else
          zLet ((τ13.2.2 a0 55).getD 0) fun v28 =>
          zLet (τ13.1 v28 x12.toNatClampNeg) fun v29 =>
          zLet2 (F_X11_driesAt a0 x12 τ13) fun v31 t30 =>
          zLet (v29 - v31) fun v33 =>
          zLet ((t30.2.2 a0 55).getD 0) fun v34 =>
          zLet ((t30.2.2 a0 49).getD 0) fun v35 =>
          zLet (t30.1 v35 x12.toNatClampNeg) fun v36 =>
          zLet (t30.1 v34 v36.toNatClampNeg) fun v37 =>
          zLet (v37 + v33) fun v38 =>
          zLet ((zu t30.1 v34 v36.toNatClampNeg v38, t30.2.1, t30.2.2)) fun s39 =>
          zLet (x12 + (1 : Int32)) fun v41 =>
          F_X11_fillsFlows_38 x8 a0 p1 kLp3 kLp9 n v41 s39
      else
        zLet (x12 + (1 : Int32)) fun v21 =>
        F_X11_fillsFlows_38 x8 a0 p1 kLp3 kLp9 n v21 τ13
    else
      zLet (x8 + (-1 : Int32)) fun v17 =>
      kLp9 v17 τ13
set_option maxRecDepth 100000 in
noncomputable def F_X11_fillsFlows_32 (a0 : Nat) (p1 : Int32) (kLp3 : Int32 → zS → zS) : Nat → Int32 → zS → zS
  | 0, _, s => s
  | n + 1, x8, τ9 =>
    if 0 < x8.toInt then
      zLet ((1 : Int32)) fun v11 =>
      F_X11_fillsFlows_38 x8 a0 p1 kLp3 (F_X11_fillsFlows_32 a0 p1 kLp3 n) 10000 v11 τ9
    else
      τ9
set_option maxRecDepth 100000 in
noncomputable def F_X11_fillsFlows_2 (a0 : Nat) (p1 : Int32)  : Nat → Int32 → zS → zS
  | 0, _, s => s
  | n + 1, x2, τ3 =>
    zLet (F_X11_many a0  τ3) fun v5 =>
    if x2.toInt < v5.toInt then
      zLet ((τ3.2.2 a0 55).getD 0) fun v43 =>
      zLet2 (F_X11_rainsAt a0 x2 τ3) fun v45 t44 =>
      zLet (v45 + p1) fun v48 =>
      zLet ((zu t44.1 v43 x2.toNatClampNeg v48, t44.2.1, t44.2.2)) fun s49 =>
      zLet (x2 + (1 : Int32)) fun v51 =>
      F_X11_fillsFlows_2 a0 p1  n v51 s49
    else
      zLet ((11 : Int32)) fun v7 =>
      F_X11_fillsFlows_32 a0 p1 (F_X11_fillsFlows_2 a0 p1  n) 10000 v7 τ3
set_option maxRecDepth 100000 in
noncomputable def F_X11_fillsFlows (a0 : Nat) (p1 : Int32) (σ : zS) : zS :=
  zLet ((0 : Int32)) fun v1 =>
  F_X11_fillsFlows_2 a0 p1  10000 v1 σ
set_option maxRecDepth 100000 in
noncomputable def F_X11_copies_2 (a0 : Nat)  : Nat → Int32 → zS → zS
  | 0, _, s => s
  | n + 1, x2, τ3 =>
    zLet ((50 : Int32)) fun v4 =>
    if x2.toInt < v4.toInt then
      zLet ((τ3.2.2 a0 49).getD 0) fun v30 =>
      zLet ((τ3.2.2 a0 48).getD 0) fun v31 =>
      zLet (τ3.1 v31 x2.toNatClampNeg) fun v32 =>
      zLet ((zu τ3.1 v30 x2.toNatClampNeg v32, τ3.2.1, τ3.2.2)) fun s33 =>
      zLet (x2 + (1 : Int32)) fun v35 =>
      F_X11_copies_2 a0  n v35 s33
    else
      zLet ((τ3.2.2 a0 29).getD 0) fun v6 =>
      zLet (τ3.1 a0 18) fun v7 =>
      zLet (τ3.1 v6 v7.toNatClampNeg) fun v8 =>
      zLet ((zu τ3.1 a0 50 v8, τ3.2.1, τ3.2.2)) fun s9 =>
      zLet ((0 : Int32)) fun v13 =>
      zLet ((zu s9.1 a0 51 v13, s9.2.1, s9.2.2)) fun s14 =>
      zLet (F_X11_fillsWays a0  s14) fun t19 =>
      zLet ((0 : Int32)) fun v24 =>
      zLet (F_X11_fillsFlows a0 v24 t19) fun t25 =>
      t25
set_option maxRecDepth 100000 in
noncomputable def F_X11_copies (a0 : Nat) (σ : zS) : zS :=
  zLet ((0 : Int32)) fun v1 =>
  F_X11_copies_2 a0  10000 v1 σ
set_option maxRecDepth 100000 in
noncomputable def F_X11_isStorm (a0 : Nat) (σ : zS) : Int32 :=
  zLet (σ.1 a0 50) fun v1 =>
  zLet ((147 : Int32)) fun v2 =>
  zLet (F_X11_mixed v1 v2) fun v3 =>
  zLet ((4 : Int32)) fun v4 =>
  zLet ((σ.2.2 a0 49).getD 0) fun v5 =>
  zLet ((48 : Int32)) fun v6 =>
  zLet (σ.1 v5 v6.toNatClampNeg) fun v7 =>
  zLet (v4 * v7) fun v8 =>
  zLet (F_X11_mixed v3 v8) fun v9 =>
  zLet ((1 : Int32)) fun v10 =>
  zLet ((v9.toUInt32 >>> (v10.toUInt32 &&& Int32.toUInt32 31)).toInt32) fun v11 =>
  zLet ((100 : Int32)) fun v12 =>
  zLet (v11 - v11 / v12 * v12) fun v13 =>
  zLet ((σ.2.2 a0 26).getD 0) fun v14 =>
  zLet (σ.1 a0 18) fun v15 =>
  zLet (σ.1 v14 v15.toNatClampNeg) fun v16 =>
  if v13.toInt < v16.toInt then
    zLet ((1 : Int32)) fun v20 =>
    v20
  else
    zLet ((0 : Int32)) fun v19 =>
    v19
set_option maxRecDepth 100000 in
noncomputable def F_X11_monthGoes (a0 : Nat) (σ : zS) : zS :=
  zLet (σ.1 a0 51) fun v1 =>
  if v1.toInt = 0 then
    zLet (F_X11_isStorm a0  σ) fun v83 =>
    if v83.toInt = 0 then
      zLet ((0 : Int32)) fun v85 =>
      zLet (F_X11_fillsFlows a0 v85 σ) fun t86 =>
      zLet ((t86.2.2 a0 49).getD 0) fun v89 =>
      zLet ((49 : Int32)) fun v90 =>
      zLet (t86.1 v89 v90.toNatClampNeg) fun v91 =>
      zLet2 (F_X11_winnerBy a0 v91 t86) fun v93 t92 =>
      zLet ((zu t92.1 a0 56 v93, t92.2.1, t92.2.2)) fun s96 =>
      zLet (s96.1 a0 56) fun v100 =>
      if v100.toInt < 0 then
        zLet ((s96.2.2 a0 49).getD 0) fun v102 =>
        zLet ((48 : Int32)) fun v103 =>
        zLet (s96.1 v102 v103.toNatClampNeg) fun v104 =>
        zLet ((1 : Int32)) fun v105 =>
        zLet (v104 + v105) fun v106 =>
        zLet ((zu s96.1 v102 v103.toNatClampNeg v106, s96.2.1, s96.2.2)) fun s107 =>
        zLet ((0 : Int32)) fun v111 =>
        zLet (F_X11_fillsFlows a0 v111 s107) fun t112 =>
        t112
      else
        zLet ((s96.2.2 a0 49).getD 0) fun v116 =>
        zLet ((24 : Int32)) fun v117 =>
        zLet (s96.1 a0 56) fun v118 =>
        zLet (v117 + v118) fun v119 =>
        zLet ((s96.2.2 a0 49).getD 0) fun v120 =>
        zLet ((24 : Int32)) fun v121 =>
        zLet (s96.1 a0 56) fun v122 =>
        zLet (v121 + v122) fun v123 =>
        zLet (s96.1 v120 v123.toNatClampNeg) fun v124 =>
        zLet ((1 : Int32)) fun v125 =>
        zLet (v124 + v125) fun v126 =>
        zLet ((0 : Int32)) fun v127 =>
        zLet ((999 : Int32)) fun v128 =>
        zLet (F_X11_within v126 v127 v128) fun v129 =>
        zLet ((zu s96.1 v116 v119.toNatClampNeg v129, s96.2.1, s96.2.2)) fun s130 =>
        zLet ((s130.2.2 a0 49).getD 0) fun v134 =>
        zLet ((36 : Int32)) fun v135 =>
        zLet (s130.1 a0 56) fun v136 =>
        zLet (v135 + v136) fun v137 =>
        zLet (s130.1 v134 v137.toNatClampNeg) fun v138 =>
        zLet ((s130.2.2 a0 28).getD 0) fun v139 =>
        zLet (s130.1 a0 18) fun v140 =>
        zLet (s130.1 v139 v140.toNatClampNeg) fun v141 =>
        zLet (v138 + v141) fun v142 =>
        zLet ((zu s130.1 v134 v137.toNatClampNeg v142, s130.2.1, s130.2.2)) fun s143 =>
        zLet ((s143.2.2 a0 49).getD 0) fun v148 =>
        zLet ((48 : Int32)) fun v149 =>
        zLet (s143.1 v148 v149.toNatClampNeg) fun v150 =>
        zLet ((1 : Int32)) fun v151 =>
        zLet (v150 + v151) fun v152 =>
        zLet ((zu s143.1 v148 v149.toNatClampNeg v152, s143.2.1, s143.2.2)) fun s153 =>
        zLet ((0 : Int32)) fun v158 =>
        zLet (F_X11_fillsFlows a0 v158 s153) fun t159 =>
        t159
    else
      zLet ((σ.2.2 a0 27).getD 0) fun v164 =>
      zLet (σ.1 a0 18) fun v165 =>
      zLet (σ.1 v164 v165.toNatClampNeg) fun v166 =>
      zLet (F_X11_fillsFlows a0 v166 σ) fun t167 =>
      zLet ((t167.2.2 a0 49).getD 0) fun v171 =>
      zLet ((49 : Int32)) fun v172 =>
      zLet (t167.1 v171 v172.toNatClampNeg) fun v173 =>
      zLet2 (F_X11_winnerBy a0 v173 t167) fun v175 t174 =>
      zLet ((zu t174.1 a0 56 v175, t174.2.1, t174.2.2)) fun s179 =>
      zLet (s179.1 a0 56) fun v184 =>
      if v184.toInt < 0 then
        zLet ((s179.2.2 a0 49).getD 0) fun v186 =>
        zLet ((48 : Int32)) fun v187 =>
        zLet (s179.1 v186 v187.toNatClampNeg) fun v188 =>
        zLet ((1 : Int32)) fun v189 =>
        zLet (v188 + v189) fun v190 =>
        zLet ((zu s179.1 v186 v187.toNatClampNeg v190, s179.2.1, s179.2.2)) fun s191 =>
        zLet ((0 : Int32)) fun v196 =>
        zLet (F_X11_fillsFlows a0 v196 s191) fun t197 =>
        t197
      else
        zLet ((s179.2.2 a0 49).getD 0) fun v202 =>
        zLet ((24 : Int32)) fun v203 =>
        zLet (s179.1 a0 56) fun v204 =>
        zLet (v203 + v204) fun v205 =>
        zLet ((s179.2.2 a0 49).getD 0) fun v206 =>
        zLet ((24 : Int32)) fun v207 =>
        zLet (s179.1 a0 56) fun v208 =>
        zLet (v207 + v208) fun v209 =>
        zLet (s179.1 v206 v209.toNatClampNeg) fun v210 =>
        zLet ((1 : Int32)) fun v211 =>
        zLet (v210 + v211) fun v212 =>
        zLet ((0 : Int32)) fun v213 =>
        zLet ((999 : Int32)) fun v214 =>
        zLet (F_X11_within v212 v213 v214) fun v215 =>
        zLet ((zu s179.1 v202 v205.toNatClampNeg v215, s179.2.1, s179.2.2)) fun s216 =>
        zLet ((s216.2.2 a0 49).getD 0) fun v221 =>
        zLet ((36 : Int32)) fun v222 =>
        zLet (s216.1 a0 56) fun v223 =>
        zLet (v222 + v223) fun v224 =>
        zLet (s216.1 v221 v224.toNatClampNeg) fun v225 =>
        zLet ((s216.2.2 a0 28).getD 0) fun v226 =>
        zLet (s216.1 a0 18) fun v227 =>
        zLet (s216.1 v226 v227.toNatClampNeg) fun v228 =>
        zLet (v225 + v228) fun v229 =>
        zLet ((zu s216.1 v221 v224.toNatClampNeg v229, s216.2.1, s216.2.2)) fun s230 =>
        zLet ((s230.2.2 a0 49).getD 0) fun v235 =>
        zLet ((48 : Int32)) fun v236 =>
        zLet (s230.1 v235 v236.toNatClampNeg) fun v237 =>
        zLet ((1 : Int32)) fun v238 =>
        zLet (v237 + v238) fun v239 =>
        zLet ((zu s230.1 v235 v236.toNatClampNeg v239, s230.2.1, s230.2.2)) fun s240 =>
        zLet ((0 : Int32)) fun v245 =>
        zLet (F_X11_fillsFlows a0 v245 s240) fun t246 =>
        t246
  else
    zLet ((0 : Int32)) fun v3 =>
    zLet (F_X11_fillsFlows a0 v3 σ) fun t4 =>
    zLet ((t4.2.2 a0 49).getD 0) fun v7 =>
    zLet ((49 : Int32)) fun v8 =>
    zLet (t4.1 v7 v8.toNatClampNeg) fun v9 =>
    zLet2 (F_X11_winnerBy a0 v9 t4) fun v11 t10 =>
    zLet ((zu t10.1 a0 56 v11, t10.2.1, t10.2.2)) fun s14 =>
    zLet (s14.1 a0 56) fun v18 =>
    if v18.toInt < 0 then
      zLet ((s14.2.2 a0 49).getD 0) fun v20 =>
      zLet ((48 : Int32)) fun v21 =>
      zLet (s14.1 v20 v21.toNatClampNeg) fun v22 =>
      zLet ((1 : Int32)) fun v23 =>
      zLet (v22 + v23) fun v24 =>
      zLet ((zu s14.1 v20 v21.toNatClampNeg v24, s14.2.1, s14.2.2)) fun s25 =>
      zLet ((0 : Int32)) fun v29 =>
      zLet (F_X11_fillsFlows a0 v29 s25) fun t30 =>
      t30
    else
      zLet ((s14.2.2 a0 49).getD 0) fun v34 =>
      zLet ((24 : Int32)) fun v35 =>
      zLet (s14.1 a0 56) fun v36 =>
      zLet (v35 + v36) fun v37 =>
      zLet ((s14.2.2 a0 49).getD 0) fun v38 =>
      zLet ((24 : Int32)) fun v39 =>
      zLet (s14.1 a0 56) fun v40 =>
      zLet (v39 + v40) fun v41 =>
      zLet (s14.1 v38 v41.toNatClampNeg) fun v42 =>
      zLet ((1 : Int32)) fun v43 =>
      zLet (v42 + v43) fun v44 =>
      zLet ((0 : Int32)) fun v45 =>
      zLet ((999 : Int32)) fun v46 =>
      zLet (F_X11_within v44 v45 v46) fun v47 =>
      zLet ((zu s14.1 v34 v37.toNatClampNeg v47, s14.2.1, s14.2.2)) fun s48 =>
      zLet ((s48.2.2 a0 49).getD 0) fun v52 =>
      zLet ((36 : Int32)) fun v53 =>
      zLet (s48.1 a0 56) fun v54 =>
      zLet (v53 + v54) fun v55 =>
      zLet (s48.1 v52 v55.toNatClampNeg) fun v56 =>
      zLet ((s48.2.2 a0 28).getD 0) fun v57 =>
      zLet (s48.1 a0 18) fun v58 =>
      zLet (s48.1 v57 v58.toNatClampNeg) fun v59 =>
      zLet (v56 + v59) fun v60 =>
      zLet ((zu s48.1 v52 v55.toNatClampNeg v60, s48.2.1, s48.2.2)) fun s61 =>
      zLet ((s61.2.2 a0 49).getD 0) fun v66 =>
      zLet ((48 : Int32)) fun v67 =>
      zLet (s61.1 v66 v67.toNatClampNeg) fun v68 =>
      zLet ((1 : Int32)) fun v69 =>
      zLet (v68 + v69) fun v70 =>
      zLet ((zu s61.1 v66 v67.toNatClampNeg v70, s61.2.1, s61.2.2)) fun s71 =>
      zLet ((0 : Int32)) fun v76 =>
      zLet (F_X11_fillsFlows a0 v76 s71) fun t77 =>
      t77
set_option maxRecDepth 100000 in
noncomputable def F_X11_goes_2 (a0 : Nat) (p1 : Int32)  : Nat → Int32 → zS → zS
  | 0, _, s => s
  | n + 1, x2, τ3 =>
    if x2.toInt < p1.toInt then
      zLet (F_X11_monthGoes a0  τ3) fun t7 =>
      zLet (x2 + (1 : Int32)) fun v9 =>
      F_X11_goes_2 a0 p1  n v9 t7
    else
      τ3
set_option maxRecDepth 100000 in
noncomputable def F_X11_goes (a0 : Nat) (p1 : Int32) (σ : zS) : zS :=
  zLet ((0 : Int32)) fun v1 =>
  F_X11_goes_2 a0 p1  4294967299 v1 σ
set_option maxRecDepth 100000 in
noncomputable def F_X11_begins_23 (a0 : Nat) (kLp3 : Int32 → zS → zS) : Nat → Int32 → zS → zS
  | 0, _, s => s
  | n + 1, x7, τ8 =>
    zLet (F_X11_many a0  τ8) fun v10 =>
    if x7.toInt < v10.toInt then
      zLet ((τ8.2.2 a0 49).getD 0) fun v25 =>
      zLet ((τ8.2.2 a0 22).getD 0) fun v26 =>
      zLet ((12 : Int32)) fun v27 =>
      zLet (τ8.1 a0 18) fun v28 =>
      zLet (v27 * v28) fun v29 =>
      zLet (v29 + x7) fun v30 =>
      zLet (τ8.1 v26 v30.toNatClampNeg) fun v31 =>
      zLet ((zu τ8.1 v25 x7.toNatClampNeg v31, τ8.2.1, τ8.2.2)) fun s32 =>
      zLet (x7 + (1 : Int32)) fun v35 =>
      F_X11_begins_23 a0 kLp3 n v35 s32
    else
      zLet ((τ8.2.2 a0 29).getD 0) fun v12 =>
      zLet (τ8.1 a0 18) fun v13 =>
      zLet (τ8.1 v12 v13.toNatClampNeg) fun v14 =>
      zLet ((zu τ8.1 a0 50 v14, τ8.2.1, τ8.2.2)) fun s15 =>
      zLet ((0 : Int32)) fun v19 =>
      zLet ((zu s15.1 a0 51 v19, s15.2.1, s15.2.2)) fun s20 =>
      s20
set_option maxRecDepth 100000 in
noncomputable def F_X11_begins_2 (a0 : Nat)  : Nat → Int32 → zS → zS
  | 0, _, s => s
  | n + 1, x2, τ3 =>
    zLet ((50 : Int32)) fun v4 =>
    if x2.toInt < v4.toInt then
      zLet ((τ3.2.2 a0 49).getD 0) fun v36 =>
      zLet ((0 : Int32)) fun v37 =>
      zLet ((zu τ3.1 v36 x2.toNatClampNeg v37, τ3.2.1, τ3.2.2)) fun s38 =>
      zLet (x2 + (1 : Int32)) fun v40 =>
      F_X11_begins_2 a0  n v40 s38
    else
      zLet ((0 : Int32)) fun v6 =>
      F_X11_begins_23 a0 (F_X11_begins_2 a0  n) 10000 v6 τ3
set_option maxRecDepth 100000 in
noncomputable def F_X11_begins (a0 : Nat) (σ : zS) : zS :=
  zLet ((0 : Int32)) fun v1 =>
  F_X11_begins_2 a0  10000 v1 σ
set_option maxRecDepth 100000 in
noncomputable def F_X11_copiesStill (a0 : Nat) (σ : zS) : zS :=
  zLet (F_X11_copies a0  σ) fun t1 =>
  zLet ((1 : Int32)) fun v3 =>
  zLet ((zu t1.1 a0 51 v3, t1.2.1, t1.2.2)) fun s4 =>
  s4
set_option maxRecDepth 100000 in
noncomputable def F_X11_records_51 (a0 : Nat)  : Nat → Int32 → zS → zS
  | 0, _, s => s
  | n + 1, x5, τ6 =>
    zLet ((50 : Int32)) fun v7 =>
    if x5.toInt < v7.toInt then
      zLet ((τ6.2.2 a0 58).getD 0) fun v18 =>
      zLet ((50 : Int32)) fun v19 =>
      zLet (τ6.1 a0 57) fun v20 =>
      zLet (v19 * v20) fun v21 =>
      zLet (v21 + x5) fun v22 =>
      zLet ((τ6.2.2 a0 48).getD 0) fun v23 =>
      zLet (τ6.1 v23 x5.toNatClampNeg) fun v24 =>
      zLet ((zu τ6.1 v18 v22.toNatClampNeg v24, τ6.2.1, τ6.2.2)) fun s25 =>
      zLet (x5 + (1 : Int32)) fun v28 =>
      F_X11_records_51 a0  n v28 s25
    else
      zLet (τ6.1 a0 57) fun v9 =>
      zLet ((1 : Int32)) fun v10 =>
      zLet (v9 + v10) fun v11 =>
      zLet ((zu τ6.1 a0 57 v11, τ6.2.1, τ6.2.2)) fun s12 =>
      zLet (F_X11_keepsRow a0  s12) fun t15 =>
      t15
set_option maxRecDepth 100000 in
noncomputable def F_X11_records_51_1 (a0 : Nat) (kLp31 : Int32 → zS → zS) : Nat → Int32 → zS → zS
  | 0, _, s => s
  | n + 1, x41, τ42 =>
    zLet ((50 : Int32)) fun v43 =>
    if x41.toInt < v43.toInt then
      zLet ((τ42.2.2 a0 58).getD 0) fun v54 =>
      zLet ((50 : Int32)) fun v55 =>
      zLet (τ42.1 a0 57) fun v56 =>
      zLet (v55 * v56) fun v57 =>
      zLet (v57 + x41) fun v58 =>
      zLet ((τ42.2.2 a0 48).getD 0) fun v59 =>
      zLet (τ42.1 v59 x41.toNatClampNeg) fun v60 =>
      zLet ((zu τ42.1 v54 v58.toNatClampNeg v60, τ42.2.1, τ42.2.2)) fun s61 =>
      zLet (x41 + (1 : Int32)) fun v64 =>
      F_X11_records_51_1 a0 kLp31 n v64 s61
    else
      zLet (τ42.1 a0 57) fun v45 =>
      zLet ((1 : Int32)) fun v46 =>
      zLet (v45 + v46) fun v47 =>
      zLet ((zu τ42.1 a0 57 v47, τ42.2.1, τ42.2.2)) fun s48 =>
      zLet (F_X11_keepsRow a0  s48) fun t51 =>
      t51
set_option maxRecDepth 100000 in
noncomputable def F_X11_records_11 (a0 : Nat)  : Nat → Int32 → zS → zS
  | 0, _, s => s
  | n + 1, x30, τ31 =>
    zLet ((1950 : Int32)) fun v32 =>
    if x30.toInt < v32.toInt then
      zLet ((τ31.2.2 a0 58).getD 0) fun v65 =>
      zLet ((τ31.2.2 a0 58).getD 0) fun v66 =>
      zLet ((50 : Int32)) fun v67 =>
      zLet (x30 + v67) fun v68 =>
      zLet (τ31.1 v66 v68.toNatClampNeg) fun v69 =>
      zLet ((zu τ31.1 v65 x30.toNatClampNeg v69, τ31.2.1, τ31.2.2)) fun s70 =>
      zLet (x30 + (1 : Int32)) fun v72 =>
      F_X11_records_11 a0  n v72 s70
    else
      zLet (τ31.1 a0 57) fun v34 =>
      zLet ((1 : Int32)) fun v35 =>
      zLet (v34 - v35) fun v36 =>
      zLet ((zu τ31.1 a0 57 v36, τ31.2.1, τ31.2.2)) fun s37 =>
      zLet ((0 : Int32)) fun v40 =>
      F_X11_records_51_1 a0 (F_X11_records_11 a0  n) 10000 v40 s37
set_option maxRecDepth 100000 in
noncomputable def F_X11_records (a0 : Nat) (σ : zS) : zS :=
  zLet (σ.1 a0 57) fun v1 =>
  zLet ((40 : Int32)) fun v2 =>
  if v1.toInt = v2.toInt then
    zLet ((0 : Int32)) fun v29 =>
    F_X11_records_11 a0  10000 v29 σ
  else
    zLet ((0 : Int32)) fun v4 =>
    F_X11_records_51 a0  10000 v4 σ
set_option maxRecDepth 100000 in
noncomputable def F_X11_does (a0 : Nat) (p1 : Int32) (p2 : Int32) (σ : zS) : zS :=
  zLet (F_X11_copies a0  σ) fun t1 =>
  zLet ((t1.2.2 a0 49).getD 0) fun v3 =>
  zLet ((zu t1.1 v3 p1.toNatClampNeg p2, t1.2.1, t1.2.2)) fun s4 =>
  zLet (F_X11_records a0  s4) fun t6 =>
  t6
set_option maxRecDepth 100000 in
noncomputable def F_X11_spot (a0 : Nat) (p1 : Int32) (p2 : Int32) (σ : zS) : Int32 × zS :=
  zLet (F_X11_isPlace a0 p1 σ) fun v2 =>
  if v2.toInt = 0 then
    zLet ((-1 : Int32)) fun v72 =>
    (v72, σ)
  else
    zLet (F_X11_copies a0  σ) fun t4 =>
    if p2.toInt = 0 then
      zLet ((t4.2.2 a0 49).getD 0) fun v7 =>
      zLet (t4.1 v7 p1.toNatClampNeg) fun v8 =>
      (v8, t4)
    else
      if p2.toInt = 1 then
        zLet ((t4.2.2 a0 23).getD 0) fun v10 =>
        zLet ((12 : Int32)) fun v11 =>
        zLet (t4.1 a0 18) fun v12 =>
        zLet (v11 * v12) fun v13 =>
        zLet (v13 + p1) fun v14 =>
        zLet (t4.1 v10 v14.toNatClampNeg) fun v15 =>
        (v15, t4)
      else
        if p2.toInt = 2 then
          zLet ((t4.2.2 a0 24).getD 0) fun v17 =>
          zLet ((12 : Int32)) fun v18 =>
          zLet (t4.1 a0 18) fun v19 =>
          zLet (v18 * v19) fun v20 =>
          zLet (v20 + p1) fun v21 =>
          zLet (t4.1 v17 v21.toNatClampNeg) fun v22 =>
          (v22, t4)
        else
          if p2.toInt = 3 then
            zLet ((t4.2.2 a0 25).getD 0) fun v24 =>
            zLet ((12 : Int32)) fun v25 =>
            zLet (t4.1 a0 18) fun v26 =>
            zLet (v25 * v26) fun v27 =>
            zLet (v27 + p1) fun v28 =>
            zLet (t4.1 v24 v28.toNatClampNeg) fun v29 =>
            (v29, t4)
          else
            if p2.toInt = 4 then
              zLet ((t4.2.2 a0 49).getD 0) fun v31 =>
              zLet ((12 : Int32)) fun v32 =>
              zLet (v32 + p1) fun v33 =>
              zLet (t4.1 v31 v33.toNatClampNeg) fun v34 =>
              (v34, t4)
            else
              if p2.toInt = 5 then
                zLet ((t4.2.2 a0 55).getD 0) fun v36 =>
                zLet (t4.1 v36 p1.toNatClampNeg) fun v37 =>
                (v37, t4)
              else
                if p2.toInt = 6 then
                  zLet ((t4.2.2 a0 52).getD 0) fun v39 =>
                  zLet (t4.1 v39 p1.toNatClampNeg) fun v40 =>
                  (v40, t4)
                else
                  if p2.toInt = 7 then
                    zLet ((t4.2.2 a0 54).getD 0) fun v42 =>
                    zLet (t4.1 v42 p1.toNatClampNeg) fun v43 =>
                    zLet (F_X11_bits v43) fun v44 =>
                    zLet ((1 : Int32)) fun v45 =>
                    zLet (v44 - v45) fun v46 =>
                    (v46, t4)
                  else
                    if p2.toInt = 8 then
                      zLet (F_X11_isSource a0 p1 t4) fun v49 =>
                      if v49.toInt = 0 then
                        zLet ((0 : Int32)) fun v51 =>
                        (v51, t4)
                      else
                        zLet ((1 : Int32)) fun v52 =>
                        (v52, t4)
                    else
                      if p2.toInt = 9 then
                        zLet ((t4.2.2 a0 49).getD 0) fun v54 =>
                        zLet ((24 : Int32)) fun v55 =>
                        zLet (v55 + p1) fun v56 =>
                        zLet (t4.1 v54 v56.toNatClampNeg) fun v57 =>
                        (v57, t4)
                      else
                        if p2.toInt = 10 then
                          zLet ((t4.2.2 a0 49).getD 0) fun v59 =>
                          zLet ((36 : Int32)) fun v60 =>
                          zLet (v60 + p1) fun v61 =>
                          zLet (t4.1 v59 v61.toNatClampNeg) fun v62 =>
                          (v62, t4)
                        else
                          if p2.toInt = 11 then
                            zLet2 (F_X11_rainsAt a0 p1 t4) fun v65 t64 =>
                            (v65, t64)
                          else
                            if p2.toInt = 12 then
                              zLet2 (F_X11_driesAt a0 p1 t4) fun v69 t68 =>
                              (v69, t68)
                            else
                              zLet ((-1 : Int32)) fun v71 =>
                              (v71, t4)
set_option maxRecDepth 100000 in
noncomputable def F_X11_isClaim (a0 : Nat) (p1 : Int32) (p2 : Int32) (σ : zS) : Int32 × zS :=
  zLet (F_X11_copies a0  σ) fun t1 =>
  zLet (F_X11_isSource a0 p1 t1) fun v4 =>
  if v4.toInt = 0 then
    zLet ((0 : Int32)) fun v6 =>
    (v6, t1)
  else
    zLet (F_X11_isLaw p2) fun v7 =>
    if v7.toInt = 0 then
      zLet ((0 : Int32)) fun v9 =>
      (v9, t1)
    else
      zLet ((1 : Int32)) fun v10 =>
      (v10, t1)
set_option maxRecDepth 100000 in
noncomputable def F_X11_claim (a0 : Nat) (p1 : Int32) (p2 : Int32) (σ : zS) : Int32 × zS :=
  zLet2 (F_X11_isClaim a0 p1 p2 σ) fun v2 t1 =>
  if v2.toInt = 0 then
    zLet ((-1 : Int32)) fun v5 =>
    (v5, t1)
  else
    zLet2 (F_X11_claimOf a0 p1 p2 t1) fun v7 t6 =>
    (v7, t6)
set_option maxRecDepth 100000 in
noncomputable def F_X11_winner (a0 : Nat) (p1 : Int32) (σ : zS) : Int32 × zS :=
  zLet (F_X11_isLaw p1) fun v1 =>
  if v1.toInt = 0 then
    zLet ((-1 : Int32)) fun v8 =>
    (v8, σ)
  else
    zLet (F_X11_copies a0  σ) fun t3 =>
    zLet2 (F_X11_winnerBy a0 p1 t3) fun v6 t5 =>
    (v6, t5)
set_option maxRecDepth 100000 in
noncomputable def F_X11_canTurn (a0 : Nat) (p1 : Int32) (p2 : Int32) (σ : zS) : Int32 :=
  zLet (F_X11_isBeside a0 p1 σ) fun v2 =>
  if v2.toInt = 0 then
    zLet ((0 : Int32)) fun v4 =>
    v4
  else
    zLet (F_X11_isPlace a0 p2 σ) fun v6 =>
    if v6.toInt = 0 then
      zLet ((0 : Int32)) fun v8 =>
      v8
    else
      zLet ((σ.2.2 a0 48).getD 0) fun v9 =>
      zLet (σ.1 v9 p1.toNatClampNeg) fun v10 =>
      if v10.toInt = p2.toInt then
        zLet ((0 : Int32)) fun v12 =>
        v12
      else
        zLet ((σ.2.2 a0 54).getD 0) fun v13 =>
        zLet (σ.1 v13 p1.toNatClampNeg) fun v14 =>
        zLet (v14 >>> (p2 &&& 31)) fun v15 =>
        zLet ((1 : Int32)) fun v16 =>
        zLet (v15 &&& v16) fun v17 =>
        if v17.toInt = 0 then
          zLet ((1 : Int32)) fun v20 =>
          v20
        else
          zLet ((0 : Int32)) fun v19 =>
          v19
set_option maxRecDepth 100000 in
noncomputable def F_X11_turn (a0 : Nat) (p1 : Int32) (p2 : Int32) (σ : zS) : Int32 × zS :=
  zLet (F_X11_copies a0  σ) fun t1 =>
  zLet (F_X11_canTurn a0 p1 p2 t1) fun v4 =>
  if v4.toInt = 0 then
    zLet ((0 : Int32)) fun v9 =>
    (v9, t1)
  else
    zLet (F_X11_does a0 p1 p2 t1) fun t6 =>
    zLet ((1 : Int32)) fun v8 =>
    (v8, t6)
set_option maxRecDepth 100000 in
noncomputable def F_X11_dam (a0 : Nat) (p1 : Int32) (p2 : Int32) (σ : zS) : Int32 × zS :=
  zLet (F_X11_isBeside a0 p1 σ) fun v2 =>
  if v2.toInt = 0 then
    zLet ((0 : Int32)) fun v4 =>
    (v4, σ)
  else
    zLet ((σ.2.2 a0 48).getD 0) fun v5 =>
    zLet ((12 : Int32)) fun v6 =>
    zLet (v6 + p1) fun v7 =>
    zLet (σ.1 v5 v7.toNatClampNeg) fun v8 =>
    zLet ((1 : Int32)) fun v9 =>
    if v8.toInt = v9.toInt then
      zLet ((1 : Int32)) fun v25 =>
      if v25.toInt = p2.toInt then
        zLet ((0 : Int32)) fun v38 =>
        (v38, σ)
      else
        zLet ((12 : Int32)) fun v27 =>
        zLet (v27 + p1) fun v28 =>
        if p2.toInt = 0 then
          zLet ((0 : Int32)) fun v30 =>
          zLet (F_X11_does a0 v28 v30 σ) fun t31 =>
          zLet ((1 : Int32)) fun v33 =>
          (v33, t31)
        else
          zLet ((1 : Int32)) fun v34 =>
          zLet (F_X11_does a0 v28 v34 σ) fun t35 =>
          zLet ((1 : Int32)) fun v37 =>
          (v37, t35)
    else
      zLet ((0 : Int32)) fun v11 =>
      if v11.toInt = p2.toInt then
        zLet ((0 : Int32)) fun v24 =>
        (v24, σ)
      else
        zLet ((12 : Int32)) fun v13 =>
        zLet (v13 + p1) fun v14 =>
        if p2.toInt = 0 then
          zLet ((0 : Int32)) fun v16 =>
          zLet (F_X11_does a0 v14 v16 σ) fun t17 =>
          zLet ((1 : Int32)) fun v19 =>
          (v19, t17)
        else
          zLet ((1 : Int32)) fun v20 =>
          zLet (F_X11_does a0 v14 v20 σ) fun t21 =>
          zLet ((1 : Int32)) fun v23 =>
          (v23, t21)
set_option maxRecDepth 100000 in
noncomputable def F_X11_rule (a0 : Nat) (p1 : Int32) (σ : zS) : Int32 × zS :=
  zLet (F_X11_isLaw p1) fun v1 =>
  if v1.toInt = 0 then
    zLet ((0 : Int32)) fun v3 =>
    (v3, σ)
  else
    zLet ((σ.2.2 a0 48).getD 0) fun v4 =>
    zLet ((49 : Int32)) fun v5 =>
    zLet (σ.1 v4 v5.toNatClampNeg) fun v6 =>
    if v6.toInt = p1.toInt then
      zLet ((0 : Int32)) fun v12 =>
      (v12, σ)
    else
      zLet ((49 : Int32)) fun v8 =>
      zLet (F_X11_does a0 v8 p1 σ) fun t9 =>
      zLet ((1 : Int32)) fun v11 =>
      (v11, t9)
set_option maxRecDepth 100000 in
noncomputable def F_X11_months (a0 : Nat) (p1 : Int32) (σ : zS) : Int32 × zS :=
  zLet (F_X11_isLong p1) fun v1 =>
  if v1.toInt = 0 then
    zLet ((-1 : Int32)) fun v16 =>
    (v16, σ)
  else
    if p1.toInt = 0 then
      zLet ((σ.2.2 a0 48).getD 0) fun v13 =>
      zLet ((48 : Int32)) fun v14 =>
      zLet (σ.1 v13 v14.toNatClampNeg) fun v15 =>
      (v15, σ)
    else
      zLet (F_X11_copies a0  σ) fun t4 =>
      zLet (F_X11_goes a0 p1 t4) fun t6 =>
      zLet (F_X11_records a0  t6) fun t8 =>
      zLet ((t8.2.2 a0 48).getD 0) fun v10 =>
      zLet ((48 : Int32)) fun v11 =>
      zLet (t8.1 v10 v11.toNatClampNeg) fun v12 =>
      (v12, t8)
set_option maxRecDepth 100000 in
noncomputable def F_X11_undo_21 (a0 : Nat)  : Nat → Int32 → zS → Int32 × zS
  | 0, _, s => (0, s)
  | n + 1, x10, τ11 =>
    zLet ((50 : Int32)) fun v12 =>
    if x10.toInt < v12.toInt then
      zLet ((τ11.2.2 a0 48).getD 0) fun v15 =>
      zLet ((τ11.2.2 a0 58).getD 0) fun v16 =>
      zLet ((50 : Int32)) fun v17 =>
      zLet (τ11.1 a0 57) fun v18 =>
      zLet (v17 * v18) fun v19 =>
      zLet (v19 + x10) fun v20 =>
      zLet (τ11.1 v16 v20.toNatClampNeg) fun v21 =>
      zLet ((zu τ11.1 v15 x10.toNatClampNeg v21, τ11.2.1, τ11.2.2)) fun s22 =>
      zLet (x10 + (1 : Int32)) fun v25 =>
      F_X11_undo_21 a0  n v25 s22
    else
      zLet ((1 : Int32)) fun v14 =>
      (v14, τ11)
set_option maxRecDepth 100000 in
noncomputable def F_X11_undo (a0 : Nat) (σ : zS) : Int32 × zS :=
  zLet (σ.1 a0 57) fun v1 =>
  if v1.toInt = 0 then
    zLet ((0 : Int32)) fun v26 =>
    (v26, σ)
  else
    zLet (σ.1 a0 57) fun v3 =>
    zLet ((1 : Int32)) fun v4 =>
    zLet (v3 - v4) fun v5 =>
    zLet ((zu σ.1 a0 57 v5, σ.2.1, σ.2.2)) fun s6 =>
    zLet ((0 : Int32)) fun v9 =>
    F_X11_undo_21 a0  10000 v9 s6
set_option maxRecDepth 100000 in
noncomputable def F_X11_agree_17 (a0 : Nat) (p1 : Int32)  : Nat → Int32 → Int32 → zS → Int32 × zS
  | 0, _, _, s => (0, s)
  | n + 1, x7, x8, τ9 =>
    if x7.toInt < p1.toInt then
      zLet ((0 : Int32)) fun v13 =>
      zLet2 (F_X11_winnerBy a0 v13 τ9) fun v15 t14 =>
      if v15.toInt < 0 then
        zLet (F_X11_monthGoes a0  t14) fun t18 =>
        zLet (x7 + (1 : Int32)) fun v20 =>
        F_X11_agree_17 a0 p1  n v20 x8 t18
      else
        zLet ((1 : Int32)) fun v21 =>
        zLet2 (F_X11_winnerBy a0 v21 t14) fun v23 t22 =>
        if v23.toInt = v15.toInt then
          zLet ((2 : Int32)) fun v29 =>
          zLet2 (F_X11_winnerBy a0 v29 t22) fun v31 t30 =>
          if v31.toInt = v15.toInt then
            zLet (x8 + (1 : Int32)) fun v37 =>
            zLet (F_X11_monthGoes a0  t30) fun t38 =>
            zLet (x7 + (1 : Int32)) fun v40 =>
            F_X11_agree_17 a0 p1  n v40 v37 t38
          else
            zLet (F_X11_monthGoes a0  t30) fun t34 =>
            zLet (x7 + (1 : Int32)) fun v36 =>
            F_X11_agree_17 a0 p1  n v36 x8 t34
        else
          zLet (F_X11_monthGoes a0  t22) fun t26 =>
          zLet (x7 + (1 : Int32)) fun v28 =>
          F_X11_agree_17 a0 p1  n v28 x8 t26
    else
      (x8, τ9)
set_option maxRecDepth 100000 in
noncomputable def F_X11_agree (a0 : Nat) (p1 : Int32) (σ : zS) : Int32 × zS :=
  zLet (F_X11_isSome p1) fun v1 =>
  if v1.toInt = 0 then
    zLet ((-1 : Int32)) fun v41 =>
    (v41, σ)
  else
    zLet (F_X11_copiesStill a0  σ) fun t3 =>
    zLet ((0 : Int32)) fun v5 =>
    zLet ((0 : Int32)) fun v6 =>
    F_X11_agree_17 a0 p1  4294967299 v6 v5 t3
set_option maxRecDepth 100000 in
noncomputable def F_X11_behind (a0 : Nat) (p1 : Int32) (p2 : Int32) (σ : zS) : Int32 × zS :=
  zLet2 (F_X11_isClaim a0 p1 p2 σ) fun v2 t1 =>
  if v2.toInt = 0 then
    zLet ((-1 : Int32)) fun v15 =>
    (v15, t1)
  else
    zLet2 (F_X11_winnerBy a0 p2 t1) fun v6 t5 =>
    zLet2 (F_X11_claimOf a0 v6 p2 t5) fun v9 t8 =>
    zLet2 (F_X11_claimOf a0 p1 p2 t8) fun v12 t11 =>
    zLet (v9 - v12) fun v14 =>
    (v14, t11)
set_option maxRecDepth 100000 in
noncomputable def F_X11_margin_25 (v6 : Int32) (a0 : Nat) (p1 : Int32)  : Nat → Int32 → Int32 → zS → Int32 × zS
  | 0, _, _, s => (0, s)
  | n + 1, x10, x11, τ12 =>
    zLet (F_X11_many a0  τ12) fun v14 =>
    if x10.toInt < v14.toInt then
      if x10.toInt = v6.toInt then
        zLet (x10 + (1 : Int32)) fun v23 =>
        F_X11_margin_25 v6 a0 p1  n v23 x11 τ12
      else
        zLet (F_X11_isSource a0 x10 τ12) fun v25 =>
        if v25.toInt = 0 then
          zLet (x10 + (1 : Int32)) fun v27 =>
          F_X11_margin_25 v6 a0 p1  n v27 x11 τ12
        else
          zLet2 (F_X11_claimOf a0 x10 p1 τ12) fun v29 t28 =>
          if x11.toInt < v29.toInt then
            zLet2 (F_X11_claimOf a0 x10 p1 t28) fun v36 t35 =>
            zLet (x10 + (1 : Int32)) fun v38 =>
            F_X11_margin_25 v6 a0 p1  n v38 v36 t35
          else
            zLet (x10 + (1 : Int32)) fun v34 =>
            F_X11_margin_25 v6 a0 p1  n v34 x11 t28
    else
      if x11.toInt < 0 then
        zLet ((-2 : Int32)) fun v21 =>
        (v21, τ12)
      else
        zLet2 (F_X11_claimOf a0 v6 p1 τ12) fun v18 t17 =>
        zLet (v18 - x11) fun v20 =>
        (v20, t17)
set_option maxRecDepth 100000 in
noncomputable def F_X11_margin (a0 : Nat) (p1 : Int32) (σ : zS) : Int32 × zS :=
  zLet (F_X11_isLaw p1) fun v1 =>
  if v1.toInt = 0 then
    zLet ((-1 : Int32)) fun v39 =>
    (v39, σ)
  else
    zLet (F_X11_copies a0  σ) fun t3 =>
    zLet2 (F_X11_winnerBy a0 p1 t3) fun v6 t5 =>
    zLet ((-2 : Int32)) fun v8 =>
    zLet ((1 : Int32)) fun v9 =>
    F_X11_margin_25 v6 a0 p1  10000 v9 v8 t5
set_option maxRecDepth 100000 in
noncomputable def F_X11_richest_16 (a0 : Nat) (p1 : Int32) (σ : zS)  : Nat → Int32 → Int32 → Int32
  | 0, _, _ => 0
  | n + 1, x7, x8 =>
    zLet (F_X11_many a0  σ) fun v11 =>
    if x7.toInt < v11.toInt then
      zLet ((σ.2.2 a0 48).getD 0) fun v19 =>
      zLet ((36 : Int32)) fun v20 =>
      zLet (v20 + x7) fun v21 =>
      zLet (σ.1 v19 v21.toNatClampNeg) fun v22 =>
      if x8.toInt < 0 then
        zLet ((0 : Int32)) fun v33 =>
        if v33.toInt < v22.toInt then
          zLet (x7 + (1 : Int32)) fun v37 =>
          F_X11_richest_16 a0 p1 σ  n v37 x7
        else
          zLet (x7 + (1 : Int32)) fun v36 =>
          F_X11_richest_16 a0 p1 σ  n v36 x8
      else
        zLet ((σ.2.2 a0 48).getD 0) fun v24 =>
        zLet ((36 : Int32)) fun v25 =>
        zLet (v25 + x8) fun v26 =>
        zLet (σ.1 v24 v26.toNatClampNeg) fun v27 =>
        if v27.toInt < v22.toInt then
          zLet (x7 + (1 : Int32)) fun v32 =>
          F_X11_richest_16 a0 p1 σ  n v32 x7
        else
          zLet (x7 + (1 : Int32)) fun v31 =>
          F_X11_richest_16 a0 p1 σ  n v31 x8
    else
      if x8.toInt < 0 then
        x8
      else
        if p1.toInt = 0 then
          x8
        else
          zLet ((σ.2.2 a0 48).getD 0) fun v15 =>
          zLet ((36 : Int32)) fun v16 =>
          zLet (v16 + x8) fun v17 =>
          zLet (σ.1 v15 v17.toNatClampNeg) fun v18 =>
          v18
set_option maxRecDepth 100000 in
noncomputable def F_X11_richest (a0 : Nat) (p1 : Int32) (σ : zS) : Int32 :=
  zLet ((0 : Int32)) fun v1 =>
  zLet ((1 : Int32)) fun v2 =>
  zLet (F_X11_in p1 v1 v2) fun v3 =>
  if v3.toInt = 0 then
    zLet ((-1 : Int32)) fun v38 =>
    v38
  else
    zLet ((-2 : Int32)) fun v5 =>
    zLet ((1 : Int32)) fun v6 =>
    F_X11_richest_16 a0 p1 σ  10000 v6 v5
set_option maxRecDepth 100000 in
noncomputable def F_X11_rankOf_13 (v3 : Int32) (a0 : Nat) (p1 : Int32) (p2 : Int32)  : Nat → Int32 → Int32 → zS → Int32 × zS
  | 0, _, _, s => (0, s)
  | n + 1, x6, x7, τ8 =>
    zLet (F_X11_many a0  τ8) fun v10 =>
    if x6.toInt < v10.toInt then
      if x6.toInt = p1.toInt then
        zLet (x6 + (1 : Int32)) fun v13 =>
        F_X11_rankOf_13 v3 a0 p1 p2  n v13 x7 τ8
      else
        zLet (F_X11_isSource a0 x6 τ8) fun v15 =>
        if v15.toInt = 0 then
          zLet (x6 + (1 : Int32)) fun v31 =>
          F_X11_rankOf_13 v3 a0 p1 p2  n v31 x7 τ8
        else
          zLet2 (F_X11_claimOf a0 x6 p2 τ8) fun v18 t17 =>
          if v3.toInt < v18.toInt then
            zLet (x7 + (1 : Int32)) fun v23 =>
            zLet (x6 + (1 : Int32)) fun v24 =>
            F_X11_rankOf_13 v3 a0 p1 p2  n v24 v23 t17
          else
            if v18.toInt = v3.toInt then
              if x6.toInt < p1.toInt then
                zLet (x7 + (1 : Int32)) fun v29 =>
                zLet (x6 + (1 : Int32)) fun v30 =>
                F_X11_rankOf_13 v3 a0 p1 p2  n v30 v29 t17
              else
                zLet (x6 + (1 : Int32)) fun v28 =>
                F_X11_rankOf_13 v3 a0 p1 p2  n v28 x7 t17
            else
              zLet (x6 + (1 : Int32)) fun v26 =>
              F_X11_rankOf_13 v3 a0 p1 p2  n v26 x7 t17
    else
      (x7, τ8)
set_option maxRecDepth 100000 in
noncomputable def F_X11_rankOf (a0 : Nat) (p1 : Int32) (p2 : Int32) (σ : zS) : Int32 × zS :=
  zLet ((0 : Int32)) fun v1 =>
  zLet2 (F_X11_claimOf a0 p1 p2 σ) fun v3 t2 =>
  zLet ((1 : Int32)) fun v5 =>
  F_X11_rankOf_13 v3 a0 p1 p2  10000 v5 v1 t2
set_option maxRecDepth 100000 in
noncomputable def F_X11_rank (a0 : Nat) (p1 : Int32) (p2 : Int32) (σ : zS) : Int32 × zS :=
  zLet2 (F_X11_isClaim a0 p1 p2 σ) fun v2 t1 =>
  if v2.toInt = 0 then
    zLet ((-1 : Int32)) fun v5 =>
    (v5, t1)
  else
    zLet2 (F_X11_rankOf a0 p1 p2 t1) fun v7 t6 =>
    (v7, t6)
set_option maxRecDepth 100000 in
noncomputable def F_X11_vote_122 (a0 : Nat) (p1 : Int32) (kLp12 : Int32 → zS → Int32 × zS) (kLp17 : Int32 → zS → Int32 × zS) : Nat → Int32 → Int32 → zS → Int32 × zS
  | 0, _, _, s => (0, s)
  | n + 1, x23, x24, τ25 =>
    zLet ((3 : Int32)) fun v26 =>
    if x23.toInt < v26.toInt then
      zLet ((τ25.2.2 a0 59).getD 0) fun v31 =>
      zLet (τ25.1 v31 x23.toNatClampNeg) fun v32 =>
      zLet ((τ25.2.2 a0 59).getD 0) fun v33 =>
      zLet (τ25.1 v33 x24.toNatClampNeg) fun v34 =>
      if v34.toInt < v32.toInt then
        zLet (x23 + (1 : Int32)) fun v39 =>
        F_X11_vote_122 a0 p1 kLp12 kLp17 n v39 x23 τ25
      else
        zLet (x23 + (1 : Int32)) fun v38 =>
        F_X11_vote_122 a0 p1 kLp12 kLp17 n v38 x24 τ25
    else
      if p1.toInt = 0 then
        (x24, τ25)
      else
        zLet ((τ25.2.2 a0 59).getD 0) fun v29 =>
        zLet (τ25.1 v29 x24.toNatClampNeg) fun v30 =>
        (v30, τ25)
set_option maxRecDepth 100000 in
noncomputable def F_X11_vote_71 (x16 : Int32) (a0 : Nat) (p1 : Int32) (kLp12 : Int32 → zS → Int32 × zS) (kLp17 : Int32 → zS → Int32 × zS) : Nat → Int32 → Int32 → zS → Int32 × zS
  | 0, _, _, s => (0, s)
  | n + 1, x45, x46, τ47 =>
    zLet ((3 : Int32)) fun v48 =>
    if x45.toInt < v48.toInt then
      zLet2 (F_X11_rankOf a0 x16 x45 τ47) fun v58 t57 =>
      zLet2 (F_X11_rankOf a0 x16 x46 t57) fun v61 t60 =>
      if v58.toInt < v61.toInt then
        zLet (x45 + (1 : Int32)) fun v67 =>
        F_X11_vote_71 x16 a0 p1 kLp12 kLp17 n v67 x45 t60
      else
        zLet (x45 + (1 : Int32)) fun v66 =>
        F_X11_vote_71 x16 a0 p1 kLp12 kLp17 n v66 x46 t60
    else
      zLet ((τ47.2.2 a0 59).getD 0) fun v50 =>
      zLet (τ47.1 v50 x46.toNatClampNeg) fun v51 =>
      zLet ((1 : Int32)) fun v52 =>
      zLet (v51 + v52) fun v53 =>
      zLet ((zu τ47.1 v50 x46.toNatClampNeg v53, τ47.2.1, τ47.2.2)) fun s54 =>
      zLet (x16 + (1 : Int32)) fun v56 =>
      kLp17 v56 s54
set_option maxRecDepth 100000 in
noncomputable def F_X11_vote_47 (a0 : Nat) (p1 : Int32) (kLp12 : Int32 → zS → Int32 × zS) : Nat → Int32 → zS → Int32 × zS
  | 0, _, s => (0, s)
  | n + 1, x16, τ17 =>
    zLet (F_X11_many a0  τ17) fun v19 =>
    if x16.toInt < v19.toInt then
      zLet (F_X11_isSource a0 x16 τ17) fun v41 =>
      if v41.toInt = 0 then
        zLet (x16 + (1 : Int32)) fun v68 =>
        F_X11_vote_47 a0 p1 kLp12 n v68 τ17
      else
        zLet ((0 : Int32)) fun v43 =>
        zLet ((1 : Int32)) fun v44 =>
        F_X11_vote_71 x16 a0 p1 kLp12 (F_X11_vote_47 a0 p1 kLp12 n) 10000 v44 v43 τ17
    else
      zLet ((0 : Int32)) fun v21 =>
      zLet ((1 : Int32)) fun v22 =>
      F_X11_vote_122 a0 p1 kLp12 (F_X11_vote_47 a0 p1 kLp12 n) 10000 v22 v21 τ17
set_option maxRecDepth 100000 in
noncomputable def F_X11_vote_27 (a0 : Nat) (p1 : Int32)  : Nat → Int32 → zS → Int32 × zS
  | 0, _, s => (0, s)
  | n + 1, x11, τ12 =>
    zLet ((3 : Int32)) fun v13 =>
    if x11.toInt < v13.toInt then
      zLet ((τ12.2.2 a0 59).getD 0) fun v69 =>
      zLet ((0 : Int32)) fun v70 =>
      zLet ((zu τ12.1 v69 x11.toNatClampNeg v70, τ12.2.1, τ12.2.2)) fun s71 =>
      zLet (x11 + (1 : Int32)) fun v73 =>
      F_X11_vote_27 a0 p1  n v73 s71
    else
      zLet ((1 : Int32)) fun v15 =>
      F_X11_vote_47 a0 p1 (F_X11_vote_27 a0 p1  n) 10000 v15 τ12
set_option maxRecDepth 100000 in
noncomputable def F_X11_vote (a0 : Nat) (p1 : Int32) (σ : zS) : Int32 × zS :=
  zLet ((0 : Int32)) fun v1 =>
  zLet ((1 : Int32)) fun v2 =>
  zLet (F_X11_in p1 v1 v2) fun v3 =>
  if v3.toInt = 0 then
    zLet ((-1 : Int32)) fun v75 =>
    (v75, σ)
  else
    zLet (F_X11_copies a0  σ) fun t5 =>
    zLet (F_X11_sourceBits a0  t5) fun v8 =>
    if v8.toInt = 0 then
      zLet ((-2 : Int32)) fun v74 =>
      (v74, t5)
    else
      zLet ((0 : Int32)) fun v10 =>
      F_X11_vote_27 a0 p1  10000 v10 t5
set_option maxRecDepth 100000 in
noncomputable def F_X11_damsAll_6 (a0 : Nat) (p1 : Int32)  : Nat → Int32 → zS → zS
  | 0, _, s => s
  | n + 1, x4, τ5 =>
    zLet (F_X11_many a0  τ5) fun v7 =>
    if x4.toInt < v7.toInt then
      zLet (p1 >>> (x4 &&& 31)) fun v12 =>
      zLet ((1 : Int32)) fun v13 =>
      zLet (v12 &&& v13) fun v14 =>
      zLet ((1 : Int32)) fun v15 =>
      if v14.toInt = v15.toInt then
        zLet ((τ5.2.2 a0 49).getD 0) fun v18 =>
        zLet ((12 : Int32)) fun v19 =>
        zLet (v19 + x4) fun v20 =>
        zLet ((1 : Int32)) fun v21 =>
        zLet ((zu τ5.1 v18 v20.toNatClampNeg v21, τ5.2.1, τ5.2.2)) fun s22 =>
        zLet (x4 + (1 : Int32)) fun v24 =>
        F_X11_damsAll_6 a0 p1  n v24 s22
      else
        zLet (x4 + (1 : Int32)) fun v17 =>
        F_X11_damsAll_6 a0 p1  n v17 τ5
    else
      zLet ((0 : Int32)) fun v9 =>
      zLet (F_X11_fillsFlows a0 v9 τ5) fun t10 =>
      t10
set_option maxRecDepth 100000 in
noncomputable def F_X11_damsAll (a0 : Nat) (p1 : Int32) (σ : zS) : zS :=
  zLet (F_X11_copies a0  σ) fun t1 =>
  zLet ((1 : Int32)) fun v3 =>
  F_X11_damsAll_6 a0 p1  10000 v3 t1
set_option maxRecDepth 100000 in
noncomputable def F_X11_dams_40 (v15 : Int32) (a0 : Nat) (p1 : Int32) (p2 : Int32)  : Nat → Int32 → Int32 → zS → Int32 × zS
  | 0, _, _, s => (0, s)
  | n + 1, x18, x19, τ20 =>
    zLet ((1 : Int32)) fun v21 =>
    zLet (F_X11_many a0  τ20) fun v23 =>
    zLet (v21 <<< (v23 &&& 31)) fun v24 =>
    if x18.toInt < v24.toInt then
      zLet (F_X11_bits x18) fun v33 =>
      zLet ((3 : Int32)) fun v34 =>
      if v34.toInt < v33.toInt then
        zLet (x18 + (2 : Int32)) fun v37 =>
        F_X11_dams_40 v15 a0 p1 p2  n v37 x19 τ20
      else
        zLet (x18 &&& v15) fun v38 =>
        if v38.toInt = 0 then
          if x19.toInt < 0 then
            zLet (F_X11_damsAll a0 x18 τ20) fun t41 =>
            zLet ((t41.2.2 a0 55).getD 0) fun v43 =>
            zLet ((0 : Int32)) fun v44 =>
            zLet (t41.1 v43 v44.toNatClampNeg) fun v45 =>
            if p1.toInt < v45.toInt then
              zLet (x18 + (2 : Int32)) fun v49 =>
              F_X11_dams_40 v15 a0 p1 p2  n v49 x19 t41
            else
              zLet (x18 + (2 : Int32)) fun v50 =>
              F_X11_dams_40 v15 a0 p1 p2  n v50 x18 t41
          else
            zLet (F_X11_bits x18) fun v51 =>
            zLet (F_X11_bits x19) fun v52 =>
            if v52.toInt < v51.toInt then
              zLet (x18 + (2 : Int32)) fun v56 =>
              F_X11_dams_40 v15 a0 p1 p2  n v56 x19 τ20
            else
              zLet (F_X11_bits x18) fun v57 =>
              zLet (F_X11_bits x19) fun v58 =>
              if v57.toInt = v58.toInt then
                zLet (F_X11_isEarlier x18 x19) fun v70 =>
                if v70.toInt = 0 then
                  zLet (x18 + (2 : Int32)) fun v82 =>
                  F_X11_dams_40 v15 a0 p1 p2  n v82 x19 τ20
                else
                  zLet (F_X11_damsAll a0 x18 τ20) fun t72 =>
                  zLet ((t72.2.2 a0 55).getD 0) fun v74 =>
                  zLet ((0 : Int32)) fun v75 =>
                  zLet (t72.1 v74 v75.toNatClampNeg) fun v76 =>
                  if p1.toInt < v76.toInt then
                    zLet (x18 + (2 : Int32)) fun v80 =>
                    F_X11_dams_40 v15 a0 p1 p2  n v80 x19 t72
                  else
                    zLet (x18 + (2 : Int32)) fun v81 =>
                    F_X11_dams_40 v15 a0 p1 p2  n v81 x18 t72
              else
                zLet (F_X11_damsAll a0 x18 τ20) fun t60 =>
                zLet ((t60.2.2 a0 55).getD 0) fun v62 =>
                zLet ((0 : Int32)) fun v63 =>
                zLet (t60.1 v62 v63.toNatClampNeg) fun v64 =>
                if p1.toInt < v64.toInt then
                  zLet (x18 + (2 : Int32)) fun v68 =>
                  F_X11_dams_40 v15 a0 p1 p2  n v68 x19 t60
                else
                  zLet (x18 + (2 : Int32)) fun v69 =>
                  F_X11_dams_40 v15 a0 p1 p2  n v69 x18 t60
        else
          zLet (x18 + (2 : Int32)) fun v83 =>
          F_X11_dams_40 v15 a0 p1 p2  n v83 x19 τ20
    else
      if x19.toInt < 0 then
        zLet ((-2 : Int32)) fun v32 =>
        (v32, τ20)
      else
        zLet ((-1 : Int32)) fun v28 =>
        if p2.toInt = v28.toInt then
          zLet (F_X11_bits x19) fun v31 =>
          (v31, τ20)
        else
          zLet (F_X11_ithOf x19 p2) fun v30 =>
          (v30, τ20)
set_option maxRecDepth 100000 in
noncomputable def F_X11_dams (a0 : Nat) (p1 : Int32) (p2 : Int32) (σ : zS) : Int32 × zS :=
  zLet ((0 : Int32)) fun v1 =>
  zLet ((9999 : Int32)) fun v2 =>
  zLet (F_X11_in p1 v1 v2) fun v3 =>
  if v3.toInt = 0 then
    zLet ((-1 : Int32)) fun v5 =>
    (v5, σ)
  else
    zLet ((-1 : Int32)) fun v6 =>
    zLet ((2 : Int32)) fun v7 =>
    zLet (F_X11_in p2 v6 v7) fun v8 =>
    if v8.toInt = 0 then
      zLet ((-1 : Int32)) fun v10 =>
      (v10, σ)
    else
      zLet (F_X11_many a0  σ) fun v12 =>
      if v12.toInt = 0 then
        zLet ((-1 : Int32)) fun v84 =>
        (v84, σ)
      else
        zLet (F_X11_dammedBits a0  σ) fun v15 =>
        zLet ((-1 : Int32)) fun v16 =>
        zLet ((0 : Int32)) fun v17 =>
        F_X11_dams_40 v15 a0 p1 p2  10000 v17 v16 σ
set_option maxRecDepth 100000 in
noncomputable def F_X11_lossOf (a0 : Nat) (p1 : Int32) (σ : zS) : Int32 × zS :=
  zLet (F_X11_copies a0  σ) fun t1 =>
  zLet ((t1.2.2 a0 55).getD 0) fun v3 =>
  zLet ((0 : Int32)) fun v4 =>
  zLet (t1.1 v3 v4.toNatClampNeg) fun v5 =>
  zLet ((1 : Int32)) fun v6 =>
  zLet (v6 <<< (p1 &&& 31)) fun v7 =>
  zLet (F_X11_damsAll a0 v7 t1) fun t8 =>
  zLet ((t8.2.2 a0 55).getD 0) fun v10 =>
  zLet ((0 : Int32)) fun v11 =>
  zLet (t8.1 v10 v11.toNatClampNeg) fun v12 =>
  zLet (v5 - v12) fun v13 =>
  (v13, t8)
set_option maxRecDepth 100000 in
noncomputable def F_X11_loss (a0 : Nat) (p1 : Int32) (σ : zS) : Int32 × zS :=
  zLet (F_X11_isBeside a0 p1 σ) fun v2 =>
  if v2.toInt = 0 then
    zLet ((-1 : Int32)) fun v4 =>
    (v4, σ)
  else
    zLet2 (F_X11_lossOf a0 p1 σ) fun v6 t5 =>
    (v6, t5)
set_option maxRecDepth 100000 in
noncomputable def F_X11_part (a0 : Nat) (p1 : Int32) (σ : zS) : Int32 × zS :=
  zLet (F_X11_isBeside a0 p1 σ) fun v2 =>
  if v2.toInt = 0 then
    zLet ((-1 : Int32)) fun v20 =>
    (v20, σ)
  else
    zLet2 (F_X11_lossOf a0 p1 σ) fun v5 t4 =>
    zLet (F_X11_copies a0  t4) fun t7 =>
    zLet ((t7.2.2 a0 55).getD 0) fun v9 =>
    zLet ((0 : Int32)) fun v10 =>
    zLet (t7.1 v9 v10.toNatClampNeg) fun v11 =>
    if v11.toInt = 0 then
      zLet ((0 : Int32)) fun v19 =>
      (v19, t7)
    else
      zLet ((1000 : Int32)) fun v13 =>
      zLet (v13 * v5) fun v14 =>
      zLet ((t7.2.2 a0 55).getD 0) fun v15 =>
      zLet ((0 : Int32)) fun v16 =>
      zLet (t7.1 v15 v16.toNatClampNeg) fun v17 =>
      zLet (v14 / v17) fun v18 =>
      (v18, t7)
set_option maxRecDepth 100000 in
noncomputable def F_X11_main_32 (x10 : Int32) (x11 : Int32) (a0 : Nat) (p1 : Int32) (kLp12 : Int32 → Int32 → zS → Int32 × zS) : Nat → Int32 → Int32 → zS → Int32 × zS
  | 0, _, _, s => (0, s)
  | n + 1, x18, x19, τ20 =>
    zLet (F_X11_many a0  τ20) fun v22 =>
    if x18.toInt < v22.toInt then
      zLet ((τ20.2.2 a0 49).getD 0) fun v27 =>
      zLet (τ20.1 v27 x18.toNatClampNeg) fun v28 =>
      if v28.toInt = x11.toInt then
        if x19.toInt < 0 then
          zLet (x18 + (1 : Int32)) fun v32 =>
          F_X11_main_32 x10 x11 a0 p1 kLp12 n v32 x18 τ20
        else
          zLet ((τ20.2.2 a0 55).getD 0) fun v33 =>
          zLet (τ20.1 v33 x18.toNatClampNeg) fun v34 =>
          zLet ((τ20.2.2 a0 55).getD 0) fun v35 =>
          zLet (τ20.1 v35 x19.toNatClampNeg) fun v36 =>
          if v36.toInt < v34.toInt then
            zLet (x18 + (1 : Int32)) fun v41 =>
            F_X11_main_32 x10 x11 a0 p1 kLp12 n v41 x18 τ20
          else
            zLet (x18 + (1 : Int32)) fun v40 =>
            F_X11_main_32 x10 x11 a0 p1 kLp12 n v40 x19 τ20
      else
        zLet (x18 + (1 : Int32)) fun v30 =>
        F_X11_main_32 x10 x11 a0 p1 kLp12 n v30 x19 τ20
    else
      if x19.toInt < 0 then
        zLet ((-1 : Int32)) fun v26 =>
        (v26, τ20)
      else
        zLet (x10 + (1 : Int32)) fun v25 =>
        kLp12 v25 x19 τ20
set_option maxRecDepth 100000 in
noncomputable def F_X11_main_21 (a0 : Nat) (p1 : Int32)  : Nat → Int32 → Int32 → zS → Int32 × zS
  | 0, _, _, s => (0, s)
  | n + 1, x10, x11, τ12 =>
    if x10.toInt < p1.toInt then
      zLet ((-1 : Int32)) fun v16 =>
      zLet ((1 : Int32)) fun v17 =>
      F_X11_main_32 x10 x11 a0 p1 (F_X11_main_21 a0 p1  n) 10000 v17 v16 τ12
    else
      (x11, τ12)
set_option maxRecDepth 100000 in
noncomputable def F_X11_main (a0 : Nat) (p1 : Int32) (σ : zS) : Int32 × zS :=
  if p1.toInt < 0 then
    zLet ((-1 : Int32)) fun v2 =>
    (v2, σ)
  else
    zLet (F_X11_many a0  σ) fun v4 =>
    if v4.toInt = 0 then
      zLet ((-1 : Int32)) fun v42 =>
      (v42, σ)
    else
      zLet (F_X11_copies a0  σ) fun t6 =>
      zLet ((0 : Int32)) fun v8 =>
      zLet ((0 : Int32)) fun v9 =>
      F_X11_main_21 a0 p1  4294967299 v9 v8 t6
set_option maxRecDepth 100000 in
noncomputable def F_X11_driest_37 (a0 : Nat) (p1 : Int32) (p2 : Int32)  : Nat → Int32 → Int32 → Int32 → zS → Int32 × zS
  | 0, _, _, _, s => (0, s)
  | n + 1, x17, x18, x19, τ20 =>
    if x17.toInt < p1.toInt then
      if x19.toInt < 0 then
        zLet ((τ20.2.2 a0 55).getD 0) fun v26 =>
        zLet ((0 : Int32)) fun v27 =>
        zLet (τ20.1 v26 v27.toNatClampNeg) fun v28 =>
        zLet (F_X11_monthGoes a0  τ20) fun t29 =>
        zLet (x17 + (1 : Int32)) fun v31 =>
        F_X11_driest_37 a0 p1 p2  n v31 v28 x17 t29
      else
        zLet ((τ20.2.2 a0 55).getD 0) fun v32 =>
        zLet ((0 : Int32)) fun v33 =>
        zLet (τ20.1 v32 v33.toNatClampNeg) fun v34 =>
        if v34.toInt < x18.toInt then
          zLet ((τ20.2.2 a0 55).getD 0) fun v41 =>
          zLet ((0 : Int32)) fun v42 =>
          zLet (τ20.1 v41 v42.toNatClampNeg) fun v43 =>
          zLet (F_X11_monthGoes a0  τ20) fun t44 =>
          zLet (x17 + (1 : Int32)) fun v46 =>
          F_X11_driest_37 a0 p1 p2  n v46 v43 x17 t44
        else
          zLet (F_X11_monthGoes a0  τ20) fun t38 =>
          zLet (x17 + (1 : Int32)) fun v40 =>
          F_X11_driest_37 a0 p1 p2  n v40 x18 x19 t38
    else
      if p2.toInt = 0 then
        (x19, τ20)
      else
        (x18, τ20)
set_option maxRecDepth 100000 in
noncomputable def F_X11_driest (a0 : Nat) (p1 : Int32) (p2 : Int32) (σ : zS) : Int32 × zS :=
  zLet (F_X11_isSome p1) fun v1 =>
  if v1.toInt = 0 then
    zLet ((-1 : Int32)) fun v3 =>
    (v3, σ)
  else
    zLet ((0 : Int32)) fun v4 =>
    zLet ((1 : Int32)) fun v5 =>
    zLet (F_X11_in p2 v4 v5) fun v6 =>
    if v6.toInt = 0 then
      zLet ((-1 : Int32)) fun v8 =>
      (v8, σ)
    else
      zLet (F_X11_many a0  σ) fun v10 =>
      if v10.toInt = 0 then
        zLet ((-1 : Int32)) fun v47 =>
        (v47, σ)
      else
        zLet (F_X11_copiesStill a0  σ) fun t12 =>
        zLet ((-1 : Int32)) fun v14 =>
        zLet ((0 : Int32)) fun v15 =>
        zLet ((0 : Int32)) fun v16 =>
        F_X11_driest_37 a0 p1 p2  4294967299 v16 v15 v14 t12
set_option maxRecDepth 100000 in
noncomputable def F_X11_winsTurned (a0 : Nat) (p1 : Int32) (p2 : Int32) (p3 : Int32) (p4 : Int32) (σ : zS) : Int32 × zS :=
  zLet (F_X11_copies a0  σ) fun t1 =>
  if p3.toInt = p1.toInt then
    zLet ((0 : Int32)) fun v4 =>
    (v4, t1)
  else
    if p4.toInt = p1.toInt then
      zLet ((0 : Int32)) fun v6 =>
      (v6, t1)
    else
      zLet (F_X11_canTurn a0 p3 p4 t1) fun v8 =>
      if v8.toInt = 0 then
        zLet ((0 : Int32)) fun v24 =>
        (v24, t1)
      else
        zLet ((t1.2.2 a0 49).getD 0) fun v10 =>
        zLet ((zu t1.1 v10 p3.toNatClampNeg p4, t1.2.1, t1.2.2)) fun s11 =>
        zLet (F_X11_fillsWays a0  s11) fun t13 =>
        zLet ((0 : Int32)) fun v15 =>
        zLet (F_X11_fillsFlows a0 v15 t13) fun t16 =>
        zLet2 (F_X11_winnerBy a0 p2 t16) fun v19 t18 =>
        if v19.toInt = p1.toInt then
          zLet ((1 : Int32)) fun v23 =>
          (v23, t18)
        else
          zLet ((0 : Int32)) fun v22 =>
          (v22, t18)
set_option maxRecDepth 100000 in
noncomputable def F_X11_turnFor_24 (x6 : Int32) (a0 : Nat) (p1 : Int32) (p2 : Int32) (kLp7 : Int32 → zS → Int32 × zS) : Nat → Int32 → zS → Int32 × zS
  | 0, _, s => (0, s)
  | n + 1, x13, τ14 =>
    zLet (F_X11_many a0  τ14) fun v16 =>
    if x13.toInt < v16.toInt then
      zLet2 (F_X11_winsTurned a0 p1 p2 x6 x13 τ14) fun v20 t19 =>
      if v20.toInt = 0 then
        zLet (x13 + (1 : Int32)) fun v23 =>
        F_X11_turnFor_24 x6 a0 p1 p2 kLp7 n v23 t19
      else
        zLet ((100 : Int32)) fun v24 =>
        zLet (v24 * x6) fun v25 =>
        zLet (v25 + x13) fun v26 =>
        (v26, t19)
    else
      zLet (x6 + (1 : Int32)) fun v18 =>
      kLp7 v18 τ14
set_option maxRecDepth 100000 in
noncomputable def F_X11_turnFor_13 (a0 : Nat) (p1 : Int32) (p2 : Int32)  : Nat → Int32 → zS → Int32 × zS
  | 0, _, s => (0, s)
  | n + 1, x6, τ7 =>
    zLet (F_X11_many a0  τ7) fun v9 =>
    if x6.toInt < v9.toInt then
      zLet ((0 : Int32)) fun v12 =>
      F_X11_turnFor_24 x6 a0 p1 p2 (F_X11_turnFor_13 a0 p1 p2  n) 10000 v12 τ7
    else
      zLet ((-2 : Int32)) fun v11 =>
      (v11, τ7)
set_option maxRecDepth 100000 in
noncomputable def F_X11_turnFor (a0 : Nat) (p1 : Int32) (p2 : Int32) (σ : zS) : Int32 × zS :=
  zLet2 (F_X11_isClaim a0 p1 p2 σ) fun v2 t1 =>
  if v2.toInt = 0 then
    zLet ((-1 : Int32)) fun v27 =>
    (v27, t1)
  else
    zLet ((1 : Int32)) fun v5 =>
    F_X11_turnFor_13 a0 p1 p2  10000 v5 t1
set_option maxRecDepth 100000 in
noncomputable def F_X11_damFor_13 (a0 : Nat) (p1 : Int32) (p2 : Int32)  : Nat → Int32 → zS → Int32 × zS
  | 0, _, s => (0, s)
  | n + 1, x6, τ7 =>
    zLet (F_X11_many a0  τ7) fun v9 =>
    if x6.toInt < v9.toInt then
      zLet ((τ7.2.2 a0 48).getD 0) fun v12 =>
      zLet ((12 : Int32)) fun v13 =>
      zLet (v13 + x6) fun v14 =>
      zLet (τ7.1 v12 v14.toNatClampNeg) fun v15 =>
      zLet ((1 : Int32)) fun v16 =>
      if v15.toInt = v16.toInt then
        zLet (x6 + (1 : Int32)) fun v27 =>
        F_X11_damFor_13 a0 p1 p2  n v27 τ7
      else
        zLet ((1 : Int32)) fun v18 =>
        zLet (v18 <<< (x6 &&& 31)) fun v19 =>
        zLet (F_X11_damsAll a0 v19 τ7) fun t20 =>
        zLet2 (F_X11_winnerBy a0 p2 t20) fun v23 t22 =>
        if v23.toInt = p1.toInt then
          (x6, t22)
        else
          zLet (x6 + (1 : Int32)) fun v26 =>
          F_X11_damFor_13 a0 p1 p2  n v26 t22
    else
      zLet ((-2 : Int32)) fun v11 =>
      (v11, τ7)
set_option maxRecDepth 100000 in
noncomputable def F_X11_damFor (a0 : Nat) (p1 : Int32) (p2 : Int32) (σ : zS) : Int32 × zS :=
  zLet2 (F_X11_isClaim a0 p1 p2 σ) fun v2 t1 =>
  if v2.toInt = 0 then
    zLet ((-1 : Int32)) fun v28 =>
    (v28, t1)
  else
    zLet ((1 : Int32)) fun v5 =>
    F_X11_damFor_13 a0 p1 p2  10000 v5 t1
set_option maxRecDepth 100000 in
noncomputable def F_X11_depth_8 (a0 : Nat)  : Nat → Int32 → Int32 → zS → Int32 × zS
  | 0, _, _, s => (0, s)
  | n + 1, x5, x6, τ7 =>
    zLet (F_X11_many a0  τ7) fun v9 =>
    if x5.toInt < v9.toInt then
      zLet (F_X11_isSource a0 x5 τ7) fun v12 =>
      if v12.toInt = 0 then
        zLet (x5 + (1 : Int32)) fun v14 =>
        F_X11_depth_8 a0  n v14 x6 τ7
      else
        zLet ((τ7.2.2 a0 53).getD 0) fun v15 =>
        zLet (τ7.1 v15 x5.toNatClampNeg) fun v16 =>
        zLet ((1 : Int32)) fun v17 =>
        zLet (v16 + v17) fun v18 =>
        if x6.toInt < v18.toInt then
          zLet ((τ7.2.2 a0 53).getD 0) fun v23 =>
          zLet (τ7.1 v23 x5.toNatClampNeg) fun v24 =>
          zLet ((1 : Int32)) fun v25 =>
          zLet (v24 + v25) fun v26 =>
          zLet (x5 + (1 : Int32)) fun v27 =>
          F_X11_depth_8 a0  n v27 v26 τ7
        else
          zLet (x5 + (1 : Int32)) fun v22 =>
          F_X11_depth_8 a0  n v22 x6 τ7
    else
      (x6, τ7)
set_option maxRecDepth 100000 in
noncomputable def F_X11_depth (a0 : Nat) (σ : zS) : Int32 × zS :=
  zLet (F_X11_copies a0  σ) fun t1 =>
  zLet ((0 : Int32)) fun v3 =>
  zLet ((1 : Int32)) fun v4 =>
  F_X11_depth_8 a0  10000 v4 v3 t1
set_option maxRecDepth 100000 in
noncomputable def F_X11_orderAt_7 (a0 : Nat) (p1 : Int32) (σ : zS)  : Nat → Int32 → Int32 → Int32 → Int32
  | 0, _, _, _ => 0
  | n + 1, x4, x5, x6 =>
    zLet (F_X11_many a0  σ) fun v9 =>
    if x4.toInt < v9.toInt then
      zLet ((σ.2.2 a0 49).getD 0) fun v18 =>
      zLet (σ.1 v18 x4.toNatClampNeg) fun v19 =>
      if v19.toInt = p1.toInt then
        zLet ((σ.2.2 a0 60).getD 0) fun v22 =>
        zLet (σ.1 v22 x4.toNatClampNeg) fun v23 =>
        if v23.toInt < x6.toInt then
          zLet (x4 + (1 : Int32)) fun v41 =>
          F_X11_orderAt_7 a0 p1 σ  n v41 x5 x6
        else
          zLet ((σ.2.2 a0 60).getD 0) fun v27 =>
          zLet (σ.1 v27 x4.toNatClampNeg) fun v28 =>
          if x6.toInt < v28.toInt then
            zLet ((1 : Int32)) fun v37 =>
            zLet ((σ.2.2 a0 60).getD 0) fun v38 =>
            zLet (σ.1 v38 x4.toNatClampNeg) fun v39 =>
            zLet (x4 + (1 : Int32)) fun v40 =>
            F_X11_orderAt_7 a0 p1 σ  n v40 v37 v39
          else
            zLet ((1 : Int32)) fun v32 =>
            zLet (x5 + v32) fun v33 =>
            zLet ((σ.2.2 a0 60).getD 0) fun v34 =>
            zLet (σ.1 v34 x4.toNatClampNeg) fun v35 =>
            zLet (x4 + (1 : Int32)) fun v36 =>
            F_X11_orderAt_7 a0 p1 σ  n v36 v33 v35
      else
        zLet (x4 + (1 : Int32)) fun v21 =>
        F_X11_orderAt_7 a0 p1 σ  n v21 x5 x6
    else
      if x6.toInt = 0 then
        zLet ((1 : Int32)) fun v17 =>
        v17
      else
        zLet ((1 : Int32)) fun v12 =>
        if v12.toInt < x5.toInt then
          zLet ((1 : Int32)) fun v15 =>
          zLet (x6 + v15) fun v16 =>
          v16
        else
          x6
set_option maxRecDepth 100000 in
noncomputable def F_X11_orderAt (a0 : Nat) (p1 : Int32) (σ : zS) : Int32 :=
  zLet ((0 : Int32)) fun v1 =>
  zLet ((0 : Int32)) fun v2 =>
  zLet ((1 : Int32)) fun v3 =>
  F_X11_orderAt_7 a0 p1 σ  10000 v3 v2 v1
set_option maxRecDepth 100000 in
noncomputable def F_X11_order_23 (x7 : Int32) (a0 : Nat) (p1 : Int32) (kLp8 : Int32 → zS → Int32 × zS) : Nat → Int32 → zS → Int32 × zS
  | 0, _, s => (0, s)
  | n + 1, x13, τ14 =>
    zLet (F_X11_many a0  τ14) fun v16 =>
    if x13.toInt < v16.toInt then
      zLet ((τ14.2.2 a0 53).getD 0) fun v19 =>
      zLet (τ14.1 v19 x13.toNatClampNeg) fun v20 =>
      if v20.toInt = x7.toInt then
        zLet ((τ14.2.2 a0 60).getD 0) fun v23 =>
        zLet (F_X11_orderAt a0 x13 τ14) fun v25 =>
        zLet ((zu τ14.1 v23 x13.toNatClampNeg v25, τ14.2.1, τ14.2.2)) fun s26 =>
        zLet (x13 + (1 : Int32)) fun v28 =>
        F_X11_order_23 x7 a0 p1 kLp8 n v28 s26
      else
        zLet (x13 + (1 : Int32)) fun v22 =>
        F_X11_order_23 x7 a0 p1 kLp8 n v22 τ14
    else
      zLet (x7 + (-1 : Int32)) fun v18 =>
      kLp8 v18 τ14
set_option maxRecDepth 100000 in
noncomputable def F_X11_order_17 (a0 : Nat) (p1 : Int32)  : Nat → Int32 → zS → Int32 × zS
  | 0, _, s => (0, s)
  | n + 1, x7, τ8 =>
    if x7.toInt < 0 then
      zLet ((τ8.2.2 a0 60).getD 0) fun v10 =>
      zLet (τ8.1 v10 p1.toNatClampNeg) fun v11 =>
      (v11, τ8)
    else
      zLet ((0 : Int32)) fun v12 =>
      F_X11_order_23 x7 a0 p1 (F_X11_order_17 a0 p1  n) 10000 v12 τ8
set_option maxRecDepth 100000 in
noncomputable def F_X11_order (a0 : Nat) (p1 : Int32) (σ : zS) : Int32 × zS :=
  zLet (F_X11_isPlace a0 p1 σ) fun v2 =>
  if v2.toInt = 0 then
    zLet ((-1 : Int32)) fun v29 =>
    (v29, σ)
  else
    zLet (F_X11_copies a0  σ) fun t4 =>
    zLet ((11 : Int32)) fun v6 =>
    F_X11_order_17 a0 p1  10000 v6 t4
set_option maxRecDepth 100000 in
noncomputable def F_X11_basin_39 (a0 : Nat) (p1 : Int32) (p2 : Int32)  : Nat → Int32 → Int32 → zS → Int32 × zS
  | 0, _, _, s => (0, s)
  | n + 1, x14, x15, τ16 =>
    zLet (F_X11_many a0  τ16) fun v18 =>
    if x14.toInt < v18.toInt then
      zLet ((τ16.2.2 a0 54).getD 0) fun v20 =>
      zLet (τ16.1 v20 p1.toNatClampNeg) fun v21 =>
      zLet (v21 >>> (x14 &&& 31)) fun v22 =>
      zLet ((1 : Int32)) fun v23 =>
      zLet (v22 &&& v23) fun v24 =>
      zLet ((1 : Int32)) fun v25 =>
      if v24.toInt = v25.toInt then
        zLet2 (F_X11_rainsAt a0 x14 τ16) fun v29 t28 =>
        zLet (x15 + v29) fun v31 =>
        zLet (x14 + (1 : Int32)) fun v32 =>
        F_X11_basin_39 a0 p1 p2  n v32 v31 t28
      else
        zLet (x14 + (1 : Int32)) fun v27 =>
        F_X11_basin_39 a0 p1 p2  n v27 x15 τ16
    else
      (x15, τ16)
set_option maxRecDepth 100000 in
noncomputable def F_X11_basin (a0 : Nat) (p1 : Int32) (p2 : Int32) (σ : zS) : Int32 × zS :=
  zLet (F_X11_isPlace a0 p1 σ) fun v2 =>
  if v2.toInt = 0 then
    zLet ((-1 : Int32)) fun v4 =>
    (v4, σ)
  else
    zLet ((0 : Int32)) fun v5 =>
    zLet ((1 : Int32)) fun v6 =>
    zLet (F_X11_in p2 v5 v6) fun v7 =>
    if v7.toInt = 0 then
      zLet ((-1 : Int32)) fun v35 =>
      (v35, σ)
    else
      zLet (F_X11_copies a0  σ) fun t9 =>
      if p2.toInt = 0 then
        zLet ((t9.2.2 a0 54).getD 0) fun v33 =>
        zLet (t9.1 v33 p1.toNatClampNeg) fun v34 =>
        (v34, t9)
      else
        zLet ((0 : Int32)) fun v12 =>
        zLet ((0 : Int32)) fun v13 =>
        F_X11_basin_39 a0 p1 p2  10000 v13 v12 t9
set_option maxRecDepth 100000 in
noncomputable def F_X11_reign_105 (a0 : Nat) (p1 : Int32) (p2 : Int32) (p3 : Int32) (kLp15 : Int32 → zS → Int32 × zS) (kLp20 : Int32 → zS → Int32 × zS) : Nat → Int32 → Int32 → Int32 → zS → Int32 × zS
  | 0, _, _, _, s => (0, s)
  | n + 1, x27, x28, x29, τ30 =>
    zLet (F_X11_many a0  τ30) fun v32 =>
    if x27.toInt < v32.toInt then
      zLet ((τ30.2.2 a0 61).getD 0) fun v35 =>
      zLet (τ30.1 v35 x27.toNatClampNeg) fun v36 =>
      if v36.toInt = 0 then
        zLet (x27 + (1 : Int32)) fun v50 =>
        F_X11_reign_105 a0 p1 p2 p3 kLp15 kLp20 n v50 x28 x29 τ30
      else
        zLet (x29 + (1 : Int32)) fun v38 =>
        if x28.toInt < 0 then
          zLet (x27 + (1 : Int32)) fun v40 =>
          F_X11_reign_105 a0 p1 p2 p3 kLp15 kLp20 n v40 x27 v38 τ30
        else
          zLet ((τ30.2.2 a0 61).getD 0) fun v41 =>
          zLet (τ30.1 v41 x27.toNatClampNeg) fun v42 =>
          zLet ((τ30.2.2 a0 61).getD 0) fun v43 =>
          zLet (τ30.1 v43 x28.toNatClampNeg) fun v44 =>
          if v44.toInt < v42.toInt then
            zLet (x27 + (1 : Int32)) fun v49 =>
            F_X11_reign_105 a0 p1 p2 p3 kLp15 kLp20 n v49 x27 v38 τ30
          else
            zLet (x27 + (1 : Int32)) fun v48 =>
            F_X11_reign_105 a0 p1 p2 p3 kLp15 kLp20 n v48 x28 v38 τ30
    else
      if p3.toInt = 0 then
        (x29, τ30)
      else
        (x28, τ30)
set_option maxRecDepth 100000 in
noncomputable def F_X11_reign_56 (a0 : Nat) (p1 : Int32) (p2 : Int32) (p3 : Int32) (kLp15 : Int32 → zS → Int32 × zS) : Nat → Int32 → zS → Int32 × zS
  | 0, _, s => (0, s)
  | n + 1, x19, τ20 =>
    if x19.toInt < p2.toInt then
      zLet2 (F_X11_winnerBy a0 p1 τ20) fun v52 t51 =>
      if v52.toInt < 0 then
        zLet (F_X11_monthGoes a0  t51) fun t55 =>
        zLet (x19 + (1 : Int32)) fun v57 =>
        F_X11_reign_56 a0 p1 p2 p3 kLp15 n v57 t55
      else
        zLet ((t51.2.2 a0 61).getD 0) fun v58 =>
        zLet (t51.1 v58 v52.toNatClampNeg) fun v59 =>
        zLet ((1 : Int32)) fun v60 =>
        zLet (v59 + v60) fun v61 =>
        zLet ((zu t51.1 v58 v52.toNatClampNeg v61, t51.2.1, t51.2.2)) fun s62 =>
        zLet (F_X11_monthGoes a0  s62) fun t64 =>
        zLet (x19 + (1 : Int32)) fun v66 =>
        F_X11_reign_56 a0 p1 p2 p3 kLp15 n v66 t64
    else
      zLet ((0 : Int32)) fun v24 =>
      zLet ((-2 : Int32)) fun v25 =>
      zLet ((1 : Int32)) fun v26 =>
      F_X11_reign_105 a0 p1 p2 p3 kLp15 (F_X11_reign_56 a0 p1 p2 p3 kLp15 n) 10000 v26 v25 v24 τ20
set_option maxRecDepth 100000 in
noncomputable def F_X11_reign_32 (a0 : Nat) (p1 : Int32) (p2 : Int32) (p3 : Int32)  : Nat → Int32 → zS → Int32 × zS
  | 0, _, s => (0, s)
  | n + 1, x14, τ15 =>
    zLet ((12 : Int32)) fun v16 =>
    if x14.toInt < v16.toInt then
      zLet ((τ15.2.2 a0 61).getD 0) fun v67 =>
      zLet ((0 : Int32)) fun v68 =>
      zLet ((zu τ15.1 v67 x14.toNatClampNeg v68, τ15.2.1, τ15.2.2)) fun s69 =>
      zLet (x14 + (1 : Int32)) fun v71 =>
      F_X11_reign_32 a0 p1 p2 p3  n v71 s69
    else
      zLet ((0 : Int32)) fun v18 =>
      F_X11_reign_56 a0 p1 p2 p3 (F_X11_reign_32 a0 p1 p2 p3  n) 4294967299 v18 τ15
set_option maxRecDepth 100000 in
noncomputable def F_X11_reign (a0 : Nat) (p1 : Int32) (p2 : Int32) (p3 : Int32) (σ : zS) : Int32 × zS :=
  zLet (F_X11_isLaw p1) fun v1 =>
  if v1.toInt = 0 then
    zLet ((-1 : Int32)) fun v3 =>
    (v3, σ)
  else
    zLet (F_X11_isSome p2) fun v4 =>
    if v4.toInt = 0 then
      zLet ((-1 : Int32)) fun v6 =>
      (v6, σ)
    else
      zLet ((0 : Int32)) fun v7 =>
      zLet ((1 : Int32)) fun v8 =>
      zLet (F_X11_in p3 v7 v8) fun v9 =>
      if v9.toInt = 0 then
        zLet ((-1 : Int32)) fun v72 =>
        (v72, σ)
      else
        zLet (F_X11_copiesStill a0  σ) fun t11 =>
        zLet ((0 : Int32)) fun v13 =>
        F_X11_reign_32 a0 p1 p2 p3  10000 v13 t11
set_option maxRecDepth 100000 in
noncomputable def F_X11_tourOf_7 (a0 : Nat) (p1 : Int32) (σ : zS)  : Nat → Int32 → Int32 → Int32 → Int32
  | 0, _, _, _ => 0
  | n + 1, x4, x5, x6 =>
    zLet (F_X11_many a0  σ) fun v9 =>
    if x4.toInt < v9.toInt then
      zLet ((σ.2.2 a0 54).getD 0) fun v14 =>
      zLet (σ.1 v14 x4.toNatClampNeg) fun v15 =>
      zLet (v15 &&& p1) fun v16 =>
      if v16.toInt = 0 then
        zLet (p1 >>> (x4 &&& 31)) fun v18 =>
        zLet ((1 : Int32)) fun v19 =>
        zLet (v18 &&& v19) fun v20 =>
        zLet ((1 : Int32)) fun v21 =>
        if v20.toInt = v21.toInt then
          zLet ((σ.2.2 a0 52).getD 0) fun v24 =>
          zLet (σ.1 v24 x4.toNatClampNeg) fun v25 =>
          if x5.toInt < v25.toInt then
            zLet ((σ.2.2 a0 52).getD 0) fun v30 =>
            zLet (σ.1 v30 x4.toNatClampNeg) fun v31 =>
            zLet (x4 + (1 : Int32)) fun v32 =>
            F_X11_tourOf_7 a0 p1 σ  n v32 v31 x6
          else
            zLet (x4 + (1 : Int32)) fun v29 =>
            F_X11_tourOf_7 a0 p1 σ  n v29 x5 x6
        else
          zLet (x4 + (1 : Int32)) fun v23 =>
          F_X11_tourOf_7 a0 p1 σ  n v23 x5 x6
      else
        zLet ((σ.2.2 a0 23).getD 0) fun v33 =>
        zLet ((12 : Int32)) fun v34 =>
        zLet (σ.1 a0 18) fun v35 =>
        zLet (v34 * v35) fun v36 =>
        zLet (v36 + x4) fun v37 =>
        zLet (σ.1 v33 v37.toNatClampNeg) fun v38 =>
        zLet (x6 + v38) fun v39 =>
        zLet (p1 >>> (x4 &&& 31)) fun v40 =>
        zLet ((1 : Int32)) fun v41 =>
        zLet (v40 &&& v41) fun v42 =>
        zLet ((1 : Int32)) fun v43 =>
        if v42.toInt = v43.toInt then
          zLet ((σ.2.2 a0 52).getD 0) fun v46 =>
          zLet (σ.1 v46 x4.toNatClampNeg) fun v47 =>
          if x5.toInt < v47.toInt then
            zLet ((σ.2.2 a0 52).getD 0) fun v52 =>
            zLet (σ.1 v52 x4.toNatClampNeg) fun v53 =>
            zLet (x4 + (1 : Int32)) fun v54 =>
            F_X11_tourOf_7 a0 p1 σ  n v54 v53 v39
          else
            zLet (x4 + (1 : Int32)) fun v51 =>
            F_X11_tourOf_7 a0 p1 σ  n v51 x5 v39
        else
          zLet (x4 + (1 : Int32)) fun v45 =>
          F_X11_tourOf_7 a0 p1 σ  n v45 x5 v39
    else
      zLet ((2 : Int32)) fun v11 =>
      zLet (v11 * x6) fun v12 =>
      zLet (v12 - x5) fun v13 =>
      v13
set_option maxRecDepth 100000 in
noncomputable def F_X11_tourOf (a0 : Nat) (p1 : Int32) (σ : zS) : Int32 :=
  zLet ((0 : Int32)) fun v1 =>
  zLet ((0 : Int32)) fun v2 =>
  zLet ((1 : Int32)) fun v3 =>
  F_X11_tourOf_7 a0 p1 σ  10000 v3 v2 v1
set_option maxRecDepth 100000 in
noncomputable def F_X11_tour (a0 : Nat) (σ : zS) : Int32 × zS :=
  zLet (F_X11_copies a0  σ) fun t1 =>
  zLet (F_X11_sourceBits a0  t1) fun v4 =>
  zLet (F_X11_tourOf a0 v4 t1) fun v6 =>
  (v6, t1)
set_option maxRecDepth 100000 in
noncomputable def F_X11_parted_17 (v4 : Int32) (a0 : Nat)  : Nat → Int32 → Int32 → zS → Int32 × zS
  | 0, _, _, s => (0, s)
  | n + 1, x8, x9, τ10 =>
    if v4.toInt < x8.toInt then
      (x9, τ10)
    else
      zLet ((-1 : Int32)) fun v12 =>
      zLet (v4 ^^^ v12) fun v13 =>
      zLet (x8 &&& v13) fun v14 =>
      if v14.toInt = 0 then
        zLet (F_X11_tourOf a0 x8 τ10) fun v17 =>
        zLet ((-1 : Int32)) fun v18 =>
        zLet (x8 ^^^ v18) fun v19 =>
        zLet (v4 &&& v19) fun v20 =>
        zLet (F_X11_tourOf a0 v20 τ10) fun v22 =>
        if v17.toInt < v22.toInt then
          if v22.toInt < x9.toInt then
            zLet (x8 + (2 : Int32)) fun v35 =>
            F_X11_parted_17 v4 a0  n v35 v22 τ10
          else
            zLet (x8 + (2 : Int32)) fun v34 =>
            F_X11_parted_17 v4 a0  n v34 x9 τ10
        else
          if v17.toInt < x9.toInt then
            zLet (x8 + (2 : Int32)) fun v30 =>
            F_X11_parted_17 v4 a0  n v30 v17 τ10
          else
            zLet (x8 + (2 : Int32)) fun v29 =>
            F_X11_parted_17 v4 a0  n v29 x9 τ10
      else
        zLet (x8 + (2 : Int32)) fun v36 =>
        F_X11_parted_17 v4 a0  n v36 x9 τ10
set_option maxRecDepth 100000 in
noncomputable def F_X11_parted (a0 : Nat) (σ : zS) : Int32 × zS :=
  zLet (F_X11_copies a0  σ) fun t1 =>
  zLet (F_X11_sourceBits a0  t1) fun v4 =>
  zLet (F_X11_tourOf a0 v4 t1) fun v6 =>
  zLet ((0 : Int32)) fun v7 =>
  F_X11_parted_17 v4 a0  10000 v7 v6 t1
set_option maxRecDepth 100000 in
noncomputable def F_X11_meet_34 (a0 : Nat) (p1 : Int32) (p2 : Int32) (p3 : Int32)  : Nat → Int32 → zS → Int32 × zS
  | 0, _, s => (0, s)
  | n + 1, x15, τ16 =>
    zLet ((τ16.2.2 a0 54).getD 0) fun v17 =>
    zLet (τ16.1 v17 x15.toNatClampNeg) fun v18 =>
    zLet (v18 >>> (p2 &&& 31)) fun v19 =>
    zLet ((1 : Int32)) fun v20 =>
    zLet (v19 &&& v20) fun v21 =>
    if v21.toInt = 0 then
      zLet ((τ16.2.2 a0 49).getD 0) fun v34 =>
      zLet (τ16.1 v34 x15.toNatClampNeg) fun v35 =>
      F_X11_meet_34 a0 p1 p2 p3  n v35 τ16
    else
      if p3.toInt = 0 then
        (x15, τ16)
      else
        zLet ((τ16.2.2 a0 52).getD 0) fun v24 =>
        zLet (τ16.1 v24 p1.toNatClampNeg) fun v25 =>
        zLet ((τ16.2.2 a0 52).getD 0) fun v26 =>
        zLet (τ16.1 v26 p2.toNatClampNeg) fun v27 =>
        zLet (v25 + v27) fun v28 =>
        zLet ((2 : Int32)) fun v29 =>
        zLet ((τ16.2.2 a0 52).getD 0) fun v30 =>
        zLet (τ16.1 v30 x15.toNatClampNeg) fun v31 =>
        zLet (v29 * v31) fun v32 =>
        zLet (v28 - v32) fun v33 =>
        (v33, τ16)
set_option maxRecDepth 100000 in
noncomputable def F_X11_meet (a0 : Nat) (p1 : Int32) (p2 : Int32) (p3 : Int32) (σ : zS) : Int32 × zS :=
  zLet (F_X11_isPlace a0 p1 σ) fun v2 =>
  if v2.toInt = 0 then
    zLet ((-1 : Int32)) fun v4 =>
    (v4, σ)
  else
    zLet (F_X11_isPlace a0 p2 σ) fun v6 =>
    if v6.toInt = 0 then
      zLet ((-1 : Int32)) fun v8 =>
      (v8, σ)
    else
      zLet ((0 : Int32)) fun v9 =>
      zLet ((1 : Int32)) fun v10 =>
      zLet (F_X11_in p3 v9 v10) fun v11 =>
      if v11.toInt = 0 then
        zLet ((-1 : Int32)) fun v36 =>
        (v36, σ)
      else
        zLet (F_X11_copies a0  σ) fun t13 =>
        F_X11_meet_34 a0 p1 p2 p3  10000 p1 t13
set_option maxRecDepth 100000 in
noncomputable def F_X11_when_18 (a0 : Nat) (p1 : Int32)  : Nat → Int32 → zS → Int32 × zS
  | 0, _, s => (0, s)
  | n + 1, x11, τ12 =>
    zLet ((60 : Int32)) fun v13 =>
    if v13.toInt < x11.toInt then
      zLet ((-2 : Int32)) fun v15 =>
      (v15, τ12)
    else
      zLet (F_X11_monthGoes a0  τ12) fun t16 =>
      zLet (t16.1 a0 56) fun v18 =>
      if v18.toInt = p1.toInt then
        (x11, t16)
      else
        zLet (x11 + (1 : Int32)) fun v20 =>
        F_X11_when_18 a0 p1  n v20 t16
set_option maxRecDepth 100000 in
noncomputable def F_X11_when (a0 : Nat) (p1 : Int32) (σ : zS) : Int32 × zS :=
  zLet ((0 : Int32)) fun v1 =>
  zLet2 (F_X11_isClaim a0 p1 v1 σ) fun v3 t2 =>
  if v3.toInt = 0 then
    zLet ((-1 : Int32)) fun v21 =>
    (v21, t2)
  else
    zLet ((1 : Int32)) fun v6 =>
    zLet ((zu t2.1 a0 51 v6, t2.2.1, t2.2.2)) fun s7 =>
    zLet ((1 : Int32)) fun v10 =>
    F_X11_when_18 a0 p1  10000 v10 s7
set_option maxRecDepth 100000 in
noncomputable def F_X11_then (a0 : Nat) (p1 : Int32) (p2 : Int32) (p3 : Int32) (σ : zS) : Int32 × zS :=
  zLet (F_X11_isLong p2) fun v1 =>
  if v1.toInt = 0 then
    zLet ((-1 : Int32)) fun v3 =>
    (v3, σ)
  else
    zLet ((0 : Int32)) fun v4 =>
    zLet ((1 : Int32)) fun v5 =>
    zLet (F_X11_in p3 v4 v5) fun v6 =>
    if v6.toInt = 0 then
      zLet ((-1 : Int32)) fun v8 =>
      (v8, σ)
    else
      zLet ((0 : Int32)) fun v9 =>
      zLet2 (F_X11_isClaim a0 p1 v9 σ) fun v11 t10 =>
      if v11.toInt = 0 then
        zLet ((-1 : Int32)) fun v23 =>
        (v23, t10)
      else
        zLet (F_X11_goes a0 p2 t10) fun t14 =>
        zLet ((t14.2.2 a0 49).getD 0) fun v16 =>
        zLet ((24 : Int32)) fun v17 =>
        zLet ((12 : Int32)) fun v18 =>
        zLet (v18 * p3) fun v19 =>
        zLet (v17 + v19) fun v20 =>
        zLet (v20 + p1) fun v21 =>
        zLet (t14.1 v16 v21.toNatClampNeg) fun v22 =>
        (v22, t14)
set_option maxRecDepth 100000 in
noncomputable def F_X11_flowIn (a0 : Nat) (p1 : Int32) (σ : zS) : Int32 × zS :=
  zLet (F_X11_isLong p1) fun v1 =>
  if v1.toInt = 0 then
    zLet ((-1 : Int32)) fun v3 =>
    (v3, σ)
  else
    zLet (F_X11_many a0  σ) fun v5 =>
    if v5.toInt = 0 then
      zLet ((-1 : Int32)) fun v14 =>
      (v14, σ)
    else
      zLet (F_X11_copies a0  σ) fun t7 =>
      zLet (F_X11_goes a0 p1 t7) fun t9 =>
      zLet ((t9.2.2 a0 55).getD 0) fun v11 =>
      zLet ((0 : Int32)) fun v12 =>
      zLet (t9.1 v11 v12.toNatClampNeg) fun v13 =>
      (v13, t9)
set_option maxRecDepth 100000 in
noncomputable def F_X11_hasWonMost_2 (a0 : Nat) (p1 : Int32) (σ : zS)  : Nat → Int32 → Int32
  | 0, _ => 0
  | n + 1, x2 =>
    zLet (F_X11_many a0  σ) fun v5 =>
    if x2.toInt < v5.toInt then
      if x2.toInt = p1.toInt then
        zLet (x2 + (1 : Int32)) fun v9 =>
        F_X11_hasWonMost_2 a0 p1 σ  n v9
      else
        zLet ((σ.2.2 a0 49).getD 0) fun v10 =>
        zLet ((24 : Int32)) fun v11 =>
        zLet (v11 + x2) fun v12 =>
        zLet (σ.1 v10 v12.toNatClampNeg) fun v13 =>
        zLet ((σ.2.2 a0 49).getD 0) fun v14 =>
        zLet ((24 : Int32)) fun v15 =>
        zLet (v15 + p1) fun v16 =>
        zLet (σ.1 v14 v16.toNatClampNeg) fun v17 =>
        if v13.toInt < v17.toInt then
          zLet (x2 + (1 : Int32)) fun v21 =>
          F_X11_hasWonMost_2 a0 p1 σ  n v21
        else
          zLet ((0 : Int32)) fun v22 =>
          v22
    else
      zLet ((1 : Int32)) fun v7 =>
      v7
set_option maxRecDepth 100000 in
noncomputable def F_X11_hasWonMost (a0 : Nat) (p1 : Int32) (σ : zS) : Int32 :=
  zLet ((1 : Int32)) fun v1 =>
  F_X11_hasWonMost_2 a0 p1 σ  10000 v1
set_option maxRecDepth 100000 in
noncomputable def F_X11_year_34 (a0 : Nat) (p1 : Int32) (p2 : Int32) (p3 : Int32)  : Nat → Int32 → Int32 → zS → Int32 × zS
  | 0, _, _, s => (0, s)
  | n + 1, x16, x17, τ18 =>
    if x16.toInt < p3.toInt then
      zLet (F_X11_copies a0  τ18) fun t22 =>
      zLet (t22.1 a0 50) fun v24 =>
      zLet (v24 + x16) fun v25 =>
      zLet ((zu t22.1 a0 50 v25, t22.2.1, t22.2.2)) fun s26 =>
      zLet (F_X11_goes a0 p2 s26) fun t29 =>
      zLet (F_X11_hasWonMost a0 p1 t29) fun v33 =>
      if v33.toInt = 0 then
        zLet (x16 + (1 : Int32)) fun v35 =>
        F_X11_year_34 a0 p1 p2 p3  n v35 x17 t29
      else
        zLet (x17 + (1 : Int32)) fun v36 =>
        zLet (x16 + (1 : Int32)) fun v37 =>
        F_X11_year_34 a0 p1 p2 p3  n v37 v36 t29
    else
      (x17, τ18)
set_option maxRecDepth 100000 in
noncomputable def F_X11_year (a0 : Nat) (p1 : Int32) (p2 : Int32) (p3 : Int32) (σ : zS) : Int32 × zS :=
  zLet (F_X11_isLong p2) fun v1 =>
  if v1.toInt = 0 then
    zLet ((-1 : Int32)) fun v3 =>
    (v3, σ)
  else
    zLet ((1 : Int32)) fun v4 =>
    zLet ((20 : Int32)) fun v5 =>
    zLet (F_X11_in p3 v4 v5) fun v6 =>
    if v6.toInt = 0 then
      zLet ((-1 : Int32)) fun v8 =>
      (v8, σ)
    else
      zLet ((0 : Int32)) fun v9 =>
      zLet2 (F_X11_isClaim a0 p1 v9 σ) fun v11 t10 =>
      if v11.toInt = 0 then
        zLet ((-1 : Int32)) fun v38 =>
        (v38, t10)
      else
        zLet ((0 : Int32)) fun v14 =>
        zLet ((0 : Int32)) fun v15 =>
        F_X11_year_34 a0 p1 p2 p3  4294967299 v15 v14 t10
set_option maxRecDepth 100000 in
noncomputable def F_X11_tell (a0 : Nat) (p1 : Int32) (p2 : Int32) (p3 : Int32) (p4 : Int32) (σ : zS) : Int32 × zS :=
  zLet (σ.1 a0 62) fun v1 =>
  zLet ((20 : Int32)) fun v2 =>
  if v1.toInt = v2.toInt then
    zLet ((-1 : Int32)) fun v4 =>
    (v4, σ)
  else
    zLet (F_X11_isPlace a0 p1 σ) fun v6 =>
    if v6.toInt = 0 then
      zLet ((-1 : Int32)) fun v8 =>
      (v8, σ)
    else
      zLet ((0 : Int32)) fun v9 =>
      zLet ((9999 : Int32)) fun v10 =>
      zLet (F_X11_in p2 v9 v10) fun v11 =>
      if v11.toInt = 0 then
        zLet ((-1 : Int32)) fun v13 =>
        (v13, σ)
      else
        zLet ((9999 : Int32)) fun v14 =>
        zLet (F_X11_in p3 p2 v14) fun v15 =>
        if v15.toInt = 0 then
          zLet ((-1 : Int32)) fun v46 =>
          (v46, σ)
        else
          zLet ((σ.2.2 a0 63).getD 0) fun v17 =>
          zLet (σ.1 a0 62) fun v18 =>
          zLet ((zu σ.1 v17 v18.toNatClampNeg p1, σ.2.1, σ.2.2)) fun s19 =>
          zLet ((s19.2.2 a0 64).getD 0) fun v22 =>
          zLet (s19.1 a0 62) fun v23 =>
          zLet ((zu s19.1 v22 v23.toNatClampNeg p2, s19.2.1, s19.2.2)) fun s24 =>
          zLet ((s24.2.2 a0 65).getD 0) fun v27 =>
          zLet (s24.1 a0 62) fun v28 =>
          zLet ((zu s24.1 v27 v28.toNatClampNeg p3, s24.2.1, s24.2.2)) fun s29 =>
          zLet ((s29.2.2 a0 66).getD 0) fun v32 =>
          zLet (s29.1 a0 62) fun v33 =>
          zLet ((zu s29.1 v32 v33.toNatClampNeg (vp_nar .boolean p4), s29.2.1, s29.2.2)) fun s34 =>
          zLet (s34.1 a0 62) fun v37 =>
          zLet ((1 : Int32)) fun v38 =>
          zLet (v37 + v38) fun v39 =>
          zLet ((zu s34.1 a0 62 v39, s34.2.1, s34.2.2)) fun s40 =>
          zLet (s40.1 a0 62) fun v43 =>
          zLet ((1 : Int32)) fun v44 =>
          zLet (v43 - v44) fun v45 =>
          (v45, s40)
set_option maxRecDepth 100000 in
noncomputable def F_X11_comesBy (a0 : Nat) (p1 : Int32) (p2 : Int32) (σ : zS) : Int32 :=
  zLet ((σ.2.2 a0 63).getD 0) fun v1 =>
  zLet (σ.1 v1 p2.toNatClampNeg) fun v2 =>
  zLet ((σ.2.2 a0 54).getD 0) fun v3 =>
  zLet (σ.1 v3 v2.toNatClampNeg) fun v4 =>
  zLet (v4 >>> (p1 &&& 31)) fun v5 =>
  zLet ((1 : Int32)) fun v6 =>
  zLet (v5 &&& v6) fun v7 =>
  zLet ((1 : Int32)) fun v8 =>
  if v7.toInt = v8.toInt then
    zLet ((σ.2.2 a0 52).getD 0) fun v11 =>
    zLet (σ.1 v11 p1.toNatClampNeg) fun v12 =>
    zLet ((σ.2.2 a0 52).getD 0) fun v13 =>
    zLet (σ.1 v13 v2.toNatClampNeg) fun v14 =>
    zLet (v12 - v14) fun v15 =>
    zLet ((σ.2.2 a0 64).getD 0) fun v16 =>
    zLet (σ.1 v16 p2.toNatClampNeg) fun v17 =>
    zLet ((σ.2.2 a0 65).getD 0) fun v18 =>
    zLet (σ.1 v18 p2.toNatClampNeg) fun v19 =>
    zLet (F_X11_in v15 v17 v19) fun v20 =>
    if v20.toInt = 0 then
      zLet ((0 : Int32)) fun v22 =>
      v22
    else
      zLet ((1 : Int32)) fun v23 =>
      v23
  else
    zLet ((0 : Int32)) fun v10 =>
    v10
set_option maxRecDepth 100000 in
noncomputable def F_X11_dyedBits_26 (x5 : Int32) (x6 : Int32) (a0 : Nat) (p1 : Int32) (kLp7 : Int32 → Int32 → zS → Int32 × zS) : Nat → Int32 → Int32 → zS → Int32 × zS
  | 0, _, _, s => (0, s)
  | n + 1, x14, x15, τ16 =>
    if x14.toInt < p1.toInt then
      if x15.toInt = 0 then
        if x15.toInt = 0 then
          zLet (x5 + (1 : Int32)) fun v26 =>
          kLp7 v26 x6 τ16
        else
          (0, τ16)
      else
        zLet (F_X11_comesBy a0 x5 x14 τ16) fun v28 =>
        zLet ((τ16.2.2 a0 66).getD 0) fun v29 =>
        zLet (τ16.1 v29 x14.toNatClampNeg) fun v30 =>
        if v28.toInt = v30.toInt then
          zLet ((1 : Int32)) fun v34 =>
          zLet (x14 + (1 : Int32)) fun v35 =>
          F_X11_dyedBits_26 x5 x6 a0 p1 kLp7 n v35 v34 τ16
        else
          zLet ((0 : Int32)) fun v32 =>
          zLet (x14 + (1 : Int32)) fun v33 =>
          F_X11_dyedBits_26 x5 x6 a0 p1 kLp7 n v33 v32 τ16
    else
      if x15.toInt = 0 then
        zLet (x5 + (1 : Int32)) fun v19 =>
        kLp7 v19 x6 τ16
      else
        zLet ((1 : Int32)) fun v20 =>
        zLet (v20 <<< (x5 &&& 31)) fun v21 =>
        zLet (x6 ||| v21) fun v22 =>
        zLet (x5 + (1 : Int32)) fun v23 =>
        kLp7 v23 v22 τ16
set_option maxRecDepth 100000 in
noncomputable def F_X11_dyedBits_8 (a0 : Nat) (p1 : Int32)  : Nat → Int32 → Int32 → zS → Int32 × zS
  | 0, _, _, s => (0, s)
  | n + 1, x5, x6, τ7 =>
    zLet (F_X11_many a0  τ7) fun v9 =>
    if x5.toInt < v9.toInt then
      zLet (F_X11_isSource a0 x5 τ7) fun v12 =>
      zLet ((0 : Int32)) fun v13 =>
      F_X11_dyedBits_26 x5 x6 a0 p1 (F_X11_dyedBits_8 a0 p1  n) 10000 v13 v12 τ7
    else
      (x6, τ7)
set_option maxRecDepth 100000 in
noncomputable def F_X11_dyedBits (a0 : Nat) (p1 : Int32) (σ : zS) : Int32 × zS :=
  zLet (F_X11_copies a0  σ) fun t1 =>
  zLet ((0 : Int32)) fun v3 =>
  zLet ((1 : Int32)) fun v4 =>
  F_X11_dyedBits_8 a0 p1  10000 v4 v3 t1
set_option maxRecDepth 100000 in
noncomputable def F_X11_dyed (a0 : Nat) (p1 : Int32) (p2 : Int32) (σ : zS) : Int32 × zS :=
  zLet ((0 : Int32)) fun v1 =>
  zLet (σ.1 a0 62) fun v2 =>
  zLet (F_X11_in p1 v1 v2) fun v3 =>
  if v3.toInt = 0 then
    zLet ((-1 : Int32)) fun v5 =>
    (v5, σ)
  else
    zLet ((0 : Int32)) fun v6 =>
    zLet ((1 : Int32)) fun v7 =>
    zLet (F_X11_in p2 v6 v7) fun v8 =>
    if v8.toInt = 0 then
      zLet ((-1 : Int32)) fun v16 =>
      (v16, σ)
    else
      zLet2 (F_X11_dyedBits a0 p1 σ) fun v11 t10 =>
      if p2.toInt = 0 then
        zLet (F_X11_bits v11) fun v15 =>
        (v15, t10)
      else
        (v11, t10)
set_option maxRecDepth 100000 in
noncomputable def F_X11_watch_29 (v6 : Int32) (a0 : Nat) (p1 : Int32)  : Nat → Int32 → Int32 → Int32 → zS → Int32 × zS
  | 0, _, _, _, s => (0, s)
  | n + 1, x12, x13, x14, τ15 =>
    zLet (F_X11_many a0  τ15) fun v17 =>
    if x12.toInt < v17.toInt then
      if v6.toInt = 0 then
        (x14, τ15)
      else
        zLet ((τ15.2.2 a0 54).getD 0) fun v20 =>
        zLet (τ15.1 v20 x12.toNatClampNeg) fun v21 =>
        zLet (v6 &&& v21) fun v22 =>
        zLet (F_X11_bits v22) fun v23 =>
        zLet (F_X11_bits v6) fun v24 =>
        zLet (v24 - v23) fun v25 =>
        if v25.toInt < v23.toInt then
          if x14.toInt < 0 then
            zLet (x12 + (1 : Int32)) fun v39 =>
            F_X11_watch_29 v6 a0 p1  n v39 v23 x12 τ15
          else
            if v23.toInt < x13.toInt then
              zLet (x12 + (1 : Int32)) fun v43 =>
              F_X11_watch_29 v6 a0 p1  n v43 v23 x12 τ15
            else
              zLet (x12 + (1 : Int32)) fun v44 =>
              F_X11_watch_29 v6 a0 p1  n v44 x13 x14 τ15
        else
          zLet (F_X11_bits v6) fun v29 =>
          zLet (v29 - v23) fun v30 =>
          if x14.toInt < 0 then
            zLet (x12 + (1 : Int32)) fun v32 =>
            F_X11_watch_29 v6 a0 p1  n v32 v30 x12 τ15
          else
            if v30.toInt < x13.toInt then
              zLet (x12 + (1 : Int32)) fun v36 =>
              F_X11_watch_29 v6 a0 p1  n v36 v30 x12 τ15
            else
              zLet (x12 + (1 : Int32)) fun v37 =>
              F_X11_watch_29 v6 a0 p1  n v37 x13 x14 τ15
    else
      (x14, τ15)
set_option maxRecDepth 100000 in
noncomputable def F_X11_watch (a0 : Nat) (p1 : Int32) (σ : zS) : Int32 × zS :=
  zLet ((0 : Int32)) fun v1 =>
  zLet (σ.1 a0 62) fun v2 =>
  zLet (F_X11_in p1 v1 v2) fun v3 =>
  if v3.toInt = 0 then
    zLet ((-1 : Int32)) fun v45 =>
    (v45, σ)
  else
    zLet2 (F_X11_dyedBits a0 p1 σ) fun v6 t5 =>
    zLet ((-2 : Int32)) fun v9 =>
    zLet ((0 : Int32)) fun v10 =>
    zLet ((0 : Int32)) fun v11 =>
    F_X11_watch_29 v6 a0 p1  10000 v11 v10 v9 t5
set_option maxRecDepth 100000 in
noncomputable def F_X11_count_150 (a0 : Nat) (p1 : Int32)  : Nat → Int32 → Int32 → zS → Int32 × zS
  | 0, _, _, s => (0, s)
  | n + 1, x37, x38, τ39 =>
    zLet (F_X11_many a0  τ39) fun v41 =>
    if x37.toInt < v41.toInt then
      zLet ((τ39.2.2 a0 49).getD 0) fun v43 =>
      zLet ((36 : Int32)) fun v44 =>
      zLet (v44 + x37) fun v45 =>
      zLet (τ39.1 v43 v45.toNatClampNeg) fun v46 =>
      zLet (x38 + v46) fun v47 =>
      zLet (x37 + (1 : Int32)) fun v48 =>
      F_X11_count_150 a0 p1  n v48 v47 τ39
    else
      (x38, τ39)
set_option maxRecDepth 100000 in
noncomputable def F_X11_count_253 (a0 : Nat) (p1 : Int32)  : Nat → Int32 → Int32 → zS → Int32 × zS
  | 0, _, _, s => (0, s)
  | n + 1, x118, x119, τ120 =>
    zLet (F_X11_many a0  τ120) fun v122 =>
    if x118.toInt < v122.toInt then
      zLet ((τ120.2.2 a0 23).getD 0) fun v124 =>
      zLet ((12 : Int32)) fun v125 =>
      zLet (τ120.1 a0 18) fun v126 =>
      zLet (v125 * v126) fun v127 =>
      zLet (v127 + x118) fun v128 =>
      zLet (τ120.1 v124 v128.toNatClampNeg) fun v129 =>
      zLet (x119 + v129) fun v130 =>
      zLet (x118 + (1 : Int32)) fun v131 =>
      F_X11_count_253 a0 p1  n v131 v130 τ120
    else
      (x119, τ120)
set_option maxRecDepth 100000 in
noncomputable def F_X11_count_288 (a0 : Nat) (p1 : Int32)  : Nat → Int32 → Int32 → zS → Int32 × zS
  | 0, _, _, s => (0, s)
  | n + 1, x134, x135, τ136 =>
    zLet (F_X11_many a0  τ136) fun v138 =>
    if x134.toInt < v138.toInt then
      zLet ((τ136.2.2 a0 49).getD 0) fun v140 =>
      zLet (τ136.1 v140 x134.toNatClampNeg) fun v141 =>
      zLet ((τ136.2.2 a0 22).getD 0) fun v142 =>
      zLet ((12 : Int32)) fun v143 =>
      zLet (τ136.1 a0 18) fun v144 =>
      zLet (v143 * v144) fun v145 =>
      zLet (v145 + x134) fun v146 =>
      zLet (τ136.1 v142 v146.toNatClampNeg) fun v147 =>
      if v141.toInt = v147.toInt then
        zLet (x134 + (1 : Int32)) fun v149 =>
        F_X11_count_288 a0 p1  n v149 x135 τ136
      else
        zLet ((1 : Int32)) fun v150 =>
        zLet (v150 <<< (x134 &&& 31)) fun v151 =>
        zLet (x135 ||| v151) fun v152 =>
        zLet (x134 + (1 : Int32)) fun v153 =>
        F_X11_count_288 a0 p1  n v153 v152 τ136
    else
      (x135, τ136)
set_option maxRecDepth 100000 in
noncomputable def F_X11_count_335 (a0 : Nat) (p1 : Int32)  : Nat → Int32 → Int32 → zS → Int32 × zS
  | 0, _, _, s => (0, s)
  | n + 1, x156, x157, τ158 =>
    zLet (F_X11_many a0  τ158) fun v160 =>
    if x156.toInt < v160.toInt then
      zLet ((τ158.2.2 a0 24).getD 0) fun v162 =>
      zLet ((12 : Int32)) fun v163 =>
      zLet (τ158.1 a0 18) fun v164 =>
      zLet (v163 * v164) fun v165 =>
      zLet (v165 + x156) fun v166 =>
      zLet (τ158.1 v162 v166.toNatClampNeg) fun v167 =>
      zLet (x157 + v167) fun v168 =>
      zLet (x156 + (1 : Int32)) fun v169 =>
      F_X11_count_335 a0 p1  n v169 v168 τ158
    else
      (x157, τ158)
set_option maxRecDepth 100000 in
noncomputable def F_X11_count_370 (a0 : Nat) (p1 : Int32)  : Nat → Int32 → Int32 → zS → Int32 × zS
  | 0, _, _, s => (0, s)
  | n + 1, x172, x173, τ174 =>
    zLet (F_X11_many a0  τ174) fun v176 =>
    if x172.toInt < v176.toInt then
      zLet ((τ174.2.2 a0 52).getD 0) fun v178 =>
      zLet (τ174.1 v178 x172.toNatClampNeg) fun v179 =>
      if x173.toInt < v179.toInt then
        zLet ((τ174.2.2 a0 52).getD 0) fun v184 =>
        zLet (τ174.1 v184 x172.toNatClampNeg) fun v185 =>
        zLet (x172 + (1 : Int32)) fun v186 =>
        F_X11_count_370 a0 p1  n v186 v185 τ174
      else
        zLet (x172 + (1 : Int32)) fun v183 =>
        F_X11_count_370 a0 p1  n v183 x173 τ174
    else
      (x173, τ174)
set_option maxRecDepth 100000 in
noncomputable def F_X11_count (a0 : Nat) (p1 : Int32) (σ : zS) : Int32 × zS :=
  zLet (F_X11_copies a0  σ) fun t1 =>
  zLet ((0 : Int32)) fun v3 =>
  if p1.toInt = 0 then
    zLet (F_X11_many a0  t1) fun v6 =>
    (v6, t1)
  else
    if p1.toInt = 1 then
      zLet ((t1.2.2 a0 49).getD 0) fun v8 =>
      zLet ((48 : Int32)) fun v9 =>
      zLet (t1.1 v8 v9.toNatClampNeg) fun v10 =>
      (v10, t1)
    else
      if p1.toInt = 2 then
        zLet ((t1.2.2 a0 49).getD 0) fun v12 =>
        zLet ((48 : Int32)) fun v13 =>
        zLet (t1.1 v12 v13.toNatClampNeg) fun v14 =>
        zLet ((12 : Int32)) fun v15 =>
        zLet (v14 - v14 / v15 * v15) fun v16 =>
        (v16, t1)
      else
        if p1.toInt = 3 then
          zLet ((t1.2.2 a0 49).getD 0) fun v18 =>
          zLet ((49 : Int32)) fun v19 =>
          zLet (t1.1 v18 v19.toNatClampNeg) fun v20 =>
          (v20, t1)
        else
          if p1.toInt = 4 then
            zLet (F_X11_sourceBits a0  t1) fun v23 =>
            (v23, t1)
          else
            if p1.toInt = 5 then
              zLet (F_X11_dammedBits a0  t1) fun v26 =>
              (v26, t1)
            else
              if p1.toInt = 6 then
                zLet (F_X11_many a0  t1) fun v29 =>
                if v29.toInt = 0 then
                  zLet ((0 : Int32)) fun v34 =>
                  (v34, t1)
                else
                  zLet ((t1.2.2 a0 55).getD 0) fun v31 =>
                  zLet ((0 : Int32)) fun v32 =>
                  zLet (t1.1 v31 v32.toNatClampNeg) fun v33 =>
                  (v33, t1)
              else
                if p1.toInt = 7 then
                  zLet ((1 : Int32)) fun v36 =>
                  F_X11_count_150 a0 p1  10000 v36 v3 t1
                else
                  if p1.toInt = 8 then
                    zLet (t1.1 a0 2) fun v50 =>
                    (v50, t1)
                  else
                    if p1.toInt = 9 then
                      zLet (t1.1 a0 57) fun v52 =>
                      (v52, t1)
                    else
                      if p1.toInt = 10 then
                        zLet (t1.1 a0 62) fun v54 =>
                        (v54, t1)
                      else
                        if p1.toInt = 11 then
                          zLet ((t1.2.2 a0 67).getD 0) fun v56 =>
                          zLet ((0 : Int32)) fun v57 =>
                          zLet (t1.1 v56 v57.toNatClampNeg) fun v58 =>
                          if v58.toInt = 0 then
                            zLet ((0 : Int32)) fun v60 =>
                            zLet ((t1.2.2 a0 67).getD 0) fun v61 =>
                            zLet ((1 : Int32)) fun v62 =>
                            zLet (t1.1 v61 v62.toNatClampNeg) fun v63 =>
                            if v63.toInt = 0 then
                              zLet ((0 : Int32)) fun v65 =>
                              zLet (v60 + v65) fun v66 =>
                              zLet ((t1.2.2 a0 67).getD 0) fun v67 =>
                              zLet ((2 : Int32)) fun v68 =>
                              zLet (t1.1 v67 v68.toNatClampNeg) fun v69 =>
                              if v69.toInt = 0 then
                                zLet ((0 : Int32)) fun v71 =>
                                zLet (v66 + v71) fun v72 =>
                                (v72, t1)
                              else
                                zLet ((1 : Int32)) fun v73 =>
                                zLet (v66 + v73) fun v74 =>
                                (v74, t1)
                            else
                              zLet ((1 : Int32)) fun v75 =>
                              zLet (v60 + v75) fun v76 =>
                              zLet ((t1.2.2 a0 67).getD 0) fun v77 =>
                              zLet ((2 : Int32)) fun v78 =>
                              zLet (t1.1 v77 v78.toNatClampNeg) fun v79 =>
                              if v79.toInt = 0 then
                                zLet ((0 : Int32)) fun v81 =>
                                zLet (v76 + v81) fun v82 =>
                                (v82, t1)
                              else
                                zLet ((1 : Int32)) fun v83 =>
                                zLet (v76 + v83) fun v84 =>
                                (v84, t1)
                          else
                            zLet ((1 : Int32)) fun v85 =>
                            zLet ((t1.2.2 a0 67).getD 0) fun v86 =>
                            zLet ((1 : Int32)) fun v87 =>
                            zLet (t1.1 v86 v87.toNatClampNeg) fun v88 =>
                            if v88.toInt = 0 then
                              zLet ((0 : Int32)) fun v90 =>
                              zLet (v85 + v90) fun v91 =>
                              zLet ((t1.2.2 a0 67).getD 0) fun v92 =>
                              zLet ((2 : Int32)) fun v93 =>
                              zLet (t1.1 v92 v93.toNatClampNeg) fun v94 =>
                              if v94.toInt = 0 then
                                zLet ((0 : Int32)) fun v96 =>
                                zLet (v91 + v96) fun v97 =>
                                (v97, t1)
                              else
                                zLet ((1 : Int32)) fun v98 =>
                                zLet (v91 + v98) fun v99 =>
                                (v99, t1)
                            else
                              zLet ((1 : Int32)) fun v100 =>
                              zLet (v85 + v100) fun v101 =>
                              zLet ((t1.2.2 a0 67).getD 0) fun v102 =>
                              zLet ((2 : Int32)) fun v103 =>
                              zLet (t1.1 v102 v103.toNatClampNeg) fun v104 =>
                              if v104.toInt = 0 then
                                zLet ((0 : Int32)) fun v106 =>
                                zLet (v101 + v106) fun v107 =>
                                (v107, t1)
                              else
                                zLet ((1 : Int32)) fun v108 =>
                                zLet (v101 + v108) fun v109 =>
                                (v109, t1)
                        else
                          if p1.toInt = 12 then
                            zLet (F_X11_isStorm a0  t1) fun v112 =>
                            if v112.toInt = 0 then
                              zLet ((0 : Int32)) fun v114 =>
                              (v114, t1)
                            else
                              zLet ((1 : Int32)) fun v115 =>
                              (v115, t1)
                          else
                            if p1.toInt = 13 then
                              zLet ((1 : Int32)) fun v117 =>
                              F_X11_count_253 a0 p1  10000 v117 v3 t1
                            else
                              if p1.toInt = 14 then
                                zLet ((1 : Int32)) fun v133 =>
                                F_X11_count_288 a0 p1  10000 v133 v3 t1
                              else
                                if p1.toInt = 15 then
                                  zLet ((1 : Int32)) fun v155 =>
                                  F_X11_count_335 a0 p1  10000 v155 v3 t1
                                else
                                  if p1.toInt = 16 then
                                    zLet ((1 : Int32)) fun v171 =>
                                    F_X11_count_370 a0 p1  10000 v171 v3 t1
                                  else
                                    zLet ((-1 : Int32)) fun v187 =>
                                    (v187, t1)
set_option maxRecDepth 100000 in
noncomputable def F_X11_hold_20 (a0 : Nat) (p1 : Int32)  : Nat → Int32 → zS → Int32 × zS
  | 0, _, s => (0, s)
  | n + 1, x10, τ11 =>
    zLet ((50 : Int32)) fun v12 =>
    if x10.toInt < v12.toInt then
      zLet ((τ11.2.2 a0 68).getD 0) fun v15 =>
      zLet ((50 : Int32)) fun v16 =>
      zLet (v16 * p1) fun v17 =>
      zLet (v17 + x10) fun v18 =>
      zLet ((τ11.2.2 a0 48).getD 0) fun v19 =>
      zLet (τ11.1 v19 x10.toNatClampNeg) fun v20 =>
      zLet ((zu τ11.1 v15 v18.toNatClampNeg v20, τ11.2.1, τ11.2.2)) fun s21 =>
      zLet (x10 + (1 : Int32)) fun v23 =>
      F_X11_hold_20 a0 p1  n v23 s21
    else
      zLet ((1 : Int32)) fun v14 =>
      (v14, τ11)
set_option maxRecDepth 100000 in
noncomputable def F_X11_hold (a0 : Nat) (p1 : Int32) (σ : zS) : Int32 × zS :=
  zLet ((0 : Int32)) fun v1 =>
  zLet ((2 : Int32)) fun v2 =>
  zLet (F_X11_in p1 v1 v2) fun v3 =>
  if v3.toInt = 0 then
    zLet ((0 : Int32)) fun v24 =>
    (v24, σ)
  else
    zLet ((σ.2.2 a0 67).getD 0) fun v5 =>
    zLet ((1 : Int32)) fun v6 =>
    zLet ((zu σ.1 v5 p1.toNatClampNeg (vp_nar .boolean v6), σ.2.1, σ.2.2)) fun s7 =>
    zLet ((0 : Int32)) fun v9 =>
    F_X11_hold_20 a0 p1  10000 v9 s7
set_option maxRecDepth 100000 in
noncomputable def F_X11_restore_22 (a0 : Nat) (p1 : Int32)  : Nat → Int32 → zS → Int32 × zS
  | 0, _, s => (0, s)
  | n + 1, x10, τ11 =>
    zLet ((50 : Int32)) fun v12 =>
    if x10.toInt < v12.toInt then
      zLet ((τ11.2.2 a0 48).getD 0) fun v19 =>
      zLet ((τ11.2.2 a0 68).getD 0) fun v20 =>
      zLet ((50 : Int32)) fun v21 =>
      zLet (v21 * p1) fun v22 =>
      zLet (v22 + x10) fun v23 =>
      zLet (τ11.1 v20 v23.toNatClampNeg) fun v24 =>
      zLet ((zu τ11.1 v19 x10.toNatClampNeg v24, τ11.2.1, τ11.2.2)) fun s25 =>
      zLet (x10 + (1 : Int32)) fun v27 =>
      F_X11_restore_22 a0 p1  n v27 s25
    else
      zLet ((0 : Int32)) fun v14 =>
      zLet ((zu τ11.1 a0 57 v14, τ11.2.1, τ11.2.2)) fun s15 =>
      zLet ((1 : Int32)) fun v18 =>
      (v18, s15)
set_option maxRecDepth 100000 in
noncomputable def F_X11_restore (a0 : Nat) (p1 : Int32) (σ : zS) : Int32 × zS :=
  zLet ((0 : Int32)) fun v1 =>
  zLet ((2 : Int32)) fun v2 =>
  zLet (F_X11_in p1 v1 v2) fun v3 =>
  if v3.toInt = 0 then
    zLet ((0 : Int32)) fun v5 =>
    (v5, σ)
  else
    zLet ((σ.2.2 a0 67).getD 0) fun v6 =>
    zLet (σ.1 v6 p1.toNatClampNeg) fun v7 =>
    if v7.toInt = 0 then
      zLet ((0 : Int32)) fun v28 =>
      (v28, σ)
    else
      zLet ((0 : Int32)) fun v9 =>
      F_X11_restore_22 a0 p1  10000 v9 σ
set_option maxRecDepth 100000 in
noncomputable def F_X11_forget (a0 : Nat) (σ : zS) : Int32 × zS :=
  zLet (σ.1 a0 62) fun v1 =>
  zLet ((0 : Int32)) fun v2 =>
  zLet ((zu σ.1 a0 62 v2, σ.2.1, σ.2.2)) fun s3 =>
  (v1, s3)
set_option maxRecDepth 100000 in
noncomputable def F_X11_feed (a0 : Nat) (p1 : Int32) (p2 : Int32) (p3 : Int32) (p4 : Int32) (p5 : Int32) (σ : zS) : Int32 × zS :=
  zLet (σ.1 a0 2) fun v1 =>
  zLet ((20 : Int32)) fun v2 =>
  zLet (v1 + v2) fun v3 =>
  zLet ((2000 : Int32)) fun v4 =>
  if v4.toInt < v3.toInt then
    zLet ((-1 : Int32)) fun v17 =>
    (v17, σ)
  else
    zLet (F_X11_put a0 p1 σ) fun t6 =>
    zLet (F_X11_put a0 p2 t6) fun t8 =>
    zLet (F_X11_put a0 p3 t8) fun t10 =>
    zLet (F_X11_put a0 p4 t10) fun t12 =>
    zLet (F_X11_put a0 p5 t12) fun t14 =>
    zLet (t14.1 a0 2) fun v16 =>
    (v16, t14)
set_option maxRecDepth 100000 in
noncomputable def F_X11_back (a0 : Nat) (p1 : Int32) (σ : zS) : Int32 × zS :=
  if p1.toInt < 0 then
    zLet ((-1 : Int32)) fun v2 =>
    (v2, σ)
  else
    zLet (σ.1 a0 2) fun v3 =>
    if v3.toInt < p1.toInt then
      zLet ((-1 : Int32)) fun v12 =>
      (v12, σ)
    else
      zLet (σ.1 a0 2) fun v6 =>
      zLet (v6 - p1) fun v7 =>
      zLet ((zu σ.1 a0 2 v7, σ.2.1, σ.2.2)) fun s8 =>
      zLet (s8.1 a0 2) fun v11 =>
      (v11, s8)
set_option maxRecDepth 100000 in
noncomputable def F_X11_token (a0 : Nat) (p1 : Int32) (p2 : Int32) (p3 : Int32) (p4 : Int64) (σ : zS) : zS :=
  zLet ((σ.2.2 a0 5).getD 0) fun v1 =>
  zLet (σ.1 a0 10) fun v2 =>
  zLet ((zu σ.1 v1 v2.toNatClampNeg p1, σ.2.1, σ.2.2)) fun s3 =>
  zLet ((s3.2.2 a0 6).getD 0) fun v6 =>
  zLet (s3.1 a0 10) fun v7 =>
  zLet ((zu s3.1 v6 v7.toNatClampNeg p2, s3.2.1, s3.2.2)) fun s8 =>
  zLet ((s8.2.2 a0 7).getD 0) fun v11 =>
  zLet (s8.1 a0 10) fun v12 =>
  zLet ((zu s8.1 v11 v12.toNatClampNeg p3, s8.2.1, s8.2.2)) fun s13 =>
  zLet ((s13.2.2 a0 8).getD 0) fun v16 =>
  zLet (s13.1 a0 10) fun v17 =>
  zLet ((s13.1, zu s13.2.1 v16 v17.toNatClampNeg p4, s13.2.2)) fun s18 =>
  zLet (s18.1 a0 10) fun v21 =>
  zLet ((1 : Int32)) fun v22 =>
  zLet (v21 + v22) fun v23 =>
  zLet ((zu s18.1 a0 10 v23, s18.2.1, s18.2.2)) fun s24 =>
  s24
set_option maxRecDepth 100000 in
noncomputable def F_X11_sign (a0 : Nat) (p1 : Int32) (p2 : Int32) (p3 : Int32) (σ : zS) : Int32 × zS :=
  zLet ((59 : Int32)) fun v1 =>
  if p2.toInt = v1.toInt then
    zLet ((4 : Int32)) fun v123 =>
    zLet ((43 : Int32)) fun v124 =>
    if p2.toInt = v124.toInt then
      (0, σ)
    else
      zLet ((45 : Int32)) fun v126 =>
      if p2.toInt = v126.toInt then
        (0, σ)
      else
        zLet ((42 : Int32)) fun v128 =>
        if p2.toInt = v128.toInt then
          (0, σ)
        else
          zLet ((47 : Int32)) fun v130 =>
          if p2.toInt = v130.toInt then
            (0, σ)
          else
            zLet ((60 : Int32)) fun v132 =>
            if p2.toInt = v132.toInt then
              (0, σ)
            else
              zLet ((0 : Int32)) fun v134 =>
              zLet (Int64.ofNat 0) fun v135 =>
              zLet (F_X11_token a0 v123 p1 v134 v135 σ) fun t136 =>
              zLet ((1 : Int32)) fun v138 =>
              (v138, t136)
  else
    zLet ((61 : Int32)) fun v3 =>
    if p2.toInt = v3.toInt then
      zLet ((5 : Int32)) fun v107 =>
      zLet ((43 : Int32)) fun v108 =>
      if p2.toInt = v108.toInt then
        (0, σ)
      else
        zLet ((45 : Int32)) fun v110 =>
        if p2.toInt = v110.toInt then
          (0, σ)
        else
          zLet ((42 : Int32)) fun v112 =>
          if p2.toInt = v112.toInt then
            (0, σ)
          else
            zLet ((47 : Int32)) fun v114 =>
            if p2.toInt = v114.toInt then
              (0, σ)
            else
              zLet ((60 : Int32)) fun v116 =>
              if p2.toInt = v116.toInt then
                (0, σ)
              else
                zLet ((0 : Int32)) fun v118 =>
                zLet (Int64.ofNat 0) fun v119 =>
                zLet (F_X11_token a0 v107 p1 v118 v119 σ) fun t120 =>
                zLet ((1 : Int32)) fun v122 =>
                (v122, t120)
    else
      zLet ((40 : Int32)) fun v5 =>
      if p2.toInt = v5.toInt then
        zLet ((6 : Int32)) fun v91 =>
        zLet ((43 : Int32)) fun v92 =>
        if p2.toInt = v92.toInt then
          (0, σ)
        else
          zLet ((45 : Int32)) fun v94 =>
          if p2.toInt = v94.toInt then
            (0, σ)
          else
            zLet ((42 : Int32)) fun v96 =>
            if p2.toInt = v96.toInt then
              (0, σ)
            else
              zLet ((47 : Int32)) fun v98 =>
              if p2.toInt = v98.toInt then
                (0, σ)
              else
                zLet ((60 : Int32)) fun v100 =>
                if p2.toInt = v100.toInt then
                  (0, σ)
                else
                  zLet ((0 : Int32)) fun v102 =>
                  zLet (Int64.ofNat 0) fun v103 =>
                  zLet (F_X11_token a0 v91 p1 v102 v103 σ) fun t104 =>
                  zLet ((1 : Int32)) fun v106 =>
                  (v106, t104)
      else
        zLet ((41 : Int32)) fun v7 =>
        if p2.toInt = v7.toInt then
          zLet ((7 : Int32)) fun v75 =>
          zLet ((43 : Int32)) fun v76 =>
          if p2.toInt = v76.toInt then
            (0, σ)
          else
            zLet ((45 : Int32)) fun v78 =>
            if p2.toInt = v78.toInt then
              (0, σ)
            else
              zLet ((42 : Int32)) fun v80 =>
              if p2.toInt = v80.toInt then
                (0, σ)
              else
                zLet ((47 : Int32)) fun v82 =>
                if p2.toInt = v82.toInt then
                  (0, σ)
                else
                  zLet ((60 : Int32)) fun v84 =>
                  if p2.toInt = v84.toInt then
                    (0, σ)
                  else
                    zLet ((0 : Int32)) fun v86 =>
                    zLet (Int64.ofNat 0) fun v87 =>
                    zLet (F_X11_token a0 v75 p1 v86 v87 σ) fun t88 =>
                    zLet ((1 : Int32)) fun v90 =>
                    (v90, t88)
        else
          zLet ((3 : Int32)) fun v9 =>
          zLet ((43 : Int32)) fun v10 =>
          if p2.toInt = v10.toInt then
            zLet ((8 : Int32)) fun v61 =>
            zLet ((45 : Int32)) fun v62 =>
            if p2.toInt = v62.toInt then
              (0, σ)
            else
              zLet ((42 : Int32)) fun v64 =>
              if p2.toInt = v64.toInt then
                (0, σ)
              else
                zLet ((47 : Int32)) fun v66 =>
                if p2.toInt = v66.toInt then
                  (0, σ)
                else
                  zLet ((60 : Int32)) fun v68 =>
                  if p2.toInt = v68.toInt then
                    (0, σ)
                  else
                    zLet ((0 : Int32)) fun v70 =>
                    zLet (Int64.ofNat 0) fun v71 =>
                    zLet (F_X11_token a0 v61 p1 v70 v71 σ) fun t72 =>
                    zLet ((1 : Int32)) fun v74 =>
                    (v74, t72)
          else
            zLet ((45 : Int32)) fun v12 =>
            if p2.toInt = v12.toInt then
              zLet ((9 : Int32)) fun v49 =>
              zLet ((42 : Int32)) fun v50 =>
              if p2.toInt = v50.toInt then
                (0, σ)
              else
                zLet ((47 : Int32)) fun v52 =>
                if p2.toInt = v52.toInt then
                  (0, σ)
                else
                  zLet ((60 : Int32)) fun v54 =>
                  if p2.toInt = v54.toInt then
                    (0, σ)
                  else
                    zLet ((0 : Int32)) fun v56 =>
                    zLet (Int64.ofNat 0) fun v57 =>
                    zLet (F_X11_token a0 v49 p1 v56 v57 σ) fun t58 =>
                    zLet ((1 : Int32)) fun v60 =>
                    (v60, t58)
            else
              zLet ((42 : Int32)) fun v14 =>
              if p2.toInt = v14.toInt then
                zLet ((10 : Int32)) fun v39 =>
                zLet ((47 : Int32)) fun v40 =>
                if p2.toInt = v40.toInt then
                  (0, σ)
                else
                  zLet ((60 : Int32)) fun v42 =>
                  if p2.toInt = v42.toInt then
                    (0, σ)
                  else
                    zLet ((0 : Int32)) fun v44 =>
                    zLet (Int64.ofNat 0) fun v45 =>
                    zLet (F_X11_token a0 v39 p1 v44 v45 σ) fun t46 =>
                    zLet ((1 : Int32)) fun v48 =>
                    (v48, t46)
              else
                zLet ((47 : Int32)) fun v16 =>
                if p2.toInt = v16.toInt then
                  zLet ((15 : Int32)) fun v31 =>
                  zLet ((60 : Int32)) fun v32 =>
                  if p2.toInt = v32.toInt then
                    (0, σ)
                  else
                    zLet ((0 : Int32)) fun v34 =>
                    zLet (Int64.ofNat 0) fun v35 =>
                    zLet (F_X11_token a0 v31 p1 v34 v35 σ) fun t36 =>
                    zLet ((1 : Int32)) fun v38 =>
                    (v38, t36)
                else
                  zLet ((60 : Int32)) fun v18 =>
                  if p2.toInt = v18.toInt then
                    zLet ((13 : Int32)) fun v25 =>
                    zLet ((0 : Int32)) fun v26 =>
                    zLet (Int64.ofNat 0) fun v27 =>
                    zLet (F_X11_token a0 v25 p1 v26 v27 σ) fun t28 =>
                    zLet ((1 : Int32)) fun v30 =>
                    (v30, t28)
                  else
                    zLet ((0 : Int32)) fun v20 =>
                    zLet (Int64.ofNat 0) fun v21 =>
                    zLet (F_X11_token a0 v9 p1 v20 v21 σ) fun t22 =>
                    zLet ((1 : Int32)) fun v24 =>
                    (v24, t22)
set_option maxRecDepth 100000 in
noncomputable def F_X11_cut_208 (v12 : Int32) (x6 : Int32) (a0 : Nat) (kLp7 : Int32 → zS → zS) : Nat → Int32 → Int32 → zS → zS
  | 0, _, _, s => s
  | n + 1, x41, x42, τ43 =>
    zLet (x6 + x42) fun v44 =>
    zLet (F_X11_byteAt a0 v44 τ43) fun v46 =>
    zLet (F_X11_isDigit v46) fun v47 =>
    if v47.toInt = 0 then
      zLet ((4 : Int32)) fun v49 =>
      if v49.toInt < x42.toInt then
        zLet ((3 : Int32)) fun v56 =>
        zLet (Int64.ofNat 0) fun v57 =>
        zLet (F_X11_token a0 v56 x6 x41 v57 τ43) fun t58 =>
        zLet (x6 + x42) fun v60 =>
        kLp7 v60 t58
      else
        zLet ((2 : Int32)) fun v51 =>
        zLet (Int64.ofNat 0) fun v52 =>
        zLet (F_X11_token a0 v51 x6 x41 v52 τ43) fun t53 =>
        zLet (x6 + x42) fun v55 =>
        kLp7 v55 t53
    else
      zLet ((4 : Int32)) fun v61 =>
      if x42.toInt < v61.toInt then
        zLet ((10 : Int32)) fun v64 =>
        zLet (v64 * x41) fun v65 =>
        zLet (x6 + x42) fun v66 =>
        zLet (F_X11_byteAt a0 v66 τ43) fun v68 =>
        zLet (v65 + v68) fun v69 =>
        zLet ((48 : Int32)) fun v70 =>
        zLet (v69 - v70) fun v71 =>
        zLet (x42 + (1 : Int32)) fun v72 =>
        F_X11_cut_208 v12 x6 a0 kLp7 n v71 v72 τ43
      else
        zLet (x42 + (1 : Int32)) fun v63 =>
        F_X11_cut_208 v12 x6 a0 kLp7 n x41 v63 τ43
set_option maxRecDepth 100000 in
noncomputable def F_X11_cut_146 (x75 : Int64) (x76 : Int32) (v12 : Int32) (x6 : Int32) (a0 : Nat) (kLp7 : Int32 → zS → zS) (kLp77 : Int64 → Int32 → zS → zS) : Nat → Int32 → Int32 → zS → zS
  | 0, _, _, s => s
  | n + 1, x89, x90, τ91 =>
    zLet ((22 : Int32)) fun v92 =>
    if x89.toInt < v92.toInt then
      zLet ((τ91.2.2 a0 9).getD 0) fun v98 =>
      zLet (τ91.2.1 v98 x89.toNatClampNeg) fun v99 =>
      zLet (lg_cmp v99 x75) fun v100 =>
      if v100.toInt = 0 then
        zLet ((20 : Int32)) fun v103 =>
        zLet (v103 + x89) fun v104 =>
        zLet (x89 + (1 : Int32)) fun v105 =>
        F_X11_cut_146 x75 x76 v12 x6 a0 kLp7 kLp77 n v105 v104 τ91
      else
        zLet (x89 + (1 : Int32)) fun v102 =>
        F_X11_cut_146 x75 x76 v12 x6 a0 kLp7 kLp77 n v102 x90 τ91
    else
      zLet ((0 : Int32)) fun v94 =>
      zLet (F_X11_token a0 x90 x6 v94 x75 τ91) fun t95 =>
      zLet (x6 + x76) fun v97 =>
      kLp7 v97 t95
set_option maxRecDepth 100000 in
noncomputable def F_X11_cut_85 (v12 : Int32) (x6 : Int32) (a0 : Nat) (kLp7 : Int32 → zS → zS) : Nat → Int64 → Int32 → zS → zS
  | 0, _, _, s => s
  | n + 1, x75, x76, τ77 =>
    zLet (x6 + x76) fun v78 =>
    zLet (F_X11_byteAt a0 v78 τ77) fun v80 =>
    zLet (F_X11_isLetter v80) fun v81 =>
    if v81.toInt = 0 then
      zLet ((8 : Int32)) fun v83 =>
      if v83.toInt < x76.toInt then
        zLet ((3 : Int32)) fun v106 =>
        zLet ((8 : Int32)) fun v107 =>
        if v107.toInt < x76.toInt then
          zLet ((0 : Int32)) fun v109 =>
          zLet (F_X11_token a0 v106 x6 v109 x75 τ77) fun t110 =>
          zLet (x6 + x76) fun v112 =>
          kLp7 v112 t110
        else
          τ77
      else
        zLet ((1 : Int32)) fun v85 =>
        zLet ((8 : Int32)) fun v86 =>
        if v86.toInt < x76.toInt then
          τ77
        else
          zLet ((0 : Int32)) fun v88 =>
          F_X11_cut_146 x75 x76 v12 x6 a0 kLp7 (F_X11_cut_85 v12 x6 a0 kLp7 n) 10000 v88 v85 τ77
    else
      zLet ((8 : Int32)) fun v113 =>
      if x76.toInt < v113.toInt then
        zLet (x6 + x76) fun v116 =>
        zLet (F_X11_byteAt a0 v116 τ77) fun v118 =>
        zLet (F_X11_appends x75 v118) fun v119 =>
        zLet (x76 + (1 : Int32)) fun v120 =>
        F_X11_cut_85 v12 x6 a0 kLp7 n v119 v120 τ77
      else
        zLet (x76 + (1 : Int32)) fun v115 =>
        F_X11_cut_85 v12 x6 a0 kLp7 n x75 v115 τ77
set_option maxRecDepth 100000 in
noncomputable def F_X11_cut_7 (a0 : Nat)  : Nat → Int32 → zS → zS
  | 0, _, s => s
  | n + 1, x6, τ7 =>
    zLet (τ7.1 a0 10) fun v8 =>
    zLet ((400 : Int32)) fun v9 =>
    if v9.toInt < v8.toInt then
      τ7
    else
      zLet (F_X11_byteAt a0 x6 τ7) fun v12 =>
      zLet (τ7.1 a0 4) fun v13 =>
      if x6.toInt < v13.toInt then
        zLet ((9 : Int32)) fun v15 =>
        if v12.toInt = v15.toInt then
          zLet (x6 + (1 : Int32)) fun v17 =>
          F_X11_cut_7 a0  n v17 τ7
        else
          zLet ((10 : Int32)) fun v18 =>
          if v12.toInt = v18.toInt then
            zLet (x6 + (1 : Int32)) fun v20 =>
            F_X11_cut_7 a0  n v20 τ7
          else
            zLet ((13 : Int32)) fun v21 =>
            if v12.toInt = v21.toInt then
              zLet (x6 + (1 : Int32)) fun v23 =>
              F_X11_cut_7 a0  n v23 τ7
            else
              zLet ((32 : Int32)) fun v24 =>
              if v12.toInt = v24.toInt then
                zLet (x6 + (1 : Int32)) fun v121 =>
                F_X11_cut_7 a0  n v121 τ7
              else
                zLet (F_X11_isLetter v12) fun v26 =>
                if v26.toInt = 0 then
                  zLet (F_X11_isDigit v12) fun v28 =>
                  if v28.toInt = 0 then
                    zLet ((1 : Int32)) fun v30 =>
                    zLet (x6 + v30) fun v31 =>
                    zLet (F_X11_byteAt a0 v31 τ7) fun v33 =>
                    zLet2 (F_X11_sign a0 x6 v12 v33 τ7) fun v35 t34 =>
                    zLet (x6 + v35) fun v38 =>
                    F_X11_cut_7 a0  n v38 t34
                  else
                    zLet ((0 : Int32)) fun v39 =>
                    zLet ((0 : Int32)) fun v40 =>
                    F_X11_cut_208 v12 x6 a0 (F_X11_cut_7 a0  n) 10000 v40 v39 τ7
                else
                  zLet ((0 : Int32)) fun v73 =>
                  zLet (Int64.ofNat 0) fun v74 =>
                  F_X11_cut_85 v12 x6 a0 (F_X11_cut_7 a0  n) 10000 v74 v73 τ7
      else
        zLet ((0 : Int32)) fun v122 =>
        zLet (τ7.1 a0 4) fun v123 =>
        zLet ((0 : Int32)) fun v124 =>
        zLet (Int64.ofNat 0) fun v125 =>
        zLet (F_X11_token a0 v122 v123 v124 v125 τ7) fun t126 =>
        t126
set_option maxRecDepth 100000 in
noncomputable def F_X11_cut (a0 : Nat) (σ : zS) : zS :=
  zLet ((0 : Int32)) fun v1 =>
  zLet ((zu σ.1 a0 10 v1, σ.2.1, σ.2.2)) fun s2 =>
  zLet ((0 : Int32)) fun v5 =>
  F_X11_cut_7 a0  2000000 v5 s2
set_option maxRecDepth 100000 in
noncomputable def F_X11_numberOf_27 (a0 : Nat) (p1 : Int32) (σ : zS)  : Nat → Int32 → Int32
  | 0, _ => 0
  | n + 1, x4 =>
    zLet (σ.1 a0 42) fun v6 =>
    if v6.toInt < x4.toInt then
      zLet ((-1 : Int32)) fun v8 =>
      v8
    else
      zLet ((σ.2.2 a0 20).getD 0) fun v9 =>
      zLet (σ.2.1 v9 x4.toNatClampNeg) fun v10 =>
      zLet ((σ.2.2 a0 8).getD 0) fun v11 =>
      zLet (σ.2.1 v11 p1.toNatClampNeg) fun v12 =>
      zLet (lg_cmp v10 v12) fun v13 =>
      if v13.toInt = 0 then
        x4
      else
        zLet (x4 + (1 : Int32)) fun v15 =>
        F_X11_numberOf_27 a0 p1 σ  n v15
set_option maxRecDepth 100000 in
noncomputable def F_X11_numberOf_27_1 (a0 : Nat) (p1 : Int32) (σ : zS)  : Nat → Int32 → Int32
  | 0, _ => 0
  | n + 1, x24 =>
    zLet (σ.1 a0 42) fun v26 =>
    if v26.toInt < x24.toInt then
      zLet ((-1 : Int32)) fun v28 =>
      v28
    else
      zLet ((σ.2.2 a0 20).getD 0) fun v29 =>
      zLet (σ.2.1 v29 x24.toNatClampNeg) fun v30 =>
      zLet ((σ.2.2 a0 8).getD 0) fun v31 =>
      zLet (σ.2.1 v31 p1.toNatClampNeg) fun v32 =>
      zLet (lg_cmp v30 v32) fun v33 =>
      if v33.toInt = 0 then
        x24
      else
        zLet (x24 + (1 : Int32)) fun v35 =>
        F_X11_numberOf_27_1 a0 p1 σ  n v35
set_option maxRecDepth 100000 in
noncomputable def F_X11_numberOf (a0 : Nat) (p1 : Int32) (σ : zS) : Int32 :=
  zLet (σ.1 a0 41) fun v1 =>
  if v1.toInt = 0 then
    zLet ((1 : Int32)) fun v3 =>
    F_X11_numberOf_27 a0 p1 σ  10000 v3
  else
    zLet ((σ.2.2 a0 20).getD 0) fun v16 =>
    zLet ((0 : Int32)) fun v17 =>
    zLet (σ.2.1 v16 v17.toNatClampNeg) fun v18 =>
    zLet ((σ.2.2 a0 8).getD 0) fun v19 =>
    zLet (σ.2.1 v19 p1.toNatClampNeg) fun v20 =>
    zLet (lg_cmp v18 v20) fun v21 =>
    if v21.toInt = 0 then
      zLet ((0 : Int32)) fun v36 =>
      v36
    else
      zLet ((1 : Int32)) fun v23 =>
      F_X11_numberOf_27_1 a0 p1 σ  10000 v23
set_option maxRecDepth 100000 in
noncomputable def F_X11_named (a0 : Nat) (σ : zS) : Int32 × zS :=
  zLet (σ.1 a0 11) fun v1 =>
  zLet ((1 : Int32)) fun v2 =>
  zLet (F_X11_must a0 v2 σ) fun t3 =>
  zLet (t3.1 a0 13) fun v5 =>
  if v5.toInt = 0 then
    zLet (F_X11_numberOf a0 v1 t3) fun v8 =>
    if v8.toInt < 0 then
      (v1, t3)
    else
      zLet ((3 : Int32)) fun v10 =>
      zLet (F_X11_wrong a0 v10 v1 t3) fun t11 =>
      (v1, t11)
  else
    (v1, t3)
set_option maxRecDepth 100000 in
noncomputable def F_X11_bounded (a0 : Nat) (p1 : Int32) (p2 : Int32) (σ : zS) : Int32 × zS :=
  zLet (σ.1 a0 13) fun v1 =>
  if 0 < v1.toInt then
    zLet ((1 : Int32)) fun v3 =>
    zLet (F_X11_fail a0 v3 σ) fun t4 =>
    (p1, t4)
  else
    zLet ((2 : Int32)) fun v6 =>
    zLet (F_X11_is a0 v6 σ) fun v8 =>
    if v8.toInt = 0 then
      zLet ((1 : Int32)) fun v37 =>
      zLet (F_X11_fail a0 v37 σ) fun t38 =>
      (p1, t38)
    else
      zLet ((σ.2.2 a0 7).getD 0) fun v10 =>
      zLet (σ.1 a0 11) fun v11 =>
      zLet (σ.1 v10 v11.toNatClampNeg) fun v12 =>
      if v12.toInt < p1.toInt then
        zLet ((5 : Int32)) fun v16 =>
        zLet (σ.1 a0 11) fun v17 =>
        zLet (F_X11_wrong a0 v16 v17 σ) fun t18 =>
        zLet (F_X11_goesOn a0  t18) fun t22 =>
        (v12, t22)
      else
        if p2.toInt < v12.toInt then
          zLet ((5 : Int32)) fun v29 =>
          zLet (σ.1 a0 11) fun v30 =>
          zLet (F_X11_wrong a0 v29 v30 σ) fun t31 =>
          zLet (F_X11_goesOn a0  t31) fun t35 =>
          (v12, t35)
        else
          zLet (F_X11_goesOn a0  σ) fun t27 =>
          (v12, t27)
set_option maxRecDepth 100000 in
noncomputable def F_X11_emit (a0 : Nat) (p1 : Int32) (p2 : Int32) (σ : zS) : zS :=
  zLet ((σ.2.2 a0 39).getD 0) fun v1 =>
  zLet (σ.1 a0 38) fun v2 =>
  zLet ((zu σ.1 v1 v2.toNatClampNeg p1, σ.2.1, σ.2.2)) fun s3 =>
  zLet ((s3.2.2 a0 40).getD 0) fun v6 =>
  zLet (s3.1 a0 38) fun v7 =>
  zLet ((zu s3.1 v6 v7.toNatClampNeg p2, s3.2.1, s3.2.2)) fun s8 =>
  zLet (s8.1 a0 38) fun v11 =>
  zLet ((1 : Int32)) fun v12 =>
  zLet (v11 + v12) fun v13 =>
  zLet ((zu s8.1 a0 38 v13, s8.2.1, s8.2.2)) fun s14 =>
  s14
set_option maxRecDepth 100000 in
noncomputable def F_X11_comesOut_0 (a0 : Nat) (p1 : Int32)  : Nat → zS → zS
  | 0, s => s
  | n + 1, τ1 =>
    zLet (τ1.1 a0 44) fun v2 =>
    if 0 < v2.toInt then
      zLet ((τ1.2.2 a0 43).getD 0) fun v4 =>
      zLet (τ1.1 a0 44) fun v5 =>
      zLet ((1 : Int32)) fun v6 =>
      zLet (v5 - v6) fun v7 =>
      zLet (τ1.1 v4 v7.toNatClampNeg) fun v8 =>
      zLet ((6 : Int32)) fun v9 =>
      if v8.toInt = v9.toInt then
        τ1
      else
        if p1.toInt = 0 then
          zLet (τ1.1 a0 44) fun v12 =>
          zLet ((1 : Int32)) fun v13 =>
          zLet (v12 - v13) fun v14 =>
          zLet ((zu τ1.1 a0 44 v14, τ1.2.1, τ1.2.2)) fun s15 =>
          zLet ((8 : Int32)) fun v18 =>
          if v8.toInt = v18.toInt then
            zLet ((2 : Int32)) fun v39 =>
            zLet ((0 : Int32)) fun v40 =>
            zLet (F_X11_emit a0 v39 v40 s15) fun t41 =>
            F_X11_comesOut_0 a0 p1  n  t41
          else
            zLet ((9 : Int32)) fun v20 =>
            if v8.toInt = v20.toInt then
              zLet ((3 : Int32)) fun v34 =>
              zLet ((0 : Int32)) fun v35 =>
              zLet (F_X11_emit a0 v34 v35 s15) fun t36 =>
              F_X11_comesOut_0 a0 p1  n  t36
            else
              zLet ((10 : Int32)) fun v22 =>
              if v8.toInt = v22.toInt then
                zLet ((4 : Int32)) fun v29 =>
                zLet ((0 : Int32)) fun v30 =>
                zLet (F_X11_emit a0 v29 v30 s15) fun t31 =>
                F_X11_comesOut_0 a0 p1  n  t31
              else
                zLet ((5 : Int32)) fun v24 =>
                zLet ((0 : Int32)) fun v25 =>
                zLet (F_X11_emit a0 v24 v25 s15) fun t26 =>
                F_X11_comesOut_0 a0 p1  n  t26
        else
          zLet ((8 : Int32)) fun v44 =>
          if v8.toInt = v44.toInt then
            τ1
          else
            zLet ((9 : Int32)) fun v46 =>
            if v8.toInt = v46.toInt then
              τ1
            else
              zLet (τ1.1 a0 44) fun v48 =>
              zLet ((1 : Int32)) fun v49 =>
              zLet (v48 - v49) fun v50 =>
              zLet ((zu τ1.1 a0 44 v50, τ1.2.1, τ1.2.2)) fun s51 =>
              zLet ((8 : Int32)) fun v54 =>
              if v8.toInt = v54.toInt then
                zLet ((2 : Int32)) fun v75 =>
                zLet ((0 : Int32)) fun v76 =>
                zLet (F_X11_emit a0 v75 v76 s51) fun t77 =>
                F_X11_comesOut_0 a0 p1  n  t77
              else
                zLet ((9 : Int32)) fun v56 =>
                if v8.toInt = v56.toInt then
                  zLet ((3 : Int32)) fun v70 =>
                  zLet ((0 : Int32)) fun v71 =>
                  zLet (F_X11_emit a0 v70 v71 s51) fun t72 =>
                  F_X11_comesOut_0 a0 p1  n  t72
                else
                  zLet ((10 : Int32)) fun v58 =>
                  if v8.toInt = v58.toInt then
                    zLet ((4 : Int32)) fun v65 =>
                    zLet ((0 : Int32)) fun v66 =>
                    zLet (F_X11_emit a0 v65 v66 s51) fun t67 =>
                    F_X11_comesOut_0 a0 p1  n  t67
                  else
                    zLet ((5 : Int32)) fun v60 =>
                    zLet ((0 : Int32)) fun v61 =>
                    zLet (F_X11_emit a0 v60 v61 s51) fun t62 =>
                    F_X11_comesOut_0 a0 p1  n  t62
    else
      τ1
set_option maxRecDepth 100000 in
noncomputable def F_X11_comesOut (a0 : Nat) (p1 : Int32) (σ : zS) : zS :=
  F_X11_comesOut_0 a0 p1  10000  σ
set_option maxRecDepth 100000 in
noncomputable def F_X11_unit (a0 : Nat) (σ : zS) : zS :=
  zLet ((2 : Int32)) fun v1 =>
  zLet (F_X11_is a0 v1 σ) fun v3 =>
  if v3.toInt = 0 then
    zLet (σ.1 a0 13) fun v5 =>
    if v5.toInt = 0 then
      zLet ((σ.2.2 a0 5).getD 0) fun v10 =>
      zLet (σ.1 a0 11) fun v11 =>
      zLet (σ.1 v10 v11.toNatClampNeg) fun v12 =>
      zLet ((33 : Int32)) fun v13 =>
      if v12.toInt < v13.toInt then
        zLet ((1 : Int32)) fun v16 =>
        zLet (F_X11_fail a0 v16 σ) fun t17 =>
        t17
      else
        zLet ((σ.2.2 a0 5).getD 0) fun v20 =>
        zLet (σ.1 a0 11) fun v21 =>
        zLet (σ.1 v20 v21.toNatClampNeg) fun v22 =>
        zLet ((41 : Int32)) fun v23 =>
        if v23.toInt < v22.toInt then
          zLet ((1 : Int32)) fun v26 =>
          zLet (F_X11_fail a0 v26 σ) fun t27 =>
          t27
        else
          zLet ((1 : Int32)) fun v30 =>
          zLet ((σ.2.2 a0 5).getD 0) fun v31 =>
          zLet (σ.1 a0 11) fun v32 =>
          zLet (σ.1 v31 v32.toNatClampNeg) fun v33 =>
          zLet ((33 : Int32)) fun v34 =>
          zLet (v33 - v34) fun v35 =>
          zLet (F_X11_emit a0 v30 v35 σ) fun t36 =>
          zLet (F_X11_goesOn a0  t36) fun t40 =>
          t40
    else
      zLet ((1 : Int32)) fun v7 =>
      zLet (F_X11_fail a0 v7 σ) fun t8 =>
      t8
  else
    zLet ((0 : Int32)) fun v42 =>
    zLet ((σ.2.2 a0 7).getD 0) fun v43 =>
    zLet (σ.1 a0 11) fun v44 =>
    zLet (σ.1 v43 v44.toNatClampNeg) fun v45 =>
    zLet (F_X11_emit a0 v42 v45 σ) fun t46 =>
    zLet (F_X11_goesOn a0  t46) fun t49 =>
    t49
set_option maxRecDepth 100000 in
noncomputable def F_X11_expression_96 (x7 : Int32) (v5 : Int32) (a0 : Nat) (kLp8 : Int32 → zS → zS) (kLp12 : zS → zS) : Nat → zS → zS
  | 0, s => s
  | n + 1, τ21 =>
    zLet ((7 : Int32)) fun v22 =>
    zLet (F_X11_is a0 v22 τ21) fun v24 =>
    if v24.toInt = 0 then
      zLet ((8 : Int32)) fun v26 =>
      zLet (F_X11_is a0 v26 τ21) fun v28 =>
      if v28.toInt = 0 then
        zLet ((9 : Int32)) fun v106 =>
        zLet (F_X11_is a0 v106 τ21) fun v108 =>
        if v108.toInt = 0 then
          zLet ((10 : Int32)) fun v186 =>
          zLet (F_X11_is a0 v186 τ21) fun v188 =>
          if v188.toInt = 0 then
            zLet ((15 : Int32)) fun v266 =>
            zLet (F_X11_is a0 v266 τ21) fun v268 =>
            if v268.toInt = 0 then
              zLet ((0 : Int32)) fun v270 =>
              if v270.toInt = 0 then
                zLet (τ21.1 a0 12) fun v272 =>
                if v5.toInt < v272.toInt then
                  zLet ((1 : Int32)) fun v278 =>
                  zLet (F_X11_fail a0 v278 τ21) fun t279 =>
                  zLet ((0 : Int32)) fun v282 =>
                  zLet (F_X11_comesOut a0 v282 t279) fun t283 =>
                  t283
                else
                  zLet ((0 : Int32)) fun v274 =>
                  zLet (F_X11_comesOut a0 v274 τ21) fun t275 =>
                  t275
              else
                τ21
            else
              zLet ((1 : Int32)) fun v286 =>
              if v286.toInt = 0 then
                τ21
              else
                zLet ((10 : Int32)) fun v288 =>
                zLet (F_X11_is a0 v288 τ21) fun v290 =>
                if v290.toInt = 0 then
                  zLet ((15 : Int32)) fun v314 =>
                  zLet (F_X11_is a0 v314 τ21) fun v316 =>
                  if v316.toInt = 0 then
                    zLet ((0 : Int32)) fun v318 =>
                    zLet (F_X11_comesOut a0 v318 τ21) fun t319 =>
                    zLet ((t319.2.2 a0 43).getD 0) fun v321 =>
                    zLet (t319.1 a0 44) fun v322 =>
                    zLet ((t319.2.2 a0 5).getD 0) fun v323 =>
                    zLet (t319.1 a0 11) fun v324 =>
                    zLet (t319.1 v323 v324.toNatClampNeg) fun v325 =>
                    zLet ((zu t319.1 v321 v322.toNatClampNeg v325, t319.2.1, t319.2.2)) fun s326 =>
                    zLet (s326.1 a0 44) fun v330 =>
                    zLet ((1 : Int32)) fun v331 =>
                    zLet (v330 + v331) fun v332 =>
                    zLet ((zu s326.1 a0 44 v332, s326.2.1, s326.2.2)) fun s333 =>
                    zLet (F_X11_goesOn a0  s333) fun t337 =>
                    kLp8 v286 t337
                  else
                    zLet ((1 : Int32)) fun v340 =>
                    zLet (F_X11_comesOut a0 v340 τ21) fun t341 =>
                    zLet ((t341.2.2 a0 43).getD 0) fun v343 =>
                    zLet (t341.1 a0 44) fun v344 =>
                    zLet ((t341.2.2 a0 5).getD 0) fun v345 =>
                    zLet (t341.1 a0 11) fun v346 =>
                    zLet (t341.1 v345 v346.toNatClampNeg) fun v347 =>
                    zLet ((zu t341.1 v343 v344.toNatClampNeg v347, t341.2.1, t341.2.2)) fun s348 =>
                    zLet (s348.1 a0 44) fun v352 =>
                    zLet ((1 : Int32)) fun v353 =>
                    zLet (v352 + v353) fun v354 =>
                    zLet ((zu s348.1 a0 44 v354, s348.2.1, s348.2.2)) fun s355 =>
                    zLet (F_X11_goesOn a0  s355) fun t359 =>
                    kLp8 v286 t359
                else
                  zLet ((1 : Int32)) fun v292 =>
                  zLet (F_X11_comesOut a0 v292 τ21) fun t293 =>
                  zLet ((t293.2.2 a0 43).getD 0) fun v295 =>
                  zLet (t293.1 a0 44) fun v296 =>
                  zLet ((t293.2.2 a0 5).getD 0) fun v297 =>
                  zLet (t293.1 a0 11) fun v298 =>
                  zLet (t293.1 v297 v298.toNatClampNeg) fun v299 =>
                  zLet ((zu t293.1 v295 v296.toNatClampNeg v299, t293.2.1, t293.2.2)) fun s300 =>
                  zLet (s300.1 a0 44) fun v304 =>
                  zLet ((1 : Int32)) fun v305 =>
                  zLet (v304 + v305) fun v306 =>
                  zLet ((zu s300.1 a0 44 v306, s300.2.1, s300.2.2)) fun s307 =>
                  zLet (F_X11_goesOn a0  s307) fun t311 =>
                  kLp8 v286 t311
          else
            zLet ((1 : Int32)) fun v190 =>
            if v190.toInt = 0 then
              τ21
            else
              zLet ((10 : Int32)) fun v192 =>
              zLet (F_X11_is a0 v192 τ21) fun v194 =>
              if v194.toInt = 0 then
                zLet ((15 : Int32)) fun v218 =>
                zLet (F_X11_is a0 v218 τ21) fun v220 =>
                if v220.toInt = 0 then
                  zLet ((0 : Int32)) fun v222 =>
                  zLet (F_X11_comesOut a0 v222 τ21) fun t223 =>
                  zLet ((t223.2.2 a0 43).getD 0) fun v225 =>
                  zLet (t223.1 a0 44) fun v226 =>
                  zLet ((t223.2.2 a0 5).getD 0) fun v227 =>
                  zLet (t223.1 a0 11) fun v228 =>
                  zLet (t223.1 v227 v228.toNatClampNeg) fun v229 =>
                  zLet ((zu t223.1 v225 v226.toNatClampNeg v229, t223.2.1, t223.2.2)) fun s230 =>
                  zLet (s230.1 a0 44) fun v234 =>
                  zLet ((1 : Int32)) fun v235 =>
                  zLet (v234 + v235) fun v236 =>
                  zLet ((zu s230.1 a0 44 v236, s230.2.1, s230.2.2)) fun s237 =>
                  zLet (F_X11_goesOn a0  s237) fun t241 =>
                  kLp8 v190 t241
                else
                  zLet ((1 : Int32)) fun v244 =>
                  zLet (F_X11_comesOut a0 v244 τ21) fun t245 =>
                  zLet ((t245.2.2 a0 43).getD 0) fun v247 =>
                  zLet (t245.1 a0 44) fun v248 =>
                  zLet ((t245.2.2 a0 5).getD 0) fun v249 =>
                  zLet (t245.1 a0 11) fun v250 =>
                  zLet (t245.1 v249 v250.toNatClampNeg) fun v251 =>
                  zLet ((zu t245.1 v247 v248.toNatClampNeg v251, t245.2.1, t245.2.2)) fun s252 =>
                  zLet (s252.1 a0 44) fun v256 =>
                  zLet ((1 : Int32)) fun v257 =>
                  zLet (v256 + v257) fun v258 =>
                  zLet ((zu s252.1 a0 44 v258, s252.2.1, s252.2.2)) fun s259 =>
                  zLet (F_X11_goesOn a0  s259) fun t263 =>
                  kLp8 v190 t263
              else
                zLet ((1 : Int32)) fun v196 =>
                zLet (F_X11_comesOut a0 v196 τ21) fun t197 =>
                zLet ((t197.2.2 a0 43).getD 0) fun v199 =>
                zLet (t197.1 a0 44) fun v200 =>
                zLet ((t197.2.2 a0 5).getD 0) fun v201 =>
                zLet (t197.1 a0 11) fun v202 =>
                zLet (t197.1 v201 v202.toNatClampNeg) fun v203 =>
                zLet ((zu t197.1 v199 v200.toNatClampNeg v203, t197.2.1, t197.2.2)) fun s204 =>
                zLet (s204.1 a0 44) fun v208 =>
                zLet ((1 : Int32)) fun v209 =>
                zLet (v208 + v209) fun v210 =>
                zLet ((zu s204.1 a0 44 v210, s204.2.1, s204.2.2)) fun s211 =>
                zLet (F_X11_goesOn a0  s211) fun t215 =>
                kLp8 v190 t215
        else
          zLet ((1 : Int32)) fun v110 =>
          if v110.toInt = 0 then
            τ21
          else
            zLet ((10 : Int32)) fun v112 =>
            zLet (F_X11_is a0 v112 τ21) fun v114 =>
            if v114.toInt = 0 then
              zLet ((15 : Int32)) fun v138 =>
              zLet (F_X11_is a0 v138 τ21) fun v140 =>
              if v140.toInt = 0 then
                zLet ((0 : Int32)) fun v142 =>
                zLet (F_X11_comesOut a0 v142 τ21) fun t143 =>
                zLet ((t143.2.2 a0 43).getD 0) fun v145 =>
                zLet (t143.1 a0 44) fun v146 =>
                zLet ((t143.2.2 a0 5).getD 0) fun v147 =>
                zLet (t143.1 a0 11) fun v148 =>
                zLet (t143.1 v147 v148.toNatClampNeg) fun v149 =>
                zLet ((zu t143.1 v145 v146.toNatClampNeg v149, t143.2.1, t143.2.2)) fun s150 =>
                zLet (s150.1 a0 44) fun v154 =>
                zLet ((1 : Int32)) fun v155 =>
                zLet (v154 + v155) fun v156 =>
                zLet ((zu s150.1 a0 44 v156, s150.2.1, s150.2.2)) fun s157 =>
                zLet (F_X11_goesOn a0  s157) fun t161 =>
                kLp8 v110 t161
              else
                zLet ((1 : Int32)) fun v164 =>
                zLet (F_X11_comesOut a0 v164 τ21) fun t165 =>
                zLet ((t165.2.2 a0 43).getD 0) fun v167 =>
                zLet (t165.1 a0 44) fun v168 =>
                zLet ((t165.2.2 a0 5).getD 0) fun v169 =>
                zLet (t165.1 a0 11) fun v170 =>
                zLet (t165.1 v169 v170.toNatClampNeg) fun v171 =>
                zLet ((zu t165.1 v167 v168.toNatClampNeg v171, t165.2.1, t165.2.2)) fun s172 =>
                zLet (s172.1 a0 44) fun v176 =>
                zLet ((1 : Int32)) fun v177 =>
                zLet (v176 + v177) fun v178 =>
                zLet ((zu s172.1 a0 44 v178, s172.2.1, s172.2.2)) fun s179 =>
                zLet (F_X11_goesOn a0  s179) fun t183 =>
                kLp8 v110 t183
            else
              zLet ((1 : Int32)) fun v116 =>
              zLet (F_X11_comesOut a0 v116 τ21) fun t117 =>
              zLet ((t117.2.2 a0 43).getD 0) fun v119 =>
              zLet (t117.1 a0 44) fun v120 =>
              zLet ((t117.2.2 a0 5).getD 0) fun v121 =>
              zLet (t117.1 a0 11) fun v122 =>
              zLet (t117.1 v121 v122.toNatClampNeg) fun v123 =>
              zLet ((zu t117.1 v119 v120.toNatClampNeg v123, t117.2.1, t117.2.2)) fun s124 =>
              zLet (s124.1 a0 44) fun v128 =>
              zLet ((1 : Int32)) fun v129 =>
              zLet (v128 + v129) fun v130 =>
              zLet ((zu s124.1 a0 44 v130, s124.2.1, s124.2.2)) fun s131 =>
              zLet (F_X11_goesOn a0  s131) fun t135 =>
              kLp8 v110 t135
      else
        zLet ((1 : Int32)) fun v30 =>
        if v30.toInt = 0 then
          τ21
        else
          zLet ((10 : Int32)) fun v32 =>
          zLet (F_X11_is a0 v32 τ21) fun v34 =>
          if v34.toInt = 0 then
            zLet ((15 : Int32)) fun v58 =>
            zLet (F_X11_is a0 v58 τ21) fun v60 =>
            if v60.toInt = 0 then
              zLet ((0 : Int32)) fun v62 =>
              zLet (F_X11_comesOut a0 v62 τ21) fun t63 =>
              zLet ((t63.2.2 a0 43).getD 0) fun v65 =>
              zLet (t63.1 a0 44) fun v66 =>
              zLet ((t63.2.2 a0 5).getD 0) fun v67 =>
              zLet (t63.1 a0 11) fun v68 =>
              zLet (t63.1 v67 v68.toNatClampNeg) fun v69 =>
              zLet ((zu t63.1 v65 v66.toNatClampNeg v69, t63.2.1, t63.2.2)) fun s70 =>
              zLet (s70.1 a0 44) fun v74 =>
              zLet ((1 : Int32)) fun v75 =>
              zLet (v74 + v75) fun v76 =>
              zLet ((zu s70.1 a0 44 v76, s70.2.1, s70.2.2)) fun s77 =>
              zLet (F_X11_goesOn a0  s77) fun t81 =>
              kLp8 v30 t81
            else
              zLet ((1 : Int32)) fun v84 =>
              zLet (F_X11_comesOut a0 v84 τ21) fun t85 =>
              zLet ((t85.2.2 a0 43).getD 0) fun v87 =>
              zLet (t85.1 a0 44) fun v88 =>
              zLet ((t85.2.2 a0 5).getD 0) fun v89 =>
              zLet (t85.1 a0 11) fun v90 =>
              zLet (t85.1 v89 v90.toNatClampNeg) fun v91 =>
              zLet ((zu t85.1 v87 v88.toNatClampNeg v91, t85.2.1, t85.2.2)) fun s92 =>
              zLet (s92.1 a0 44) fun v96 =>
              zLet ((1 : Int32)) fun v97 =>
              zLet (v96 + v97) fun v98 =>
              zLet ((zu s92.1 a0 44 v98, s92.2.1, s92.2.2)) fun s99 =>
              zLet (F_X11_goesOn a0  s99) fun t103 =>
              kLp8 v30 t103
          else
            zLet ((1 : Int32)) fun v36 =>
            zLet (F_X11_comesOut a0 v36 τ21) fun t37 =>
            zLet ((t37.2.2 a0 43).getD 0) fun v39 =>
            zLet (t37.1 a0 44) fun v40 =>
            zLet ((t37.2.2 a0 5).getD 0) fun v41 =>
            zLet (t37.1 a0 11) fun v42 =>
            zLet (t37.1 v41 v42.toNatClampNeg) fun v43 =>
            zLet ((zu t37.1 v39 v40.toNatClampNeg v43, t37.2.1, t37.2.2)) fun s44 =>
            zLet (s44.1 a0 44) fun v48 =>
            zLet ((1 : Int32)) fun v49 =>
            zLet (v48 + v49) fun v50 =>
            zLet ((zu s44.1 a0 44 v50, s44.2.1, s44.2.2)) fun s51 =>
            zLet (F_X11_goesOn a0  s51) fun t55 =>
            kLp8 v30 t55
    else
      zLet (τ21.1 a0 12) fun v362 =>
      if v5.toInt < v362.toInt then
        zLet ((0 : Int32)) fun v748 =>
        zLet (F_X11_comesOut a0 v748 τ21) fun t749 =>
        zLet (t749.1 a0 44) fun v752 =>
        zLet ((1 : Int32)) fun v753 =>
        zLet (v752 - v753) fun v754 =>
        zLet ((zu t749.1 a0 44 v754, t749.2.1, t749.2.2)) fun s755 =>
        zLet (s755.1 a0 12) fun v759 =>
        zLet ((1 : Int32)) fun v760 =>
        zLet (v759 - v760) fun v761 =>
        zLet ((zu s755.1 a0 12 v761, s755.2.1, s755.2.2)) fun s762 =>
        zLet (F_X11_goesOn a0  s762) fun t766 =>
        F_X11_expression_96 x7 v5 a0 kLp8 kLp12 n  t766
      else
        zLet ((8 : Int32)) fun v364 =>
        zLet (F_X11_is a0 v364 τ21) fun v366 =>
        if v366.toInt = 0 then
          zLet ((9 : Int32)) fun v456 =>
          zLet (F_X11_is a0 v456 τ21) fun v458 =>
          if v458.toInt = 0 then
            zLet ((10 : Int32)) fun v548 =>
            zLet (F_X11_is a0 v548 τ21) fun v550 =>
            if v550.toInt = 0 then
              zLet ((15 : Int32)) fun v640 =>
              zLet (F_X11_is a0 v640 τ21) fun v642 =>
              if v642.toInt = 0 then
                zLet ((0 : Int32)) fun v644 =>
                if v644.toInt = 0 then
                  zLet (τ21.1 a0 12) fun v646 =>
                  if v5.toInt < v646.toInt then
                    zLet ((1 : Int32)) fun v652 =>
                    zLet (F_X11_fail a0 v652 τ21) fun t653 =>
                    zLet ((0 : Int32)) fun v656 =>
                    zLet (F_X11_comesOut a0 v656 t653) fun t657 =>
                    t657
                  else
                    zLet ((0 : Int32)) fun v648 =>
                    zLet (F_X11_comesOut a0 v648 τ21) fun t649 =>
                    t649
                else
                  τ21
              else
                zLet ((1 : Int32)) fun v660 =>
                if v660.toInt = 0 then
                  τ21
                else
                  zLet ((10 : Int32)) fun v662 =>
                  zLet (F_X11_is a0 v662 τ21) fun v664 =>
                  if v664.toInt = 0 then
                    zLet ((15 : Int32)) fun v692 =>
                    zLet (F_X11_is a0 v692 τ21) fun v694 =>
                    if v694.toInt = 0 then
                      zLet ((0 : Int32)) fun v696 =>
                      zLet (F_X11_comesOut a0 v696 τ21) fun t697 =>
                      zLet ((t697.2.2 a0 43).getD 0) fun v700 =>
                      zLet (t697.1 a0 44) fun v701 =>
                      zLet ((t697.2.2 a0 5).getD 0) fun v702 =>
                      zLet (t697.1 a0 11) fun v703 =>
                      zLet (t697.1 v702 v703.toNatClampNeg) fun v704 =>
                      zLet ((zu t697.1 v700 v701.toNatClampNeg v704, t697.2.1, t697.2.2)) fun s705 =>
                      zLet (s705.1 a0 44) fun v710 =>
                      zLet ((1 : Int32)) fun v711 =>
                      zLet (v710 + v711) fun v712 =>
                      zLet ((zu s705.1 a0 44 v712, s705.2.1, s705.2.2)) fun s713 =>
                      zLet (F_X11_goesOn a0  s713) fun t718 =>
                      kLp8 v660 t718
                    else
                      zLet ((1 : Int32)) fun v722 =>
                      zLet (F_X11_comesOut a0 v722 τ21) fun t723 =>
                      zLet ((t723.2.2 a0 43).getD 0) fun v726 =>
                      zLet (t723.1 a0 44) fun v727 =>
                      zLet ((t723.2.2 a0 5).getD 0) fun v728 =>
                      zLet (t723.1 a0 11) fun v729 =>
                      zLet (t723.1 v728 v729.toNatClampNeg) fun v730 =>
                      zLet ((zu t723.1 v726 v727.toNatClampNeg v730, t723.2.1, t723.2.2)) fun s731 =>
                      zLet (s731.1 a0 44) fun v736 =>
                      zLet ((1 : Int32)) fun v737 =>
                      zLet (v736 + v737) fun v738 =>
                      zLet ((zu s731.1 a0 44 v738, s731.2.1, s731.2.2)) fun s739 =>
                      zLet (F_X11_goesOn a0  s739) fun t744 =>
                      kLp8 v660 t744
                  else
                    zLet ((1 : Int32)) fun v666 =>
                    zLet (F_X11_comesOut a0 v666 τ21) fun t667 =>
                    zLet ((t667.2.2 a0 43).getD 0) fun v670 =>
                    zLet (t667.1 a0 44) fun v671 =>
                    zLet ((t667.2.2 a0 5).getD 0) fun v672 =>
                    zLet (t667.1 a0 11) fun v673 =>
                    zLet (t667.1 v672 v673.toNatClampNeg) fun v674 =>
                    zLet ((zu t667.1 v670 v671.toNatClampNeg v674, t667.2.1, t667.2.2)) fun s675 =>
                    zLet (s675.1 a0 44) fun v680 =>
                    zLet ((1 : Int32)) fun v681 =>
                    zLet (v680 + v681) fun v682 =>
                    zLet ((zu s675.1 a0 44 v682, s675.2.1, s675.2.2)) fun s683 =>
                    zLet (F_X11_goesOn a0  s683) fun t688 =>
                    kLp8 v660 t688
            else
              zLet ((1 : Int32)) fun v552 =>
              if v552.toInt = 0 then
                τ21
              else
                zLet ((10 : Int32)) fun v554 =>
                zLet (F_X11_is a0 v554 τ21) fun v556 =>
                if v556.toInt = 0 then
                  zLet ((15 : Int32)) fun v584 =>
                  zLet (F_X11_is a0 v584 τ21) fun v586 =>
                  if v586.toInt = 0 then
                    zLet ((0 : Int32)) fun v588 =>
                    zLet (F_X11_comesOut a0 v588 τ21) fun t589 =>
                    zLet ((t589.2.2 a0 43).getD 0) fun v592 =>
                    zLet (t589.1 a0 44) fun v593 =>
                    zLet ((t589.2.2 a0 5).getD 0) fun v594 =>
                    zLet (t589.1 a0 11) fun v595 =>
                    zLet (t589.1 v594 v595.toNatClampNeg) fun v596 =>
                    zLet ((zu t589.1 v592 v593.toNatClampNeg v596, t589.2.1, t589.2.2)) fun s597 =>
                    zLet (s597.1 a0 44) fun v602 =>
                    zLet ((1 : Int32)) fun v603 =>
                    zLet (v602 + v603) fun v604 =>
                    zLet ((zu s597.1 a0 44 v604, s597.2.1, s597.2.2)) fun s605 =>
                    zLet (F_X11_goesOn a0  s605) fun t610 =>
                    kLp8 v552 t610
                  else
                    zLet ((1 : Int32)) fun v614 =>
                    zLet (F_X11_comesOut a0 v614 τ21) fun t615 =>
                    zLet ((t615.2.2 a0 43).getD 0) fun v618 =>
                    zLet (t615.1 a0 44) fun v619 =>
                    zLet ((t615.2.2 a0 5).getD 0) fun v620 =>
                    zLet (t615.1 a0 11) fun v621 =>
                    zLet (t615.1 v620 v621.toNatClampNeg) fun v622 =>
                    zLet ((zu t615.1 v618 v619.toNatClampNeg v622, t615.2.1, t615.2.2)) fun s623 =>
                    zLet (s623.1 a0 44) fun v628 =>
                    zLet ((1 : Int32)) fun v629 =>
                    zLet (v628 + v629) fun v630 =>
                    zLet ((zu s623.1 a0 44 v630, s623.2.1, s623.2.2)) fun s631 =>
                    zLet (F_X11_goesOn a0  s631) fun t636 =>
                    kLp8 v552 t636
                else
                  zLet ((1 : Int32)) fun v558 =>
                  zLet (F_X11_comesOut a0 v558 τ21) fun t559 =>
                  zLet ((t559.2.2 a0 43).getD 0) fun v562 =>
                  zLet (t559.1 a0 44) fun v563 =>
                  zLet ((t559.2.2 a0 5).getD 0) fun v564 =>
                  zLet (t559.1 a0 11) fun v565 =>
                  zLet (t559.1 v564 v565.toNatClampNeg) fun v566 =>
                  zLet ((zu t559.1 v562 v563.toNatClampNeg v566, t559.2.1, t559.2.2)) fun s567 =>
                  zLet (s567.1 a0 44) fun v572 =>
                  zLet ((1 : Int32)) fun v573 =>
                  zLet (v572 + v573) fun v574 =>
                  zLet ((zu s567.1 a0 44 v574, s567.2.1, s567.2.2)) fun s575 =>
                  zLet (F_X11_goesOn a0  s575) fun t580 =>
                  kLp8 v552 t580
          else
            zLet ((1 : Int32)) fun v460 =>
            if v460.toInt = 0 then
              τ21
            else
              zLet ((10 : Int32)) fun v462 =>
              zLet (F_X11_is a0 v462 τ21) fun v464 =>
              if v464.toInt = 0 then
                zLet ((15 : Int32)) fun v492 =>
                zLet (F_X11_is a0 v492 τ21) fun v494 =>
                if v494.toInt = 0 then
                  zLet ((0 : Int32)) fun v496 =>
                  zLet (F_X11_comesOut a0 v496 τ21) fun t497 =>
                  zLet ((t497.2.2 a0 43).getD 0) fun v500 =>
                  zLet (t497.1 a0 44) fun v501 =>
                  zLet ((t497.2.2 a0 5).getD 0) fun v502 =>
                  zLet (t497.1 a0 11) fun v503 =>
                  zLet (t497.1 v502 v503.toNatClampNeg) fun v504 =>
                  zLet ((zu t497.1 v500 v501.toNatClampNeg v504, t497.2.1, t497.2.2)) fun s505 =>
                  zLet (s505.1 a0 44) fun v510 =>
                  zLet ((1 : Int32)) fun v511 =>
                  zLet (v510 + v511) fun v512 =>
                  zLet ((zu s505.1 a0 44 v512, s505.2.1, s505.2.2)) fun s513 =>
                  zLet (F_X11_goesOn a0  s513) fun t518 =>
                  kLp8 v460 t518
                else
                  zLet ((1 : Int32)) fun v522 =>
                  zLet (F_X11_comesOut a0 v522 τ21) fun t523 =>
                  zLet ((t523.2.2 a0 43).getD 0) fun v526 =>
                  zLet (t523.1 a0 44) fun v527 =>
                  zLet ((t523.2.2 a0 5).getD 0) fun v528 =>
                  zLet (t523.1 a0 11) fun v529 =>
                  zLet (t523.1 v528 v529.toNatClampNeg) fun v530 =>
                  zLet ((zu t523.1 v526 v527.toNatClampNeg v530, t523.2.1, t523.2.2)) fun s531 =>
                  zLet (s531.1 a0 44) fun v536 =>
                  zLet ((1 : Int32)) fun v537 =>
                  zLet (v536 + v537) fun v538 =>
                  zLet ((zu s531.1 a0 44 v538, s531.2.1, s531.2.2)) fun s539 =>
                  zLet (F_X11_goesOn a0  s539) fun t544 =>
                  kLp8 v460 t544
              else
                zLet ((1 : Int32)) fun v466 =>
                zLet (F_X11_comesOut a0 v466 τ21) fun t467 =>
                zLet ((t467.2.2 a0 43).getD 0) fun v470 =>
                zLet (t467.1 a0 44) fun v471 =>
                zLet ((t467.2.2 a0 5).getD 0) fun v472 =>
                zLet (t467.1 a0 11) fun v473 =>
                zLet (t467.1 v472 v473.toNatClampNeg) fun v474 =>
                zLet ((zu t467.1 v470 v471.toNatClampNeg v474, t467.2.1, t467.2.2)) fun s475 =>
                zLet (s475.1 a0 44) fun v480 =>
                zLet ((1 : Int32)) fun v481 =>
                zLet (v480 + v481) fun v482 =>
                zLet ((zu s475.1 a0 44 v482, s475.2.1, s475.2.2)) fun s483 =>
                zLet (F_X11_goesOn a0  s483) fun t488 =>
                kLp8 v460 t488
        else
          zLet ((1 : Int32)) fun v368 =>
          if v368.toInt = 0 then
            τ21
          else
            zLet ((10 : Int32)) fun v370 =>
            zLet (F_X11_is a0 v370 τ21) fun v372 =>
            if v372.toInt = 0 then
              zLet ((15 : Int32)) fun v400 =>
              zLet (F_X11_is a0 v400 τ21) fun v402 =>
              if v402.toInt = 0 then
                zLet ((0 : Int32)) fun v404 =>
                zLet (F_X11_comesOut a0 v404 τ21) fun t405 =>
                zLet ((t405.2.2 a0 43).getD 0) fun v408 =>
                zLet (t405.1 a0 44) fun v409 =>
                zLet ((t405.2.2 a0 5).getD 0) fun v410 =>
                zLet (t405.1 a0 11) fun v411 =>
                zLet (t405.1 v410 v411.toNatClampNeg) fun v412 =>
                zLet ((zu t405.1 v408 v409.toNatClampNeg v412, t405.2.1, t405.2.2)) fun s413 =>
                zLet (s413.1 a0 44) fun v418 =>
                zLet ((1 : Int32)) fun v419 =>
                zLet (v418 + v419) fun v420 =>
                zLet ((zu s413.1 a0 44 v420, s413.2.1, s413.2.2)) fun s421 =>
                zLet (F_X11_goesOn a0  s421) fun t426 =>
                kLp8 v368 t426
              else
                zLet ((1 : Int32)) fun v430 =>
                zLet (F_X11_comesOut a0 v430 τ21) fun t431 =>
                zLet ((t431.2.2 a0 43).getD 0) fun v434 =>
                zLet (t431.1 a0 44) fun v435 =>
                zLet ((t431.2.2 a0 5).getD 0) fun v436 =>
                zLet (t431.1 a0 11) fun v437 =>
                zLet (t431.1 v436 v437.toNatClampNeg) fun v438 =>
                zLet ((zu t431.1 v434 v435.toNatClampNeg v438, t431.2.1, t431.2.2)) fun s439 =>
                zLet (s439.1 a0 44) fun v444 =>
                zLet ((1 : Int32)) fun v445 =>
                zLet (v444 + v445) fun v446 =>
                zLet ((zu s439.1 a0 44 v446, s439.2.1, s439.2.2)) fun s447 =>
                zLet (F_X11_goesOn a0  s447) fun t452 =>
                kLp8 v368 t452
            else
              zLet ((1 : Int32)) fun v374 =>
              zLet (F_X11_comesOut a0 v374 τ21) fun t375 =>
              zLet ((t375.2.2 a0 43).getD 0) fun v378 =>
              zLet (t375.1 a0 44) fun v379 =>
              zLet ((t375.2.2 a0 5).getD 0) fun v380 =>
              zLet (t375.1 a0 11) fun v381 =>
              zLet (t375.1 v380 v381.toNatClampNeg) fun v382 =>
              zLet ((zu t375.1 v378 v379.toNatClampNeg v382, t375.2.1, t375.2.2)) fun s383 =>
              zLet (s383.1 a0 44) fun v388 =>
              zLet ((1 : Int32)) fun v389 =>
              zLet (v388 + v389) fun v390 =>
              zLet ((zu s383.1 a0 44 v390, s383.2.1, s383.2.2)) fun s391 =>
              zLet (F_X11_goesOn a0  s391) fun t396 =>
              kLp8 v368 t396
set_option maxRecDepth 100000 in
noncomputable def F_X11_expression_23 (x7 : Int32) (v5 : Int32) (a0 : Nat) (kLp8 : Int32 → zS → zS) : Nat → zS → zS
  | 0, s => s
  | n + 1, τ12 =>
    zLet ((6 : Int32)) fun v13 =>
    zLet (F_X11_is a0 v13 τ12) fun v15 =>
    if v15.toInt = 0 then
      zLet (F_X11_unit a0  τ12) fun t17 =>
      zLet (t17.1 a0 13) fun v19 =>
      if 0 < v19.toInt then
        t17
      else
        F_X11_expression_96 x7 v5 a0 kLp8 (F_X11_expression_23 x7 v5 a0 kLp8 n) 10000  t17
    else
      zLet (τ12.1 a0 12) fun v770 =>
      zLet ((6 : Int32)) fun v771 =>
      if v770.toInt = v771.toInt then
        zLet ((2 : Int32)) fun v796 =>
        zLet (F_X11_fail a0 v796 τ12) fun t797 =>
        zLet (t797.1 a0 12) fun v800 =>
        zLet ((1 : Int32)) fun v801 =>
        zLet (v800 + v801) fun v802 =>
        zLet ((zu t797.1 a0 12 v802, t797.2.1, t797.2.2)) fun s803 =>
        zLet (F_X11_goesOn a0  s803) fun t806 =>
        zLet ((t806.2.2 a0 43).getD 0) fun v809 =>
        zLet (t806.1 a0 44) fun v810 =>
        zLet ((6 : Int32)) fun v811 =>
        zLet ((zu t806.1 v809 v810.toNatClampNeg v811, t806.2.1, t806.2.2)) fun s812 =>
        zLet (s812.1 a0 44) fun v816 =>
        zLet ((1 : Int32)) fun v817 =>
        zLet (v816 + v817) fun v818 =>
        zLet ((zu s812.1 a0 44 v818, s812.2.1, s812.2.2)) fun s819 =>
        F_X11_expression_23 x7 v5 a0 kLp8 n  s819
      else
        zLet (τ12.1 a0 12) fun v773 =>
        zLet ((1 : Int32)) fun v774 =>
        zLet (v773 + v774) fun v775 =>
        zLet ((zu τ12.1 a0 12 v775, τ12.2.1, τ12.2.2)) fun s776 =>
        zLet (F_X11_goesOn a0  s776) fun t779 =>
        zLet ((t779.2.2 a0 43).getD 0) fun v782 =>
        zLet (t779.1 a0 44) fun v783 =>
        zLet ((6 : Int32)) fun v784 =>
        zLet ((zu t779.1 v782 v783.toNatClampNeg v784, t779.2.1, t779.2.2)) fun s785 =>
        zLet (s785.1 a0 44) fun v789 =>
        zLet ((1 : Int32)) fun v790 =>
        zLet (v789 + v790) fun v791 =>
        zLet ((zu s785.1 a0 44 v791, s785.2.1, s785.2.2)) fun s792 =>
        F_X11_expression_23 x7 v5 a0 kLp8 n  s792
set_option maxRecDepth 100000 in
noncomputable def F_X11_expression_12 (v5 : Int32) (a0 : Nat)  : Nat → Int32 → zS → zS
  | 0, _, s => s
  | n + 1, x7, τ8 =>
    if x7.toInt = 0 then
      τ8
    else
      zLet (τ8.1 a0 13) fun v10 =>
      if v10.toInt = 0 then
        F_X11_expression_23 x7 v5 a0 (F_X11_expression_12 v5 a0  n) 10000  τ8
      else
        τ8
set_option maxRecDepth 100000 in
noncomputable def F_X11_expression (a0 : Nat) (σ : zS) : zS :=
  zLet ((0 : Int32)) fun v1 =>
  zLet ((zu σ.1 a0 44 v1, σ.2.1, σ.2.2)) fun s2 =>
  zLet (s2.1 a0 12) fun v5 =>
  zLet ((1 : Int32)) fun v6 =>
  F_X11_expression_12 v5 a0  10000 v6 s2
set_option maxRecDepth 100000 in
noncomputable def F_X11_term (a0 : Nat) (σ : zS) : zS :=
  zLet ((σ.2.2 a0 36).getD 0) fun v1 =>
  zLet (σ.1 a0 32) fun v2 =>
  zLet (σ.1 a0 38) fun v3 =>
  zLet ((zu σ.1 v1 v2.toNatClampNeg v3, σ.2.1, σ.2.2)) fun s4 =>
  zLet (s4.1 a0 13) fun v8 =>
  if v8.toInt = 0 then
    zLet (F_X11_expression a0  s4) fun t26 =>
    zLet ((t26.2.2 a0 37).getD 0) fun v29 =>
    zLet (t26.1 a0 32) fun v30 =>
    zLet (t26.1 a0 38) fun v31 =>
    zLet ((zu t26.1 v29 v30.toNatClampNeg v31, t26.2.1, t26.2.2)) fun s32 =>
    zLet (s32.1 a0 32) fun v36 =>
    zLet ((1 : Int32)) fun v37 =>
    zLet (v36 + v37) fun v38 =>
    zLet ((zu s32.1 a0 32 v38, s32.2.1, s32.2.2)) fun s39 =>
    s39
  else
    zLet ((s4.2.2 a0 37).getD 0) fun v10 =>
    zLet (s4.1 a0 32) fun v11 =>
    zLet (s4.1 a0 38) fun v12 =>
    zLet ((zu s4.1 v10 v11.toNatClampNeg v12, s4.2.1, s4.2.2)) fun s13 =>
    zLet (s13.1 a0 32) fun v18 =>
    zLet ((1 : Int32)) fun v19 =>
    zLet (v18 + v19) fun v20 =>
    zLet ((zu s13.1 a0 32 v20, s13.2.1, s13.2.2)) fun s21 =>
    s21
set_option maxRecDepth 100000 in
noncomputable def F_X11_tellLaw_12 (v4 : Int32) (a0 : Nat) (p1 : Int32)  : Nat → Int32 → zS → zS
  | 0, _, s => s
  | n + 1, x6, τ7 =>
    zLet (τ7.1 a0 13) fun v8 =>
    if v8.toInt = 0 then
      zLet ((30 : Int32)) fun v24 =>
      zLet (F_X11_is a0 v24 τ7) fun v26 =>
      if v26.toInt = 0 then
        zLet ((τ7.2.2 a0 33).getD 0) fun v28 =>
        zLet (τ7.1 a0 32) fun v29 =>
        zLet ((0 : Int32)) fun v30 =>
        zLet ((zu τ7.1 v28 v29.toNatClampNeg (vp_nar .boolean v30), τ7.2.1, τ7.2.2)) fun s31 =>
        zLet (F_X11_term a0  s31) fun t35 =>
        zLet ((4 : Int32)) fun v37 =>
        zLet (F_X11_must a0 v37 t35) fun t38 =>
        zLet (t38.1 a0 13) fun v40 =>
        if 0 < v40.toInt then
          t38
        else
          zLet ((t38.2.2 a0 30).getD 0) fun v42 =>
          zLet ((5 : Int32)) fun v43 =>
          zLet (t38.1 a0 19) fun v44 =>
          zLet (v43 * v44) fun v45 =>
          zLet (v45 + p1) fun v46 =>
          zLet ((zu t38.1 v42 v46.toNatClampNeg v4, t38.2.1, t38.2.2)) fun s47 =>
          zLet ((s47.2.2 a0 31).getD 0) fun v51 =>
          zLet ((5 : Int32)) fun v52 =>
          zLet (s47.1 a0 19) fun v53 =>
          zLet (v52 * v53) fun v54 =>
          zLet (v54 + p1) fun v55 =>
          zLet (s47.1 a0 32) fun v56 =>
          zLet ((zu s47.1 v51 v55.toNatClampNeg v56, s47.2.1, s47.2.2)) fun s57 =>
          s57
      else
        zLet ((4 : Int32)) fun v62 =>
        if x6.toInt = v62.toInt then
          zLet ((2 : Int32)) fun v120 =>
          zLet (F_X11_fail a0 v120 τ7) fun t121 =>
          zLet (t121.1 a0 13) fun v123 =>
          if 0 < v123.toInt then
            t121
          else
            t121
        else
          zLet (τ7.1 a0 13) fun v64 =>
          if 0 < v64.toInt then
            τ7
          else
            zLet (x6 + (1 : Int32)) fun v66 =>
            zLet (F_X11_goesOn a0  τ7) fun t67 =>
            zLet ((t67.2.2 a0 33).getD 0) fun v69 =>
            zLet (t67.1 a0 32) fun v70 =>
            zLet ((1 : Int32)) fun v71 =>
            zLet ((zu t67.1 v69 v70.toNatClampNeg (vp_nar .boolean v71), t67.2.1, t67.2.2)) fun s72 =>
            zLet ((s72.2.2 a0 34).getD 0) fun v75 =>
            zLet (s72.1 a0 32) fun v76 =>
            zLet (s72.1 a0 38) fun v77 =>
            zLet ((zu s72.1 v75 v76.toNatClampNeg v77, s72.2.1, s72.2.2)) fun s78 =>
            zLet (F_X11_expression a0  s78) fun t82 =>
            zLet ((13 : Int32)) fun v85 =>
            zLet (F_X11_must a0 v85 t82) fun t86 =>
            zLet ((t86.2.2 a0 35).getD 0) fun v89 =>
            zLet (t86.1 a0 32) fun v90 =>
            zLet (t86.1 a0 38) fun v91 =>
            zLet ((zu t86.1 v89 v90.toNatClampNeg v91, t86.2.1, t86.2.2)) fun s92 =>
            zLet (s92.1 a0 13) fun v96 =>
            if v96.toInt = 0 then
              zLet (F_X11_expression a0  s92) fun t108 =>
              zLet ((31 : Int32)) fun v111 =>
              zLet (F_X11_must a0 v111 t108) fun t112 =>
              zLet (F_X11_term a0  t112) fun t115 =>
              zLet ((32 : Int32)) fun v117 =>
              zLet (F_X11_must a0 v117 t115) fun t118 =>
              F_X11_tellLaw_12 v4 a0 p1  n v66 t118
            else
              zLet ((31 : Int32)) fun v98 =>
              zLet (F_X11_must a0 v98 s92) fun t99 =>
              zLet (F_X11_term a0  t99) fun t103 =>
              zLet ((32 : Int32)) fun v105 =>
              zLet (F_X11_must a0 v105 t103) fun t106 =>
              F_X11_tellLaw_12 v4 a0 p1  n v66 t106
    else
      zLet ((τ7.2.2 a0 33).getD 0) fun v10 =>
      zLet (τ7.1 a0 32) fun v11 =>
      zLet ((0 : Int32)) fun v12 =>
      zLet ((zu τ7.1 v10 v11.toNatClampNeg (vp_nar .boolean v12), τ7.2.1, τ7.2.2)) fun s13 =>
      zLet (F_X11_term a0  s13) fun t17 =>
      zLet ((4 : Int32)) fun v19 =>
      zLet (F_X11_must a0 v19 t17) fun t20 =>
      zLet (t20.1 a0 13) fun v22 =>
      if 0 < v22.toInt then
        t20
      else
        t20
set_option maxRecDepth 100000 in
noncomputable def F_X11_tellLaw (a0 : Nat) (p1 : Int32) (σ : zS) : zS :=
  zLet ((5 : Int32)) fun v1 =>
  zLet (F_X11_must a0 v1 σ) fun t2 =>
  zLet (t2.1 a0 32) fun v4 =>
  zLet ((0 : Int32)) fun v5 =>
  F_X11_tellLaw_12 v4 a0 p1  10000 v5 t2
set_option maxRecDepth 100000 in
noncomputable def F_X11_tellMouth (a0 : Nat) (σ : zS) : zS :=
  zLet2 (F_X11_named a0  σ) fun v2 t1 =>
  zLet ((4 : Int32)) fun v4 =>
  zLet (F_X11_must a0 v4 t1) fun t5 =>
  zLet (t5.1 a0 13) fun v7 =>
  if 0 < v7.toInt then
    t5
  else
    zLet ((1 : Int32)) fun v9 =>
    zLet ((zu t5.1 a0 41 v9, t5.2.1, t5.2.2)) fun s10 =>
    zLet ((s10.2.2 a0 20).getD 0) fun v14 =>
    zLet ((0 : Int32)) fun v15 =>
    zLet ((s10.2.2 a0 8).getD 0) fun v16 =>
    zLet (s10.2.1 v16 v2.toNatClampNeg) fun v17 =>
    zLet ((s10.1, zu s10.2.1 v14 v15.toNatClampNeg v17, s10.2.2)) fun s18 =>
    zLet ((12 : Int32)) fun v22 =>
    zLet (s18.1 a0 19) fun v23 =>
    zLet (v22 * v23) fun v24 =>
    zLet ((s18.2.2 a0 22).getD 0) fun v25 =>
    zLet ((-2 : Int32)) fun v26 =>
    zLet ((zu s18.1 v25 v24.toNatClampNeg v26, s18.2.1, s18.2.2)) fun s27 =>
    zLet ((s27.2.2 a0 23).getD 0) fun v32 =>
    zLet ((0 : Int32)) fun v33 =>
    zLet ((zu s27.1 v32 v24.toNatClampNeg v33, s27.2.1, s27.2.2)) fun s34 =>
    zLet ((s34.2.2 a0 24).getD 0) fun v39 =>
    zLet ((0 : Int32)) fun v40 =>
    zLet ((zu s34.1 v39 v24.toNatClampNeg v40, s34.2.1, s34.2.2)) fun s41 =>
    zLet ((s41.2.2 a0 25).getD 0) fun v46 =>
    zLet ((0 : Int32)) fun v47 =>
    zLet ((zu s41.1 v46 v24.toNatClampNeg v47, s41.2.1, s41.2.2)) fun s48 =>
    zLet ((s48.2.2 a0 21).getD 0) fun v53 =>
    zLet (s48.1 a0 19) fun v54 =>
    zLet (s48.1 a0 42) fun v55 =>
    zLet ((1 : Int32)) fun v56 =>
    zLet (v55 + v56) fun v57 =>
    zLet ((zu s48.1 v53 v54.toNatClampNeg v57, s48.2.1, s48.2.2)) fun s58 =>
    s58
set_option maxRecDepth 100000 in
noncomputable def F_X11_tellPlace (a0 : Nat) (σ : zS) : zS :=
  zLet ((12 : Int32)) fun v1 =>
  zLet (σ.1 a0 19) fun v2 =>
  zLet (v1 * v2) fun v3 =>
  zLet (σ.1 a0 42) fun v4 =>
  zLet (v3 + v4) fun v5 =>
  zLet ((1 : Int32)) fun v6 =>
  zLet (v5 + v6) fun v7 =>
  zLet2 (F_X11_named a0  σ) fun v9 t8 =>
  zLet (t8.1 a0 11) fun v13 =>
  zLet ((1 : Int32)) fun v14 =>
  zLet (F_X11_must a0 v14 t8) fun t15 =>
  zLet (t15.1 a0 13) fun v19 =>
  if 0 < v19.toInt then
    t15
  else
    zLet ((t15.2.2 a0 22).getD 0) fun v21 =>
    zLet (F_X11_numberOf a0 v13 t15) fun v23 =>
    zLet ((zu t15.1 v21 v7.toNatClampNeg v23, t15.2.1, t15.2.2)) fun s24 =>
    zLet ((s24.2.2 a0 22).getD 0) fun v29 =>
    zLet (s24.1 v29 v7.toNatClampNeg) fun v30 =>
    if v30.toInt < 0 then
      zLet ((4 : Int32)) fun v108 =>
      zLet (F_X11_wrong a0 v108 v13 s24) fun t109 =>
      zLet ((t109.2.2 a0 23).getD 0) fun v114 =>
      zLet ((1 : Int32)) fun v115 =>
      zLet ((99 : Int32)) fun v116 =>
      zLet2 (F_X11_bounded a0 v115 v116 t109) fun v118 t117 =>
      zLet ((zu t117.1 v114 v7.toNatClampNeg v118, t117.2.1, t117.2.2)) fun s123 =>
      zLet ((s123.2.2 a0 24).getD 0) fun v127 =>
      zLet ((0 : Int32)) fun v128 =>
      zLet ((99 : Int32)) fun v129 =>
      zLet2 (F_X11_bounded a0 v128 v129 s123) fun v131 t130 =>
      zLet ((zu t130.1 v127 v7.toNatClampNeg v131, t130.2.1, t130.2.2)) fun s136 =>
      zLet ((s136.2.2 a0 25).getD 0) fun v140 =>
      zLet ((0 : Int32)) fun v141 =>
      zLet ((99 : Int32)) fun v142 =>
      zLet2 (F_X11_bounded a0 v141 v142 s136) fun v144 t143 =>
      zLet ((zu t143.1 v140 v7.toNatClampNeg v144, t143.2.1, t143.2.2)) fun s149 =>
      zLet ((4 : Int32)) fun v153 =>
      zLet (F_X11_must a0 v153 s149) fun t154 =>
      zLet (t154.1 a0 13) fun v158 =>
      if 0 < v158.toInt then
        t154
      else
        zLet (t154.1 a0 42) fun v160 =>
        zLet ((1 : Int32)) fun v161 =>
        zLet (v160 + v161) fun v162 =>
        zLet ((zu t154.1 a0 42 v162, t154.2.1, t154.2.2)) fun s163 =>
        zLet ((s163.2.2 a0 20).getD 0) fun v168 =>
        zLet (s163.1 a0 42) fun v169 =>
        zLet ((s163.2.2 a0 8).getD 0) fun v170 =>
        zLet (s163.2.1 v170 v9.toNatClampNeg) fun v171 =>
        zLet ((s163.1, zu s163.2.1 v168 v169.toNatClampNeg v171, s163.2.2)) fun s172 =>
        zLet (s172.1 a0 41) fun v177 =>
        if v177.toInt = 0 then
          s172
        else
          zLet ((s172.2.2 a0 21).getD 0) fun v179 =>
          zLet (s172.1 a0 19) fun v180 =>
          zLet (s172.1 a0 42) fun v181 =>
          zLet ((1 : Int32)) fun v182 =>
          zLet (v181 + v182) fun v183 =>
          zLet ((zu s172.1 v179 v180.toNatClampNeg v183, s172.2.1, s172.2.2)) fun s184 =>
          s184
    else
      zLet ((s24.2.2 a0 23).getD 0) fun v32 =>
      zLet ((1 : Int32)) fun v33 =>
      zLet ((99 : Int32)) fun v34 =>
      zLet2 (F_X11_bounded a0 v33 v34 s24) fun v36 t35 =>
      zLet ((zu t35.1 v32 v7.toNatClampNeg v36, t35.2.1, t35.2.2)) fun s41 =>
      zLet ((s41.2.2 a0 24).getD 0) fun v45 =>
      zLet ((0 : Int32)) fun v46 =>
      zLet ((99 : Int32)) fun v47 =>
      zLet2 (F_X11_bounded a0 v46 v47 s41) fun v49 t48 =>
      zLet ((zu t48.1 v45 v7.toNatClampNeg v49, t48.2.1, t48.2.2)) fun s54 =>
      zLet ((s54.2.2 a0 25).getD 0) fun v58 =>
      zLet ((0 : Int32)) fun v59 =>
      zLet ((99 : Int32)) fun v60 =>
      zLet2 (F_X11_bounded a0 v59 v60 s54) fun v62 t61 =>
      zLet ((zu t61.1 v58 v7.toNatClampNeg v62, t61.2.1, t61.2.2)) fun s67 =>
      zLet ((4 : Int32)) fun v71 =>
      zLet (F_X11_must a0 v71 s67) fun t72 =>
      zLet (t72.1 a0 13) fun v76 =>
      if 0 < v76.toInt then
        t72
      else
        zLet (t72.1 a0 42) fun v78 =>
        zLet ((1 : Int32)) fun v79 =>
        zLet (v78 + v79) fun v80 =>
        zLet ((zu t72.1 a0 42 v80, t72.2.1, t72.2.2)) fun s81 =>
        zLet ((s81.2.2 a0 20).getD 0) fun v86 =>
        zLet (s81.1 a0 42) fun v87 =>
        zLet ((s81.2.2 a0 8).getD 0) fun v88 =>
        zLet (s81.2.1 v88 v9.toNatClampNeg) fun v89 =>
        zLet ((s81.1, zu s81.2.1 v86 v87.toNatClampNeg v89, s81.2.2)) fun s90 =>
        zLet (s90.1 a0 41) fun v95 =>
        if v95.toInt = 0 then
          s90
        else
          zLet ((s90.2.2 a0 21).getD 0) fun v97 =>
          zLet (s90.1 a0 19) fun v98 =>
          zLet (s90.1 a0 42) fun v99 =>
          zLet ((1 : Int32)) fun v100 =>
          zLet (v99 + v100) fun v101 =>
          zLet ((zu s90.1 v97 v98.toNatClampNeg v101, s90.2.1, s90.2.2)) fun s102 =>
          s102
set_option maxRecDepth 100000 in
noncomputable def F_X11_tellOne (a0 : Nat) (σ : zS) : zS :=
  zLet ((σ.2.2 a0 5).getD 0) fun v1 =>
  zLet (σ.1 a0 11) fun v2 =>
  zLet (σ.1 v1 v2.toNatClampNeg) fun v3 =>
  if v3.toInt = 20 then
    zLet (σ.1 a0 41) fun v5 =>
    if v5.toInt = 0 then
      zLet (σ.1 a0 13) fun v7 =>
      if 0 < v7.toInt then
        σ
      else
        zLet (F_X11_goesOn a0  σ) fun t9 =>
        zLet (F_X11_tellMouth a0  t9) fun t12 =>
        t12
    else
      zLet ((2 : Int32)) fun v14 =>
      zLet (F_X11_fail a0 v14 σ) fun t15 =>
      zLet (t15.1 a0 13) fun v19 =>
      if 0 < v19.toInt then
        t15
      else
        zLet (F_X11_goesOn a0  t15) fun t21 =>
        zLet (F_X11_tellMouth a0  t21) fun t24 =>
        t24
  else
    if v3.toInt = 21 then
      zLet (σ.1 a0 42) fun v27 =>
      zLet ((11 : Int32)) fun v28 =>
      if v27.toInt = v28.toInt then
        zLet ((2 : Int32)) fun v37 =>
        zLet (F_X11_fail a0 v37 σ) fun t38 =>
        zLet (t38.1 a0 13) fun v42 =>
        if 0 < v42.toInt then
          t38
        else
          zLet (F_X11_goesOn a0  t38) fun t44 =>
          zLet (F_X11_tellPlace a0  t44) fun t47 =>
          t47
      else
        zLet (σ.1 a0 13) fun v30 =>
        if 0 < v30.toInt then
          σ
        else
          zLet (F_X11_goesOn a0  σ) fun t32 =>
          zLet (F_X11_tellPlace a0  t32) fun t35 =>
          t35
    else
      if v3.toInt = 22 then
        zLet ((σ.2.2 a0 5).getD 0) fun v50 =>
        zLet (σ.1 a0 11) fun v51 =>
        zLet (σ.1 v50 v51.toNatClampNeg) fun v52 =>
        zLet ((22 : Int32)) fun v53 =>
        zLet (v52 - v53) fun v54 =>
        if v54.toInt < 0 then
          zLet ((1 : Int32)) fun v56 =>
          zLet (F_X11_fail a0 v56 σ) fun t57 =>
          zLet (t57.1 a0 13) fun v60 =>
          if 0 < v60.toInt then
            t57
          else
            zLet (F_X11_goesOn a0  t57) fun t62 =>
            zLet (F_X11_tellLaw a0 v54 t62) fun t64 =>
            t64
        else
          zLet ((σ.2.2 a0 5).getD 0) fun v66 =>
          zLet (σ.1 a0 11) fun v67 =>
          zLet (σ.1 v66 v67.toNatClampNeg) fun v68 =>
          zLet ((26 : Int32)) fun v69 =>
          if v69.toInt < v68.toInt then
            zLet ((1 : Int32)) fun v78 =>
            zLet (F_X11_fail a0 v78 σ) fun t79 =>
            zLet (t79.1 a0 13) fun v82 =>
            if 0 < v82.toInt then
              t79
            else
              zLet (F_X11_goesOn a0  t79) fun t84 =>
              zLet (F_X11_tellLaw a0 v54 t84) fun t86 =>
              t86
          else
            zLet (σ.1 a0 13) fun v72 =>
            if 0 < v72.toInt then
              σ
            else
              zLet (F_X11_goesOn a0  σ) fun t74 =>
              zLet (F_X11_tellLaw a0 v54 t74) fun t76 =>
              t76
      else
        if v3.toInt = 23 then
          zLet ((σ.2.2 a0 5).getD 0) fun v89 =>
          zLet (σ.1 a0 11) fun v90 =>
          zLet (σ.1 v89 v90.toNatClampNeg) fun v91 =>
          zLet ((22 : Int32)) fun v92 =>
          zLet (v91 - v92) fun v93 =>
          if v93.toInt < 0 then
            zLet ((1 : Int32)) fun v95 =>
            zLet (F_X11_fail a0 v95 σ) fun t96 =>
            zLet (t96.1 a0 13) fun v99 =>
            if 0 < v99.toInt then
              t96
            else
              zLet (F_X11_goesOn a0  t96) fun t101 =>
              zLet (F_X11_tellLaw a0 v93 t101) fun t103 =>
              t103
          else
            zLet ((σ.2.2 a0 5).getD 0) fun v105 =>
            zLet (σ.1 a0 11) fun v106 =>
            zLet (σ.1 v105 v106.toNatClampNeg) fun v107 =>
            zLet ((26 : Int32)) fun v108 =>
            if v108.toInt < v107.toInt then
              zLet ((1 : Int32)) fun v117 =>
              zLet (F_X11_fail a0 v117 σ) fun t118 =>
              zLet (t118.1 a0 13) fun v121 =>
              if 0 < v121.toInt then
                t118
              else
                zLet (F_X11_goesOn a0  t118) fun t123 =>
                zLet (F_X11_tellLaw a0 v93 t123) fun t125 =>
                t125
            else
              zLet (σ.1 a0 13) fun v111 =>
              if 0 < v111.toInt then
                σ
              else
                zLet (F_X11_goesOn a0  σ) fun t113 =>
                zLet (F_X11_tellLaw a0 v93 t113) fun t115 =>
                t115
        else
          if v3.toInt = 24 then
            zLet ((σ.2.2 a0 5).getD 0) fun v128 =>
            zLet (σ.1 a0 11) fun v129 =>
            zLet (σ.1 v128 v129.toNatClampNeg) fun v130 =>
            zLet ((22 : Int32)) fun v131 =>
            zLet (v130 - v131) fun v132 =>
            if v132.toInt < 0 then
              zLet ((1 : Int32)) fun v134 =>
              zLet (F_X11_fail a0 v134 σ) fun t135 =>
              zLet (t135.1 a0 13) fun v138 =>
              if 0 < v138.toInt then
                t135
              else
                zLet (F_X11_goesOn a0  t135) fun t140 =>
                zLet (F_X11_tellLaw a0 v132 t140) fun t142 =>
                t142
            else
              zLet ((σ.2.2 a0 5).getD 0) fun v144 =>
              zLet (σ.1 a0 11) fun v145 =>
              zLet (σ.1 v144 v145.toNatClampNeg) fun v146 =>
              zLet ((26 : Int32)) fun v147 =>
              if v147.toInt < v146.toInt then
                zLet ((1 : Int32)) fun v156 =>
                zLet (F_X11_fail a0 v156 σ) fun t157 =>
                zLet (t157.1 a0 13) fun v160 =>
                if 0 < v160.toInt then
                  t157
                else
                  zLet (F_X11_goesOn a0  t157) fun t162 =>
                  zLet (F_X11_tellLaw a0 v132 t162) fun t164 =>
                  t164
              else
                zLet (σ.1 a0 13) fun v150 =>
                if 0 < v150.toInt then
                  σ
                else
                  zLet (F_X11_goesOn a0  σ) fun t152 =>
                  zLet (F_X11_tellLaw a0 v132 t152) fun t154 =>
                  t154
          else
            if v3.toInt = 25 then
              zLet ((σ.2.2 a0 5).getD 0) fun v167 =>
              zLet (σ.1 a0 11) fun v168 =>
              zLet (σ.1 v167 v168.toNatClampNeg) fun v169 =>
              zLet ((22 : Int32)) fun v170 =>
              zLet (v169 - v170) fun v171 =>
              if v171.toInt < 0 then
                zLet ((1 : Int32)) fun v173 =>
                zLet (F_X11_fail a0 v173 σ) fun t174 =>
                zLet (t174.1 a0 13) fun v177 =>
                if 0 < v177.toInt then
                  t174
                else
                  zLet (F_X11_goesOn a0  t174) fun t179 =>
                  zLet (F_X11_tellLaw a0 v171 t179) fun t181 =>
                  t181
              else
                zLet ((σ.2.2 a0 5).getD 0) fun v183 =>
                zLet (σ.1 a0 11) fun v184 =>
                zLet (σ.1 v183 v184.toNatClampNeg) fun v185 =>
                zLet ((26 : Int32)) fun v186 =>
                if v186.toInt < v185.toInt then
                  zLet ((1 : Int32)) fun v195 =>
                  zLet (F_X11_fail a0 v195 σ) fun t196 =>
                  zLet (t196.1 a0 13) fun v199 =>
                  if 0 < v199.toInt then
                    t196
                  else
                    zLet (F_X11_goesOn a0  t196) fun t201 =>
                    zLet (F_X11_tellLaw a0 v171 t201) fun t203 =>
                    t203
                else
                  zLet (σ.1 a0 13) fun v189 =>
                  if 0 < v189.toInt then
                    σ
                  else
                    zLet (F_X11_goesOn a0  σ) fun t191 =>
                    zLet (F_X11_tellLaw a0 v171 t191) fun t193 =>
                    t193
            else
              if v3.toInt = 26 then
                zLet ((σ.2.2 a0 5).getD 0) fun v206 =>
                zLet (σ.1 a0 11) fun v207 =>
                zLet (σ.1 v206 v207.toNatClampNeg) fun v208 =>
                zLet ((22 : Int32)) fun v209 =>
                zLet (v208 - v209) fun v210 =>
                if v210.toInt < 0 then
                  zLet ((1 : Int32)) fun v212 =>
                  zLet (F_X11_fail a0 v212 σ) fun t213 =>
                  zLet (t213.1 a0 13) fun v216 =>
                  if 0 < v216.toInt then
                    t213
                  else
                    zLet (F_X11_goesOn a0  t213) fun t218 =>
                    zLet (F_X11_tellLaw a0 v210 t218) fun t220 =>
                    t220
                else
                  zLet ((σ.2.2 a0 5).getD 0) fun v222 =>
                  zLet (σ.1 a0 11) fun v223 =>
                  zLet (σ.1 v222 v223.toNatClampNeg) fun v224 =>
                  zLet ((26 : Int32)) fun v225 =>
                  if v225.toInt < v224.toInt then
                    zLet ((1 : Int32)) fun v234 =>
                    zLet (F_X11_fail a0 v234 σ) fun t235 =>
                    zLet (t235.1 a0 13) fun v238 =>
                    if 0 < v238.toInt then
                      t235
                    else
                      zLet (F_X11_goesOn a0  t235) fun t240 =>
                      zLet (F_X11_tellLaw a0 v210 t240) fun t242 =>
                      t242
                  else
                    zLet (σ.1 a0 13) fun v228 =>
                    if 0 < v228.toInt then
                      σ
                    else
                      zLet (F_X11_goesOn a0  σ) fun t230 =>
                      zLet (F_X11_tellLaw a0 v210 t230) fun t232 =>
                      t232
              else
                if v3.toInt = 27 then
                  zLet (F_X11_goesOn a0  σ) fun t245 =>
                  zLet ((t245.2.2 a0 26).getD 0) fun v247 =>
                  zLet (t245.1 a0 19) fun v248 =>
                  zLet ((0 : Int32)) fun v249 =>
                  zLet ((100 : Int32)) fun v250 =>
                  zLet2 (F_X11_bounded a0 v249 v250 t245) fun v252 t251 =>
                  zLet ((zu t251.1 v247 v248.toNatClampNeg v252, t251.2.1, t251.2.2)) fun s256 =>
                  zLet ((s256.2.2 a0 27).getD 0) fun v259 =>
                  zLet (s256.1 a0 19) fun v260 =>
                  zLet ((0 : Int32)) fun v261 =>
                  zLet ((99 : Int32)) fun v262 =>
                  zLet2 (F_X11_bounded a0 v261 v262 s256) fun v264 t263 =>
                  zLet ((zu t263.1 v259 v260.toNatClampNeg v264, t263.2.1, t263.2.2)) fun s268 =>
                  zLet ((4 : Int32)) fun v271 =>
                  zLet (F_X11_must a0 v271 s268) fun t272 =>
                  t272
                else
                  if v3.toInt = 28 then
                    zLet (F_X11_goesOn a0  σ) fun t276 =>
                    zLet ((t276.2.2 a0 28).getD 0) fun v278 =>
                    zLet (t276.1 a0 19) fun v279 =>
                    zLet ((0 : Int32)) fun v280 =>
                    zLet ((99 : Int32)) fun v281 =>
                    zLet2 (F_X11_bounded a0 v280 v281 t276) fun v283 t282 =>
                    zLet ((zu t282.1 v278 v279.toNatClampNeg v283, t282.2.1, t282.2.2)) fun s287 =>
                    zLet ((4 : Int32)) fun v290 =>
                    zLet (F_X11_must a0 v290 s287) fun t291 =>
                    t291
                  else
                    if v3.toInt = 29 then
                      zLet (F_X11_goesOn a0  σ) fun t295 =>
                      zLet ((t295.2.2 a0 29).getD 0) fun v297 =>
                      zLet (t295.1 a0 19) fun v298 =>
                      zLet ((0 : Int32)) fun v299 =>
                      zLet ((9999 : Int32)) fun v300 =>
                      zLet2 (F_X11_bounded a0 v299 v300 t295) fun v302 t301 =>
                      zLet ((zu t301.1 v297 v298.toNatClampNeg v302, t301.2.1, t301.2.2)) fun s306 =>
                      zLet ((4 : Int32)) fun v309 =>
                      zLet (F_X11_must a0 v309 s306) fun t310 =>
                      t310
                    else
                      zLet ((σ.2.2 a0 5).getD 0) fun v313 =>
                      zLet (σ.1 a0 11) fun v314 =>
                      zLet (σ.1 v313 v314.toNatClampNeg) fun v315 =>
                      zLet ((22 : Int32)) fun v316 =>
                      zLet (v315 - v316) fun v317 =>
                      if v317.toInt < 0 then
                        zLet ((1 : Int32)) fun v319 =>
                        zLet (F_X11_fail a0 v319 σ) fun t320 =>
                        zLet (t320.1 a0 13) fun v323 =>
                        if 0 < v323.toInt then
                          t320
                        else
                          zLet (F_X11_goesOn a0  t320) fun t325 =>
                          zLet (F_X11_tellLaw a0 v317 t325) fun t327 =>
                          t327
                      else
                        zLet ((σ.2.2 a0 5).getD 0) fun v329 =>
                        zLet (σ.1 a0 11) fun v330 =>
                        zLet (σ.1 v329 v330.toNatClampNeg) fun v331 =>
                        zLet ((26 : Int32)) fun v332 =>
                        if v332.toInt < v331.toInt then
                          zLet ((1 : Int32)) fun v341 =>
                          zLet (F_X11_fail a0 v341 σ) fun t342 =>
                          zLet (t342.1 a0 13) fun v345 =>
                          if 0 < v345.toInt then
                            t342
                          else
                            zLet (F_X11_goesOn a0  t342) fun t347 =>
                            zLet (F_X11_tellLaw a0 v317 t347) fun t349 =>
                            t349
                        else
                          zLet (σ.1 a0 13) fun v335 =>
                          if 0 < v335.toInt then
                            σ
                          else
                            zLet (F_X11_goesOn a0  σ) fun t337 =>
                            zLet (F_X11_tellLaw a0 v317 t337) fun t339 =>
                            t339
set_option maxRecDepth 100000 in
noncomputable def F_X11_read_224 (a0 : Nat) (kLp8 : Int32 → zS → Int32 × zS) (kLp133 : zS → Int32 × zS) : Nat → Int32 → zS → Int32 × zS
  | 0, _, s => (0, s)
  | n + 1, x207, τ208 =>
    zLet ((3 : Int32)) fun v209 =>
    if x207.toInt < v209.toInt then
      zLet ((τ208.2.2 a0 67).getD 0) fun v212 =>
      zLet ((0 : Int32)) fun v213 =>
      zLet ((zu τ208.1 v212 x207.toNatClampNeg (vp_nar .boolean v213), τ208.2.1, τ208.2.2)) fun s214 =>
      zLet (x207 + (1 : Int32)) fun v216 =>
      F_X11_read_224 a0 kLp8 kLp133 n v216 s214
    else
      zLet ((0 : Int32)) fun v211 =>
      (v211, τ208)
set_option maxRecDepth 100000 in
noncomputable def F_X11_read_117 (x7 : Int32) (a0 : Nat) (kLp8 : Int32 → zS → Int32 × zS) : Nat → zS → Int32 × zS
  | 0, s => (0, s)
  | n + 1, τ133 =>
    zLet (τ133.1 a0 13) fun v134 =>
    if v134.toInt = 0 then
      zLet ((0 : Int32)) fun v147 =>
      zLet (F_X11_is a0 v147 τ133) fun v149 =>
      if v149.toInt = 0 then
        zLet (F_X11_tellOne a0  τ133) fun t229 =>
        F_X11_read_117 x7 a0 kLp8 n  t229
      else
        zLet (τ133.1 a0 13) fun v151 =>
        if 0 < v151.toInt then
          (0, τ133)
        else
          zLet (τ133.1 a0 15) fun v153 =>
          if 0 < v153.toInt then
            zLet (τ133.1 a0 16) fun v217 =>
            zLet ((zu τ133.1 a0 17 v217, τ133.2.1, τ133.2.2)) fun s218 =>
            zLet (s218.1 a0 13) fun v224 =>
            if 0 < v224.toInt then
              (0, s218)
            else
              zLet (s218.1 a0 15) fun v226 =>
              if 0 < v226.toInt then
                zLet (s218.1 a0 15) fun v228 =>
                (v228, s218)
              else
                (0, s218)
          else
            zLet ((-1 : Int32)) fun v155 =>
            zLet ((zu τ133.1 a0 17 v155, τ133.2.1, τ133.2.2)) fun s156 =>
            zLet (s156.1 a0 13) fun v161 =>
            if 0 < v161.toInt then
              (0, s156)
            else
              zLet (s156.1 a0 15) fun v163 =>
              if 0 < v163.toInt then
                (0, s156)
              else
                zLet (s156.1 a0 19) fun v165 =>
                zLet ((zu s156.1 a0 18 v165, s156.2.1, s156.2.2)) fun s166 =>
                zLet (F_X11_begins a0  s166) fun t173 =>
                zLet (F_X11_keepsRow a0  t173) fun t180 =>
                zLet ((0 : Int32)) fun v187 =>
                zLet ((zu t180.1 a0 57 v187, t180.2.1, t180.2.2)) fun s188 =>
                zLet ((0 : Int32)) fun v196 =>
                zLet ((zu s188.1 a0 62 v196, s188.2.1, s188.2.2)) fun s197 =>
                zLet ((0 : Int32)) fun v206 =>
                F_X11_read_224 a0 kLp8 (F_X11_read_117 x7 a0 kLp8 n) 10000 v206 s197
    else
      zLet (τ133.1 a0 13) fun v136 =>
      if 0 < v136.toInt then
        zLet (τ133.1 a0 14) fun v138 =>
        zLet ((zu τ133.1 a0 17 v138, τ133.2.1, τ133.2.2)) fun s139 =>
        zLet (s139.1 a0 13) fun v144 =>
        if 0 < v144.toInt then
          zLet (s139.1 a0 13) fun v146 =>
          (v146, s139)
        else
          (0, s139)
      else
        (0, τ133)
set_option maxRecDepth 100000 in
noncomputable def F_X11_read_10 (a0 : Nat)  : Nat → Int32 → zS → Int32 × zS
  | 0, _, s => (0, s)
  | n + 1, x7, τ8 =>
    zLet (τ8.1 a0 4) fun v9 =>
    if x7.toInt < v9.toInt then
      zLet ((τ8.2.2 a0 3).getD 0) fun v231 =>
      zLet ((τ8.2.2 a0 1).getD 0) fun v232 =>
      zLet (τ8.1 v232 x7.toNatClampNeg) fun v233 =>
      zLet ((zu τ8.1 v231 x7.toNatClampNeg (vp_nar .byte v233), τ8.2.1, τ8.2.2)) fun s234 =>
      zLet (x7 + (1 : Int32)) fun v237 =>
      F_X11_read_10 a0  n v237 s234
    else
      zLet ((0 : Int32)) fun v11 =>
      zLet ((zu τ8.1 a0 2 v11, τ8.2.1, τ8.2.2)) fun s12 =>
      zLet (F_X11_cut a0  s12) fun t16 =>
      zLet ((0 : Int32)) fun v20 =>
      zLet ((zu t16.1 a0 11 v20, t16.2.1, t16.2.2)) fun s21 =>
      zLet ((0 : Int32)) fun v26 =>
      zLet ((zu s21.1 a0 12 v26, s21.2.1, s21.2.2)) fun s27 =>
      zLet ((0 : Int32)) fun v33 =>
      zLet ((zu s27.1 a0 13 v33, s27.2.1, s27.2.2)) fun s35 =>
      zLet ((0 : Int32)) fun v42 =>
      zLet ((zu s35.1 a0 15 v42, s35.2.1, s35.2.2)) fun s43 =>
      zLet ((1 : Int32)) fun v51 =>
      zLet (s43.1 a0 18) fun v52 =>
      zLet (v51 - v52) fun v53 =>
      zLet ((zu s43.1 a0 19 v53, s43.2.1, s43.2.2)) fun s54 =>
      zLet (s54.1 a0 19) fun v64 =>
      zLet (F_X11_plain a0 v64 s54) fun t65 =>
      zLet ((130 : Int32)) fun v75 =>
      zLet (t65.1 a0 19) fun v76 =>
      zLet (v75 * v76) fun v77 =>
      zLet ((zu t65.1 a0 32 v77, t65.2.1, t65.2.2)) fun s78 =>
      zLet ((420 : Int32)) fun v89 =>
      zLet (s78.1 a0 19) fun v90 =>
      zLet (v89 * v90) fun v91 =>
      zLet ((zu s78.1 a0 38 v91, s78.2.1, s78.2.2)) fun s92 =>
      zLet ((0 : Int32)) fun v104 =>
      zLet ((zu s92.1 a0 41 v104, s92.2.1, s92.2.2)) fun s105 =>
      zLet ((0 : Int32)) fun v118 =>
      zLet ((zu s105.1 a0 42 v118, s105.2.1, s105.2.2)) fun s119 =>
      F_X11_read_117 x7 a0 (F_X11_read_10 a0  n) 10000  s119
set_option maxRecDepth 100000 in
noncomputable def F_X11_read (a0 : Nat) (σ : zS) : Int32 × zS :=
  zLet (σ.1 a0 2) fun v1 =>
  zLet ((zu σ.1 a0 4 v1, σ.2.1, σ.2.2)) fun s2 =>
  zLet ((0 : Int32)) fun v6 =>
  F_X11_read_10 a0  10000 v6 s2
end
-- 09.fields
section
theorem zl_in0 : ∀ w ∈ u_ws RX0 TX0 2, w ∈ zWL := by
  have e : u_ws RX0 TX0 2 = ([223, 225] : List Nat).filterMap (fun i => tables_1[i]?) := by decide +kernel
  have g : (u_ws RX0 TX0 2).all goodWord = true := by decide +kernel
  intro w hw
  have h1 := List.all_eq_true.mp g w hw
  rw [e] at hw
  obtain ⟨i, -, hi⟩ := List.mem_filterMap.mp hw
  exact List.mem_append_left _ (List.mem_filter.mpr ⟨List.mem_of_getElem? hi, h1⟩)
theorem zl_in1 : ∀ w ∈ u_ws RX1 TX1 6, w ∈ zWL := by
  have e : u_ws RX1 TX1 6 = ([285, 287, 289, 291, 293, 295] : List Nat).filterMap (fun i => tables_1[i]?) := by decide +kernel
  have g : (u_ws RX1 TX1 6).all goodWord = true := by decide +kernel
  intro w hw
  have h1 := List.all_eq_true.mp g w hw
  rw [e] at hw
  obtain ⟨i, -, hi⟩ := List.mem_filterMap.mp hw
  exact List.mem_append_left _ (List.mem_filter.mpr ⟨List.mem_of_getElem? hi, h1⟩)
theorem zl_in2 : ∀ w ∈ u_ws RX2 TX2 5, w ∈ zWL := by
  have e : u_ws RX2 TX2 5 = ([321, 323, 325, 327, 329] : List Nat).filterMap (fun i => tables_1[i]?) := by decide +kernel
  have g : (u_ws RX2 TX2 5).all goodWord = true := by decide +kernel
  intro w hw
  have h1 := List.all_eq_true.mp g w hw
  rw [e] at hw
  obtain ⟨i, -, hi⟩ := List.mem_filterMap.mp hw
  exact List.mem_append_left _ (List.mem_filter.mpr ⟨List.mem_of_getElem? hi, h1⟩)
theorem zl_in3 : ∀ w ∈ u_ws RX3 TX3 12, w ∈ zWL := by
  have e : u_ws RX3 TX3 12 = ([146, 148, 150, 152, 154, 156, 158, 160, 162, 164, 166, 168] : List Nat).filterMap (fun i => tables_1[i]?) := by decide +kernel
  have g : (u_ws RX3 TX3 12).all goodWord = true := by decide +kernel
  intro w hw
  have h1 := List.all_eq_true.mp g w hw
  rw [e] at hw
  obtain ⟨i, -, hi⟩ := List.mem_filterMap.mp hw
  exact List.mem_append_left _ (List.mem_filter.mpr ⟨List.mem_of_getElem? hi, h1⟩)
theorem zl_in4 : ∀ w ∈ u_ws RX4 TX4 3, w ∈ zWL := by
  have e : u_ws RX4 TX4 3 = ([302, 304, 306] : List Nat).filterMap (fun i => tables_1[i]?) := by decide +kernel
  have g : (u_ws RX4 TX4 3).all goodWord = true := by decide +kernel
  intro w hw
  have h1 := List.all_eq_true.mp g w hw
  rw [e] at hw
  obtain ⟨i, -, hi⟩ := List.mem_filterMap.mp hw
  exact List.mem_append_left _ (List.mem_filter.mpr ⟨List.mem_of_getElem? hi, h1⟩)
theorem zl_in5 : ∀ w ∈ u_ws RX5 TX5 7, w ∈ zWL := by
  have e : u_ws RX5 TX5 7 = ([239, 241, 243, 245, 247, 249, 251] : List Nat).filterMap (fun i => tables_1[i]?) := by decide +kernel
  have g : (u_ws RX5 TX5 7).all goodWord = true := by decide +kernel
  intro w hw
  have h1 := List.all_eq_true.mp g w hw
  rw [e] at hw
  obtain ⟨i, -, hi⟩ := List.mem_filterMap.mp hw
  exact List.mem_append_left _ (List.mem_filter.mpr ⟨List.mem_of_getElem? hi, h1⟩)
theorem zl_in6 : ∀ w ∈ u_ws RX6 TX6 7, w ∈ zWL := by
  have e : u_ws RX6 TX6 7 = ([199, 201, 203, 205, 207, 209, 211] : List Nat).filterMap (fun i => tables_1[i]?) := by decide +kernel
  have g : (u_ws RX6 TX6 7).all goodWord = true := by decide +kernel
  intro w hw
  have h1 := List.all_eq_true.mp g w hw
  rw [e] at hw
  obtain ⟨i, -, hi⟩ := List.mem_filterMap.mp hw
  exact List.mem_append_left _ (List.mem_filter.mpr ⟨List.mem_of_getElem? hi, h1⟩)
theorem zl_in7 : ∀ w ∈ u_ws RX7 TX7 2, w ∈ zWL := by
  have e : u_ws RX7 TX7 2 = ([40, 42] : List Nat).filterMap (fun i => tables_1[i]?) := by decide +kernel
  have g : (u_ws RX7 TX7 2).all goodWord = true := by decide +kernel
  intro w hw
  have h1 := List.all_eq_true.mp g w hw
  rw [e] at hw
  obtain ⟨i, -, hi⟩ := List.mem_filterMap.mp hw
  exact List.mem_append_left _ (List.mem_filter.mpr ⟨List.mem_of_getElem? hi, h1⟩)
theorem zl_in8 : ∀ w ∈ u_ws RX8 TX8 5, w ∈ zWL := by
  have e : u_ws RX8 TX8 5 = ([120, 122, 124, 126, 128] : List Nat).filterMap (fun i => tables_1[i]?) := by decide +kernel
  have g : (u_ws RX8 TX8 5).all goodWord = true := by decide +kernel
  intro w hw
  have h1 := List.all_eq_true.mp g w hw
  rw [e] at hw
  obtain ⟨i, -, hi⟩ := List.mem_filterMap.mp hw
  exact List.mem_append_left _ (List.mem_filter.mpr ⟨List.mem_of_getElem? hi, h1⟩)
theorem zl_in9 : ∀ w ∈ u_ws RX9 TX9 14, w ∈ zWL := by
  have e : u_ws RX9 TX9 14 = ([391, 393, 395, 397, 399, 401, 403, 405, 407, 409, 411, 413, 415, 417] : List Nat).filterMap (fun i => tables_1[i]?) := by decide +kernel
  have g : (u_ws RX9 TX9 14).all goodWord = true := by decide +kernel
  intro w hw
  have h1 := List.all_eq_true.mp g w hw
  rw [e] at hw
  obtain ⟨i, -, hi⟩ := List.mem_filterMap.mp hw
  exact List.mem_append_left _ (List.mem_filter.mpr ⟨List.mem_of_getElem? hi, h1⟩)
theorem zl_in10 : ∀ w ∈ u_ws RX10 TX10 14, w ∈ zWL := by
  have e : u_ws RX10 TX10 14 = ([434, 436, 438, 440, 442, 444, 446, 448, 450, 452, 454, 456, 458, 460] : List Nat).filterMap (fun i => tables_1[i]?) := by decide +kernel
  have g : (u_ws RX10 TX10 14).all goodWord = true := by decide +kernel
  intro w hw
  have h1 := List.all_eq_true.mp g w hw
  rw [e] at hw
  obtain ⟨i, -, hi⟩ := List.mem_filterMap.mp hw
  exact List.mem_append_left _ (List.mem_filter.mpr ⟨List.mem_of_getElem? hi, h1⟩)
theorem zl_in11 : ∀ w ∈ u_ws RX11 TX11 69, w ∈ zWL := by
  have e : u_ws RX11 TX11 69 = ([1203, 1205, 1207, 1209, 1211, 1213, 1215, 1217, 1219, 1221, 1223, 1225, 1227, 1229, 1231, 1233, 1235, 1237, 1239, 1241, 1243, 1245, 1247, 1249, 1251, 1253, 1255, 1257, 1259, 1261, 1263, 1265, 1267, 1269, 1271, 1273, 1275, 1277, 1279, 1281, 1283, 1285, 1287, 1289, 1291, 1293, 1295, 1297, 1299, 1301, 1303, 1305, 1307, 1309, 1311, 1313, 1315, 1317, 1319, 1321, 1323, 1325, 1327, 1329, 1331, 1333, 1335, 1337, 1339] : List Nat).filterMap (fun i => tables_1[i]?) := by decide +kernel
  have g : (u_ws RX11 TX11 69).all goodWord = true := by decide +kernel
  intro w hw
  have h1 := List.all_eq_true.mp g w hw
  rw [e] at hw
  obtain ⟨i, -, hi⟩ := List.mem_filterMap.mp hw
  exact List.mem_append_left _ (List.mem_filter.mpr ⟨List.mem_of_getElem? hi, h1⟩)
theorem zb_nb (x : Int32) : -128 ≤ (vp_nar .byte x).toInt ∧ (vp_nar .byte x).toInt ≤ 127 := by
  rw [vp_nar_byte, Int8.toInt_toInt32]
  have h1 := Int8.le_toInt x.toInt8
  have h2 := Int8.toInt_lt x.toInt8
  omega
theorem zb_nz {x : Int32} (h : 0 ≤ x.toInt ∧ x.toInt ≤ 1) : vp_nar .boolean x = x := by
  rcases (show x.toInt = 0 ∨ x.toInt = 1 by omega) with q | q
  · rw [show x = 0 from Int32.toInt_inj.mp q]; rfl
  · rw [show x = 1 from Int32.toInt_inj.mp q]; rfl
section ZLINKS
variable {rs : va_W} {cs sl : Nat} {κ : Int} {b : Nat} {d : zD2} {L : List Nat} {kd : Nat → Nat} {A : Nat → Prop} {nL : Nat} {p : Program} {l : Launch} {e : Env} {R : Room} {s : State} {m : MethodId} {args : Array Value} {below : List Frame} {meth : Method} {c : Code} {cc : ByteArray} {Q : State → Prop} {σ : zS} {pc : Nat} {lv : List (Nat × Value)} {st : List Value} {a : Nat}
set_option maxRecDepth 20000 in
theorem zkl_X7_9 : Cond.fieldLink RX7 9 (TX7 0).1 (TX7 0).2.1 (TX7 0).2.2.1 ∈ zWL := zw1 (List.mem_of_getElem? (i := 36) rfl) rfl
set_option maxRecDepth 20000 in
theorem zk_X7_9 : Cond.fieldLink RX7 9 (TX7 0).1 (TX7 0).2.1 (TX7 0).2.2.1 ∈ zWL ∨ ∃ host, Cond.fieldLinkNest RX7 9 (TX7 0).1 (TX7 0).2.1 (TX7 0).2.2.1 host ∈ tables_1 := Or.inl (zw1 (List.mem_of_getElem? (i := 36) rfl) rfl)
theorem fg_X7_9 (X : zX d L kd A nL p s m args c cc RX7) (hI : zI κ b L kd σ) (ha : zT L kd a 7) (hdg : decode cc pc = .ok (.getfield 9, 3)) (k : ∀ y : Nat, σ.2.2 a 0 = some y → zT L kd y 39 → zGc rs cs sl d L kd A nL p l e R s m args below meth c Q σ (pc + 3) lv (.ref y :: st)) : zGc rs cs sl d L kd A nL p l e R s m args below meth c Q σ pc lv (.ref a :: st) := by
  obtain ⟨y, hy, hT⟩ := zi_ref hI ha (show zf _ 7 0 = some 39 from rfl)
  have q := k y hy hT
  exact zg_getr X ha rfl (by decide) rfl (by decide) rfl zl_in7 zk_X7_9 hdg (by rw [hy]; exact q)
set_option maxRecDepth 20000 in
theorem zk_X10_91 : Cond.fieldLink RX10 91 (TX7 0).1 (TX7 0).2.1 (TX7 0).2.2.1 ∈ zWL ∨ ∃ host, Cond.fieldLinkNest RX10 91 (TX7 0).1 (TX7 0).2.1 (TX7 0).2.2.1 host ∈ tables_1 := Or.inr ⟨"SourceDispute", (zt1 (List.mem_of_getElem? (i := 37) rfl))⟩
theorem fg_X10_91 (X : zX d L kd A nL p s m args c cc RX10) (hI : zI κ b L kd σ) (ha : zT L kd a 7) (hdg : decode cc pc = .ok (.getfield 91, 3)) (k : ∀ y : Nat, σ.2.2 a 0 = some y → zT L kd y 39 → zGc rs cs sl d L kd A nL p l e R s m args below meth c Q σ (pc + 3) lv (.ref y :: st)) : zGc rs cs sl d L kd A nL p l e R s m args below meth c Q σ pc lv (.ref a :: st) := by
  obtain ⟨y, hy, hT⟩ := zi_ref hI ha (show zf _ 7 0 = some 39 from rfl)
  have q := k y hy hT
  exact zg_getr X ha rfl (by decide) rfl (by decide) rfl zl_in7 zk_X10_91 hdg (by rw [hy]; exact q)
set_option maxRecDepth 20000 in
theorem zkl_X7_15 : Cond.fieldLink RX7 15 (TX7 1).1 (TX7 1).2.1 (TX7 1).2.2.1 ∈ zWL := zw1 (List.mem_of_getElem? (i := 38) rfl) rfl
set_option maxRecDepth 20000 in
theorem zk_X7_15 : Cond.fieldLink RX7 15 (TX7 1).1 (TX7 1).2.1 (TX7 1).2.2.1 ∈ zWL ∨ ∃ host, Cond.fieldLinkNest RX7 15 (TX7 1).1 (TX7 1).2.1 (TX7 1).2.2.1 host ∈ tables_1 := Or.inl (zw1 (List.mem_of_getElem? (i := 38) rfl) rfl)
theorem fg_X7_15 (X : zX d L kd A nL p s m args c cc RX7) (hI : zI κ b L kd σ) (ha : zT L kd a 7) (hdg : decode cc pc = .ok (.getfield 15, 3)) (k : ∀ v : Int32, v = σ.1 a 1 → κ ≤ v.toInt ∧ v.toInt ≤ κ → zGc rs cs sl d L kd A nL p l e R s m args below meth c Q σ (pc + 3) lv (.int v :: st)) : zGc rs cs sl d L kd A nL p l e R s m args below meth c Q σ pc lv (.ref a :: st) := zg_geti X ha rfl (by decide) rfl (by decide) rfl zl_in7 zk_X7_15 hdg (k _ rfl (zi_get hI ha rfl))
theorem fq_X7_15 (X : zX d L kd A nL p s m args c cc RX7) {v : Int32} (ha : zT L kd a 7) (hdg : decode cc pc = .ok (.putfield 15, 3)) (k : ∀ σ2 : zS, σ2 = (zu σ.1 a 1 v, σ.2.1, σ.2.2) → zGc rs cs sl d L kd A nL p l e R s m args below meth c Q σ2 (pc + 3) lv st) : zGc rs cs sl d L kd A nL p l e R s m args below meth c Q σ pc lv (.int v :: .ref a :: st) := zg_puti (ty := .int) X ha rfl (by decide) rfl (by decide) rfl rfl zl_in7 tyX7_ok nmX7 zk_X7_15 rfl (by decide +kernel) rfl rfl hdg k
set_option maxRecDepth 20000 in
theorem zk_X10_84 : Cond.fieldLink RX10 84 (TX7 1).1 (TX7 1).2.1 (TX7 1).2.2.1 ∈ zWL ∨ ∃ host, Cond.fieldLinkNest RX10 84 (TX7 1).1 (TX7 1).2.1 (TX7 1).2.2.1 host ∈ tables_1 := Or.inr ⟨"SourceDispute", (zt1 (List.mem_of_getElem? (i := 39) rfl))⟩
theorem fg_X10_84 (X : zX d L kd A nL p s m args c cc RX10) (hI : zI κ b L kd σ) (ha : zT L kd a 7) (hdg : decode cc pc = .ok (.getfield 84, 3)) (k : ∀ v : Int32, v = σ.1 a 1 → κ ≤ v.toInt ∧ v.toInt ≤ κ → zGc rs cs sl d L kd A nL p l e R s m args below meth c Q σ (pc + 3) lv (.int v :: st)) : zGc rs cs sl d L kd A nL p l e R s m args below meth c Q σ pc lv (.ref a :: st) := zg_geti X ha rfl (by decide) rfl (by decide) rfl zl_in7 zk_X10_84 hdg (k _ rfl (zi_get hI ha rfl))
theorem fq_X10_84 (X : zX d L kd A nL p s m args c cc RX10) {v : Int32} (ha : zT L kd a 7) (hdg : decode cc pc = .ok (.putfield 84, 3)) (k : ∀ σ2 : zS, σ2 = (zu σ.1 a 1 v, σ.2.1, σ.2.2) → zGc rs cs sl d L kd A nL p l e R s m args below meth c Q σ2 (pc + 3) lv st) : zGc rs cs sl d L kd A nL p l e R s m args below meth c Q σ pc lv (.int v :: .ref a :: st) := zg_puti (ty := .int) X ha rfl (by decide) rfl (by decide) rfl rfl zl_in7 tyX7_ok nmX7 zk_X10_84 rfl (by decide +kernel) rfl rfl hdg k
set_option maxRecDepth 20000 in
theorem zkl_X8_9 : Cond.fieldLink RX8 9 (TX8 0).1 (TX8 0).2.1 (TX8 0).2.2.1 ∈ zWL := zw1 (List.mem_of_getElem? (i := 111) rfl) rfl
set_option maxRecDepth 20000 in
theorem zk_X8_9 : Cond.fieldLink RX8 9 (TX8 0).1 (TX8 0).2.1 (TX8 0).2.2.1 ∈ zWL ∨ ∃ host, Cond.fieldLinkNest RX8 9 (TX8 0).1 (TX8 0).2.1 (TX8 0).2.2.1 host ∈ tables_1 := Or.inl (zw1 (List.mem_of_getElem? (i := 111) rfl) rfl)
theorem fg_X8_9 (X : zX d L kd A nL p s m args c cc RX8) (hI : zI κ b L kd σ) (ha : zT L kd a 8) (hdg : decode cc pc = .ok (.getfield 9, 3)) (k : ∀ y : Nat, σ.2.2 a 0 = some y → zT L kd y 40 → zGc rs cs sl d L kd A nL p l e R s m args below meth c Q σ (pc + 3) lv (.ref y :: st)) : zGc rs cs sl d L kd A nL p l e R s m args below meth c Q σ pc lv (.ref a :: st) := by
  obtain ⟨y, hy, hT⟩ := zi_ref hI ha (show zf _ 8 0 = some 40 from rfl)
  have q := k y hy hT
  exact zg_getr X ha rfl (by decide) rfl (by decide) rfl zl_in8 zk_X8_9 hdg (by rw [hy]; exact q)
set_option maxRecDepth 20000 in
theorem zkl_X8_13 : Cond.fieldLink RX8 13 (TX8 1).1 (TX8 1).2.1 (TX8 1).2.2.1 ∈ zWL := zw1 (List.mem_of_getElem? (i := 112) rfl) rfl
set_option maxRecDepth 20000 in
theorem zk_X8_13 : Cond.fieldLink RX8 13 (TX8 1).1 (TX8 1).2.1 (TX8 1).2.2.1 ∈ zWL ∨ ∃ host, Cond.fieldLinkNest RX8 13 (TX8 1).1 (TX8 1).2.1 (TX8 1).2.2.1 host ∈ tables_1 := Or.inl (zw1 (List.mem_of_getElem? (i := 112) rfl) rfl)
theorem fg_X8_13 (X : zX d L kd A nL p s m args c cc RX8) (hI : zI κ b L kd σ) (ha : zT L kd a 8) (hdg : decode cc pc = .ok (.getfield 13, 3)) (k : ∀ y : Nat, σ.2.2 a 1 = some y → zT L kd y 41 → zGc rs cs sl d L kd A nL p l e R s m args below meth c Q σ (pc + 3) lv (.ref y :: st)) : zGc rs cs sl d L kd A nL p l e R s m args below meth c Q σ pc lv (.ref a :: st) := by
  obtain ⟨y, hy, hT⟩ := zi_ref hI ha (show zf _ 8 1 = some 41 from rfl)
  have q := k y hy hT
  exact zg_getr X ha rfl (by decide) rfl (by decide) rfl zl_in8 zk_X8_13 hdg (by rw [hy]; exact q)
set_option maxRecDepth 20000 in
theorem zk_X3_163 : Cond.fieldLink RX3 163 (TX8 1).1 (TX8 1).2.1 (TX8 1).2.2.1 ∈ zWL ∨ ∃ host, Cond.fieldLinkNest RX3 163 (TX8 1).1 (TX8 1).2.1 (TX8 1).2.2.1 host ∈ tables_1 := Or.inr ⟨"SourceDispute", (zt1 (List.mem_of_getElem? (i := 113) rfl))⟩
theorem fg_X3_163 (X : zX d L kd A nL p s m args c cc RX3) (hI : zI κ b L kd σ) (ha : zT L kd a 8) (hdg : decode cc pc = .ok (.getfield 163, 3)) (k : ∀ y : Nat, σ.2.2 a 1 = some y → zT L kd y 41 → zGc rs cs sl d L kd A nL p l e R s m args below meth c Q σ (pc + 3) lv (.ref y :: st)) : zGc rs cs sl d L kd A nL p l e R s m args below meth c Q σ pc lv (.ref a :: st) := by
  obtain ⟨y, hy, hT⟩ := zi_ref hI ha (show zf _ 8 1 = some 41 from rfl)
  have q := k y hy hT
  exact zg_getr X ha rfl (by decide) rfl (by decide) rfl zl_in8 zk_X3_163 hdg (by rw [hy]; exact q)
set_option maxRecDepth 20000 in
theorem zkl_X8_17 : Cond.fieldLink RX8 17 (TX8 2).1 (TX8 2).2.1 (TX8 2).2.2.1 ∈ zWL := zw1 (List.mem_of_getElem? (i := 114) rfl) rfl
set_option maxRecDepth 20000 in
theorem zk_X8_17 : Cond.fieldLink RX8 17 (TX8 2).1 (TX8 2).2.1 (TX8 2).2.2.1 ∈ zWL ∨ ∃ host, Cond.fieldLinkNest RX8 17 (TX8 2).1 (TX8 2).2.1 (TX8 2).2.2.1 host ∈ tables_1 := Or.inl (zw1 (List.mem_of_getElem? (i := 114) rfl) rfl)
theorem fg_X8_17 (X : zX d L kd A nL p s m args c cc RX8) (hI : zI κ b L kd σ) (ha : zT L kd a 8) (hdg : decode cc pc = .ok (.getfield 17, 3)) (k : ∀ y : Nat, σ.2.2 a 2 = some y → zT L kd y 42 → zGc rs cs sl d L kd A nL p l e R s m args below meth c Q σ (pc + 3) lv (.ref y :: st)) : zGc rs cs sl d L kd A nL p l e R s m args below meth c Q σ pc lv (.ref a :: st) := by
  obtain ⟨y, hy, hT⟩ := zi_ref hI ha (show zf _ 8 2 = some 42 from rfl)
  have q := k y hy hT
  exact zg_getr X ha rfl (by decide) rfl (by decide) rfl zl_in8 zk_X8_17 hdg (by rw [hy]; exact q)
set_option maxRecDepth 20000 in
theorem zk_X3_166 : Cond.fieldLink RX3 166 (TX8 2).1 (TX8 2).2.1 (TX8 2).2.2.1 ∈ zWL ∨ ∃ host, Cond.fieldLinkNest RX3 166 (TX8 2).1 (TX8 2).2.1 (TX8 2).2.2.1 host ∈ tables_1 := Or.inr ⟨"SourceDispute", (zt1 (List.mem_of_getElem? (i := 115) rfl))⟩
theorem fg_X3_166 (X : zX d L kd A nL p s m args c cc RX3) (hI : zI κ b L kd σ) (ha : zT L kd a 8) (hdg : decode cc pc = .ok (.getfield 166, 3)) (k : ∀ y : Nat, σ.2.2 a 2 = some y → zT L kd y 42 → zGc rs cs sl d L kd A nL p l e R s m args below meth c Q σ (pc + 3) lv (.ref y :: st)) : zGc rs cs sl d L kd A nL p l e R s m args below meth c Q σ pc lv (.ref a :: st) := by
  obtain ⟨y, hy, hT⟩ := zi_ref hI ha (show zf _ 8 2 = some 42 from rfl)
  have q := k y hy hT
  exact zg_getr X ha rfl (by decide) rfl (by decide) rfl zl_in8 zk_X3_166 hdg (by rw [hy]; exact q)
set_option maxRecDepth 20000 in
theorem zkl_X8_20 : Cond.fieldLink RX8 20 (TX8 3).1 (TX8 3).2.1 (TX8 3).2.2.1 ∈ zWL := zw1 (List.mem_of_getElem? (i := 116) rfl) rfl
set_option maxRecDepth 20000 in
theorem zk_X8_20 : Cond.fieldLink RX8 20 (TX8 3).1 (TX8 3).2.1 (TX8 3).2.2.1 ∈ zWL ∨ ∃ host, Cond.fieldLinkNest RX8 20 (TX8 3).1 (TX8 3).2.1 (TX8 3).2.2.1 host ∈ tables_1 := Or.inl (zw1 (List.mem_of_getElem? (i := 116) rfl) rfl)
theorem fg_X8_20 (X : zX d L kd A nL p s m args c cc RX8) (hI : zI κ b L kd σ) (ha : zT L kd a 8) (hdg : decode cc pc = .ok (.getfield 20, 3)) (k : ∀ y : Nat, σ.2.2 a 3 = some y → zT L kd y 43 → zGc rs cs sl d L kd A nL p l e R s m args below meth c Q σ (pc + 3) lv (.ref y :: st)) : zGc rs cs sl d L kd A nL p l e R s m args below meth c Q σ pc lv (.ref a :: st) := by
  obtain ⟨y, hy, hT⟩ := zi_ref hI ha (show zf _ 8 3 = some 43 from rfl)
  have q := k y hy hT
  exact zg_getr X ha rfl (by decide) rfl (by decide) rfl zl_in8 zk_X8_20 hdg (by rw [hy]; exact q)
set_option maxRecDepth 20000 in
theorem zk_X3_169 : Cond.fieldLink RX3 169 (TX8 3).1 (TX8 3).2.1 (TX8 3).2.2.1 ∈ zWL ∨ ∃ host, Cond.fieldLinkNest RX3 169 (TX8 3).1 (TX8 3).2.1 (TX8 3).2.2.1 host ∈ tables_1 := Or.inr ⟨"SourceDispute", (zt1 (List.mem_of_getElem? (i := 117) rfl))⟩
theorem fg_X3_169 (X : zX d L kd A nL p s m args c cc RX3) (hI : zI κ b L kd σ) (ha : zT L kd a 8) (hdg : decode cc pc = .ok (.getfield 169, 3)) (k : ∀ y : Nat, σ.2.2 a 3 = some y → zT L kd y 43 → zGc rs cs sl d L kd A nL p l e R s m args below meth c Q σ (pc + 3) lv (.ref y :: st)) : zGc rs cs sl d L kd A nL p l e R s m args below meth c Q σ pc lv (.ref a :: st) := by
  obtain ⟨y, hy, hT⟩ := zi_ref hI ha (show zf _ 8 3 = some 43 from rfl)
  have q := k y hy hT
  exact zg_getr X ha rfl (by decide) rfl (by decide) rfl zl_in8 zk_X3_169 hdg (by rw [hy]; exact q)
set_option maxRecDepth 20000 in
theorem zkl_X8_23 : Cond.fieldLink RX8 23 (TX8 4).1 (TX8 4).2.1 (TX8 4).2.2.1 ∈ zWL := zw1 (List.mem_of_getElem? (i := 118) rfl) rfl
set_option maxRecDepth 20000 in
theorem zk_X8_23 : Cond.fieldLink RX8 23 (TX8 4).1 (TX8 4).2.1 (TX8 4).2.2.1 ∈ zWL ∨ ∃ host, Cond.fieldLinkNest RX8 23 (TX8 4).1 (TX8 4).2.1 (TX8 4).2.2.1 host ∈ tables_1 := Or.inl (zw1 (List.mem_of_getElem? (i := 118) rfl) rfl)
theorem fg_X8_23 (X : zX d L kd A nL p s m args c cc RX8) (hI : zI κ b L kd σ) (ha : zT L kd a 8) (hdg : decode cc pc = .ok (.getfield 23, 3)) (k : ∀ v : Int32, v = σ.1 a 4 → 0 ≤ v.toInt ∧ v.toInt ≤ 402 → zGc rs cs sl d L kd A nL p l e R s m args below meth c Q σ (pc + 3) lv (.int v :: st)) : zGc rs cs sl d L kd A nL p l e R s m args below meth c Q σ pc lv (.ref a :: st) := zg_geti X ha rfl (by decide) rfl (by decide) rfl zl_in8 zk_X8_23 hdg (k _ rfl (zi_get hI ha rfl))
theorem fp_X8_23 (X : zX d L kd A nL p s m args c cc RX8) {v : Int32} (hI : zI κ b L kd σ) (ha : zT L kd a 8) (h : 0 ≤ v.toInt ∧ v.toInt ≤ 402) (hdg : decode cc pc = .ok (.putfield 23, 3)) (k : ∀ σ2 : zS, σ2 = (zu σ.1 a 4 v, σ.2.1, σ.2.2) → zI κ b L kd σ2 → zGc rs cs sl d L kd A nL p l e R s m args below meth c Q σ2 (pc + 3) lv st) : zGc rs cs sl d L kd A nL p l e R s m args below meth c Q σ pc lv (.int v :: .ref a :: st) := zg_puti (ty := .int) X ha rfl (by decide) rfl (by decide) rfl rfl zl_in8 tyX8_ok nmX8 zk_X8_23 rfl (by decide +kernel) rfl rfl hdg (fun σ2 h2 => k σ2 h2 (by rw [h2]; exact zi_puti hI ha rfl h.1 h.2))
set_option maxRecDepth 20000 in
theorem zk_X3_162 : Cond.fieldLink RX3 162 (TX8 4).1 (TX8 4).2.1 (TX8 4).2.2.1 ∈ zWL ∨ ∃ host, Cond.fieldLinkNest RX3 162 (TX8 4).1 (TX8 4).2.1 (TX8 4).2.2.1 host ∈ tables_1 := Or.inr ⟨"SourceDispute", (zt1 (List.mem_of_getElem? (i := 119) rfl))⟩
theorem fg_X3_162 (X : zX d L kd A nL p s m args c cc RX3) (hI : zI κ b L kd σ) (ha : zT L kd a 8) (hdg : decode cc pc = .ok (.getfield 162, 3)) (k : ∀ v : Int32, v = σ.1 a 4 → 0 ≤ v.toInt ∧ v.toInt ≤ 402 → zGc rs cs sl d L kd A nL p l e R s m args below meth c Q σ (pc + 3) lv (.int v :: st)) : zGc rs cs sl d L kd A nL p l e R s m args below meth c Q σ pc lv (.ref a :: st) := zg_geti X ha rfl (by decide) rfl (by decide) rfl zl_in8 zk_X3_162 hdg (k _ rfl (zi_get hI ha rfl))
set_option maxRecDepth 20000 in
theorem zkl_X3_12 : Cond.fieldLink RX3 12 (TX3 0).1 (TX3 0).2.1 (TX3 0).2.2.1 ∈ zWL := zw1 (List.mem_of_getElem? (i := 133) rfl) rfl
set_option maxRecDepth 20000 in
theorem zk_X3_12 : Cond.fieldLink RX3 12 (TX3 0).1 (TX3 0).2.1 (TX3 0).2.2.1 ∈ zWL ∨ ∃ host, Cond.fieldLinkNest RX3 12 (TX3 0).1 (TX3 0).2.1 (TX3 0).2.2.1 host ∈ tables_1 := Or.inl (zw1 (List.mem_of_getElem? (i := 133) rfl) rfl)
theorem fg_X3_12 (X : zX d L kd A nL p s m args c cc RX3) (hI : zI κ b L kd σ) (ha : zT L kd a 3) (hdg : decode cc pc = .ok (.getfield 12, 3)) (k : ∀ y : Nat, σ.2.2 a 0 = some y → zT L kd y 8 → zGc rs cs sl d L kd A nL p l e R s m args below meth c Q σ (pc + 3) lv (.ref y :: st)) : zGc rs cs sl d L kd A nL p l e R s m args below meth c Q σ pc lv (.ref a :: st) := by
  obtain ⟨y, hy, hT⟩ := zi_ref hI ha (show zf _ 3 0 = some 8 from rfl)
  have q := k y hy hT
  exact zg_getr X ha rfl (by decide) rfl (by decide) rfl zl_in3 zk_X3_12 hdg (by rw [hy]; exact q)
set_option maxRecDepth 20000 in
theorem zkl_X3_18 : Cond.fieldLink RX3 18 (TX3 1).1 (TX3 1).2.1 (TX3 1).2.2.1 ∈ zWL := zw1 (List.mem_of_getElem? (i := 134) rfl) rfl
set_option maxRecDepth 20000 in
theorem zk_X3_18 : Cond.fieldLink RX3 18 (TX3 1).1 (TX3 1).2.1 (TX3 1).2.2.1 ∈ zWL ∨ ∃ host, Cond.fieldLinkNest RX3 18 (TX3 1).1 (TX3 1).2.1 (TX3 1).2.2.1 host ∈ tables_1 := Or.inl (zw1 (List.mem_of_getElem? (i := 134) rfl) rfl)
theorem fg_X3_18 (X : zX d L kd A nL p s m args c cc RX3) (hI : zI κ 2 L kd σ) (ha : zT L kd a 3) (hdg : decode cc pc = .ok (.getfield 18, 3)) (k : ∀ y : Nat, σ.2.2 a 1 = some y → zT L kd y 9 → zGc rs cs sl d L kd A nL p l e R s m args below meth c Q σ (pc + 3) lv (.ref y :: st)) : zGc rs cs sl d L kd A nL p l e R s m args below meth c Q σ pc lv (.ref a :: st) := by
  obtain ⟨y, hy, hT⟩ := zi_ref hI ha (show zf _ 3 1 = some 9 from rfl)
  have q := k y hy hT
  exact zg_getr X ha rfl (by decide) rfl (by decide) rfl zl_in3 zk_X3_18 hdg (by rw [hy]; exact q)
theorem fp_X3_18 (X : zX d L kd A nL p s m args c cc RX3) {y : Nat} (hI : zI κ 0 L kd σ) (ha : zT L kd a 3) (hy : zT L kd y 9) (hdg : decode cc pc = .ok (.putfield 18, 3)) (k : ∀ σ2 : zS, σ2 = (σ.1, σ.2.1, zu σ.2.2 a 1 (some y)) → zI κ 0 L kd σ2 → zGc rs cs sl d L kd A nL p l e R s m args below meth c Q σ2 (pc + 3) lv st) : zGc rs cs sl d L kd A nL p l e R s m args below meth c Q σ pc lv (.ref y :: .ref a :: st) := zg_putr (v := some y) (ty := .object RX9) X ha rfl (by decide) rfl (by decide) rfl rfl zl_in3 tyX3_ok nmX3 zk_X3_18 rfl (by decide +kernel) rfl rfl hdg (fun σ2 h2 => k σ2 h2 (by rw [h2]; exact zi_putn hI ha rfl))
set_option maxRecDepth 20000 in
theorem zkl_X3_22 : Cond.fieldLink RX3 22 (TX3 2).1 (TX3 2).2.1 (TX3 2).2.2.1 ∈ zWL := zw1 (List.mem_of_getElem? (i := 135) rfl) rfl
set_option maxRecDepth 20000 in
theorem zk_X3_22 : Cond.fieldLink RX3 22 (TX3 2).1 (TX3 2).2.1 (TX3 2).2.2.1 ∈ zWL ∨ ∃ host, Cond.fieldLinkNest RX3 22 (TX3 2).1 (TX3 2).2.1 (TX3 2).2.2.1 host ∈ tables_1 := Or.inl (zw1 (List.mem_of_getElem? (i := 135) rfl) rfl)
theorem fg_X3_22 (X : zX d L kd A nL p s m args c cc RX3) (hI : zI κ b L kd σ) (ha : zT L kd a 3) (hdg : decode cc pc = .ok (.getfield 22, 3)) (k : ∀ v : Int32, v = σ.1 a 2 → (-2147483648) ≤ v.toInt ∧ v.toInt ≤ 2147483647 → zGc rs cs sl d L kd A nL p l e R s m args below meth c Q σ (pc + 3) lv (.int v :: st)) : zGc rs cs sl d L kd A nL p l e R s m args below meth c Q σ pc lv (.ref a :: st) := zg_geti X ha rfl (by decide) rfl (by decide) rfl zl_in3 zk_X3_22 hdg (k _ rfl (zi_get hI ha rfl))
theorem fp_X3_22 (X : zX d L kd A nL p s m args c cc RX3) {v : Int32} (hI : zI κ b L kd σ) (ha : zT L kd a 3) (h : (-2147483648) ≤ v.toInt ∧ v.toInt ≤ 2147483647) (hdg : decode cc pc = .ok (.putfield 22, 3)) (k : ∀ σ2 : zS, σ2 = (zu σ.1 a 2 v, σ.2.1, σ.2.2) → zI κ b L kd σ2 → zGc rs cs sl d L kd A nL p l e R s m args below meth c Q σ2 (pc + 3) lv st) : zGc rs cs sl d L kd A nL p l e R s m args below meth c Q σ pc lv (.int v :: .ref a :: st) := zg_puti (ty := .int) X ha rfl (by decide) rfl (by decide) rfl rfl zl_in3 tyX3_ok nmX3 zk_X3_22 rfl (by decide +kernel) rfl rfl hdg (fun σ2 h2 => k σ2 h2 (by rw [h2]; exact zi_puti hI ha rfl h.1 h.2))
set_option maxRecDepth 20000 in
theorem zkl_X3_26 : Cond.fieldLink RX3 26 (TX3 3).1 (TX3 3).2.1 (TX3 3).2.2.1 ∈ zWL := zw1 (List.mem_of_getElem? (i := 136) rfl) rfl
set_option maxRecDepth 20000 in
theorem zk_X3_26 : Cond.fieldLink RX3 26 (TX3 3).1 (TX3 3).2.1 (TX3 3).2.2.1 ∈ zWL ∨ ∃ host, Cond.fieldLinkNest RX3 26 (TX3 3).1 (TX3 3).2.1 (TX3 3).2.2.1 host ∈ tables_1 := Or.inl (zw1 (List.mem_of_getElem? (i := 136) rfl) rfl)
theorem fg_X3_26 (X : zX d L kd A nL p s m args c cc RX3) (hI : zI κ b L kd σ) (ha : zT L kd a 3) (hdg : decode cc pc = .ok (.getfield 26, 3)) (k : ∀ v : Int32, v = σ.1 a 3 → (-2147483648) ≤ v.toInt ∧ v.toInt ≤ 2147483647 → zGc rs cs sl d L kd A nL p l e R s m args below meth c Q σ (pc + 3) lv (.int v :: st)) : zGc rs cs sl d L kd A nL p l e R s m args below meth c Q σ pc lv (.ref a :: st) := zg_geti X ha rfl (by decide) rfl (by decide) rfl zl_in3 zk_X3_26 hdg (k _ rfl (zi_get hI ha rfl))
theorem fp_X3_26 (X : zX d L kd A nL p s m args c cc RX3) {v : Int32} (hI : zI κ b L kd σ) (ha : zT L kd a 3) (h : (-2147483648) ≤ v.toInt ∧ v.toInt ≤ 2147483647) (hdg : decode cc pc = .ok (.putfield 26, 3)) (k : ∀ σ2 : zS, σ2 = (zu σ.1 a 3 v, σ.2.1, σ.2.2) → zI κ b L kd σ2 → zGc rs cs sl d L kd A nL p l e R s m args below meth c Q σ2 (pc + 3) lv st) : zGc rs cs sl d L kd A nL p l e R s m args below meth c Q σ pc lv (.int v :: .ref a :: st) := zg_puti (ty := .int) X ha rfl (by decide) rfl (by decide) rfl rfl zl_in3 tyX3_ok nmX3 zk_X3_26 rfl (by decide +kernel) rfl rfl hdg (fun σ2 h2 => k σ2 h2 (by rw [h2]; exact zi_puti hI ha rfl h.1 h.2))
set_option maxRecDepth 20000 in
theorem zkl_X3_29 : Cond.fieldLink RX3 29 (TX3 4).1 (TX3 4).2.1 (TX3 4).2.2.1 ∈ zWL := zw1 (List.mem_of_getElem? (i := 137) rfl) rfl
set_option maxRecDepth 20000 in
theorem zk_X3_29 : Cond.fieldLink RX3 29 (TX3 4).1 (TX3 4).2.1 (TX3 4).2.2.1 ∈ zWL ∨ ∃ host, Cond.fieldLinkNest RX3 29 (TX3 4).1 (TX3 4).2.1 (TX3 4).2.2.1 host ∈ tables_1 := Or.inl (zw1 (List.mem_of_getElem? (i := 137) rfl) rfl)
theorem fg_X3_29 (X : zX d L kd A nL p s m args c cc RX3) (ha : zT L kd a 3) (hdg : decode cc pc = .ok (.getfield 29, 3)) (k : ∀ v : Int64, v = σ.2.1 a 4 → zGc rs cs sl d L kd A nL p l e R s m args below meth c Q σ (pc + 3) lv (.long v :: st)) : zGc rs cs sl d L kd A nL p l e R s m args below meth c Q σ pc lv (.ref a :: st) := zg_getl X ha rfl (by decide) rfl (by decide) rfl zl_in3 zk_X3_29 hdg (k _ rfl)
theorem fp_X3_29 (X : zX d L kd A nL p s m args c cc RX3) {v : Int64} (hI : zI κ b L kd σ) (ha : zT L kd a 3) (hdg : decode cc pc = .ok (.putfield 29, 3)) (k : ∀ σ2 : zS, σ2 = (σ.1, zu σ.2.1 a 4 v, σ.2.2) → zI κ b L kd σ2 → zGc rs cs sl d L kd A nL p l e R s m args below meth c Q σ2 (pc + 3) lv st) : zGc rs cs sl d L kd A nL p l e R s m args below meth c Q σ pc lv (.long v :: .ref a :: st) := zg_putl (ty := .long) X ha rfl (by decide) rfl (by decide) rfl rfl zl_in3 tyX3_ok nmX3 zk_X3_29 rfl (by decide +kernel) rfl rfl hdg (fun σ2 h2 => k σ2 h2 (by rw [h2]; exact zi_putl hI))
set_option maxRecDepth 20000 in
theorem zkl_X3_33 : Cond.fieldLink RX3 33 (TX3 5).1 (TX3 5).2.1 (TX3 5).2.2.1 ∈ zWL := zw1 (List.mem_of_getElem? (i := 138) rfl) rfl
set_option maxRecDepth 20000 in
theorem zk_X3_33 : Cond.fieldLink RX3 33 (TX3 5).1 (TX3 5).2.1 (TX3 5).2.2.1 ∈ zWL ∨ ∃ host, Cond.fieldLinkNest RX3 33 (TX3 5).1 (TX3 5).2.1 (TX3 5).2.2.1 host ∈ tables_1 := Or.inl (zw1 (List.mem_of_getElem? (i := 138) rfl) rfl)
theorem fg_X3_33 (X : zX d L kd A nL p s m args c cc RX3) (hI : zI κ b L kd σ) (ha : zT L kd a 3) (hdg : decode cc pc = .ok (.getfield 33, 3)) (k : ∀ v : Int32, v = σ.1 a 5 → (-2147483648) ≤ v.toInt ∧ v.toInt ≤ 2147483647 → zGc rs cs sl d L kd A nL p l e R s m args below meth c Q σ (pc + 3) lv (.int v :: st)) : zGc rs cs sl d L kd A nL p l e R s m args below meth c Q σ pc lv (.ref a :: st) := zg_geti X ha rfl (by decide) rfl (by decide) rfl zl_in3 zk_X3_33 hdg (k _ rfl (zi_get hI ha rfl))
theorem fp_X3_33 (X : zX d L kd A nL p s m args c cc RX3) {v : Int32} (hI : zI κ b L kd σ) (ha : zT L kd a 3) (h : (-2147483648) ≤ v.toInt ∧ v.toInt ≤ 2147483647) (hdg : decode cc pc = .ok (.putfield 33, 3)) (k : ∀ σ2 : zS, σ2 = (zu σ.1 a 5 v, σ.2.1, σ.2.2) → zI κ b L kd σ2 → zGc rs cs sl d L kd A nL p l e R s m args below meth c Q σ2 (pc + 3) lv st) : zGc rs cs sl d L kd A nL p l e R s m args below meth c Q σ pc lv (.int v :: .ref a :: st) := zg_puti (ty := .int) X ha rfl (by decide) rfl (by decide) rfl rfl zl_in3 tyX3_ok nmX3 zk_X3_33 rfl (by decide +kernel) rfl rfl hdg (fun σ2 h2 => k σ2 h2 (by rw [h2]; exact zi_puti hI ha rfl h.1 h.2))
set_option maxRecDepth 20000 in
theorem zkl_X3_36 : Cond.fieldLink RX3 36 (TX3 6).1 (TX3 6).2.1 (TX3 6).2.2.1 ∈ zWL := zw1 (List.mem_of_getElem? (i := 139) rfl) rfl
set_option maxRecDepth 20000 in
theorem zk_X3_36 : Cond.fieldLink RX3 36 (TX3 6).1 (TX3 6).2.1 (TX3 6).2.2.1 ∈ zWL ∨ ∃ host, Cond.fieldLinkNest RX3 36 (TX3 6).1 (TX3 6).2.1 (TX3 6).2.2.1 host ∈ tables_1 := Or.inl (zw1 (List.mem_of_getElem? (i := 139) rfl) rfl)
theorem fg_X3_36 (X : zX d L kd A nL p s m args c cc RX3) (hI : zI κ b L kd σ) (ha : zT L kd a 3) (hdg : decode cc pc = .ok (.getfield 36, 3)) (k : ∀ v : Int32, v = σ.1 a 6 → 0 ≤ v.toInt ∧ v.toInt ≤ 1 → zGc rs cs sl d L kd A nL p l e R s m args below meth c Q σ (pc + 3) lv (.int v :: st)) : zGc rs cs sl d L kd A nL p l e R s m args below meth c Q σ pc lv (.ref a :: st) := zg_geti X ha rfl (by decide) rfl (by decide) rfl zl_in3 zk_X3_36 hdg (k _ rfl (zi_get hI ha rfl))
theorem fp_X3_36 (X : zX d L kd A nL p s m args c cc RX3) {v : Int32} (hI : zI κ b L kd σ) (ha : zT L kd a 3) (h : 0 ≤ v.toInt ∧ v.toInt ≤ 1) (hdg : decode cc pc = .ok (.putfield 36, 3)) (k : ∀ σ2 : zS, σ2 = (zu σ.1 a 6 v, σ.2.1, σ.2.2) → zI κ b L kd σ2 → zGc rs cs sl d L kd A nL p l e R s m args below meth c Q σ2 (pc + 3) lv st) : zGc rs cs sl d L kd A nL p l e R s m args below meth c Q σ pc lv (.int v :: .ref a :: st) := zg_puti (ty := .boolean) X ha rfl (by decide) rfl (by decide) rfl rfl zl_in3 tyX3_ok nmX3 zk_X3_36 rfl (by decide +kernel) (zb_bool h) (zb_boolF h) hdg (fun σ2 h2 => k σ2 h2 (by rw [h2]; exact zi_puti hI ha rfl h.1 h.2))
set_option maxRecDepth 20000 in
theorem zkl_X3_40 : Cond.fieldLink RX3 40 (TX3 7).1 (TX3 7).2.1 (TX3 7).2.2.1 ∈ zWL := zw1 (List.mem_of_getElem? (i := 140) rfl) rfl
set_option maxRecDepth 20000 in
theorem zk_X3_40 : Cond.fieldLink RX3 40 (TX3 7).1 (TX3 7).2.1 (TX3 7).2.2.1 ∈ zWL ∨ ∃ host, Cond.fieldLinkNest RX3 40 (TX3 7).1 (TX3 7).2.1 (TX3 7).2.2.1 host ∈ tables_1 := Or.inl (zw1 (List.mem_of_getElem? (i := 140) rfl) rfl)
theorem fg_X3_40 (X : zX d L kd A nL p s m args c cc RX3) (hI : zI κ b L kd σ) (ha : zT L kd a 3) (hdg : decode cc pc = .ok (.getfield 40, 3)) (k : ∀ v : Int32, v = σ.1 a 7 → 0 ≤ v.toInt ∧ v.toInt ≤ 11 → zGc rs cs sl d L kd A nL p l e R s m args below meth c Q σ (pc + 3) lv (.int v :: st)) : zGc rs cs sl d L kd A nL p l e R s m args below meth c Q σ pc lv (.ref a :: st) := zg_geti X ha rfl (by decide) rfl (by decide) rfl zl_in3 zk_X3_40 hdg (k _ rfl (zi_get hI ha rfl))
theorem fp_X3_40 (X : zX d L kd A nL p s m args c cc RX3) {v : Int32} (hI : zI κ b L kd σ) (ha : zT L kd a 3) (h : 0 ≤ v.toInt ∧ v.toInt ≤ 11) (hdg : decode cc pc = .ok (.putfield 40, 3)) (k : ∀ σ2 : zS, σ2 = (zu σ.1 a 7 v, σ.2.1, σ.2.2) → zI κ b L kd σ2 → zGc rs cs sl d L kd A nL p l e R s m args below meth c Q σ2 (pc + 3) lv st) : zGc rs cs sl d L kd A nL p l e R s m args below meth c Q σ pc lv (.int v :: .ref a :: st) := zg_puti (ty := .int) X ha rfl (by decide) rfl (by decide) rfl rfl zl_in3 tyX3_ok nmX3 zk_X3_40 rfl (by decide +kernel) rfl rfl hdg (fun σ2 h2 => k σ2 h2 (by rw [h2]; exact zi_puti hI ha rfl h.1 h.2))
set_option maxRecDepth 20000 in
theorem zkl_X3_43 : Cond.fieldLink RX3 43 (TX3 8).1 (TX3 8).2.1 (TX3 8).2.2.1 ∈ zWL := zw1 (List.mem_of_getElem? (i := 141) rfl) rfl
set_option maxRecDepth 20000 in
theorem zk_X3_43 : Cond.fieldLink RX3 43 (TX3 8).1 (TX3 8).2.1 (TX3 8).2.2.1 ∈ zWL ∨ ∃ host, Cond.fieldLinkNest RX3 43 (TX3 8).1 (TX3 8).2.1 (TX3 8).2.2.1 host ∈ tables_1 := Or.inl (zw1 (List.mem_of_getElem? (i := 141) rfl) rfl)
theorem fg_X3_43 (X : zX d L kd A nL p s m args c cc RX3) (hI : zI κ b L kd σ) (ha : zT L kd a 3) (hdg : decode cc pc = .ok (.getfield 43, 3)) (k : ∀ v : Int32, v = σ.1 a 8 → (-2147483648) ≤ v.toInt ∧ v.toInt ≤ 2147483647 → zGc rs cs sl d L kd A nL p l e R s m args below meth c Q σ (pc + 3) lv (.int v :: st)) : zGc rs cs sl d L kd A nL p l e R s m args below meth c Q σ pc lv (.ref a :: st) := zg_geti X ha rfl (by decide) rfl (by decide) rfl zl_in3 zk_X3_43 hdg (k _ rfl (zi_get hI ha rfl))
theorem fp_X3_43 (X : zX d L kd A nL p s m args c cc RX3) {v : Int32} (hI : zI κ b L kd σ) (ha : zT L kd a 3) (h : (-2147483648) ≤ v.toInt ∧ v.toInt ≤ 2147483647) (hdg : decode cc pc = .ok (.putfield 43, 3)) (k : ∀ σ2 : zS, σ2 = (zu σ.1 a 8 v, σ.2.1, σ.2.2) → zI κ b L kd σ2 → zGc rs cs sl d L kd A nL p l e R s m args below meth c Q σ2 (pc + 3) lv st) : zGc rs cs sl d L kd A nL p l e R s m args below meth c Q σ pc lv (.int v :: .ref a :: st) := zg_puti (ty := .int) X ha rfl (by decide) rfl (by decide) rfl rfl zl_in3 tyX3_ok nmX3 zk_X3_43 rfl (by decide +kernel) rfl rfl hdg (fun σ2 h2 => k σ2 h2 (by rw [h2]; exact zi_puti hI ha rfl h.1 h.2))
set_option maxRecDepth 20000 in
theorem zkl_X3_46 : Cond.fieldLink RX3 46 (TX3 9).1 (TX3 9).2.1 (TX3 9).2.2.1 ∈ zWL := zw1 (List.mem_of_getElem? (i := 142) rfl) rfl
set_option maxRecDepth 20000 in
theorem zk_X3_46 : Cond.fieldLink RX3 46 (TX3 9).1 (TX3 9).2.1 (TX3 9).2.2.1 ∈ zWL ∨ ∃ host, Cond.fieldLinkNest RX3 46 (TX3 9).1 (TX3 9).2.1 (TX3 9).2.2.1 host ∈ tables_1 := Or.inl (zw1 (List.mem_of_getElem? (i := 142) rfl) rfl)
theorem fp_X3_46 (X : zX d L kd A nL p s m args c cc RX3) {v : Int32} (hI : zI κ b L kd σ) (ha : zT L kd a 3) (h : (-2147483648) ≤ v.toInt ∧ v.toInt ≤ 2147483647) (hdg : decode cc pc = .ok (.putfield 46, 3)) (k : ∀ σ2 : zS, σ2 = (zu σ.1 a 9 v, σ.2.1, σ.2.2) → zI κ b L kd σ2 → zGc rs cs sl d L kd A nL p l e R s m args below meth c Q σ2 (pc + 3) lv st) : zGc rs cs sl d L kd A nL p l e R s m args below meth c Q σ pc lv (.int v :: .ref a :: st) := zg_puti (ty := .int) X ha rfl (by decide) rfl (by decide) rfl rfl zl_in3 tyX3_ok nmX3 zk_X3_46 rfl (by decide +kernel) rfl rfl hdg (fun σ2 h2 => k σ2 h2 (by rw [h2]; exact zi_puti hI ha rfl h.1 h.2))
set_option maxRecDepth 20000 in
theorem zk_X10_99 : Cond.fieldLink RX10 99 (TX3 9).1 (TX3 9).2.1 (TX3 9).2.2.1 ∈ zWL ∨ ∃ host, Cond.fieldLinkNest RX10 99 (TX3 9).1 (TX3 9).2.1 (TX3 9).2.2.1 host ∈ tables_1 := Or.inr ⟨"SourceDispute", (zt1 (List.mem_of_getElem? (i := 143) rfl))⟩
theorem fg_X10_99 (X : zX d L kd A nL p s m args c cc RX10) (hI : zI κ b L kd σ) (ha : zT L kd a 3) (hdg : decode cc pc = .ok (.getfield 99, 3)) (k : ∀ v : Int32, v = σ.1 a 9 → (-2147483648) ≤ v.toInt ∧ v.toInt ≤ 2147483647 → zGc rs cs sl d L kd A nL p l e R s m args below meth c Q σ (pc + 3) lv (.int v :: st)) : zGc rs cs sl d L kd A nL p l e R s m args below meth c Q σ pc lv (.ref a :: st) := zg_geti X ha rfl (by decide) rfl (by decide) rfl zl_in3 zk_X10_99 hdg (k _ rfl (zi_get hI ha rfl))
set_option maxRecDepth 20000 in
theorem zkl_X3_49 : Cond.fieldLink RX3 49 (TX3 10).1 (TX3 10).2.1 (TX3 10).2.2.1 ∈ zWL := zw1 (List.mem_of_getElem? (i := 144) rfl) rfl
set_option maxRecDepth 20000 in
theorem zk_X3_49 : Cond.fieldLink RX3 49 (TX3 10).1 (TX3 10).2.1 (TX3 10).2.2.1 ∈ zWL ∨ ∃ host, Cond.fieldLinkNest RX3 49 (TX3 10).1 (TX3 10).2.1 (TX3 10).2.2.1 host ∈ tables_1 := Or.inl (zw1 (List.mem_of_getElem? (i := 144) rfl) rfl)
theorem fg_X3_49 (X : zX d L kd A nL p s m args c cc RX3) (hI : zI κ b L kd σ) (ha : zT L kd a 3) (hdg : decode cc pc = .ok (.getfield 49, 3)) (k : ∀ v : Int32, v = σ.1 a 10 → (-2147483648) ≤ v.toInt ∧ v.toInt ≤ 2147483647 → zGc rs cs sl d L kd A nL p l e R s m args below meth c Q σ (pc + 3) lv (.int v :: st)) : zGc rs cs sl d L kd A nL p l e R s m args below meth c Q σ pc lv (.ref a :: st) := zg_geti X ha rfl (by decide) rfl (by decide) rfl zl_in3 zk_X3_49 hdg (k _ rfl (zi_get hI ha rfl))
theorem fp_X3_49 (X : zX d L kd A nL p s m args c cc RX3) {v : Int32} (hI : zI κ b L kd σ) (ha : zT L kd a 3) (h : (-2147483648) ≤ v.toInt ∧ v.toInt ≤ 2147483647) (hdg : decode cc pc = .ok (.putfield 49, 3)) (k : ∀ σ2 : zS, σ2 = (zu σ.1 a 10 v, σ.2.1, σ.2.2) → zI κ b L kd σ2 → zGc rs cs sl d L kd A nL p l e R s m args below meth c Q σ2 (pc + 3) lv st) : zGc rs cs sl d L kd A nL p l e R s m args below meth c Q σ pc lv (.int v :: .ref a :: st) := zg_puti (ty := .int) X ha rfl (by decide) rfl (by decide) rfl rfl zl_in3 tyX3_ok nmX3 zk_X3_49 rfl (by decide +kernel) rfl rfl hdg (fun σ2 h2 => k σ2 h2 (by rw [h2]; exact zi_puti hI ha rfl h.1 h.2))
set_option maxRecDepth 20000 in
theorem zkl_X3_52 : Cond.fieldLink RX3 52 (TX3 11).1 (TX3 11).2.1 (TX3 11).2.2.1 ∈ zWL := zw1 (List.mem_of_getElem? (i := 145) rfl) rfl
set_option maxRecDepth 20000 in
theorem zk_X3_52 : Cond.fieldLink RX3 52 (TX3 11).1 (TX3 11).2.1 (TX3 11).2.2.1 ∈ zWL ∨ ∃ host, Cond.fieldLinkNest RX3 52 (TX3 11).1 (TX3 11).2.1 (TX3 11).2.2.1 host ∈ tables_1 := Or.inl (zw1 (List.mem_of_getElem? (i := 145) rfl) rfl)
theorem fg_X3_52 (X : zX d L kd A nL p s m args c cc RX3) (hI : zI κ b L kd σ) (ha : zT L kd a 3) (hdg : decode cc pc = .ok (.getfield 52, 3)) (k : ∀ v : Int32, v = σ.1 a 11 → (-2147483648) ≤ v.toInt ∧ v.toInt ≤ 2147483647 → zGc rs cs sl d L kd A nL p l e R s m args below meth c Q σ (pc + 3) lv (.int v :: st)) : zGc rs cs sl d L kd A nL p l e R s m args below meth c Q σ pc lv (.ref a :: st) := zg_geti X ha rfl (by decide) rfl (by decide) rfl zl_in3 zk_X3_52 hdg (k _ rfl (zi_get hI ha rfl))
theorem fp_X3_52 (X : zX d L kd A nL p s m args c cc RX3) {v : Int32} (hI : zI κ b L kd σ) (ha : zT L kd a 3) (h : (-2147483648) ≤ v.toInt ∧ v.toInt ≤ 2147483647) (hdg : decode cc pc = .ok (.putfield 52, 3)) (k : ∀ σ2 : zS, σ2 = (zu σ.1 a 11 v, σ.2.1, σ.2.2) → zI κ b L kd σ2 → zGc rs cs sl d L kd A nL p l e R s m args below meth c Q σ2 (pc + 3) lv st) : zGc rs cs sl d L kd A nL p l e R s m args below meth c Q σ pc lv (.int v :: .ref a :: st) := zg_puti (ty := .int) X ha rfl (by decide) rfl (by decide) rfl rfl zl_in3 tyX3_ok nmX3 zk_X3_52 rfl (by decide +kernel) rfl rfl hdg (fun σ2 h2 => k σ2 h2 (by rw [h2]; exact zi_puti hI ha rfl h.1 h.2))
set_option maxRecDepth 20000 in
theorem zkl_X6_9 : Cond.fieldLink RX6 9 (TX6 0).1 (TX6 0).2.1 (TX6 0).2.2.1 ∈ zWL := zw1 (List.mem_of_getElem? (i := 183) rfl) rfl
set_option maxRecDepth 20000 in
theorem zk_X6_9 : Cond.fieldLink RX6 9 (TX6 0).1 (TX6 0).2.1 (TX6 0).2.2.1 ∈ zWL ∨ ∃ host, Cond.fieldLinkNest RX6 9 (TX6 0).1 (TX6 0).2.1 (TX6 0).2.2.1 host ∈ tables_1 := Or.inl (zw1 (List.mem_of_getElem? (i := 183) rfl) rfl)
theorem fg_X6_9 (X : zX d L kd A nL p s m args c cc RX6) (hI : zI κ b L kd σ) (ha : zT L kd a 6) (hdg : decode cc pc = .ok (.getfield 9, 3)) (k : ∀ v : Int32, v = σ.1 a 0 → 0 ≤ v.toInt ∧ v.toInt ≤ 12 → zGc rs cs sl d L kd A nL p l e R s m args below meth c Q σ (pc + 3) lv (.int v :: st)) : zGc rs cs sl d L kd A nL p l e R s m args below meth c Q σ pc lv (.ref a :: st) := zg_geti X ha rfl (by decide) rfl (by decide) rfl zl_in6 zk_X6_9 hdg (k _ rfl (zi_get hI ha rfl))
theorem fp_X6_9 (X : zX d L kd A nL p s m args c cc RX6) {v : Int32} (hI : zI κ b L kd σ) (ha : zT L kd a 6) (h : 0 ≤ v.toInt ∧ v.toInt ≤ 12) (hdg : decode cc pc = .ok (.putfield 9, 3)) (k : ∀ σ2 : zS, σ2 = (zu σ.1 a 0 v, σ.2.1, σ.2.2) → zI κ b L kd σ2 → zGc rs cs sl d L kd A nL p l e R s m args below meth c Q σ2 (pc + 3) lv st) : zGc rs cs sl d L kd A nL p l e R s m args below meth c Q σ pc lv (.int v :: .ref a :: st) := zg_puti (ty := .int) X ha rfl (by decide) rfl (by decide) rfl rfl zl_in6 tyX6_ok nmX6 zk_X6_9 rfl (by decide +kernel) rfl rfl hdg (fun σ2 h2 => k σ2 h2 (by rw [h2]; exact zi_puti hI ha rfl h.1 h.2))
set_option maxRecDepth 20000 in
theorem zk_X2_29 : Cond.fieldLink RX2 29 (TX6 0).1 (TX6 0).2.1 (TX6 0).2.2.1 ∈ zWL ∨ ∃ host, Cond.fieldLinkNest RX2 29 (TX6 0).1 (TX6 0).2.1 (TX6 0).2.2.1 host ∈ tables_1 := Or.inr ⟨"SourceDispute", (zt1 (List.mem_of_getElem? (i := 184) rfl))⟩
theorem fg_X2_29 (X : zX d L kd A nL p s m args c cc RX2) (hI : zI κ b L kd σ) (ha : zT L kd a 6) (hdg : decode cc pc = .ok (.getfield 29, 3)) (k : ∀ v : Int32, v = σ.1 a 0 → 0 ≤ v.toInt ∧ v.toInt ≤ 12 → zGc rs cs sl d L kd A nL p l e R s m args below meth c Q σ (pc + 3) lv (.int v :: st)) : zGc rs cs sl d L kd A nL p l e R s m args below meth c Q σ pc lv (.ref a :: st) := zg_geti X ha rfl (by decide) rfl (by decide) rfl zl_in6 zk_X2_29 hdg (k _ rfl (zi_get hI ha rfl))
set_option maxRecDepth 20000 in
theorem zk_X5_64 : Cond.fieldLink RX5 64 (TX6 0).1 (TX6 0).2.1 (TX6 0).2.2.1 ∈ zWL ∨ ∃ host, Cond.fieldLinkNest RX5 64 (TX6 0).1 (TX6 0).2.1 (TX6 0).2.2.1 host ∈ tables_1 := Or.inr ⟨"SourceDispute", (zt1 (List.mem_of_getElem? (i := 185) rfl))⟩
theorem fg_X5_64 (X : zX d L kd A nL p s m args c cc RX5) (hI : zI κ b L kd σ) (ha : zT L kd a 6) (hdg : decode cc pc = .ok (.getfield 64, 3)) (k : ∀ v : Int32, v = σ.1 a 0 → 0 ≤ v.toInt ∧ v.toInt ≤ 12 → zGc rs cs sl d L kd A nL p l e R s m args below meth c Q σ (pc + 3) lv (.int v :: st)) : zGc rs cs sl d L kd A nL p l e R s m args below meth c Q σ pc lv (.ref a :: st) := zg_geti X ha rfl (by decide) rfl (by decide) rfl zl_in6 zk_X5_64 hdg (k _ rfl (zi_get hI ha rfl))
set_option maxRecDepth 20000 in
theorem zkl_X6_15 : Cond.fieldLink RX6 15 (TX6 1).1 (TX6 1).2.1 (TX6 1).2.2.1 ∈ zWL := zw1 (List.mem_of_getElem? (i := 186) rfl) rfl
set_option maxRecDepth 20000 in
theorem zk_X6_15 : Cond.fieldLink RX6 15 (TX6 1).1 (TX6 1).2.1 (TX6 1).2.2.1 ∈ zWL ∨ ∃ host, Cond.fieldLinkNest RX6 15 (TX6 1).1 (TX6 1).2.1 (TX6 1).2.2.1 host ∈ tables_1 := Or.inl (zw1 (List.mem_of_getElem? (i := 186) rfl) rfl)
theorem fg_X6_15 (X : zX d L kd A nL p s m args c cc RX6) (hI : zI κ b L kd σ) (ha : zT L kd a 6) (hdg : decode cc pc = .ok (.getfield 15, 3)) (k : ∀ y : Nat, σ.2.2 a 1 = some y → zT L kd y 33 → zGc rs cs sl d L kd A nL p l e R s m args below meth c Q σ (pc + 3) lv (.ref y :: st)) : zGc rs cs sl d L kd A nL p l e R s m args below meth c Q σ pc lv (.ref a :: st) := by
  obtain ⟨y, hy, hT⟩ := zi_ref hI ha (show zf _ 6 1 = some 33 from rfl)
  have q := k y hy hT
  exact zg_getr X ha rfl (by decide) rfl (by decide) rfl zl_in6 zk_X6_15 hdg (by rw [hy]; exact q)
set_option maxRecDepth 20000 in
theorem zkl_X6_19 : Cond.fieldLink RX6 19 (TX6 2).1 (TX6 2).2.1 (TX6 2).2.2.1 ∈ zWL := zw1 (List.mem_of_getElem? (i := 187) rfl) rfl
set_option maxRecDepth 20000 in
theorem zk_X6_19 : Cond.fieldLink RX6 19 (TX6 2).1 (TX6 2).2.1 (TX6 2).2.2.1 ∈ zWL ∨ ∃ host, Cond.fieldLinkNest RX6 19 (TX6 2).1 (TX6 2).2.1 (TX6 2).2.2.1 host ∈ tables_1 := Or.inl (zw1 (List.mem_of_getElem? (i := 187) rfl) rfl)
theorem fg_X6_19 (X : zX d L kd A nL p s m args c cc RX6) (hI : zI κ b L kd σ) (ha : zT L kd a 6) (hdg : decode cc pc = .ok (.getfield 19, 3)) (k : ∀ y : Nat, σ.2.2 a 2 = some y → zT L kd y 34 → zGc rs cs sl d L kd A nL p l e R s m args below meth c Q σ (pc + 3) lv (.ref y :: st)) : zGc rs cs sl d L kd A nL p l e R s m args below meth c Q σ pc lv (.ref a :: st) := by
  obtain ⟨y, hy, hT⟩ := zi_ref hI ha (show zf _ 6 2 = some 34 from rfl)
  have q := k y hy hT
  exact zg_getr X ha rfl (by decide) rfl (by decide) rfl zl_in6 zk_X6_19 hdg (by rw [hy]; exact q)
set_option maxRecDepth 20000 in
theorem zk_X5_82 : Cond.fieldLink RX5 82 (TX6 2).1 (TX6 2).2.1 (TX6 2).2.2.1 ∈ zWL ∨ ∃ host, Cond.fieldLinkNest RX5 82 (TX6 2).1 (TX6 2).2.1 (TX6 2).2.2.1 host ∈ tables_1 := Or.inr ⟨"SourceDispute", (zt1 (List.mem_of_getElem? (i := 188) rfl))⟩
theorem fg_X5_82 (X : zX d L kd A nL p s m args c cc RX5) (hI : zI κ b L kd σ) (ha : zT L kd a 6) (hdg : decode cc pc = .ok (.getfield 82, 3)) (k : ∀ y : Nat, σ.2.2 a 2 = some y → zT L kd y 34 → zGc rs cs sl d L kd A nL p l e R s m args below meth c Q σ (pc + 3) lv (.ref y :: st)) : zGc rs cs sl d L kd A nL p l e R s m args below meth c Q σ pc lv (.ref a :: st) := by
  obtain ⟨y, hy, hT⟩ := zi_ref hI ha (show zf _ 6 2 = some 34 from rfl)
  have q := k y hy hT
  exact zg_getr X ha rfl (by decide) rfl (by decide) rfl zl_in6 zk_X5_82 hdg (by rw [hy]; exact q)
set_option maxRecDepth 20000 in
theorem zkl_X6_22 : Cond.fieldLink RX6 22 (TX6 3).1 (TX6 3).2.1 (TX6 3).2.2.1 ∈ zWL := zw1 (List.mem_of_getElem? (i := 189) rfl) rfl
set_option maxRecDepth 20000 in
theorem zk_X6_22 : Cond.fieldLink RX6 22 (TX6 3).1 (TX6 3).2.1 (TX6 3).2.2.1 ∈ zWL ∨ ∃ host, Cond.fieldLinkNest RX6 22 (TX6 3).1 (TX6 3).2.1 (TX6 3).2.2.1 host ∈ tables_1 := Or.inl (zw1 (List.mem_of_getElem? (i := 189) rfl) rfl)
theorem fg_X6_22 (X : zX d L kd A nL p s m args c cc RX6) (hI : zI κ b L kd σ) (ha : zT L kd a 6) (hdg : decode cc pc = .ok (.getfield 22, 3)) (k : ∀ y : Nat, σ.2.2 a 3 = some y → zT L kd y 35 → zGc rs cs sl d L kd A nL p l e R s m args below meth c Q σ (pc + 3) lv (.ref y :: st)) : zGc rs cs sl d L kd A nL p l e R s m args below meth c Q σ pc lv (.ref a :: st) := by
  obtain ⟨y, hy, hT⟩ := zi_ref hI ha (show zf _ 6 3 = some 35 from rfl)
  have q := k y hy hT
  exact zg_getr X ha rfl (by decide) rfl (by decide) rfl zl_in6 zk_X6_22 hdg (by rw [hy]; exact q)
set_option maxRecDepth 20000 in
theorem zk_X2_46 : Cond.fieldLink RX2 46 (TX6 3).1 (TX6 3).2.1 (TX6 3).2.2.1 ∈ zWL ∨ ∃ host, Cond.fieldLinkNest RX2 46 (TX6 3).1 (TX6 3).2.1 (TX6 3).2.2.1 host ∈ tables_1 := Or.inr ⟨"SourceDispute", (zt1 (List.mem_of_getElem? (i := 190) rfl))⟩
theorem fg_X2_46 (X : zX d L kd A nL p s m args c cc RX2) (hI : zI κ b L kd σ) (ha : zT L kd a 6) (hdg : decode cc pc = .ok (.getfield 46, 3)) (k : ∀ y : Nat, σ.2.2 a 3 = some y → zT L kd y 35 → zGc rs cs sl d L kd A nL p l e R s m args below meth c Q σ (pc + 3) lv (.ref y :: st)) : zGc rs cs sl d L kd A nL p l e R s m args below meth c Q σ pc lv (.ref a :: st) := by
  obtain ⟨y, hy, hT⟩ := zi_ref hI ha (show zf _ 6 3 = some 35 from rfl)
  have q := k y hy hT
  exact zg_getr X ha rfl (by decide) rfl (by decide) rfl zl_in6 zk_X2_46 hdg (by rw [hy]; exact q)
set_option maxRecDepth 20000 in
theorem zk_X10_138 : Cond.fieldLink RX10 138 (TX6 3).1 (TX6 3).2.1 (TX6 3).2.2.1 ∈ zWL ∨ ∃ host, Cond.fieldLinkNest RX10 138 (TX6 3).1 (TX6 3).2.1 (TX6 3).2.2.1 host ∈ tables_1 := Or.inr ⟨"SourceDispute", (zt1 (List.mem_of_getElem? (i := 191) rfl))⟩
theorem fg_X10_138 (X : zX d L kd A nL p s m args c cc RX10) (hI : zI κ b L kd σ) (ha : zT L kd a 6) (hdg : decode cc pc = .ok (.getfield 138, 3)) (k : ∀ y : Nat, σ.2.2 a 3 = some y → zT L kd y 35 → zGc rs cs sl d L kd A nL p l e R s m args below meth c Q σ (pc + 3) lv (.ref y :: st)) : zGc rs cs sl d L kd A nL p l e R s m args below meth c Q σ pc lv (.ref a :: st) := by
  obtain ⟨y, hy, hT⟩ := zi_ref hI ha (show zf _ 6 3 = some 35 from rfl)
  have q := k y hy hT
  exact zg_getr X ha rfl (by decide) rfl (by decide) rfl zl_in6 zk_X10_138 hdg (by rw [hy]; exact q)
set_option maxRecDepth 20000 in
theorem zk_X5_102 : Cond.fieldLink RX5 102 (TX6 3).1 (TX6 3).2.1 (TX6 3).2.2.1 ∈ zWL ∨ ∃ host, Cond.fieldLinkNest RX5 102 (TX6 3).1 (TX6 3).2.1 (TX6 3).2.2.1 host ∈ tables_1 := Or.inr ⟨"SourceDispute", (zt1 (List.mem_of_getElem? (i := 192) rfl))⟩
theorem fg_X5_102 (X : zX d L kd A nL p s m args c cc RX5) (hI : zI κ b L kd σ) (ha : zT L kd a 6) (hdg : decode cc pc = .ok (.getfield 102, 3)) (k : ∀ y : Nat, σ.2.2 a 3 = some y → zT L kd y 35 → zGc rs cs sl d L kd A nL p l e R s m args below meth c Q σ (pc + 3) lv (.ref y :: st)) : zGc rs cs sl d L kd A nL p l e R s m args below meth c Q σ pc lv (.ref a :: st) := by
  obtain ⟨y, hy, hT⟩ := zi_ref hI ha (show zf _ 6 3 = some 35 from rfl)
  have q := k y hy hT
  exact zg_getr X ha rfl (by decide) rfl (by decide) rfl zl_in6 zk_X5_102 hdg (by rw [hy]; exact q)
set_option maxRecDepth 20000 in
theorem zkl_X6_25 : Cond.fieldLink RX6 25 (TX6 4).1 (TX6 4).2.1 (TX6 4).2.2.1 ∈ zWL := zw1 (List.mem_of_getElem? (i := 193) rfl) rfl
set_option maxRecDepth 20000 in
theorem zk_X6_25 : Cond.fieldLink RX6 25 (TX6 4).1 (TX6 4).2.1 (TX6 4).2.2.1 ∈ zWL ∨ ∃ host, Cond.fieldLinkNest RX6 25 (TX6 4).1 (TX6 4).2.1 (TX6 4).2.2.1 host ∈ tables_1 := Or.inl (zw1 (List.mem_of_getElem? (i := 193) rfl) rfl)
theorem fg_X6_25 (X : zX d L kd A nL p s m args c cc RX6) (hI : zI κ b L kd σ) (ha : zT L kd a 6) (hdg : decode cc pc = .ok (.getfield 25, 3)) (k : ∀ y : Nat, σ.2.2 a 4 = some y → zT L kd y 36 → zGc rs cs sl d L kd A nL p l e R s m args below meth c Q σ (pc + 3) lv (.ref y :: st)) : zGc rs cs sl d L kd A nL p l e R s m args below meth c Q σ pc lv (.ref a :: st) := by
  obtain ⟨y, hy, hT⟩ := zi_ref hI ha (show zf _ 6 4 = some 36 from rfl)
  have q := k y hy hT
  exact zg_getr X ha rfl (by decide) rfl (by decide) rfl zl_in6 zk_X6_25 hdg (by rw [hy]; exact q)
set_option maxRecDepth 20000 in
theorem zk_X10_143 : Cond.fieldLink RX10 143 (TX6 4).1 (TX6 4).2.1 (TX6 4).2.2.1 ∈ zWL ∨ ∃ host, Cond.fieldLinkNest RX10 143 (TX6 4).1 (TX6 4).2.1 (TX6 4).2.2.1 host ∈ tables_1 := Or.inr ⟨"SourceDispute", (zt1 (List.mem_of_getElem? (i := 194) rfl))⟩
theorem fg_X10_143 (X : zX d L kd A nL p s m args c cc RX10) (hI : zI κ b L kd σ) (ha : zT L kd a 6) (hdg : decode cc pc = .ok (.getfield 143, 3)) (k : ∀ y : Nat, σ.2.2 a 4 = some y → zT L kd y 36 → zGc rs cs sl d L kd A nL p l e R s m args below meth c Q σ (pc + 3) lv (.ref y :: st)) : zGc rs cs sl d L kd A nL p l e R s m args below meth c Q σ pc lv (.ref a :: st) := by
  obtain ⟨y, hy, hT⟩ := zi_ref hI ha (show zf _ 6 4 = some 36 from rfl)
  have q := k y hy hT
  exact zg_getr X ha rfl (by decide) rfl (by decide) rfl zl_in6 zk_X10_143 hdg (by rw [hy]; exact q)
set_option maxRecDepth 20000 in
theorem zk_X5_118 : Cond.fieldLink RX5 118 (TX6 4).1 (TX6 4).2.1 (TX6 4).2.2.1 ∈ zWL ∨ ∃ host, Cond.fieldLinkNest RX5 118 (TX6 4).1 (TX6 4).2.1 (TX6 4).2.2.1 host ∈ tables_1 := Or.inr ⟨"SourceDispute", (zt1 (List.mem_of_getElem? (i := 195) rfl))⟩
theorem fg_X5_118 (X : zX d L kd A nL p s m args c cc RX5) (hI : zI κ b L kd σ) (ha : zT L kd a 6) (hdg : decode cc pc = .ok (.getfield 118, 3)) (k : ∀ y : Nat, σ.2.2 a 4 = some y → zT L kd y 36 → zGc rs cs sl d L kd A nL p l e R s m args below meth c Q σ (pc + 3) lv (.ref y :: st)) : zGc rs cs sl d L kd A nL p l e R s m args below meth c Q σ pc lv (.ref a :: st) := by
  obtain ⟨y, hy, hT⟩ := zi_ref hI ha (show zf _ 6 4 = some 36 from rfl)
  have q := k y hy hT
  exact zg_getr X ha rfl (by decide) rfl (by decide) rfl zl_in6 zk_X5_118 hdg (by rw [hy]; exact q)
set_option maxRecDepth 20000 in
theorem zkl_X6_28 : Cond.fieldLink RX6 28 (TX6 5).1 (TX6 5).2.1 (TX6 5).2.2.1 ∈ zWL := zw1 (List.mem_of_getElem? (i := 196) rfl) rfl
set_option maxRecDepth 20000 in
theorem zk_X6_28 : Cond.fieldLink RX6 28 (TX6 5).1 (TX6 5).2.1 (TX6 5).2.2.1 ∈ zWL ∨ ∃ host, Cond.fieldLinkNest RX6 28 (TX6 5).1 (TX6 5).2.1 (TX6 5).2.2.1 host ∈ tables_1 := Or.inl (zw1 (List.mem_of_getElem? (i := 196) rfl) rfl)
theorem fg_X6_28 (X : zX d L kd A nL p s m args c cc RX6) (hI : zI κ b L kd σ) (ha : zT L kd a 6) (hdg : decode cc pc = .ok (.getfield 28, 3)) (k : ∀ y : Nat, σ.2.2 a 5 = some y → zT L kd y 37 → zGc rs cs sl d L kd A nL p l e R s m args below meth c Q σ (pc + 3) lv (.ref y :: st)) : zGc rs cs sl d L kd A nL p l e R s m args below meth c Q σ pc lv (.ref a :: st) := by
  obtain ⟨y, hy, hT⟩ := zi_ref hI ha (show zf _ 6 5 = some 37 from rfl)
  have q := k y hy hT
  exact zg_getr X ha rfl (by decide) rfl (by decide) rfl zl_in6 zk_X6_28 hdg (by rw [hy]; exact q)
set_option maxRecDepth 20000 in
theorem zkl_X6_31 : Cond.fieldLink RX6 31 (TX6 6).1 (TX6 6).2.1 (TX6 6).2.2.1 ∈ zWL := zw1 (List.mem_of_getElem? (i := 197) rfl) rfl
set_option maxRecDepth 20000 in
theorem zk_X6_31 : Cond.fieldLink RX6 31 (TX6 6).1 (TX6 6).2.1 (TX6 6).2.2.1 ∈ zWL ∨ ∃ host, Cond.fieldLinkNest RX6 31 (TX6 6).1 (TX6 6).2.1 (TX6 6).2.2.1 host ∈ tables_1 := Or.inl (zw1 (List.mem_of_getElem? (i := 197) rfl) rfl)
theorem fg_X6_31 (X : zX d L kd A nL p s m args c cc RX6) (hI : zI κ b L kd σ) (ha : zT L kd a 6) (hdg : decode cc pc = .ok (.getfield 31, 3)) (k : ∀ y : Nat, σ.2.2 a 6 = some y → zT L kd y 38 → zGc rs cs sl d L kd A nL p l e R s m args below meth c Q σ (pc + 3) lv (.ref y :: st)) : zGc rs cs sl d L kd A nL p l e R s m args below meth c Q σ pc lv (.ref a :: st) := by
  obtain ⟨y, hy, hT⟩ := zi_ref hI ha (show zf _ 6 6 = some 38 from rfl)
  have q := k y hy hT
  exact zg_getr X ha rfl (by decide) rfl (by decide) rfl zl_in6 zk_X6_31 hdg (by rw [hy]; exact q)
set_option maxRecDepth 20000 in
theorem zk_X2_49 : Cond.fieldLink RX2 49 (TX6 6).1 (TX6 6).2.1 (TX6 6).2.2.1 ∈ zWL ∨ ∃ host, Cond.fieldLinkNest RX2 49 (TX6 6).1 (TX6 6).2.1 (TX6 6).2.2.1 host ∈ tables_1 := Or.inr ⟨"SourceDispute", (zt1 (List.mem_of_getElem? (i := 198) rfl))⟩
theorem fg_X2_49 (X : zX d L kd A nL p s m args c cc RX2) (hI : zI κ b L kd σ) (ha : zT L kd a 6) (hdg : decode cc pc = .ok (.getfield 49, 3)) (k : ∀ y : Nat, σ.2.2 a 6 = some y → zT L kd y 38 → zGc rs cs sl d L kd A nL p l e R s m args below meth c Q σ (pc + 3) lv (.ref y :: st)) : zGc rs cs sl d L kd A nL p l e R s m args below meth c Q σ pc lv (.ref a :: st) := by
  obtain ⟨y, hy, hT⟩ := zi_ref hI ha (show zf _ 6 6 = some 38 from rfl)
  have q := k y hy hT
  exact zg_getr X ha rfl (by decide) rfl (by decide) rfl zl_in6 zk_X2_49 hdg (by rw [hy]; exact q)
set_option maxRecDepth 20000 in
theorem zkl_X0_9 : Cond.fieldLink RX0 9 (TX0 0).1 (TX0 0).2.1 (TX0 0).2.2.1 ∈ zWL := zw1 (List.mem_of_getElem? (i := 220) rfl) rfl
set_option maxRecDepth 20000 in
theorem zk_X0_9 : Cond.fieldLink RX0 9 (TX0 0).1 (TX0 0).2.1 (TX0 0).2.2.1 ∈ zWL ∨ ∃ host, Cond.fieldLinkNest RX0 9 (TX0 0).1 (TX0 0).2.1 (TX0 0).2.2.1 host ∈ tables_1 := Or.inl (zw1 (List.mem_of_getElem? (i := 220) rfl) rfl)
theorem fg_X0_9 (X : zX d L kd A nL p s m args c cc RX0) (hI : zI κ b L kd σ) (ha : zT L kd a 0) (hdg : decode cc pc = .ok (.getfield 9, 3)) (k : ∀ y : Nat, σ.2.2 a 0 = some y → zT L kd y 20 → zGc rs cs sl d L kd A nL p l e R s m args below meth c Q σ (pc + 3) lv (.ref y :: st)) : zGc rs cs sl d L kd A nL p l e R s m args below meth c Q σ pc lv (.ref a :: st) := by
  obtain ⟨y, hy, hT⟩ := zi_ref hI ha (show zf _ 0 0 = some 20 from rfl)
  have q := k y hy hT
  exact zg_getr X ha rfl (by decide) rfl (by decide) rfl zl_in0 zk_X0_9 hdg (by rw [hy]; exact q)
set_option maxRecDepth 20000 in
theorem zk_X5_96 : Cond.fieldLink RX5 96 (TX0 0).1 (TX0 0).2.1 (TX0 0).2.2.1 ∈ zWL ∨ ∃ host, Cond.fieldLinkNest RX5 96 (TX0 0).1 (TX0 0).2.1 (TX0 0).2.2.1 host ∈ tables_1 := Or.inr ⟨"SourceDispute", (zt1 (List.mem_of_getElem? (i := 221) rfl))⟩
theorem fg_X5_96 (X : zX d L kd A nL p s m args c cc RX5) (hI : zI κ b L kd σ) (ha : zT L kd a 0) (hdg : decode cc pc = .ok (.getfield 96, 3)) (k : ∀ y : Nat, σ.2.2 a 0 = some y → zT L kd y 20 → zGc rs cs sl d L kd A nL p l e R s m args below meth c Q σ (pc + 3) lv (.ref y :: st)) : zGc rs cs sl d L kd A nL p l e R s m args below meth c Q σ pc lv (.ref a :: st) := by
  obtain ⟨y, hy, hT⟩ := zi_ref hI ha (show zf _ 0 0 = some 20 from rfl)
  have q := k y hy hT
  exact zg_getr X ha rfl (by decide) rfl (by decide) rfl zl_in0 zk_X5_96 hdg (by rw [hy]; exact q)
set_option maxRecDepth 20000 in
theorem zkl_X0_13 : Cond.fieldLink RX0 13 (TX0 1).1 (TX0 1).2.1 (TX0 1).2.2.1 ∈ zWL := zw1 (List.mem_of_getElem? (i := 222) rfl) rfl
set_option maxRecDepth 20000 in
theorem zk_X0_13 : Cond.fieldLink RX0 13 (TX0 1).1 (TX0 1).2.1 (TX0 1).2.2.1 ∈ zWL ∨ ∃ host, Cond.fieldLinkNest RX0 13 (TX0 1).1 (TX0 1).2.1 (TX0 1).2.2.1 host ∈ tables_1 := Or.inl (zw1 (List.mem_of_getElem? (i := 222) rfl) rfl)
theorem fg_X0_13 (X : zX d L kd A nL p s m args c cc RX0) (hI : zI κ b L kd σ) (ha : zT L kd a 0) (hdg : decode cc pc = .ok (.getfield 13, 3)) (k : ∀ y : Nat, σ.2.2 a 1 = some y → zT L kd y 21 → zGc rs cs sl d L kd A nL p l e R s m args below meth c Q σ (pc + 3) lv (.ref y :: st)) : zGc rs cs sl d L kd A nL p l e R s m args below meth c Q σ pc lv (.ref a :: st) := by
  obtain ⟨y, hy, hT⟩ := zi_ref hI ha (show zf _ 0 1 = some 21 from rfl)
  have q := k y hy hT
  exact zg_getr X ha rfl (by decide) rfl (by decide) rfl zl_in0 zk_X0_13 hdg (by rw [hy]; exact q)
set_option maxRecDepth 20000 in
theorem zkl_X5_12 : Cond.fieldLink RX5 12 (TX5 0).1 (TX5 0).2.1 (TX5 0).2.2.1 ∈ zWL := zw1 (List.mem_of_getElem? (i := 228) rfl) rfl
set_option maxRecDepth 20000 in
theorem zk_X5_12 : Cond.fieldLink RX5 12 (TX5 0).1 (TX5 0).2.1 (TX5 0).2.2.1 ∈ zWL ∨ ∃ host, Cond.fieldLinkNest RX5 12 (TX5 0).1 (TX5 0).2.1 (TX5 0).2.2.1 host ∈ tables_1 := Or.inl (zw1 (List.mem_of_getElem? (i := 228) rfl) rfl)
theorem fg_X5_12 (X : zX d L kd A nL p s m args c cc RX5) (hI : zI κ b L kd σ) (ha : zT L kd a 5) (hdg : decode cc pc = .ok (.getfield 12, 3)) (k : ∀ y : Nat, σ.2.2 a 0 = some y → zT L kd y 6 → zGc rs cs sl d L kd A nL p l e R s m args below meth c Q σ (pc + 3) lv (.ref y :: st)) : zGc rs cs sl d L kd A nL p l e R s m args below meth c Q σ pc lv (.ref a :: st) := by
  obtain ⟨y, hy, hT⟩ := zi_ref hI ha (show zf _ 5 0 = some 6 from rfl)
  have q := k y hy hT
  exact zg_getr X ha rfl (by decide) rfl (by decide) rfl zl_in5 zk_X5_12 hdg (by rw [hy]; exact q)
set_option maxRecDepth 20000 in
theorem zk_X10_30 : Cond.fieldLink RX10 30 (TX5 0).1 (TX5 0).2.1 (TX5 0).2.2.1 ∈ zWL ∨ ∃ host, Cond.fieldLinkNest RX10 30 (TX5 0).1 (TX5 0).2.1 (TX5 0).2.2.1 host ∈ tables_1 := Or.inr ⟨"SourceDispute", (zt1 (List.mem_of_getElem? (i := 229) rfl))⟩
theorem fg_X10_30 (X : zX d L kd A nL p s m args c cc RX10) (hI : zI κ b L kd σ) (ha : zT L kd a 5) (hdg : decode cc pc = .ok (.getfield 30, 3)) (k : ∀ y : Nat, σ.2.2 a 0 = some y → zT L kd y 6 → zGc rs cs sl d L kd A nL p l e R s m args below meth c Q σ (pc + 3) lv (.ref y :: st)) : zGc rs cs sl d L kd A nL p l e R s m args below meth c Q σ pc lv (.ref a :: st) := by
  obtain ⟨y, hy, hT⟩ := zi_ref hI ha (show zf _ 5 0 = some 6 from rfl)
  have q := k y hy hT
  exact zg_getr X ha rfl (by decide) rfl (by decide) rfl zl_in5 zk_X10_30 hdg (by rw [hy]; exact q)
set_option maxRecDepth 20000 in
theorem zkl_X5_21 : Cond.fieldLink RX5 21 (TX5 1).1 (TX5 1).2.1 (TX5 1).2.2.1 ∈ zWL := zw1 (List.mem_of_getElem? (i := 230) rfl) rfl
set_option maxRecDepth 20000 in
theorem zk_X5_21 : Cond.fieldLink RX5 21 (TX5 1).1 (TX5 1).2.1 (TX5 1).2.2.1 ∈ zWL ∨ ∃ host, Cond.fieldLinkNest RX5 21 (TX5 1).1 (TX5 1).2.1 (TX5 1).2.2.1 host ∈ tables_1 := Or.inl (zw1 (List.mem_of_getElem? (i := 230) rfl) rfl)
theorem fg_X5_21 (X : zX d L kd A nL p s m args c cc RX5) (hI : zI κ b L kd σ) (ha : zT L kd a 5) (hdg : decode cc pc = .ok (.getfield 21, 3)) (k : ∀ y : Nat, σ.2.2 a 1 = some y → zT L kd y 0 → zGc rs cs sl d L kd A nL p l e R s m args below meth c Q σ (pc + 3) lv (.ref y :: st)) : zGc rs cs sl d L kd A nL p l e R s m args below meth c Q σ pc lv (.ref a :: st) := by
  obtain ⟨y, hy, hT⟩ := zi_ref hI ha (show zf _ 5 1 = some 0 from rfl)
  have q := k y hy hT
  exact zg_getr X ha rfl (by decide) rfl (by decide) rfl zl_in5 zk_X5_21 hdg (by rw [hy]; exact q)
set_option maxRecDepth 20000 in
theorem zkl_X5_25 : Cond.fieldLink RX5 25 (TX5 2).1 (TX5 2).2.1 (TX5 2).2.2.1 ∈ zWL := zw1 (List.mem_of_getElem? (i := 231) rfl) rfl
set_option maxRecDepth 20000 in
theorem zk_X5_25 : Cond.fieldLink RX5 25 (TX5 2).1 (TX5 2).2.1 (TX5 2).2.2.1 ∈ zWL ∨ ∃ host, Cond.fieldLinkNest RX5 25 (TX5 2).1 (TX5 2).2.1 (TX5 2).2.2.1 host ∈ tables_1 := Or.inl (zw1 (List.mem_of_getElem? (i := 231) rfl) rfl)
theorem fg_X5_25 (X : zX d L kd A nL p s m args c cc RX5) (hI : zI κ b L kd σ) (ha : zT L kd a 5) (hdg : decode cc pc = .ok (.getfield 25, 3)) (k : ∀ y : Nat, σ.2.2 a 2 = some y → zT L kd y 30 → zGc rs cs sl d L kd A nL p l e R s m args below meth c Q σ (pc + 3) lv (.ref y :: st)) : zGc rs cs sl d L kd A nL p l e R s m args below meth c Q σ pc lv (.ref a :: st) := by
  obtain ⟨y, hy, hT⟩ := zi_ref hI ha (show zf _ 5 2 = some 30 from rfl)
  have q := k y hy hT
  exact zg_getr X ha rfl (by decide) rfl (by decide) rfl zl_in5 zk_X5_25 hdg (by rw [hy]; exact q)
set_option maxRecDepth 20000 in
theorem zk_X10_155 : Cond.fieldLink RX10 155 (TX5 2).1 (TX5 2).2.1 (TX5 2).2.2.1 ∈ zWL ∨ ∃ host, Cond.fieldLinkNest RX10 155 (TX5 2).1 (TX5 2).2.1 (TX5 2).2.2.1 host ∈ tables_1 := Or.inr ⟨"SourceDispute", (zt1 (List.mem_of_getElem? (i := 232) rfl))⟩
theorem fg_X10_155 (X : zX d L kd A nL p s m args c cc RX10) (hI : zI κ b L kd σ) (ha : zT L kd a 5) (hdg : decode cc pc = .ok (.getfield 155, 3)) (k : ∀ y : Nat, σ.2.2 a 2 = some y → zT L kd y 30 → zGc rs cs sl d L kd A nL p l e R s m args below meth c Q σ (pc + 3) lv (.ref y :: st)) : zGc rs cs sl d L kd A nL p l e R s m args below meth c Q σ pc lv (.ref a :: st) := by
  obtain ⟨y, hy, hT⟩ := zi_ref hI ha (show zf _ 5 2 = some 30 from rfl)
  have q := k y hy hT
  exact zg_getr X ha rfl (by decide) rfl (by decide) rfl zl_in5 zk_X10_155 hdg (by rw [hy]; exact q)
set_option maxRecDepth 20000 in
theorem zkl_X5_29 : Cond.fieldLink RX5 29 (TX5 3).1 (TX5 3).2.1 (TX5 3).2.2.1 ∈ zWL := zw1 (List.mem_of_getElem? (i := 233) rfl) rfl
set_option maxRecDepth 20000 in
theorem zk_X5_29 : Cond.fieldLink RX5 29 (TX5 3).1 (TX5 3).2.1 (TX5 3).2.2.1 ∈ zWL ∨ ∃ host, Cond.fieldLinkNest RX5 29 (TX5 3).1 (TX5 3).2.1 (TX5 3).2.2.1 host ∈ tables_1 := Or.inl (zw1 (List.mem_of_getElem? (i := 233) rfl) rfl)
theorem fg_X5_29 (X : zX d L kd A nL p s m args c cc RX5) (hI : zI κ b L kd σ) (ha : zT L kd a 5) (hdg : decode cc pc = .ok (.getfield 29, 3)) (k : ∀ y : Nat, σ.2.2 a 3 = some y → zT L kd y 31 → zGc rs cs sl d L kd A nL p l e R s m args below meth c Q σ (pc + 3) lv (.ref y :: st)) : zGc rs cs sl d L kd A nL p l e R s m args below meth c Q σ pc lv (.ref a :: st) := by
  obtain ⟨y, hy, hT⟩ := zi_ref hI ha (show zf _ 5 3 = some 31 from rfl)
  have q := k y hy hT
  exact zg_getr X ha rfl (by decide) rfl (by decide) rfl zl_in5 zk_X5_29 hdg (by rw [hy]; exact q)
set_option maxRecDepth 20000 in
theorem zk_X10_135 : Cond.fieldLink RX10 135 (TX5 3).1 (TX5 3).2.1 (TX5 3).2.2.1 ∈ zWL ∨ ∃ host, Cond.fieldLinkNest RX10 135 (TX5 3).1 (TX5 3).2.1 (TX5 3).2.2.1 host ∈ tables_1 := Or.inr ⟨"SourceDispute", (zt1 (List.mem_of_getElem? (i := 234) rfl))⟩
theorem fg_X10_135 (X : zX d L kd A nL p s m args c cc RX10) (hI : zI κ b L kd σ) (ha : zT L kd a 5) (hdg : decode cc pc = .ok (.getfield 135, 3)) (k : ∀ y : Nat, σ.2.2 a 3 = some y → zT L kd y 31 → zGc rs cs sl d L kd A nL p l e R s m args below meth c Q σ (pc + 3) lv (.ref y :: st)) : zGc rs cs sl d L kd A nL p l e R s m args below meth c Q σ pc lv (.ref a :: st) := by
  obtain ⟨y, hy, hT⟩ := zi_ref hI ha (show zf _ 5 3 = some 31 from rfl)
  have q := k y hy hT
  exact zg_getr X ha rfl (by decide) rfl (by decide) rfl zl_in5 zk_X10_135 hdg (by rw [hy]; exact q)
set_option maxRecDepth 20000 in
theorem zkl_X5_32 : Cond.fieldLink RX5 32 (TX5 4).1 (TX5 4).2.1 (TX5 4).2.2.1 ∈ zWL := zw1 (List.mem_of_getElem? (i := 235) rfl) rfl
set_option maxRecDepth 20000 in
theorem zk_X5_32 : Cond.fieldLink RX5 32 (TX5 4).1 (TX5 4).2.1 (TX5 4).2.2.1 ∈ zWL ∨ ∃ host, Cond.fieldLinkNest RX5 32 (TX5 4).1 (TX5 4).2.1 (TX5 4).2.2.1 host ∈ tables_1 := Or.inl (zw1 (List.mem_of_getElem? (i := 235) rfl) rfl)
theorem fg_X5_32 (X : zX d L kd A nL p s m args c cc RX5) (hI : zI κ b L kd σ) (ha : zT L kd a 5) (hdg : decode cc pc = .ok (.getfield 32, 3)) (k : ∀ y : Nat, σ.2.2 a 4 = some y → zT L kd y 32 → zGc rs cs sl d L kd A nL p l e R s m args below meth c Q σ (pc + 3) lv (.ref y :: st)) : zGc rs cs sl d L kd A nL p l e R s m args below meth c Q σ pc lv (.ref a :: st) := by
  obtain ⟨y, hy, hT⟩ := zi_ref hI ha (show zf _ 5 4 = some 32 from rfl)
  have q := k y hy hT
  exact zg_getr X ha rfl (by decide) rfl (by decide) rfl zl_in5 zk_X5_32 hdg (by rw [hy]; exact q)
set_option maxRecDepth 20000 in
theorem zk_X10_244 : Cond.fieldLink RX10 244 (TX5 4).1 (TX5 4).2.1 (TX5 4).2.2.1 ∈ zWL ∨ ∃ host, Cond.fieldLinkNest RX10 244 (TX5 4).1 (TX5 4).2.1 (TX5 4).2.2.1 host ∈ tables_1 := Or.inr ⟨"SourceDispute", (zt1 (List.mem_of_getElem? (i := 236) rfl))⟩
theorem fg_X10_244 (X : zX d L kd A nL p s m args c cc RX10) (hI : zI κ b L kd σ) (ha : zT L kd a 5) (hdg : decode cc pc = .ok (.getfield 244, 3)) (k : ∀ y : Nat, σ.2.2 a 4 = some y → zT L kd y 32 → zGc rs cs sl d L kd A nL p l e R s m args below meth c Q σ (pc + 3) lv (.ref y :: st)) : zGc rs cs sl d L kd A nL p l e R s m args below meth c Q σ pc lv (.ref a :: st) := by
  obtain ⟨y, hy, hT⟩ := zi_ref hI ha (show zf _ 5 4 = some 32 from rfl)
  have q := k y hy hT
  exact zg_getr X ha rfl (by decide) rfl (by decide) rfl zl_in5 zk_X10_244 hdg (by rw [hy]; exact q)
set_option maxRecDepth 20000 in
theorem zkl_X5_35 : Cond.fieldLink RX5 35 (TX5 5).1 (TX5 5).2.1 (TX5 5).2.2.1 ∈ zWL := zw1 (List.mem_of_getElem? (i := 237) rfl) rfl
set_option maxRecDepth 20000 in
theorem zk_X5_35 : Cond.fieldLink RX5 35 (TX5 5).1 (TX5 5).2.1 (TX5 5).2.2.1 ∈ zWL ∨ ∃ host, Cond.fieldLinkNest RX5 35 (TX5 5).1 (TX5 5).2.1 (TX5 5).2.2.1 host ∈ tables_1 := Or.inl (zw1 (List.mem_of_getElem? (i := 237) rfl) rfl)
theorem fg_X5_35 (X : zX d L kd A nL p s m args c cc RX5) (hI : zI κ 1 L kd σ) (ha : zT L kd a 5) (hdg : decode cc pc = .ok (.getfield 35, 3)) (k : ∀ y : Nat, σ.2.2 a 5 = some y → zT L kd y 9 → zGc rs cs sl d L kd A nL p l e R s m args below meth c Q σ (pc + 3) lv (.ref y :: st)) : zGc rs cs sl d L kd A nL p l e R s m args below meth c Q σ pc lv (.ref a :: st) := by
  obtain ⟨y, hy, hT⟩ := zi_ref hI ha (show zf _ 5 5 = some 9 from rfl)
  have q := k y hy hT
  exact zg_getr X ha rfl (by decide) rfl (by decide) rfl zl_in5 zk_X5_35 hdg (by rw [hy]; exact q)
theorem fp_X5_35 (X : zX d L kd A nL p s m args c cc RX5) {y : Nat} (hI : zI κ 0 L kd σ) (ha : zT L kd a 5) (hy : zT L kd y 9) (hdg : decode cc pc = .ok (.putfield 35, 3)) (k : ∀ σ2 : zS, σ2 = (σ.1, σ.2.1, zu σ.2.2 a 5 (some y)) → zI κ 0 L kd σ2 → zGc rs cs sl d L kd A nL p l e R s m args below meth c Q σ2 (pc + 3) lv st) : zGc rs cs sl d L kd A nL p l e R s m args below meth c Q σ pc lv (.ref y :: .ref a :: st) := zg_putr (v := some y) (ty := .object RX9) X ha rfl (by decide) rfl (by decide) rfl rfl zl_in5 tyX5_ok nmX5 zk_X5_35 rfl (by decide +kernel) rfl rfl hdg (fun σ2 h2 => k σ2 h2 (by rw [h2]; exact zi_putn hI ha rfl))
set_option maxRecDepth 20000 in
theorem zkl_X5_39 : Cond.fieldLink RX5 39 (TX5 6).1 (TX5 6).2.1 (TX5 6).2.2.1 ∈ zWL := zw1 (List.mem_of_getElem? (i := 238) rfl) rfl
set_option maxRecDepth 20000 in
theorem zk_X5_39 : Cond.fieldLink RX5 39 (TX5 6).1 (TX5 6).2.1 (TX5 6).2.2.1 ∈ zWL ∨ ∃ host, Cond.fieldLinkNest RX5 39 (TX5 6).1 (TX5 6).2.1 (TX5 6).2.2.1 host ∈ tables_1 := Or.inl (zw1 (List.mem_of_getElem? (i := 238) rfl) rfl)
theorem fg_X5_39 (X : zX d L kd A nL p s m args c cc RX5) (hI : zI κ 1 L kd σ) (ha : zT L kd a 5) (hdg : decode cc pc = .ok (.getfield 39, 3)) (k : ∀ y : Nat, σ.2.2 a 6 = some y → zT L kd y 1 → zGc rs cs sl d L kd A nL p l e R s m args below meth c Q σ (pc + 3) lv (.ref y :: st)) : zGc rs cs sl d L kd A nL p l e R s m args below meth c Q σ pc lv (.ref a :: st) := by
  obtain ⟨y, hy, hT⟩ := zi_ref hI ha (show zf _ 5 6 = some 1 from rfl)
  have q := k y hy hT
  exact zg_getr X ha rfl (by decide) rfl (by decide) rfl zl_in5 zk_X5_39 hdg (by rw [hy]; exact q)
theorem fp_X5_39 (X : zX d L kd A nL p s m args c cc RX5) {y : Nat} (hI : zI κ 0 L kd σ) (ha : zT L kd a 5) (hy : zT L kd y 1) (hdg : decode cc pc = .ok (.putfield 39, 3)) (k : ∀ σ2 : zS, σ2 = (σ.1, σ.2.1, zu σ.2.2 a 6 (some y)) → zI κ 0 L kd σ2 → zGc rs cs sl d L kd A nL p l e R s m args below meth c Q σ2 (pc + 3) lv st) : zGc rs cs sl d L kd A nL p l e R s m args below meth c Q σ pc lv (.ref y :: .ref a :: st) := zg_putr (v := some y) (ty := .object RX1) X ha rfl (by decide) rfl (by decide) rfl rfl zl_in5 tyX5_ok nmX5 zk_X5_39 rfl (by decide +kernel) rfl rfl hdg (fun σ2 h2 => k σ2 h2 (by rw [h2]; exact zi_putn hI ha rfl))
set_option maxRecDepth 20000 in
theorem zkl_X1_9 : Cond.fieldLink RX1 9 (TX1 0).1 (TX1 0).2.1 (TX1 0).2.2.1 ∈ zWL := zw2 (List.mem_of_getElem? (i := 27) rfl) rfl
set_option maxRecDepth 20000 in
theorem zk_X1_9 : Cond.fieldLink RX1 9 (TX1 0).1 (TX1 0).2.1 (TX1 0).2.2.1 ∈ zWL ∨ ∃ host, Cond.fieldLinkNest RX1 9 (TX1 0).1 (TX1 0).2.1 (TX1 0).2.2.1 host ∈ tables_1 := Or.inl (zw2 (List.mem_of_getElem? (i := 27) rfl) rfl)
theorem fg_X1_9 (X : zX d L kd A nL p s m args c cc RX1) (hI : zI κ b L kd σ) (ha : zT L kd a 1) (hdg : decode cc pc = .ok (.getfield 9, 3)) (k : ∀ y : Nat, σ.2.2 a 0 = some y → zT L kd y 22 → zGc rs cs sl d L kd A nL p l e R s m args below meth c Q σ (pc + 3) lv (.ref y :: st)) : zGc rs cs sl d L kd A nL p l e R s m args below meth c Q σ pc lv (.ref a :: st) := by
  obtain ⟨y, hy, hT⟩ := zi_ref hI ha (show zf _ 1 0 = some 22 from rfl)
  have q := k y hy hT
  exact zg_getr X ha rfl (by decide) rfl (by decide) rfl zl_in1 zk_X1_9 hdg (by rw [hy]; exact q)
set_option maxRecDepth 20000 in
theorem zk_X6_48 : Cond.fieldLink RX6 48 (TX1 0).1 (TX1 0).2.1 (TX1 0).2.2.1 ∈ zWL ∨ ∃ host, Cond.fieldLinkNest RX6 48 (TX1 0).1 (TX1 0).2.1 (TX1 0).2.2.1 host ∈ tables_1 := Or.inr ⟨"SourceDispute", (zt2 (List.mem_of_getElem? (i := 28) rfl))⟩
theorem fg_X6_48 (X : zX d L kd A nL p s m args c cc RX6) (hI : zI κ b L kd σ) (ha : zT L kd a 1) (hdg : decode cc pc = .ok (.getfield 48, 3)) (k : ∀ y : Nat, σ.2.2 a 0 = some y → zT L kd y 22 → zGc rs cs sl d L kd A nL p l e R s m args below meth c Q σ (pc + 3) lv (.ref y :: st)) : zGc rs cs sl d L kd A nL p l e R s m args below meth c Q σ pc lv (.ref a :: st) := by
  obtain ⟨y, hy, hT⟩ := zi_ref hI ha (show zf _ 1 0 = some 22 from rfl)
  have q := k y hy hT
  exact zg_getr X ha rfl (by decide) rfl (by decide) rfl zl_in1 zk_X6_48 hdg (by rw [hy]; exact q)
set_option maxRecDepth 20000 in
theorem zk_X5_89 : Cond.fieldLink RX5 89 (TX1 0).1 (TX1 0).2.1 (TX1 0).2.2.1 ∈ zWL ∨ ∃ host, Cond.fieldLinkNest RX5 89 (TX1 0).1 (TX1 0).2.1 (TX1 0).2.2.1 host ∈ tables_1 := Or.inr ⟨"SourceDispute", (zt2 (List.mem_of_getElem? (i := 29) rfl))⟩
theorem fg_X5_89 (X : zX d L kd A nL p s m args c cc RX5) (hI : zI κ b L kd σ) (ha : zT L kd a 1) (hdg : decode cc pc = .ok (.getfield 89, 3)) (k : ∀ y : Nat, σ.2.2 a 0 = some y → zT L kd y 22 → zGc rs cs sl d L kd A nL p l e R s m args below meth c Q σ (pc + 3) lv (.ref y :: st)) : zGc rs cs sl d L kd A nL p l e R s m args below meth c Q σ pc lv (.ref a :: st) := by
  obtain ⟨y, hy, hT⟩ := zi_ref hI ha (show zf _ 1 0 = some 22 from rfl)
  have q := k y hy hT
  exact zg_getr X ha rfl (by decide) rfl (by decide) rfl zl_in1 zk_X5_89 hdg (by rw [hy]; exact q)
set_option maxRecDepth 20000 in
theorem zk_X10_116 : Cond.fieldLink RX10 116 (TX1 0).1 (TX1 0).2.1 (TX1 0).2.2.1 ∈ zWL ∨ ∃ host, Cond.fieldLinkNest RX10 116 (TX1 0).1 (TX1 0).2.1 (TX1 0).2.2.1 host ∈ tables_1 := Or.inr ⟨"SourceDispute", (zt2 (List.mem_of_getElem? (i := 30) rfl))⟩
theorem fg_X10_116 (X : zX d L kd A nL p s m args c cc RX10) (hI : zI κ b L kd σ) (ha : zT L kd a 1) (hdg : decode cc pc = .ok (.getfield 116, 3)) (k : ∀ y : Nat, σ.2.2 a 0 = some y → zT L kd y 22 → zGc rs cs sl d L kd A nL p l e R s m args below meth c Q σ (pc + 3) lv (.ref y :: st)) : zGc rs cs sl d L kd A nL p l e R s m args below meth c Q σ pc lv (.ref a :: st) := by
  obtain ⟨y, hy, hT⟩ := zi_ref hI ha (show zf _ 1 0 = some 22 from rfl)
  have q := k y hy hT
  exact zg_getr X ha rfl (by decide) rfl (by decide) rfl zl_in1 zk_X10_116 hdg (by rw [hy]; exact q)
set_option maxRecDepth 20000 in
theorem zkl_X1_15 : Cond.fieldLink RX1 15 (TX1 1).1 (TX1 1).2.1 (TX1 1).2.2.1 ∈ zWL := zw2 (List.mem_of_getElem? (i := 31) rfl) rfl
set_option maxRecDepth 20000 in
theorem zk_X1_15 : Cond.fieldLink RX1 15 (TX1 1).1 (TX1 1).2.1 (TX1 1).2.2.1 ∈ zWL ∨ ∃ host, Cond.fieldLinkNest RX1 15 (TX1 1).1 (TX1 1).2.1 (TX1 1).2.2.1 host ∈ tables_1 := Or.inl (zw2 (List.mem_of_getElem? (i := 31) rfl) rfl)
theorem fg_X1_15 (X : zX d L kd A nL p s m args c cc RX1) (hI : zI κ b L kd σ) (ha : zT L kd a 1) (hdg : decode cc pc = .ok (.getfield 15, 3)) (k : ∀ y : Nat, σ.2.2 a 1 = some y → zT L kd y 23 → zGc rs cs sl d L kd A nL p l e R s m args below meth c Q σ (pc + 3) lv (.ref y :: st)) : zGc rs cs sl d L kd A nL p l e R s m args below meth c Q σ pc lv (.ref a :: st) := by
  obtain ⟨y, hy, hT⟩ := zi_ref hI ha (show zf _ 1 1 = some 23 from rfl)
  have q := k y hy hT
  exact zg_getr X ha rfl (by decide) rfl (by decide) rfl zl_in1 zk_X1_15 hdg (by rw [hy]; exact q)
set_option maxRecDepth 20000 in
theorem zk_X10_149 : Cond.fieldLink RX10 149 (TX1 1).1 (TX1 1).2.1 (TX1 1).2.2.1 ∈ zWL ∨ ∃ host, Cond.fieldLinkNest RX10 149 (TX1 1).1 (TX1 1).2.1 (TX1 1).2.2.1 host ∈ tables_1 := Or.inr ⟨"SourceDispute", (zt2 (List.mem_of_getElem? (i := 32) rfl))⟩
theorem fg_X10_149 (X : zX d L kd A nL p s m args c cc RX10) (hI : zI κ b L kd σ) (ha : zT L kd a 1) (hdg : decode cc pc = .ok (.getfield 149, 3)) (k : ∀ y : Nat, σ.2.2 a 1 = some y → zT L kd y 23 → zGc rs cs sl d L kd A nL p l e R s m args below meth c Q σ (pc + 3) lv (.ref y :: st)) : zGc rs cs sl d L kd A nL p l e R s m args below meth c Q σ pc lv (.ref a :: st) := by
  obtain ⟨y, hy, hT⟩ := zi_ref hI ha (show zf _ 1 1 = some 23 from rfl)
  have q := k y hy hT
  exact zg_getr X ha rfl (by decide) rfl (by decide) rfl zl_in1 zk_X10_149 hdg (by rw [hy]; exact q)
set_option maxRecDepth 20000 in
theorem zk_X5_115 : Cond.fieldLink RX5 115 (TX1 1).1 (TX1 1).2.1 (TX1 1).2.2.1 ∈ zWL ∨ ∃ host, Cond.fieldLinkNest RX5 115 (TX1 1).1 (TX1 1).2.1 (TX1 1).2.2.1 host ∈ tables_1 := Or.inr ⟨"SourceDispute", (zt2 (List.mem_of_getElem? (i := 33) rfl))⟩
theorem fg_X5_115 (X : zX d L kd A nL p s m args c cc RX5) (hI : zI κ b L kd σ) (ha : zT L kd a 1) (hdg : decode cc pc = .ok (.getfield 115, 3)) (k : ∀ y : Nat, σ.2.2 a 1 = some y → zT L kd y 23 → zGc rs cs sl d L kd A nL p l e R s m args below meth c Q σ (pc + 3) lv (.ref y :: st)) : zGc rs cs sl d L kd A nL p l e R s m args below meth c Q σ pc lv (.ref a :: st) := by
  obtain ⟨y, hy, hT⟩ := zi_ref hI ha (show zf _ 1 1 = some 23 from rfl)
  have q := k y hy hT
  exact zg_getr X ha rfl (by decide) rfl (by decide) rfl zl_in1 zk_X5_115 hdg (by rw [hy]; exact q)
set_option maxRecDepth 20000 in
theorem zkl_X1_18 : Cond.fieldLink RX1 18 (TX1 2).1 (TX1 2).2.1 (TX1 2).2.2.1 ∈ zWL := zw2 (List.mem_of_getElem? (i := 34) rfl) rfl
set_option maxRecDepth 20000 in
theorem zk_X1_18 : Cond.fieldLink RX1 18 (TX1 2).1 (TX1 2).2.1 (TX1 2).2.2.1 ∈ zWL ∨ ∃ host, Cond.fieldLinkNest RX1 18 (TX1 2).1 (TX1 2).2.1 (TX1 2).2.2.1 host ∈ tables_1 := Or.inl (zw2 (List.mem_of_getElem? (i := 34) rfl) rfl)
theorem fg_X1_18 (X : zX d L kd A nL p s m args c cc RX1) (hI : zI κ b L kd σ) (ha : zT L kd a 1) (hdg : decode cc pc = .ok (.getfield 18, 3)) (k : ∀ y : Nat, σ.2.2 a 2 = some y → zT L kd y 24 → zGc rs cs sl d L kd A nL p l e R s m args below meth c Q σ (pc + 3) lv (.ref y :: st)) : zGc rs cs sl d L kd A nL p l e R s m args below meth c Q σ pc lv (.ref a :: st) := by
  obtain ⟨y, hy, hT⟩ := zi_ref hI ha (show zf _ 1 2 = some 24 from rfl)
  have q := k y hy hT
  exact zg_getr X ha rfl (by decide) rfl (by decide) rfl zl_in1 zk_X1_18 hdg (by rw [hy]; exact q)
set_option maxRecDepth 20000 in
theorem zk_X10_152 : Cond.fieldLink RX10 152 (TX1 2).1 (TX1 2).2.1 (TX1 2).2.2.1 ∈ zWL ∨ ∃ host, Cond.fieldLinkNest RX10 152 (TX1 2).1 (TX1 2).2.1 (TX1 2).2.2.1 host ∈ tables_1 := Or.inr ⟨"SourceDispute", (zt2 (List.mem_of_getElem? (i := 35) rfl))⟩
theorem fg_X10_152 (X : zX d L kd A nL p s m args c cc RX10) (hI : zI κ b L kd σ) (ha : zT L kd a 1) (hdg : decode cc pc = .ok (.getfield 152, 3)) (k : ∀ y : Nat, σ.2.2 a 2 = some y → zT L kd y 24 → zGc rs cs sl d L kd A nL p l e R s m args below meth c Q σ (pc + 3) lv (.ref y :: st)) : zGc rs cs sl d L kd A nL p l e R s m args below meth c Q σ pc lv (.ref a :: st) := by
  obtain ⟨y, hy, hT⟩ := zi_ref hI ha (show zf _ 1 2 = some 24 from rfl)
  have q := k y hy hT
  exact zg_getr X ha rfl (by decide) rfl (by decide) rfl zl_in1 zk_X10_152 hdg (by rw [hy]; exact q)
set_option maxRecDepth 20000 in
theorem zkl_X1_21 : Cond.fieldLink RX1 21 (TX1 3).1 (TX1 3).2.1 (TX1 3).2.2.1 ∈ zWL := zw2 (List.mem_of_getElem? (i := 36) rfl) rfl
set_option maxRecDepth 20000 in
theorem zk_X1_21 : Cond.fieldLink RX1 21 (TX1 3).1 (TX1 3).2.1 (TX1 3).2.2.1 ∈ zWL ∨ ∃ host, Cond.fieldLinkNest RX1 21 (TX1 3).1 (TX1 3).2.1 (TX1 3).2.2.1 host ∈ tables_1 := Or.inl (zw2 (List.mem_of_getElem? (i := 36) rfl) rfl)
theorem fg_X1_21 (X : zX d L kd A nL p s m args c cc RX1) (hI : zI κ b L kd σ) (ha : zT L kd a 1) (hdg : decode cc pc = .ok (.getfield 21, 3)) (k : ∀ v : Int32, v = σ.1 a 3 → (-2147483648) ≤ v.toInt ∧ v.toInt ≤ 2147483647 → zGc rs cs sl d L kd A nL p l e R s m args below meth c Q σ (pc + 3) lv (.int v :: st)) : zGc rs cs sl d L kd A nL p l e R s m args below meth c Q σ pc lv (.ref a :: st) := zg_geti X ha rfl (by decide) rfl (by decide) rfl zl_in1 zk_X1_21 hdg (k _ rfl (zi_get hI ha rfl))
theorem fp_X1_21 (X : zX d L kd A nL p s m args c cc RX1) {v : Int32} (hI : zI κ b L kd σ) (ha : zT L kd a 1) (h : (-2147483648) ≤ v.toInt ∧ v.toInt ≤ 2147483647) (hdg : decode cc pc = .ok (.putfield 21, 3)) (k : ∀ σ2 : zS, σ2 = (zu σ.1 a 3 v, σ.2.1, σ.2.2) → zI κ b L kd σ2 → zGc rs cs sl d L kd A nL p l e R s m args below meth c Q σ2 (pc + 3) lv st) : zGc rs cs sl d L kd A nL p l e R s m args below meth c Q σ pc lv (.int v :: .ref a :: st) := zg_puti (ty := .int) X ha rfl (by decide) rfl (by decide) rfl rfl zl_in1 tyX1_ok nmX1 zk_X1_21 rfl (by decide +kernel) rfl rfl hdg (fun σ2 h2 => k σ2 h2 (by rw [h2]; exact zi_puti hI ha rfl h.1 h.2))
set_option maxRecDepth 20000 in
theorem zk_X5_55 : Cond.fieldLink RX5 55 (TX1 3).1 (TX1 3).2.1 (TX1 3).2.2.1 ∈ zWL ∨ ∃ host, Cond.fieldLinkNest RX5 55 (TX1 3).1 (TX1 3).2.1 (TX1 3).2.2.1 host ∈ tables_1 := Or.inr ⟨"SourceDispute", (zt2 (List.mem_of_getElem? (i := 37) rfl))⟩
theorem fg_X5_55 (X : zX d L kd A nL p s m args c cc RX5) (hI : zI κ b L kd σ) (ha : zT L kd a 1) (hdg : decode cc pc = .ok (.getfield 55, 3)) (k : ∀ v : Int32, v = σ.1 a 3 → (-2147483648) ≤ v.toInt ∧ v.toInt ≤ 2147483647 → zGc rs cs sl d L kd A nL p l e R s m args below meth c Q σ (pc + 3) lv (.int v :: st)) : zGc rs cs sl d L kd A nL p l e R s m args below meth c Q σ pc lv (.ref a :: st) := zg_geti X ha rfl (by decide) rfl (by decide) rfl zl_in1 zk_X5_55 hdg (k _ rfl (zi_get hI ha rfl))
set_option maxRecDepth 20000 in
theorem zk_X10_128 : Cond.fieldLink RX10 128 (TX1 3).1 (TX1 3).2.1 (TX1 3).2.2.1 ∈ zWL ∨ ∃ host, Cond.fieldLinkNest RX10 128 (TX1 3).1 (TX1 3).2.1 (TX1 3).2.2.1 host ∈ tables_1 := Or.inr ⟨"SourceDispute", (zt2 (List.mem_of_getElem? (i := 38) rfl))⟩
theorem fg_X10_128 (X : zX d L kd A nL p s m args c cc RX10) (hI : zI κ b L kd σ) (ha : zT L kd a 1) (hdg : decode cc pc = .ok (.getfield 128, 3)) (k : ∀ v : Int32, v = σ.1 a 3 → (-2147483648) ≤ v.toInt ∧ v.toInt ≤ 2147483647 → zGc rs cs sl d L kd A nL p l e R s m args below meth c Q σ (pc + 3) lv (.int v :: st)) : zGc rs cs sl d L kd A nL p l e R s m args below meth c Q σ pc lv (.ref a :: st) := zg_geti X ha rfl (by decide) rfl (by decide) rfl zl_in1 zk_X10_128 hdg (k _ rfl (zi_get hI ha rfl))
theorem fp_X10_128 (X : zX d L kd A nL p s m args c cc RX10) {v : Int32} (hI : zI κ b L kd σ) (ha : zT L kd a 1) (h : (-2147483648) ≤ v.toInt ∧ v.toInt ≤ 2147483647) (hdg : decode cc pc = .ok (.putfield 128, 3)) (k : ∀ σ2 : zS, σ2 = (zu σ.1 a 3 v, σ.2.1, σ.2.2) → zI κ b L kd σ2 → zGc rs cs sl d L kd A nL p l e R s m args below meth c Q σ2 (pc + 3) lv st) : zGc rs cs sl d L kd A nL p l e R s m args below meth c Q σ pc lv (.int v :: .ref a :: st) := zg_puti (ty := .int) X ha rfl (by decide) rfl (by decide) rfl rfl zl_in1 tyX1_ok nmX1 zk_X10_128 rfl (by decide +kernel) rfl rfl hdg (fun σ2 h2 => k σ2 h2 (by rw [h2]; exact zi_puti hI ha rfl h.1 h.2))
set_option maxRecDepth 20000 in
theorem zkl_X1_25 : Cond.fieldLink RX1 25 (TX1 4).1 (TX1 4).2.1 (TX1 4).2.2.1 ∈ zWL := zw2 (List.mem_of_getElem? (i := 39) rfl) rfl
set_option maxRecDepth 20000 in
theorem zk_X1_25 : Cond.fieldLink RX1 25 (TX1 4).1 (TX1 4).2.1 (TX1 4).2.2.1 ∈ zWL ∨ ∃ host, Cond.fieldLinkNest RX1 25 (TX1 4).1 (TX1 4).2.1 (TX1 4).2.2.1 host ∈ tables_1 := Or.inl (zw2 (List.mem_of_getElem? (i := 39) rfl) rfl)
theorem fg_X1_25 (X : zX d L kd A nL p s m args c cc RX1) (hI : zI κ b L kd σ) (ha : zT L kd a 1) (hdg : decode cc pc = .ok (.getfield 25, 3)) (k : ∀ v : Int32, v = σ.1 a 4 → (-2147483648) ≤ v.toInt ∧ v.toInt ≤ 2147483647 → zGc rs cs sl d L kd A nL p l e R s m args below meth c Q σ (pc + 3) lv (.int v :: st)) : zGc rs cs sl d L kd A nL p l e R s m args below meth c Q σ pc lv (.ref a :: st) := zg_geti X ha rfl (by decide) rfl (by decide) rfl zl_in1 zk_X1_25 hdg (k _ rfl (zi_get hI ha rfl))
theorem fp_X1_25 (X : zX d L kd A nL p s m args c cc RX1) {v : Int32} (hI : zI κ b L kd σ) (ha : zT L kd a 1) (h : (-2147483648) ≤ v.toInt ∧ v.toInt ≤ 2147483647) (hdg : decode cc pc = .ok (.putfield 25, 3)) (k : ∀ σ2 : zS, σ2 = (zu σ.1 a 4 v, σ.2.1, σ.2.2) → zI κ b L kd σ2 → zGc rs cs sl d L kd A nL p l e R s m args below meth c Q σ2 (pc + 3) lv st) : zGc rs cs sl d L kd A nL p l e R s m args below meth c Q σ pc lv (.int v :: .ref a :: st) := zg_puti (ty := .int) X ha rfl (by decide) rfl (by decide) rfl rfl zl_in1 tyX1_ok nmX1 zk_X1_25 rfl (by decide +kernel) rfl rfl hdg (fun σ2 h2 => k σ2 h2 (by rw [h2]; exact zi_puti hI ha rfl h.1 h.2))
set_option maxRecDepth 20000 in
theorem zk_X10_178 : Cond.fieldLink RX10 178 (TX1 4).1 (TX1 4).2.1 (TX1 4).2.2.1 ∈ zWL ∨ ∃ host, Cond.fieldLinkNest RX10 178 (TX1 4).1 (TX1 4).2.1 (TX1 4).2.2.1 host ∈ tables_1 := Or.inr ⟨"SourceDispute", (zt2 (List.mem_of_getElem? (i := 40) rfl))⟩
theorem fg_X10_178 (X : zX d L kd A nL p s m args c cc RX10) (hI : zI κ b L kd σ) (ha : zT L kd a 1) (hdg : decode cc pc = .ok (.getfield 178, 3)) (k : ∀ v : Int32, v = σ.1 a 4 → (-2147483648) ≤ v.toInt ∧ v.toInt ≤ 2147483647 → zGc rs cs sl d L kd A nL p l e R s m args below meth c Q σ (pc + 3) lv (.int v :: st)) : zGc rs cs sl d L kd A nL p l e R s m args below meth c Q σ pc lv (.ref a :: st) := zg_geti X ha rfl (by decide) rfl (by decide) rfl zl_in1 zk_X10_178 hdg (k _ rfl (zi_get hI ha rfl))
set_option maxRecDepth 20000 in
theorem zk_X5_153 : Cond.fieldLink RX5 153 (TX1 4).1 (TX1 4).2.1 (TX1 4).2.2.1 ∈ zWL ∨ ∃ host, Cond.fieldLinkNest RX5 153 (TX1 4).1 (TX1 4).2.1 (TX1 4).2.2.1 host ∈ tables_1 := Or.inr ⟨"SourceDispute", (zt2 (List.mem_of_getElem? (i := 41) rfl))⟩
theorem fg_X5_153 (X : zX d L kd A nL p s m args c cc RX5) (hI : zI κ b L kd σ) (ha : zT L kd a 1) (hdg : decode cc pc = .ok (.getfield 153, 3)) (k : ∀ v : Int32, v = σ.1 a 4 → (-2147483648) ≤ v.toInt ∧ v.toInt ≤ 2147483647 → zGc rs cs sl d L kd A nL p l e R s m args below meth c Q σ (pc + 3) lv (.int v :: st)) : zGc rs cs sl d L kd A nL p l e R s m args below meth c Q σ pc lv (.ref a :: st) := zg_geti X ha rfl (by decide) rfl (by decide) rfl zl_in1 zk_X5_153 hdg (k _ rfl (zi_get hI ha rfl))
theorem fp_X5_153 (X : zX d L kd A nL p s m args c cc RX5) {v : Int32} (hI : zI κ b L kd σ) (ha : zT L kd a 1) (h : (-2147483648) ≤ v.toInt ∧ v.toInt ≤ 2147483647) (hdg : decode cc pc = .ok (.putfield 153, 3)) (k : ∀ σ2 : zS, σ2 = (zu σ.1 a 4 v, σ.2.1, σ.2.2) → zI κ b L kd σ2 → zGc rs cs sl d L kd A nL p l e R s m args below meth c Q σ2 (pc + 3) lv st) : zGc rs cs sl d L kd A nL p l e R s m args below meth c Q σ pc lv (.int v :: .ref a :: st) := zg_puti (ty := .int) X ha rfl (by decide) rfl (by decide) rfl rfl zl_in1 tyX1_ok nmX1 zk_X5_153 rfl (by decide +kernel) rfl rfl hdg (fun σ2 h2 => k σ2 h2 (by rw [h2]; exact zi_puti hI ha rfl h.1 h.2))
set_option maxRecDepth 20000 in
theorem zkl_X1_28 : Cond.fieldLink RX1 28 (TX1 5).1 (TX1 5).2.1 (TX1 5).2.2.1 ∈ zWL := zw2 (List.mem_of_getElem? (i := 42) rfl) rfl
set_option maxRecDepth 20000 in
theorem zk_X1_28 : Cond.fieldLink RX1 28 (TX1 5).1 (TX1 5).2.1 (TX1 5).2.2.1 ∈ zWL ∨ ∃ host, Cond.fieldLinkNest RX1 28 (TX1 5).1 (TX1 5).2.1 (TX1 5).2.2.1 host ∈ tables_1 := Or.inl (zw2 (List.mem_of_getElem? (i := 42) rfl) rfl)
theorem fg_X1_28 (X : zX d L kd A nL p s m args c cc RX1) (hI : zI κ b L kd σ) (ha : zT L kd a 1) (hdg : decode cc pc = .ok (.getfield 28, 3)) (k : ∀ v : Int32, v = σ.1 a 5 → 0 ≤ v.toInt ∧ v.toInt ≤ 2 → zGc rs cs sl d L kd A nL p l e R s m args below meth c Q σ (pc + 3) lv (.int v :: st)) : zGc rs cs sl d L kd A nL p l e R s m args below meth c Q σ pc lv (.ref a :: st) := zg_geti X ha rfl (by decide) rfl (by decide) rfl zl_in1 zk_X1_28 hdg (k _ rfl (zi_get hI ha rfl))
theorem fp_X1_28 (X : zX d L kd A nL p s m args c cc RX1) {v : Int32} (hI : zI κ b L kd σ) (ha : zT L kd a 1) (h : 0 ≤ v.toInt ∧ v.toInt ≤ 2) (hdg : decode cc pc = .ok (.putfield 28, 3)) (k : ∀ σ2 : zS, σ2 = (zu σ.1 a 5 v, σ.2.1, σ.2.2) → zI κ b L kd σ2 → zGc rs cs sl d L kd A nL p l e R s m args below meth c Q σ2 (pc + 3) lv st) : zGc rs cs sl d L kd A nL p l e R s m args below meth c Q σ pc lv (.int v :: .ref a :: st) := zg_puti (ty := .int) X ha rfl (by decide) rfl (by decide) rfl rfl zl_in1 tyX1_ok nmX1 zk_X1_28 rfl (by decide +kernel) rfl rfl hdg (fun σ2 h2 => k σ2 h2 (by rw [h2]; exact zi_puti hI ha rfl h.1 h.2))
set_option maxRecDepth 20000 in
theorem zk_X10_185 : Cond.fieldLink RX10 185 (TX1 5).1 (TX1 5).2.1 (TX1 5).2.2.1 ∈ zWL ∨ ∃ host, Cond.fieldLinkNest RX10 185 (TX1 5).1 (TX1 5).2.1 (TX1 5).2.2.1 host ∈ tables_1 := Or.inr ⟨"SourceDispute", (zt2 (List.mem_of_getElem? (i := 43) rfl))⟩
theorem fg_X10_185 (X : zX d L kd A nL p s m args c cc RX10) (hI : zI κ b L kd σ) (ha : zT L kd a 1) (hdg : decode cc pc = .ok (.getfield 185, 3)) (k : ∀ v : Int32, v = σ.1 a 5 → 0 ≤ v.toInt ∧ v.toInt ≤ 2 → zGc rs cs sl d L kd A nL p l e R s m args below meth c Q σ (pc + 3) lv (.int v :: st)) : zGc rs cs sl d L kd A nL p l e R s m args below meth c Q σ pc lv (.ref a :: st) := zg_geti X ha rfl (by decide) rfl (by decide) rfl zl_in1 zk_X10_185 hdg (k _ rfl (zi_get hI ha rfl))
theorem fp_X10_185 (X : zX d L kd A nL p s m args c cc RX10) {v : Int32} (hI : zI κ b L kd σ) (ha : zT L kd a 1) (h : 0 ≤ v.toInt ∧ v.toInt ≤ 2) (hdg : decode cc pc = .ok (.putfield 185, 3)) (k : ∀ σ2 : zS, σ2 = (zu σ.1 a 5 v, σ.2.1, σ.2.2) → zI κ b L kd σ2 → zGc rs cs sl d L kd A nL p l e R s m args below meth c Q σ2 (pc + 3) lv st) : zGc rs cs sl d L kd A nL p l e R s m args below meth c Q σ pc lv (.int v :: .ref a :: st) := zg_puti (ty := .int) X ha rfl (by decide) rfl (by decide) rfl rfl zl_in1 tyX1_ok nmX1 zk_X10_185 rfl (by decide +kernel) rfl rfl hdg (fun σ2 h2 => k σ2 h2 (by rw [h2]; exact zi_puti hI ha rfl h.1 h.2))
set_option maxRecDepth 20000 in
theorem zk_X5_140 : Cond.fieldLink RX5 140 (TX1 5).1 (TX1 5).2.1 (TX1 5).2.2.1 ∈ zWL ∨ ∃ host, Cond.fieldLinkNest RX5 140 (TX1 5).1 (TX1 5).2.1 (TX1 5).2.2.1 host ∈ tables_1 := Or.inr ⟨"SourceDispute", (zt2 (List.mem_of_getElem? (i := 44) rfl))⟩
theorem fg_X5_140 (X : zX d L kd A nL p s m args c cc RX5) (hI : zI κ b L kd σ) (ha : zT L kd a 1) (hdg : decode cc pc = .ok (.getfield 140, 3)) (k : ∀ v : Int32, v = σ.1 a 5 → 0 ≤ v.toInt ∧ v.toInt ≤ 2 → zGc rs cs sl d L kd A nL p l e R s m args below meth c Q σ (pc + 3) lv (.int v :: st)) : zGc rs cs sl d L kd A nL p l e R s m args below meth c Q σ pc lv (.ref a :: st) := zg_geti X ha rfl (by decide) rfl (by decide) rfl zl_in1 zk_X5_140 hdg (k _ rfl (zi_get hI ha rfl))
set_option maxRecDepth 20000 in
theorem zkl_X4_11 : Cond.fieldLink RX4 11 (TX4 0).1 (TX4 0).2.1 (TX4 0).2.2.1 ∈ zWL := zw2 (List.mem_of_getElem? (i := 58) rfl) rfl
set_option maxRecDepth 20000 in
theorem zk_X4_11 : Cond.fieldLink RX4 11 (TX4 0).1 (TX4 0).2.1 (TX4 0).2.2.1 ∈ zWL ∨ ∃ host, Cond.fieldLinkNest RX4 11 (TX4 0).1 (TX4 0).2.1 (TX4 0).2.2.1 host ∈ tables_1 := Or.inl (zw2 (List.mem_of_getElem? (i := 58) rfl) rfl)
theorem fg_X4_11 (X : zX d L kd A nL p s m args c cc RX4) (hI : zI κ b L kd σ) (ha : zT L kd a 4) (hdg : decode cc pc = .ok (.getfield 11, 3)) (k : ∀ y : Nat, σ.2.2 a 0 = some y → zT L kd y 29 → zGc rs cs sl d L kd A nL p l e R s m args below meth c Q σ (pc + 3) lv (.ref y :: st)) : zGc rs cs sl d L kd A nL p l e R s m args below meth c Q σ pc lv (.ref a :: st) := by
  obtain ⟨y, hy, hT⟩ := zi_ref hI ha (show zf _ 4 0 = some 29 from rfl)
  have q := k y hy hT
  exact zg_getr X ha rfl (by decide) rfl (by decide) rfl zl_in4 zk_X4_11 hdg (by rw [hy]; exact q)
set_option maxRecDepth 20000 in
theorem zkl_X4_15 : Cond.fieldLink RX4 15 (TX4 1).1 (TX4 1).2.1 (TX4 1).2.2.1 ∈ zWL := zw2 (List.mem_of_getElem? (i := 59) rfl) rfl
set_option maxRecDepth 20000 in
theorem zk_X4_15 : Cond.fieldLink RX4 15 (TX4 1).1 (TX4 1).2.1 (TX4 1).2.2.1 ∈ zWL ∨ ∃ host, Cond.fieldLinkNest RX4 15 (TX4 1).1 (TX4 1).2.1 (TX4 1).2.2.1 host ∈ tables_1 := Or.inl (zw2 (List.mem_of_getElem? (i := 59) rfl) rfl)
theorem fg_X4_15 (X : zX d L kd A nL p s m args c cc RX4) (hI : zI κ b L kd σ) (ha : zT L kd a 4) (hdg : decode cc pc = .ok (.getfield 15, 3)) (k : ∀ v : Int32, v = σ.1 a 1 → 0 ≤ v.toInt ∧ v.toInt ≤ 39 → zGc rs cs sl d L kd A nL p l e R s m args below meth c Q σ (pc + 3) lv (.int v :: st)) : zGc rs cs sl d L kd A nL p l e R s m args below meth c Q σ pc lv (.ref a :: st) := zg_geti X ha rfl (by decide) rfl (by decide) rfl zl_in4 zk_X4_15 hdg (k _ rfl (zi_get hI ha rfl))
theorem fp_X4_15 (X : zX d L kd A nL p s m args c cc RX4) {v : Int32} (hI : zI κ b L kd σ) (ha : zT L kd a 4) (h : 0 ≤ v.toInt ∧ v.toInt ≤ 39) (hdg : decode cc pc = .ok (.putfield 15, 3)) (k : ∀ σ2 : zS, σ2 = (zu σ.1 a 1 v, σ.2.1, σ.2.2) → zI κ b L kd σ2 → zGc rs cs sl d L kd A nL p l e R s m args below meth c Q σ2 (pc + 3) lv st) : zGc rs cs sl d L kd A nL p l e R s m args below meth c Q σ pc lv (.int v :: .ref a :: st) := zg_puti (ty := .int) X ha rfl (by decide) rfl (by decide) rfl rfl zl_in4 tyX4_ok nmX4 zk_X4_15 rfl (by decide +kernel) rfl rfl hdg (fun σ2 h2 => k σ2 h2 (by rw [h2]; exact zi_puti hI ha rfl h.1 h.2))
set_option maxRecDepth 20000 in
theorem zkl_X4_19 : Cond.fieldLink RX4 19 (TX4 2).1 (TX4 2).2.1 (TX4 2).2.2.1 ∈ zWL := zw2 (List.mem_of_getElem? (i := 60) rfl) rfl
set_option maxRecDepth 20000 in
theorem zk_X4_19 : Cond.fieldLink RX4 19 (TX4 2).1 (TX4 2).2.1 (TX4 2).2.2.1 ∈ zWL ∨ ∃ host, Cond.fieldLinkNest RX4 19 (TX4 2).1 (TX4 2).2.1 (TX4 2).2.2.1 host ∈ tables_1 := Or.inl (zw2 (List.mem_of_getElem? (i := 60) rfl) rfl)
theorem fg_X4_19 (X : zX d L kd A nL p s m args c cc RX4) (hI : zI κ b L kd σ) (ha : zT L kd a 4) (hdg : decode cc pc = .ok (.getfield 19, 3)) (k : ∀ v : Int32, v = σ.1 a 2 → 0 ≤ v.toInt ∧ v.toInt ≤ 40 → zGc rs cs sl d L kd A nL p l e R s m args below meth c Q σ (pc + 3) lv (.int v :: st)) : zGc rs cs sl d L kd A nL p l e R s m args below meth c Q σ pc lv (.ref a :: st) := zg_geti X ha rfl (by decide) rfl (by decide) rfl zl_in4 zk_X4_19 hdg (k _ rfl (zi_get hI ha rfl))
theorem fp_X4_19 (X : zX d L kd A nL p s m args c cc RX4) {v : Int32} (hI : zI κ b L kd σ) (ha : zT L kd a 4) (h : 0 ≤ v.toInt ∧ v.toInt ≤ 40) (hdg : decode cc pc = .ok (.putfield 19, 3)) (k : ∀ σ2 : zS, σ2 = (zu σ.1 a 2 v, σ.2.1, σ.2.2) → zI κ b L kd σ2 → zGc rs cs sl d L kd A nL p l e R s m args below meth c Q σ2 (pc + 3) lv st) : zGc rs cs sl d L kd A nL p l e R s m args below meth c Q σ pc lv (.int v :: .ref a :: st) := zg_puti (ty := .int) X ha rfl (by decide) rfl (by decide) rfl rfl zl_in4 tyX4_ok nmX4 zk_X4_19 rfl (by decide +kernel) rfl rfl hdg (fun σ2 h2 => k σ2 h2 (by rw [h2]; exact zi_puti hI ha rfl h.1 h.2))
set_option maxRecDepth 20000 in
theorem zk_X10_107 : Cond.fieldLink RX10 107 (TX4 2).1 (TX4 2).2.1 (TX4 2).2.2.1 ∈ zWL ∨ ∃ host, Cond.fieldLinkNest RX10 107 (TX4 2).1 (TX4 2).2.1 (TX4 2).2.2.1 host ∈ tables_1 := Or.inr ⟨"SourceDispute", (zt2 (List.mem_of_getElem? (i := 61) rfl))⟩
theorem fg_X10_107 (X : zX d L kd A nL p s m args c cc RX10) (hI : zI κ b L kd σ) (ha : zT L kd a 4) (hdg : decode cc pc = .ok (.getfield 107, 3)) (k : ∀ v : Int32, v = σ.1 a 2 → 0 ≤ v.toInt ∧ v.toInt ≤ 40 → zGc rs cs sl d L kd A nL p l e R s m args below meth c Q σ (pc + 3) lv (.int v :: st)) : zGc rs cs sl d L kd A nL p l e R s m args below meth c Q σ pc lv (.ref a :: st) := zg_geti X ha rfl (by decide) rfl (by decide) rfl zl_in4 zk_X10_107 hdg (k _ rfl (zi_get hI ha rfl))
theorem fp_X10_107 (X : zX d L kd A nL p s m args c cc RX10) {v : Int32} (hI : zI κ b L kd σ) (ha : zT L kd a 4) (h : 0 ≤ v.toInt ∧ v.toInt ≤ 40) (hdg : decode cc pc = .ok (.putfield 107, 3)) (k : ∀ σ2 : zS, σ2 = (zu σ.1 a 2 v, σ.2.1, σ.2.2) → zI κ b L kd σ2 → zGc rs cs sl d L kd A nL p l e R s m args below meth c Q σ2 (pc + 3) lv st) : zGc rs cs sl d L kd A nL p l e R s m args below meth c Q σ pc lv (.int v :: .ref a :: st) := zg_puti (ty := .int) X ha rfl (by decide) rfl (by decide) rfl rfl zl_in4 tyX4_ok nmX4 zk_X10_107 rfl (by decide +kernel) rfl rfl hdg (fun σ2 h2 => k σ2 h2 (by rw [h2]; exact zi_puti hI ha rfl h.1 h.2))
set_option maxRecDepth 20000 in
theorem zkl_X2_11 : Cond.fieldLink RX2 11 (TX2 0).1 (TX2 0).2.1 (TX2 0).2.2.1 ∈ zWL := zw2 (List.mem_of_getElem? (i := 75) rfl) rfl
set_option maxRecDepth 20000 in
theorem zk_X2_11 : Cond.fieldLink RX2 11 (TX2 0).1 (TX2 0).2.1 (TX2 0).2.2.1 ∈ zWL ∨ ∃ host, Cond.fieldLinkNest RX2 11 (TX2 0).1 (TX2 0).2.1 (TX2 0).2.2.1 host ∈ tables_1 := Or.inl (zw2 (List.mem_of_getElem? (i := 75) rfl) rfl)
theorem fg_X2_11 (X : zX d L kd A nL p s m args c cc RX2) (hI : zI κ b L kd σ) (ha : zT L kd a 2) (hdg : decode cc pc = .ok (.getfield 11, 3)) (k : ∀ y : Nat, σ.2.2 a 0 = some y → zT L kd y 25 → zGc rs cs sl d L kd A nL p l e R s m args below meth c Q σ (pc + 3) lv (.ref y :: st)) : zGc rs cs sl d L kd A nL p l e R s m args below meth c Q σ pc lv (.ref a :: st) := by
  obtain ⟨y, hy, hT⟩ := zi_ref hI ha (show zf _ 2 0 = some 25 from rfl)
  have q := k y hy hT
  exact zg_getr X ha rfl (by decide) rfl (by decide) rfl zl_in2 zk_X2_11 hdg (by rw [hy]; exact q)
set_option maxRecDepth 20000 in
theorem zkl_X2_15 : Cond.fieldLink RX2 15 (TX2 1).1 (TX2 1).2.1 (TX2 1).2.2.1 ∈ zWL := zw2 (List.mem_of_getElem? (i := 76) rfl) rfl
set_option maxRecDepth 20000 in
theorem zk_X2_15 : Cond.fieldLink RX2 15 (TX2 1).1 (TX2 1).2.1 (TX2 1).2.2.1 ∈ zWL ∨ ∃ host, Cond.fieldLinkNest RX2 15 (TX2 1).1 (TX2 1).2.1 (TX2 1).2.2.1 host ∈ tables_1 := Or.inl (zw2 (List.mem_of_getElem? (i := 76) rfl) rfl)
theorem fg_X2_15 (X : zX d L kd A nL p s m args c cc RX2) (hI : zI κ b L kd σ) (ha : zT L kd a 2) (hdg : decode cc pc = .ok (.getfield 15, 3)) (k : ∀ y : Nat, σ.2.2 a 1 = some y → zT L kd y 26 → zGc rs cs sl d L kd A nL p l e R s m args below meth c Q σ (pc + 3) lv (.ref y :: st)) : zGc rs cs sl d L kd A nL p l e R s m args below meth c Q σ pc lv (.ref a :: st) := by
  obtain ⟨y, hy, hT⟩ := zi_ref hI ha (show zf _ 2 1 = some 26 from rfl)
  have q := k y hy hT
  exact zg_getr X ha rfl (by decide) rfl (by decide) rfl zl_in2 zk_X2_15 hdg (by rw [hy]; exact q)
set_option maxRecDepth 20000 in
theorem zkl_X2_18 : Cond.fieldLink RX2 18 (TX2 2).1 (TX2 2).2.1 (TX2 2).2.2.1 ∈ zWL := zw2 (List.mem_of_getElem? (i := 77) rfl) rfl
set_option maxRecDepth 20000 in
theorem zk_X2_18 : Cond.fieldLink RX2 18 (TX2 2).1 (TX2 2).2.1 (TX2 2).2.2.1 ∈ zWL ∨ ∃ host, Cond.fieldLinkNest RX2 18 (TX2 2).1 (TX2 2).2.1 (TX2 2).2.2.1 host ∈ tables_1 := Or.inl (zw2 (List.mem_of_getElem? (i := 77) rfl) rfl)
theorem fg_X2_18 (X : zX d L kd A nL p s m args c cc RX2) (hI : zI κ b L kd σ) (ha : zT L kd a 2) (hdg : decode cc pc = .ok (.getfield 18, 3)) (k : ∀ y : Nat, σ.2.2 a 2 = some y → zT L kd y 27 → zGc rs cs sl d L kd A nL p l e R s m args below meth c Q σ (pc + 3) lv (.ref y :: st)) : zGc rs cs sl d L kd A nL p l e R s m args below meth c Q σ pc lv (.ref a :: st) := by
  obtain ⟨y, hy, hT⟩ := zi_ref hI ha (show zf _ 2 2 = some 27 from rfl)
  have q := k y hy hT
  exact zg_getr X ha rfl (by decide) rfl (by decide) rfl zl_in2 zk_X2_18 hdg (by rw [hy]; exact q)
set_option maxRecDepth 20000 in
theorem zkl_X2_21 : Cond.fieldLink RX2 21 (TX2 3).1 (TX2 3).2.1 (TX2 3).2.2.1 ∈ zWL := zw2 (List.mem_of_getElem? (i := 78) rfl) rfl
set_option maxRecDepth 20000 in
theorem zk_X2_21 : Cond.fieldLink RX2 21 (TX2 3).1 (TX2 3).2.1 (TX2 3).2.2.1 ∈ zWL ∨ ∃ host, Cond.fieldLinkNest RX2 21 (TX2 3).1 (TX2 3).2.1 (TX2 3).2.2.1 host ∈ tables_1 := Or.inl (zw2 (List.mem_of_getElem? (i := 78) rfl) rfl)
theorem fg_X2_21 (X : zX d L kd A nL p s m args c cc RX2) (hI : zI κ b L kd σ) (ha : zT L kd a 2) (hdg : decode cc pc = .ok (.getfield 21, 3)) (k : ∀ y : Nat, σ.2.2 a 3 = some y → zT L kd y 28 → zGc rs cs sl d L kd A nL p l e R s m args below meth c Q σ (pc + 3) lv (.ref y :: st)) : zGc rs cs sl d L kd A nL p l e R s m args below meth c Q σ pc lv (.ref a :: st) := by
  obtain ⟨y, hy, hT⟩ := zi_ref hI ha (show zf _ 2 3 = some 28 from rfl)
  have q := k y hy hT
  exact zg_getr X ha rfl (by decide) rfl (by decide) rfl zl_in2 zk_X2_21 hdg (by rw [hy]; exact q)
set_option maxRecDepth 20000 in
theorem zkl_X2_25 : Cond.fieldLink RX2 25 (TX2 4).1 (TX2 4).2.1 (TX2 4).2.2.1 ∈ zWL := zw2 (List.mem_of_getElem? (i := 79) rfl) rfl
set_option maxRecDepth 20000 in
theorem zk_X2_25 : Cond.fieldLink RX2 25 (TX2 4).1 (TX2 4).2.1 (TX2 4).2.2.1 ∈ zWL ∨ ∃ host, Cond.fieldLinkNest RX2 25 (TX2 4).1 (TX2 4).2.1 (TX2 4).2.2.1 host ∈ tables_1 := Or.inl (zw2 (List.mem_of_getElem? (i := 79) rfl) rfl)
theorem fg_X2_25 (X : zX d L kd A nL p s m args c cc RX2) (hI : zI κ b L kd σ) (ha : zT L kd a 2) (hdg : decode cc pc = .ok (.getfield 25, 3)) (k : ∀ v : Int32, v = σ.1 a 4 → 0 ≤ v.toInt ∧ v.toInt ≤ 20 → zGc rs cs sl d L kd A nL p l e R s m args below meth c Q σ (pc + 3) lv (.int v :: st)) : zGc rs cs sl d L kd A nL p l e R s m args below meth c Q σ pc lv (.ref a :: st) := zg_geti X ha rfl (by decide) rfl (by decide) rfl zl_in2 zk_X2_25 hdg (k _ rfl (zi_get hI ha rfl))
theorem fp_X2_25 (X : zX d L kd A nL p s m args c cc RX2) {v : Int32} (hI : zI κ b L kd σ) (ha : zT L kd a 2) (h : 0 ≤ v.toInt ∧ v.toInt ≤ 20) (hdg : decode cc pc = .ok (.putfield 25, 3)) (k : ∀ σ2 : zS, σ2 = (zu σ.1 a 4 v, σ.2.1, σ.2.2) → zI κ b L kd σ2 → zGc rs cs sl d L kd A nL p l e R s m args below meth c Q σ2 (pc + 3) lv st) : zGc rs cs sl d L kd A nL p l e R s m args below meth c Q σ pc lv (.int v :: .ref a :: st) := zg_puti (ty := .int) X ha rfl (by decide) rfl (by decide) rfl rfl zl_in2 tyX2_ok nmX2 zk_X2_25 rfl (by decide +kernel) rfl rfl hdg (fun σ2 h2 => k σ2 h2 (by rw [h2]; exact zi_puti hI ha rfl h.1 h.2))
set_option maxRecDepth 20000 in
theorem zk_X10_108 : Cond.fieldLink RX10 108 (TX2 4).1 (TX2 4).2.1 (TX2 4).2.2.1 ∈ zWL ∨ ∃ host, Cond.fieldLinkNest RX10 108 (TX2 4).1 (TX2 4).2.1 (TX2 4).2.2.1 host ∈ tables_1 := Or.inr ⟨"SourceDispute", (zt2 (List.mem_of_getElem? (i := 80) rfl))⟩
theorem fg_X10_108 (X : zX d L kd A nL p s m args c cc RX10) (hI : zI κ b L kd σ) (ha : zT L kd a 2) (hdg : decode cc pc = .ok (.getfield 108, 3)) (k : ∀ v : Int32, v = σ.1 a 4 → 0 ≤ v.toInt ∧ v.toInt ≤ 20 → zGc rs cs sl d L kd A nL p l e R s m args below meth c Q σ (pc + 3) lv (.int v :: st)) : zGc rs cs sl d L kd A nL p l e R s m args below meth c Q σ pc lv (.ref a :: st) := zg_geti X ha rfl (by decide) rfl (by decide) rfl zl_in2 zk_X10_108 hdg (k _ rfl (zi_get hI ha rfl))
theorem fp_X10_108 (X : zX d L kd A nL p s m args c cc RX10) {v : Int32} (hI : zI κ b L kd σ) (ha : zT L kd a 2) (h : 0 ≤ v.toInt ∧ v.toInt ≤ 20) (hdg : decode cc pc = .ok (.putfield 108, 3)) (k : ∀ σ2 : zS, σ2 = (zu σ.1 a 4 v, σ.2.1, σ.2.2) → zI κ b L kd σ2 → zGc rs cs sl d L kd A nL p l e R s m args below meth c Q σ2 (pc + 3) lv st) : zGc rs cs sl d L kd A nL p l e R s m args below meth c Q σ pc lv (.int v :: .ref a :: st) := zg_puti (ty := .int) X ha rfl (by decide) rfl (by decide) rfl rfl zl_in2 tyX2_ok nmX2 zk_X10_108 rfl (by decide +kernel) rfl rfl hdg (fun σ2 h2 => k σ2 h2 (by rw [h2]; exact zi_puti hI ha rfl h.1 h.2))
set_option maxRecDepth 20000 in
theorem zk_X9_40 : Cond.fieldLink RX9 40 (TX9 0).1 (TX9 0).2.1 (TX9 0).2.2.1 ∈ zWL ∨ ∃ host, Cond.fieldLinkNest RX9 40 (TX9 0).1 (TX9 0).2.1 (TX9 0).2.2.1 host ∈ tables_1 := Or.inl (zw2 (List.mem_of_getElem? (i := 111) rfl) rfl)
theorem fp_X9_40 (X : zX d L kd A nL p s m args c cc RX9) {v : Int32} (hI : zI κ b L kd σ) (ha : zT L kd a 9) (h : 0 ≤ v.toInt ∧ v.toInt ≤ 12) (hdg : decode cc pc = .ok (.putfield 40, 3)) (k : ∀ σ2 : zS, σ2 = (zu σ.1 a 0 v, σ.2.1, σ.2.2) → zI κ b L kd σ2 → zGc rs cs sl d L kd A nL p l e R s m args below meth c Q σ2 (pc + 3) lv st) : zGc rs cs sl d L kd A nL p l e R s m args below meth c Q σ pc lv (.int v :: .ref a :: st) := zg_puti (ty := .int) X ha rfl (by decide) rfl (by decide) rfl rfl zl_in9 tyX9_ok nmX9 zk_X9_40 rfl (by decide +kernel) rfl rfl hdg (fun σ2 h2 => k σ2 h2 (by rw [h2]; exact zi_puti hI ha rfl h.1 h.2))
set_option maxRecDepth 20000 in
theorem zk_X6_34 : Cond.fieldLink RX6 34 (TX9 0).1 (TX9 0).2.1 (TX9 0).2.2.1 ∈ zWL ∨ ∃ host, Cond.fieldLinkNest RX6 34 (TX9 0).1 (TX9 0).2.1 (TX9 0).2.2.1 host ∈ tables_1 := Or.inr ⟨"SourceDispute", (zt2 (List.mem_of_getElem? (i := 112) rfl))⟩
theorem fg_X6_34 (X : zX d L kd A nL p s m args c cc RX6) (hI : zI κ b L kd σ) (ha : zT L kd a 9) (hdg : decode cc pc = .ok (.getfield 34, 3)) (k : ∀ v : Int32, v = σ.1 a 0 → 0 ≤ v.toInt ∧ v.toInt ≤ 12 → zGc rs cs sl d L kd A nL p l e R s m args below meth c Q σ (pc + 3) lv (.int v :: st)) : zGc rs cs sl d L kd A nL p l e R s m args below meth c Q σ pc lv (.ref a :: st) := zg_geti X ha rfl (by decide) rfl (by decide) rfl zl_in9 zk_X6_34 hdg (k _ rfl (zi_get hI ha rfl))
set_option maxRecDepth 20000 in
theorem zk_X3_71 : Cond.fieldLink RX3 71 (TX9 0).1 (TX9 0).2.1 (TX9 0).2.2.1 ∈ zWL ∨ ∃ host, Cond.fieldLinkNest RX3 71 (TX9 0).1 (TX9 0).2.1 (TX9 0).2.2.1 host ∈ tables_1 := Or.inr ⟨"SourceDispute", (zt2 (List.mem_of_getElem? (i := 113) rfl))⟩
theorem fp_X3_71 (X : zX d L kd A nL p s m args c cc RX3) {v : Int32} (hI : zI κ b L kd σ) (ha : zT L kd a 9) (h : 0 ≤ v.toInt ∧ v.toInt ≤ 12) (hdg : decode cc pc = .ok (.putfield 71, 3)) (k : ∀ σ2 : zS, σ2 = (zu σ.1 a 0 v, σ.2.1, σ.2.2) → zI κ b L kd σ2 → zGc rs cs sl d L kd A nL p l e R s m args below meth c Q σ2 (pc + 3) lv st) : zGc rs cs sl d L kd A nL p l e R s m args below meth c Q σ pc lv (.int v :: .ref a :: st) := zg_puti (ty := .int) X ha rfl (by decide) rfl (by decide) rfl rfl zl_in9 tyX9_ok nmX9 zk_X3_71 rfl (by decide +kernel) rfl rfl hdg (fun σ2 h2 => k σ2 h2 (by rw [h2]; exact zi_puti hI ha rfl h.1 h.2))
set_option maxRecDepth 20000 in
theorem zk_X10_175 : Cond.fieldLink RX10 175 (TX9 0).1 (TX9 0).2.1 (TX9 0).2.2.1 ∈ zWL ∨ ∃ host, Cond.fieldLinkNest RX10 175 (TX9 0).1 (TX9 0).2.1 (TX9 0).2.2.1 host ∈ tables_1 := Or.inr ⟨"SourceDispute", (zt2 (List.mem_of_getElem? (i := 114) rfl))⟩
theorem fg_X10_175 (X : zX d L kd A nL p s m args c cc RX10) (hI : zI κ b L kd σ) (ha : zT L kd a 9) (hdg : decode cc pc = .ok (.getfield 175, 3)) (k : ∀ v : Int32, v = σ.1 a 0 → 0 ≤ v.toInt ∧ v.toInt ≤ 12 → zGc rs cs sl d L kd A nL p l e R s m args below meth c Q σ (pc + 3) lv (.int v :: st)) : zGc rs cs sl d L kd A nL p l e R s m args below meth c Q σ pc lv (.ref a :: st) := zg_geti X ha rfl (by decide) rfl (by decide) rfl zl_in9 zk_X10_175 hdg (k _ rfl (zi_get hI ha rfl))
set_option maxRecDepth 20000 in
theorem zkl_X9_9 : Cond.fieldLink RX9 9 (TX9 1).1 (TX9 1).2.1 (TX9 1).2.2.1 ∈ zWL := zw2 (List.mem_of_getElem? (i := 115) rfl) rfl
set_option maxRecDepth 20000 in
theorem zk_X3_113 : Cond.fieldLink RX3 113 (TX9 1).1 (TX9 1).2.1 (TX9 1).2.2.1 ∈ zWL ∨ ∃ host, Cond.fieldLinkNest RX3 113 (TX9 1).1 (TX9 1).2.1 (TX9 1).2.2.1 host ∈ tables_1 := Or.inr ⟨"SourceDispute", (zt2 (List.mem_of_getElem? (i := 116) rfl))⟩
theorem fg_X3_113 (X : zX d L kd A nL p s m args c cc RX3) (hI : zI κ b L kd σ) (ha : zT L kd a 9) (hdg : decode cc pc = .ok (.getfield 113, 3)) (k : ∀ y : Nat, σ.2.2 a 1 = some y → zT L kd y 44 → zGc rs cs sl d L kd A nL p l e R s m args below meth c Q σ (pc + 3) lv (.ref y :: st)) : zGc rs cs sl d L kd A nL p l e R s m args below meth c Q σ pc lv (.ref a :: st) := by
  obtain ⟨y, hy, hT⟩ := zi_ref hI ha (show zf _ 9 1 = some 44 from rfl)
  have q := k y hy hT
  exact zg_getr X ha rfl (by decide) rfl (by decide) rfl zl_in9 zk_X3_113 hdg (by rw [hy]; exact q)
set_option maxRecDepth 20000 in
theorem zkl_X9_15 : Cond.fieldLink RX9 15 (TX9 2).1 (TX9 2).2.1 (TX9 2).2.2.1 ∈ zWL := zw2 (List.mem_of_getElem? (i := 117) rfl) rfl
set_option maxRecDepth 20000 in
theorem zk_X9_15 : Cond.fieldLink RX9 15 (TX9 2).1 (TX9 2).2.1 (TX9 2).2.2.1 ∈ zWL ∨ ∃ host, Cond.fieldLinkNest RX9 15 (TX9 2).1 (TX9 2).2.1 (TX9 2).2.2.1 host ∈ tables_1 := Or.inl (zw2 (List.mem_of_getElem? (i := 117) rfl) rfl)
theorem fg_X9_15 (X : zX d L kd A nL p s m args c cc RX9) (hI : zI κ b L kd σ) (ha : zT L kd a 9) (hdg : decode cc pc = .ok (.getfield 15, 3)) (k : ∀ y : Nat, σ.2.2 a 2 = some y → zT L kd y 45 → zGc rs cs sl d L kd A nL p l e R s m args below meth c Q σ (pc + 3) lv (.ref y :: st)) : zGc rs cs sl d L kd A nL p l e R s m args below meth c Q σ pc lv (.ref a :: st) := by
  obtain ⟨y, hy, hT⟩ := zi_ref hI ha (show zf _ 9 2 = some 45 from rfl)
  have q := k y hy hT
  exact zg_getr X ha rfl (by decide) rfl (by decide) rfl zl_in9 zk_X9_15 hdg (by rw [hy]; exact q)
set_option maxRecDepth 20000 in
theorem zk_X1_31 : Cond.fieldLink RX1 31 (TX9 2).1 (TX9 2).2.1 (TX9 2).2.2.1 ∈ zWL ∨ ∃ host, Cond.fieldLinkNest RX1 31 (TX9 2).1 (TX9 2).2.1 (TX9 2).2.2.1 host ∈ tables_1 := Or.inr ⟨"SourceDispute", (zt2 (List.mem_of_getElem? (i := 118) rfl))⟩
theorem fg_X1_31 (X : zX d L kd A nL p s m args c cc RX1) (hI : zI κ b L kd σ) (ha : zT L kd a 9) (hdg : decode cc pc = .ok (.getfield 31, 3)) (k : ∀ y : Nat, σ.2.2 a 2 = some y → zT L kd y 45 → zGc rs cs sl d L kd A nL p l e R s m args below meth c Q σ (pc + 3) lv (.ref y :: st)) : zGc rs cs sl d L kd A nL p l e R s m args below meth c Q σ pc lv (.ref a :: st) := by
  obtain ⟨y, hy, hT⟩ := zi_ref hI ha (show zf _ 9 2 = some 45 from rfl)
  have q := k y hy hT
  exact zg_getr X ha rfl (by decide) rfl (by decide) rfl zl_in9 zk_X1_31 hdg (by rw [hy]; exact q)
set_option maxRecDepth 20000 in
theorem zk_X10_215 : Cond.fieldLink RX10 215 (TX9 2).1 (TX9 2).2.1 (TX9 2).2.2.1 ∈ zWL ∨ ∃ host, Cond.fieldLinkNest RX10 215 (TX9 2).1 (TX9 2).2.1 (TX9 2).2.2.1 host ∈ tables_1 := Or.inr ⟨"SourceDispute", (zt2 (List.mem_of_getElem? (i := 119) rfl))⟩
theorem fg_X10_215 (X : zX d L kd A nL p s m args c cc RX10) (hI : zI κ b L kd σ) (ha : zT L kd a 9) (hdg : decode cc pc = .ok (.getfield 215, 3)) (k : ∀ y : Nat, σ.2.2 a 2 = some y → zT L kd y 45 → zGc rs cs sl d L kd A nL p l e R s m args below meth c Q σ (pc + 3) lv (.ref y :: st)) : zGc rs cs sl d L kd A nL p l e R s m args below meth c Q σ pc lv (.ref a :: st) := by
  obtain ⟨y, hy, hT⟩ := zi_ref hI ha (show zf _ 9 2 = some 45 from rfl)
  have q := k y hy hT
  exact zg_getr X ha rfl (by decide) rfl (by decide) rfl zl_in9 zk_X10_215 hdg (by rw [hy]; exact q)
set_option maxRecDepth 20000 in
theorem zkl_X9_19 : Cond.fieldLink RX9 19 (TX9 3).1 (TX9 3).2.1 (TX9 3).2.2.1 ∈ zWL := zw2 (List.mem_of_getElem? (i := 120) rfl) rfl
set_option maxRecDepth 20000 in
theorem zk_X9_19 : Cond.fieldLink RX9 19 (TX9 3).1 (TX9 3).2.1 (TX9 3).2.2.1 ∈ zWL ∨ ∃ host, Cond.fieldLinkNest RX9 19 (TX9 3).1 (TX9 3).2.1 (TX9 3).2.2.1 host ∈ tables_1 := Or.inl (zw2 (List.mem_of_getElem? (i := 120) rfl) rfl)
theorem fg_X9_19 (X : zX d L kd A nL p s m args c cc RX9) (hI : zI κ b L kd σ) (ha : zT L kd a 9) (hdg : decode cc pc = .ok (.getfield 19, 3)) (k : ∀ y : Nat, σ.2.2 a 3 = some y → zT L kd y 46 → zGc rs cs sl d L kd A nL p l e R s m args below meth c Q σ (pc + 3) lv (.ref y :: st)) : zGc rs cs sl d L kd A nL p l e R s m args below meth c Q σ pc lv (.ref a :: st) := by
  obtain ⟨y, hy, hT⟩ := zi_ref hI ha (show zf _ 9 3 = some 46 from rfl)
  have q := k y hy hT
  exact zg_getr X ha rfl (by decide) rfl (by decide) rfl zl_in9 zk_X9_19 hdg (by rw [hy]; exact q)
set_option maxRecDepth 20000 in
theorem zk_X6_37 : Cond.fieldLink RX6 37 (TX9 3).1 (TX9 3).2.1 (TX9 3).2.2.1 ∈ zWL ∨ ∃ host, Cond.fieldLinkNest RX6 37 (TX9 3).1 (TX9 3).2.1 (TX9 3).2.2.1 host ∈ tables_1 := Or.inr ⟨"SourceDispute", (zt2 (List.mem_of_getElem? (i := 121) rfl))⟩
theorem fg_X6_37 (X : zX d L kd A nL p s m args c cc RX6) (hI : zI κ b L kd σ) (ha : zT L kd a 9) (hdg : decode cc pc = .ok (.getfield 37, 3)) (k : ∀ y : Nat, σ.2.2 a 3 = some y → zT L kd y 46 → zGc rs cs sl d L kd A nL p l e R s m args below meth c Q σ (pc + 3) lv (.ref y :: st)) : zGc rs cs sl d L kd A nL p l e R s m args below meth c Q σ pc lv (.ref a :: st) := by
  obtain ⟨y, hy, hT⟩ := zi_ref hI ha (show zf _ 9 3 = some 46 from rfl)
  have q := k y hy hT
  exact zg_getr X ha rfl (by decide) rfl (by decide) rfl zl_in9 zk_X6_37 hdg (by rw [hy]; exact q)
set_option maxRecDepth 20000 in
theorem zk_X10_119 : Cond.fieldLink RX10 119 (TX9 3).1 (TX9 3).2.1 (TX9 3).2.2.1 ∈ zWL ∨ ∃ host, Cond.fieldLinkNest RX10 119 (TX9 3).1 (TX9 3).2.1 (TX9 3).2.2.1 host ∈ tables_1 := Or.inr ⟨"SourceDispute", (zt2 (List.mem_of_getElem? (i := 122) rfl))⟩
theorem fg_X10_119 (X : zX d L kd A nL p s m args c cc RX10) (hI : zI κ b L kd σ) (ha : zT L kd a 9) (hdg : decode cc pc = .ok (.getfield 119, 3)) (k : ∀ y : Nat, σ.2.2 a 3 = some y → zT L kd y 46 → zGc rs cs sl d L kd A nL p l e R s m args below meth c Q σ (pc + 3) lv (.ref y :: st)) : zGc rs cs sl d L kd A nL p l e R s m args below meth c Q σ pc lv (.ref a :: st) := by
  obtain ⟨y, hy, hT⟩ := zi_ref hI ha (show zf _ 9 3 = some 46 from rfl)
  have q := k y hy hT
  exact zg_getr X ha rfl (by decide) rfl (by decide) rfl zl_in9 zk_X10_119 hdg (by rw [hy]; exact q)
set_option maxRecDepth 20000 in
theorem zk_X5_112 : Cond.fieldLink RX5 112 (TX9 3).1 (TX9 3).2.1 (TX9 3).2.2.1 ∈ zWL ∨ ∃ host, Cond.fieldLinkNest RX5 112 (TX9 3).1 (TX9 3).2.1 (TX9 3).2.2.1 host ∈ tables_1 := Or.inr ⟨"SourceDispute", (zt2 (List.mem_of_getElem? (i := 123) rfl))⟩
theorem fg_X5_112 (X : zX d L kd A nL p s m args c cc RX5) (hI : zI κ b L kd σ) (ha : zT L kd a 9) (hdg : decode cc pc = .ok (.getfield 112, 3)) (k : ∀ y : Nat, σ.2.2 a 3 = some y → zT L kd y 46 → zGc rs cs sl d L kd A nL p l e R s m args below meth c Q σ (pc + 3) lv (.ref y :: st)) : zGc rs cs sl d L kd A nL p l e R s m args below meth c Q σ pc lv (.ref a :: st) := by
  obtain ⟨y, hy, hT⟩ := zi_ref hI ha (show zf _ 9 3 = some 46 from rfl)
  have q := k y hy hT
  exact zg_getr X ha rfl (by decide) rfl (by decide) rfl zl_in9 zk_X5_112 hdg (by rw [hy]; exact q)
set_option maxRecDepth 20000 in
theorem zkl_X9_22 : Cond.fieldLink RX9 22 (TX9 4).1 (TX9 4).2.1 (TX9 4).2.2.1 ∈ zWL := zw2 (List.mem_of_getElem? (i := 124) rfl) rfl
set_option maxRecDepth 20000 in
theorem zk_X9_22 : Cond.fieldLink RX9 22 (TX9 4).1 (TX9 4).2.1 (TX9 4).2.2.1 ∈ zWL ∨ ∃ host, Cond.fieldLinkNest RX9 22 (TX9 4).1 (TX9 4).2.1 (TX9 4).2.2.1 host ∈ tables_1 := Or.inl (zw2 (List.mem_of_getElem? (i := 124) rfl) rfl)
theorem fg_X9_22 (X : zX d L kd A nL p s m args c cc RX9) (hI : zI κ b L kd σ) (ha : zT L kd a 9) (hdg : decode cc pc = .ok (.getfield 22, 3)) (k : ∀ y : Nat, σ.2.2 a 4 = some y → zT L kd y 47 → zGc rs cs sl d L kd A nL p l e R s m args below meth c Q σ (pc + 3) lv (.ref y :: st)) : zGc rs cs sl d L kd A nL p l e R s m args below meth c Q σ pc lv (.ref a :: st) := by
  obtain ⟨y, hy, hT⟩ := zi_ref hI ha (show zf _ 9 4 = some 47 from rfl)
  have q := k y hy hT
  exact zg_getr X ha rfl (by decide) rfl (by decide) rfl zl_in9 zk_X9_22 hdg (by rw [hy]; exact q)
set_option maxRecDepth 20000 in
theorem zk_X10_122 : Cond.fieldLink RX10 122 (TX9 4).1 (TX9 4).2.1 (TX9 4).2.2.1 ∈ zWL ∨ ∃ host, Cond.fieldLinkNest RX10 122 (TX9 4).1 (TX9 4).2.1 (TX9 4).2.2.1 host ∈ tables_1 := Or.inr ⟨"SourceDispute", (zt2 (List.mem_of_getElem? (i := 125) rfl))⟩
theorem fg_X10_122 (X : zX d L kd A nL p s m args c cc RX10) (hI : zI κ b L kd σ) (ha : zT L kd a 9) (hdg : decode cc pc = .ok (.getfield 122, 3)) (k : ∀ y : Nat, σ.2.2 a 4 = some y → zT L kd y 47 → zGc rs cs sl d L kd A nL p l e R s m args below meth c Q σ (pc + 3) lv (.ref y :: st)) : zGc rs cs sl d L kd A nL p l e R s m args below meth c Q σ pc lv (.ref a :: st) := by
  obtain ⟨y, hy, hT⟩ := zi_ref hI ha (show zf _ 9 4 = some 47 from rfl)
  have q := k y hy hT
  exact zg_getr X ha rfl (by decide) rfl (by decide) rfl zl_in9 zk_X10_122 hdg (by rw [hy]; exact q)
set_option maxRecDepth 20000 in
theorem zk_X5_99 : Cond.fieldLink RX5 99 (TX9 4).1 (TX9 4).2.1 (TX9 4).2.2.1 ∈ zWL ∨ ∃ host, Cond.fieldLinkNest RX5 99 (TX9 4).1 (TX9 4).2.1 (TX9 4).2.2.1 host ∈ tables_1 := Or.inr ⟨"SourceDispute", (zt2 (List.mem_of_getElem? (i := 126) rfl))⟩
theorem fg_X5_99 (X : zX d L kd A nL p s m args c cc RX5) (hI : zI κ b L kd σ) (ha : zT L kd a 9) (hdg : decode cc pc = .ok (.getfield 99, 3)) (k : ∀ y : Nat, σ.2.2 a 4 = some y → zT L kd y 47 → zGc rs cs sl d L kd A nL p l e R s m args below meth c Q σ (pc + 3) lv (.ref y :: st)) : zGc rs cs sl d L kd A nL p l e R s m args below meth c Q σ pc lv (.ref a :: st) := by
  obtain ⟨y, hy, hT⟩ := zi_ref hI ha (show zf _ 9 4 = some 47 from rfl)
  have q := k y hy hT
  exact zg_getr X ha rfl (by decide) rfl (by decide) rfl zl_in9 zk_X5_99 hdg (by rw [hy]; exact q)
set_option maxRecDepth 20000 in
theorem zkl_X9_25 : Cond.fieldLink RX9 25 (TX9 5).1 (TX9 5).2.1 (TX9 5).2.2.1 ∈ zWL := zw2 (List.mem_of_getElem? (i := 127) rfl) rfl
set_option maxRecDepth 20000 in
theorem zk_X9_25 : Cond.fieldLink RX9 25 (TX9 5).1 (TX9 5).2.1 (TX9 5).2.2.1 ∈ zWL ∨ ∃ host, Cond.fieldLinkNest RX9 25 (TX9 5).1 (TX9 5).2.1 (TX9 5).2.2.1 host ∈ tables_1 := Or.inl (zw2 (List.mem_of_getElem? (i := 127) rfl) rfl)
theorem fg_X9_25 (X : zX d L kd A nL p s m args c cc RX9) (hI : zI κ b L kd σ) (ha : zT L kd a 9) (hdg : decode cc pc = .ok (.getfield 25, 3)) (k : ∀ y : Nat, σ.2.2 a 5 = some y → zT L kd y 48 → zGc rs cs sl d L kd A nL p l e R s m args below meth c Q σ (pc + 3) lv (.ref y :: st)) : zGc rs cs sl d L kd A nL p l e R s m args below meth c Q σ pc lv (.ref a :: st) := by
  obtain ⟨y, hy, hT⟩ := zi_ref hI ha (show zf _ 9 5 = some 48 from rfl)
  have q := k y hy hT
  exact zg_getr X ha rfl (by decide) rfl (by decide) rfl zl_in9 zk_X9_25 hdg (by rw [hy]; exact q)
set_option maxRecDepth 20000 in
theorem zk_X10_125 : Cond.fieldLink RX10 125 (TX9 5).1 (TX9 5).2.1 (TX9 5).2.2.1 ∈ zWL ∨ ∃ host, Cond.fieldLinkNest RX10 125 (TX9 5).1 (TX9 5).2.1 (TX9 5).2.2.1 host ∈ tables_1 := Or.inr ⟨"SourceDispute", (zt2 (List.mem_of_getElem? (i := 128) rfl))⟩
theorem fg_X10_125 (X : zX d L kd A nL p s m args c cc RX10) (hI : zI κ b L kd σ) (ha : zT L kd a 9) (hdg : decode cc pc = .ok (.getfield 125, 3)) (k : ∀ y : Nat, σ.2.2 a 5 = some y → zT L kd y 48 → zGc rs cs sl d L kd A nL p l e R s m args below meth c Q σ (pc + 3) lv (.ref y :: st)) : zGc rs cs sl d L kd A nL p l e R s m args below meth c Q σ pc lv (.ref a :: st) := by
  obtain ⟨y, hy, hT⟩ := zi_ref hI ha (show zf _ 9 5 = some 48 from rfl)
  have q := k y hy hT
  exact zg_getr X ha rfl (by decide) rfl (by decide) rfl zl_in9 zk_X10_125 hdg (by rw [hy]; exact q)
set_option maxRecDepth 20000 in
theorem zk_X5_105 : Cond.fieldLink RX5 105 (TX9 5).1 (TX9 5).2.1 (TX9 5).2.2.1 ∈ zWL ∨ ∃ host, Cond.fieldLinkNest RX5 105 (TX9 5).1 (TX9 5).2.1 (TX9 5).2.2.1 host ∈ tables_1 := Or.inr ⟨"SourceDispute", (zt2 (List.mem_of_getElem? (i := 129) rfl))⟩
theorem fg_X5_105 (X : zX d L kd A nL p s m args c cc RX5) (hI : zI κ b L kd σ) (ha : zT L kd a 9) (hdg : decode cc pc = .ok (.getfield 105, 3)) (k : ∀ y : Nat, σ.2.2 a 5 = some y → zT L kd y 48 → zGc rs cs sl d L kd A nL p l e R s m args below meth c Q σ (pc + 3) lv (.ref y :: st)) : zGc rs cs sl d L kd A nL p l e R s m args below meth c Q σ pc lv (.ref a :: st) := by
  obtain ⟨y, hy, hT⟩ := zi_ref hI ha (show zf _ 9 5 = some 48 from rfl)
  have q := k y hy hT
  exact zg_getr X ha rfl (by decide) rfl (by decide) rfl zl_in9 zk_X5_105 hdg (by rw [hy]; exact q)
set_option maxRecDepth 20000 in
theorem zkl_X9_28 : Cond.fieldLink RX9 28 (TX9 6).1 (TX9 6).2.1 (TX9 6).2.2.1 ∈ zWL := zw2 (List.mem_of_getElem? (i := 130) rfl) rfl
set_option maxRecDepth 20000 in
theorem zk_X9_28 : Cond.fieldLink RX9 28 (TX9 6).1 (TX9 6).2.1 (TX9 6).2.2.1 ∈ zWL ∨ ∃ host, Cond.fieldLinkNest RX9 28 (TX9 6).1 (TX9 6).2.1 (TX9 6).2.2.1 host ∈ tables_1 := Or.inl (zw2 (List.mem_of_getElem? (i := 130) rfl) rfl)
theorem fg_X9_28 (X : zX d L kd A nL p s m args c cc RX9) (hI : zI κ b L kd σ) (ha : zT L kd a 9) (hdg : decode cc pc = .ok (.getfield 28, 3)) (k : ∀ y : Nat, σ.2.2 a 6 = some y → zT L kd y 49 → zGc rs cs sl d L kd A nL p l e R s m args below meth c Q σ (pc + 3) lv (.ref y :: st)) : zGc rs cs sl d L kd A nL p l e R s m args below meth c Q σ pc lv (.ref a :: st) := by
  obtain ⟨y, hy, hT⟩ := zi_ref hI ha (show zf _ 9 6 = some 49 from rfl)
  have q := k y hy hT
  exact zg_getr X ha rfl (by decide) rfl (by decide) rfl zl_in9 zk_X9_28 hdg (by rw [hy]; exact q)
set_option maxRecDepth 20000 in
theorem zk_X0_25 : Cond.fieldLink RX0 25 (TX9 6).1 (TX9 6).2.1 (TX9 6).2.2.1 ∈ zWL ∨ ∃ host, Cond.fieldLinkNest RX0 25 (TX9 6).1 (TX9 6).2.1 (TX9 6).2.2.1 host ∈ tables_1 := Or.inr ⟨"SourceDispute", (zt2 (List.mem_of_getElem? (i := 131) rfl))⟩
theorem fg_X0_25 (X : zX d L kd A nL p s m args c cc RX0) (hI : zI κ b L kd σ) (ha : zT L kd a 9) (hdg : decode cc pc = .ok (.getfield 25, 3)) (k : ∀ y : Nat, σ.2.2 a 6 = some y → zT L kd y 49 → zGc rs cs sl d L kd A nL p l e R s m args below meth c Q σ (pc + 3) lv (.ref y :: st)) : zGc rs cs sl d L kd A nL p l e R s m args below meth c Q σ pc lv (.ref a :: st) := by
  obtain ⟨y, hy, hT⟩ := zi_ref hI ha (show zf _ 9 6 = some 49 from rfl)
  have q := k y hy hT
  exact zg_getr X ha rfl (by decide) rfl (by decide) rfl zl_in9 zk_X0_25 hdg (by rw [hy]; exact q)
set_option maxRecDepth 20000 in
theorem zkl_X9_31 : Cond.fieldLink RX9 31 (TX9 7).1 (TX9 7).2.1 (TX9 7).2.2.1 ∈ zWL := zw2 (List.mem_of_getElem? (i := 132) rfl) rfl
set_option maxRecDepth 20000 in
theorem zk_X9_31 : Cond.fieldLink RX9 31 (TX9 7).1 (TX9 7).2.1 (TX9 7).2.2.1 ∈ zWL ∨ ∃ host, Cond.fieldLinkNest RX9 31 (TX9 7).1 (TX9 7).2.1 (TX9 7).2.2.1 host ∈ tables_1 := Or.inl (zw2 (List.mem_of_getElem? (i := 132) rfl) rfl)
theorem fg_X9_31 (X : zX d L kd A nL p s m args c cc RX9) (hI : zI κ b L kd σ) (ha : zT L kd a 9) (hdg : decode cc pc = .ok (.getfield 31, 3)) (k : ∀ y : Nat, σ.2.2 a 7 = some y → zT L kd y 50 → zGc rs cs sl d L kd A nL p l e R s m args below meth c Q σ (pc + 3) lv (.ref y :: st)) : zGc rs cs sl d L kd A nL p l e R s m args below meth c Q σ pc lv (.ref a :: st) := by
  obtain ⟨y, hy, hT⟩ := zi_ref hI ha (show zf _ 9 7 = some 50 from rfl)
  have q := k y hy hT
  exact zg_getr X ha rfl (by decide) rfl (by decide) rfl zl_in9 zk_X9_31 hdg (by rw [hy]; exact q)
set_option maxRecDepth 20000 in
theorem zk_X0_28 : Cond.fieldLink RX0 28 (TX9 7).1 (TX9 7).2.1 (TX9 7).2.2.1 ∈ zWL ∨ ∃ host, Cond.fieldLinkNest RX0 28 (TX9 7).1 (TX9 7).2.1 (TX9 7).2.2.1 host ∈ tables_1 := Or.inr ⟨"SourceDispute", (zt2 (List.mem_of_getElem? (i := 133) rfl))⟩
theorem fg_X0_28 (X : zX d L kd A nL p s m args c cc RX0) (hI : zI κ b L kd σ) (ha : zT L kd a 9) (hdg : decode cc pc = .ok (.getfield 28, 3)) (k : ∀ y : Nat, σ.2.2 a 7 = some y → zT L kd y 50 → zGc rs cs sl d L kd A nL p l e R s m args below meth c Q σ (pc + 3) lv (.ref y :: st)) : zGc rs cs sl d L kd A nL p l e R s m args below meth c Q σ pc lv (.ref a :: st) := by
  obtain ⟨y, hy, hT⟩ := zi_ref hI ha (show zf _ 9 7 = some 50 from rfl)
  have q := k y hy hT
  exact zg_getr X ha rfl (by decide) rfl (by decide) rfl zl_in9 zk_X0_28 hdg (by rw [hy]; exact q)
set_option maxRecDepth 20000 in
theorem zk_X9_44 : Cond.fieldLink RX9 44 (TX9 8).1 (TX9 8).2.1 (TX9 8).2.2.1 ∈ zWL ∨ ∃ host, Cond.fieldLinkNest RX9 44 (TX9 8).1 (TX9 8).2.1 (TX9 8).2.2.1 host ∈ tables_1 := Or.inl (zw2 (List.mem_of_getElem? (i := 134) rfl) rfl)
theorem fg_X9_44 (X : zX d L kd A nL p s m args c cc RX9) (hI : zI κ b L kd σ) (ha : zT L kd a 9) (hdg : decode cc pc = .ok (.getfield 44, 3)) (k : ∀ v : Int32, v = σ.1 a 8 → 0 ≤ v.toInt ∧ v.toInt ≤ 420 → zGc rs cs sl d L kd A nL p l e R s m args below meth c Q σ (pc + 3) lv (.int v :: st)) : zGc rs cs sl d L kd A nL p l e R s m args below meth c Q σ pc lv (.ref a :: st) := zg_geti X ha rfl (by decide) rfl (by decide) rfl zl_in9 zk_X9_44 hdg (k _ rfl (zi_get hI ha rfl))
theorem fp_X9_44 (X : zX d L kd A nL p s m args c cc RX9) {v : Int32} (hI : zI κ b L kd σ) (ha : zT L kd a 9) (h : 0 ≤ v.toInt ∧ v.toInt ≤ 420) (hdg : decode cc pc = .ok (.putfield 44, 3)) (k : ∀ σ2 : zS, σ2 = (zu σ.1 a 8 v, σ.2.1, σ.2.2) → zI κ b L kd σ2 → zGc rs cs sl d L kd A nL p l e R s m args below meth c Q σ2 (pc + 3) lv st) : zGc rs cs sl d L kd A nL p l e R s m args below meth c Q σ pc lv (.int v :: .ref a :: st) := zg_puti (ty := .int) X ha rfl (by decide) rfl (by decide) rfl rfl zl_in9 tyX9_ok nmX9 zk_X9_44 rfl (by decide +kernel) rfl rfl hdg (fun σ2 h2 => k σ2 h2 (by rw [h2]; exact zi_puti hI ha rfl h.1 h.2))
set_option maxRecDepth 20000 in
theorem zk_X0_21 : Cond.fieldLink RX0 21 (TX9 8).1 (TX9 8).2.1 (TX9 8).2.2.1 ∈ zWL ∨ ∃ host, Cond.fieldLinkNest RX0 21 (TX9 8).1 (TX9 8).2.1 (TX9 8).2.2.1 host ∈ tables_1 := Or.inr ⟨"SourceDispute", (zt2 (List.mem_of_getElem? (i := 135) rfl))⟩
theorem fg_X0_21 (X : zX d L kd A nL p s m args c cc RX0) (hI : zI κ b L kd σ) (ha : zT L kd a 9) (hdg : decode cc pc = .ok (.getfield 21, 3)) (k : ∀ v : Int32, v = σ.1 a 8 → 0 ≤ v.toInt ∧ v.toInt ≤ 420 → zGc rs cs sl d L kd A nL p l e R s m args below meth c Q σ (pc + 3) lv (.int v :: st)) : zGc rs cs sl d L kd A nL p l e R s m args below meth c Q σ pc lv (.ref a :: st) := zg_geti X ha rfl (by decide) rfl (by decide) rfl zl_in9 zk_X0_21 hdg (k _ rfl (zi_get hI ha rfl))
set_option maxRecDepth 20000 in
theorem zk_X3_137 : Cond.fieldLink RX3 137 (TX9 8).1 (TX9 8).2.1 (TX9 8).2.2.1 ∈ zWL ∨ ∃ host, Cond.fieldLinkNest RX3 137 (TX9 8).1 (TX9 8).2.1 (TX9 8).2.2.1 host ∈ tables_1 := Or.inr ⟨"SourceDispute", (zt2 (List.mem_of_getElem? (i := 136) rfl))⟩
theorem fg_X3_137 (X : zX d L kd A nL p s m args c cc RX3) (hI : zI κ b L kd σ) (ha : zT L kd a 9) (hdg : decode cc pc = .ok (.getfield 137, 3)) (k : ∀ v : Int32, v = σ.1 a 8 → 0 ≤ v.toInt ∧ v.toInt ≤ 420 → zGc rs cs sl d L kd A nL p l e R s m args below meth c Q σ (pc + 3) lv (.int v :: st)) : zGc rs cs sl d L kd A nL p l e R s m args below meth c Q σ pc lv (.ref a :: st) := zg_geti X ha rfl (by decide) rfl (by decide) rfl zl_in9 zk_X3_137 hdg (k _ rfl (zi_get hI ha rfl))
set_option maxRecDepth 20000 in
theorem zkl_X9_34 : Cond.fieldLink RX9 34 (TX9 9).1 (TX9 9).2.1 (TX9 9).2.2.1 ∈ zWL := zw2 (List.mem_of_getElem? (i := 137) rfl) rfl
set_option maxRecDepth 20000 in
theorem zk_X9_34 : Cond.fieldLink RX9 34 (TX9 9).1 (TX9 9).2.1 (TX9 9).2.2.1 ∈ zWL ∨ ∃ host, Cond.fieldLinkNest RX9 34 (TX9 9).1 (TX9 9).2.1 (TX9 9).2.2.1 host ∈ tables_1 := Or.inl (zw2 (List.mem_of_getElem? (i := 137) rfl) rfl)
theorem fg_X9_34 (X : zX d L kd A nL p s m args c cc RX9) (hI : zI κ b L kd σ) (ha : zT L kd a 9) (hdg : decode cc pc = .ok (.getfield 34, 3)) (k : ∀ y : Nat, σ.2.2 a 9 = some y → zT L kd y 51 → zGc rs cs sl d L kd A nL p l e R s m args below meth c Q σ (pc + 3) lv (.ref y :: st)) : zGc rs cs sl d L kd A nL p l e R s m args below meth c Q σ pc lv (.ref a :: st) := by
  obtain ⟨y, hy, hT⟩ := zi_ref hI ha (show zf _ 9 9 = some 51 from rfl)
  have q := k y hy hT
  exact zg_getr X ha rfl (by decide) rfl (by decide) rfl zl_in9 zk_X9_34 hdg (by rw [hy]; exact q)
set_option maxRecDepth 20000 in
theorem zk_X0_16 : Cond.fieldLink RX0 16 (TX9 9).1 (TX9 9).2.1 (TX9 9).2.2.1 ∈ zWL ∨ ∃ host, Cond.fieldLinkNest RX0 16 (TX9 9).1 (TX9 9).2.1 (TX9 9).2.2.1 host ∈ tables_1 := Or.inr ⟨"SourceDispute", (zt2 (List.mem_of_getElem? (i := 138) rfl))⟩
theorem fg_X0_16 (X : zX d L kd A nL p s m args c cc RX0) (hI : zI κ b L kd σ) (ha : zT L kd a 9) (hdg : decode cc pc = .ok (.getfield 16, 3)) (k : ∀ y : Nat, σ.2.2 a 9 = some y → zT L kd y 51 → zGc rs cs sl d L kd A nL p l e R s m args below meth c Q σ (pc + 3) lv (.ref y :: st)) : zGc rs cs sl d L kd A nL p l e R s m args below meth c Q σ pc lv (.ref a :: st) := by
  obtain ⟨y, hy, hT⟩ := zi_ref hI ha (show zf _ 9 9 = some 51 from rfl)
  have q := k y hy hT
  exact zg_getr X ha rfl (by decide) rfl (by decide) rfl zl_in9 zk_X0_16 hdg (by rw [hy]; exact q)
set_option maxRecDepth 20000 in
theorem zk_X3_152 : Cond.fieldLink RX3 152 (TX9 9).1 (TX9 9).2.1 (TX9 9).2.2.1 ∈ zWL ∨ ∃ host, Cond.fieldLinkNest RX3 152 (TX9 9).1 (TX9 9).2.1 (TX9 9).2.2.1 host ∈ tables_1 := Or.inr ⟨"SourceDispute", (zt2 (List.mem_of_getElem? (i := 139) rfl))⟩
theorem fg_X3_152 (X : zX d L kd A nL p s m args c cc RX3) (hI : zI κ b L kd σ) (ha : zT L kd a 9) (hdg : decode cc pc = .ok (.getfield 152, 3)) (k : ∀ y : Nat, σ.2.2 a 9 = some y → zT L kd y 51 → zGc rs cs sl d L kd A nL p l e R s m args below meth c Q σ (pc + 3) lv (.ref y :: st)) : zGc rs cs sl d L kd A nL p l e R s m args below meth c Q σ pc lv (.ref a :: st) := by
  obtain ⟨y, hy, hT⟩ := zi_ref hI ha (show zf _ 9 9 = some 51 from rfl)
  have q := k y hy hT
  exact zg_getr X ha rfl (by decide) rfl (by decide) rfl zl_in9 zk_X3_152 hdg (by rw [hy]; exact q)
set_option maxRecDepth 20000 in
theorem zk_X9_56 : Cond.fieldLink RX9 56 (TX9 10).1 (TX9 10).2.1 (TX9 10).2.2.1 ∈ zWL ∨ ∃ host, Cond.fieldLinkNest RX9 56 (TX9 10).1 (TX9 10).2.1 (TX9 10).2.2.1 host ∈ tables_1 := Or.inl (zw2 (List.mem_of_getElem? (i := 140) rfl) rfl)
theorem fg_X9_56 (X : zX d L kd A nL p s m args c cc RX9) (hI : zI κ b L kd σ) (ha : zT L kd a 9) (hdg : decode cc pc = .ok (.getfield 56, 3)) (k : ∀ v : Int32, v = σ.1 a 10 → (-2147483648) ≤ v.toInt ∧ v.toInt ≤ 2147483647 → zGc rs cs sl d L kd A nL p l e R s m args below meth c Q σ (pc + 3) lv (.int v :: st)) : zGc rs cs sl d L kd A nL p l e R s m args below meth c Q σ pc lv (.ref a :: st) := zg_geti X ha rfl (by decide) rfl (by decide) rfl zl_in9 zk_X9_56 hdg (k _ rfl (zi_get hI ha rfl))
theorem fp_X9_56 (X : zX d L kd A nL p s m args c cc RX9) {v : Int32} (hI : zI κ b L kd σ) (ha : zT L kd a 9) (h : (-2147483648) ≤ v.toInt ∧ v.toInt ≤ 2147483647) (hdg : decode cc pc = .ok (.putfield 56, 3)) (k : ∀ σ2 : zS, σ2 = (zu σ.1 a 10 v, σ.2.1, σ.2.2) → zI κ b L kd σ2 → zGc rs cs sl d L kd A nL p l e R s m args below meth c Q σ2 (pc + 3) lv st) : zGc rs cs sl d L kd A nL p l e R s m args below meth c Q σ pc lv (.int v :: .ref a :: st) := zg_puti (ty := .int) X ha rfl (by decide) rfl (by decide) rfl rfl zl_in9 tyX9_ok nmX9 zk_X9_56 rfl (by decide +kernel) rfl rfl hdg (fun σ2 h2 => k σ2 h2 (by rw [h2]; exact zi_puti hI ha rfl h.1 h.2))
set_option maxRecDepth 20000 in
theorem zk_X3_94 : Cond.fieldLink RX3 94 (TX9 10).1 (TX9 10).2.1 (TX9 10).2.2.1 ∈ zWL ∨ ∃ host, Cond.fieldLinkNest RX3 94 (TX9 10).1 (TX9 10).2.1 (TX9 10).2.2.1 host ∈ tables_1 := Or.inr ⟨"SourceDispute", (zt2 (List.mem_of_getElem? (i := 141) rfl))⟩
theorem fp_X3_94 (X : zX d L kd A nL p s m args c cc RX3) {v : Int32} (hI : zI κ b L kd σ) (ha : zT L kd a 9) (h : (-2147483648) ≤ v.toInt ∧ v.toInt ≤ 2147483647) (hdg : decode cc pc = .ok (.putfield 94, 3)) (k : ∀ σ2 : zS, σ2 = (zu σ.1 a 10 v, σ.2.1, σ.2.2) → zI κ b L kd σ2 → zGc rs cs sl d L kd A nL p l e R s m args below meth c Q σ2 (pc + 3) lv st) : zGc rs cs sl d L kd A nL p l e R s m args below meth c Q σ pc lv (.int v :: .ref a :: st) := zg_puti (ty := .int) X ha rfl (by decide) rfl (by decide) rfl rfl zl_in9 tyX9_ok nmX9 zk_X3_94 rfl (by decide +kernel) rfl rfl hdg (fun σ2 h2 => k σ2 h2 (by rw [h2]; exact zi_puti hI ha rfl h.1 h.2))
set_option maxRecDepth 20000 in
theorem zk_X9_59 : Cond.fieldLink RX9 59 (TX9 11).1 (TX9 11).2.1 (TX9 11).2.2.1 ∈ zWL ∨ ∃ host, Cond.fieldLinkNest RX9 59 (TX9 11).1 (TX9 11).2.1 (TX9 11).2.2.1 host ∈ tables_1 := Or.inl (zw2 (List.mem_of_getElem? (i := 142) rfl) rfl)
theorem fp_X9_59 (X : zX d L kd A nL p s m args c cc RX9) {v : Int32} (hI : zI κ b L kd σ) (ha : zT L kd a 9) (h : (-2147483648) ≤ v.toInt ∧ v.toInt ≤ 2147483647) (hdg : decode cc pc = .ok (.putfield 59, 3)) (k : ∀ σ2 : zS, σ2 = (zu σ.1 a 11 v, σ.2.1, σ.2.2) → zI κ b L kd σ2 → zGc rs cs sl d L kd A nL p l e R s m args below meth c Q σ2 (pc + 3) lv st) : zGc rs cs sl d L kd A nL p l e R s m args below meth c Q σ pc lv (.int v :: .ref a :: st) := zg_puti (ty := .int) X ha rfl (by decide) rfl (by decide) rfl rfl zl_in9 tyX9_ok nmX9 zk_X9_59 rfl (by decide +kernel) rfl rfl hdg (fun σ2 h2 => k σ2 h2 (by rw [h2]; exact zi_puti hI ha rfl h.1 h.2))
set_option maxRecDepth 20000 in
theorem zk_X3_97 : Cond.fieldLink RX3 97 (TX9 11).1 (TX9 11).2.1 (TX9 11).2.2.1 ∈ zWL ∨ ∃ host, Cond.fieldLinkNest RX3 97 (TX9 11).1 (TX9 11).2.1 (TX9 11).2.2.1 host ∈ tables_1 := Or.inr ⟨"SourceDispute", (zt2 (List.mem_of_getElem? (i := 143) rfl))⟩
theorem fp_X3_97 (X : zX d L kd A nL p s m args c cc RX3) {v : Int32} (hI : zI κ b L kd σ) (ha : zT L kd a 9) (h : (-2147483648) ≤ v.toInt ∧ v.toInt ≤ 2147483647) (hdg : decode cc pc = .ok (.putfield 97, 3)) (k : ∀ σ2 : zS, σ2 = (zu σ.1 a 11 v, σ.2.1, σ.2.2) → zI κ b L kd σ2 → zGc rs cs sl d L kd A nL p l e R s m args below meth c Q σ2 (pc + 3) lv st) : zGc rs cs sl d L kd A nL p l e R s m args below meth c Q σ pc lv (.int v :: .ref a :: st) := zg_puti (ty := .int) X ha rfl (by decide) rfl (by decide) rfl rfl zl_in9 tyX9_ok nmX9 zk_X3_97 rfl (by decide +kernel) rfl rfl hdg (fun σ2 h2 => k σ2 h2 (by rw [h2]; exact zi_puti hI ha rfl h.1 h.2))
set_option maxRecDepth 20000 in
theorem zk_X5_162 : Cond.fieldLink RX5 162 (TX9 11).1 (TX9 11).2.1 (TX9 11).2.2.1 ∈ zWL ∨ ∃ host, Cond.fieldLinkNest RX5 162 (TX9 11).1 (TX9 11).2.1 (TX9 11).2.2.1 host ∈ tables_1 := Or.inr ⟨"SourceDispute", (zt2 (List.mem_of_getElem? (i := 144) rfl))⟩
theorem fg_X5_162 (X : zX d L kd A nL p s m args c cc RX5) (hI : zI κ b L kd σ) (ha : zT L kd a 9) (hdg : decode cc pc = .ok (.getfield 162, 3)) (k : ∀ v : Int32, v = σ.1 a 11 → (-2147483648) ≤ v.toInt ∧ v.toInt ≤ 2147483647 → zGc rs cs sl d L kd A nL p l e R s m args below meth c Q σ (pc + 3) lv (.int v :: st)) : zGc rs cs sl d L kd A nL p l e R s m args below meth c Q σ pc lv (.ref a :: st) := zg_geti X ha rfl (by decide) rfl (by decide) rfl zl_in9 zk_X5_162 hdg (k _ rfl (zi_get hI ha rfl))
set_option maxRecDepth 20000 in
theorem zk_X9_62 : Cond.fieldLink RX9 62 (TX9 12).1 (TX9 12).2.1 (TX9 12).2.2.1 ∈ zWL ∨ ∃ host, Cond.fieldLinkNest RX9 62 (TX9 12).1 (TX9 12).2.1 (TX9 12).2.2.1 host ∈ tables_1 := Or.inl (zw2 (List.mem_of_getElem? (i := 145) rfl) rfl)
theorem fp_X9_62 (X : zX d L kd A nL p s m args c cc RX9) {v : Int32} (hI : zI κ b L kd σ) (ha : zT L kd a 9) (h : (-2147483648) ≤ v.toInt ∧ v.toInt ≤ 2147483647) (hdg : decode cc pc = .ok (.putfield 62, 3)) (k : ∀ σ2 : zS, σ2 = (zu σ.1 a 12 v, σ.2.1, σ.2.2) → zI κ b L kd σ2 → zGc rs cs sl d L kd A nL p l e R s m args below meth c Q σ2 (pc + 3) lv st) : zGc rs cs sl d L kd A nL p l e R s m args below meth c Q σ pc lv (.int v :: .ref a :: st) := zg_puti (ty := .int) X ha rfl (by decide) rfl (by decide) rfl rfl zl_in9 tyX9_ok nmX9 zk_X9_62 rfl (by decide +kernel) rfl rfl hdg (fun σ2 h2 => k σ2 h2 (by rw [h2]; exact zi_puti hI ha rfl h.1 h.2))
set_option maxRecDepth 20000 in
theorem zk_X3_100 : Cond.fieldLink RX3 100 (TX9 12).1 (TX9 12).2.1 (TX9 12).2.2.1 ∈ zWL ∨ ∃ host, Cond.fieldLinkNest RX3 100 (TX9 12).1 (TX9 12).2.1 (TX9 12).2.2.1 host ∈ tables_1 := Or.inr ⟨"SourceDispute", (zt2 (List.mem_of_getElem? (i := 146) rfl))⟩
theorem fp_X3_100 (X : zX d L kd A nL p s m args c cc RX3) {v : Int32} (hI : zI κ b L kd σ) (ha : zT L kd a 9) (h : (-2147483648) ≤ v.toInt ∧ v.toInt ≤ 2147483647) (hdg : decode cc pc = .ok (.putfield 100, 3)) (k : ∀ σ2 : zS, σ2 = (zu σ.1 a 12 v, σ.2.1, σ.2.2) → zI κ b L kd σ2 → zGc rs cs sl d L kd A nL p l e R s m args below meth c Q σ2 (pc + 3) lv st) : zGc rs cs sl d L kd A nL p l e R s m args below meth c Q σ pc lv (.int v :: .ref a :: st) := zg_puti (ty := .int) X ha rfl (by decide) rfl (by decide) rfl rfl zl_in9 tyX9_ok nmX9 zk_X3_100 rfl (by decide +kernel) rfl rfl hdg (fun σ2 h2 => k σ2 h2 (by rw [h2]; exact zi_puti hI ha rfl h.1 h.2))
set_option maxRecDepth 20000 in
theorem zk_X5_146 : Cond.fieldLink RX5 146 (TX9 12).1 (TX9 12).2.1 (TX9 12).2.2.1 ∈ zWL ∨ ∃ host, Cond.fieldLinkNest RX5 146 (TX9 12).1 (TX9 12).2.1 (TX9 12).2.2.1 host ∈ tables_1 := Or.inr ⟨"SourceDispute", (zt2 (List.mem_of_getElem? (i := 147) rfl))⟩
theorem fg_X5_146 (X : zX d L kd A nL p s m args c cc RX5) (hI : zI κ b L kd σ) (ha : zT L kd a 9) (hdg : decode cc pc = .ok (.getfield 146, 3)) (k : ∀ v : Int32, v = σ.1 a 12 → (-2147483648) ≤ v.toInt ∧ v.toInt ≤ 2147483647 → zGc rs cs sl d L kd A nL p l e R s m args below meth c Q σ (pc + 3) lv (.int v :: st)) : zGc rs cs sl d L kd A nL p l e R s m args below meth c Q σ pc lv (.ref a :: st) := zg_geti X ha rfl (by decide) rfl (by decide) rfl zl_in9 zk_X5_146 hdg (k _ rfl (zi_get hI ha rfl))
set_option maxRecDepth 20000 in
theorem zk_X9_65 : Cond.fieldLink RX9 65 (TX9 13).1 (TX9 13).2.1 (TX9 13).2.2.1 ∈ zWL ∨ ∃ host, Cond.fieldLinkNest RX9 65 (TX9 13).1 (TX9 13).2.1 (TX9 13).2.2.1 host ∈ tables_1 := Or.inl (zw2 (List.mem_of_getElem? (i := 148) rfl) rfl)
theorem fp_X9_65 (X : zX d L kd A nL p s m args c cc RX9) {v : Int32} (hI : zI κ b L kd σ) (ha : zT L kd a 9) (h : (-2147483648) ≤ v.toInt ∧ v.toInt ≤ 2147483647) (hdg : decode cc pc = .ok (.putfield 65, 3)) (k : ∀ σ2 : zS, σ2 = (zu σ.1 a 13 v, σ.2.1, σ.2.2) → zI κ b L kd σ2 → zGc rs cs sl d L kd A nL p l e R s m args below meth c Q σ2 (pc + 3) lv st) : zGc rs cs sl d L kd A nL p l e R s m args below meth c Q σ pc lv (.int v :: .ref a :: st) := zg_puti (ty := .int) X ha rfl (by decide) rfl (by decide) rfl rfl zl_in9 tyX9_ok nmX9 zk_X9_65 rfl (by decide +kernel) rfl rfl hdg (fun σ2 h2 => k σ2 h2 (by rw [h2]; exact zi_puti hI ha rfl h.1 h.2))
set_option maxRecDepth 20000 in
theorem zk_X3_103 : Cond.fieldLink RX3 103 (TX9 13).1 (TX9 13).2.1 (TX9 13).2.2.1 ∈ zWL ∨ ∃ host, Cond.fieldLinkNest RX3 103 (TX9 13).1 (TX9 13).2.1 (TX9 13).2.2.1 host ∈ tables_1 := Or.inr ⟨"SourceDispute", (zt2 (List.mem_of_getElem? (i := 149) rfl))⟩
theorem fp_X3_103 (X : zX d L kd A nL p s m args c cc RX3) {v : Int32} (hI : zI κ b L kd σ) (ha : zT L kd a 9) (h : (-2147483648) ≤ v.toInt ∧ v.toInt ≤ 2147483647) (hdg : decode cc pc = .ok (.putfield 103, 3)) (k : ∀ σ2 : zS, σ2 = (zu σ.1 a 13 v, σ.2.1, σ.2.2) → zI κ b L kd σ2 → zGc rs cs sl d L kd A nL p l e R s m args below meth c Q σ2 (pc + 3) lv st) : zGc rs cs sl d L kd A nL p l e R s m args below meth c Q σ pc lv (.int v :: .ref a :: st) := zg_puti (ty := .int) X ha rfl (by decide) rfl (by decide) rfl rfl zl_in9 tyX9_ok nmX9 zk_X3_103 rfl (by decide +kernel) rfl rfl hdg (fun σ2 h2 => k σ2 h2 (by rw [h2]; exact zi_puti hI ha rfl h.1 h.2))
set_option maxRecDepth 20000 in
theorem zk_X10_203 : Cond.fieldLink RX10 203 (TX9 13).1 (TX9 13).2.1 (TX9 13).2.2.1 ∈ zWL ∨ ∃ host, Cond.fieldLinkNest RX10 203 (TX9 13).1 (TX9 13).2.1 (TX9 13).2.2.1 host ∈ tables_1 := Or.inr ⟨"SourceDispute", (zt2 (List.mem_of_getElem? (i := 150) rfl))⟩
theorem fg_X10_203 (X : zX d L kd A nL p s m args c cc RX10) (hI : zI κ b L kd σ) (ha : zT L kd a 9) (hdg : decode cc pc = .ok (.getfield 203, 3)) (k : ∀ v : Int32, v = σ.1 a 13 → (-2147483648) ≤ v.toInt ∧ v.toInt ≤ 2147483647 → zGc rs cs sl d L kd A nL p l e R s m args below meth c Q σ (pc + 3) lv (.int v :: st)) : zGc rs cs sl d L kd A nL p l e R s m args below meth c Q σ pc lv (.ref a :: st) := zg_geti X ha rfl (by decide) rfl (by decide) rfl zl_in9 zk_X10_203 hdg (k _ rfl (zi_get hI ha rfl))
set_option maxRecDepth 20000 in
theorem zkl_X10_10 : Cond.fieldLink RX10 10 (TX10 0).1 (TX10 0).2.1 (TX10 0).2.2.1 ∈ zWL := zw2 (List.mem_of_getElem? (i := 180) rfl) rfl
set_option maxRecDepth 20000 in
theorem zk_X10_10 : Cond.fieldLink RX10 10 (TX10 0).1 (TX10 0).2.1 (TX10 0).2.2.1 ∈ zWL ∨ ∃ host, Cond.fieldLinkNest RX10 10 (TX10 0).1 (TX10 0).2.1 (TX10 0).2.2.1 host ∈ tables_1 := Or.inl (zw2 (List.mem_of_getElem? (i := 180) rfl) rfl)
theorem fg_X10_10 (X : zX d L kd A nL p s m args c cc RX10) (hI : zI κ b L kd σ) (ha : zT L kd a 10) (hdg : decode cc pc = .ok (.getfield 10, 3)) (k : ∀ y : Nat, σ.2.2 a 0 = some y → zT L kd y 7 → zGc rs cs sl d L kd A nL p l e R s m args below meth c Q σ (pc + 3) lv (.ref y :: st)) : zGc rs cs sl d L kd A nL p l e R s m args below meth c Q σ pc lv (.ref a :: st) := by
  obtain ⟨y, hy, hT⟩ := zi_ref hI ha (show zf _ 10 0 = some 7 from rfl)
  have q := k y hy hT
  exact zg_getr X ha rfl (by decide) rfl (by decide) rfl zl_in10 zk_X10_10 hdg (by rw [hy]; exact q)
set_option maxRecDepth 20000 in
theorem zkl_X10_19 : Cond.fieldLink RX10 19 (TX10 1).1 (TX10 1).2.1 (TX10 1).2.2.1 ∈ zWL := zw2 (List.mem_of_getElem? (i := 181) rfl) rfl
set_option maxRecDepth 20000 in
theorem zk_X10_19 : Cond.fieldLink RX10 19 (TX10 1).1 (TX10 1).2.1 (TX10 1).2.2.1 ∈ zWL ∨ ∃ host, Cond.fieldLinkNest RX10 19 (TX10 1).1 (TX10 1).2.1 (TX10 1).2.2.1 host ∈ tables_1 := Or.inl (zw2 (List.mem_of_getElem? (i := 181) rfl) rfl)
theorem fg_X10_19 (X : zX d L kd A nL p s m args c cc RX10) (hI : zI κ b L kd σ) (ha : zT L kd a 10) (hdg : decode cc pc = .ok (.getfield 19, 3)) (k : ∀ y : Nat, σ.2.2 a 1 = some y → zT L kd y 3 → zGc rs cs sl d L kd A nL p l e R s m args below meth c Q σ (pc + 3) lv (.ref y :: st)) : zGc rs cs sl d L kd A nL p l e R s m args below meth c Q σ pc lv (.ref a :: st) := by
  obtain ⟨y, hy, hT⟩ := zi_ref hI ha (show zf _ 10 1 = some 3 from rfl)
  have q := k y hy hT
  exact zg_getr X ha rfl (by decide) rfl (by decide) rfl zl_in10 zk_X10_19 hdg (by rw [hy]; exact q)
set_option maxRecDepth 20000 in
theorem zkl_X10_26 : Cond.fieldLink RX10 26 (TX10 2).1 (TX10 2).2.1 (TX10 2).2.2.1 ∈ zWL := zw2 (List.mem_of_getElem? (i := 182) rfl) rfl
set_option maxRecDepth 20000 in
theorem zk_X10_26 : Cond.fieldLink RX10 26 (TX10 2).1 (TX10 2).2.1 (TX10 2).2.2.1 ∈ zWL ∨ ∃ host, Cond.fieldLinkNest RX10 26 (TX10 2).1 (TX10 2).2.1 (TX10 2).2.2.1 host ∈ tables_1 := Or.inl (zw2 (List.mem_of_getElem? (i := 182) rfl) rfl)
theorem fg_X10_26 (X : zX d L kd A nL p s m args c cc RX10) (hI : zI κ b L kd σ) (ha : zT L kd a 10) (hdg : decode cc pc = .ok (.getfield 26, 3)) (k : ∀ y : Nat, σ.2.2 a 2 = some y → zT L kd y 5 → zGc rs cs sl d L kd A nL p l e R s m args below meth c Q σ (pc + 3) lv (.ref y :: st)) : zGc rs cs sl d L kd A nL p l e R s m args below meth c Q σ pc lv (.ref a :: st) := by
  obtain ⟨y, hy, hT⟩ := zi_ref hI ha (show zf _ 10 2 = some 5 from rfl)
  have q := k y hy hT
  exact zg_getr X ha rfl (by decide) rfl (by decide) rfl zl_in10 zk_X10_26 hdg (by rw [hy]; exact q)
set_option maxRecDepth 20000 in
theorem zkl_X10_34 : Cond.fieldLink RX10 34 (TX10 3).1 (TX10 3).2.1 (TX10 3).2.2.1 ∈ zWL := zw2 (List.mem_of_getElem? (i := 183) rfl) rfl
set_option maxRecDepth 20000 in
theorem zk_X10_34 : Cond.fieldLink RX10 34 (TX10 3).1 (TX10 3).2.1 (TX10 3).2.2.1 ∈ zWL ∨ ∃ host, Cond.fieldLinkNest RX10 34 (TX10 3).1 (TX10 3).2.1 (TX10 3).2.2.1 host ∈ tables_1 := Or.inl (zw2 (List.mem_of_getElem? (i := 183) rfl) rfl)
theorem fg_X10_34 (X : zX d L kd A nL p s m args c cc RX10) (hI : zI κ b L kd σ) (ha : zT L kd a 10) (hdg : decode cc pc = .ok (.getfield 34, 3)) (k : ∀ y : Nat, σ.2.2 a 3 = some y → zT L kd y 6 → zGc rs cs sl d L kd A nL p l e R s m args below meth c Q σ (pc + 3) lv (.ref y :: st)) : zGc rs cs sl d L kd A nL p l e R s m args below meth c Q σ pc lv (.ref a :: st) := by
  obtain ⟨y, hy, hT⟩ := zi_ref hI ha (show zf _ 10 3 = some 6 from rfl)
  have q := k y hy hT
  exact zg_getr X ha rfl (by decide) rfl (by decide) rfl zl_in10 zk_X10_34 hdg (by rw [hy]; exact q)
set_option maxRecDepth 20000 in
theorem zkl_X10_38 : Cond.fieldLink RX10 38 (TX10 4).1 (TX10 4).2.1 (TX10 4).2.2.1 ∈ zWL := zw2 (List.mem_of_getElem? (i := 184) rfl) rfl
set_option maxRecDepth 20000 in
theorem zk_X10_38 : Cond.fieldLink RX10 38 (TX10 4).1 (TX10 4).2.1 (TX10 4).2.2.1 ∈ zWL ∨ ∃ host, Cond.fieldLinkNest RX10 38 (TX10 4).1 (TX10 4).2.1 (TX10 4).2.2.1 host ∈ tables_1 := Or.inl (zw2 (List.mem_of_getElem? (i := 184) rfl) rfl)
theorem fg_X10_38 (X : zX d L kd A nL p s m args c cc RX10) (hI : zI κ b L kd σ) (ha : zT L kd a 10) (hdg : decode cc pc = .ok (.getfield 38, 3)) (k : ∀ y : Nat, σ.2.2 a 4 = some y → zT L kd y 4 → zGc rs cs sl d L kd A nL p l e R s m args below meth c Q σ (pc + 3) lv (.ref y :: st)) : zGc rs cs sl d L kd A nL p l e R s m args below meth c Q σ pc lv (.ref a :: st) := by
  obtain ⟨y, hy, hT⟩ := zi_ref hI ha (show zf _ 10 4 = some 4 from rfl)
  have q := k y hy hT
  exact zg_getr X ha rfl (by decide) rfl (by decide) rfl zl_in10 zk_X10_38 hdg (by rw [hy]; exact q)
set_option maxRecDepth 20000 in
theorem zkl_X10_45 : Cond.fieldLink RX10 45 (TX10 5).1 (TX10 5).2.1 (TX10 5).2.2.1 ∈ zWL := zw2 (List.mem_of_getElem? (i := 185) rfl) rfl
set_option maxRecDepth 20000 in
theorem zk_X10_45 : Cond.fieldLink RX10 45 (TX10 5).1 (TX10 5).2.1 (TX10 5).2.2.1 ∈ zWL ∨ ∃ host, Cond.fieldLinkNest RX10 45 (TX10 5).1 (TX10 5).2.1 (TX10 5).2.2.1 host ∈ tables_1 := Or.inl (zw2 (List.mem_of_getElem? (i := 185) rfl) rfl)
theorem fg_X10_45 (X : zX d L kd A nL p s m args c cc RX10) (hI : zI κ b L kd σ) (ha : zT L kd a 10) (hdg : decode cc pc = .ok (.getfield 45, 3)) (k : ∀ y : Nat, σ.2.2 a 5 = some y → zT L kd y 2 → zGc rs cs sl d L kd A nL p l e R s m args below meth c Q σ (pc + 3) lv (.ref y :: st)) : zGc rs cs sl d L kd A nL p l e R s m args below meth c Q σ pc lv (.ref a :: st) := by
  obtain ⟨y, hy, hT⟩ := zi_ref hI ha (show zf _ 10 5 = some 2 from rfl)
  have q := k y hy hT
  exact zg_getr X ha rfl (by decide) rfl (by decide) rfl zl_in10 zk_X10_45 hdg (by rw [hy]; exact q)
set_option maxRecDepth 20000 in
theorem zkl_X10_52 : Cond.fieldLink RX10 52 (TX10 6).1 (TX10 6).2.1 (TX10 6).2.2.1 ∈ zWL := zw2 (List.mem_of_getElem? (i := 186) rfl) rfl
set_option maxRecDepth 20000 in
theorem zk_X10_52 : Cond.fieldLink RX10 52 (TX10 6).1 (TX10 6).2.1 (TX10 6).2.2.1 ∈ zWL ∨ ∃ host, Cond.fieldLinkNest RX10 52 (TX10 6).1 (TX10 6).2.1 (TX10 6).2.2.1 host ∈ tables_1 := Or.inl (zw2 (List.mem_of_getElem? (i := 186) rfl) rfl)
theorem fg_X10_52 (X : zX d L kd A nL p s m args c cc RX10) (hI : zI κ b L kd σ) (ha : zT L kd a 10) (hdg : decode cc pc = .ok (.getfield 52, 3)) (k : ∀ y : Nat, σ.2.2 a 6 = some y → zT L kd y 1 → zGc rs cs sl d L kd A nL p l e R s m args below meth c Q σ (pc + 3) lv (.ref y :: st)) : zGc rs cs sl d L kd A nL p l e R s m args below meth c Q σ pc lv (.ref a :: st) := by
  obtain ⟨y, hy, hT⟩ := zi_ref hI ha (show zf _ 10 6 = some 1 from rfl)
  have q := k y hy hT
  exact zg_getr X ha rfl (by decide) rfl (by decide) rfl zl_in10 zk_X10_52 hdg (by rw [hy]; exact q)
set_option maxRecDepth 20000 in
theorem zkl_X10_56 : Cond.fieldLink RX10 56 (TX10 7).1 (TX10 7).2.1 (TX10 7).2.2.1 ∈ zWL := zw2 (List.mem_of_getElem? (i := 187) rfl) rfl
set_option maxRecDepth 20000 in
theorem zk_X10_56 : Cond.fieldLink RX10 56 (TX10 7).1 (TX10 7).2.1 (TX10 7).2.2.1 ∈ zWL ∨ ∃ host, Cond.fieldLinkNest RX10 56 (TX10 7).1 (TX10 7).2.1 (TX10 7).2.2.1 host ∈ tables_1 := Or.inl (zw2 (List.mem_of_getElem? (i := 187) rfl) rfl)
theorem fg_X10_56 (X : zX d L kd A nL p s m args c cc RX10) (hI : zI κ b L kd σ) (ha : zT L kd a 10) (hdg : decode cc pc = .ok (.getfield 56, 3)) (k : ∀ y : Nat, σ.2.2 a 7 = some y → zT L kd y 1 → zGc rs cs sl d L kd A nL p l e R s m args below meth c Q σ (pc + 3) lv (.ref y :: st)) : zGc rs cs sl d L kd A nL p l e R s m args below meth c Q σ pc lv (.ref a :: st) := by
  obtain ⟨y, hy, hT⟩ := zi_ref hI ha (show zf _ 10 7 = some 1 from rfl)
  have q := k y hy hT
  exact zg_getr X ha rfl (by decide) rfl (by decide) rfl zl_in10 zk_X10_56 hdg (by rw [hy]; exact q)
set_option maxRecDepth 20000 in
theorem zkl_X10_59 : Cond.fieldLink RX10 59 (TX10 8).1 (TX10 8).2.1 (TX10 8).2.2.1 ∈ zWL := zw2 (List.mem_of_getElem? (i := 188) rfl) rfl
set_option maxRecDepth 20000 in
theorem zk_X10_59 : Cond.fieldLink RX10 59 (TX10 8).1 (TX10 8).2.1 (TX10 8).2.2.1 ∈ zWL ∨ ∃ host, Cond.fieldLinkNest RX10 59 (TX10 8).1 (TX10 8).2.1 (TX10 8).2.2.1 host ∈ tables_1 := Or.inl (zw2 (List.mem_of_getElem? (i := 188) rfl) rfl)
theorem fg_X10_59 (X : zX d L kd A nL p s m args c cc RX10) (hI : zI κ b L kd σ) (ha : zT L kd a 10) (hdg : decode cc pc = .ok (.getfield 59, 3)) (k : ∀ y : Nat, σ.2.2 a 8 = some y → zT L kd y 52 → zGc rs cs sl d L kd A nL p l e R s m args below meth c Q σ (pc + 3) lv (.ref y :: st)) : zGc rs cs sl d L kd A nL p l e R s m args below meth c Q σ pc lv (.ref a :: st) := by
  obtain ⟨y, hy, hT⟩ := zi_ref hI ha (show zf _ 10 8 = some 52 from rfl)
  have q := k y hy hT
  exact zg_getr X ha rfl (by decide) rfl (by decide) rfl zl_in10 zk_X10_59 hdg (by rw [hy]; exact q)
set_option maxRecDepth 20000 in
theorem zkl_X10_63 : Cond.fieldLink RX10 63 (TX10 9).1 (TX10 9).2.1 (TX10 9).2.2.1 ∈ zWL := zw2 (List.mem_of_getElem? (i := 189) rfl) rfl
set_option maxRecDepth 20000 in
theorem zk_X10_63 : Cond.fieldLink RX10 63 (TX10 9).1 (TX10 9).2.1 (TX10 9).2.2.1 ∈ zWL ∨ ∃ host, Cond.fieldLinkNest RX10 63 (TX10 9).1 (TX10 9).2.1 (TX10 9).2.2.1 host ∈ tables_1 := Or.inl (zw2 (List.mem_of_getElem? (i := 189) rfl) rfl)
theorem fg_X10_63 (X : zX d L kd A nL p s m args c cc RX10) (hI : zI κ b L kd σ) (ha : zT L kd a 10) (hdg : decode cc pc = .ok (.getfield 63, 3)) (k : ∀ y : Nat, σ.2.2 a 9 = some y → zT L kd y 53 → zGc rs cs sl d L kd A nL p l e R s m args below meth c Q σ (pc + 3) lv (.ref y :: st)) : zGc rs cs sl d L kd A nL p l e R s m args below meth c Q σ pc lv (.ref a :: st) := by
  obtain ⟨y, hy, hT⟩ := zi_ref hI ha (show zf _ 10 9 = some 53 from rfl)
  have q := k y hy hT
  exact zg_getr X ha rfl (by decide) rfl (by decide) rfl zl_in10 zk_X10_63 hdg (by rw [hy]; exact q)
set_option maxRecDepth 20000 in
theorem zkl_X10_70 : Cond.fieldLink RX10 70 (TX10 10).1 (TX10 10).2.1 (TX10 10).2.2.1 ∈ zWL := zw2 (List.mem_of_getElem? (i := 190) rfl) rfl
set_option maxRecDepth 20000 in
theorem zk_X10_70 : Cond.fieldLink RX10 70 (TX10 10).1 (TX10 10).2.1 (TX10 10).2.2.1 ∈ zWL ∨ ∃ host, Cond.fieldLinkNest RX10 70 (TX10 10).1 (TX10 10).2.1 (TX10 10).2.2.1 host ∈ tables_1 := Or.inl (zw2 (List.mem_of_getElem? (i := 190) rfl) rfl)
theorem fg_X10_70 (X : zX d L kd A nL p s m args c cc RX10) (hI : zI κ b L kd σ) (ha : zT L kd a 10) (hdg : decode cc pc = .ok (.getfield 70, 3)) (k : ∀ y : Nat, σ.2.2 a 10 = some y → zT L kd y 9 → zGc rs cs sl d L kd A nL p l e R s m args below meth c Q σ (pc + 3) lv (.ref y :: st)) : zGc rs cs sl d L kd A nL p l e R s m args below meth c Q σ pc lv (.ref a :: st) := by
  obtain ⟨y, hy, hT⟩ := zi_ref hI ha (show zf _ 10 10 = some 9 from rfl)
  have q := k y hy hT
  exact zg_getr X ha rfl (by decide) rfl (by decide) rfl zl_in10 zk_X10_70 hdg (by rw [hy]; exact q)
theorem fp_X10_70 (X : zX d L kd A nL p s m args c cc RX10) {y : Nat} (hI : zI κ b L kd σ) (ha : zT L kd a 10) (hy : zT L kd y 9) (hdg : decode cc pc = .ok (.putfield 70, 3)) (k : ∀ σ2 : zS, σ2 = (σ.1, σ.2.1, zu σ.2.2 a 10 (some y)) → zI κ b L kd σ2 → zGc rs cs sl d L kd A nL p l e R s m args below meth c Q σ2 (pc + 3) lv st) : zGc rs cs sl d L kd A nL p l e R s m args below meth c Q σ pc lv (.ref y :: .ref a :: st) := zg_putr (v := some y) (ty := .object RX9) X ha rfl (by decide) rfl (by decide) rfl rfl zl_in10 tyX10_ok nmX10 zk_X10_70 rfl (by decide +kernel) rfl rfl hdg (fun σ2 h2 => k σ2 h2 (by rw [h2]; exact zi_putr hI ha rfl hy))
set_option maxRecDepth 20000 in
theorem zkl_X10_74 : Cond.fieldLink RX10 74 (TX10 11).1 (TX10 11).2.1 (TX10 11).2.2.1 ∈ zWL := zw2 (List.mem_of_getElem? (i := 191) rfl) rfl
set_option maxRecDepth 20000 in
theorem zk_X10_74 : Cond.fieldLink RX10 74 (TX10 11).1 (TX10 11).2.1 (TX10 11).2.2.1 ∈ zWL ∨ ∃ host, Cond.fieldLinkNest RX10 74 (TX10 11).1 (TX10 11).2.1 (TX10 11).2.2.1 host ∈ tables_1 := Or.inl (zw2 (List.mem_of_getElem? (i := 191) rfl) rfl)
theorem fg_X10_74 (X : zX d L kd A nL p s m args c cc RX10) (hI : zI κ b L kd σ) (ha : zT L kd a 10) (hdg : decode cc pc = .ok (.getfield 74, 3)) (k : ∀ y : Nat, σ.2.2 a 11 = some y → zT L kd y 9 → zGc rs cs sl d L kd A nL p l e R s m args below meth c Q σ (pc + 3) lv (.ref y :: st)) : zGc rs cs sl d L kd A nL p l e R s m args below meth c Q σ pc lv (.ref a :: st) := by
  obtain ⟨y, hy, hT⟩ := zi_ref hI ha (show zf _ 10 11 = some 9 from rfl)
  have q := k y hy hT
  exact zg_getr X ha rfl (by decide) rfl (by decide) rfl zl_in10 zk_X10_74 hdg (by rw [hy]; exact q)
theorem fp_X10_74 (X : zX d L kd A nL p s m args c cc RX10) {y : Nat} (hI : zI κ b L kd σ) (ha : zT L kd a 10) (hy : zT L kd y 9) (hdg : decode cc pc = .ok (.putfield 74, 3)) (k : ∀ σ2 : zS, σ2 = (σ.1, σ.2.1, zu σ.2.2 a 11 (some y)) → zI κ b L kd σ2 → zGc rs cs sl d L kd A nL p l e R s m args below meth c Q σ2 (pc + 3) lv st) : zGc rs cs sl d L kd A nL p l e R s m args below meth c Q σ pc lv (.ref y :: .ref a :: st) := zg_putr (v := some y) (ty := .object RX9) X ha rfl (by decide) rfl (by decide) rfl rfl zl_in10 tyX10_ok nmX10 zk_X10_74 rfl (by decide +kernel) rfl rfl hdg (fun σ2 h2 => k σ2 h2 (by rw [h2]; exact zi_putr hI ha rfl hy))
set_option maxRecDepth 20000 in
theorem zkl_X10_77 : Cond.fieldLink RX10 77 (TX10 12).1 (TX10 12).2.1 (TX10 12).2.2.1 ∈ zWL := zw2 (List.mem_of_getElem? (i := 192) rfl) rfl
set_option maxRecDepth 20000 in
theorem zk_X10_77 : Cond.fieldLink RX10 77 (TX10 12).1 (TX10 12).2.1 (TX10 12).2.2.1 ∈ zWL ∨ ∃ host, Cond.fieldLinkNest RX10 77 (TX10 12).1 (TX10 12).2.1 (TX10 12).2.2.1 host ∈ tables_1 := Or.inl (zw2 (List.mem_of_getElem? (i := 192) rfl) rfl)
theorem fg_X10_77 (X : zX d L kd A nL p s m args c cc RX10) (hI : zI κ b L kd σ) (ha : zT L kd a 10) (hdg : decode cc pc = .ok (.getfield 77, 3)) (k : ∀ v : Int32, v = σ.1 a 12 → (-2147483648) ≤ v.toInt ∧ v.toInt ≤ 2147483647 → zGc rs cs sl d L kd A nL p l e R s m args below meth c Q σ (pc + 3) lv (.int v :: st)) : zGc rs cs sl d L kd A nL p l e R s m args below meth c Q σ pc lv (.ref a :: st) := zg_geti X ha rfl (by decide) rfl (by decide) rfl zl_in10 zk_X10_77 hdg (k _ rfl (zi_get hI ha rfl))
theorem fp_X10_77 (X : zX d L kd A nL p s m args c cc RX10) {v : Int32} (hI : zI κ b L kd σ) (ha : zT L kd a 10) (h : (-2147483648) ≤ v.toInt ∧ v.toInt ≤ 2147483647) (hdg : decode cc pc = .ok (.putfield 77, 3)) (k : ∀ σ2 : zS, σ2 = (zu σ.1 a 12 v, σ.2.1, σ.2.2) → zI κ b L kd σ2 → zGc rs cs sl d L kd A nL p l e R s m args below meth c Q σ2 (pc + 3) lv st) : zGc rs cs sl d L kd A nL p l e R s m args below meth c Q σ pc lv (.int v :: .ref a :: st) := zg_puti (ty := .int) X ha rfl (by decide) rfl (by decide) rfl rfl zl_in10 tyX10_ok nmX10 zk_X10_77 rfl (by decide +kernel) rfl rfl hdg (fun σ2 h2 => k σ2 h2 (by rw [h2]; exact zi_puti hI ha rfl h.1 h.2))
set_option maxRecDepth 20000 in
theorem zkl_X10_81 : Cond.fieldLink RX10 81 (TX10 13).1 (TX10 13).2.1 (TX10 13).2.2.1 ∈ zWL := zw2 (List.mem_of_getElem? (i := 193) rfl) rfl
set_option maxRecDepth 20000 in
theorem zk_X10_81 : Cond.fieldLink RX10 81 (TX10 13).1 (TX10 13).2.1 (TX10 13).2.2.1 ∈ zWL ∨ ∃ host, Cond.fieldLinkNest RX10 81 (TX10 13).1 (TX10 13).2.1 (TX10 13).2.2.1 host ∈ tables_1 := Or.inl (zw2 (List.mem_of_getElem? (i := 193) rfl) rfl)
theorem fg_X10_81 (X : zX d L kd A nL p s m args c cc RX10) (hI : zI κ b L kd σ) (ha : zT L kd a 10) (hdg : decode cc pc = .ok (.getfield 81, 3)) (k : ∀ v : Int32, v = σ.1 a 13 → (-2147483648) ≤ v.toInt ∧ v.toInt ≤ 2147483647 → zGc rs cs sl d L kd A nL p l e R s m args below meth c Q σ (pc + 3) lv (.int v :: st)) : zGc rs cs sl d L kd A nL p l e R s m args below meth c Q σ pc lv (.ref a :: st) := zg_geti X ha rfl (by decide) rfl (by decide) rfl zl_in10 zk_X10_81 hdg (k _ rfl (zi_get hI ha rfl))
theorem fp_X10_81 (X : zX d L kd A nL p s m args c cc RX10) {v : Int32} (hI : zI κ b L kd σ) (ha : zT L kd a 10) (h : (-2147483648) ≤ v.toInt ∧ v.toInt ≤ 2147483647) (hdg : decode cc pc = .ok (.putfield 81, 3)) (k : ∀ σ2 : zS, σ2 = (zu σ.1 a 13 v, σ.2.1, σ.2.2) → zI κ b L kd σ2 → zGc rs cs sl d L kd A nL p l e R s m args below meth c Q σ2 (pc + 3) lv st) : zGc rs cs sl d L kd A nL p l e R s m args below meth c Q σ pc lv (.int v :: .ref a :: st) := zg_puti (ty := .int) X ha rfl (by decide) rfl (by decide) rfl rfl zl_in10 tyX10_ok nmX10 zk_X10_81 rfl (by decide +kernel) rfl rfl hdg (fun σ2 h2 => k σ2 h2 (by rw [h2]; exact zi_puti hI ha rfl h.1 h.2))
set_option maxRecDepth 20000 in
theorem zkl_X11_13 : Cond.fieldLink RX11 13 (TX11 1).1 (TX11 1).2.1 (TX11 1).2.2.1 ∈ zWL := zw5 (List.mem_of_getElem? (i := 175) rfl) rfl
set_option maxRecDepth 20000 in
theorem zk_X11_13 : Cond.fieldLink RX11 13 (TX11 1).1 (TX11 1).2.1 (TX11 1).2.2.1 ∈ zWL ∨ ∃ host, Cond.fieldLinkNest RX11 13 (TX11 1).1 (TX11 1).2.1 (TX11 1).2.2.1 host ∈ tables_1 := Or.inl (zw5 (List.mem_of_getElem? (i := 175) rfl) rfl)
set_option maxRecDepth 20000 in
theorem zk_X11_169 : Cond.fieldLink RX11 169 (TX11 2).1 (TX11 2).2.1 (TX11 2).2.2.1 ∈ zWL ∨ ∃ host, Cond.fieldLinkNest RX11 169 (TX11 2).1 (TX11 2).2.1 (TX11 2).2.2.1 host ∈ tables_1 := Or.inl (zw5 (List.mem_of_getElem? (i := 176) rfl) rfl)
set_option maxRecDepth 20000 in
theorem zkl_X11_17 : Cond.fieldLink RX11 17 (TX11 3).1 (TX11 3).2.1 (TX11 3).2.2.1 ∈ zWL := zw5 (List.mem_of_getElem? (i := 177) rfl) rfl
set_option maxRecDepth 20000 in
theorem zk_X11_17 : Cond.fieldLink RX11 17 (TX11 3).1 (TX11 3).2.1 (TX11 3).2.2.1 ∈ zWL ∨ ∃ host, Cond.fieldLinkNest RX11 17 (TX11 3).1 (TX11 3).2.1 (TX11 3).2.2.1 host ∈ tables_1 := Or.inl (zw5 (List.mem_of_getElem? (i := 177) rfl) rfl)
set_option maxRecDepth 20000 in
theorem zk_X11_175 : Cond.fieldLink RX11 175 (TX11 4).1 (TX11 4).2.1 (TX11 4).2.2.1 ∈ zWL ∨ ∃ host, Cond.fieldLinkNest RX11 175 (TX11 4).1 (TX11 4).2.1 (TX11 4).2.2.1 host ∈ tables_1 := Or.inl (zw5 (List.mem_of_getElem? (i := 178) rfl) rfl)
set_option maxRecDepth 20000 in
theorem zkl_X11_20 : Cond.fieldLink RX11 20 (TX11 5).1 (TX11 5).2.1 (TX11 5).2.2.1 ∈ zWL := zw5 (List.mem_of_getElem? (i := 179) rfl) rfl
set_option maxRecDepth 20000 in
theorem zk_X11_20 : Cond.fieldLink RX11 20 (TX11 5).1 (TX11 5).2.1 (TX11 5).2.2.1 ∈ zWL ∨ ∃ host, Cond.fieldLinkNest RX11 20 (TX11 5).1 (TX11 5).2.1 (TX11 5).2.2.1 host ∈ tables_1 := Or.inl (zw5 (List.mem_of_getElem? (i := 179) rfl) rfl)
set_option maxRecDepth 20000 in
theorem zkl_X11_24 : Cond.fieldLink RX11 24 (TX11 6).1 (TX11 6).2.1 (TX11 6).2.2.1 ∈ zWL := zw5 (List.mem_of_getElem? (i := 180) rfl) rfl
set_option maxRecDepth 20000 in
theorem zk_X11_24 : Cond.fieldLink RX11 24 (TX11 6).1 (TX11 6).2.1 (TX11 6).2.2.1 ∈ zWL ∨ ∃ host, Cond.fieldLinkNest RX11 24 (TX11 6).1 (TX11 6).2.1 (TX11 6).2.2.1 host ∈ tables_1 := Or.inl (zw5 (List.mem_of_getElem? (i := 180) rfl) rfl)
set_option maxRecDepth 20000 in
theorem zkl_X11_27 : Cond.fieldLink RX11 27 (TX11 7).1 (TX11 7).2.1 (TX11 7).2.2.1 ∈ zWL := zw5 (List.mem_of_getElem? (i := 181) rfl) rfl
set_option maxRecDepth 20000 in
theorem zk_X11_27 : Cond.fieldLink RX11 27 (TX11 7).1 (TX11 7).2.1 (TX11 7).2.2.1 ∈ zWL ∨ ∃ host, Cond.fieldLinkNest RX11 27 (TX11 7).1 (TX11 7).2.1 (TX11 7).2.2.1 host ∈ tables_1 := Or.inl (zw5 (List.mem_of_getElem? (i := 181) rfl) rfl)
set_option maxRecDepth 20000 in
theorem zkl_X11_30 : Cond.fieldLink RX11 30 (TX11 8).1 (TX11 8).2.1 (TX11 8).2.2.1 ∈ zWL := zw5 (List.mem_of_getElem? (i := 182) rfl) rfl
set_option maxRecDepth 20000 in
theorem zk_X11_30 : Cond.fieldLink RX11 30 (TX11 8).1 (TX11 8).2.1 (TX11 8).2.2.1 ∈ zWL ∨ ∃ host, Cond.fieldLinkNest RX11 30 (TX11 8).1 (TX11 8).2.1 (TX11 8).2.2.1 host ∈ tables_1 := Or.inl (zw5 (List.mem_of_getElem? (i := 182) rfl) rfl)
set_option maxRecDepth 20000 in
theorem zkl_X11_34 : Cond.fieldLink RX11 34 (TX11 9).1 (TX11 9).2.1 (TX11 9).2.2.1 ∈ zWL := zw5 (List.mem_of_getElem? (i := 183) rfl) rfl
set_option maxRecDepth 20000 in
theorem zk_X11_34 : Cond.fieldLink RX11 34 (TX11 9).1 (TX11 9).2.1 (TX11 9).2.2.1 ∈ zWL ∨ ∃ host, Cond.fieldLinkNest RX11 34 (TX11 9).1 (TX11 9).2.1 (TX11 9).2.2.1 host ∈ tables_1 := Or.inl (zw5 (List.mem_of_getElem? (i := 183) rfl) rfl)
set_option maxRecDepth 20000 in
theorem zk_X11_184 : Cond.fieldLink RX11 184 (TX11 10).1 (TX11 10).2.1 (TX11 10).2.2.1 ∈ zWL ∨ ∃ host, Cond.fieldLinkNest RX11 184 (TX11 10).1 (TX11 10).2.1 (TX11 10).2.2.1 host ∈ tables_1 := Or.inl (zw5 (List.mem_of_getElem? (i := 184) rfl) rfl)
set_option maxRecDepth 20000 in
theorem zk_X11_209 : Cond.fieldLink RX11 209 (TX11 11).1 (TX11 11).2.1 (TX11 11).2.2.1 ∈ zWL ∨ ∃ host, Cond.fieldLinkNest RX11 209 (TX11 11).1 (TX11 11).2.1 (TX11 11).2.2.1 host ∈ tables_1 := Or.inl (zw5 (List.mem_of_getElem? (i := 185) rfl) rfl)
set_option maxRecDepth 20000 in
theorem zk_X11_233 : Cond.fieldLink RX11 233 (TX11 12).1 (TX11 12).2.1 (TX11 12).2.2.1 ∈ zWL ∨ ∃ host, Cond.fieldLinkNest RX11 233 (TX11 12).1 (TX11 12).2.1 (TX11 12).2.2.1 host ∈ tables_1 := Or.inl (zw5 (List.mem_of_getElem? (i := 186) rfl) rfl)
set_option maxRecDepth 20000 in
theorem zk_X11_206 : Cond.fieldLink RX11 206 (TX11 13).1 (TX11 13).2.1 (TX11 13).2.2.1 ∈ zWL ∨ ∃ host, Cond.fieldLinkNest RX11 206 (TX11 13).1 (TX11 13).2.1 (TX11 13).2.2.1 host ∈ tables_1 := Or.inl (zw5 (List.mem_of_getElem? (i := 187) rfl) rfl)
set_option maxRecDepth 20000 in
theorem zk_X11_212 : Cond.fieldLink RX11 212 (TX11 14).1 (TX11 14).2.1 (TX11 14).2.2.1 ∈ zWL ∨ ∃ host, Cond.fieldLinkNest RX11 212 (TX11 14).1 (TX11 14).2.1 (TX11 14).2.2.1 host ∈ tables_1 := Or.inl (zw5 (List.mem_of_getElem? (i := 188) rfl) rfl)
set_option maxRecDepth 20000 in
theorem zk_X11_215 : Cond.fieldLink RX11 215 (TX11 15).1 (TX11 15).2.1 (TX11 15).2.2.1 ∈ zWL ∨ ∃ host, Cond.fieldLinkNest RX11 215 (TX11 15).1 (TX11 15).2.1 (TX11 15).2.2.1 host ∈ tables_1 := Or.inl (zw5 (List.mem_of_getElem? (i := 189) rfl) rfl)
set_option maxRecDepth 20000 in
theorem zk_X11_218 : Cond.fieldLink RX11 218 (TX11 16).1 (TX11 16).2.1 (TX11 16).2.2.1 ∈ zWL ∨ ∃ host, Cond.fieldLinkNest RX11 218 (TX11 16).1 (TX11 16).2.1 (TX11 16).2.2.1 host ∈ tables_1 := Or.inl (zw5 (List.mem_of_getElem? (i := 190) rfl) rfl)
set_option maxRecDepth 20000 in
theorem zkl_X11_37 : Cond.fieldLink RX11 37 (TX11 17).1 (TX11 17).2.1 (TX11 17).2.2.1 ∈ zWL := zw5 (List.mem_of_getElem? (i := 191) rfl) rfl
set_option maxRecDepth 20000 in
theorem zk_X11_37 : Cond.fieldLink RX11 37 (TX11 17).1 (TX11 17).2.1 (TX11 17).2.2.1 ∈ zWL ∨ ∃ host, Cond.fieldLinkNest RX11 37 (TX11 17).1 (TX11 17).2.1 (TX11 17).2.2.1 host ∈ tables_1 := Or.inl (zw5 (List.mem_of_getElem? (i := 191) rfl) rfl)
set_option maxRecDepth 20000 in
theorem zk_X11_236 : Cond.fieldLink RX11 236 (TX11 18).1 (TX11 18).2.1 (TX11 18).2.2.1 ∈ zWL ∨ ∃ host, Cond.fieldLinkNest RX11 236 (TX11 18).1 (TX11 18).2.1 (TX11 18).2.2.1 host ∈ tables_1 := Or.inl (zw5 (List.mem_of_getElem? (i := 192) rfl) rfl)
set_option maxRecDepth 20000 in
theorem zk_X11_239 : Cond.fieldLink RX11 239 (TX11 19).1 (TX11 19).2.1 (TX11 19).2.2.1 ∈ zWL ∨ ∃ host, Cond.fieldLinkNest RX11 239 (TX11 19).1 (TX11 19).2.1 (TX11 19).2.2.1 host ∈ tables_1 := Or.inl (zw5 (List.mem_of_getElem? (i := 193) rfl) rfl)
set_option maxRecDepth 20000 in
theorem zkl_X11_40 : Cond.fieldLink RX11 40 (TX11 20).1 (TX11 20).2.1 (TX11 20).2.2.1 ∈ zWL := zw5 (List.mem_of_getElem? (i := 194) rfl) rfl
set_option maxRecDepth 20000 in
theorem zk_X11_40 : Cond.fieldLink RX11 40 (TX11 20).1 (TX11 20).2.1 (TX11 20).2.2.1 ∈ zWL ∨ ∃ host, Cond.fieldLinkNest RX11 40 (TX11 20).1 (TX11 20).2.1 (TX11 20).2.2.1 host ∈ tables_1 := Or.inl (zw5 (List.mem_of_getElem? (i := 194) rfl) rfl)
set_option maxRecDepth 20000 in
theorem zkl_X11_43 : Cond.fieldLink RX11 43 (TX11 21).1 (TX11 21).2.1 (TX11 21).2.2.1 ∈ zWL := zw5 (List.mem_of_getElem? (i := 195) rfl) rfl
set_option maxRecDepth 20000 in
theorem zk_X11_43 : Cond.fieldLink RX11 43 (TX11 21).1 (TX11 21).2.1 (TX11 21).2.2.1 ∈ zWL ∨ ∃ host, Cond.fieldLinkNest RX11 43 (TX11 21).1 (TX11 21).2.1 (TX11 21).2.2.1 host ∈ tables_1 := Or.inl (zw5 (List.mem_of_getElem? (i := 195) rfl) rfl)
set_option maxRecDepth 20000 in
theorem zkl_X11_46 : Cond.fieldLink RX11 46 (TX11 22).1 (TX11 22).2.1 (TX11 22).2.2.1 ∈ zWL := zw5 (List.mem_of_getElem? (i := 196) rfl) rfl
set_option maxRecDepth 20000 in
theorem zk_X11_46 : Cond.fieldLink RX11 46 (TX11 22).1 (TX11 22).2.1 (TX11 22).2.2.1 ∈ zWL ∨ ∃ host, Cond.fieldLinkNest RX11 46 (TX11 22).1 (TX11 22).2.1 (TX11 22).2.2.1 host ∈ tables_1 := Or.inl (zw5 (List.mem_of_getElem? (i := 196) rfl) rfl)
set_option maxRecDepth 20000 in
theorem zkl_X11_49 : Cond.fieldLink RX11 49 (TX11 23).1 (TX11 23).2.1 (TX11 23).2.2.1 ∈ zWL := zw5 (List.mem_of_getElem? (i := 197) rfl) rfl
set_option maxRecDepth 20000 in
theorem zk_X11_49 : Cond.fieldLink RX11 49 (TX11 23).1 (TX11 23).2.1 (TX11 23).2.2.1 ∈ zWL ∨ ∃ host, Cond.fieldLinkNest RX11 49 (TX11 23).1 (TX11 23).2.1 (TX11 23).2.2.1 host ∈ tables_1 := Or.inl (zw5 (List.mem_of_getElem? (i := 197) rfl) rfl)
set_option maxRecDepth 20000 in
theorem zkl_X11_52 : Cond.fieldLink RX11 52 (TX11 24).1 (TX11 24).2.1 (TX11 24).2.2.1 ∈ zWL := zw5 (List.mem_of_getElem? (i := 198) rfl) rfl
set_option maxRecDepth 20000 in
theorem zk_X11_52 : Cond.fieldLink RX11 52 (TX11 24).1 (TX11 24).2.1 (TX11 24).2.2.1 ∈ zWL ∨ ∃ host, Cond.fieldLinkNest RX11 52 (TX11 24).1 (TX11 24).2.1 (TX11 24).2.2.1 host ∈ tables_1 := Or.inl (zw5 (List.mem_of_getElem? (i := 198) rfl) rfl)
set_option maxRecDepth 20000 in
theorem zkl_X11_55 : Cond.fieldLink RX11 55 (TX11 25).1 (TX11 25).2.1 (TX11 25).2.2.1 ∈ zWL := zw5 (List.mem_of_getElem? (i := 199) rfl) rfl
set_option maxRecDepth 20000 in
theorem zk_X11_55 : Cond.fieldLink RX11 55 (TX11 25).1 (TX11 25).2.1 (TX11 25).2.2.1 ∈ zWL ∨ ∃ host, Cond.fieldLinkNest RX11 55 (TX11 25).1 (TX11 25).2.1 (TX11 25).2.2.1 host ∈ tables_1 := Or.inl (zw5 (List.mem_of_getElem? (i := 199) rfl) rfl)
set_option maxRecDepth 20000 in
theorem zkl_X11_58 : Cond.fieldLink RX11 58 (TX11 26).1 (TX11 26).2.1 (TX11 26).2.2.1 ∈ zWL := zw5 (List.mem_of_getElem? (i := 200) rfl) rfl
set_option maxRecDepth 20000 in
theorem zk_X11_58 : Cond.fieldLink RX11 58 (TX11 26).1 (TX11 26).2.1 (TX11 26).2.2.1 ∈ zWL ∨ ∃ host, Cond.fieldLinkNest RX11 58 (TX11 26).1 (TX11 26).2.1 (TX11 26).2.2.1 host ∈ tables_1 := Or.inl (zw5 (List.mem_of_getElem? (i := 200) rfl) rfl)
set_option maxRecDepth 20000 in
theorem zkl_X11_61 : Cond.fieldLink RX11 61 (TX11 27).1 (TX11 27).2.1 (TX11 27).2.2.1 ∈ zWL := zw5 (List.mem_of_getElem? (i := 201) rfl) rfl
set_option maxRecDepth 20000 in
theorem zk_X11_61 : Cond.fieldLink RX11 61 (TX11 27).1 (TX11 27).2.1 (TX11 27).2.2.1 ∈ zWL ∨ ∃ host, Cond.fieldLinkNest RX11 61 (TX11 27).1 (TX11 27).2.1 (TX11 27).2.2.1 host ∈ tables_1 := Or.inl (zw5 (List.mem_of_getElem? (i := 201) rfl) rfl)
set_option maxRecDepth 20000 in
theorem zkl_X11_64 : Cond.fieldLink RX11 64 (TX11 28).1 (TX11 28).2.1 (TX11 28).2.2.1 ∈ zWL := zw5 (List.mem_of_getElem? (i := 202) rfl) rfl
set_option maxRecDepth 20000 in
theorem zk_X11_64 : Cond.fieldLink RX11 64 (TX11 28).1 (TX11 28).2.1 (TX11 28).2.2.1 ∈ zWL ∨ ∃ host, Cond.fieldLinkNest RX11 64 (TX11 28).1 (TX11 28).2.1 (TX11 28).2.2.1 host ∈ tables_1 := Or.inl (zw5 (List.mem_of_getElem? (i := 202) rfl) rfl)
set_option maxRecDepth 20000 in
theorem zkl_X11_67 : Cond.fieldLink RX11 67 (TX11 29).1 (TX11 29).2.1 (TX11 29).2.2.1 ∈ zWL := zw5 (List.mem_of_getElem? (i := 203) rfl) rfl
set_option maxRecDepth 20000 in
theorem zk_X11_67 : Cond.fieldLink RX11 67 (TX11 29).1 (TX11 29).2.1 (TX11 29).2.2.1 ∈ zWL ∨ ∃ host, Cond.fieldLinkNest RX11 67 (TX11 29).1 (TX11 29).2.1 (TX11 29).2.2.1 host ∈ tables_1 := Or.inl (zw5 (List.mem_of_getElem? (i := 203) rfl) rfl)
set_option maxRecDepth 20000 in
theorem zkl_X11_70 : Cond.fieldLink RX11 70 (TX11 30).1 (TX11 30).2.1 (TX11 30).2.2.1 ∈ zWL := zw5 (List.mem_of_getElem? (i := 204) rfl) rfl
set_option maxRecDepth 20000 in
theorem zk_X11_70 : Cond.fieldLink RX11 70 (TX11 30).1 (TX11 30).2.1 (TX11 30).2.2.1 ∈ zWL ∨ ∃ host, Cond.fieldLinkNest RX11 70 (TX11 30).1 (TX11 30).2.1 (TX11 30).2.2.1 host ∈ tables_1 := Or.inl (zw5 (List.mem_of_getElem? (i := 204) rfl) rfl)
set_option maxRecDepth 20000 in
theorem zkl_X11_73 : Cond.fieldLink RX11 73 (TX11 31).1 (TX11 31).2.1 (TX11 31).2.2.1 ∈ zWL := zw5 (List.mem_of_getElem? (i := 205) rfl) rfl
set_option maxRecDepth 20000 in
theorem zk_X11_73 : Cond.fieldLink RX11 73 (TX11 31).1 (TX11 31).2.1 (TX11 31).2.2.1 ∈ zWL ∨ ∃ host, Cond.fieldLinkNest RX11 73 (TX11 31).1 (TX11 31).2.1 (TX11 31).2.2.1 host ∈ tables_1 := Or.inl (zw5 (List.mem_of_getElem? (i := 205) rfl) rfl)
set_option maxRecDepth 20000 in
theorem zk_X11_242 : Cond.fieldLink RX11 242 (TX11 32).1 (TX11 32).2.1 (TX11 32).2.2.1 ∈ zWL ∨ ∃ host, Cond.fieldLinkNest RX11 242 (TX11 32).1 (TX11 32).2.1 (TX11 32).2.2.1 host ∈ tables_1 := Or.inl (zw5 (List.mem_of_getElem? (i := 206) rfl) rfl)
set_option maxRecDepth 20000 in
theorem zkl_X11_76 : Cond.fieldLink RX11 76 (TX11 33).1 (TX11 33).2.1 (TX11 33).2.2.1 ∈ zWL := zw5 (List.mem_of_getElem? (i := 207) rfl) rfl
set_option maxRecDepth 20000 in
theorem zk_X11_76 : Cond.fieldLink RX11 76 (TX11 33).1 (TX11 33).2.1 (TX11 33).2.2.1 ∈ zWL ∨ ∃ host, Cond.fieldLinkNest RX11 76 (TX11 33).1 (TX11 33).2.1 (TX11 33).2.2.1 host ∈ tables_1 := Or.inl (zw5 (List.mem_of_getElem? (i := 207) rfl) rfl)
set_option maxRecDepth 20000 in
theorem zkl_X11_80 : Cond.fieldLink RX11 80 (TX11 34).1 (TX11 34).2.1 (TX11 34).2.2.1 ∈ zWL := zw5 (List.mem_of_getElem? (i := 208) rfl) rfl
set_option maxRecDepth 20000 in
theorem zk_X11_80 : Cond.fieldLink RX11 80 (TX11 34).1 (TX11 34).2.1 (TX11 34).2.2.1 ∈ zWL ∨ ∃ host, Cond.fieldLinkNest RX11 80 (TX11 34).1 (TX11 34).2.1 (TX11 34).2.2.1 host ∈ tables_1 := Or.inl (zw5 (List.mem_of_getElem? (i := 208) rfl) rfl)
set_option maxRecDepth 20000 in
theorem zkl_X11_83 : Cond.fieldLink RX11 83 (TX11 35).1 (TX11 35).2.1 (TX11 35).2.2.1 ∈ zWL := zw5 (List.mem_of_getElem? (i := 209) rfl) rfl
set_option maxRecDepth 20000 in
theorem zk_X11_83 : Cond.fieldLink RX11 83 (TX11 35).1 (TX11 35).2.1 (TX11 35).2.2.1 ∈ zWL ∨ ∃ host, Cond.fieldLinkNest RX11 83 (TX11 35).1 (TX11 35).2.1 (TX11 35).2.2.1 host ∈ tables_1 := Or.inl (zw5 (List.mem_of_getElem? (i := 209) rfl) rfl)
set_option maxRecDepth 20000 in
theorem zkl_X11_86 : Cond.fieldLink RX11 86 (TX11 36).1 (TX11 36).2.1 (TX11 36).2.2.1 ∈ zWL := zw5 (List.mem_of_getElem? (i := 210) rfl) rfl
set_option maxRecDepth 20000 in
theorem zk_X11_86 : Cond.fieldLink RX11 86 (TX11 36).1 (TX11 36).2.1 (TX11 36).2.2.1 ∈ zWL ∨ ∃ host, Cond.fieldLinkNest RX11 86 (TX11 36).1 (TX11 36).2.1 (TX11 36).2.2.1 host ∈ tables_1 := Or.inl (zw5 (List.mem_of_getElem? (i := 210) rfl) rfl)
set_option maxRecDepth 20000 in
theorem zkl_X11_89 : Cond.fieldLink RX11 89 (TX11 37).1 (TX11 37).2.1 (TX11 37).2.2.1 ∈ zWL := zw5 (List.mem_of_getElem? (i := 211) rfl) rfl
set_option maxRecDepth 20000 in
theorem zk_X11_89 : Cond.fieldLink RX11 89 (TX11 37).1 (TX11 37).2.1 (TX11 37).2.2.1 ∈ zWL ∨ ∃ host, Cond.fieldLinkNest RX11 89 (TX11 37).1 (TX11 37).2.1 (TX11 37).2.2.1 host ∈ tables_1 := Or.inl (zw5 (List.mem_of_getElem? (i := 211) rfl) rfl)
set_option maxRecDepth 20000 in
theorem zk_X11_245 : Cond.fieldLink RX11 245 (TX11 38).1 (TX11 38).2.1 (TX11 38).2.2.1 ∈ zWL ∨ ∃ host, Cond.fieldLinkNest RX11 245 (TX11 38).1 (TX11 38).2.1 (TX11 38).2.2.1 host ∈ tables_1 := Or.inl (zw5 (List.mem_of_getElem? (i := 212) rfl) rfl)
set_option maxRecDepth 20000 in
theorem zkl_X11_92 : Cond.fieldLink RX11 92 (TX11 39).1 (TX11 39).2.1 (TX11 39).2.2.1 ∈ zWL := zw5 (List.mem_of_getElem? (i := 213) rfl) rfl
set_option maxRecDepth 20000 in
theorem zk_X11_92 : Cond.fieldLink RX11 92 (TX11 39).1 (TX11 39).2.1 (TX11 39).2.2.1 ∈ zWL ∨ ∃ host, Cond.fieldLinkNest RX11 92 (TX11 39).1 (TX11 39).2.1 (TX11 39).2.2.1 host ∈ tables_1 := Or.inl (zw5 (List.mem_of_getElem? (i := 213) rfl) rfl)
set_option maxRecDepth 20000 in
theorem zkl_X11_95 : Cond.fieldLink RX11 95 (TX11 40).1 (TX11 40).2.1 (TX11 40).2.2.1 ∈ zWL := zw5 (List.mem_of_getElem? (i := 214) rfl) rfl
set_option maxRecDepth 20000 in
theorem zk_X11_95 : Cond.fieldLink RX11 95 (TX11 40).1 (TX11 40).2.1 (TX11 40).2.2.1 ∈ zWL ∨ ∃ host, Cond.fieldLinkNest RX11 95 (TX11 40).1 (TX11 40).2.1 (TX11 40).2.2.1 host ∈ tables_1 := Or.inl (zw5 (List.mem_of_getElem? (i := 214) rfl) rfl)
set_option maxRecDepth 20000 in
theorem zk_X11_248 : Cond.fieldLink RX11 248 (TX11 41).1 (TX11 41).2.1 (TX11 41).2.2.1 ∈ zWL ∨ ∃ host, Cond.fieldLinkNest RX11 248 (TX11 41).1 (TX11 41).2.1 (TX11 41).2.2.1 host ∈ tables_1 := Or.inl (zw5 (List.mem_of_getElem? (i := 215) rfl) rfl)
set_option maxRecDepth 20000 in
theorem zk_X11_252 : Cond.fieldLink RX11 252 (TX11 42).1 (TX11 42).2.1 (TX11 42).2.2.1 ∈ zWL ∨ ∃ host, Cond.fieldLinkNest RX11 252 (TX11 42).1 (TX11 42).2.1 (TX11 42).2.2.1 host ∈ tables_1 := Or.inl (zw5 (List.mem_of_getElem? (i := 216) rfl) rfl)
set_option maxRecDepth 20000 in
theorem zkl_X11_98 : Cond.fieldLink RX11 98 (TX11 43).1 (TX11 43).2.1 (TX11 43).2.2.1 ∈ zWL := zw5 (List.mem_of_getElem? (i := 217) rfl) rfl
set_option maxRecDepth 20000 in
theorem zk_X11_98 : Cond.fieldLink RX11 98 (TX11 43).1 (TX11 43).2.1 (TX11 43).2.2.1 ∈ zWL ∨ ∃ host, Cond.fieldLinkNest RX11 98 (TX11 43).1 (TX11 43).2.1 (TX11 43).2.2.1 host ∈ tables_1 := Or.inl (zw5 (List.mem_of_getElem? (i := 217) rfl) rfl)
set_option maxRecDepth 20000 in
theorem zk_X11_297 : Cond.fieldLink RX11 297 (TX11 44).1 (TX11 44).2.1 (TX11 44).2.2.1 ∈ zWL ∨ ∃ host, Cond.fieldLinkNest RX11 297 (TX11 44).1 (TX11 44).2.1 (TX11 44).2.2.1 host ∈ tables_1 := Or.inl (zw5 (List.mem_of_getElem? (i := 218) rfl) rfl)
set_option maxRecDepth 20000 in
theorem zkl_X11_101 : Cond.fieldLink RX11 101 (TX11 45).1 (TX11 45).2.1 (TX11 45).2.2.1 ∈ zWL := zw5 (List.mem_of_getElem? (i := 219) rfl) rfl
set_option maxRecDepth 20000 in
theorem zk_X11_101 : Cond.fieldLink RX11 101 (TX11 45).1 (TX11 45).2.1 (TX11 45).2.2.1 ∈ zWL ∨ ∃ host, Cond.fieldLinkNest RX11 101 (TX11 45).1 (TX11 45).2.1 (TX11 45).2.2.1 host ∈ tables_1 := Or.inl (zw5 (List.mem_of_getElem? (i := 219) rfl) rfl)
set_option maxRecDepth 20000 in
theorem zkl_X11_104 : Cond.fieldLink RX11 104 (TX11 46).1 (TX11 46).2.1 (TX11 46).2.2.1 ∈ zWL := zw5 (List.mem_of_getElem? (i := 220) rfl) rfl
set_option maxRecDepth 20000 in
theorem zk_X11_104 : Cond.fieldLink RX11 104 (TX11 46).1 (TX11 46).2.1 (TX11 46).2.2.1 ∈ zWL ∨ ∃ host, Cond.fieldLinkNest RX11 104 (TX11 46).1 (TX11 46).2.1 (TX11 46).2.2.1 host ∈ tables_1 := Or.inl (zw5 (List.mem_of_getElem? (i := 220) rfl) rfl)
set_option maxRecDepth 20000 in
theorem zk_X11_310 : Cond.fieldLink RX11 310 (TX11 47).1 (TX11 47).2.1 (TX11 47).2.2.1 ∈ zWL ∨ ∃ host, Cond.fieldLinkNest RX11 310 (TX11 47).1 (TX11 47).2.1 (TX11 47).2.2.1 host ∈ tables_1 := Or.inl (zw5 (List.mem_of_getElem? (i := 221) rfl) rfl)
set_option maxRecDepth 20000 in
theorem zkl_X11_107 : Cond.fieldLink RX11 107 (TX11 48).1 (TX11 48).2.1 (TX11 48).2.2.1 ∈ zWL := zw5 (List.mem_of_getElem? (i := 222) rfl) rfl
set_option maxRecDepth 20000 in
theorem zk_X11_107 : Cond.fieldLink RX11 107 (TX11 48).1 (TX11 48).2.1 (TX11 48).2.2.1 ∈ zWL ∨ ∃ host, Cond.fieldLinkNest RX11 107 (TX11 48).1 (TX11 48).2.1 (TX11 48).2.2.1 host ∈ tables_1 := Or.inl (zw5 (List.mem_of_getElem? (i := 222) rfl) rfl)
set_option maxRecDepth 20000 in
theorem zkl_X11_110 : Cond.fieldLink RX11 110 (TX11 49).1 (TX11 49).2.1 (TX11 49).2.2.1 ∈ zWL := zw5 (List.mem_of_getElem? (i := 223) rfl) rfl
set_option maxRecDepth 20000 in
theorem zk_X11_110 : Cond.fieldLink RX11 110 (TX11 49).1 (TX11 49).2.1 (TX11 49).2.2.1 ∈ zWL ∨ ∃ host, Cond.fieldLinkNest RX11 110 (TX11 49).1 (TX11 49).2.1 (TX11 49).2.2.1 host ∈ tables_1 := Or.inl (zw5 (List.mem_of_getElem? (i := 223) rfl) rfl)
set_option maxRecDepth 20000 in
theorem zk_X11_320 : Cond.fieldLink RX11 320 (TX11 50).1 (TX11 50).2.1 (TX11 50).2.2.1 ∈ zWL ∨ ∃ host, Cond.fieldLinkNest RX11 320 (TX11 50).1 (TX11 50).2.1 (TX11 50).2.2.1 host ∈ tables_1 := Or.inl (zw5 (List.mem_of_getElem? (i := 224) rfl) rfl)
set_option maxRecDepth 20000 in
theorem zk_X11_323 : Cond.fieldLink RX11 323 (TX11 51).1 (TX11 51).2.1 (TX11 51).2.2.1 ∈ zWL ∨ ∃ host, Cond.fieldLinkNest RX11 323 (TX11 51).1 (TX11 51).2.1 (TX11 51).2.2.1 host ∈ tables_1 := Or.inl (zw5 (List.mem_of_getElem? (i := 225) rfl) rfl)
set_option maxRecDepth 20000 in
theorem zkl_X11_113 : Cond.fieldLink RX11 113 (TX11 52).1 (TX11 52).2.1 (TX11 52).2.2.1 ∈ zWL := zw5 (List.mem_of_getElem? (i := 226) rfl) rfl
set_option maxRecDepth 20000 in
theorem zk_X11_113 : Cond.fieldLink RX11 113 (TX11 52).1 (TX11 52).2.1 (TX11 52).2.2.1 ∈ zWL ∨ ∃ host, Cond.fieldLinkNest RX11 113 (TX11 52).1 (TX11 52).2.1 (TX11 52).2.2.1 host ∈ tables_1 := Or.inl (zw5 (List.mem_of_getElem? (i := 226) rfl) rfl)
set_option maxRecDepth 20000 in
theorem zkl_X11_116 : Cond.fieldLink RX11 116 (TX11 53).1 (TX11 53).2.1 (TX11 53).2.2.1 ∈ zWL := zw5 (List.mem_of_getElem? (i := 227) rfl) rfl
set_option maxRecDepth 20000 in
theorem zk_X11_116 : Cond.fieldLink RX11 116 (TX11 53).1 (TX11 53).2.1 (TX11 53).2.2.1 ∈ zWL ∨ ∃ host, Cond.fieldLinkNest RX11 116 (TX11 53).1 (TX11 53).2.1 (TX11 53).2.2.1 host ∈ tables_1 := Or.inl (zw5 (List.mem_of_getElem? (i := 227) rfl) rfl)
set_option maxRecDepth 20000 in
theorem zkl_X11_119 : Cond.fieldLink RX11 119 (TX11 54).1 (TX11 54).2.1 (TX11 54).2.2.1 ∈ zWL := zw5 (List.mem_of_getElem? (i := 228) rfl) rfl
set_option maxRecDepth 20000 in
theorem zk_X11_119 : Cond.fieldLink RX11 119 (TX11 54).1 (TX11 54).2.1 (TX11 54).2.2.1 ∈ zWL ∨ ∃ host, Cond.fieldLinkNest RX11 119 (TX11 54).1 (TX11 54).2.1 (TX11 54).2.2.1 host ∈ tables_1 := Or.inl (zw5 (List.mem_of_getElem? (i := 228) rfl) rfl)
set_option maxRecDepth 20000 in
theorem zkl_X11_122 : Cond.fieldLink RX11 122 (TX11 55).1 (TX11 55).2.1 (TX11 55).2.2.1 ∈ zWL := zw5 (List.mem_of_getElem? (i := 229) rfl) rfl
set_option maxRecDepth 20000 in
theorem zk_X11_122 : Cond.fieldLink RX11 122 (TX11 55).1 (TX11 55).2.1 (TX11 55).2.2.1 ∈ zWL ∨ ∃ host, Cond.fieldLinkNest RX11 122 (TX11 55).1 (TX11 55).2.1 (TX11 55).2.2.1 host ∈ tables_1 := Or.inl (zw5 (List.mem_of_getElem? (i := 229) rfl) rfl)
set_option maxRecDepth 20000 in
theorem zk_X11_377 : Cond.fieldLink RX11 377 (TX11 56).1 (TX11 56).2.1 (TX11 56).2.2.1 ∈ zWL ∨ ∃ host, Cond.fieldLinkNest RX11 377 (TX11 56).1 (TX11 56).2.1 (TX11 56).2.2.1 host ∈ tables_1 := Or.inl (zw5 (List.mem_of_getElem? (i := 230) rfl) rfl)
set_option maxRecDepth 20000 in
theorem zk_X11_258 : Cond.fieldLink RX11 258 (TX11 57).1 (TX11 57).2.1 (TX11 57).2.2.1 ∈ zWL ∨ ∃ host, Cond.fieldLinkNest RX11 258 (TX11 57).1 (TX11 57).2.1 (TX11 57).2.2.1 host ∈ tables_1 := Or.inl (zw5 (List.mem_of_getElem? (i := 231) rfl) rfl)
set_option maxRecDepth 20000 in
theorem zkl_X11_125 : Cond.fieldLink RX11 125 (TX11 58).1 (TX11 58).2.1 (TX11 58).2.2.1 ∈ zWL := zw5 (List.mem_of_getElem? (i := 232) rfl) rfl
set_option maxRecDepth 20000 in
theorem zk_X11_125 : Cond.fieldLink RX11 125 (TX11 58).1 (TX11 58).2.1 (TX11 58).2.2.1 ∈ zWL ∨ ∃ host, Cond.fieldLinkNest RX11 125 (TX11 58).1 (TX11 58).2.1 (TX11 58).2.2.1 host ∈ tables_1 := Or.inl (zw5 (List.mem_of_getElem? (i := 232) rfl) rfl)
set_option maxRecDepth 20000 in
theorem zkl_X11_128 : Cond.fieldLink RX11 128 (TX11 59).1 (TX11 59).2.1 (TX11 59).2.2.1 ∈ zWL := zw5 (List.mem_of_getElem? (i := 233) rfl) rfl
set_option maxRecDepth 20000 in
theorem zk_X11_128 : Cond.fieldLink RX11 128 (TX11 59).1 (TX11 59).2.1 (TX11 59).2.2.1 ∈ zWL ∨ ∃ host, Cond.fieldLinkNest RX11 128 (TX11 59).1 (TX11 59).2.1 (TX11 59).2.2.1 host ∈ tables_1 := Or.inl (zw5 (List.mem_of_getElem? (i := 233) rfl) rfl)
set_option maxRecDepth 20000 in
theorem zkl_X11_131 : Cond.fieldLink RX11 131 (TX11 60).1 (TX11 60).2.1 (TX11 60).2.2.1 ∈ zWL := zw5 (List.mem_of_getElem? (i := 234) rfl) rfl
set_option maxRecDepth 20000 in
theorem zk_X11_131 : Cond.fieldLink RX11 131 (TX11 60).1 (TX11 60).2.1 (TX11 60).2.2.1 ∈ zWL ∨ ∃ host, Cond.fieldLinkNest RX11 131 (TX11 60).1 (TX11 60).2.1 (TX11 60).2.2.1 host ∈ tables_1 := Or.inl (zw5 (List.mem_of_getElem? (i := 234) rfl) rfl)
set_option maxRecDepth 20000 in
theorem zkl_X11_134 : Cond.fieldLink RX11 134 (TX11 61).1 (TX11 61).2.1 (TX11 61).2.2.1 ∈ zWL := zw5 (List.mem_of_getElem? (i := 235) rfl) rfl
set_option maxRecDepth 20000 in
theorem zk_X11_134 : Cond.fieldLink RX11 134 (TX11 61).1 (TX11 61).2.1 (TX11 61).2.2.1 ∈ zWL ∨ ∃ host, Cond.fieldLinkNest RX11 134 (TX11 61).1 (TX11 61).2.1 (TX11 61).2.2.1 host ∈ tables_1 := Or.inl (zw5 (List.mem_of_getElem? (i := 235) rfl) rfl)
set_option maxRecDepth 20000 in
theorem zk_X11_261 : Cond.fieldLink RX11 261 (TX11 62).1 (TX11 62).2.1 (TX11 62).2.2.1 ∈ zWL ∨ ∃ host, Cond.fieldLinkNest RX11 261 (TX11 62).1 (TX11 62).2.1 (TX11 62).2.2.1 host ∈ tables_1 := Or.inl (zw5 (List.mem_of_getElem? (i := 236) rfl) rfl)
set_option maxRecDepth 20000 in
theorem zkl_X11_137 : Cond.fieldLink RX11 137 (TX11 63).1 (TX11 63).2.1 (TX11 63).2.2.1 ∈ zWL := zw5 (List.mem_of_getElem? (i := 237) rfl) rfl
set_option maxRecDepth 20000 in
theorem zk_X11_137 : Cond.fieldLink RX11 137 (TX11 63).1 (TX11 63).2.1 (TX11 63).2.2.1 ∈ zWL ∨ ∃ host, Cond.fieldLinkNest RX11 137 (TX11 63).1 (TX11 63).2.1 (TX11 63).2.2.1 host ∈ tables_1 := Or.inl (zw5 (List.mem_of_getElem? (i := 237) rfl) rfl)
set_option maxRecDepth 20000 in
theorem zkl_X11_140 : Cond.fieldLink RX11 140 (TX11 64).1 (TX11 64).2.1 (TX11 64).2.2.1 ∈ zWL := zw5 (List.mem_of_getElem? (i := 238) rfl) rfl
set_option maxRecDepth 20000 in
theorem zk_X11_140 : Cond.fieldLink RX11 140 (TX11 64).1 (TX11 64).2.1 (TX11 64).2.2.1 ∈ zWL ∨ ∃ host, Cond.fieldLinkNest RX11 140 (TX11 64).1 (TX11 64).2.1 (TX11 64).2.2.1 host ∈ tables_1 := Or.inl (zw5 (List.mem_of_getElem? (i := 238) rfl) rfl)
set_option maxRecDepth 20000 in
theorem zkl_X11_143 : Cond.fieldLink RX11 143 (TX11 65).1 (TX11 65).2.1 (TX11 65).2.2.1 ∈ zWL := zw5 (List.mem_of_getElem? (i := 239) rfl) rfl
set_option maxRecDepth 20000 in
theorem zk_X11_143 : Cond.fieldLink RX11 143 (TX11 65).1 (TX11 65).2.1 (TX11 65).2.2.1 ∈ zWL ∨ ∃ host, Cond.fieldLinkNest RX11 143 (TX11 65).1 (TX11 65).2.1 (TX11 65).2.2.1 host ∈ tables_1 := Or.inl (zw5 (List.mem_of_getElem? (i := 239) rfl) rfl)
set_option maxRecDepth 20000 in
theorem zkl_X11_146 : Cond.fieldLink RX11 146 (TX11 66).1 (TX11 66).2.1 (TX11 66).2.2.1 ∈ zWL := zw6 (List.mem_of_getElem? (i := 0) rfl) rfl
set_option maxRecDepth 20000 in
theorem zk_X11_146 : Cond.fieldLink RX11 146 (TX11 66).1 (TX11 66).2.1 (TX11 66).2.2.1 ∈ zWL ∨ ∃ host, Cond.fieldLinkNest RX11 146 (TX11 66).1 (TX11 66).2.1 (TX11 66).2.2.1 host ∈ tables_1 := Or.inl (zw6 (List.mem_of_getElem? (i := 0) rfl) rfl)
set_option maxRecDepth 20000 in
theorem zkl_X11_149 : Cond.fieldLink RX11 149 (TX11 67).1 (TX11 67).2.1 (TX11 67).2.2.1 ∈ zWL := zw6 (List.mem_of_getElem? (i := 1) rfl) rfl
set_option maxRecDepth 20000 in
theorem zk_X11_149 : Cond.fieldLink RX11 149 (TX11 67).1 (TX11 67).2.1 (TX11 67).2.2.1 ∈ zWL ∨ ∃ host, Cond.fieldLinkNest RX11 149 (TX11 67).1 (TX11 67).2.1 (TX11 67).2.2.1 host ∈ tables_1 := Or.inl (zw6 (List.mem_of_getElem? (i := 1) rfl) rfl)
set_option maxRecDepth 20000 in
theorem zkl_X11_152 : Cond.fieldLink RX11 152 (TX11 68).1 (TX11 68).2.1 (TX11 68).2.2.1 ∈ zWL := zw6 (List.mem_of_getElem? (i := 2) rfl) rfl
set_option maxRecDepth 20000 in
theorem zk_X11_152 : Cond.fieldLink RX11 152 (TX11 68).1 (TX11 68).2.1 (TX11 68).2.2.1 ∈ zWL ∨ ∃ host, Cond.fieldLinkNest RX11 152 (TX11 68).1 (TX11 68).2.1 (TX11 68).2.2.1 host ∈ tables_1 := Or.inl (zw6 (List.mem_of_getElem? (i := 2) rfl) rfl)
theorem ag_20 {own : String} (X : zX d L kd A nL p s m args c cc own) {i : Int32} (hI : zI κ b L kd σ) (ha : zT L kd a 20) (h0 : 0 ≤ i.toInt) (h1 : i.toInt < 9) (hdg : decode cc pc = .ok (.iaload, 1)) (kk : ∀ v : Int32, v = σ.1 a i.toNatClampNeg → (-2147483648) ≤ v.toInt ∧ v.toInt ≤ 2147483647 → zGc rs cs sl d L kd A nL p l e R s m args below meth c Q σ (pc + 1) lv (.int v :: st)) : zGc rs cs sl d L kd A nL p l e R s m args below meth c Q σ pc lv (.int i :: .ref a :: st) := zg_iald X ha rfl h0 h1 hdg (kk _ rfl (zi_get hI ha rfl))
theorem as_20 {own : String} (X : zX d L kd A nL p s m args c cc own) {i x : Int32} (hI : zI κ b L kd σ) (ha : zT L kd a 20) (h0 : 0 ≤ i.toInt) (h1 : i.toInt < 9) (hdg : decode cc pc = .ok (.iastore, 1)) (kk : ∀ σ2 : zS, σ2 = (zu σ.1 a i.toNatClampNeg x, σ.2.1, σ.2.2) → zI κ b L kd σ2 → zGc rs cs sl d L kd A nL p l e R s m args below meth c Q σ2 (pc + 1) lv st) : zGc rs cs sl d L kd A nL p l e R s m args below meth c Q σ pc lv (.int x :: .int i :: .ref a :: st) := zg_iast X ha rfl h0 h1 hdg (fun σ2 h2 => kk σ2 h2 (by rw [h2]; exact zi_puti hI ha rfl (zb_rng _).1 (zb_rng _).2))
theorem ag_21 {own : String} (X : zX d L kd A nL p s m args c cc own) {i : Int32} (hI : zI κ b L kd σ) (ha : zT L kd a 21) (h0 : 0 ≤ i.toInt) (h1 : i.toInt < 32) (hdg : decode cc pc = .ok (.iaload, 1)) (kk : ∀ v : Int32, v = σ.1 a i.toNatClampNeg → (-2147483648) ≤ v.toInt ∧ v.toInt ≤ 2147483647 → zGc rs cs sl d L kd A nL p l e R s m args below meth c Q σ (pc + 1) lv (.int v :: st)) : zGc rs cs sl d L kd A nL p l e R s m args below meth c Q σ pc lv (.int i :: .ref a :: st) := zg_iald X ha rfl h0 h1 hdg (kk _ rfl (zi_get hI ha rfl))
theorem as_21 {own : String} (X : zX d L kd A nL p s m args c cc own) {i x : Int32} (hI : zI κ b L kd σ) (ha : zT L kd a 21) (h0 : 0 ≤ i.toInt) (h1 : i.toInt < 32) (hdg : decode cc pc = .ok (.iastore, 1)) (kk : ∀ σ2 : zS, σ2 = (zu σ.1 a i.toNatClampNeg x, σ.2.1, σ.2.2) → zI κ b L kd σ2 → zGc rs cs sl d L kd A nL p l e R s m args below meth c Q σ2 (pc + 1) lv st) : zGc rs cs sl d L kd A nL p l e R s m args below meth c Q σ pc lv (.int x :: .int i :: .ref a :: st) := zg_iast X ha rfl h0 h1 hdg (fun σ2 h2 => kk σ2 h2 (by rw [h2]; exact zi_puti hI ha rfl (zb_rng _).1 (zb_rng _).2))
theorem ag_22 {own : String} (X : zX d L kd A nL p s m args c cc own) {i : Int32} (hI : zI κ b L kd σ) (ha : zT L kd a 22) (h0 : 0 ≤ i.toInt) (h1 : i.toInt < 12) (hdg : decode cc pc = .ok (.iaload, 1)) (kk : ∀ v : Int32, v = σ.1 a i.toNatClampNeg → 0 ≤ v.toInt ∧ v.toInt ≤ 11 → zGc rs cs sl d L kd A nL p l e R s m args below meth c Q σ (pc + 1) lv (.int v :: st)) : zGc rs cs sl d L kd A nL p l e R s m args below meth c Q σ pc lv (.int i :: .ref a :: st) := zg_iald X ha rfl h0 h1 hdg (kk _ rfl (zi_get hI ha rfl))
theorem as_22 {own : String} (X : zX d L kd A nL p s m args c cc own) {i x : Int32} (hI : zI κ b L kd σ) (ha : zT L kd a 22) (h0 : 0 ≤ i.toInt) (h1 : i.toInt < 12) (h : 0 ≤ x.toInt ∧ x.toInt ≤ 11) (hdg : decode cc pc = .ok (.iastore, 1)) (kk : ∀ σ2 : zS, σ2 = (zu σ.1 a i.toNatClampNeg x, σ.2.1, σ.2.2) → zI κ b L kd σ2 → zGc rs cs sl d L kd A nL p l e R s m args below meth c Q σ2 (pc + 1) lv st) : zGc rs cs sl d L kd A nL p l e R s m args below meth c Q σ pc lv (.int x :: .int i :: .ref a :: st) := zg_iast X ha rfl h0 h1 hdg (fun σ2 h2 => kk σ2 h2 (by rw [h2]; exact zi_puti hI ha rfl h.1 h.2))
theorem ag_23 {own : String} (X : zX d L kd A nL p s m args c cc own) {i : Int32} (hI : zI κ b L kd σ) (ha : zT L kd a 23) (h0 : 0 ≤ i.toInt) (h1 : i.toInt < 12) (hdg : decode cc pc = .ok (.iaload, 1)) (kk : ∀ v : Int32, v = σ.1 a i.toNatClampNeg → (-2147483648) ≤ v.toInt ∧ v.toInt ≤ 2147483647 → zGc rs cs sl d L kd A nL p l e R s m args below meth c Q σ (pc + 1) lv (.int v :: st)) : zGc rs cs sl d L kd A nL p l e R s m args below meth c Q σ pc lv (.int i :: .ref a :: st) := zg_iald X ha rfl h0 h1 hdg (kk _ rfl (zi_get hI ha rfl))
theorem as_23 {own : String} (X : zX d L kd A nL p s m args c cc own) {i x : Int32} (hI : zI κ b L kd σ) (ha : zT L kd a 23) (h0 : 0 ≤ i.toInt) (h1 : i.toInt < 12) (hdg : decode cc pc = .ok (.iastore, 1)) (kk : ∀ σ2 : zS, σ2 = (zu σ.1 a i.toNatClampNeg x, σ.2.1, σ.2.2) → zI κ b L kd σ2 → zGc rs cs sl d L kd A nL p l e R s m args below meth c Q σ2 (pc + 1) lv st) : zGc rs cs sl d L kd A nL p l e R s m args below meth c Q σ pc lv (.int x :: .int i :: .ref a :: st) := zg_iast X ha rfl h0 h1 hdg (fun σ2 h2 => kk σ2 h2 (by rw [h2]; exact zi_puti hI ha rfl (zb_rng _).1 (zb_rng _).2))
theorem ag_24 {own : String} (X : zX d L kd A nL p s m args c cc own) {i : Int32} (hI : zI κ b L kd σ) (ha : zT L kd a 24) (h0 : 0 ≤ i.toInt) (h1 : i.toInt < 12) (hdg : decode cc pc = .ok (.iaload, 1)) (kk : ∀ v : Int32, v = σ.1 a i.toNatClampNeg → (-2147483648) ≤ v.toInt ∧ v.toInt ≤ 2147483647 → zGc rs cs sl d L kd A nL p l e R s m args below meth c Q σ (pc + 1) lv (.int v :: st)) : zGc rs cs sl d L kd A nL p l e R s m args below meth c Q σ pc lv (.int i :: .ref a :: st) := zg_iald X ha rfl h0 h1 hdg (kk _ rfl (zi_get hI ha rfl))
theorem as_24 {own : String} (X : zX d L kd A nL p s m args c cc own) {i x : Int32} (hI : zI κ b L kd σ) (ha : zT L kd a 24) (h0 : 0 ≤ i.toInt) (h1 : i.toInt < 12) (hdg : decode cc pc = .ok (.iastore, 1)) (kk : ∀ σ2 : zS, σ2 = (zu σ.1 a i.toNatClampNeg x, σ.2.1, σ.2.2) → zI κ b L kd σ2 → zGc rs cs sl d L kd A nL p l e R s m args below meth c Q σ2 (pc + 1) lv st) : zGc rs cs sl d L kd A nL p l e R s m args below meth c Q σ pc lv (.int x :: .int i :: .ref a :: st) := zg_iast X ha rfl h0 h1 hdg (fun σ2 h2 => kk σ2 h2 (by rw [h2]; exact zi_puti hI ha rfl (zb_rng _).1 (zb_rng _).2))
theorem ag_25 {own : String} (X : zX d L kd A nL p s m args c cc own) {i : Int32} (hI : zI κ b L kd σ) (ha : zT L kd a 25) (h0 : 0 ≤ i.toInt) (h1 : i.toInt < 20) (hdg : decode cc pc = .ok (.iaload, 1)) (kk : ∀ v : Int32, v = σ.1 a i.toNatClampNeg → 0 ≤ v.toInt ∧ v.toInt ≤ 11 → zGc rs cs sl d L kd A nL p l e R s m args below meth c Q σ (pc + 1) lv (.int v :: st)) : zGc rs cs sl d L kd A nL p l e R s m args below meth c Q σ pc lv (.int i :: .ref a :: st) := zg_iald X ha rfl h0 h1 hdg (kk _ rfl (zi_get hI ha rfl))
theorem as_25 {own : String} (X : zX d L kd A nL p s m args c cc own) {i x : Int32} (hI : zI κ b L kd σ) (ha : zT L kd a 25) (h0 : 0 ≤ i.toInt) (h1 : i.toInt < 20) (h : 0 ≤ x.toInt ∧ x.toInt ≤ 11) (hdg : decode cc pc = .ok (.iastore, 1)) (kk : ∀ σ2 : zS, σ2 = (zu σ.1 a i.toNatClampNeg x, σ.2.1, σ.2.2) → zI κ b L kd σ2 → zGc rs cs sl d L kd A nL p l e R s m args below meth c Q σ2 (pc + 1) lv st) : zGc rs cs sl d L kd A nL p l e R s m args below meth c Q σ pc lv (.int x :: .int i :: .ref a :: st) := zg_iast X ha rfl h0 h1 hdg (fun σ2 h2 => kk σ2 h2 (by rw [h2]; exact zi_puti hI ha rfl h.1 h.2))
theorem ag_26 {own : String} (X : zX d L kd A nL p s m args c cc own) {i : Int32} (hI : zI κ b L kd σ) (ha : zT L kd a 26) (h0 : 0 ≤ i.toInt) (h1 : i.toInt < 20) (hdg : decode cc pc = .ok (.iaload, 1)) (kk : ∀ v : Int32, v = σ.1 a i.toNatClampNeg → (-2147483648) ≤ v.toInt ∧ v.toInt ≤ 2147483647 → zGc rs cs sl d L kd A nL p l e R s m args below meth c Q σ (pc + 1) lv (.int v :: st)) : zGc rs cs sl d L kd A nL p l e R s m args below meth c Q σ pc lv (.int i :: .ref a :: st) := zg_iald X ha rfl h0 h1 hdg (kk _ rfl (zi_get hI ha rfl))
theorem as_26 {own : String} (X : zX d L kd A nL p s m args c cc own) {i x : Int32} (hI : zI κ b L kd σ) (ha : zT L kd a 26) (h0 : 0 ≤ i.toInt) (h1 : i.toInt < 20) (hdg : decode cc pc = .ok (.iastore, 1)) (kk : ∀ σ2 : zS, σ2 = (zu σ.1 a i.toNatClampNeg x, σ.2.1, σ.2.2) → zI κ b L kd σ2 → zGc rs cs sl d L kd A nL p l e R s m args below meth c Q σ2 (pc + 1) lv st) : zGc rs cs sl d L kd A nL p l e R s m args below meth c Q σ pc lv (.int x :: .int i :: .ref a :: st) := zg_iast X ha rfl h0 h1 hdg (fun σ2 h2 => kk σ2 h2 (by rw [h2]; exact zi_puti hI ha rfl (zb_rng _).1 (zb_rng _).2))
theorem ag_27 {own : String} (X : zX d L kd A nL p s m args c cc own) {i : Int32} (hI : zI κ b L kd σ) (ha : zT L kd a 27) (h0 : 0 ≤ i.toInt) (h1 : i.toInt < 20) (hdg : decode cc pc = .ok (.iaload, 1)) (kk : ∀ v : Int32, v = σ.1 a i.toNatClampNeg → (-2147483648) ≤ v.toInt ∧ v.toInt ≤ 2147483647 → zGc rs cs sl d L kd A nL p l e R s m args below meth c Q σ (pc + 1) lv (.int v :: st)) : zGc rs cs sl d L kd A nL p l e R s m args below meth c Q σ pc lv (.int i :: .ref a :: st) := zg_iald X ha rfl h0 h1 hdg (kk _ rfl (zi_get hI ha rfl))
theorem as_27 {own : String} (X : zX d L kd A nL p s m args c cc own) {i x : Int32} (hI : zI κ b L kd σ) (ha : zT L kd a 27) (h0 : 0 ≤ i.toInt) (h1 : i.toInt < 20) (hdg : decode cc pc = .ok (.iastore, 1)) (kk : ∀ σ2 : zS, σ2 = (zu σ.1 a i.toNatClampNeg x, σ.2.1, σ.2.2) → zI κ b L kd σ2 → zGc rs cs sl d L kd A nL p l e R s m args below meth c Q σ2 (pc + 1) lv st) : zGc rs cs sl d L kd A nL p l e R s m args below meth c Q σ pc lv (.int x :: .int i :: .ref a :: st) := zg_iast X ha rfl h0 h1 hdg (fun σ2 h2 => kk σ2 h2 (by rw [h2]; exact zi_puti hI ha rfl (zb_rng _).1 (zb_rng _).2))
theorem ag_28 {own : String} (X : zX d L kd A nL p s m args c cc own) {i : Int32} (hI : zI κ b L kd σ) (ha : zT L kd a 28) (h0 : 0 ≤ i.toInt) (h1 : i.toInt < 20) (hdg : decode cc pc = .ok (.baload, 1)) (kk : ∀ v : Int32, v = σ.1 a i.toNatClampNeg → 0 ≤ v.toInt ∧ v.toInt ≤ 1 → zGc rs cs sl d L kd A nL p l e R s m args below meth c Q σ (pc + 1) lv (.int v :: st)) : zGc rs cs sl d L kd A nL p l e R s m args below meth c Q σ pc lv (.int i :: .ref a :: st) := zg_zald X ha rfl h0 h1 hdg (kk _ rfl (zi_get hI ha rfl))
theorem as_28 {own : String} (X : zX d L kd A nL p s m args c cc own) {i x : Int32} (hI : zI κ b L kd σ) (ha : zT L kd a 28) (h0 : 0 ≤ i.toInt) (h1 : i.toInt < 20) (h : 0 ≤ x.toInt ∧ x.toInt ≤ 1) (hdg : decode cc pc = .ok (.bastore, 1)) (kk : ∀ σ2 : zS, σ2 = (zu σ.1 a i.toNatClampNeg (vp_nar .boolean x), σ.2.1, σ.2.2) → zI κ b L kd σ2 → zGc rs cs sl d L kd A nL p l e R s m args below meth c Q σ2 (pc + 1) lv st) : zGc rs cs sl d L kd A nL p l e R s m args below meth c Q σ pc lv (.int x :: .int i :: .ref a :: st) := zg_zast X ha rfl h0 h1 hdg (fun σ2 h2 => kk σ2 h2 (by rw [h2]; exact zi_puti hI ha rfl (by rw [zb_nz h]; exact h.1) (by rw [zb_nz h]; exact h.2)))
theorem ag_29 {own : String} (X : zX d L kd A nL p s m args c cc own) {i : Int32} (hI : zI κ b L kd σ) (ha : zT L kd a 29) (h0 : 0 ≤ i.toInt) (h1 : i.toInt < 40) (hdg : decode cc pc = .ok (.aaload, 1)) (kk : ∀ y : Nat, σ.2.2 a i.toNatClampNeg = some y → zT L kd y 1 → zGc rs cs sl d L kd A nL p l e R s m args below meth c Q σ (pc + 1) lv (.ref y :: st)) : zGc rs cs sl d L kd A nL p l e R s m args below meth c Q σ pc lv (.int i :: .ref a :: st) := by
  obtain ⟨y, hy, hT⟩ := zi_ref (j := i.toNatClampNeg) hI ha (show zf b 29 _ = some 1 from rfl)
  have q := kk y hy hT
  exact zg_aald X ha rfl h0 h1 hdg (by rw [hy]; exact q)
theorem ag_30 {own : String} (X : zX d L kd A nL p s m args c cc own) {i : Int32} (hI : zI κ b L kd σ) (ha : zT L kd a 30) (h0 : 0 ≤ i.toInt) (h1 : i.toInt < 12) (hdg : decode cc pc = .ok (.iaload, 1)) (kk : ∀ v : Int32, v = σ.1 a i.toNatClampNeg → (-2147483648) ≤ v.toInt ∧ v.toInt ≤ 2147483647 → zGc rs cs sl d L kd A nL p l e R s m args below meth c Q σ (pc + 1) lv (.int v :: st)) : zGc rs cs sl d L kd A nL p l e R s m args below meth c Q σ pc lv (.int i :: .ref a :: st) := zg_iald X ha rfl h0 h1 hdg (kk _ rfl (zi_get hI ha rfl))
theorem as_30 {own : String} (X : zX d L kd A nL p s m args c cc own) {i x : Int32} (hI : zI κ b L kd σ) (ha : zT L kd a 30) (h0 : 0 ≤ i.toInt) (h1 : i.toInt < 12) (hdg : decode cc pc = .ok (.iastore, 1)) (kk : ∀ σ2 : zS, σ2 = (zu σ.1 a i.toNatClampNeg x, σ.2.1, σ.2.2) → zI κ b L kd σ2 → zGc rs cs sl d L kd A nL p l e R s m args below meth c Q σ2 (pc + 1) lv st) : zGc rs cs sl d L kd A nL p l e R s m args below meth c Q σ pc lv (.int x :: .int i :: .ref a :: st) := zg_iast X ha rfl h0 h1 hdg (fun σ2 h2 => kk σ2 h2 (by rw [h2]; exact zi_puti hI ha rfl (zb_rng _).1 (zb_rng _).2))
theorem ag_31 {own : String} (X : zX d L kd A nL p s m args c cc own) {i : Int32} (hI : zI κ b L kd σ) (ha : zT L kd a 31) (h0 : 0 ≤ i.toInt) (h1 : i.toInt < 12) (hdg : decode cc pc = .ok (.iaload, 1)) (kk : ∀ v : Int32, v = σ.1 a i.toNatClampNeg → (-2147483648) ≤ v.toInt ∧ v.toInt ≤ 2147483647 → zGc rs cs sl d L kd A nL p l e R s m args below meth c Q σ (pc + 1) lv (.int v :: st)) : zGc rs cs sl d L kd A nL p l e R s m args below meth c Q σ pc lv (.int i :: .ref a :: st) := zg_iald X ha rfl h0 h1 hdg (kk _ rfl (zi_get hI ha rfl))
theorem as_31 {own : String} (X : zX d L kd A nL p s m args c cc own) {i x : Int32} (hI : zI κ b L kd σ) (ha : zT L kd a 31) (h0 : 0 ≤ i.toInt) (h1 : i.toInt < 12) (hdg : decode cc pc = .ok (.iastore, 1)) (kk : ∀ σ2 : zS, σ2 = (zu σ.1 a i.toNatClampNeg x, σ.2.1, σ.2.2) → zI κ b L kd σ2 → zGc rs cs sl d L kd A nL p l e R s m args below meth c Q σ2 (pc + 1) lv st) : zGc rs cs sl d L kd A nL p l e R s m args below meth c Q σ pc lv (.int x :: .int i :: .ref a :: st) := zg_iast X ha rfl h0 h1 hdg (fun σ2 h2 => kk σ2 h2 (by rw [h2]; exact zi_puti hI ha rfl (zb_rng _).1 (zb_rng _).2))
theorem ag_32 {own : String} (X : zX d L kd A nL p s m args c cc own) {i : Int32} (hI : zI κ b L kd σ) (ha : zT L kd a 32) (h0 : 0 ≤ i.toInt) (h1 : i.toInt < 12) (hdg : decode cc pc = .ok (.iaload, 1)) (kk : ∀ v : Int32, v = σ.1 a i.toNatClampNeg → (-2147483648) ≤ v.toInt ∧ v.toInt ≤ 2147483647 → zGc rs cs sl d L kd A nL p l e R s m args below meth c Q σ (pc + 1) lv (.int v :: st)) : zGc rs cs sl d L kd A nL p l e R s m args below meth c Q σ pc lv (.int i :: .ref a :: st) := zg_iald X ha rfl h0 h1 hdg (kk _ rfl (zi_get hI ha rfl))
theorem as_32 {own : String} (X : zX d L kd A nL p s m args c cc own) {i x : Int32} (hI : zI κ b L kd σ) (ha : zT L kd a 32) (h0 : 0 ≤ i.toInt) (h1 : i.toInt < 12) (hdg : decode cc pc = .ok (.iastore, 1)) (kk : ∀ σ2 : zS, σ2 = (zu σ.1 a i.toNatClampNeg x, σ.2.1, σ.2.2) → zI κ b L kd σ2 → zGc rs cs sl d L kd A nL p l e R s m args below meth c Q σ2 (pc + 1) lv st) : zGc rs cs sl d L kd A nL p l e R s m args below meth c Q σ pc lv (.int x :: .int i :: .ref a :: st) := zg_iast X ha rfl h0 h1 hdg (fun σ2 h2 => kk σ2 h2 (by rw [h2]; exact zi_puti hI ha rfl (zb_rng _).1 (zb_rng _).2))
theorem ag_33 {own : String} (X : zX d L kd A nL p s m args c cc own) {i : Int32} (hI : zI κ b L kd σ) (ha : zT L kd a 33) (h0 : 0 ≤ i.toInt) (h1 : i.toInt < 12) (hdg : decode cc pc = .ok (.iaload, 1)) (kk : ∀ v : Int32, v = σ.1 a i.toNatClampNeg → (-2147483648) ≤ v.toInt ∧ v.toInt ≤ 2147483647 → zGc rs cs sl d L kd A nL p l e R s m args below meth c Q σ (pc + 1) lv (.int v :: st)) : zGc rs cs sl d L kd A nL p l e R s m args below meth c Q σ pc lv (.int i :: .ref a :: st) := zg_iald X ha rfl h0 h1 hdg (kk _ rfl (zi_get hI ha rfl))
theorem ag_34 {own : String} (X : zX d L kd A nL p s m args c cc own) {i : Int32} (hI : zI κ b L kd σ) (ha : zT L kd a 34) (h0 : 0 ≤ i.toInt) (h1 : i.toInt < 12) (hdg : decode cc pc = .ok (.iaload, 1)) (kk : ∀ v : Int32, v = σ.1 a i.toNatClampNeg → 0 ≤ v.toInt ∧ v.toInt ≤ 11 → zGc rs cs sl d L kd A nL p l e R s m args below meth c Q σ (pc + 1) lv (.int v :: st)) : zGc rs cs sl d L kd A nL p l e R s m args below meth c Q σ pc lv (.int i :: .ref a :: st) := zg_iald X ha rfl h0 h1 hdg (kk _ rfl (zi_get hI ha rfl))
theorem as_34 {own : String} (X : zX d L kd A nL p s m args c cc own) {i x : Int32} (hI : zI κ b L kd σ) (ha : zT L kd a 34) (h0 : 0 ≤ i.toInt) (h1 : i.toInt < 12) (h : 0 ≤ x.toInt ∧ x.toInt ≤ 11) (hdg : decode cc pc = .ok (.iastore, 1)) (kk : ∀ σ2 : zS, σ2 = (zu σ.1 a i.toNatClampNeg x, σ.2.1, σ.2.2) → zI κ b L kd σ2 → zGc rs cs sl d L kd A nL p l e R s m args below meth c Q σ2 (pc + 1) lv st) : zGc rs cs sl d L kd A nL p l e R s m args below meth c Q σ pc lv (.int x :: .int i :: .ref a :: st) := zg_iast X ha rfl h0 h1 hdg (fun σ2 h2 => kk σ2 h2 (by rw [h2]; exact zi_puti hI ha rfl h.1 h.2))
theorem ag_35 {own : String} (X : zX d L kd A nL p s m args c cc own) {i : Int32} (hI : zI κ b L kd σ) (ha : zT L kd a 35) (h0 : 0 ≤ i.toInt) (h1 : i.toInt < 12) (hdg : decode cc pc = .ok (.iaload, 1)) (kk : ∀ v : Int32, v = σ.1 a i.toNatClampNeg → (-2147483648) ≤ v.toInt ∧ v.toInt ≤ 2147483647 → zGc rs cs sl d L kd A nL p l e R s m args below meth c Q σ (pc + 1) lv (.int v :: st)) : zGc rs cs sl d L kd A nL p l e R s m args below meth c Q σ pc lv (.int i :: .ref a :: st) := zg_iald X ha rfl h0 h1 hdg (kk _ rfl (zi_get hI ha rfl))
theorem as_35 {own : String} (X : zX d L kd A nL p s m args c cc own) {i x : Int32} (hI : zI κ b L kd σ) (ha : zT L kd a 35) (h0 : 0 ≤ i.toInt) (h1 : i.toInt < 12) (hdg : decode cc pc = .ok (.iastore, 1)) (kk : ∀ σ2 : zS, σ2 = (zu σ.1 a i.toNatClampNeg x, σ.2.1, σ.2.2) → zI κ b L kd σ2 → zGc rs cs sl d L kd A nL p l e R s m args below meth c Q σ2 (pc + 1) lv st) : zGc rs cs sl d L kd A nL p l e R s m args below meth c Q σ pc lv (.int x :: .int i :: .ref a :: st) := zg_iast X ha rfl h0 h1 hdg (fun σ2 h2 => kk σ2 h2 (by rw [h2]; exact zi_puti hI ha rfl (zb_rng _).1 (zb_rng _).2))
theorem ag_36 {own : String} (X : zX d L kd A nL p s m args c cc own) {i : Int32} (hI : zI κ b L kd σ) (ha : zT L kd a 36) (h0 : 0 ≤ i.toInt) (h1 : i.toInt < 12) (hdg : decode cc pc = .ok (.iaload, 1)) (kk : ∀ v : Int32, v = σ.1 a i.toNatClampNeg → (-2147483648) ≤ v.toInt ∧ v.toInt ≤ 2147483647 → zGc rs cs sl d L kd A nL p l e R s m args below meth c Q σ (pc + 1) lv (.int v :: st)) : zGc rs cs sl d L kd A nL p l e R s m args below meth c Q σ pc lv (.int i :: .ref a :: st) := zg_iald X ha rfl h0 h1 hdg (kk _ rfl (zi_get hI ha rfl))
theorem as_36 {own : String} (X : zX d L kd A nL p s m args c cc own) {i x : Int32} (hI : zI κ b L kd σ) (ha : zT L kd a 36) (h0 : 0 ≤ i.toInt) (h1 : i.toInt < 12) (hdg : decode cc pc = .ok (.iastore, 1)) (kk : ∀ σ2 : zS, σ2 = (zu σ.1 a i.toNatClampNeg x, σ.2.1, σ.2.2) → zI κ b L kd σ2 → zGc rs cs sl d L kd A nL p l e R s m args below meth c Q σ2 (pc + 1) lv st) : zGc rs cs sl d L kd A nL p l e R s m args below meth c Q σ pc lv (.int x :: .int i :: .ref a :: st) := zg_iast X ha rfl h0 h1 hdg (fun σ2 h2 => kk σ2 h2 (by rw [h2]; exact zi_puti hI ha rfl (zb_rng _).1 (zb_rng _).2))
theorem ag_37 {own : String} (X : zX d L kd A nL p s m args c cc own) {i : Int32} (hI : zI κ b L kd σ) (ha : zT L kd a 37) (h0 : 0 ≤ i.toInt) (h1 : i.toInt < 12) (hdg : decode cc pc = .ok (.iaload, 1)) (kk : ∀ v : Int32, v = σ.1 a i.toNatClampNeg → (-2147483648) ≤ v.toInt ∧ v.toInt ≤ 2147483647 → zGc rs cs sl d L kd A nL p l e R s m args below meth c Q σ (pc + 1) lv (.int v :: st)) : zGc rs cs sl d L kd A nL p l e R s m args below meth c Q σ pc lv (.int i :: .ref a :: st) := zg_iald X ha rfl h0 h1 hdg (kk _ rfl (zi_get hI ha rfl))
theorem as_37 {own : String} (X : zX d L kd A nL p s m args c cc own) {i x : Int32} (hI : zI κ b L kd σ) (ha : zT L kd a 37) (h0 : 0 ≤ i.toInt) (h1 : i.toInt < 12) (hdg : decode cc pc = .ok (.iastore, 1)) (kk : ∀ σ2 : zS, σ2 = (zu σ.1 a i.toNatClampNeg x, σ.2.1, σ.2.2) → zI κ b L kd σ2 → zGc rs cs sl d L kd A nL p l e R s m args below meth c Q σ2 (pc + 1) lv st) : zGc rs cs sl d L kd A nL p l e R s m args below meth c Q σ pc lv (.int x :: .int i :: .ref a :: st) := zg_iast X ha rfl h0 h1 hdg (fun σ2 h2 => kk σ2 h2 (by rw [h2]; exact zi_puti hI ha rfl (zb_rng _).1 (zb_rng _).2))
theorem ag_38 {own : String} (X : zX d L kd A nL p s m args c cc own) {i : Int32} (hI : zI κ b L kd σ) (ha : zT L kd a 38) (h0 : 0 ≤ i.toInt) (h1 : i.toInt < 12) (hdg : decode cc pc = .ok (.iaload, 1)) (kk : ∀ v : Int32, v = σ.1 a i.toNatClampNeg → (-2147483648) ≤ v.toInt ∧ v.toInt ≤ 2147483647 → zGc rs cs sl d L kd A nL p l e R s m args below meth c Q σ (pc + 1) lv (.int v :: st)) : zGc rs cs sl d L kd A nL p l e R s m args below meth c Q σ pc lv (.int i :: .ref a :: st) := zg_iald X ha rfl h0 h1 hdg (kk _ rfl (zi_get hI ha rfl))
theorem as_38 {own : String} (X : zX d L kd A nL p s m args c cc own) {i x : Int32} (hI : zI κ b L kd σ) (ha : zT L kd a 38) (h0 : 0 ≤ i.toInt) (h1 : i.toInt < 12) (hdg : decode cc pc = .ok (.iastore, 1)) (kk : ∀ σ2 : zS, σ2 = (zu σ.1 a i.toNatClampNeg x, σ.2.1, σ.2.2) → zI κ b L kd σ2 → zGc rs cs sl d L kd A nL p l e R s m args below meth c Q σ2 (pc + 1) lv st) : zGc rs cs sl d L kd A nL p l e R s m args below meth c Q σ pc lv (.int x :: .int i :: .ref a :: st) := zg_iast X ha rfl h0 h1 hdg (fun σ2 h2 => kk σ2 h2 (by rw [h2]; exact zi_puti hI ha rfl (zb_rng _).1 (zb_rng _).2))
theorem ag_39 {own : String} (X : zX d L kd A nL p s m args c cc own) {i : Int32} (hI : zI κ b L kd σ) (ha : zT L kd a 39) (h0 : 0 ≤ i.toInt) (h1 : i.toInt < 2000) (hdg : decode cc pc = .ok (.baload, 1)) (kk : ∀ v : Int32, v = σ.1 a i.toNatClampNeg → (-128) ≤ v.toInt ∧ v.toInt ≤ 127 → zGc rs cs sl d L kd A nL p l e R s m args below meth c Q σ (pc + 1) lv (.int v :: st)) : zGc rs cs sl d L kd A nL p l e R s m args below meth c Q σ pc lv (.int i :: .ref a :: st) := zg_bald X ha rfl h0 h1 hdg (kk _ rfl (zi_get hI ha rfl))
theorem as_39 {own : String} (X : zX d L kd A nL p s m args c cc own) {i x : Int32} (hI : zI κ b L kd σ) (ha : zT L kd a 39) (h0 : 0 ≤ i.toInt) (h1 : i.toInt < 2000) (hdg : decode cc pc = .ok (.bastore, 1)) (kk : ∀ σ2 : zS, σ2 = (zu σ.1 a i.toNatClampNeg (vp_nar .byte x), σ.2.1, σ.2.2) → zI κ b L kd σ2 → zGc rs cs sl d L kd A nL p l e R s m args below meth c Q σ2 (pc + 1) lv st) : zGc rs cs sl d L kd A nL p l e R s m args below meth c Q σ pc lv (.int x :: .int i :: .ref a :: st) := zg_bast X ha rfl h0 h1 hdg (fun σ2 h2 => kk σ2 h2 (by rw [h2]; exact zi_puti hI ha rfl (zb_nb _).1 (zb_nb _).2))
theorem ag_40 {own : String} (X : zX d L kd A nL p s m args c cc own) {i : Int32} (ha : zT L kd a 40) (h0 : 0 ≤ i.toInt) (h1 : i.toInt < 22) (hdg : decode cc pc = .ok (.laload, 1)) (kk : ∀ v : Int64, v = σ.2.1 a i.toNatClampNeg → zGc rs cs sl d L kd A nL p l e R s m args below meth c Q σ (pc + 1) lv (.long v :: st)) : zGc rs cs sl d L kd A nL p l e R s m args below meth c Q σ pc lv (.int i :: .ref a :: st) := zg_lald X ha rfl h0 h1 hdg (kk _ rfl)
theorem as_40 {own : String} (X : zX d L kd A nL p s m args c cc own) {i : Int32} {x : Int64} (hI : zI κ b L kd σ) (ha : zT L kd a 40) (h0 : 0 ≤ i.toInt) (h1 : i.toInt < 22) (hdg : decode cc pc = .ok (.lastore, 1)) (kk : ∀ σ2 : zS, σ2 = (σ.1, zu σ.2.1 a i.toNatClampNeg x, σ.2.2) → zI κ b L kd σ2 → zGc rs cs sl d L kd A nL p l e R s m args below meth c Q σ2 (pc + 1) lv st) : zGc rs cs sl d L kd A nL p l e R s m args below meth c Q σ pc lv (.long x :: .int i :: .ref a :: st) := zg_last X ha rfl h0 h1 hdg (fun σ2 h2 => kk σ2 h2 (by rw [h2]; exact zi_putl hI))
theorem ag_41 {own : String} (X : zX d L kd A nL p s m args c cc own) {i : Int32} (hI : zI κ b L kd σ) (ha : zT L kd a 41) (h0 : 0 ≤ i.toInt) (h1 : i.toInt < 402) (hdg : decode cc pc = .ok (.iaload, 1)) (kk : ∀ v : Int32, v = σ.1 a i.toNatClampNeg → (-2147483648) ≤ v.toInt ∧ v.toInt ≤ 2147483647 → zGc rs cs sl d L kd A nL p l e R s m args below meth c Q σ (pc + 1) lv (.int v :: st)) : zGc rs cs sl d L kd A nL p l e R s m args below meth c Q σ pc lv (.int i :: .ref a :: st) := zg_iald X ha rfl h0 h1 hdg (kk _ rfl (zi_get hI ha rfl))
theorem as_41 {own : String} (X : zX d L kd A nL p s m args c cc own) {i x : Int32} (hI : zI κ b L kd σ) (ha : zT L kd a 41) (h0 : 0 ≤ i.toInt) (h1 : i.toInt < 402) (hdg : decode cc pc = .ok (.iastore, 1)) (kk : ∀ σ2 : zS, σ2 = (zu σ.1 a i.toNatClampNeg x, σ.2.1, σ.2.2) → zI κ b L kd σ2 → zGc rs cs sl d L kd A nL p l e R s m args below meth c Q σ2 (pc + 1) lv st) : zGc rs cs sl d L kd A nL p l e R s m args below meth c Q σ pc lv (.int x :: .int i :: .ref a :: st) := zg_iast X ha rfl h0 h1 hdg (fun σ2 h2 => kk σ2 h2 (by rw [h2]; exact zi_puti hI ha rfl (zb_rng _).1 (zb_rng _).2))
theorem ag_42 {own : String} (X : zX d L kd A nL p s m args c cc own) {i : Int32} (ha : zT L kd a 42) (h0 : 0 ≤ i.toInt) (h1 : i.toInt < 402) (hdg : decode cc pc = .ok (.laload, 1)) (kk : ∀ v : Int64, v = σ.2.1 a i.toNatClampNeg → zGc rs cs sl d L kd A nL p l e R s m args below meth c Q σ (pc + 1) lv (.long v :: st)) : zGc rs cs sl d L kd A nL p l e R s m args below meth c Q σ pc lv (.int i :: .ref a :: st) := zg_lald X ha rfl h0 h1 hdg (kk _ rfl)
theorem as_42 {own : String} (X : zX d L kd A nL p s m args c cc own) {i : Int32} {x : Int64} (hI : zI κ b L kd σ) (ha : zT L kd a 42) (h0 : 0 ≤ i.toInt) (h1 : i.toInt < 402) (hdg : decode cc pc = .ok (.lastore, 1)) (kk : ∀ σ2 : zS, σ2 = (σ.1, zu σ.2.1 a i.toNatClampNeg x, σ.2.2) → zI κ b L kd σ2 → zGc rs cs sl d L kd A nL p l e R s m args below meth c Q σ2 (pc + 1) lv st) : zGc rs cs sl d L kd A nL p l e R s m args below meth c Q σ pc lv (.long x :: .int i :: .ref a :: st) := zg_last X ha rfl h0 h1 hdg (fun σ2 h2 => kk σ2 h2 (by rw [h2]; exact zi_putl hI))
theorem ag_43 {own : String} (X : zX d L kd A nL p s m args c cc own) {i : Int32} (hI : zI κ b L kd σ) (ha : zT L kd a 43) (h0 : 0 ≤ i.toInt) (h1 : i.toInt < 402) (hdg : decode cc pc = .ok (.iaload, 1)) (kk : ∀ v : Int32, v = σ.1 a i.toNatClampNeg → (-2147483648) ≤ v.toInt ∧ v.toInt ≤ 2147483647 → zGc rs cs sl d L kd A nL p l e R s m args below meth c Q σ (pc + 1) lv (.int v :: st)) : zGc rs cs sl d L kd A nL p l e R s m args below meth c Q σ pc lv (.int i :: .ref a :: st) := zg_iald X ha rfl h0 h1 hdg (kk _ rfl (zi_get hI ha rfl))
theorem as_43 {own : String} (X : zX d L kd A nL p s m args c cc own) {i x : Int32} (hI : zI κ b L kd σ) (ha : zT L kd a 43) (h0 : 0 ≤ i.toInt) (h1 : i.toInt < 402) (hdg : decode cc pc = .ok (.iastore, 1)) (kk : ∀ σ2 : zS, σ2 = (zu σ.1 a i.toNatClampNeg x, σ.2.1, σ.2.2) → zI κ b L kd σ2 → zGc rs cs sl d L kd A nL p l e R s m args below meth c Q σ2 (pc + 1) lv st) : zGc rs cs sl d L kd A nL p l e R s m args below meth c Q σ pc lv (.int x :: .int i :: .ref a :: st) := zg_iast X ha rfl h0 h1 hdg (fun σ2 h2 => kk σ2 h2 (by rw [h2]; exact zi_puti hI ha rfl (zb_rng _).1 (zb_rng _).2))
theorem ag_44 {own : String} (X : zX d L kd A nL p s m args c cc own) {i : Int32} (ha : zT L kd a 44) (h0 : 0 ≤ i.toInt) (h1 : i.toInt < 12) (hdg : decode cc pc = .ok (.laload, 1)) (kk : ∀ v : Int64, v = σ.2.1 a i.toNatClampNeg → zGc rs cs sl d L kd A nL p l e R s m args below meth c Q σ (pc + 1) lv (.long v :: st)) : zGc rs cs sl d L kd A nL p l e R s m args below meth c Q σ pc lv (.int i :: .ref a :: st) := zg_lald X ha rfl h0 h1 hdg (kk _ rfl)
theorem as_44 {own : String} (X : zX d L kd A nL p s m args c cc own) {i : Int32} {x : Int64} (hI : zI κ b L kd σ) (ha : zT L kd a 44) (h0 : 0 ≤ i.toInt) (h1 : i.toInt < 12) (hdg : decode cc pc = .ok (.lastore, 1)) (kk : ∀ σ2 : zS, σ2 = (σ.1, zu σ.2.1 a i.toNatClampNeg x, σ.2.2) → zI κ b L kd σ2 → zGc rs cs sl d L kd A nL p l e R s m args below meth c Q σ2 (pc + 1) lv st) : zGc rs cs sl d L kd A nL p l e R s m args below meth c Q σ pc lv (.long x :: .int i :: .ref a :: st) := zg_last X ha rfl h0 h1 hdg (fun σ2 h2 => kk σ2 h2 (by rw [h2]; exact zi_putl hI))
theorem ag_45 {own : String} (X : zX d L kd A nL p s m args c cc own) {i : Int32} (hI : zI κ b L kd σ) (ha : zT L kd a 45) (h0 : 0 ≤ i.toInt) (h1 : i.toInt < 12) (hdg : decode cc pc = .ok (.iaload, 1)) (kk : ∀ v : Int32, v = σ.1 a i.toNatClampNeg → 0 ≤ v.toInt ∧ v.toInt ≤ 11 → zGc rs cs sl d L kd A nL p l e R s m args below meth c Q σ (pc + 1) lv (.int v :: st)) : zGc rs cs sl d L kd A nL p l e R s m args below meth c Q σ pc lv (.int i :: .ref a :: st) := zg_iald X ha rfl h0 h1 hdg (kk _ rfl (zi_get hI ha rfl))
theorem as_45 {own : String} (X : zX d L kd A nL p s m args c cc own) {i x : Int32} (hI : zI κ b L kd σ) (ha : zT L kd a 45) (h0 : 0 ≤ i.toInt) (h1 : i.toInt < 12) (h : 0 ≤ x.toInt ∧ x.toInt ≤ 11) (hdg : decode cc pc = .ok (.iastore, 1)) (kk : ∀ σ2 : zS, σ2 = (zu σ.1 a i.toNatClampNeg x, σ.2.1, σ.2.2) → zI κ b L kd σ2 → zGc rs cs sl d L kd A nL p l e R s m args below meth c Q σ2 (pc + 1) lv st) : zGc rs cs sl d L kd A nL p l e R s m args below meth c Q σ pc lv (.int x :: .int i :: .ref a :: st) := zg_iast X ha rfl h0 h1 hdg (fun σ2 h2 => kk σ2 h2 (by rw [h2]; exact zi_puti hI ha rfl h.1 h.2))
theorem ag_46 {own : String} (X : zX d L kd A nL p s m args c cc own) {i : Int32} (hI : zI κ b L kd σ) (ha : zT L kd a 46) (h0 : 0 ≤ i.toInt) (h1 : i.toInt < 12) (hdg : decode cc pc = .ok (.iaload, 1)) (kk : ∀ v : Int32, v = σ.1 a i.toNatClampNeg → (-2147483648) ≤ v.toInt ∧ v.toInt ≤ 2147483647 → zGc rs cs sl d L kd A nL p l e R s m args below meth c Q σ (pc + 1) lv (.int v :: st)) : zGc rs cs sl d L kd A nL p l e R s m args below meth c Q σ pc lv (.int i :: .ref a :: st) := zg_iald X ha rfl h0 h1 hdg (kk _ rfl (zi_get hI ha rfl))
theorem as_46 {own : String} (X : zX d L kd A nL p s m args c cc own) {i x : Int32} (hI : zI κ b L kd σ) (ha : zT L kd a 46) (h0 : 0 ≤ i.toInt) (h1 : i.toInt < 12) (hdg : decode cc pc = .ok (.iastore, 1)) (kk : ∀ σ2 : zS, σ2 = (zu σ.1 a i.toNatClampNeg x, σ.2.1, σ.2.2) → zI κ b L kd σ2 → zGc rs cs sl d L kd A nL p l e R s m args below meth c Q σ2 (pc + 1) lv st) : zGc rs cs sl d L kd A nL p l e R s m args below meth c Q σ pc lv (.int x :: .int i :: .ref a :: st) := zg_iast X ha rfl h0 h1 hdg (fun σ2 h2 => kk σ2 h2 (by rw [h2]; exact zi_puti hI ha rfl (zb_rng _).1 (zb_rng _).2))
theorem ag_47 {own : String} (X : zX d L kd A nL p s m args c cc own) {i : Int32} (hI : zI κ b L kd σ) (ha : zT L kd a 47) (h0 : 0 ≤ i.toInt) (h1 : i.toInt < 12) (hdg : decode cc pc = .ok (.iaload, 1)) (kk : ∀ v : Int32, v = σ.1 a i.toNatClampNeg → (-2147483648) ≤ v.toInt ∧ v.toInt ≤ 2147483647 → zGc rs cs sl d L kd A nL p l e R s m args below meth c Q σ (pc + 1) lv (.int v :: st)) : zGc rs cs sl d L kd A nL p l e R s m args below meth c Q σ pc lv (.int i :: .ref a :: st) := zg_iald X ha rfl h0 h1 hdg (kk _ rfl (zi_get hI ha rfl))
theorem as_47 {own : String} (X : zX d L kd A nL p s m args c cc own) {i x : Int32} (hI : zI κ b L kd σ) (ha : zT L kd a 47) (h0 : 0 ≤ i.toInt) (h1 : i.toInt < 12) (hdg : decode cc pc = .ok (.iastore, 1)) (kk : ∀ σ2 : zS, σ2 = (zu σ.1 a i.toNatClampNeg x, σ.2.1, σ.2.2) → zI κ b L kd σ2 → zGc rs cs sl d L kd A nL p l e R s m args below meth c Q σ2 (pc + 1) lv st) : zGc rs cs sl d L kd A nL p l e R s m args below meth c Q σ pc lv (.int x :: .int i :: .ref a :: st) := zg_iast X ha rfl h0 h1 hdg (fun σ2 h2 => kk σ2 h2 (by rw [h2]; exact zi_puti hI ha rfl (zb_rng _).1 (zb_rng _).2))
theorem ag_48 {own : String} (X : zX d L kd A nL p s m args c cc own) {i : Int32} (hI : zI κ b L kd σ) (ha : zT L kd a 48) (h0 : 0 ≤ i.toInt) (h1 : i.toInt < 12) (hdg : decode cc pc = .ok (.iaload, 1)) (kk : ∀ v : Int32, v = σ.1 a i.toNatClampNeg → (-2147483648) ≤ v.toInt ∧ v.toInt ≤ 2147483647 → zGc rs cs sl d L kd A nL p l e R s m args below meth c Q σ (pc + 1) lv (.int v :: st)) : zGc rs cs sl d L kd A nL p l e R s m args below meth c Q σ pc lv (.int i :: .ref a :: st) := zg_iald X ha rfl h0 h1 hdg (kk _ rfl (zi_get hI ha rfl))
theorem as_48 {own : String} (X : zX d L kd A nL p s m args c cc own) {i x : Int32} (hI : zI κ b L kd σ) (ha : zT L kd a 48) (h0 : 0 ≤ i.toInt) (h1 : i.toInt < 12) (hdg : decode cc pc = .ok (.iastore, 1)) (kk : ∀ σ2 : zS, σ2 = (zu σ.1 a i.toNatClampNeg x, σ.2.1, σ.2.2) → zI κ b L kd σ2 → zGc rs cs sl d L kd A nL p l e R s m args below meth c Q σ2 (pc + 1) lv st) : zGc rs cs sl d L kd A nL p l e R s m args below meth c Q σ pc lv (.int x :: .int i :: .ref a :: st) := zg_iast X ha rfl h0 h1 hdg (fun σ2 h2 => kk σ2 h2 (by rw [h2]; exact zi_puti hI ha rfl (zb_rng _).1 (zb_rng _).2))
theorem ag_49 {own : String} (X : zX d L kd A nL p s m args c cc own) {i : Int32} (hI : zI κ b L kd σ) (ha : zT L kd a 49) (h0 : 0 ≤ i.toInt) (h1 : i.toInt < 420) (hdg : decode cc pc = .ok (.iaload, 1)) (kk : ∀ v : Int32, v = σ.1 a i.toNatClampNeg → (-2147483648) ≤ v.toInt ∧ v.toInt ≤ 2147483647 → zGc rs cs sl d L kd A nL p l e R s m args below meth c Q σ (pc + 1) lv (.int v :: st)) : zGc rs cs sl d L kd A nL p l e R s m args below meth c Q σ pc lv (.int i :: .ref a :: st) := zg_iald X ha rfl h0 h1 hdg (kk _ rfl (zi_get hI ha rfl))
theorem as_49 {own : String} (X : zX d L kd A nL p s m args c cc own) {i x : Int32} (hI : zI κ b L kd σ) (ha : zT L kd a 49) (h0 : 0 ≤ i.toInt) (h1 : i.toInt < 420) (hdg : decode cc pc = .ok (.iastore, 1)) (kk : ∀ σ2 : zS, σ2 = (zu σ.1 a i.toNatClampNeg x, σ.2.1, σ.2.2) → zI κ b L kd σ2 → zGc rs cs sl d L kd A nL p l e R s m args below meth c Q σ2 (pc + 1) lv st) : zGc rs cs sl d L kd A nL p l e R s m args below meth c Q σ pc lv (.int x :: .int i :: .ref a :: st) := zg_iast X ha rfl h0 h1 hdg (fun σ2 h2 => kk σ2 h2 (by rw [h2]; exact zi_puti hI ha rfl (zb_rng _).1 (zb_rng _).2))
theorem ag_50 {own : String} (X : zX d L kd A nL p s m args c cc own) {i : Int32} (hI : zI κ b L kd σ) (ha : zT L kd a 50) (h0 : 0 ≤ i.toInt) (h1 : i.toInt < 420) (hdg : decode cc pc = .ok (.iaload, 1)) (kk : ∀ v : Int32, v = σ.1 a i.toNatClampNeg → (-2147483648) ≤ v.toInt ∧ v.toInt ≤ 2147483647 → zGc rs cs sl d L kd A nL p l e R s m args below meth c Q σ (pc + 1) lv (.int v :: st)) : zGc rs cs sl d L kd A nL p l e R s m args below meth c Q σ pc lv (.int i :: .ref a :: st) := zg_iald X ha rfl h0 h1 hdg (kk _ rfl (zi_get hI ha rfl))
theorem as_50 {own : String} (X : zX d L kd A nL p s m args c cc own) {i x : Int32} (hI : zI κ b L kd σ) (ha : zT L kd a 50) (h0 : 0 ≤ i.toInt) (h1 : i.toInt < 420) (hdg : decode cc pc = .ok (.iastore, 1)) (kk : ∀ σ2 : zS, σ2 = (zu σ.1 a i.toNatClampNeg x, σ.2.1, σ.2.2) → zI κ b L kd σ2 → zGc rs cs sl d L kd A nL p l e R s m args below meth c Q σ2 (pc + 1) lv st) : zGc rs cs sl d L kd A nL p l e R s m args below meth c Q σ pc lv (.int x :: .int i :: .ref a :: st) := zg_iast X ha rfl h0 h1 hdg (fun σ2 h2 => kk σ2 h2 (by rw [h2]; exact zi_puti hI ha rfl (zb_rng _).1 (zb_rng _).2))
theorem ag_51 {own : String} (X : zX d L kd A nL p s m args c cc own) {i : Int32} (hI : zI κ b L kd σ) (ha : zT L kd a 51) (h0 : 0 ≤ i.toInt) (h1 : i.toInt < 5) (hdg : decode cc pc = .ok (.iaload, 1)) (kk : ∀ v : Int32, v = σ.1 a i.toNatClampNeg → (-2147483648) ≤ v.toInt ∧ v.toInt ≤ 2147483647 → zGc rs cs sl d L kd A nL p l e R s m args below meth c Q σ (pc + 1) lv (.int v :: st)) : zGc rs cs sl d L kd A nL p l e R s m args below meth c Q σ pc lv (.int i :: .ref a :: st) := zg_iald X ha rfl h0 h1 hdg (kk _ rfl (zi_get hI ha rfl))
theorem as_51 {own : String} (X : zX d L kd A nL p s m args c cc own) {i x : Int32} (hI : zI κ b L kd σ) (ha : zT L kd a 51) (h0 : 0 ≤ i.toInt) (h1 : i.toInt < 5) (hdg : decode cc pc = .ok (.iastore, 1)) (kk : ∀ σ2 : zS, σ2 = (zu σ.1 a i.toNatClampNeg x, σ.2.1, σ.2.2) → zI κ b L kd σ2 → zGc rs cs sl d L kd A nL p l e R s m args below meth c Q σ2 (pc + 1) lv st) : zGc rs cs sl d L kd A nL p l e R s m args below meth c Q σ pc lv (.int x :: .int i :: .ref a :: st) := zg_iast X ha rfl h0 h1 hdg (fun σ2 h2 => kk σ2 h2 (by rw [h2]; exact zi_puti hI ha rfl (zb_rng _).1 (zb_rng _).2))
theorem ag_52 {own : String} (X : zX d L kd A nL p s m args c cc own) {i : Int32} (hI : zI κ b L kd σ) (ha : zT L kd a 52) (h0 : 0 ≤ i.toInt) (h1 : i.toInt < 3) (hdg : decode cc pc = .ok (.aaload, 1)) (kk : ∀ y : Nat, σ.2.2 a i.toNatClampNeg = some y → zT L kd y 1 → zGc rs cs sl d L kd A nL p l e R s m args below meth c Q σ (pc + 1) lv (.ref y :: st)) : zGc rs cs sl d L kd A nL p l e R s m args below meth c Q σ pc lv (.int i :: .ref a :: st) := by
  obtain ⟨y, hy, hT⟩ := zi_ref (j := i.toNatClampNeg) hI ha (show zf b 52 _ = some 1 from rfl)
  have q := kk y hy hT
  exact zg_aald X ha rfl h0 h1 hdg (by rw [hy]; exact q)
theorem ag_53 {own : String} (X : zX d L kd A nL p s m args c cc own) {i : Int32} (hI : zI κ b L kd σ) (ha : zT L kd a 53) (h0 : 0 ≤ i.toInt) (h1 : i.toInt < 12) (hdg : decode cc pc = .ok (.iaload, 1)) (kk : ∀ v : Int32, v = σ.1 a i.toNatClampNeg → (-2147483648) ≤ v.toInt ∧ v.toInt ≤ 2147483647 → zGc rs cs sl d L kd A nL p l e R s m args below meth c Q σ (pc + 1) lv (.int v :: st)) : zGc rs cs sl d L kd A nL p l e R s m args below meth c Q σ pc lv (.int i :: .ref a :: st) := zg_iald X ha rfl h0 h1 hdg (kk _ rfl (zi_get hI ha rfl))
theorem as_53 {own : String} (X : zX d L kd A nL p s m args c cc own) {i x : Int32} (hI : zI κ b L kd σ) (ha : zT L kd a 53) (h0 : 0 ≤ i.toInt) (h1 : i.toInt < 12) (hdg : decode cc pc = .ok (.iastore, 1)) (kk : ∀ σ2 : zS, σ2 = (zu σ.1 a i.toNatClampNeg x, σ.2.1, σ.2.2) → zI κ b L kd σ2 → zGc rs cs sl d L kd A nL p l e R s m args below meth c Q σ2 (pc + 1) lv st) : zGc rs cs sl d L kd A nL p l e R s m args below meth c Q σ pc lv (.int x :: .int i :: .ref a :: st) := zg_iast X ha rfl h0 h1 hdg (fun σ2 h2 => kk σ2 h2 (by rw [h2]; exact zi_puti hI ha rfl (zb_rng _).1 (zb_rng _).2))
end ZLINKS
end
-- 10.methods
section
set_option maxRecDepth 20000 in
theorem mk_X8_39 : Cond.methodLink RX8 39 yX8_withLetter ∈ zWL := zw1 (List.mem_of_getElem? (i := 107) rfl) rfl
set_option maxRecDepth 20000 in
theorem mk_X9_37 : Cond.methodLink RX9 37 yX9_clear ∈ zWL := zw2 (List.mem_of_getElem? (i := 101) rfl) rfl
set_option maxRecDepth 20000 in
theorem mk_X9_52 : Cond.methodLink RX9 52 yX9_addStep ∈ zWL := zw2 (List.mem_of_getElem? (i := 107) rfl) rfl
set_option maxRecDepth 20000 in
theorem mk_L_13 : Cond.methodLink RL 13 yX10_feed ∈ zWL := zw2 (List.mem_of_getElem? (i := 223) rfl) rfl
set_option maxRecDepth 20000 in
theorem mk_X10_87 : Cond.methodLink RX10 87 yX7_append ∈ zWL := zw2 (List.mem_of_getElem? (i := 227) rfl) rfl
set_option maxRecDepth 20000 in
theorem mk_L_18 : Cond.methodLink RL 18 yX10_back ∈ zWL := zw2 (List.mem_of_getElem? (i := 231) rfl) rfl
set_option maxRecDepth 20000 in
theorem mk_L_23 : Cond.methodLink RL 23 yX10_read ∈ zWL := zw2 (List.mem_of_getElem? (i := 235) rfl) rfl
set_option maxRecDepth 20000 in
theorem mk_X10_95 : Cond.methodLink RX10 95 yX3_parse ∈ zWL := zw2 (List.mem_of_getElem? (i := 239) rfl) rfl
set_option maxRecDepth 20000 in
theorem mk_X3_55 : Cond.methodLink RX3 55 yX8_scan ∈ zWL := zw3 (List.mem_of_getElem? (i := 3) rfl) rfl
set_option maxRecDepth 20000 in
theorem mk_X8_45 : Cond.methodLink RX8 45 yX8_pastBlanks ∈ zWL := zw3 (List.mem_of_getElem? (i := 7) rfl) rfl
set_option maxRecDepth 20000 in
theorem mk_X8_49 : Cond.methodLink RX8 49 yX8_add ∈ zWL := zw3 (List.mem_of_getElem? (i := 10) rfl) rfl
set_option maxRecDepth 20000 in
theorem mk_X8_53 : Cond.methodLink RX8 53 yX8_isLetter ∈ zWL := zw3 (List.mem_of_getElem? (i := 14) rfl) rfl
set_option maxRecDepth 20000 in
theorem mk_X8_57 : Cond.methodLink RX8 57 yX8_addLetters ∈ zWL := zw3 (List.mem_of_getElem? (i := 17) rfl) rfl
set_option maxRecDepth 20000 in
theorem mk_X8_72 : Cond.methodLink RX8 72 yX8_kindOf ∈ zWL := zw3 (List.mem_of_getElem? (i := 21) rfl) rfl
set_option maxRecDepth 20000 in
theorem mk_X8_60 : Cond.methodLink RX8 60 yX8_isDigit ∈ zWL := zw3 (List.mem_of_getElem? (i := 25) rfl) rfl
set_option maxRecDepth 20000 in
theorem mk_X8_63 : Cond.methodLink RX8 63 yX8_addDigits ∈ zWL := zw3 (List.mem_of_getElem? (i := 28) rfl) rfl
set_option maxRecDepth 20000 in
theorem mk_X3_59 : Cond.methodLink RX3 59 yX9_clear ∈ zWL := zw3 (List.mem_of_getElem? (i := 92) rfl) rfl
set_option maxRecDepth 20000 in
theorem mk_X3_64 : Cond.methodLink RX3 64 yX3_goTo ∈ zWL := zw3 (List.mem_of_getElem? (i := 93) rfl) rfl
set_option maxRecDepth 20000 in
theorem mk_X3_68 : Cond.methodLink RX3 68 yX3_telling ∈ zWL := zw3 (List.mem_of_getElem? (i := 97) rfl) rfl
set_option maxRecDepth 20000 in
theorem mk_X3_74 : Cond.methodLink RX3 74 yX3_mouth ∈ zWL := zw3 (List.mem_of_getElem? (i := 101) rfl) rfl
set_option maxRecDepth 20000 in
theorem mk_X3_106 : Cond.methodLink RX3 106 yX3_fail ∈ zWL := zw3 (List.mem_of_getElem? (i := 105) rfl) rfl
set_option maxRecDepth 20000 in
theorem mk_X3_87 : Cond.methodLink RX3 87 yX3_take ∈ zWL := zw3 (List.mem_of_getElem? (i := 109) rfl) rfl
set_option maxRecDepth 20000 in
theorem mk_X3_109 : Cond.methodLink RX3 109 yX3_newName ∈ zWL := zw3 (List.mem_of_getElem? (i := 113) rfl) rfl
set_option maxRecDepth 20000 in
theorem mk_X3_125 : Cond.methodLink RX3 125 yX3_placeNamed ∈ zWL := zw3 (List.mem_of_getElem? (i := 117) rfl) rfl
set_option maxRecDepth 20000 in
theorem mk_X3_129 : Cond.methodLink RX3 129 yX3_failLate ∈ zWL := zw3 (List.mem_of_getElem? (i := 121) rfl) rfl
set_option maxRecDepth 20000 in
theorem mk_X3_117 : Cond.methodLink RX3 117 yX9_setPlace ∈ zWL := zw3 (List.mem_of_getElem? (i := 125) rfl) rfl
set_option maxRecDepth 20000 in
theorem mk_X3_77 : Cond.methodLink RX3 77 yX3_newPlace ∈ zWL := zw3 (List.mem_of_getElem? (i := 129) rfl) rfl
set_option maxRecDepth 20000 in
theorem mk_X3_121 : Cond.methodLink RX3 121 yX3_knownName ∈ zWL := zw3 (List.mem_of_getElem? (i := 133) rfl) rfl
set_option maxRecDepth 20000 in
theorem mk_X3_90 : Cond.methodLink RX3 90 yX3_number ∈ zWL := zw3 (List.mem_of_getElem? (i := 138) rfl) rfl
set_option maxRecDepth 20000 in
theorem mk_X3_80 : Cond.methodLinkNest RX3 80 yX10_isWithin "SourceDispute" ∈ tables_1 := (zt3 (List.mem_of_getElem? (i := 142) rfl))
set_option maxRecDepth 20000 in
theorem mk_X3_84 : Cond.methodLink RX3 84 yX3_law ∈ zWL := zw3 (List.mem_of_getElem? (i := 145) rfl) rfl
set_option maxRecDepth 20000 in
theorem mk_X3_140 : Cond.methodLink RX3 140 yX3_sum ∈ zWL := zw3 (List.mem_of_getElem? (i := 149) rfl) rfl
set_option maxRecDepth 20000 in
theorem mk_X3_156 : Cond.methodLink RX3 156 yX3_product ∈ zWL := zw3 (List.mem_of_getElem? (i := 153) rfl) rfl
set_option maxRecDepth 20000 in
theorem mk_X3_159 : Cond.methodLink RX3 159 yX3_unit ∈ zWL := zw3 (List.mem_of_getElem? (i := 157) rfl) rfl
set_option maxRecDepth 20000 in
theorem mk_X3_145 : Cond.methodLink RX3 145 yX9_addStep ∈ zWL := zw3 (List.mem_of_getElem? (i := 161) rfl) rfl
set_option maxRecDepth 20000 in
theorem mk_X3_149 : Cond.methodLink RX3 149 yX9_setValue ∈ zWL := zw3 (List.mem_of_getElem? (i := 162) rfl) rfl
set_option maxRecDepth 20000 in
theorem mk_X10_100 : Cond.methodLink RX10 100 yX10_beginAnew ∈ zWL := zw3 (List.mem_of_getElem? (i := 166) rfl) rfl
set_option maxRecDepth 20000 in
theorem mk_X10_103 : Cond.methodLink RX10 103 yX1_begin ∈ zWL := zw3 (List.mem_of_getElem? (i := 170) rfl) rfl
set_option maxRecDepth 20000 in
theorem mk_L_28 : Cond.methodLink RL 28 yX10_place ∈ zWL := zw3 (List.mem_of_getElem? (i := 180) rfl) rfl
set_option maxRecDepth 20000 in
theorem mk_L_32 : Cond.methodLink RL 32 yX10_spot ∈ zWL := zw3 (List.mem_of_getElem? (i := 184) rfl) rfl
set_option maxRecDepth 20000 in
theorem mk_X10_109 : Cond.methodLink RX10 109 yX10_isPlace ∈ zWL := zw3 (List.mem_of_getElem? (i := 188) rfl) rfl
set_option maxRecDepth 20000 in
theorem mk_X10_229 : Cond.methodLink RX10 229 yX10_isWithin ∈ zWL := zw3 (List.mem_of_getElem? (i := 192) rfl) rfl
set_option maxRecDepth 20000 in
theorem mk_X10_113 : Cond.methodLink RX10 113 yX10_look ∈ zWL := zw3 (List.mem_of_getElem? (i := 193) rfl) rfl
set_option maxRecDepth 20000 in
theorem mk_X10_271 : Cond.methodLink RX10 271 yX5_look ∈ zWL := zw3 (List.mem_of_getElem? (i := 197) rfl) rfl
set_option maxRecDepth 20000 in
theorem mk_X5_43 : Cond.methodLink RX5 43 yX5_form ∈ zWL := zw3 (List.mem_of_getElem? (i := 201) rfl) rfl
set_option maxRecDepth 20000 in
theorem mk_X5_51 : Cond.methodLink RX5 51 yX6_form ∈ zWL := zw3 (List.mem_of_getElem? (i := 205) rfl) rfl
set_option maxRecDepth 20000 in
theorem mk_X6_44 : Cond.methodLinkNest RX6 44 yX10_bit "SourceDispute" ∈ tables_1 := (zt3 (List.mem_of_getElem? (i := 210) rfl))
set_option maxRecDepth 20000 in
theorem mk_X6_53 : Cond.methodLink RX6 53 yX6_countAbove ∈ zWL := zw3 (List.mem_of_getElem? (i := 213) rfl) rfl
set_option maxRecDepth 20000 in
theorem mk_X5_47 : Cond.methodLink RX5 47 yX5_fall ∈ zWL := zw3 (List.mem_of_getElem? (i := 218) rfl) rfl
set_option maxRecDepth 20000 in
theorem mk_X5_52 : Cond.methodLink RX5 52 yX5_rainDown ∈ zWL := zw3 (List.mem_of_getElem? (i := 222) rfl) rfl
set_option maxRecDepth 20000 in
theorem mk_X5_69 : Cond.methodLink RX5 69 yX5_tells ∈ zWL := zw3 (List.mem_of_getElem? (i := 226) rfl) rfl
set_option maxRecDepth 20000 in
theorem mk_X5_108 : Cond.methodLink RX5 108 yX1_moon ∈ zWL := zw3 (List.mem_of_getElem? (i := 230) rfl) rfl
set_option maxRecDepth 20000 in
theorem mk_X5_121 : Cond.methodLink RX5 121 yX0_answer ∈ zWL := zw3 (List.mem_of_getElem? (i := 234) rfl) rfl
set_option maxRecDepth 20000 in
theorem mk_X5_73 : Cond.methodLinkNest RX5 73 yX10_held "SourceDispute" ∈ tables_1 := (zt3 (List.mem_of_getElem? (i := 238) rfl))
set_option maxRecDepth 20000 in
theorem mk_X5_61 : Cond.methodLink RX5 61 yX5_run ∈ zWL := zw4 (List.mem_of_getElem? (i := 3) rfl) rfl
set_option maxRecDepth 20000 in
theorem mk_X5_85 : Cond.methodLinkNest RX5 85 yX10_has "SourceDispute" ∈ tables_1 := (zt4 (List.mem_of_getElem? (i := 8) rfl))
set_option maxRecDepth 20000 in
theorem mk_X10_216 : Cond.methodLink RX10 216 yX10_bit ∈ zWL := zw4 (List.mem_of_getElem? (i := 11) rfl) rfl
set_option maxRecDepth 20000 in
theorem mk_X5_92 : Cond.methodLink RX5 92 yX5_dried ∈ zWL := zw4 (List.mem_of_getElem? (i := 12) rfl) rfl
set_option maxRecDepth 20000 in
theorem mk_X10_131 : Cond.methodLink RX10 131 yX10_has ∈ zWL := zw4 (List.mem_of_getElem? (i := 16) rfl) rfl
set_option maxRecDepth 20000 in
theorem mk_X10_146 : Cond.methodLink RX10 146 yX6_isSource ∈ zWL := zw4 (List.mem_of_getElem? (i := 17) rfl) rfl
set_option maxRecDepth 20000 in
theorem mk_X10_158 : Cond.methodLink RX10 158 yX5_dried ∈ zWL := zw4 (List.mem_of_getElem? (i := 21) rfl) rfl
set_option maxRecDepth 20000 in
theorem mk_L_37 : Cond.methodLink RL 37 yX10_claim ∈ zWL := zw4 (List.mem_of_getElem? (i := 22) rfl) rfl
set_option maxRecDepth 20000 in
theorem mk_X10_162 : Cond.methodLink RX10 162 yX10_isContest ∈ zWL := zw4 (List.mem_of_getElem? (i := 26) rfl) rfl
set_option maxRecDepth 20000 in
theorem mk_X10_169 : Cond.methodLink RX10 169 yX10_isLaw ∈ zWL := zw4 (List.mem_of_getElem? (i := 30) rfl) rfl
set_option maxRecDepth 20000 in
theorem mk_X10_165 : Cond.methodLink RX10 165 yX5_claimOf ∈ zWL := zw4 (List.mem_of_getElem? (i := 34) rfl) rfl
set_option maxRecDepth 20000 in
theorem mk_L_41 : Cond.methodLink RL 41 yX10_winner ∈ zWL := zw4 (List.mem_of_getElem? (i := 39) rfl) rfl
set_option maxRecDepth 20000 in
theorem mk_X10_172 : Cond.methodLink RX10 172 yX5_winnerBy ∈ zWL := zw4 (List.mem_of_getElem? (i := 43) rfl) rfl
set_option maxRecDepth 20000 in
theorem mk_X5_134 : Cond.methodLink RX5 134 yX5_weigh ∈ zWL := zw4 (List.mem_of_getElem? (i := 47) rfl) rfl
set_option maxRecDepth 20000 in
theorem mk_X5_126 : Cond.methodLink RX5 126 yX6_isSource ∈ zWL := zw4 (List.mem_of_getElem? (i := 51) rfl) rfl
set_option maxRecDepth 20000 in
theorem mk_X5_130 : Cond.methodLink RX5 130 yX5_claimOf ∈ zWL := zw4 (List.mem_of_getElem? (i := 52) rfl) rfl
set_option maxRecDepth 20000 in
theorem mk_X5_137 : Cond.methodLink RX5 137 yX5_greatestClaim ∈ zWL := zw4 (List.mem_of_getElem? (i := 53) rfl) rfl
set_option maxRecDepth 20000 in
theorem mk_L_191 : Cond.methodLink RL 191 yX10_count ∈ zWL := zw4 (List.mem_of_getElem? (i := 57) rfl) rfl
set_option maxRecDepth 20000 in
theorem mk_X10_181 : Cond.methodLink RX10 181 yX1_moon ∈ zWL := zw4 (List.mem_of_getElem? (i := 61) rfl) rfl
set_option maxRecDepth 20000 in
theorem mk_X10_188 : Cond.methodLink RX10 188 yX6_sources ∈ zWL := zw4 (List.mem_of_getElem? (i := 62) rfl) rfl
set_option maxRecDepth 20000 in
theorem mk_X10_191 : Cond.methodLink RX10 191 yX10_mouthFlow ∈ zWL := zw4 (List.mem_of_getElem? (i := 66) rfl) rfl
set_option maxRecDepth 20000 in
theorem mk_X10_277 : Cond.methodLink RX10 277 yX10_hasMouth ∈ zWL := zw4 (List.mem_of_getElem? (i := 70) rfl) rfl
set_option maxRecDepth 20000 in
theorem mk_X10_194 : Cond.methodLink RX10 194 yX10_sumOf ∈ zWL := zw4 (List.mem_of_getElem? (i := 74) rfl) rfl
set_option maxRecDepth 20000 in
theorem mk_X10_206 : Cond.methodLink RX10 206 yX9_isStorm ∈ zWL := zw4 (List.mem_of_getElem? (i := 84) rfl) rfl
set_option maxRecDepth 20000 in
theorem mk_X9_68 : Cond.methodLink RX9 68 yX9_lot ∈ zWL := zw4 (List.mem_of_getElem? (i := 88) rfl) rfl
set_option maxRecDepth 20000 in
theorem mk_X9_72 : Cond.methodLink RX9 72 yX9_stirred ∈ zWL := zw4 (List.mem_of_getElem? (i := 91) rfl) rfl
set_option maxRecDepth 20000 in
theorem mk_X10_209 : Cond.methodLink RX10 209 yX10_turnedPlaces ∈ zWL := zw4 (List.mem_of_getElem? (i := 96) rfl) rfl
set_option maxRecDepth 20000 in
theorem mk_X10_212 : Cond.methodLink RX10 212 yX6_greatestFar ∈ zWL := zw4 (List.mem_of_getElem? (i := 100) rfl) rfl
set_option maxRecDepth 20000 in
theorem mk_L_45 : Cond.methodLink RL 45 yX10_dam ∈ zWL := zw4 (List.mem_of_getElem? (i := 105) rfl) rfl
set_option maxRecDepth 20000 in
theorem mk_X10_219 : Cond.methodLink RX10 219 yX4_push ∈ zWL := zw4 (List.mem_of_getElem? (i := 109) rfl) rfl
set_option maxRecDepth 20000 in
theorem mk_X4_23 : Cond.methodLink RX4 23 yX1_copy ∈ zWL := zw4 (List.mem_of_getElem? (i := 113) rfl) rfl
set_option maxRecDepth 20000 in
theorem mk_L_50 : Cond.methodLink RL 50 yX10_turn ∈ zWL := zw4 (List.mem_of_getElem? (i := 118) rfl) rfl
set_option maxRecDepth 20000 in
theorem mk_X10_223 : Cond.methodLink RX10 223 yX10_isTurn ∈ zWL := zw4 (List.mem_of_getElem? (i := 122) rfl) rfl
set_option maxRecDepth 20000 in
theorem mk_X10_226 : Cond.methodLink RX10 226 yX1_comesBy ∈ zWL := zw4 (List.mem_of_getElem? (i := 126) rfl) rfl
set_option maxRecDepth 20000 in
theorem mk_L_55 : Cond.methodLink RL 55 yX10_rule ∈ zWL := zw4 (List.mem_of_getElem? (i := 130) rfl) rfl
set_option maxRecDepth 20000 in
theorem mk_L_60 : Cond.methodLink RL 60 yX10_months ∈ zWL := zw4 (List.mem_of_getElem? (i := 134) rfl) rfl
set_option maxRecDepth 20000 in
theorem mk_X10_233 : Cond.methodLink RX10 233 yX5_goThrough ∈ zWL := zw4 (List.mem_of_getElem? (i := 138) rfl) rfl
set_option maxRecDepth 20000 in
theorem mk_X5_159 : Cond.methodLink RX5 159 yX9_isStorm ∈ zWL := zw4 (List.mem_of_getElem? (i := 142) rfl) rfl
set_option maxRecDepth 20000 in
theorem mk_X5_156 : Cond.methodLink RX5 156 yX5_endMonth ∈ zWL := zw4 (List.mem_of_getElem? (i := 143) rfl) rfl
set_option maxRecDepth 20000 in
theorem mk_X5_143 : Cond.methodLink RX5 143 yX5_winnerBy ∈ zWL := zw4 (List.mem_of_getElem? (i := 147) rfl) rfl
set_option maxRecDepth 20000 in
theorem mk_X5_149 : Cond.methodLink RX5 149 yX1_pay ∈ zWL := zw4 (List.mem_of_getElem? (i := 148) rfl) rfl
set_option maxRecDepth 20000 in
theorem mk_L_64 : Cond.methodLink RL 64 yX10_undo ∈ zWL := zw4 (List.mem_of_getElem? (i := 153) rfl) rfl
set_option maxRecDepth 20000 in
theorem mk_X10_237 : Cond.methodLink RX10 237 yX4_pop ∈ zWL := zw4 (List.mem_of_getElem? (i := 157) rfl) rfl
set_option maxRecDepth 20000 in
theorem mk_L_183 : Cond.methodLink RL 183 yX10_hold ∈ zWL := zw4 (List.mem_of_getElem? (i := 161) rfl) rfl
set_option maxRecDepth 20000 in
theorem mk_X10_241 : Cond.methodLink RX10 241 yX1_copy ∈ zWL := zw4 (List.mem_of_getElem? (i := 165) rfl) rfl
set_option maxRecDepth 20000 in
theorem mk_L_187 : Cond.methodLink RL 187 yX10_restore ∈ zWL := zw4 (List.mem_of_getElem? (i := 166) rfl) rfl
set_option maxRecDepth 20000 in
theorem mk_L_73 : Cond.methodLink RL 73 yX10_behind ∈ zWL := zw4 (List.mem_of_getElem? (i := 170) rfl) rfl
set_option maxRecDepth 20000 in
theorem mk_L_77 : Cond.methodLink RL 77 yX10_margin ∈ zWL := zw4 (List.mem_of_getElem? (i := 174) rfl) rfl
set_option maxRecDepth 20000 in
theorem mk_X10_247 : Cond.methodLink RX10 247 yX5_weigh ∈ zWL := zw4 (List.mem_of_getElem? (i := 178) rfl) rfl
set_option maxRecDepth 20000 in
theorem mk_X10_250 : Cond.methodLink RX10 250 yX5_greatestClaim ∈ zWL := zw4 (List.mem_of_getElem? (i := 179) rfl) rfl
set_option maxRecDepth 20000 in
theorem mk_L_85 : Cond.methodLink RL 85 yX10_rank ∈ zWL := zw4 (List.mem_of_getElem? (i := 180) rfl) rfl
set_option maxRecDepth 20000 in
theorem mk_X10_253 : Cond.methodLink RX10 253 yX5_rankOf ∈ zWL := zw4 (List.mem_of_getElem? (i := 184) rfl) rfl
set_option maxRecDepth 20000 in
theorem mk_L_89 : Cond.methodLink RL 89 yX10_vote ∈ zWL := zw4 (List.mem_of_getElem? (i := 188) rfl) rfl
set_option maxRecDepth 20000 in
theorem mk_X10_256 : Cond.methodLink RX10 256 yX10_castVotes ∈ zWL := zw4 (List.mem_of_getElem? (i := 192) rfl) rfl
set_option maxRecDepth 20000 in
theorem mk_X10_259 : Cond.methodLink RX10 259 yX10_votesFor ∈ zWL := zw4 (List.mem_of_getElem? (i := 196) rfl) rfl
set_option maxRecDepth 20000 in
theorem mk_L_81 : Cond.methodLink RL 81 yX10_richest ∈ zWL := zw4 (List.mem_of_getElem? (i := 200) rfl) rfl
set_option maxRecDepth 20000 in
theorem mk_L_109 : Cond.methodLink RL 109 yX10_turnFor ∈ zWL := zw4 (List.mem_of_getElem? (i := 204) rfl) rfl
set_option maxRecDepth 20000 in
theorem mk_X10_267 : Cond.methodLink RX10 267 yX10_winsTurned ∈ zWL := zw4 (List.mem_of_getElem? (i := 208) rfl) rfl
set_option maxRecDepth 20000 in
theorem mk_L_113 : Cond.methodLink RL 113 yX10_damFor ∈ zWL := zw4 (List.mem_of_getElem? (i := 212) rfl) rfl
set_option maxRecDepth 20000 in
theorem mk_X10_274 : Cond.methodLink RX10 274 yX5_run ∈ zWL := zw4 (List.mem_of_getElem? (i := 216) rfl) rfl
set_option maxRecDepth 20000 in
theorem mk_L_93 : Cond.methodLink RL 93 yX10_dams ∈ zWL := zw4 (List.mem_of_getElem? (i := 217) rfl) rfl
set_option maxRecDepth 20000 in
theorem mk_X10_281 : Cond.methodLink RX10 281 yX10_fewestDams ∈ zWL := zw4 (List.mem_of_getElem? (i := 221) rfl) rfl
set_option maxRecDepth 20000 in
theorem mk_X10_287 : Cond.methodLink RX10 287 yX10_isAhead ∈ zWL := zw4 (List.mem_of_getElem? (i := 225) rfl) rfl
set_option maxRecDepth 20000 in
theorem mk_X10_284 : Cond.methodLink RX10 284 yX10_bitAt ∈ zWL := zw4 (List.mem_of_getElem? (i := 228) rfl) rfl
set_option maxRecDepth 20000 in
theorem mk_L_97 : Cond.methodLink RL 97 yX10_loss ∈ zWL := zw4 (List.mem_of_getElem? (i := 231) rfl) rfl
set_option maxRecDepth 20000 in
theorem mk_X10_290 : Cond.methodLink RX10 290 yX10_lossOf ∈ zWL := zw4 (List.mem_of_getElem? (i := 235) rfl) rfl
set_option maxRecDepth 20000 in
theorem mk_L_129 : Cond.methodLink RL 129 yX10_part ∈ zWL := zw4 (List.mem_of_getElem? (i := 239) rfl) rfl
set_option maxRecDepth 20000 in
theorem mk_L_101 : Cond.methodLink RL 101 yX10_main ∈ zWL := zw5 (List.mem_of_getElem? (i := 3) rfl) rfl
set_option maxRecDepth 20000 in
theorem mk_X10_293 : Cond.methodLink RX10 293 yX10_greatestInto ∈ zWL := zw5 (List.mem_of_getElem? (i := 7) rfl) rfl
set_option maxRecDepth 20000 in
theorem mk_L_69 : Cond.methodLink RL 69 yX10_agree ∈ zWL := zw5 (List.mem_of_getElem? (i := 11) rfl) rfl
set_option maxRecDepth 20000 in
theorem mk_X10_296 : Cond.methodLink RX10 296 yX10_tryFromNow ∈ zWL := zw5 (List.mem_of_getElem? (i := 15) rfl) rfl
set_option maxRecDepth 20000 in
theorem mk_X10_299 : Cond.methodLink RX10 299 yX5_goOn ∈ zWL := zw5 (List.mem_of_getElem? (i := 19) rfl) rfl
set_option maxRecDepth 20000 in
theorem mk_L_105 : Cond.methodLink RL 105 yX10_driest ∈ zWL := zw5 (List.mem_of_getElem? (i := 23) rfl) rfl
set_option maxRecDepth 20000 in
theorem mk_L_133 : Cond.methodLink RL 133 yX10_reign ∈ zWL := zw5 (List.mem_of_getElem? (i := 27) rfl) rfl
set_option maxRecDepth 20000 in
theorem mk_X10_308 : Cond.methodLink RX10 308 yX10_tallied ∈ zWL := zw5 (List.mem_of_getElem? (i := 32) rfl) rfl
set_option maxRecDepth 20000 in
theorem mk_X10_311 : Cond.methodLink RX10 311 yX10_mostTallied ∈ zWL := zw5 (List.mem_of_getElem? (i := 36) rfl) rfl
set_option maxRecDepth 20000 in
theorem mk_L_150 : Cond.methodLink RL 150 yX10_when ∈ zWL := zw5 (List.mem_of_getElem? (i := 40) rfl) rfl
set_option maxRecDepth 20000 in
theorem mk_L_154 : Cond.methodLink RL 154 yX10_then ∈ zWL := zw5 (List.mem_of_getElem? (i := 44) rfl) rfl
set_option maxRecDepth 20000 in
theorem mk_L_158 : Cond.methodLink RL 158 yX10_flowIn ∈ zWL := zw5 (List.mem_of_getElem? (i := 48) rfl) rfl
set_option maxRecDepth 20000 in
theorem mk_L_162 : Cond.methodLink RL 162 yX10_year ∈ zWL := zw5 (List.mem_of_getElem? (i := 52) rfl) rfl
set_option maxRecDepth 20000 in
theorem mk_X10_314 : Cond.methodLink RX10 314 yX10_hasWonMost ∈ zWL := zw5 (List.mem_of_getElem? (i := 56) rfl) rfl
set_option maxRecDepth 20000 in
theorem mk_L_117 : Cond.methodLink RL 117 yX10_depth ∈ zWL := zw5 (List.mem_of_getElem? (i := 60) rfl) rfl
set_option maxRecDepth 20000 in
theorem mk_X10_317 : Cond.methodLink RX10 317 yX6_deepest ∈ zWL := zw5 (List.mem_of_getElem? (i := 64) rfl) rfl
set_option maxRecDepth 20000 in
theorem mk_L_121 : Cond.methodLink RL 121 yX10_order ∈ zWL := zw5 (List.mem_of_getElem? (i := 69) rfl) rfl
set_option maxRecDepth 20000 in
theorem mk_X10_320 : Cond.methodLink RX10 320 yX6_orderOf ∈ zWL := zw5 (List.mem_of_getElem? (i := 73) rfl) rfl
set_option maxRecDepth 20000 in
theorem mk_L_125 : Cond.methodLink RL 125 yX10_basin ∈ zWL := zw5 (List.mem_of_getElem? (i := 77) rfl) rfl
set_option maxRecDepth 20000 in
theorem mk_X10_324 : Cond.methodLink RX10 324 yX6_comingBy ∈ zWL := zw5 (List.mem_of_getElem? (i := 81) rfl) rfl
set_option maxRecDepth 20000 in
theorem mk_X6_63 : Cond.methodLinkNest RX6 63 yX10_has "SourceDispute" ∈ tables_1 := (zt5 (List.mem_of_getElem? (i := 85) rfl))
set_option maxRecDepth 20000 in
theorem mk_X10_327 : Cond.methodLink RX10 327 yX5_rainsOf ∈ zWL := zw5 (List.mem_of_getElem? (i := 86) rfl) rfl
set_option maxRecDepth 20000 in
theorem mk_L_138 : Cond.methodLink RL 138 yX10_tour ∈ zWL := zw5 (List.mem_of_getElem? (i := 90) rfl) rfl
set_option maxRecDepth 20000 in
theorem mk_X10_330 : Cond.methodLink RX10 330 yX6_tourOf ∈ zWL := zw5 (List.mem_of_getElem? (i := 94) rfl) rfl
set_option maxRecDepth 20000 in
theorem mk_L_142 : Cond.methodLink RL 142 yX10_parted ∈ zWL := zw5 (List.mem_of_getElem? (i := 98) rfl) rfl
set_option maxRecDepth 20000 in
theorem mk_L_146 : Cond.methodLink RL 146 yX10_meet ∈ zWL := zw5 (List.mem_of_getElem? (i := 102) rfl) rfl
set_option maxRecDepth 20000 in
theorem mk_X10_336 : Cond.methodLink RX10 336 yX6_meeting ∈ zWL := zw5 (List.mem_of_getElem? (i := 106) rfl) rfl
set_option maxRecDepth 20000 in
theorem mk_L_166 : Cond.methodLink RL 166 yX10_tell ∈ zWL := zw5 (List.mem_of_getElem? (i := 110) rfl) rfl
set_option maxRecDepth 20000 in
theorem mk_X10_339 : Cond.methodLink RX10 339 yX2_add ∈ zWL := zw5 (List.mem_of_getElem? (i := 114) rfl) rfl
set_option maxRecDepth 20000 in
theorem mk_L_171 : Cond.methodLink RL 171 yX10_forget ∈ zWL := zw5 (List.mem_of_getElem? (i := 118) rfl) rfl
set_option maxRecDepth 20000 in
theorem mk_L_175 : Cond.methodLink RL 175 yX10_dyed ∈ zWL := zw5 (List.mem_of_getElem? (i := 122) rfl) rfl
set_option maxRecDepth 20000 in
theorem mk_X10_343 : Cond.methodLink RX10 343 yX2_left ∈ zWL := zw5 (List.mem_of_getElem? (i := 126) rfl) rfl
set_option maxRecDepth 20000 in
theorem mk_X2_34 : Cond.methodLink RX2 34 yX6_isSource ∈ zWL := zw5 (List.mem_of_getElem? (i := 130) rfl) rfl
set_option maxRecDepth 20000 in
theorem mk_X2_38 : Cond.methodLink RX2 38 yX2_isSo ∈ zWL := zw5 (List.mem_of_getElem? (i := 131) rfl) rfl
set_option maxRecDepth 20000 in
theorem mk_X2_52 : Cond.methodLinkNest RX2 52 yX10_has "SourceDispute" ∈ tables_1 := (zt5 (List.mem_of_getElem? (i := 135) rfl))
set_option maxRecDepth 20000 in
theorem mk_X2_56 : Cond.methodLinkNest RX2 56 yX10_isWithin "SourceDispute" ∈ tables_1 := (zt5 (List.mem_of_getElem? (i := 136) rfl))
set_option maxRecDepth 20000 in
theorem mk_X2_42 : Cond.methodLinkNest RX2 42 yX10_bit "SourceDispute" ∈ tables_1 := (zt5 (List.mem_of_getElem? (i := 137) rfl))
set_option maxRecDepth 20000 in
theorem mk_L_179 : Cond.methodLink RL 179 yX10_watch ∈ zWL := zw5 (List.mem_of_getElem? (i := 138) rfl) rfl
set_option maxRecDepth 20000 in
theorem mk_X10_347 : Cond.methodLink RX10 347 yX10_leftAtWorst ∈ zWL := zw5 (List.mem_of_getElem? (i := 142) rfl) rfl
set_option maxRecDepth 20000 in
theorem mk_X11_155 : Cond.methodLink RX11 155 yX11_plain ∈ zWL := zw5 (List.mem_of_getElem? (i := 152) rfl) rfl
set_option maxRecDepth 20000 in
theorem mk_X11_159 : Cond.methodLink RX11 159 yX11_word ∈ zWL := zw5 (List.mem_of_getElem? (i := 156) rfl) rfl
set_option maxRecDepth 20000 in
theorem mk_X11_180 : Cond.methodLink RX11 180 yX11_appends ∈ zWL := zw5 (List.mem_of_getElem? (i := 159) rfl) rfl
set_option maxRecDepth 20000 in
theorem mk_X11_163 : Cond.methodLink RX11 163 yX11_begins ∈ zWL := zw5 (List.mem_of_getElem? (i := 163) rfl) rfl
set_option maxRecDepth 20000 in
theorem mk_X11_313 : Cond.methodLink RX11 313 yX11_many ∈ zWL := zw5 (List.mem_of_getElem? (i := 167) rfl) rfl
set_option maxRecDepth 20000 in
theorem mk_X11_166 : Cond.methodLink RX11 166 yX11_keepsRow ∈ zWL := zw5 (List.mem_of_getElem? (i := 171) rfl) rfl
set_option maxRecDepth 20000 in
theorem mk_L_17 : Cond.methodLink RL 17 yX11_feed ∈ zWL := zw6 (List.mem_of_getElem? (i := 142) rfl) rfl
set_option maxRecDepth 20000 in
theorem mk_X11_172 : Cond.methodLink RX11 172 yX11_put ∈ zWL := zw6 (List.mem_of_getElem? (i := 146) rfl) rfl
set_option maxRecDepth 20000 in
theorem mk_L_22 : Cond.methodLink RL 22 yX11_back ∈ zWL := zw6 (List.mem_of_getElem? (i := 150) rfl) rfl
set_option maxRecDepth 20000 in
theorem mk_L_27 : Cond.methodLink RL 27 yX11_read ∈ zWL := zw6 (List.mem_of_getElem? (i := 154) rfl) rfl
set_option maxRecDepth 20000 in
theorem mk_X11_230 : Cond.methodLink RX11 230 yX11_cut ∈ zWL := zw6 (List.mem_of_getElem? (i := 158) rfl) rfl
set_option maxRecDepth 20000 in
theorem mk_X11_187 : Cond.methodLink RX11 187 yX11_byteAt ∈ zWL := zw6 (List.mem_of_getElem? (i := 162) rfl) rfl
set_option maxRecDepth 20000 in
theorem mk_X11_191 : Cond.methodLink RX11 191 yX11_token ∈ zWL := zw6 (List.mem_of_getElem? (i := 166) rfl) rfl
set_option maxRecDepth 20000 in
theorem mk_X11_195 : Cond.methodLink RX11 195 yX11_isLetter ∈ zWL := zw6 (List.mem_of_getElem? (i := 170) rfl) rfl
set_option maxRecDepth 20000 in
theorem mk_X11_199 : Cond.methodLink RX11 199 yX11_isDigit ∈ zWL := zw6 (List.mem_of_getElem? (i := 173) rfl) rfl
set_option maxRecDepth 20000 in
theorem mk_X11_202 : Cond.methodLink RX11 202 yX11_sign ∈ zWL := zw6 (List.mem_of_getElem? (i := 176) rfl) rfl
set_option maxRecDepth 20000 in
theorem mk_X11_224 : Cond.methodLink RX11 224 yX11_is ∈ zWL := zw6 (List.mem_of_getElem? (i := 180) rfl) rfl
set_option maxRecDepth 20000 in
theorem mk_X11_255 : Cond.methodLink RX11 255 yX11_tellOne ∈ zWL := zw6 (List.mem_of_getElem? (i := 184) rfl) rfl
set_option maxRecDepth 20000 in
theorem mk_X11_221 : Cond.methodLink RX11 221 yX11_fail ∈ zWL := zw6 (List.mem_of_getElem? (i := 188) rfl) rfl
set_option maxRecDepth 20000 in
theorem mk_X11_227 : Cond.methodLink RX11 227 yX11_goesOn ∈ zWL := zw6 (List.mem_of_getElem? (i := 192) rfl) rfl
set_option maxRecDepth 20000 in
theorem mk_X11_264 : Cond.methodLink RX11 264 yX11_tellMouth ∈ zWL := zw6 (List.mem_of_getElem? (i := 196) rfl) rfl
set_option maxRecDepth 20000 in
theorem mk_X11_287 : Cond.methodLink RX11 287 yX11_named ∈ zWL := zw6 (List.mem_of_getElem? (i := 200) rfl) rfl
set_option maxRecDepth 20000 in
theorem mk_X11_274 : Cond.methodLink RX11 274 yX11_must ∈ zWL := zw6 (List.mem_of_getElem? (i := 204) rfl) rfl
set_option maxRecDepth 20000 in
theorem mk_X11_280 : Cond.methodLink RX11 280 yX11_numberOf ∈ zWL := zw6 (List.mem_of_getElem? (i := 208) rfl) rfl
set_option maxRecDepth 20000 in
theorem mk_X11_283 : Cond.methodLink RX11 283 yX11_wrong ∈ zWL := zw6 (List.mem_of_getElem? (i := 212) rfl) rfl
set_option maxRecDepth 20000 in
theorem mk_X11_267 : Cond.methodLink RX11 267 yX11_tellPlace ∈ zWL := zw6 (List.mem_of_getElem? (i := 216) rfl) rfl
set_option maxRecDepth 20000 in
theorem mk_X11_270 : Cond.methodLink RX11 270 yX11_bounded ∈ zWL := zw6 (List.mem_of_getElem? (i := 220) rfl) rfl
set_option maxRecDepth 20000 in
theorem mk_X11_277 : Cond.methodLink RX11 277 yX11_tellLaw ∈ zWL := zw6 (List.mem_of_getElem? (i := 224) rfl) rfl
set_option maxRecDepth 20000 in
theorem mk_X11_291 : Cond.methodLink RX11 291 yX11_expression ∈ zWL := zw6 (List.mem_of_getElem? (i := 228) rfl) rfl
set_option maxRecDepth 20000 in
theorem mk_X11_303 : Cond.methodLink RX11 303 yX11_unit ∈ zWL := zw6 (List.mem_of_getElem? (i := 232) rfl) rfl
set_option maxRecDepth 20000 in
theorem mk_X11_300 : Cond.methodLink RX11 300 yX11_emit ∈ zWL := zw6 (List.mem_of_getElem? (i := 236) rfl) rfl
set_option maxRecDepth 20000 in
theorem mk_X11_306 : Cond.methodLink RX11 306 yX11_comesOut ∈ zWL := zw7 (List.mem_of_getElem? (i := 0) rfl) rfl
set_option maxRecDepth 20000 in
theorem mk_X11_294 : Cond.methodLink RX11 294 yX11_term ∈ zWL := zw7 (List.mem_of_getElem? (i := 4) rfl) rfl
set_option maxRecDepth 20000 in
theorem mk_L_31 : Cond.methodLink RL 31 yX11_place ∈ zWL := zw7 (List.mem_of_getElem? (i := 8) rfl) rfl
set_option maxRecDepth 20000 in
theorem mk_L_36 : Cond.methodLink RL 36 yX11_spot ∈ zWL := zw7 (List.mem_of_getElem? (i := 12) rfl) rfl
set_option maxRecDepth 20000 in
theorem mk_X11_383 : Cond.methodLink RX11 383 yX11_isPlace ∈ zWL := zw7 (List.mem_of_getElem? (i := 16) rfl) rfl
set_option maxRecDepth 20000 in
theorem mk_X11_316 : Cond.methodLink RX11 316 yX11_in ∈ zWL := zw7 (List.mem_of_getElem? (i := 20) rfl) rfl
set_option maxRecDepth 20000 in
theorem mk_X11_332 : Cond.methodLink RX11 332 yX11_copies ∈ zWL := zw7 (List.mem_of_getElem? (i := 23) rfl) rfl
set_option maxRecDepth 20000 in
theorem mk_X11_326 : Cond.methodLink RX11 326 yX11_fillsWays ∈ zWL := zw7 (List.mem_of_getElem? (i := 27) rfl) rfl
set_option maxRecDepth 20000 in
theorem mk_X11_329 : Cond.methodLink RX11 329 yX11_fillsFlows ∈ zWL := zw7 (List.mem_of_getElem? (i := 31) rfl) rfl
set_option maxRecDepth 20000 in
theorem mk_X11_360 : Cond.methodLink RX11 360 yX11_rainsAt ∈ zWL := zw7 (List.mem_of_getElem? (i := 35) rfl) rfl
set_option maxRecDepth 20000 in
theorem mk_X11_351 : Cond.methodLink RX11 351 yX11_looks ∈ zWL := zw7 (List.mem_of_getElem? (i := 39) rfl) rfl
set_option maxRecDepth 20000 in
theorem mk_X11_345 : Cond.methodLink RX11 345 yX11_bits ∈ zWL := zw7 (List.mem_of_getElem? (i := 43) rfl) rfl
set_option maxRecDepth 20000 in
theorem mk_X11_354 : Cond.methodLink RX11 354 yX11_lawTells ∈ zWL := zw7 (List.mem_of_getElem? (i := 46) rfl) rfl
set_option maxRecDepth 20000 in
theorem mk_X11_348 : Cond.methodLink RX11 348 yX11_termOf ∈ zWL := zw7 (List.mem_of_getElem? (i := 50) rfl) rfl
set_option maxRecDepth 20000 in
theorem mk_X11_357 : Cond.methodLink RX11 357 yX11_within ∈ zWL := zw7 (List.mem_of_getElem? (i := 54) rfl) rfl
set_option maxRecDepth 20000 in
theorem mk_X11_363 : Cond.methodLink RX11 363 yX11_driesAt ∈ zWL := zw7 (List.mem_of_getElem? (i := 57) rfl) rfl
set_option maxRecDepth 20000 in
theorem mk_X11_342 : Cond.methodLink RX11 342 yX11_isSource ∈ zWL := zw7 (List.mem_of_getElem? (i := 61) rfl) rfl
set_option maxRecDepth 20000 in
theorem mk_X11_339 : Cond.methodLink RX11 339 yX11_isBeside ∈ zWL := zw7 (List.mem_of_getElem? (i := 65) rfl) rfl
set_option maxRecDepth 20000 in
theorem mk_L_40 : Cond.methodLink RL 40 yX11_claim ∈ zWL := zw7 (List.mem_of_getElem? (i := 69) rfl) rfl
set_option maxRecDepth 20000 in
theorem mk_X11_389 : Cond.methodLink RX11 389 yX11_isClaim ∈ zWL := zw7 (List.mem_of_getElem? (i := 73) rfl) rfl
set_option maxRecDepth 20000 in
theorem mk_X11_386 : Cond.methodLink RX11 386 yX11_isLaw ∈ zWL := zw7 (List.mem_of_getElem? (i := 77) rfl) rfl
set_option maxRecDepth 20000 in
theorem mk_X11_367 : Cond.methodLink RX11 367 yX11_claimOf ∈ zWL := zw7 (List.mem_of_getElem? (i := 80) rfl) rfl
set_option maxRecDepth 20000 in
theorem mk_L_44 : Cond.methodLink RL 44 yX11_winner ∈ zWL := zw7 (List.mem_of_getElem? (i := 85) rfl) rfl
set_option maxRecDepth 20000 in
theorem mk_X11_374 : Cond.methodLink RX11 374 yX11_winnerBy ∈ zWL := zw7 (List.mem_of_getElem? (i := 89) rfl) rfl
set_option maxRecDepth 20000 in
theorem mk_L_49 : Cond.methodLink RL 49 yX11_dam ∈ zWL := zw7 (List.mem_of_getElem? (i := 93) rfl) rfl
set_option maxRecDepth 20000 in
theorem mk_X11_396 : Cond.methodLink RX11 396 yX11_does ∈ zWL := zw7 (List.mem_of_getElem? (i := 97) rfl) rfl
set_option maxRecDepth 20000 in
theorem mk_X11_393 : Cond.methodLink RX11 393 yX11_records ∈ zWL := zw7 (List.mem_of_getElem? (i := 101) rfl) rfl
set_option maxRecDepth 20000 in
theorem mk_L_54 : Cond.methodLink RL 54 yX11_turn ∈ zWL := zw7 (List.mem_of_getElem? (i := 105) rfl) rfl
set_option maxRecDepth 20000 in
theorem mk_X11_399 : Cond.methodLink RX11 399 yX11_canTurn ∈ zWL := zw7 (List.mem_of_getElem? (i := 109) rfl) rfl
set_option maxRecDepth 20000 in
theorem mk_L_59 : Cond.methodLink RL 59 yX11_rule ∈ zWL := zw7 (List.mem_of_getElem? (i := 113) rfl) rfl
set_option maxRecDepth 20000 in
theorem mk_L_63 : Cond.methodLink RL 63 yX11_months ∈ zWL := zw7 (List.mem_of_getElem? (i := 117) rfl) rfl
set_option maxRecDepth 20000 in
theorem mk_X11_402 : Cond.methodLink RX11 402 yX11_isLong ∈ zWL := zw7 (List.mem_of_getElem? (i := 121) rfl) rfl
set_option maxRecDepth 20000 in
theorem mk_X11_405 : Cond.methodLink RX11 405 yX11_goes ∈ zWL := zw7 (List.mem_of_getElem? (i := 124) rfl) rfl
set_option maxRecDepth 20000 in
theorem mk_X11_380 : Cond.methodLink RX11 380 yX11_monthGoes ∈ zWL := zw7 (List.mem_of_getElem? (i := 128) rfl) rfl
set_option maxRecDepth 20000 in
theorem mk_X11_370 : Cond.methodLink RX11 370 yX11_isStorm ∈ zWL := zw7 (List.mem_of_getElem? (i := 132) rfl) rfl
set_option maxRecDepth 20000 in
theorem mk_X11_336 : Cond.methodLink RX11 336 yX11_mixed ∈ zWL := zw7 (List.mem_of_getElem? (i := 136) rfl) rfl
set_option maxRecDepth 20000 in
theorem mk_L_68 : Cond.methodLink RL 68 yX11_undo ∈ zWL := zw7 (List.mem_of_getElem? (i := 140) rfl) rfl
set_option maxRecDepth 20000 in
theorem mk_L_72 : Cond.methodLink RL 72 yX11_agree ∈ zWL := zw7 (List.mem_of_getElem? (i := 144) rfl) rfl
set_option maxRecDepth 20000 in
theorem mk_X11_408 : Cond.methodLink RX11 408 yX11_isSome ∈ zWL := zw7 (List.mem_of_getElem? (i := 148) rfl) rfl
set_option maxRecDepth 20000 in
theorem mk_X11_411 : Cond.methodLink RX11 411 yX11_copiesStill ∈ zWL := zw7 (List.mem_of_getElem? (i := 151) rfl) rfl
set_option maxRecDepth 20000 in
theorem mk_L_76 : Cond.methodLink RL 76 yX11_behind ∈ zWL := zw7 (List.mem_of_getElem? (i := 155) rfl) rfl
set_option maxRecDepth 20000 in
theorem mk_L_80 : Cond.methodLink RL 80 yX11_margin ∈ zWL := zw7 (List.mem_of_getElem? (i := 159) rfl) rfl
set_option maxRecDepth 20000 in
theorem mk_L_84 : Cond.methodLink RL 84 yX11_richest ∈ zWL := zw7 (List.mem_of_getElem? (i := 163) rfl) rfl
set_option maxRecDepth 20000 in
theorem mk_L_88 : Cond.methodLink RL 88 yX11_rank ∈ zWL := zw7 (List.mem_of_getElem? (i := 167) rfl) rfl
set_option maxRecDepth 20000 in
theorem mk_X11_414 : Cond.methodLink RX11 414 yX11_rankOf ∈ zWL := zw7 (List.mem_of_getElem? (i := 171) rfl) rfl
set_option maxRecDepth 20000 in
theorem mk_L_92 : Cond.methodLink RL 92 yX11_vote ∈ zWL := zw7 (List.mem_of_getElem? (i := 175) rfl) rfl
set_option maxRecDepth 20000 in
theorem mk_X11_417 : Cond.methodLink RX11 417 yX11_sourceBits ∈ zWL := zw7 (List.mem_of_getElem? (i := 179) rfl) rfl
set_option maxRecDepth 20000 in
theorem mk_L_96 : Cond.methodLink RL 96 yX11_dams ∈ zWL := zw7 (List.mem_of_getElem? (i := 183) rfl) rfl
set_option maxRecDepth 20000 in
theorem mk_X11_423 : Cond.methodLink RX11 423 yX11_dammedBits ∈ zWL := zw7 (List.mem_of_getElem? (i := 187) rfl) rfl
set_option maxRecDepth 20000 in
theorem mk_X11_426 : Cond.methodLink RX11 426 yX11_isEarlier ∈ zWL := zw7 (List.mem_of_getElem? (i := 191) rfl) rfl
set_option maxRecDepth 20000 in
theorem mk_X11_420 : Cond.methodLink RX11 420 yX11_ithOf ∈ zWL := zw7 (List.mem_of_getElem? (i := 194) rfl) rfl
set_option maxRecDepth 20000 in
theorem mk_X11_429 : Cond.methodLink RX11 429 yX11_damsAll ∈ zWL := zw7 (List.mem_of_getElem? (i := 197) rfl) rfl
set_option maxRecDepth 20000 in
theorem mk_L_100 : Cond.methodLink RL 100 yX11_loss ∈ zWL := zw7 (List.mem_of_getElem? (i := 201) rfl) rfl
set_option maxRecDepth 20000 in
theorem mk_X11_432 : Cond.methodLink RX11 432 yX11_lossOf ∈ zWL := zw7 (List.mem_of_getElem? (i := 205) rfl) rfl
set_option maxRecDepth 20000 in
theorem mk_L_132 : Cond.methodLink RL 132 yX11_part ∈ zWL := zw7 (List.mem_of_getElem? (i := 209) rfl) rfl
set_option maxRecDepth 20000 in
theorem mk_L_104 : Cond.methodLink RL 104 yX11_main ∈ zWL := zw7 (List.mem_of_getElem? (i := 213) rfl) rfl
set_option maxRecDepth 20000 in
theorem mk_L_108 : Cond.methodLink RL 108 yX11_driest ∈ zWL := zw7 (List.mem_of_getElem? (i := 217) rfl) rfl
set_option maxRecDepth 20000 in
theorem mk_L_112 : Cond.methodLink RL 112 yX11_turnFor ∈ zWL := zw7 (List.mem_of_getElem? (i := 221) rfl) rfl
set_option maxRecDepth 20000 in
theorem mk_X11_435 : Cond.methodLink RX11 435 yX11_winsTurned ∈ zWL := zw7 (List.mem_of_getElem? (i := 225) rfl) rfl
set_option maxRecDepth 20000 in
theorem mk_L_116 : Cond.methodLink RL 116 yX11_damFor ∈ zWL := zw7 (List.mem_of_getElem? (i := 229) rfl) rfl
set_option maxRecDepth 20000 in
theorem mk_L_120 : Cond.methodLink RL 120 yX11_depth ∈ zWL := zw7 (List.mem_of_getElem? (i := 233) rfl) rfl
set_option maxRecDepth 20000 in
theorem mk_L_124 : Cond.methodLink RL 124 yX11_order ∈ zWL := zw7 (List.mem_of_getElem? (i := 237) rfl) rfl
set_option maxRecDepth 20000 in
theorem mk_X11_439 : Cond.methodLink RX11 439 yX11_orderAt ∈ zWL := zw8 (List.mem_of_getElem? (i := 1) rfl) rfl
set_option maxRecDepth 20000 in
theorem mk_L_128 : Cond.methodLink RL 128 yX11_basin ∈ zWL := zw8 (List.mem_of_getElem? (i := 5) rfl) rfl
set_option maxRecDepth 20000 in
theorem mk_L_137 : Cond.methodLink RL 137 yX11_reign ∈ zWL := zw8 (List.mem_of_getElem? (i := 9) rfl) rfl
set_option maxRecDepth 20000 in
theorem mk_L_141 : Cond.methodLink RL 141 yX11_tour ∈ zWL := zw8 (List.mem_of_getElem? (i := 13) rfl) rfl
set_option maxRecDepth 20000 in
theorem mk_X11_442 : Cond.methodLink RX11 442 yX11_tourOf ∈ zWL := zw8 (List.mem_of_getElem? (i := 17) rfl) rfl
set_option maxRecDepth 20000 in
theorem mk_L_145 : Cond.methodLink RL 145 yX11_parted ∈ zWL := zw8 (List.mem_of_getElem? (i := 21) rfl) rfl
set_option maxRecDepth 20000 in
theorem mk_L_149 : Cond.methodLink RL 149 yX11_meet ∈ zWL := zw8 (List.mem_of_getElem? (i := 25) rfl) rfl
set_option maxRecDepth 20000 in
theorem mk_L_153 : Cond.methodLink RL 153 yX11_when ∈ zWL := zw8 (List.mem_of_getElem? (i := 29) rfl) rfl
set_option maxRecDepth 20000 in
theorem mk_L_157 : Cond.methodLink RL 157 yX11_then ∈ zWL := zw8 (List.mem_of_getElem? (i := 33) rfl) rfl
set_option maxRecDepth 20000 in
theorem mk_L_161 : Cond.methodLink RL 161 yX11_flowIn ∈ zWL := zw8 (List.mem_of_getElem? (i := 37) rfl) rfl
set_option maxRecDepth 20000 in
theorem mk_L_165 : Cond.methodLink RL 165 yX11_year ∈ zWL := zw8 (List.mem_of_getElem? (i := 41) rfl) rfl
set_option maxRecDepth 20000 in
theorem mk_X11_445 : Cond.methodLink RX11 445 yX11_hasWonMost ∈ zWL := zw8 (List.mem_of_getElem? (i := 45) rfl) rfl
set_option maxRecDepth 20000 in
theorem mk_L_170 : Cond.methodLink RL 170 yX11_tell ∈ zWL := zw8 (List.mem_of_getElem? (i := 49) rfl) rfl
set_option maxRecDepth 20000 in
theorem mk_L_174 : Cond.methodLink RL 174 yX11_forget ∈ zWL := zw8 (List.mem_of_getElem? (i := 53) rfl) rfl
set_option maxRecDepth 20000 in
theorem mk_L_178 : Cond.methodLink RL 178 yX11_dyed ∈ zWL := zw8 (List.mem_of_getElem? (i := 57) rfl) rfl
set_option maxRecDepth 20000 in
theorem mk_X11_451 : Cond.methodLink RX11 451 yX11_dyedBits ∈ zWL := zw8 (List.mem_of_getElem? (i := 61) rfl) rfl
set_option maxRecDepth 20000 in
theorem mk_X11_448 : Cond.methodLink RX11 448 yX11_comesBy ∈ zWL := zw8 (List.mem_of_getElem? (i := 65) rfl) rfl
set_option maxRecDepth 20000 in
theorem mk_L_182 : Cond.methodLink RL 182 yX11_watch ∈ zWL := zw8 (List.mem_of_getElem? (i := 69) rfl) rfl
set_option maxRecDepth 20000 in
theorem mk_L_186 : Cond.methodLink RL 186 yX11_hold ∈ zWL := zw8 (List.mem_of_getElem? (i := 73) rfl) rfl
set_option maxRecDepth 20000 in
theorem mk_L_190 : Cond.methodLink RL 190 yX11_restore ∈ zWL := zw8 (List.mem_of_getElem? (i := 77) rfl) rfl
set_option maxRecDepth 20000 in
theorem mk_L_194 : Cond.methodLink RL 194 yX11_count ∈ zWL := zw8 (List.mem_of_getElem? (i := 81) rfl) rfl
set_option maxRecDepth 20000 in
theorem mc_X0_init : Cond.code yX0_init cX0_init 1 none ∈ zWL := zw1 (List.mem_of_getElem? (i := 218) rfl) rfl
set_option maxRecDepth 20000 in
theorem mc_X0_answer : Cond.code yX0_answer cX0_answer 10 (some .int) ∈ zWL := zw3 (List.mem_of_getElem? (i := 237) rfl) rfl
set_option maxRecDepth 20000 in
theorem mi_X0_answer : Cond.instanceMethod yX0_answer ∈ zWL := zw3 (List.mem_of_getElem? (i := 235) rfl) rfl
set_option maxRecDepth 20000 in
theorem ml_X0_answer : Cond.selects RX0 yX0_answer yX0_answer ∈ zWL := zw3 (List.mem_of_getElem? (i := 236) rfl) rfl
set_option maxRecDepth 20000 in
theorem mc_X1_init : Cond.code yX1_init cX1_init 1 none ∈ zWL := zw2 (List.mem_of_getElem? (i := 25) rfl) rfl
set_option maxRecDepth 20000 in
theorem mc_X1_begin : Cond.code yX1_begin cX1_begin 2 none ∈ zWL := zw3 (List.mem_of_getElem? (i := 173) rfl) rfl
set_option maxRecDepth 20000 in
theorem mi_X1_begin : Cond.instanceMethod yX1_begin ∈ zWL := zw3 (List.mem_of_getElem? (i := 171) rfl) rfl
set_option maxRecDepth 20000 in
theorem ml_X1_begin : Cond.selects RX1 yX1_begin yX1_begin ∈ zWL := zw3 (List.mem_of_getElem? (i := 172) rfl) rfl
set_option maxRecDepth 20000 in
theorem mc_X1_copy : Cond.code yX1_copy cX1_copy 2 none ∈ zWL := zw4 (List.mem_of_getElem? (i := 116) rfl) rfl
set_option maxRecDepth 20000 in
theorem mi_X1_copy : Cond.instanceMethod yX1_copy ∈ zWL := zw4 (List.mem_of_getElem? (i := 114) rfl) rfl
set_option maxRecDepth 20000 in
theorem ml_X1_copy : Cond.selects RX1 yX1_copy yX1_copy ∈ zWL := zw4 (List.mem_of_getElem? (i := 115) rfl) rfl
set_option maxRecDepth 20000 in
theorem mc_X1_moon : Cond.code yX1_moon cX1_moon 1 (some .int) ∈ zWL := zw3 (List.mem_of_getElem? (i := 233) rfl) rfl
set_option maxRecDepth 20000 in
theorem mi_X1_moon : Cond.instanceMethod yX1_moon ∈ zWL := zw3 (List.mem_of_getElem? (i := 231) rfl) rfl
set_option maxRecDepth 20000 in
theorem ml_X1_moon : Cond.selects RX1 yX1_moon yX1_moon ∈ zWL := zw3 (List.mem_of_getElem? (i := 232) rfl) rfl
set_option maxRecDepth 20000 in
theorem mc_X1_comesBy : Cond.code yX1_comesBy cX1_comesBy 5 (some .boolean) ∈ zWL := zw4 (List.mem_of_getElem? (i := 129) rfl) rfl
set_option maxRecDepth 20000 in
theorem mi_X1_comesBy : Cond.instanceMethod yX1_comesBy ∈ zWL := zw4 (List.mem_of_getElem? (i := 127) rfl) rfl
set_option maxRecDepth 20000 in
theorem ml_X1_comesBy : Cond.selects RX1 yX1_comesBy yX1_comesBy ∈ zWL := zw4 (List.mem_of_getElem? (i := 128) rfl) rfl
set_option maxRecDepth 20000 in
theorem mc_X1_pay : Cond.code yX1_pay cX1_pay 3 none ∈ zWL := zw4 (List.mem_of_getElem? (i := 151) rfl) rfl
set_option maxRecDepth 20000 in
theorem mi_X1_pay : Cond.instanceMethod yX1_pay ∈ zWL := zw4 (List.mem_of_getElem? (i := 149) rfl) rfl
set_option maxRecDepth 20000 in
theorem ml_X1_pay : Cond.selects RX1 yX1_pay yX1_pay ∈ zWL := zw4 (List.mem_of_getElem? (i := 150) rfl) rfl
set_option maxRecDepth 20000 in
theorem mc_X2_init : Cond.code yX2_init cX2_init 1 none ∈ zWL := zw2 (List.mem_of_getElem? (i := 73) rfl) rfl
set_option maxRecDepth 20000 in
theorem mc_X2_add : Cond.code yX2_add cX2_add 5 (some .int) ∈ zWL := zw5 (List.mem_of_getElem? (i := 117) rfl) rfl
set_option maxRecDepth 20000 in
theorem mi_X2_add : Cond.instanceMethod yX2_add ∈ zWL := zw5 (List.mem_of_getElem? (i := 115) rfl) rfl
set_option maxRecDepth 20000 in
theorem ml_X2_add : Cond.selects RX2 yX2_add yX2_add ∈ zWL := zw5 (List.mem_of_getElem? (i := 116) rfl) rfl
set_option maxRecDepth 20000 in
theorem mc_X2_left : Cond.code yX2_left cX2_left 5 (some .int) ∈ zWL := zw5 (List.mem_of_getElem? (i := 129) rfl) rfl
set_option maxRecDepth 20000 in
theorem mi_X2_left : Cond.instanceMethod yX2_left ∈ zWL := zw5 (List.mem_of_getElem? (i := 127) rfl) rfl
set_option maxRecDepth 20000 in
theorem ml_X2_left : Cond.selects RX2 yX2_left yX2_left ∈ zWL := zw5 (List.mem_of_getElem? (i := 128) rfl) rfl
set_option maxRecDepth 20000 in
theorem mc_X2_isSo : Cond.code yX2_isSo cX2_isSo 8 (some .boolean) ∈ zWL := zw5 (List.mem_of_getElem? (i := 134) rfl) rfl
set_option maxRecDepth 20000 in
theorem mi_X2_isSo : Cond.instanceMethod yX2_isSo ∈ zWL := zw5 (List.mem_of_getElem? (i := 133) rfl) rfl
theorem ml_X2_isSo : Cond.selects RX2 yX2_isSo yX2_isSo ∈ zWL := List.mem_append_right _ (List.mem_filter.mpr ⟨List.mem_map.mpr ⟨(⟨"SourceDispute$Dye", "isSo", "(LSourceDispute$Shape;II)Z"⟩, 5), List.mem_of_getElem? (i := 45) (by decide +kernel), rfl⟩, by decide +kernel⟩)
set_option maxRecDepth 20000 in
theorem mc_X3_init : Cond.code yX3_init cX3_init 1 none ∈ zWL := zw1 (List.mem_of_getElem? (i := 50) rfl) rfl
set_option maxRecDepth 20000 in
theorem mc_X3_parse : Cond.code yX3_parse cX3_parse 5 (some .int) ∈ zWL := zw3 (List.mem_of_getElem? (i := 2) rfl) rfl
set_option maxRecDepth 20000 in
theorem mi_X3_parse : Cond.instanceMethod yX3_parse ∈ zWL := zw3 (List.mem_of_getElem? (i := 0) rfl) rfl
set_option maxRecDepth 20000 in
theorem ml_X3_parse : Cond.selects RX3 yX3_parse yX3_parse ∈ zWL := zw3 (List.mem_of_getElem? (i := 1) rfl) rfl
set_option maxRecDepth 20000 in
theorem mc_X3_telling : Cond.code yX3_telling cX3_telling 1 none ∈ zWL := zw3 (List.mem_of_getElem? (i := 100) rfl) rfl
set_option maxRecDepth 20000 in
theorem mi_X3_telling : Cond.instanceMethod yX3_telling ∈ zWL := zw3 (List.mem_of_getElem? (i := 99) rfl) rfl
theorem ml_X3_telling : Cond.selects RX3 yX3_telling yX3_telling ∈ zWL := List.mem_append_right _ (List.mem_filter.mpr ⟨List.mem_map.mpr ⟨(⟨"SourceDispute$Parser", "telling", "()V"⟩, 12), List.mem_of_getElem? (i := 5) (by decide +kernel), rfl⟩, by decide +kernel⟩)
set_option maxRecDepth 20000 in
theorem mc_X3_mouth : Cond.code yX3_mouth cX3_mouth 3 none ∈ zWL := zw3 (List.mem_of_getElem? (i := 104) rfl) rfl
set_option maxRecDepth 20000 in
theorem mi_X3_mouth : Cond.instanceMethod yX3_mouth ∈ zWL := zw3 (List.mem_of_getElem? (i := 103) rfl) rfl
theorem ml_X3_mouth : Cond.selects RX3 yX3_mouth yX3_mouth ∈ zWL := List.mem_append_right _ (List.mem_filter.mpr ⟨List.mem_map.mpr ⟨(⟨"SourceDispute$Parser", "mouth", "()V"⟩, 12), List.mem_of_getElem? (i := 6) (by decide +kernel), rfl⟩, by decide +kernel⟩)
set_option maxRecDepth 20000 in
theorem mc_X3_newPlace : Cond.code yX3_newPlace cX3_newPlace 7 none ∈ zWL := zw3 (List.mem_of_getElem? (i := 132) rfl) rfl
set_option maxRecDepth 20000 in
theorem mi_X3_newPlace : Cond.instanceMethod yX3_newPlace ∈ zWL := zw3 (List.mem_of_getElem? (i := 131) rfl) rfl
theorem ml_X3_newPlace : Cond.selects RX3 yX3_newPlace yX3_newPlace ∈ zWL := List.mem_append_right _ (List.mem_filter.mpr ⟨List.mem_map.mpr ⟨(⟨"SourceDispute$Parser", "newPlace", "()V"⟩, 12), List.mem_of_getElem? (i := 12) (by decide +kernel), rfl⟩, by decide +kernel⟩)
set_option maxRecDepth 20000 in
theorem mc_X3_newName : Cond.code yX3_newName cX3_newName 3 (some .long) ∈ zWL := zw3 (List.mem_of_getElem? (i := 116) rfl) rfl
set_option maxRecDepth 20000 in
theorem mi_X3_newName : Cond.instanceMethod yX3_newName ∈ zWL := zw3 (List.mem_of_getElem? (i := 115) rfl) rfl
theorem ml_X3_newName : Cond.selects RX3 yX3_newName yX3_newName ∈ zWL := List.mem_append_right _ (List.mem_filter.mpr ⟨List.mem_map.mpr ⟨(⟨"SourceDispute$Parser", "newName", "()J"⟩, 12), List.mem_of_getElem? (i := 9) (by decide +kernel), rfl⟩, by decide +kernel⟩)
set_option maxRecDepth 20000 in
theorem mc_X3_knownName : Cond.code yX3_knownName cX3_knownName 2 (some .int) ∈ zWL := zw3 (List.mem_of_getElem? (i := 136) rfl) rfl
set_option maxRecDepth 20000 in
theorem mi_X3_knownName : Cond.instanceMethod yX3_knownName ∈ zWL := zw3 (List.mem_of_getElem? (i := 135) rfl) rfl
theorem ml_X3_knownName : Cond.selects RX3 yX3_knownName yX3_knownName ∈ zWL := List.mem_append_right _ (List.mem_filter.mpr ⟨List.mem_map.mpr ⟨(⟨"SourceDispute$Parser", "knownName", "()I"⟩, 12), List.mem_of_getElem? (i := 13) (by decide +kernel), rfl⟩, by decide +kernel⟩)
set_option maxRecDepth 20000 in
theorem mc_X3_placeNamed : Cond.code yX3_placeNamed cX3_placeNamed 4 (some .int) ∈ zWL := zw3 (List.mem_of_getElem? (i := 120) rfl) rfl
set_option maxRecDepth 20000 in
theorem mi_X3_placeNamed : Cond.instanceMethod yX3_placeNamed ∈ zWL := zw3 (List.mem_of_getElem? (i := 119) rfl) rfl
theorem ml_X3_placeNamed : Cond.selects RX3 yX3_placeNamed yX3_placeNamed ∈ zWL := List.mem_append_right _ (List.mem_filter.mpr ⟨List.mem_map.mpr ⟨(⟨"SourceDispute$Parser", "placeNamed", "(J)I"⟩, 12), List.mem_of_getElem? (i := 10) (by decide +kernel), rfl⟩, by decide +kernel⟩)
set_option maxRecDepth 20000 in
theorem mc_X3_number : Cond.code yX3_number cX3_number 4 (some .int) ∈ zWL := zw3 (List.mem_of_getElem? (i := 141) rfl) rfl
set_option maxRecDepth 20000 in
theorem mi_X3_number : Cond.instanceMethod yX3_number ∈ zWL := zw3 (List.mem_of_getElem? (i := 140) rfl) rfl
theorem ml_X3_number : Cond.selects RX3 yX3_number yX3_number ∈ zWL := List.mem_append_right _ (List.mem_filter.mpr ⟨List.mem_map.mpr ⟨(⟨"SourceDispute$Parser", "number", "(II)I"⟩, 12), List.mem_of_getElem? (i := 14) (by decide +kernel), rfl⟩, by decide +kernel⟩)
set_option maxRecDepth 20000 in
theorem mc_X3_law : Cond.code yX3_law cX3_law 5 none ∈ zWL := zw3 (List.mem_of_getElem? (i := 148) rfl) rfl
set_option maxRecDepth 20000 in
theorem mi_X3_law : Cond.instanceMethod yX3_law ∈ zWL := zw3 (List.mem_of_getElem? (i := 147) rfl) rfl
theorem ml_X3_law : Cond.selects RX3 yX3_law yX3_law ∈ zWL := List.mem_append_right _ (List.mem_filter.mpr ⟨List.mem_map.mpr ⟨(⟨"SourceDispute$Parser", "law", "(I)V"⟩, 12), List.mem_of_getElem? (i := 15) (by decide +kernel), rfl⟩, by decide +kernel⟩)
set_option maxRecDepth 20000 in
theorem mc_X3_sum : Cond.code yX3_sum cX3_sum 4 none ∈ zWL := zw3 (List.mem_of_getElem? (i := 152) rfl) rfl
set_option maxRecDepth 20000 in
theorem mi_X3_sum : Cond.instanceMethod yX3_sum ∈ zWL := zw3 (List.mem_of_getElem? (i := 151) rfl) rfl
theorem ml_X3_sum : Cond.selects RX3 yX3_sum yX3_sum ∈ zWL := List.mem_append_right _ (List.mem_filter.mpr ⟨List.mem_map.mpr ⟨(⟨"SourceDispute$Parser", "sum", "(I)V"⟩, 12), List.mem_of_getElem? (i := 16) (by decide +kernel), rfl⟩, by decide +kernel⟩)
set_option maxRecDepth 20000 in
theorem mc_X3_product : Cond.code yX3_product cX3_product 4 none ∈ zWL := zw3 (List.mem_of_getElem? (i := 156) rfl) rfl
set_option maxRecDepth 20000 in
theorem mi_X3_product : Cond.instanceMethod yX3_product ∈ zWL := zw3 (List.mem_of_getElem? (i := 155) rfl) rfl
theorem ml_X3_product : Cond.selects RX3 yX3_product yX3_product ∈ zWL := List.mem_append_right _ (List.mem_filter.mpr ⟨List.mem_map.mpr ⟨(⟨"SourceDispute$Parser", "product", "(I)V"⟩, 12), List.mem_of_getElem? (i := 17) (by decide +kernel), rfl⟩, by decide +kernel⟩)
set_option maxRecDepth 20000 in
theorem mc_X3_unit : Cond.code yX3_unit cX3_unit 2 none ∈ zWL := zw3 (List.mem_of_getElem? (i := 160) rfl) rfl
set_option maxRecDepth 20000 in
theorem mi_X3_unit : Cond.instanceMethod yX3_unit ∈ zWL := zw3 (List.mem_of_getElem? (i := 159) rfl) rfl
theorem ml_X3_unit : Cond.selects RX3 yX3_unit yX3_unit ∈ zWL := List.mem_append_right _ (List.mem_filter.mpr ⟨List.mem_map.mpr ⟨(⟨"SourceDispute$Parser", "unit", "(I)V"⟩, 12), List.mem_of_getElem? (i := 18) (by decide +kernel), rfl⟩, by decide +kernel⟩)
set_option maxRecDepth 20000 in
theorem mc_X3_take : Cond.code yX3_take cX3_take 2 none ∈ zWL := zw3 (List.mem_of_getElem? (i := 112) rfl) rfl
set_option maxRecDepth 20000 in
theorem mi_X3_take : Cond.instanceMethod yX3_take ∈ zWL := zw3 (List.mem_of_getElem? (i := 111) rfl) rfl
theorem ml_X3_take : Cond.selects RX3 yX3_take yX3_take ∈ zWL := List.mem_append_right _ (List.mem_filter.mpr ⟨List.mem_map.mpr ⟨(⟨"SourceDispute$Parser", "take", "(I)V"⟩, 12), List.mem_of_getElem? (i := 8) (by decide +kernel), rfl⟩, by decide +kernel⟩)
set_option maxRecDepth 20000 in
theorem mc_X3_goTo : Cond.code yX3_goTo cX3_goTo 3 none ∈ zWL := zw3 (List.mem_of_getElem? (i := 96) rfl) rfl
set_option maxRecDepth 20000 in
theorem mi_X3_goTo : Cond.instanceMethod yX3_goTo ∈ zWL := zw3 (List.mem_of_getElem? (i := 95) rfl) rfl
theorem ml_X3_goTo : Cond.selects RX3 yX3_goTo yX3_goTo ∈ zWL := List.mem_append_right _ (List.mem_filter.mpr ⟨List.mem_map.mpr ⟨(⟨"SourceDispute$Parser", "goTo", "(I)V"⟩, 12), List.mem_of_getElem? (i := 4) (by decide +kernel), rfl⟩, by decide +kernel⟩)
set_option maxRecDepth 20000 in
theorem mc_X3_fail : Cond.code yX3_fail cX3_fail 2 none ∈ zWL := zw3 (List.mem_of_getElem? (i := 108) rfl) rfl
set_option maxRecDepth 20000 in
theorem mi_X3_fail : Cond.instanceMethod yX3_fail ∈ zWL := zw3 (List.mem_of_getElem? (i := 107) rfl) rfl
theorem ml_X3_fail : Cond.selects RX3 yX3_fail yX3_fail ∈ zWL := List.mem_append_right _ (List.mem_filter.mpr ⟨List.mem_map.mpr ⟨(⟨"SourceDispute$Parser", "fail", "(I)V"⟩, 12), List.mem_of_getElem? (i := 7) (by decide +kernel), rfl⟩, by decide +kernel⟩)
set_option maxRecDepth 20000 in
theorem mc_X3_failLate : Cond.code yX3_failLate cX3_failLate 2 none ∈ zWL := zw3 (List.mem_of_getElem? (i := 124) rfl) rfl
set_option maxRecDepth 20000 in
theorem mi_X3_failLate : Cond.instanceMethod yX3_failLate ∈ zWL := zw3 (List.mem_of_getElem? (i := 123) rfl) rfl
theorem ml_X3_failLate : Cond.selects RX3 yX3_failLate yX3_failLate ∈ zWL := List.mem_append_right _ (List.mem_filter.mpr ⟨List.mem_map.mpr ⟨(⟨"SourceDispute$Parser", "failLate", "(I)V"⟩, 12), List.mem_of_getElem? (i := 11) (by decide +kernel), rfl⟩, by decide +kernel⟩)
set_option maxRecDepth 20000 in
theorem mc_X4_init : Cond.code yX4_init cX4_init 2 none ∈ zWL := zw2 (List.mem_of_getElem? (i := 18) rfl) rfl
set_option maxRecDepth 20000 in
theorem mc_X4_push : Cond.code yX4_push cX4_push 2 none ∈ zWL := zw4 (List.mem_of_getElem? (i := 112) rfl) rfl
set_option maxRecDepth 20000 in
theorem mi_X4_push : Cond.instanceMethod yX4_push ∈ zWL := zw4 (List.mem_of_getElem? (i := 110) rfl) rfl
set_option maxRecDepth 20000 in
theorem ml_X4_push : Cond.selects RX4 yX4_push yX4_push ∈ zWL := zw4 (List.mem_of_getElem? (i := 111) rfl) rfl
set_option maxRecDepth 20000 in
theorem mc_X4_pop : Cond.code yX4_pop cX4_pop 2 (some .boolean) ∈ zWL := zw4 (List.mem_of_getElem? (i := 160) rfl) rfl
set_option maxRecDepth 20000 in
theorem mi_X4_pop : Cond.instanceMethod yX4_pop ∈ zWL := zw4 (List.mem_of_getElem? (i := 158) rfl) rfl
set_option maxRecDepth 20000 in
theorem ml_X4_pop : Cond.selects RX4 yX4_pop yX4_pop ∈ zWL := zw4 (List.mem_of_getElem? (i := 159) rfl) rfl
set_option maxRecDepth 20000 in
theorem mc_X5_init : Cond.code yX5_init cX5_init 1 none ∈ zWL := zw1 (List.mem_of_getElem? (i := 175) rfl) rfl
set_option maxRecDepth 20000 in
theorem mc_X5_look : Cond.code yX5_look cX5_look 3 none ∈ zWL := zw3 (List.mem_of_getElem? (i := 200) rfl) rfl
set_option maxRecDepth 20000 in
theorem mi_X5_look : Cond.instanceMethod yX5_look ∈ zWL := zw3 (List.mem_of_getElem? (i := 198) rfl) rfl
set_option maxRecDepth 20000 in
theorem ml_X5_look : Cond.selects RX5 yX5_look yX5_look ∈ zWL := zw3 (List.mem_of_getElem? (i := 199) rfl) rfl
set_option maxRecDepth 20000 in
theorem mc_X5_form : Cond.code yX5_form cX5_form 3 none ∈ zWL := zw3 (List.mem_of_getElem? (i := 204) rfl) rfl
set_option maxRecDepth 20000 in
theorem mi_X5_form : Cond.instanceMethod yX5_form ∈ zWL := zw3 (List.mem_of_getElem? (i := 203) rfl) rfl
theorem ml_X5_form : Cond.selects RX5 yX5_form yX5_form ∈ zWL := List.mem_append_right _ (List.mem_filter.mpr ⟨List.mem_map.mpr ⟨(⟨"SourceDispute$River", "form", "(LSourceDispute$Told;LSourceDispute$Course;)V"⟩, 7), List.mem_of_getElem? (i := 22) (by decide +kernel), rfl⟩, by decide +kernel⟩)
set_option maxRecDepth 20000 in
theorem mc_X5_fall : Cond.code yX5_fall cX5_fall 2 none ∈ zWL := zw3 (List.mem_of_getElem? (i := 221) rfl) rfl
set_option maxRecDepth 20000 in
theorem mi_X5_fall : Cond.instanceMethod yX5_fall ∈ zWL := zw3 (List.mem_of_getElem? (i := 220) rfl) rfl
theorem ml_X5_fall : Cond.selects RX5 yX5_fall yX5_fall ∈ zWL := List.mem_append_right _ (List.mem_filter.mpr ⟨List.mem_map.mpr ⟨(⟨"SourceDispute$River", "fall", "(I)V"⟩, 7), List.mem_of_getElem? (i := 24) (by decide +kernel), rfl⟩, by decide +kernel⟩)
set_option maxRecDepth 20000 in
theorem mc_X5_rainDown : Cond.code yX5_rainDown cX5_rainDown 3 none ∈ zWL := zw3 (List.mem_of_getElem? (i := 225) rfl) rfl
set_option maxRecDepth 20000 in
theorem mi_X5_rainDown : Cond.instanceMethod yX5_rainDown ∈ zWL := zw3 (List.mem_of_getElem? (i := 224) rfl) rfl
theorem ml_X5_rainDown : Cond.selects RX5 yX5_rainDown yX5_rainDown ∈ zWL := List.mem_append_right _ (List.mem_filter.mpr ⟨List.mem_map.mpr ⟨(⟨"SourceDispute$River", "rainDown", "(I)V"⟩, 7), List.mem_of_getElem? (i := 25) (by decide +kernel), rfl⟩, by decide +kernel⟩)
set_option maxRecDepth 20000 in
theorem mc_X5_run : Cond.code yX5_run cX5_run 4 none ∈ zWL := zw4 (List.mem_of_getElem? (i := 6) rfl) rfl
set_option maxRecDepth 20000 in
theorem mi_X5_run : Cond.instanceMethod yX5_run ∈ zWL := zw4 (List.mem_of_getElem? (i := 4) rfl) rfl
set_option maxRecDepth 20000 in
theorem ml_X5_run : Cond.selects RX5 yX5_run yX5_run ∈ zWL := zw4 (List.mem_of_getElem? (i := 5) rfl) rfl
set_option maxRecDepth 20000 in
theorem mc_X5_dried : Cond.code yX5_dried cX5_dried 2 (some .int) ∈ zWL := zw4 (List.mem_of_getElem? (i := 15) rfl) rfl
set_option maxRecDepth 20000 in
theorem mi_X5_dried : Cond.instanceMethod yX5_dried ∈ zWL := zw4 (List.mem_of_getElem? (i := 13) rfl) rfl
set_option maxRecDepth 20000 in
theorem ml_X5_dried : Cond.selects RX5 yX5_dried yX5_dried ∈ zWL := zw4 (List.mem_of_getElem? (i := 14) rfl) rfl
set_option maxRecDepth 20000 in
theorem mc_X5_tells : Cond.code yX5_tells cX5_tells 5 (some .int) ∈ zWL := zw3 (List.mem_of_getElem? (i := 229) rfl) rfl
set_option maxRecDepth 20000 in
theorem mi_X5_tells : Cond.instanceMethod yX5_tells ∈ zWL := zw3 (List.mem_of_getElem? (i := 228) rfl) rfl
theorem ml_X5_tells : Cond.selects RX5 yX5_tells yX5_tells ∈ zWL := List.mem_append_right _ (List.mem_filter.mpr ⟨List.mem_map.mpr ⟨(⟨"SourceDispute$River", "tells", "(III)I"⟩, 7), List.mem_of_getElem? (i := 26) (by decide +kernel), rfl⟩, by decide +kernel⟩)
set_option maxRecDepth 20000 in
theorem mc_X5_claimOf : Cond.code yX5_claimOf cX5_claimOf 3 (some .int) ∈ zWL := zw4 (List.mem_of_getElem? (i := 37) rfl) rfl
set_option maxRecDepth 20000 in
theorem mi_X5_claimOf : Cond.instanceMethod yX5_claimOf ∈ zWL := zw4 (List.mem_of_getElem? (i := 35) rfl) rfl
set_option maxRecDepth 20000 in
theorem ml_X5_claimOf : Cond.selects RX5 yX5_claimOf yX5_claimOf ∈ zWL := zw4 (List.mem_of_getElem? (i := 36) rfl) rfl
set_option maxRecDepth 20000 in
theorem mc_X5_weigh : Cond.code yX5_weigh cX5_weigh 3 none ∈ zWL := zw4 (List.mem_of_getElem? (i := 50) rfl) rfl
set_option maxRecDepth 20000 in
theorem mi_X5_weigh : Cond.instanceMethod yX5_weigh ∈ zWL := zw4 (List.mem_of_getElem? (i := 48) rfl) rfl
set_option maxRecDepth 20000 in
theorem ml_X5_weigh : Cond.selects RX5 yX5_weigh yX5_weigh ∈ zWL := zw4 (List.mem_of_getElem? (i := 49) rfl) rfl
set_option maxRecDepth 20000 in
theorem mc_X5_greatestClaim : Cond.code yX5_greatestClaim cX5_greatestClaim 4 (some .int) ∈ zWL := zw4 (List.mem_of_getElem? (i := 56) rfl) rfl
set_option maxRecDepth 20000 in
theorem mi_X5_greatestClaim : Cond.instanceMethod yX5_greatestClaim ∈ zWL := zw4 (List.mem_of_getElem? (i := 54) rfl) rfl
set_option maxRecDepth 20000 in
theorem ml_X5_greatestClaim : Cond.selects RX5 yX5_greatestClaim yX5_greatestClaim ∈ zWL := zw4 (List.mem_of_getElem? (i := 55) rfl) rfl
set_option maxRecDepth 20000 in
theorem mc_X5_rankOf : Cond.code yX5_rankOf cX5_rankOf 4 (some .int) ∈ zWL := zw4 (List.mem_of_getElem? (i := 187) rfl) rfl
set_option maxRecDepth 20000 in
theorem mi_X5_rankOf : Cond.instanceMethod yX5_rankOf ∈ zWL := zw4 (List.mem_of_getElem? (i := 185) rfl) rfl
set_option maxRecDepth 20000 in
theorem ml_X5_rankOf : Cond.selects RX5 yX5_rankOf yX5_rankOf ∈ zWL := zw4 (List.mem_of_getElem? (i := 186) rfl) rfl
set_option maxRecDepth 20000 in
theorem mc_X5_winnerBy : Cond.code yX5_winnerBy cX5_winnerBy 2 (some .int) ∈ zWL := zw4 (List.mem_of_getElem? (i := 46) rfl) rfl
set_option maxRecDepth 20000 in
theorem mi_X5_winnerBy : Cond.instanceMethod yX5_winnerBy ∈ zWL := zw4 (List.mem_of_getElem? (i := 44) rfl) rfl
set_option maxRecDepth 20000 in
theorem ml_X5_winnerBy : Cond.selects RX5 yX5_winnerBy yX5_winnerBy ∈ zWL := zw4 (List.mem_of_getElem? (i := 45) rfl) rfl
set_option maxRecDepth 20000 in
theorem mc_X5_rainsOf : Cond.code yX5_rainsOf cX5_rainsOf 4 (some .int) ∈ zWL := zw5 (List.mem_of_getElem? (i := 89) rfl) rfl
set_option maxRecDepth 20000 in
theorem mi_X5_rainsOf : Cond.instanceMethod yX5_rainsOf ∈ zWL := zw5 (List.mem_of_getElem? (i := 87) rfl) rfl
set_option maxRecDepth 20000 in
theorem ml_X5_rainsOf : Cond.selects RX5 yX5_rainsOf yX5_rainsOf ∈ zWL := zw5 (List.mem_of_getElem? (i := 88) rfl) rfl
set_option maxRecDepth 20000 in
theorem mc_X5_endMonth : Cond.code yX5_endMonth cX5_endMonth 2 none ∈ zWL := zw4 (List.mem_of_getElem? (i := 146) rfl) rfl
set_option maxRecDepth 20000 in
theorem mi_X5_endMonth : Cond.instanceMethod yX5_endMonth ∈ zWL := zw4 (List.mem_of_getElem? (i := 145) rfl) rfl
theorem ml_X5_endMonth : Cond.selects RX5 yX5_endMonth yX5_endMonth ∈ zWL := List.mem_append_right _ (List.mem_filter.mpr ⟨List.mem_map.mpr ⟨(⟨"SourceDispute$River", "endMonth", "()V"⟩, 7), List.mem_of_getElem? (i := 34) (by decide +kernel), rfl⟩, by decide +kernel⟩)
set_option maxRecDepth 20000 in
theorem mc_X5_goOn : Cond.code yX5_goOn cX5_goOn 1 none ∈ zWL := zw5 (List.mem_of_getElem? (i := 22) rfl) rfl
set_option maxRecDepth 20000 in
theorem mi_X5_goOn : Cond.instanceMethod yX5_goOn ∈ zWL := zw5 (List.mem_of_getElem? (i := 20) rfl) rfl
set_option maxRecDepth 20000 in
theorem ml_X5_goOn : Cond.selects RX5 yX5_goOn yX5_goOn ∈ zWL := zw5 (List.mem_of_getElem? (i := 21) rfl) rfl
set_option maxRecDepth 20000 in
theorem mc_X5_goThrough : Cond.code yX5_goThrough cX5_goThrough 6 none ∈ zWL := zw4 (List.mem_of_getElem? (i := 141) rfl) rfl
set_option maxRecDepth 20000 in
theorem mi_X5_goThrough : Cond.instanceMethod yX5_goThrough ∈ zWL := zw4 (List.mem_of_getElem? (i := 139) rfl) rfl
set_option maxRecDepth 20000 in
theorem ml_X5_goThrough : Cond.selects RX5 yX5_goThrough yX5_goThrough ∈ zWL := zw4 (List.mem_of_getElem? (i := 140) rfl) rfl
set_option maxRecDepth 20000 in
theorem mc_X6_init : Cond.code yX6_init cX6_init 1 none ∈ zWL := zw1 (List.mem_of_getElem? (i := 181) rfl) rfl
set_option maxRecDepth 20000 in
theorem mc_X6_form : Cond.code yX6_form cX6_form 7 none ∈ zWL := zw3 (List.mem_of_getElem? (i := 208) rfl) rfl
set_option maxRecDepth 20000 in
theorem mi_X6_form : Cond.instanceMethod yX6_form ∈ zWL := zw3 (List.mem_of_getElem? (i := 206) rfl) rfl
set_option maxRecDepth 20000 in
theorem ml_X6_form : Cond.selects RX6 yX6_form yX6_form ∈ zWL := zw3 (List.mem_of_getElem? (i := 207) rfl) rfl
set_option maxRecDepth 20000 in
theorem mc_X6_countAbove : Cond.code yX6_countAbove cX6_countAbove 4 none ∈ zWL := zw3 (List.mem_of_getElem? (i := 216) rfl) rfl
set_option maxRecDepth 20000 in
theorem mi_X6_countAbove : Cond.instanceMethod yX6_countAbove ∈ zWL := zw3 (List.mem_of_getElem? (i := 215) rfl) rfl
theorem ml_X6_countAbove : Cond.selects RX6 yX6_countAbove yX6_countAbove ∈ zWL := List.mem_append_right _ (List.mem_filter.mpr ⟨List.mem_map.mpr ⟨(⟨"SourceDispute$Shape", "countAbove", "(LSourceDispute$Course;)V"⟩, 7), List.mem_of_getElem? (i := 23) (by decide +kernel), rfl⟩, by decide +kernel⟩)
set_option maxRecDepth 20000 in
theorem mc_X6_orderOf : Cond.code yX6_orderOf cX6_orderOf 7 (some .int) ∈ zWL := zw5 (List.mem_of_getElem? (i := 76) rfl) rfl
set_option maxRecDepth 20000 in
theorem mi_X6_orderOf : Cond.instanceMethod yX6_orderOf ∈ zWL := zw5 (List.mem_of_getElem? (i := 74) rfl) rfl
set_option maxRecDepth 20000 in
theorem ml_X6_orderOf : Cond.selects RX6 yX6_orderOf yX6_orderOf ∈ zWL := zw5 (List.mem_of_getElem? (i := 75) rfl) rfl
set_option maxRecDepth 20000 in
theorem mc_X6_isSource : Cond.code yX6_isSource cX6_isSource 2 (some .boolean) ∈ zWL := zw4 (List.mem_of_getElem? (i := 20) rfl) rfl
set_option maxRecDepth 20000 in
theorem mi_X6_isSource : Cond.instanceMethod yX6_isSource ∈ zWL := zw4 (List.mem_of_getElem? (i := 18) rfl) rfl
set_option maxRecDepth 20000 in
theorem ml_X6_isSource : Cond.selects RX6 yX6_isSource yX6_isSource ∈ zWL := zw4 (List.mem_of_getElem? (i := 19) rfl) rfl
set_option maxRecDepth 20000 in
theorem mc_X6_sources : Cond.code yX6_sources cX6_sources 3 (some .int) ∈ zWL := zw4 (List.mem_of_getElem? (i := 65) rfl) rfl
set_option maxRecDepth 20000 in
theorem mi_X6_sources : Cond.instanceMethod yX6_sources ∈ zWL := zw4 (List.mem_of_getElem? (i := 63) rfl) rfl
set_option maxRecDepth 20000 in
theorem ml_X6_sources : Cond.selects RX6 yX6_sources yX6_sources ∈ zWL := zw4 (List.mem_of_getElem? (i := 64) rfl) rfl
set_option maxRecDepth 20000 in
theorem mc_X6_comingBy : Cond.code yX6_comingBy cX6_comingBy 4 (some .int) ∈ zWL := zw5 (List.mem_of_getElem? (i := 84) rfl) rfl
set_option maxRecDepth 20000 in
theorem mi_X6_comingBy : Cond.instanceMethod yX6_comingBy ∈ zWL := zw5 (List.mem_of_getElem? (i := 82) rfl) rfl
set_option maxRecDepth 20000 in
theorem ml_X6_comingBy : Cond.selects RX6 yX6_comingBy yX6_comingBy ∈ zWL := zw5 (List.mem_of_getElem? (i := 83) rfl) rfl
set_option maxRecDepth 20000 in
theorem mc_X6_greatestFar : Cond.code yX6_greatestFar cX6_greatestFar 3 (some .int) ∈ zWL := zw4 (List.mem_of_getElem? (i := 103) rfl) rfl
set_option maxRecDepth 20000 in
theorem mi_X6_greatestFar : Cond.instanceMethod yX6_greatestFar ∈ zWL := zw4 (List.mem_of_getElem? (i := 101) rfl) rfl
set_option maxRecDepth 20000 in
theorem ml_X6_greatestFar : Cond.selects RX6 yX6_greatestFar yX6_greatestFar ∈ zWL := zw4 (List.mem_of_getElem? (i := 102) rfl) rfl
set_option maxRecDepth 20000 in
theorem mc_X6_deepest : Cond.code yX6_deepest cX6_deepest 3 (some .int) ∈ zWL := zw5 (List.mem_of_getElem? (i := 67) rfl) rfl
set_option maxRecDepth 20000 in
theorem mi_X6_deepest : Cond.instanceMethod yX6_deepest ∈ zWL := zw5 (List.mem_of_getElem? (i := 65) rfl) rfl
set_option maxRecDepth 20000 in
theorem ml_X6_deepest : Cond.selects RX6 yX6_deepest yX6_deepest ∈ zWL := zw5 (List.mem_of_getElem? (i := 66) rfl) rfl
set_option maxRecDepth 20000 in
theorem mc_X6_tourOf : Cond.code yX6_tourOf cX6_tourOf 6 (some .int) ∈ zWL := zw5 (List.mem_of_getElem? (i := 97) rfl) rfl
set_option maxRecDepth 20000 in
theorem mi_X6_tourOf : Cond.instanceMethod yX6_tourOf ∈ zWL := zw5 (List.mem_of_getElem? (i := 95) rfl) rfl
set_option maxRecDepth 20000 in
theorem ml_X6_tourOf : Cond.selects RX6 yX6_tourOf yX6_tourOf ∈ zWL := zw5 (List.mem_of_getElem? (i := 96) rfl) rfl
set_option maxRecDepth 20000 in
theorem mc_X6_meeting : Cond.code yX6_meeting cX6_meeting 6 (some .int) ∈ zWL := zw5 (List.mem_of_getElem? (i := 109) rfl) rfl
set_option maxRecDepth 20000 in
theorem mi_X6_meeting : Cond.instanceMethod yX6_meeting ∈ zWL := zw5 (List.mem_of_getElem? (i := 107) rfl) rfl
set_option maxRecDepth 20000 in
theorem ml_X6_meeting : Cond.selects RX6 yX6_meeting yX6_meeting ∈ zWL := zw5 (List.mem_of_getElem? (i := 108) rfl) rfl
set_option maxRecDepth 20000 in
theorem mc_X7_init : Cond.code yX7_init cX7_init 1 none ∈ zWL := zw1 (List.mem_of_getElem? (i := 34) rfl) rfl
set_option maxRecDepth 20000 in
theorem mc_X7_append : Cond.code yX7_append cX7_append 3 none ∈ zWL := zw2 (List.mem_of_getElem? (i := 230) rfl) rfl
set_option maxRecDepth 20000 in
theorem mi_X7_append : Cond.instanceMethod yX7_append ∈ zWL := zw2 (List.mem_of_getElem? (i := 228) rfl) rfl
set_option maxRecDepth 20000 in
theorem ml_X7_append : Cond.selects RX7 yX7_append yX7_append ∈ zWL := zw2 (List.mem_of_getElem? (i := 229) rfl) rfl
set_option maxRecDepth 20000 in
theorem mc_X8_init : Cond.code yX8_init cX8_init 4 none ∈ zWL := zw1 (List.mem_of_getElem? (i := 56) rfl) rfl
set_option maxRecDepth 20000 in
theorem mc_X8_withLetter : Cond.code yX8_withLetter cX8_withLetter 3 (some .long) ∈ zWL := zw1 (List.mem_of_getElem? (i := 109) rfl) rfl
set_option maxRecDepth 20000 in
theorem ms_X8_withLetter : Cond.static yX8_withLetter ∈ zWL := zw1 (List.mem_of_getElem? (i := 108) rfl) rfl
set_option maxRecDepth 20000 in
theorem mc_X8_scan : Cond.code yX8_scan cX8_scan 8 none ∈ zWL := zw3 (List.mem_of_getElem? (i := 6) rfl) rfl
set_option maxRecDepth 20000 in
theorem mi_X8_scan : Cond.instanceMethod yX8_scan ∈ zWL := zw3 (List.mem_of_getElem? (i := 4) rfl) rfl
set_option maxRecDepth 20000 in
theorem ml_X8_scan : Cond.selects RX8 yX8_scan yX8_scan ∈ zWL := zw3 (List.mem_of_getElem? (i := 5) rfl) rfl
set_option maxRecDepth 20000 in
theorem mc_X8_addLetters : Cond.code yX8_addLetters cX8_addLetters 7 (some .int) ∈ zWL := zw3 (List.mem_of_getElem? (i := 20) rfl) rfl
set_option maxRecDepth 20000 in
theorem mi_X8_addLetters : Cond.instanceMethod yX8_addLetters ∈ zWL := zw3 (List.mem_of_getElem? (i := 19) rfl) rfl
theorem ml_X8_addLetters : Cond.selects RX8 yX8_addLetters yX8_addLetters ∈ zWL := List.mem_append_right _ (List.mem_filter.mpr ⟨List.mem_map.mpr ⟨(⟨"SourceDispute$Tokens", "addLetters", "([BII)I"⟩, 5), List.mem_of_getElem? (i := 1) (by decide +kernel), rfl⟩, by decide +kernel⟩)
set_option maxRecDepth 20000 in
theorem mc_X8_addDigits : Cond.code yX8_addDigits cX8_addDigits 6 (some .int) ∈ zWL := zw3 (List.mem_of_getElem? (i := 31) rfl) rfl
set_option maxRecDepth 20000 in
theorem mi_X8_addDigits : Cond.instanceMethod yX8_addDigits ∈ zWL := zw3 (List.mem_of_getElem? (i := 30) rfl) rfl
theorem ml_X8_addDigits : Cond.selects RX8 yX8_addDigits yX8_addDigits ∈ zWL := List.mem_append_right _ (List.mem_filter.mpr ⟨List.mem_map.mpr ⟨(⟨"SourceDispute$Tokens", "addDigits", "([BII)I"⟩, 5), List.mem_of_getElem? (i := 3) (by decide +kernel), rfl⟩, by decide +kernel⟩)
set_option maxRecDepth 20000 in
theorem mc_X8_kindOf : Cond.code yX8_kindOf cX8_kindOf 5 (some .int) ∈ zWL := zw3 (List.mem_of_getElem? (i := 24) rfl) rfl
set_option maxRecDepth 20000 in
theorem mi_X8_kindOf : Cond.instanceMethod yX8_kindOf ∈ zWL := zw3 (List.mem_of_getElem? (i := 23) rfl) rfl
theorem ml_X8_kindOf : Cond.selects RX8 yX8_kindOf yX8_kindOf ∈ zWL := List.mem_append_right _ (List.mem_filter.mpr ⟨List.mem_map.mpr ⟨(⟨"SourceDispute$Tokens", "kindOf", "(J)I"⟩, 5), List.mem_of_getElem? (i := 2) (by decide +kernel), rfl⟩, by decide +kernel⟩)
set_option maxRecDepth 20000 in
theorem mc_X8_add : Cond.code yX8_add cX8_add 5 none ∈ zWL := zw3 (List.mem_of_getElem? (i := 13) rfl) rfl
set_option maxRecDepth 20000 in
theorem mi_X8_add : Cond.instanceMethod yX8_add ∈ zWL := zw3 (List.mem_of_getElem? (i := 12) rfl) rfl
theorem ml_X8_add : Cond.selects RX8 yX8_add yX8_add ∈ zWL := List.mem_append_right _ (List.mem_filter.mpr ⟨List.mem_map.mpr ⟨(⟨"SourceDispute$Tokens", "add", "(IJI)V"⟩, 5), List.mem_of_getElem? (i := 0) (by decide +kernel), rfl⟩, by decide +kernel⟩)
set_option maxRecDepth 20000 in
theorem mc_X8_pastBlanks : Cond.code yX8_pastBlanks cX8_pastBlanks 4 (some .int) ∈ zWL := zw3 (List.mem_of_getElem? (i := 9) rfl) rfl
set_option maxRecDepth 20000 in
theorem ms_X8_pastBlanks : Cond.static yX8_pastBlanks ∈ zWL := zw3 (List.mem_of_getElem? (i := 8) rfl) rfl
set_option maxRecDepth 20000 in
theorem mc_X8_isLetter : Cond.code yX8_isLetter cX8_isLetter 1 (some .boolean) ∈ zWL := zw3 (List.mem_of_getElem? (i := 16) rfl) rfl
set_option maxRecDepth 20000 in
theorem ms_X8_isLetter : Cond.static yX8_isLetter ∈ zWL := zw3 (List.mem_of_getElem? (i := 15) rfl) rfl
set_option maxRecDepth 20000 in
theorem mc_X8_isDigit : Cond.code yX8_isDigit cX8_isDigit 1 (some .boolean) ∈ zWL := zw3 (List.mem_of_getElem? (i := 27) rfl) rfl
set_option maxRecDepth 20000 in
theorem ms_X8_isDigit : Cond.static yX8_isDigit ∈ zWL := zw3 (List.mem_of_getElem? (i := 26) rfl) rfl
set_option maxRecDepth 20000 in
theorem mc_X9_init : Cond.code yX9_init cX9_init 1 none ∈ zWL := zw2 (List.mem_of_getElem? (i := 99) rfl) rfl
set_option maxRecDepth 20000 in
theorem mc_X9_clear : Cond.code yX9_clear cX9_clear 3 none ∈ zWL := zw2 (List.mem_of_getElem? (i := 104) rfl) rfl
set_option maxRecDepth 20000 in
theorem mi_X9_clear : Cond.instanceMethod yX9_clear ∈ zWL := zw2 (List.mem_of_getElem? (i := 102) rfl) rfl
set_option maxRecDepth 20000 in
theorem ml_X9_clear : Cond.selects RX9 yX9_clear yX9_clear ∈ zWL := zw2 (List.mem_of_getElem? (i := 103) rfl) rfl
set_option maxRecDepth 20000 in
theorem mc_X9_addStep : Cond.code yX9_addStep cX9_addStep 3 none ∈ zWL := zw2 (List.mem_of_getElem? (i := 110) rfl) rfl
set_option maxRecDepth 20000 in
theorem mi_X9_addStep : Cond.instanceMethod yX9_addStep ∈ zWL := zw2 (List.mem_of_getElem? (i := 108) rfl) rfl
set_option maxRecDepth 20000 in
theorem ml_X9_addStep : Cond.selects RX9 yX9_addStep yX9_addStep ∈ zWL := zw2 (List.mem_of_getElem? (i := 109) rfl) rfl
set_option maxRecDepth 20000 in
theorem mc_X9_setValue : Cond.code yX9_setValue cX9_setValue 3 none ∈ zWL := zw3 (List.mem_of_getElem? (i := 165) rfl) rfl
set_option maxRecDepth 20000 in
theorem mi_X9_setValue : Cond.instanceMethod yX9_setValue ∈ zWL := zw3 (List.mem_of_getElem? (i := 163) rfl) rfl
set_option maxRecDepth 20000 in
theorem ml_X9_setValue : Cond.selects RX9 yX9_setValue yX9_setValue ∈ zWL := zw3 (List.mem_of_getElem? (i := 164) rfl) rfl
set_option maxRecDepth 20000 in
theorem mc_X9_setPlace : Cond.code yX9_setPlace cX9_setPlace 6 none ∈ zWL := zw3 (List.mem_of_getElem? (i := 128) rfl) rfl
set_option maxRecDepth 20000 in
theorem mi_X9_setPlace : Cond.instanceMethod yX9_setPlace ∈ zWL := zw3 (List.mem_of_getElem? (i := 126) rfl) rfl
set_option maxRecDepth 20000 in
theorem ml_X9_setPlace : Cond.selects RX9 yX9_setPlace yX9_setPlace ∈ zWL := zw3 (List.mem_of_getElem? (i := 127) rfl) rfl
set_option maxRecDepth 20000 in
theorem mc_X9_isStorm : Cond.code yX9_isStorm cX9_isStorm 3 (some .boolean) ∈ zWL := zw4 (List.mem_of_getElem? (i := 87) rfl) rfl
set_option maxRecDepth 20000 in
theorem mi_X9_isStorm : Cond.instanceMethod yX9_isStorm ∈ zWL := zw4 (List.mem_of_getElem? (i := 85) rfl) rfl
set_option maxRecDepth 20000 in
theorem ml_X9_isStorm : Cond.selects RX9 yX9_isStorm yX9_isStorm ∈ zWL := zw4 (List.mem_of_getElem? (i := 86) rfl) rfl
set_option maxRecDepth 20000 in
theorem mc_X9_lot : Cond.code yX9_lot cX9_lot 3 (some .int) ∈ zWL := zw4 (List.mem_of_getElem? (i := 90) rfl) rfl
set_option maxRecDepth 20000 in
theorem ms_X9_lot : Cond.static yX9_lot ∈ zWL := zw4 (List.mem_of_getElem? (i := 89) rfl) rfl
set_option maxRecDepth 20000 in
theorem mc_X9_stirred : Cond.code yX9_stirred cX9_stirred 3 (some .int) ∈ zWL := zw4 (List.mem_of_getElem? (i := 93) rfl) rfl
set_option maxRecDepth 20000 in
theorem ms_X9_stirred : Cond.static yX9_stirred ∈ zWL := zw4 (List.mem_of_getElem? (i := 92) rfl) rfl
set_option maxRecDepth 20000 in
theorem mc_X10_init : Cond.code yX10_init cX10_init 2 none ∈ zWL := zw1 (List.mem_of_getElem? (i := 26) rfl) rfl
set_option maxRecDepth 20000 in
theorem mc_X10_feed : Cond.code yX10_feed cX10_feed 6 (some .int) ∈ zWL := zw2 (List.mem_of_getElem? (i := 226) rfl) rfl
set_option maxRecDepth 20000 in
theorem mi_X10_feed : Cond.instanceMethod yX10_feed ∈ zWL := zw2 (List.mem_of_getElem? (i := 224) rfl) rfl
set_option maxRecDepth 20000 in
theorem ml_X10_feed : Cond.selects RX10 yX10_feed yX10_feed ∈ zWL := zw2 (List.mem_of_getElem? (i := 225) rfl) rfl
set_option maxRecDepth 20000 in
theorem mc_X10_back : Cond.code yX10_back cX10_back 2 (some .int) ∈ zWL := zw2 (List.mem_of_getElem? (i := 234) rfl) rfl
set_option maxRecDepth 20000 in
theorem mi_X10_back : Cond.instanceMethod yX10_back ∈ zWL := zw2 (List.mem_of_getElem? (i := 232) rfl) rfl
set_option maxRecDepth 20000 in
theorem ml_X10_back : Cond.selects RX10 yX10_back yX10_back ∈ zWL := zw2 (List.mem_of_getElem? (i := 233) rfl) rfl
set_option maxRecDepth 20000 in
theorem mc_X10_read : Cond.code yX10_read cX10_read 3 (some .int) ∈ zWL := zw2 (List.mem_of_getElem? (i := 238) rfl) rfl
set_option maxRecDepth 20000 in
theorem mi_X10_read : Cond.instanceMethod yX10_read ∈ zWL := zw2 (List.mem_of_getElem? (i := 236) rfl) rfl
set_option maxRecDepth 20000 in
theorem ml_X10_read : Cond.selects RX10 yX10_read yX10_read ∈ zWL := zw2 (List.mem_of_getElem? (i := 237) rfl) rfl
set_option maxRecDepth 20000 in
theorem mc_X10_beginAnew : Cond.code yX10_beginAnew cX10_beginAnew 1 none ∈ zWL := zw3 (List.mem_of_getElem? (i := 169) rfl) rfl
set_option maxRecDepth 20000 in
theorem mi_X10_beginAnew : Cond.instanceMethod yX10_beginAnew ∈ zWL := zw3 (List.mem_of_getElem? (i := 168) rfl) rfl
theorem ml_X10_beginAnew : Cond.selects RX10 yX10_beginAnew yX10_beginAnew ∈ zWL := List.mem_append_right _ (List.mem_filter.mpr ⟨List.mem_map.mpr ⟨(⟨"SourceDispute", "beginAnew", "()V"⟩, 14), List.mem_of_getElem? (i := 19) (by decide +kernel), rfl⟩, by decide +kernel⟩)
set_option maxRecDepth 20000 in
theorem mc_X10_place : Cond.code yX10_place cX10_place 1 (some .int) ∈ zWL := zw3 (List.mem_of_getElem? (i := 183) rfl) rfl
set_option maxRecDepth 20000 in
theorem mi_X10_place : Cond.instanceMethod yX10_place ∈ zWL := zw3 (List.mem_of_getElem? (i := 181) rfl) rfl
set_option maxRecDepth 20000 in
theorem ml_X10_place : Cond.selects RX10 yX10_place yX10_place ∈ zWL := zw3 (List.mem_of_getElem? (i := 182) rfl) rfl
set_option maxRecDepth 20000 in
theorem mc_X10_spot : Cond.code yX10_spot cX10_spot 3 (some .int) ∈ zWL := zw3 (List.mem_of_getElem? (i := 187) rfl) rfl
set_option maxRecDepth 20000 in
theorem mi_X10_spot : Cond.instanceMethod yX10_spot ∈ zWL := zw3 (List.mem_of_getElem? (i := 185) rfl) rfl
set_option maxRecDepth 20000 in
theorem ml_X10_spot : Cond.selects RX10 yX10_spot yX10_spot ∈ zWL := zw3 (List.mem_of_getElem? (i := 186) rfl) rfl
set_option maxRecDepth 20000 in
theorem mc_X10_claim : Cond.code yX10_claim cX10_claim 3 (some .int) ∈ zWL := zw4 (List.mem_of_getElem? (i := 25) rfl) rfl
set_option maxRecDepth 20000 in
theorem mi_X10_claim : Cond.instanceMethod yX10_claim ∈ zWL := zw4 (List.mem_of_getElem? (i := 23) rfl) rfl
set_option maxRecDepth 20000 in
theorem ml_X10_claim : Cond.selects RX10 yX10_claim yX10_claim ∈ zWL := zw4 (List.mem_of_getElem? (i := 24) rfl) rfl
set_option maxRecDepth 20000 in
theorem mc_X10_winner : Cond.code yX10_winner cX10_winner 2 (some .int) ∈ zWL := zw4 (List.mem_of_getElem? (i := 42) rfl) rfl
set_option maxRecDepth 20000 in
theorem mi_X10_winner : Cond.instanceMethod yX10_winner ∈ zWL := zw4 (List.mem_of_getElem? (i := 40) rfl) rfl
set_option maxRecDepth 20000 in
theorem ml_X10_winner : Cond.selects RX10 yX10_winner yX10_winner ∈ zWL := zw4 (List.mem_of_getElem? (i := 41) rfl) rfl
set_option maxRecDepth 20000 in
theorem mc_X10_count : Cond.code yX10_count cX10_count 2 (some .int) ∈ zWL := zw4 (List.mem_of_getElem? (i := 60) rfl) rfl
set_option maxRecDepth 20000 in
theorem mi_X10_count : Cond.instanceMethod yX10_count ∈ zWL := zw4 (List.mem_of_getElem? (i := 58) rfl) rfl
set_option maxRecDepth 20000 in
theorem ml_X10_count : Cond.selects RX10 yX10_count yX10_count ∈ zWL := zw4 (List.mem_of_getElem? (i := 59) rfl) rfl
set_option maxRecDepth 20000 in
theorem mc_X10_sumOf : Cond.code yX10_sumOf cX10_sumOf 4 (some .int) ∈ zWL := zw4 (List.mem_of_getElem? (i := 77) rfl) rfl
set_option maxRecDepth 20000 in
theorem mi_X10_sumOf : Cond.instanceMethod yX10_sumOf ∈ zWL := zw4 (List.mem_of_getElem? (i := 76) rfl) rfl
theorem ml_X10_sumOf : Cond.selects RX10 yX10_sumOf yX10_sumOf ∈ zWL := List.mem_append_right _ (List.mem_filter.mpr ⟨List.mem_map.mpr ⟨(⟨"SourceDispute", "sumOf", "([I)I"⟩, 14), List.mem_of_getElem? (i := 31) (by decide +kernel), rfl⟩, by decide +kernel⟩)
set_option maxRecDepth 20000 in
theorem mc_X10_turnedPlaces : Cond.code yX10_turnedPlaces cX10_turnedPlaces 3 (some .int) ∈ zWL := zw4 (List.mem_of_getElem? (i := 99) rfl) rfl
set_option maxRecDepth 20000 in
theorem mi_X10_turnedPlaces : Cond.instanceMethod yX10_turnedPlaces ∈ zWL := zw4 (List.mem_of_getElem? (i := 98) rfl) rfl
theorem ml_X10_turnedPlaces : Cond.selects RX10 yX10_turnedPlaces yX10_turnedPlaces ∈ zWL := List.mem_append_right _ (List.mem_filter.mpr ⟨List.mem_map.mpr ⟨(⟨"SourceDispute", "turnedPlaces", "()I"⟩, 14), List.mem_of_getElem? (i := 32) (by decide +kernel), rfl⟩, by decide +kernel⟩)
set_option maxRecDepth 20000 in
theorem mc_X10_dam : Cond.code yX10_dam cX10_dam 3 (some .boolean) ∈ zWL := zw4 (List.mem_of_getElem? (i := 108) rfl) rfl
set_option maxRecDepth 20000 in
theorem mi_X10_dam : Cond.instanceMethod yX10_dam ∈ zWL := zw4 (List.mem_of_getElem? (i := 106) rfl) rfl
set_option maxRecDepth 20000 in
theorem ml_X10_dam : Cond.selects RX10 yX10_dam yX10_dam ∈ zWL := zw4 (List.mem_of_getElem? (i := 107) rfl) rfl
set_option maxRecDepth 20000 in
theorem mc_X10_turn : Cond.code yX10_turn cX10_turn 3 (some .boolean) ∈ zWL := zw4 (List.mem_of_getElem? (i := 121) rfl) rfl
set_option maxRecDepth 20000 in
theorem mi_X10_turn : Cond.instanceMethod yX10_turn ∈ zWL := zw4 (List.mem_of_getElem? (i := 119) rfl) rfl
set_option maxRecDepth 20000 in
theorem ml_X10_turn : Cond.selects RX10 yX10_turn yX10_turn ∈ zWL := zw4 (List.mem_of_getElem? (i := 120) rfl) rfl
set_option maxRecDepth 20000 in
theorem mc_X10_isTurn : Cond.code yX10_isTurn cX10_isTurn 3 (some .boolean) ∈ zWL := zw4 (List.mem_of_getElem? (i := 125) rfl) rfl
set_option maxRecDepth 20000 in
theorem mi_X10_isTurn : Cond.instanceMethod yX10_isTurn ∈ zWL := zw4 (List.mem_of_getElem? (i := 124) rfl) rfl
theorem ml_X10_isTurn : Cond.selects RX10 yX10_isTurn yX10_isTurn ∈ zWL := List.mem_append_right _ (List.mem_filter.mpr ⟨List.mem_map.mpr ⟨(⟨"SourceDispute", "isTurn", "(II)Z"⟩, 14), List.mem_of_getElem? (i := 33) (by decide +kernel), rfl⟩, by decide +kernel⟩)
set_option maxRecDepth 20000 in
theorem mc_X10_rule : Cond.code yX10_rule cX10_rule 2 (some .boolean) ∈ zWL := zw4 (List.mem_of_getElem? (i := 133) rfl) rfl
set_option maxRecDepth 20000 in
theorem mi_X10_rule : Cond.instanceMethod yX10_rule ∈ zWL := zw4 (List.mem_of_getElem? (i := 131) rfl) rfl
set_option maxRecDepth 20000 in
theorem ml_X10_rule : Cond.selects RX10 yX10_rule yX10_rule ∈ zWL := zw4 (List.mem_of_getElem? (i := 132) rfl) rfl
set_option maxRecDepth 20000 in
theorem mc_X10_months : Cond.code yX10_months cX10_months 2 (some .int) ∈ zWL := zw4 (List.mem_of_getElem? (i := 137) rfl) rfl
set_option maxRecDepth 20000 in
theorem mi_X10_months : Cond.instanceMethod yX10_months ∈ zWL := zw4 (List.mem_of_getElem? (i := 135) rfl) rfl
set_option maxRecDepth 20000 in
theorem ml_X10_months : Cond.selects RX10 yX10_months yX10_months ∈ zWL := zw4 (List.mem_of_getElem? (i := 136) rfl) rfl
set_option maxRecDepth 20000 in
theorem mc_X10_undo : Cond.code yX10_undo cX10_undo 1 (some .boolean) ∈ zWL := zw4 (List.mem_of_getElem? (i := 156) rfl) rfl
set_option maxRecDepth 20000 in
theorem mi_X10_undo : Cond.instanceMethod yX10_undo ∈ zWL := zw4 (List.mem_of_getElem? (i := 154) rfl) rfl
set_option maxRecDepth 20000 in
theorem ml_X10_undo : Cond.selects RX10 yX10_undo yX10_undo ∈ zWL := zw4 (List.mem_of_getElem? (i := 155) rfl) rfl
set_option maxRecDepth 20000 in
theorem mc_X10_hold : Cond.code yX10_hold cX10_hold 2 (some .boolean) ∈ zWL := zw4 (List.mem_of_getElem? (i := 164) rfl) rfl
set_option maxRecDepth 20000 in
theorem mi_X10_hold : Cond.instanceMethod yX10_hold ∈ zWL := zw4 (List.mem_of_getElem? (i := 162) rfl) rfl
set_option maxRecDepth 20000 in
theorem ml_X10_hold : Cond.selects RX10 yX10_hold yX10_hold ∈ zWL := zw4 (List.mem_of_getElem? (i := 163) rfl) rfl
set_option maxRecDepth 20000 in
theorem mc_X10_restore : Cond.code yX10_restore cX10_restore 2 (some .boolean) ∈ zWL := zw4 (List.mem_of_getElem? (i := 169) rfl) rfl
set_option maxRecDepth 20000 in
theorem mi_X10_restore : Cond.instanceMethod yX10_restore ∈ zWL := zw4 (List.mem_of_getElem? (i := 167) rfl) rfl
set_option maxRecDepth 20000 in
theorem ml_X10_restore : Cond.selects RX10 yX10_restore yX10_restore ∈ zWL := zw4 (List.mem_of_getElem? (i := 168) rfl) rfl
set_option maxRecDepth 20000 in
theorem mc_X10_behind : Cond.code yX10_behind cX10_behind 4 (some .int) ∈ zWL := zw4 (List.mem_of_getElem? (i := 173) rfl) rfl
set_option maxRecDepth 20000 in
theorem mi_X10_behind : Cond.instanceMethod yX10_behind ∈ zWL := zw4 (List.mem_of_getElem? (i := 171) rfl) rfl
set_option maxRecDepth 20000 in
theorem ml_X10_behind : Cond.selects RX10 yX10_behind yX10_behind ∈ zWL := zw4 (List.mem_of_getElem? (i := 172) rfl) rfl
set_option maxRecDepth 20000 in
theorem mc_X10_margin : Cond.code yX10_margin cX10_margin 4 (some .int) ∈ zWL := zw4 (List.mem_of_getElem? (i := 177) rfl) rfl
set_option maxRecDepth 20000 in
theorem mi_X10_margin : Cond.instanceMethod yX10_margin ∈ zWL := zw4 (List.mem_of_getElem? (i := 175) rfl) rfl
set_option maxRecDepth 20000 in
theorem ml_X10_margin : Cond.selects RX10 yX10_margin yX10_margin ∈ zWL := zw4 (List.mem_of_getElem? (i := 176) rfl) rfl
set_option maxRecDepth 20000 in
theorem mc_X10_rank : Cond.code yX10_rank cX10_rank 3 (some .int) ∈ zWL := zw4 (List.mem_of_getElem? (i := 183) rfl) rfl
set_option maxRecDepth 20000 in
theorem mi_X10_rank : Cond.instanceMethod yX10_rank ∈ zWL := zw4 (List.mem_of_getElem? (i := 181) rfl) rfl
set_option maxRecDepth 20000 in
theorem ml_X10_rank : Cond.selects RX10 yX10_rank yX10_rank ∈ zWL := zw4 (List.mem_of_getElem? (i := 182) rfl) rfl
set_option maxRecDepth 20000 in
theorem mc_X10_vote : Cond.code yX10_vote cX10_vote 4 (some .int) ∈ zWL := zw4 (List.mem_of_getElem? (i := 191) rfl) rfl
set_option maxRecDepth 20000 in
theorem mi_X10_vote : Cond.instanceMethod yX10_vote ∈ zWL := zw4 (List.mem_of_getElem? (i := 189) rfl) rfl
set_option maxRecDepth 20000 in
theorem ml_X10_vote : Cond.selects RX10 yX10_vote yX10_vote ∈ zWL := zw4 (List.mem_of_getElem? (i := 190) rfl) rfl
set_option maxRecDepth 20000 in
theorem mc_X10_castVotes : Cond.code yX10_castVotes cX10_castVotes 4 none ∈ zWL := zw4 (List.mem_of_getElem? (i := 195) rfl) rfl
set_option maxRecDepth 20000 in
theorem mi_X10_castVotes : Cond.instanceMethod yX10_castVotes ∈ zWL := zw4 (List.mem_of_getElem? (i := 194) rfl) rfl
theorem ml_X10_castVotes : Cond.selects RX10 yX10_castVotes yX10_castVotes ∈ zWL := List.mem_append_right _ (List.mem_filter.mpr ⟨List.mem_map.mpr ⟨(⟨"SourceDispute", "castVotes", "()V"⟩, 14), List.mem_of_getElem? (i := 35) (by decide +kernel), rfl⟩, by decide +kernel⟩)
set_option maxRecDepth 20000 in
theorem mc_X10_votesFor : Cond.code yX10_votesFor cX10_votesFor 4 (some .int) ∈ zWL := zw4 (List.mem_of_getElem? (i := 199) rfl) rfl
set_option maxRecDepth 20000 in
theorem mi_X10_votesFor : Cond.instanceMethod yX10_votesFor ∈ zWL := zw4 (List.mem_of_getElem? (i := 198) rfl) rfl
theorem ml_X10_votesFor : Cond.selects RX10 yX10_votesFor yX10_votesFor ∈ zWL := List.mem_append_right _ (List.mem_filter.mpr ⟨List.mem_map.mpr ⟨(⟨"SourceDispute", "votesFor", "(I)I"⟩, 14), List.mem_of_getElem? (i := 36) (by decide +kernel), rfl⟩, by decide +kernel⟩)
set_option maxRecDepth 20000 in
theorem mc_X10_richest : Cond.code yX10_richest cX10_richest 4 (some .int) ∈ zWL := zw4 (List.mem_of_getElem? (i := 203) rfl) rfl
set_option maxRecDepth 20000 in
theorem mi_X10_richest : Cond.instanceMethod yX10_richest ∈ zWL := zw4 (List.mem_of_getElem? (i := 201) rfl) rfl
set_option maxRecDepth 20000 in
theorem ml_X10_richest : Cond.selects RX10 yX10_richest yX10_richest ∈ zWL := zw4 (List.mem_of_getElem? (i := 202) rfl) rfl
set_option maxRecDepth 20000 in
theorem mc_X10_turnFor : Cond.code yX10_turnFor cX10_turnFor 5 (some .int) ∈ zWL := zw4 (List.mem_of_getElem? (i := 207) rfl) rfl
set_option maxRecDepth 20000 in
theorem mi_X10_turnFor : Cond.instanceMethod yX10_turnFor ∈ zWL := zw4 (List.mem_of_getElem? (i := 205) rfl) rfl
set_option maxRecDepth 20000 in
theorem ml_X10_turnFor : Cond.selects RX10 yX10_turnFor yX10_turnFor ∈ zWL := zw4 (List.mem_of_getElem? (i := 206) rfl) rfl
set_option maxRecDepth 20000 in
theorem mc_X10_winsTurned : Cond.code yX10_winsTurned cX10_winsTurned 5 (some .boolean) ∈ zWL := zw4 (List.mem_of_getElem? (i := 211) rfl) rfl
set_option maxRecDepth 20000 in
theorem mi_X10_winsTurned : Cond.instanceMethod yX10_winsTurned ∈ zWL := zw4 (List.mem_of_getElem? (i := 210) rfl) rfl
theorem ml_X10_winsTurned : Cond.selects RX10 yX10_winsTurned yX10_winsTurned ∈ zWL := List.mem_append_right _ (List.mem_filter.mpr ⟨List.mem_map.mpr ⟨(⟨"SourceDispute", "winsTurned", "(IIII)Z"⟩, 14), List.mem_of_getElem? (i := 37) (by decide +kernel), rfl⟩, by decide +kernel⟩)
set_option maxRecDepth 20000 in
theorem mc_X10_damFor : Cond.code yX10_damFor cX10_damFor 4 (some .int) ∈ zWL := zw4 (List.mem_of_getElem? (i := 215) rfl) rfl
set_option maxRecDepth 20000 in
theorem mi_X10_damFor : Cond.instanceMethod yX10_damFor ∈ zWL := zw4 (List.mem_of_getElem? (i := 213) rfl) rfl
set_option maxRecDepth 20000 in
theorem ml_X10_damFor : Cond.selects RX10 yX10_damFor yX10_damFor ∈ zWL := zw4 (List.mem_of_getElem? (i := 214) rfl) rfl
set_option maxRecDepth 20000 in
theorem mc_X10_dams : Cond.code yX10_dams cX10_dams 4 (some .int) ∈ zWL := zw4 (List.mem_of_getElem? (i := 220) rfl) rfl
set_option maxRecDepth 20000 in
theorem mi_X10_dams : Cond.instanceMethod yX10_dams ∈ zWL := zw4 (List.mem_of_getElem? (i := 218) rfl) rfl
set_option maxRecDepth 20000 in
theorem ml_X10_dams : Cond.selects RX10 yX10_dams yX10_dams ∈ zWL := zw4 (List.mem_of_getElem? (i := 219) rfl) rfl
set_option maxRecDepth 20000 in
theorem mc_X10_fewestDams : Cond.code yX10_fewestDams cX10_fewestDams 5 (some .int) ∈ zWL := zw4 (List.mem_of_getElem? (i := 224) rfl) rfl
set_option maxRecDepth 20000 in
theorem mi_X10_fewestDams : Cond.instanceMethod yX10_fewestDams ∈ zWL := zw4 (List.mem_of_getElem? (i := 223) rfl) rfl
theorem ml_X10_fewestDams : Cond.selects RX10 yX10_fewestDams yX10_fewestDams ∈ zWL := List.mem_append_right _ (List.mem_filter.mpr ⟨List.mem_map.mpr ⟨(⟨"SourceDispute", "fewestDams", "(I)I"⟩, 14), List.mem_of_getElem? (i := 38) (by decide +kernel), rfl⟩, by decide +kernel⟩)
set_option maxRecDepth 20000 in
theorem mc_X10_isAhead : Cond.code yX10_isAhead cX10_isAhead 4 (some .boolean) ∈ zWL := zw4 (List.mem_of_getElem? (i := 227) rfl) rfl
set_option maxRecDepth 20000 in
theorem ms_X10_isAhead : Cond.static yX10_isAhead ∈ zWL := zw4 (List.mem_of_getElem? (i := 226) rfl) rfl
set_option maxRecDepth 20000 in
theorem mc_X10_loss : Cond.code yX10_loss cX10_loss 2 (some .int) ∈ zWL := zw4 (List.mem_of_getElem? (i := 234) rfl) rfl
set_option maxRecDepth 20000 in
theorem mi_X10_loss : Cond.instanceMethod yX10_loss ∈ zWL := zw4 (List.mem_of_getElem? (i := 232) rfl) rfl
set_option maxRecDepth 20000 in
theorem ml_X10_loss : Cond.selects RX10 yX10_loss yX10_loss ∈ zWL := zw4 (List.mem_of_getElem? (i := 233) rfl) rfl
set_option maxRecDepth 20000 in
theorem mc_X10_lossOf : Cond.code yX10_lossOf cX10_lossOf 3 (some .int) ∈ zWL := zw4 (List.mem_of_getElem? (i := 238) rfl) rfl
set_option maxRecDepth 20000 in
theorem mi_X10_lossOf : Cond.instanceMethod yX10_lossOf ∈ zWL := zw4 (List.mem_of_getElem? (i := 237) rfl) rfl
theorem ml_X10_lossOf : Cond.selects RX10 yX10_lossOf yX10_lossOf ∈ zWL := List.mem_append_right _ (List.mem_filter.mpr ⟨List.mem_map.mpr ⟨(⟨"SourceDispute", "lossOf", "(I)I"⟩, 14), List.mem_of_getElem? (i := 39) (by decide +kernel), rfl⟩, by decide +kernel⟩)
set_option maxRecDepth 20000 in
theorem mc_X10_part : Cond.code yX10_part cX10_part 3 (some .int) ∈ zWL := zw5 (List.mem_of_getElem? (i := 2) rfl) rfl
set_option maxRecDepth 20000 in
theorem mi_X10_part : Cond.instanceMethod yX10_part ∈ zWL := zw5 (List.mem_of_getElem? (i := 0) rfl) rfl
set_option maxRecDepth 20000 in
theorem ml_X10_part : Cond.selects RX10 yX10_part yX10_part ∈ zWL := zw5 (List.mem_of_getElem? (i := 1) rfl) rfl
set_option maxRecDepth 20000 in
theorem mc_X10_main : Cond.code yX10_main cX10_main 4 (some .int) ∈ zWL := zw5 (List.mem_of_getElem? (i := 6) rfl) rfl
set_option maxRecDepth 20000 in
theorem mi_X10_main : Cond.instanceMethod yX10_main ∈ zWL := zw5 (List.mem_of_getElem? (i := 4) rfl) rfl
set_option maxRecDepth 20000 in
theorem ml_X10_main : Cond.selects RX10 yX10_main yX10_main ∈ zWL := zw5 (List.mem_of_getElem? (i := 5) rfl) rfl
set_option maxRecDepth 20000 in
theorem mc_X10_greatestInto : Cond.code yX10_greatestInto cX10_greatestInto 4 (some .int) ∈ zWL := zw5 (List.mem_of_getElem? (i := 10) rfl) rfl
set_option maxRecDepth 20000 in
theorem mi_X10_greatestInto : Cond.instanceMethod yX10_greatestInto ∈ zWL := zw5 (List.mem_of_getElem? (i := 9) rfl) rfl
theorem ml_X10_greatestInto : Cond.selects RX10 yX10_greatestInto yX10_greatestInto ∈ zWL := List.mem_append_right _ (List.mem_filter.mpr ⟨List.mem_map.mpr ⟨(⟨"SourceDispute", "greatestInto", "(I)I"⟩, 14), List.mem_of_getElem? (i := 40) (by decide +kernel), rfl⟩, by decide +kernel⟩)
set_option maxRecDepth 20000 in
theorem mc_X10_tryFromNow : Cond.code yX10_tryFromNow cX10_tryFromNow 1 none ∈ zWL := zw5 (List.mem_of_getElem? (i := 18) rfl) rfl
set_option maxRecDepth 20000 in
theorem mi_X10_tryFromNow : Cond.instanceMethod yX10_tryFromNow ∈ zWL := zw5 (List.mem_of_getElem? (i := 17) rfl) rfl
theorem ml_X10_tryFromNow : Cond.selects RX10 yX10_tryFromNow yX10_tryFromNow ∈ zWL := List.mem_append_right _ (List.mem_filter.mpr ⟨List.mem_map.mpr ⟨(⟨"SourceDispute", "tryFromNow", "()V"⟩, 14), List.mem_of_getElem? (i := 41) (by decide +kernel), rfl⟩, by decide +kernel⟩)
set_option maxRecDepth 20000 in
theorem mc_X10_agree : Cond.code yX10_agree cX10_agree 5 (some .int) ∈ zWL := zw5 (List.mem_of_getElem? (i := 14) rfl) rfl
set_option maxRecDepth 20000 in
theorem mi_X10_agree : Cond.instanceMethod yX10_agree ∈ zWL := zw5 (List.mem_of_getElem? (i := 12) rfl) rfl
set_option maxRecDepth 20000 in
theorem ml_X10_agree : Cond.selects RX10 yX10_agree yX10_agree ∈ zWL := zw5 (List.mem_of_getElem? (i := 13) rfl) rfl
set_option maxRecDepth 20000 in
theorem mc_X10_driest : Cond.code yX10_driest cX10_driest 6 (some .int) ∈ zWL := zw5 (List.mem_of_getElem? (i := 26) rfl) rfl
set_option maxRecDepth 20000 in
theorem mi_X10_driest : Cond.instanceMethod yX10_driest ∈ zWL := zw5 (List.mem_of_getElem? (i := 24) rfl) rfl
set_option maxRecDepth 20000 in
theorem ml_X10_driest : Cond.selects RX10 yX10_driest yX10_driest ∈ zWL := zw5 (List.mem_of_getElem? (i := 25) rfl) rfl
set_option maxRecDepth 20000 in
theorem mc_X10_reign : Cond.code yX10_reign cX10_reign 6 (some .int) ∈ zWL := zw5 (List.mem_of_getElem? (i := 30) rfl) rfl
set_option maxRecDepth 20000 in
theorem mi_X10_reign : Cond.instanceMethod yX10_reign ∈ zWL := zw5 (List.mem_of_getElem? (i := 28) rfl) rfl
set_option maxRecDepth 20000 in
theorem ml_X10_reign : Cond.selects RX10 yX10_reign yX10_reign ∈ zWL := zw5 (List.mem_of_getElem? (i := 29) rfl) rfl
set_option maxRecDepth 20000 in
theorem mc_X10_tallied : Cond.code yX10_tallied cX10_tallied 3 (some .int) ∈ zWL := zw5 (List.mem_of_getElem? (i := 35) rfl) rfl
set_option maxRecDepth 20000 in
theorem mi_X10_tallied : Cond.instanceMethod yX10_tallied ∈ zWL := zw5 (List.mem_of_getElem? (i := 34) rfl) rfl
theorem ml_X10_tallied : Cond.selects RX10 yX10_tallied yX10_tallied ∈ zWL := List.mem_append_right _ (List.mem_filter.mpr ⟨List.mem_map.mpr ⟨(⟨"SourceDispute", "tallied", "()I"⟩, 14), List.mem_of_getElem? (i := 42) (by decide +kernel), rfl⟩, by decide +kernel⟩)
set_option maxRecDepth 20000 in
theorem mc_X10_mostTallied : Cond.code yX10_mostTallied cX10_mostTallied 3 (some .int) ∈ zWL := zw5 (List.mem_of_getElem? (i := 39) rfl) rfl
set_option maxRecDepth 20000 in
theorem mi_X10_mostTallied : Cond.instanceMethod yX10_mostTallied ∈ zWL := zw5 (List.mem_of_getElem? (i := 38) rfl) rfl
theorem ml_X10_mostTallied : Cond.selects RX10 yX10_mostTallied yX10_mostTallied ∈ zWL := List.mem_append_right _ (List.mem_filter.mpr ⟨List.mem_map.mpr ⟨(⟨"SourceDispute", "mostTallied", "()I"⟩, 14), List.mem_of_getElem? (i := 43) (by decide +kernel), rfl⟩, by decide +kernel⟩)
set_option maxRecDepth 20000 in
theorem mc_X10_when : Cond.code yX10_when cX10_when 3 (some .int) ∈ zWL := zw5 (List.mem_of_getElem? (i := 43) rfl) rfl
set_option maxRecDepth 20000 in
theorem mi_X10_when : Cond.instanceMethod yX10_when ∈ zWL := zw5 (List.mem_of_getElem? (i := 41) rfl) rfl
set_option maxRecDepth 20000 in
theorem ml_X10_when : Cond.selects RX10 yX10_when yX10_when ∈ zWL := zw5 (List.mem_of_getElem? (i := 42) rfl) rfl
set_option maxRecDepth 20000 in
theorem mc_X10_then : Cond.code yX10_then cX10_then 4 (some .int) ∈ zWL := zw5 (List.mem_of_getElem? (i := 47) rfl) rfl
set_option maxRecDepth 20000 in
theorem mi_X10_then : Cond.instanceMethod yX10_then ∈ zWL := zw5 (List.mem_of_getElem? (i := 45) rfl) rfl
set_option maxRecDepth 20000 in
theorem ml_X10_then : Cond.selects RX10 yX10_then yX10_then ∈ zWL := zw5 (List.mem_of_getElem? (i := 46) rfl) rfl
set_option maxRecDepth 20000 in
theorem mc_X10_flowIn : Cond.code yX10_flowIn cX10_flowIn 2 (some .int) ∈ zWL := zw5 (List.mem_of_getElem? (i := 51) rfl) rfl
set_option maxRecDepth 20000 in
theorem mi_X10_flowIn : Cond.instanceMethod yX10_flowIn ∈ zWL := zw5 (List.mem_of_getElem? (i := 49) rfl) rfl
set_option maxRecDepth 20000 in
theorem ml_X10_flowIn : Cond.selects RX10 yX10_flowIn yX10_flowIn ∈ zWL := zw5 (List.mem_of_getElem? (i := 50) rfl) rfl
set_option maxRecDepth 20000 in
theorem mc_X10_year : Cond.code yX10_year cX10_year 6 (some .int) ∈ zWL := zw5 (List.mem_of_getElem? (i := 55) rfl) rfl
set_option maxRecDepth 20000 in
theorem mi_X10_year : Cond.instanceMethod yX10_year ∈ zWL := zw5 (List.mem_of_getElem? (i := 53) rfl) rfl
set_option maxRecDepth 20000 in
theorem ml_X10_year : Cond.selects RX10 yX10_year yX10_year ∈ zWL := zw5 (List.mem_of_getElem? (i := 54) rfl) rfl
set_option maxRecDepth 20000 in
theorem mc_X10_hasWonMost : Cond.code yX10_hasWonMost cX10_hasWonMost 4 (some .boolean) ∈ zWL := zw5 (List.mem_of_getElem? (i := 59) rfl) rfl
set_option maxRecDepth 20000 in
theorem mi_X10_hasWonMost : Cond.instanceMethod yX10_hasWonMost ∈ zWL := zw5 (List.mem_of_getElem? (i := 58) rfl) rfl
theorem ml_X10_hasWonMost : Cond.selects RX10 yX10_hasWonMost yX10_hasWonMost ∈ zWL := List.mem_append_right _ (List.mem_filter.mpr ⟨List.mem_map.mpr ⟨(⟨"SourceDispute", "hasWonMost", "(I)Z"⟩, 14), List.mem_of_getElem? (i := 44) (by decide +kernel), rfl⟩, by decide +kernel⟩)
set_option maxRecDepth 20000 in
theorem mc_X10_depth : Cond.code yX10_depth cX10_depth 1 (some .int) ∈ zWL := zw5 (List.mem_of_getElem? (i := 63) rfl) rfl
set_option maxRecDepth 20000 in
theorem mi_X10_depth : Cond.instanceMethod yX10_depth ∈ zWL := zw5 (List.mem_of_getElem? (i := 61) rfl) rfl
set_option maxRecDepth 20000 in
theorem ml_X10_depth : Cond.selects RX10 yX10_depth yX10_depth ∈ zWL := zw5 (List.mem_of_getElem? (i := 62) rfl) rfl
set_option maxRecDepth 20000 in
theorem mc_X10_order : Cond.code yX10_order cX10_order 2 (some .int) ∈ zWL := zw5 (List.mem_of_getElem? (i := 72) rfl) rfl
set_option maxRecDepth 20000 in
theorem mi_X10_order : Cond.instanceMethod yX10_order ∈ zWL := zw5 (List.mem_of_getElem? (i := 70) rfl) rfl
set_option maxRecDepth 20000 in
theorem ml_X10_order : Cond.selects RX10 yX10_order yX10_order ∈ zWL := zw5 (List.mem_of_getElem? (i := 71) rfl) rfl
set_option maxRecDepth 20000 in
theorem mc_X10_basin : Cond.code yX10_basin cX10_basin 4 (some .int) ∈ zWL := zw5 (List.mem_of_getElem? (i := 80) rfl) rfl
set_option maxRecDepth 20000 in
theorem mi_X10_basin : Cond.instanceMethod yX10_basin ∈ zWL := zw5 (List.mem_of_getElem? (i := 78) rfl) rfl
set_option maxRecDepth 20000 in
theorem ml_X10_basin : Cond.selects RX10 yX10_basin yX10_basin ∈ zWL := zw5 (List.mem_of_getElem? (i := 79) rfl) rfl
set_option maxRecDepth 20000 in
theorem mc_X10_tour : Cond.code yX10_tour cX10_tour 1 (some .int) ∈ zWL := zw5 (List.mem_of_getElem? (i := 93) rfl) rfl
set_option maxRecDepth 20000 in
theorem mi_X10_tour : Cond.instanceMethod yX10_tour ∈ zWL := zw5 (List.mem_of_getElem? (i := 91) rfl) rfl
set_option maxRecDepth 20000 in
theorem ml_X10_tour : Cond.selects RX10 yX10_tour yX10_tour ∈ zWL := zw5 (List.mem_of_getElem? (i := 92) rfl) rfl
set_option maxRecDepth 20000 in
theorem mc_X10_parted : Cond.code yX10_parted cX10_parted 4 (some .int) ∈ zWL := zw5 (List.mem_of_getElem? (i := 101) rfl) rfl
set_option maxRecDepth 20000 in
theorem mi_X10_parted : Cond.instanceMethod yX10_parted ∈ zWL := zw5 (List.mem_of_getElem? (i := 99) rfl) rfl
set_option maxRecDepth 20000 in
theorem ml_X10_parted : Cond.selects RX10 yX10_parted yX10_parted ∈ zWL := zw5 (List.mem_of_getElem? (i := 100) rfl) rfl
set_option maxRecDepth 20000 in
theorem mc_X10_meet : Cond.code yX10_meet cX10_meet 5 (some .int) ∈ zWL := zw5 (List.mem_of_getElem? (i := 105) rfl) rfl
set_option maxRecDepth 20000 in
theorem mi_X10_meet : Cond.instanceMethod yX10_meet ∈ zWL := zw5 (List.mem_of_getElem? (i := 103) rfl) rfl
set_option maxRecDepth 20000 in
theorem ml_X10_meet : Cond.selects RX10 yX10_meet yX10_meet ∈ zWL := zw5 (List.mem_of_getElem? (i := 104) rfl) rfl
set_option maxRecDepth 20000 in
theorem mc_X10_tell : Cond.code yX10_tell cX10_tell 5 (some .int) ∈ zWL := zw5 (List.mem_of_getElem? (i := 113) rfl) rfl
set_option maxRecDepth 20000 in
theorem mi_X10_tell : Cond.instanceMethod yX10_tell ∈ zWL := zw5 (List.mem_of_getElem? (i := 111) rfl) rfl
set_option maxRecDepth 20000 in
theorem ml_X10_tell : Cond.selects RX10 yX10_tell yX10_tell ∈ zWL := zw5 (List.mem_of_getElem? (i := 112) rfl) rfl
set_option maxRecDepth 20000 in
theorem mc_X10_forget : Cond.code yX10_forget cX10_forget 2 (some .int) ∈ zWL := zw5 (List.mem_of_getElem? (i := 121) rfl) rfl
set_option maxRecDepth 20000 in
theorem mi_X10_forget : Cond.instanceMethod yX10_forget ∈ zWL := zw5 (List.mem_of_getElem? (i := 119) rfl) rfl
set_option maxRecDepth 20000 in
theorem ml_X10_forget : Cond.selects RX10 yX10_forget yX10_forget ∈ zWL := zw5 (List.mem_of_getElem? (i := 120) rfl) rfl
set_option maxRecDepth 20000 in
theorem mc_X10_dyed : Cond.code yX10_dyed cX10_dyed 4 (some .int) ∈ zWL := zw5 (List.mem_of_getElem? (i := 125) rfl) rfl
set_option maxRecDepth 20000 in
theorem mi_X10_dyed : Cond.instanceMethod yX10_dyed ∈ zWL := zw5 (List.mem_of_getElem? (i := 123) rfl) rfl
set_option maxRecDepth 20000 in
theorem ml_X10_dyed : Cond.selects RX10 yX10_dyed yX10_dyed ∈ zWL := zw5 (List.mem_of_getElem? (i := 124) rfl) rfl
set_option maxRecDepth 20000 in
theorem mc_X10_watch : Cond.code yX10_watch cX10_watch 5 (some .int) ∈ zWL := zw5 (List.mem_of_getElem? (i := 141) rfl) rfl
set_option maxRecDepth 20000 in
theorem mi_X10_watch : Cond.instanceMethod yX10_watch ∈ zWL := zw5 (List.mem_of_getElem? (i := 139) rfl) rfl
set_option maxRecDepth 20000 in
theorem ml_X10_watch : Cond.selects RX10 yX10_watch yX10_watch ∈ zWL := zw5 (List.mem_of_getElem? (i := 140) rfl) rfl
set_option maxRecDepth 20000 in
theorem mc_X10_leftAtWorst : Cond.code yX10_leftAtWorst cX10_leftAtWorst 4 (some .int) ∈ zWL := zw5 (List.mem_of_getElem? (i := 145) rfl) rfl
set_option maxRecDepth 20000 in
theorem mi_X10_leftAtWorst : Cond.instanceMethod yX10_leftAtWorst ∈ zWL := zw5 (List.mem_of_getElem? (i := 144) rfl) rfl
theorem ml_X10_leftAtWorst : Cond.selects RX10 yX10_leftAtWorst yX10_leftAtWorst ∈ zWL := List.mem_append_right _ (List.mem_filter.mpr ⟨List.mem_map.mpr ⟨(⟨"SourceDispute", "leftAtWorst", "(II)I"⟩, 14), List.mem_of_getElem? (i := 46) (by decide +kernel), rfl⟩, by decide +kernel⟩)
set_option maxRecDepth 20000 in
theorem mc_X10_look : Cond.code yX10_look cX10_look 1 none ∈ zWL := zw3 (List.mem_of_getElem? (i := 196) rfl) rfl
set_option maxRecDepth 20000 in
theorem mi_X10_look : Cond.instanceMethod yX10_look ∈ zWL := zw3 (List.mem_of_getElem? (i := 195) rfl) rfl
theorem ml_X10_look : Cond.selects RX10 yX10_look yX10_look ∈ zWL := List.mem_append_right _ (List.mem_filter.mpr ⟨List.mem_map.mpr ⟨(⟨"SourceDispute", "look", "()V"⟩, 14), List.mem_of_getElem? (i := 21) (by decide +kernel), rfl⟩, by decide +kernel⟩)
set_option maxRecDepth 20000 in
theorem mc_X10_hasMouth : Cond.code yX10_hasMouth cX10_hasMouth 1 (some .boolean) ∈ zWL := zw4 (List.mem_of_getElem? (i := 73) rfl) rfl
set_option maxRecDepth 20000 in
theorem mi_X10_hasMouth : Cond.instanceMethod yX10_hasMouth ∈ zWL := zw4 (List.mem_of_getElem? (i := 72) rfl) rfl
theorem ml_X10_hasMouth : Cond.selects RX10 yX10_hasMouth yX10_hasMouth ∈ zWL := List.mem_append_right _ (List.mem_filter.mpr ⟨List.mem_map.mpr ⟨(⟨"SourceDispute", "hasMouth", "()Z"⟩, 14), List.mem_of_getElem? (i := 30) (by decide +kernel), rfl⟩, by decide +kernel⟩)
set_option maxRecDepth 20000 in
theorem mc_X10_mouthFlow : Cond.code yX10_mouthFlow cX10_mouthFlow 1 (some .int) ∈ zWL := zw4 (List.mem_of_getElem? (i := 69) rfl) rfl
set_option maxRecDepth 20000 in
theorem mi_X10_mouthFlow : Cond.instanceMethod yX10_mouthFlow ∈ zWL := zw4 (List.mem_of_getElem? (i := 68) rfl) rfl
theorem ml_X10_mouthFlow : Cond.selects RX10 yX10_mouthFlow yX10_mouthFlow ∈ zWL := List.mem_append_right _ (List.mem_filter.mpr ⟨List.mem_map.mpr ⟨(⟨"SourceDispute", "mouthFlow", "()I"⟩, 14), List.mem_of_getElem? (i := 29) (by decide +kernel), rfl⟩, by decide +kernel⟩)
set_option maxRecDepth 20000 in
theorem mc_X10_isPlace : Cond.code yX10_isPlace cX10_isPlace 2 (some .boolean) ∈ zWL := zw3 (List.mem_of_getElem? (i := 191) rfl) rfl
set_option maxRecDepth 20000 in
theorem mi_X10_isPlace : Cond.instanceMethod yX10_isPlace ∈ zWL := zw3 (List.mem_of_getElem? (i := 190) rfl) rfl
theorem ml_X10_isPlace : Cond.selects RX10 yX10_isPlace yX10_isPlace ∈ zWL := List.mem_append_right _ (List.mem_filter.mpr ⟨List.mem_map.mpr ⟨(⟨"SourceDispute", "isPlace", "(I)Z"⟩, 14), List.mem_of_getElem? (i := 20) (by decide +kernel), rfl⟩, by decide +kernel⟩)
set_option maxRecDepth 20000 in
theorem mc_X10_isLaw : Cond.code yX10_isLaw cX10_isLaw 2 (some .boolean) ∈ zWL := zw4 (List.mem_of_getElem? (i := 33) rfl) rfl
set_option maxRecDepth 20000 in
theorem mi_X10_isLaw : Cond.instanceMethod yX10_isLaw ∈ zWL := zw4 (List.mem_of_getElem? (i := 32) rfl) rfl
theorem ml_X10_isLaw : Cond.selects RX10 yX10_isLaw yX10_isLaw ∈ zWL := List.mem_append_right _ (List.mem_filter.mpr ⟨List.mem_map.mpr ⟨(⟨"SourceDispute", "isLaw", "(I)Z"⟩, 14), List.mem_of_getElem? (i := 28) (by decide +kernel), rfl⟩, by decide +kernel⟩)
set_option maxRecDepth 20000 in
theorem mc_X10_isContest : Cond.code yX10_isContest cX10_isContest 3 (some .boolean) ∈ zWL := zw4 (List.mem_of_getElem? (i := 29) rfl) rfl
set_option maxRecDepth 20000 in
theorem mi_X10_isContest : Cond.instanceMethod yX10_isContest ∈ zWL := zw4 (List.mem_of_getElem? (i := 28) rfl) rfl
theorem ml_X10_isContest : Cond.selects RX10 yX10_isContest yX10_isContest ∈ zWL := List.mem_append_right _ (List.mem_filter.mpr ⟨List.mem_map.mpr ⟨(⟨"SourceDispute", "isContest", "(II)Z"⟩, 14), List.mem_of_getElem? (i := 27) (by decide +kernel), rfl⟩, by decide +kernel⟩)
set_option maxRecDepth 20000 in
theorem mc_X10_isWithin : Cond.code yX10_isWithin cX10_isWithin 3 (some .boolean) ∈ zWL := zw3 (List.mem_of_getElem? (i := 144) rfl) rfl
set_option maxRecDepth 20000 in
theorem ms_X10_isWithin : Cond.static yX10_isWithin ∈ zWL := zw3 (List.mem_of_getElem? (i := 143) rfl) rfl
set_option maxRecDepth 20000 in
theorem mc_X10_held : Cond.code yX10_held cX10_held 3 (some .int) ∈ zWL := zw4 (List.mem_of_getElem? (i := 0) rfl) rfl
set_option maxRecDepth 20000 in
theorem ms_X10_held : Cond.static yX10_held ∈ zWL := zw3 (List.mem_of_getElem? (i := 239) rfl) rfl
set_option maxRecDepth 20000 in
theorem mc_X10_bit : Cond.code yX10_bit cX10_bit 1 (some .int) ∈ zWL := zw3 (List.mem_of_getElem? (i := 212) rfl) rfl
set_option maxRecDepth 20000 in
theorem ms_X10_bit : Cond.static yX10_bit ∈ zWL := zw3 (List.mem_of_getElem? (i := 211) rfl) rfl
set_option maxRecDepth 20000 in
theorem mc_X10_has : Cond.code yX10_has cX10_has 2 (some .boolean) ∈ zWL := zw4 (List.mem_of_getElem? (i := 10) rfl) rfl
set_option maxRecDepth 20000 in
theorem ms_X10_has : Cond.static yX10_has ∈ zWL := zw4 (List.mem_of_getElem? (i := 9) rfl) rfl
set_option maxRecDepth 20000 in
theorem mc_X10_bitAt : Cond.code yX10_bitAt cX10_bitAt 4 (some .int) ∈ zWL := zw4 (List.mem_of_getElem? (i := 230) rfl) rfl
set_option maxRecDepth 20000 in
theorem ms_X10_bitAt : Cond.static yX10_bitAt ∈ zWL := zw4 (List.mem_of_getElem? (i := 229) rfl) rfl
set_option maxRecDepth 20000 in
theorem mc_X11_init : Cond.code yX11_init cX11_init 1 none ∈ zWL := zw5 (List.mem_of_getElem? (i := 150) rfl) rfl
set_option maxRecDepth 20000 in
theorem mc_X11_feed : Cond.code yX11_feed cX11_feed 6 (some .int) ∈ zWL := zw6 (List.mem_of_getElem? (i := 145) rfl) rfl
set_option maxRecDepth 20000 in
theorem mi_X11_feed : Cond.instanceMethod yX11_feed ∈ zWL := zw6 (List.mem_of_getElem? (i := 143) rfl) rfl
set_option maxRecDepth 20000 in
theorem ml_X11_feed : Cond.selects RX11 yX11_feed yX11_feed ∈ zWL := zw6 (List.mem_of_getElem? (i := 144) rfl) rfl
set_option maxRecDepth 20000 in
theorem mc_X11_put : Cond.code yX11_put cX11_put 3 none ∈ zWL := zw6 (List.mem_of_getElem? (i := 149) rfl) rfl
set_option maxRecDepth 20000 in
theorem mi_X11_put : Cond.instanceMethod yX11_put ∈ zWL := zw6 (List.mem_of_getElem? (i := 148) rfl) rfl
theorem ml_X11_put : Cond.selects RX11 yX11_put yX11_put ∈ zWL := List.mem_append_right _ (List.mem_filter.mpr ⟨List.mem_map.mpr ⟨(⟨"SourceDisputeModel", "put", "(I)V"⟩, 69), List.mem_of_getElem? (i := 51) (by decide +kernel), rfl⟩, by decide +kernel⟩)
set_option maxRecDepth 20000 in
theorem mc_X11_back : Cond.code yX11_back cX11_back 2 (some .int) ∈ zWL := zw6 (List.mem_of_getElem? (i := 153) rfl) rfl
set_option maxRecDepth 20000 in
theorem mi_X11_back : Cond.instanceMethod yX11_back ∈ zWL := zw6 (List.mem_of_getElem? (i := 151) rfl) rfl
set_option maxRecDepth 20000 in
theorem ml_X11_back : Cond.selects RX11 yX11_back yX11_back ∈ zWL := zw6 (List.mem_of_getElem? (i := 152) rfl) rfl
set_option maxRecDepth 20000 in
theorem mc_X11_byteAt : Cond.code yX11_byteAt cX11_byteAt 2 (some .int) ∈ zWL := zw6 (List.mem_of_getElem? (i := 165) rfl) rfl
set_option maxRecDepth 20000 in
theorem mi_X11_byteAt : Cond.instanceMethod yX11_byteAt ∈ zWL := zw6 (List.mem_of_getElem? (i := 164) rfl) rfl
theorem ml_X11_byteAt : Cond.selects RX11 yX11_byteAt yX11_byteAt ∈ zWL := List.mem_append_right _ (List.mem_filter.mpr ⟨List.mem_map.mpr ⟨(⟨"SourceDisputeModel", "byteAt", "(I)I"⟩, 69), List.mem_of_getElem? (i := 53) (by decide +kernel), rfl⟩, by decide +kernel⟩)
set_option maxRecDepth 20000 in
theorem mc_X11_isDigit : Cond.code yX11_isDigit cX11_isDigit 1 (some .boolean) ∈ zWL := zw6 (List.mem_of_getElem? (i := 175) rfl) rfl
set_option maxRecDepth 20000 in
theorem ms_X11_isDigit : Cond.static yX11_isDigit ∈ zWL := zw6 (List.mem_of_getElem? (i := 174) rfl) rfl
set_option maxRecDepth 20000 in
theorem mc_X11_isLetter : Cond.code yX11_isLetter cX11_isLetter 1 (some .boolean) ∈ zWL := zw6 (List.mem_of_getElem? (i := 172) rfl) rfl
set_option maxRecDepth 20000 in
theorem ms_X11_isLetter : Cond.static yX11_isLetter ∈ zWL := zw6 (List.mem_of_getElem? (i := 171) rfl) rfl
set_option maxRecDepth 20000 in
theorem mc_X11_appends : Cond.code yX11_appends cX11_appends 3 (some .long) ∈ zWL := zw5 (List.mem_of_getElem? (i := 161) rfl) rfl
set_option maxRecDepth 20000 in
theorem ms_X11_appends : Cond.static yX11_appends ∈ zWL := zw5 (List.mem_of_getElem? (i := 160) rfl) rfl
set_option maxRecDepth 20000 in
theorem mc_X11_word : Cond.code yX11_word cX11_word 7 (some .long) ∈ zWL := zw5 (List.mem_of_getElem? (i := 158) rfl) rfl
set_option maxRecDepth 20000 in
theorem ms_X11_word : Cond.static yX11_word ∈ zWL := zw5 (List.mem_of_getElem? (i := 157) rfl) rfl
set_option maxRecDepth 20000 in
theorem mc_X11_token : Cond.code yX11_token cX11_token 6 none ∈ zWL := zw6 (List.mem_of_getElem? (i := 169) rfl) rfl
set_option maxRecDepth 20000 in
theorem mi_X11_token : Cond.instanceMethod yX11_token ∈ zWL := zw6 (List.mem_of_getElem? (i := 168) rfl) rfl
theorem ml_X11_token : Cond.selects RX11 yX11_token yX11_token ∈ zWL := List.mem_append_right _ (List.mem_filter.mpr ⟨List.mem_map.mpr ⟨(⟨"SourceDisputeModel", "token", "(IIIJ)V"⟩, 69), List.mem_of_getElem? (i := 54) (by decide +kernel), rfl⟩, by decide +kernel⟩)
set_option maxRecDepth 20000 in
theorem mc_X11_cut : Cond.code yX11_cut cX11_cut 8 none ∈ zWL := zw6 (List.mem_of_getElem? (i := 161) rfl) rfl
set_option maxRecDepth 20000 in
theorem mi_X11_cut : Cond.instanceMethod yX11_cut ∈ zWL := zw6 (List.mem_of_getElem? (i := 160) rfl) rfl
theorem ml_X11_cut : Cond.selects RX11 yX11_cut yX11_cut ∈ zWL := List.mem_append_right _ (List.mem_filter.mpr ⟨List.mem_map.mpr ⟨(⟨"SourceDisputeModel", "cut", "()V"⟩, 69), List.mem_of_getElem? (i := 52) (by decide +kernel), rfl⟩, by decide +kernel⟩)
set_option maxRecDepth 20000 in
theorem mc_X11_sign : Cond.code yX11_sign cX11_sign 5 (some .int) ∈ zWL := zw6 (List.mem_of_getElem? (i := 179) rfl) rfl
set_option maxRecDepth 20000 in
theorem mi_X11_sign : Cond.instanceMethod yX11_sign ∈ zWL := zw6 (List.mem_of_getElem? (i := 178) rfl) rfl
theorem ml_X11_sign : Cond.selects RX11 yX11_sign yX11_sign ∈ zWL := List.mem_append_right _ (List.mem_filter.mpr ⟨List.mem_map.mpr ⟨(⟨"SourceDisputeModel", "sign", "(III)I"⟩, 69), List.mem_of_getElem? (i := 55) (by decide +kernel), rfl⟩, by decide +kernel⟩)
set_option maxRecDepth 20000 in
theorem mc_X11_is : Cond.code yX11_is cX11_is 2 (some .boolean) ∈ zWL := zw6 (List.mem_of_getElem? (i := 183) rfl) rfl
set_option maxRecDepth 20000 in
theorem mi_X11_is : Cond.instanceMethod yX11_is ∈ zWL := zw6 (List.mem_of_getElem? (i := 182) rfl) rfl
theorem ml_X11_is : Cond.selects RX11 yX11_is yX11_is ∈ zWL := List.mem_append_right _ (List.mem_filter.mpr ⟨List.mem_map.mpr ⟨(⟨"SourceDisputeModel", "is", "(I)Z"⟩, 69), List.mem_of_getElem? (i := 56) (by decide +kernel), rfl⟩, by decide +kernel⟩)
set_option maxRecDepth 20000 in
theorem mc_X11_fail : Cond.code yX11_fail cX11_fail 2 none ∈ zWL := zw6 (List.mem_of_getElem? (i := 191) rfl) rfl
set_option maxRecDepth 20000 in
theorem mi_X11_fail : Cond.instanceMethod yX11_fail ∈ zWL := zw6 (List.mem_of_getElem? (i := 190) rfl) rfl
theorem ml_X11_fail : Cond.selects RX11 yX11_fail yX11_fail ∈ zWL := List.mem_append_right _ (List.mem_filter.mpr ⟨List.mem_map.mpr ⟨(⟨"SourceDisputeModel", "fail", "(I)V"⟩, 69), List.mem_of_getElem? (i := 58) (by decide +kernel), rfl⟩, by decide +kernel⟩)
set_option maxRecDepth 20000 in
theorem mc_X11_wrong : Cond.code yX11_wrong cX11_wrong 4 none ∈ zWL := zw6 (List.mem_of_getElem? (i := 215) rfl) rfl
set_option maxRecDepth 20000 in
theorem mi_X11_wrong : Cond.instanceMethod yX11_wrong ∈ zWL := zw6 (List.mem_of_getElem? (i := 214) rfl) rfl
theorem ml_X11_wrong : Cond.selects RX11 yX11_wrong yX11_wrong ∈ zWL := List.mem_append_right _ (List.mem_filter.mpr ⟨List.mem_map.mpr ⟨(⟨"SourceDisputeModel", "wrong", "(II)V"⟩, 69), List.mem_of_getElem? (i := 64) (by decide +kernel), rfl⟩, by decide +kernel⟩)
set_option maxRecDepth 20000 in
theorem mc_X11_goesOn : Cond.code yX11_goesOn cX11_goesOn 1 none ∈ zWL := zw6 (List.mem_of_getElem? (i := 195) rfl) rfl
set_option maxRecDepth 20000 in
theorem mi_X11_goesOn : Cond.instanceMethod yX11_goesOn ∈ zWL := zw6 (List.mem_of_getElem? (i := 194) rfl) rfl
theorem ml_X11_goesOn : Cond.selects RX11 yX11_goesOn yX11_goesOn ∈ zWL := List.mem_append_right _ (List.mem_filter.mpr ⟨List.mem_map.mpr ⟨(⟨"SourceDisputeModel", "goesOn", "()V"⟩, 69), List.mem_of_getElem? (i := 59) (by decide +kernel), rfl⟩, by decide +kernel⟩)
set_option maxRecDepth 20000 in
theorem mc_X11_must : Cond.code yX11_must cX11_must 2 none ∈ zWL := zw6 (List.mem_of_getElem? (i := 207) rfl) rfl
set_option maxRecDepth 20000 in
theorem mi_X11_must : Cond.instanceMethod yX11_must ∈ zWL := zw6 (List.mem_of_getElem? (i := 206) rfl) rfl
theorem ml_X11_must : Cond.selects RX11 yX11_must yX11_must ∈ zWL := List.mem_append_right _ (List.mem_filter.mpr ⟨List.mem_map.mpr ⟨(⟨"SourceDisputeModel", "must", "(I)V"⟩, 69), List.mem_of_getElem? (i := 62) (by decide +kernel), rfl⟩, by decide +kernel⟩)
set_option maxRecDepth 20000 in
theorem mc_X11_plain : Cond.code yX11_plain cX11_plain 3 none ∈ zWL := zw5 (List.mem_of_getElem? (i := 155) rfl) rfl
set_option maxRecDepth 20000 in
theorem mi_X11_plain : Cond.instanceMethod yX11_plain ∈ zWL := zw5 (List.mem_of_getElem? (i := 154) rfl) rfl
theorem ml_X11_plain : Cond.selects RX11 yX11_plain yX11_plain ∈ zWL := List.mem_append_right _ (List.mem_filter.mpr ⟨List.mem_map.mpr ⟨(⟨"SourceDisputeModel", "plain", "(I)V"⟩, 69), List.mem_of_getElem? (i := 47) (by decide +kernel), rfl⟩, by decide +kernel⟩)
set_option maxRecDepth 20000 in
theorem mc_X11_read : Cond.code yX11_read cX11_read 2 (some .int) ∈ zWL := zw6 (List.mem_of_getElem? (i := 157) rfl) rfl
set_option maxRecDepth 20000 in
theorem mi_X11_read : Cond.instanceMethod yX11_read ∈ zWL := zw6 (List.mem_of_getElem? (i := 155) rfl) rfl
set_option maxRecDepth 20000 in
theorem ml_X11_read : Cond.selects RX11 yX11_read yX11_read ∈ zWL := zw6 (List.mem_of_getElem? (i := 156) rfl) rfl
set_option maxRecDepth 20000 in
theorem mc_X11_place : Cond.code yX11_place cX11_place 1 (some .int) ∈ zWL := zw7 (List.mem_of_getElem? (i := 11) rfl) rfl
set_option maxRecDepth 20000 in
theorem mi_X11_place : Cond.instanceMethod yX11_place ∈ zWL := zw7 (List.mem_of_getElem? (i := 9) rfl) rfl
set_option maxRecDepth 20000 in
theorem ml_X11_place : Cond.selects RX11 yX11_place yX11_place ∈ zWL := zw7 (List.mem_of_getElem? (i := 10) rfl) rfl
set_option maxRecDepth 20000 in
theorem mc_X11_tellOne : Cond.code yX11_tellOne cX11_tellOne 2 none ∈ zWL := zw6 (List.mem_of_getElem? (i := 187) rfl) rfl
set_option maxRecDepth 20000 in
theorem mi_X11_tellOne : Cond.instanceMethod yX11_tellOne ∈ zWL := zw6 (List.mem_of_getElem? (i := 186) rfl) rfl
theorem ml_X11_tellOne : Cond.selects RX11 yX11_tellOne yX11_tellOne ∈ zWL := List.mem_append_right _ (List.mem_filter.mpr ⟨List.mem_map.mpr ⟨(⟨"SourceDisputeModel", "tellOne", "()V"⟩, 69), List.mem_of_getElem? (i := 57) (by decide +kernel), rfl⟩, by decide +kernel⟩)
set_option maxRecDepth 20000 in
theorem mc_X11_named : Cond.code yX11_named cX11_named 2 (some .int) ∈ zWL := zw6 (List.mem_of_getElem? (i := 203) rfl) rfl
set_option maxRecDepth 20000 in
theorem mi_X11_named : Cond.instanceMethod yX11_named ∈ zWL := zw6 (List.mem_of_getElem? (i := 202) rfl) rfl
theorem ml_X11_named : Cond.selects RX11 yX11_named yX11_named ∈ zWL := List.mem_append_right _ (List.mem_filter.mpr ⟨List.mem_map.mpr ⟨(⟨"SourceDisputeModel", "named", "()I"⟩, 69), List.mem_of_getElem? (i := 61) (by decide +kernel), rfl⟩, by decide +kernel⟩)
set_option maxRecDepth 20000 in
theorem mc_X11_numberOf : Cond.code yX11_numberOf cX11_numberOf 3 (some .int) ∈ zWL := zw6 (List.mem_of_getElem? (i := 211) rfl) rfl
set_option maxRecDepth 20000 in
theorem mi_X11_numberOf : Cond.instanceMethod yX11_numberOf ∈ zWL := zw6 (List.mem_of_getElem? (i := 210) rfl) rfl
theorem ml_X11_numberOf : Cond.selects RX11 yX11_numberOf yX11_numberOf ∈ zWL := List.mem_append_right _ (List.mem_filter.mpr ⟨List.mem_map.mpr ⟨(⟨"SourceDisputeModel", "numberOf", "(I)I"⟩, 69), List.mem_of_getElem? (i := 63) (by decide +kernel), rfl⟩, by decide +kernel⟩)
set_option maxRecDepth 20000 in
theorem mc_X11_bounded : Cond.code yX11_bounded cX11_bounded 4 (some .int) ∈ zWL := zw6 (List.mem_of_getElem? (i := 223) rfl) rfl
set_option maxRecDepth 20000 in
theorem mi_X11_bounded : Cond.instanceMethod yX11_bounded ∈ zWL := zw6 (List.mem_of_getElem? (i := 222) rfl) rfl
theorem ml_X11_bounded : Cond.selects RX11 yX11_bounded yX11_bounded ∈ zWL := List.mem_append_right _ (List.mem_filter.mpr ⟨List.mem_map.mpr ⟨(⟨"SourceDisputeModel", "bounded", "(II)I"⟩, 69), List.mem_of_getElem? (i := 66) (by decide +kernel), rfl⟩, by decide +kernel⟩)
set_option maxRecDepth 20000 in
theorem mc_X11_tellMouth : Cond.code yX11_tellMouth cX11_tellMouth 3 none ∈ zWL := zw6 (List.mem_of_getElem? (i := 199) rfl) rfl
set_option maxRecDepth 20000 in
theorem mi_X11_tellMouth : Cond.instanceMethod yX11_tellMouth ∈ zWL := zw6 (List.mem_of_getElem? (i := 198) rfl) rfl
theorem ml_X11_tellMouth : Cond.selects RX11 yX11_tellMouth yX11_tellMouth ∈ zWL := List.mem_append_right _ (List.mem_filter.mpr ⟨List.mem_map.mpr ⟨(⟨"SourceDisputeModel", "tellMouth", "()V"⟩, 69), List.mem_of_getElem? (i := 60) (by decide +kernel), rfl⟩, by decide +kernel⟩)
set_option maxRecDepth 20000 in
theorem mc_X11_tellPlace : Cond.code yX11_tellPlace cX11_tellPlace 4 none ∈ zWL := zw6 (List.mem_of_getElem? (i := 219) rfl) rfl
set_option maxRecDepth 20000 in
theorem mi_X11_tellPlace : Cond.instanceMethod yX11_tellPlace ∈ zWL := zw6 (List.mem_of_getElem? (i := 218) rfl) rfl
theorem ml_X11_tellPlace : Cond.selects RX11 yX11_tellPlace yX11_tellPlace ∈ zWL := List.mem_append_right _ (List.mem_filter.mpr ⟨List.mem_map.mpr ⟨(⟨"SourceDisputeModel", "tellPlace", "()V"⟩, 69), List.mem_of_getElem? (i := 65) (by decide +kernel), rfl⟩, by decide +kernel⟩)
set_option maxRecDepth 20000 in
theorem mc_X11_tellLaw : Cond.code yX11_tellLaw cX11_tellLaw 4 none ∈ zWL := zw6 (List.mem_of_getElem? (i := 227) rfl) rfl
set_option maxRecDepth 20000 in
theorem mi_X11_tellLaw : Cond.instanceMethod yX11_tellLaw ∈ zWL := zw6 (List.mem_of_getElem? (i := 226) rfl) rfl
theorem ml_X11_tellLaw : Cond.selects RX11 yX11_tellLaw yX11_tellLaw ∈ zWL := List.mem_append_right _ (List.mem_filter.mpr ⟨List.mem_map.mpr ⟨(⟨"SourceDisputeModel", "tellLaw", "(I)V"⟩, 69), List.mem_of_getElem? (i := 67) (by decide +kernel), rfl⟩, by decide +kernel⟩)
set_option maxRecDepth 20000 in
theorem mc_X11_term : Cond.code yX11_term cX11_term 1 none ∈ zWL := zw7 (List.mem_of_getElem? (i := 7) rfl) rfl
set_option maxRecDepth 20000 in
theorem mi_X11_term : Cond.instanceMethod yX11_term ∈ zWL := zw7 (List.mem_of_getElem? (i := 6) rfl) rfl
theorem ml_X11_term : Cond.selects RX11 yX11_term yX11_term ∈ zWL := List.mem_append_right _ (List.mem_filter.mpr ⟨List.mem_map.mpr ⟨(⟨"SourceDisputeModel", "term", "()V"⟩, 69), List.mem_of_getElem? (i := 72) (by decide +kernel), rfl⟩, by decide +kernel⟩)
set_option maxRecDepth 20000 in
theorem mc_X11_emit : Cond.code yX11_emit cX11_emit 3 none ∈ zWL := zw6 (List.mem_of_getElem? (i := 239) rfl) rfl
set_option maxRecDepth 20000 in
theorem mi_X11_emit : Cond.instanceMethod yX11_emit ∈ zWL := zw6 (List.mem_of_getElem? (i := 238) rfl) rfl
theorem ml_X11_emit : Cond.selects RX11 yX11_emit yX11_emit ∈ zWL := List.mem_append_right _ (List.mem_filter.mpr ⟨List.mem_map.mpr ⟨(⟨"SourceDisputeModel", "emit", "(II)V"⟩, 69), List.mem_of_getElem? (i := 70) (by decide +kernel), rfl⟩, by decide +kernel⟩)
set_option maxRecDepth 20000 in
theorem mc_X11_comesOut : Cond.code yX11_comesOut cX11_comesOut 3 none ∈ zWL := zw7 (List.mem_of_getElem? (i := 3) rfl) rfl
set_option maxRecDepth 20000 in
theorem mi_X11_comesOut : Cond.instanceMethod yX11_comesOut ∈ zWL := zw7 (List.mem_of_getElem? (i := 2) rfl) rfl
theorem ml_X11_comesOut : Cond.selects RX11 yX11_comesOut yX11_comesOut ∈ zWL := List.mem_append_right _ (List.mem_filter.mpr ⟨List.mem_map.mpr ⟨(⟨"SourceDisputeModel", "comesOut", "(Z)V"⟩, 69), List.mem_of_getElem? (i := 71) (by decide +kernel), rfl⟩, by decide +kernel⟩)
set_option maxRecDepth 20000 in
theorem mc_X11_expression : Cond.code yX11_expression cX11_expression 3 none ∈ zWL := zw6 (List.mem_of_getElem? (i := 231) rfl) rfl
set_option maxRecDepth 20000 in
theorem mi_X11_expression : Cond.instanceMethod yX11_expression ∈ zWL := zw6 (List.mem_of_getElem? (i := 230) rfl) rfl
theorem ml_X11_expression : Cond.selects RX11 yX11_expression yX11_expression ∈ zWL := List.mem_append_right _ (List.mem_filter.mpr ⟨List.mem_map.mpr ⟨(⟨"SourceDisputeModel", "expression", "()V"⟩, 69), List.mem_of_getElem? (i := 68) (by decide +kernel), rfl⟩, by decide +kernel⟩)
set_option maxRecDepth 20000 in
theorem mc_X11_unit : Cond.code yX11_unit cX11_unit 1 none ∈ zWL := zw6 (List.mem_of_getElem? (i := 235) rfl) rfl
set_option maxRecDepth 20000 in
theorem mi_X11_unit : Cond.instanceMethod yX11_unit ∈ zWL := zw6 (List.mem_of_getElem? (i := 234) rfl) rfl
theorem ml_X11_unit : Cond.selects RX11 yX11_unit yX11_unit ∈ zWL := List.mem_append_right _ (List.mem_filter.mpr ⟨List.mem_map.mpr ⟨(⟨"SourceDisputeModel", "unit", "()V"⟩, 69), List.mem_of_getElem? (i := 69) (by decide +kernel), rfl⟩, by decide +kernel⟩)
set_option maxRecDepth 20000 in
theorem mc_X11_termOf : Cond.code yX11_termOf cX11_termOf 8 (some .int) ∈ zWL := zw7 (List.mem_of_getElem? (i := 53) rfl) rfl
set_option maxRecDepth 20000 in
theorem mi_X11_termOf : Cond.instanceMethod yX11_termOf ∈ zWL := zw7 (List.mem_of_getElem? (i := 52) rfl) rfl
theorem ml_X11_termOf : Cond.selects RX11 yX11_termOf yX11_termOf ∈ zWL := List.mem_append_right _ (List.mem_filter.mpr ⟨List.mem_map.mpr ⟨(⟨"SourceDisputeModel", "termOf", "(II)I"⟩, 69), List.mem_of_getElem? (i := 80) (by decide +kernel), rfl⟩, by decide +kernel⟩)
set_option maxRecDepth 20000 in
theorem mc_X11_in : Cond.code yX11_in cX11_in 3 (some .boolean) ∈ zWL := zw7 (List.mem_of_getElem? (i := 22) rfl) rfl
set_option maxRecDepth 20000 in
theorem ms_X11_in : Cond.static yX11_in ∈ zWL := zw7 (List.mem_of_getElem? (i := 21) rfl) rfl
set_option maxRecDepth 20000 in
theorem mc_X11_within : Cond.code yX11_within cX11_within 3 (some .int) ∈ zWL := zw7 (List.mem_of_getElem? (i := 56) rfl) rfl
set_option maxRecDepth 20000 in
theorem ms_X11_within : Cond.static yX11_within ∈ zWL := zw7 (List.mem_of_getElem? (i := 55) rfl) rfl
set_option maxRecDepth 20000 in
theorem mc_X11_bits : Cond.code yX11_bits cX11_bits 3 (some .int) ∈ zWL := zw7 (List.mem_of_getElem? (i := 45) rfl) rfl
set_option maxRecDepth 20000 in
theorem ms_X11_bits : Cond.static yX11_bits ∈ zWL := zw7 (List.mem_of_getElem? (i := 44) rfl) rfl
set_option maxRecDepth 20000 in
theorem mc_X11_many : Cond.code yX11_many cX11_many 1 (some .int) ∈ zWL := zw5 (List.mem_of_getElem? (i := 170) rfl) rfl
set_option maxRecDepth 20000 in
theorem mi_X11_many : Cond.instanceMethod yX11_many ∈ zWL := zw5 (List.mem_of_getElem? (i := 169) rfl) rfl
theorem ml_X11_many : Cond.selects RX11 yX11_many yX11_many ∈ zWL := List.mem_append_right _ (List.mem_filter.mpr ⟨List.mem_map.mpr ⟨(⟨"SourceDisputeModel", "many", "()I"⟩, 69), List.mem_of_getElem? (i := 49) (by decide +kernel), rfl⟩, by decide +kernel⟩)
set_option maxRecDepth 20000 in
theorem mc_X11_isPlace : Cond.code yX11_isPlace cX11_isPlace 2 (some .boolean) ∈ zWL := zw7 (List.mem_of_getElem? (i := 19) rfl) rfl
set_option maxRecDepth 20000 in
theorem mi_X11_isPlace : Cond.instanceMethod yX11_isPlace ∈ zWL := zw7 (List.mem_of_getElem? (i := 18) rfl) rfl
theorem ml_X11_isPlace : Cond.selects RX11 yX11_isPlace yX11_isPlace ∈ zWL := List.mem_append_right _ (List.mem_filter.mpr ⟨List.mem_map.mpr ⟨(⟨"SourceDisputeModel", "isPlace", "(I)Z"⟩, 69), List.mem_of_getElem? (i := 73) (by decide +kernel), rfl⟩, by decide +kernel⟩)
set_option maxRecDepth 20000 in
theorem mc_X11_isBeside : Cond.code yX11_isBeside cX11_isBeside 2 (some .boolean) ∈ zWL := zw7 (List.mem_of_getElem? (i := 68) rfl) rfl
set_option maxRecDepth 20000 in
theorem mi_X11_isBeside : Cond.instanceMethod yX11_isBeside ∈ zWL := zw7 (List.mem_of_getElem? (i := 67) rfl) rfl
theorem ml_X11_isBeside : Cond.selects RX11 yX11_isBeside yX11_isBeside ∈ zWL := List.mem_append_right _ (List.mem_filter.mpr ⟨List.mem_map.mpr ⟨(⟨"SourceDisputeModel", "isBeside", "(I)Z"⟩, 69), List.mem_of_getElem? (i := 83) (by decide +kernel), rfl⟩, by decide +kernel⟩)
set_option maxRecDepth 20000 in
theorem mc_X11_isLaw : Cond.code yX11_isLaw cX11_isLaw 1 (some .boolean) ∈ zWL := zw7 (List.mem_of_getElem? (i := 79) rfl) rfl
set_option maxRecDepth 20000 in
theorem ms_X11_isLaw : Cond.static yX11_isLaw ∈ zWL := zw7 (List.mem_of_getElem? (i := 78) rfl) rfl
set_option maxRecDepth 20000 in
theorem mc_X11_begins : Cond.code yX11_begins cX11_begins 2 none ∈ zWL := zw5 (List.mem_of_getElem? (i := 166) rfl) rfl
set_option maxRecDepth 20000 in
theorem mi_X11_begins : Cond.instanceMethod yX11_begins ∈ zWL := zw5 (List.mem_of_getElem? (i := 165) rfl) rfl
theorem ml_X11_begins : Cond.selects RX11 yX11_begins yX11_begins ∈ zWL := List.mem_append_right _ (List.mem_filter.mpr ⟨List.mem_map.mpr ⟨(⟨"SourceDisputeModel", "begins", "()V"⟩, 69), List.mem_of_getElem? (i := 48) (by decide +kernel), rfl⟩, by decide +kernel⟩)
set_option maxRecDepth 20000 in
theorem mc_X11_keepsRow : Cond.code yX11_keepsRow cX11_keepsRow 2 none ∈ zWL := zw5 (List.mem_of_getElem? (i := 174) rfl) rfl
set_option maxRecDepth 20000 in
theorem mi_X11_keepsRow : Cond.instanceMethod yX11_keepsRow ∈ zWL := zw5 (List.mem_of_getElem? (i := 173) rfl) rfl
theorem ml_X11_keepsRow : Cond.selects RX11 yX11_keepsRow yX11_keepsRow ∈ zWL := List.mem_append_right _ (List.mem_filter.mpr ⟨List.mem_map.mpr ⟨(⟨"SourceDisputeModel", "keepsRow", "()V"⟩, 69), List.mem_of_getElem? (i := 50) (by decide +kernel), rfl⟩, by decide +kernel⟩)
set_option maxRecDepth 20000 in
theorem mc_X11_copies : Cond.code yX11_copies cX11_copies 2 none ∈ zWL := zw7 (List.mem_of_getElem? (i := 26) rfl) rfl
set_option maxRecDepth 20000 in
theorem mi_X11_copies : Cond.instanceMethod yX11_copies ∈ zWL := zw7 (List.mem_of_getElem? (i := 25) rfl) rfl
theorem ml_X11_copies : Cond.selects RX11 yX11_copies yX11_copies ∈ zWL := List.mem_append_right _ (List.mem_filter.mpr ⟨List.mem_map.mpr ⟨(⟨"SourceDisputeModel", "copies", "()V"⟩, 69), List.mem_of_getElem? (i := 74) (by decide +kernel), rfl⟩, by decide +kernel⟩)
set_option maxRecDepth 20000 in
theorem mc_X11_copiesStill : Cond.code yX11_copiesStill cX11_copiesStill 1 none ∈ zWL := zw7 (List.mem_of_getElem? (i := 154) rfl) rfl
set_option maxRecDepth 20000 in
theorem mi_X11_copiesStill : Cond.instanceMethod yX11_copiesStill ∈ zWL := zw7 (List.mem_of_getElem? (i := 153) rfl) rfl
theorem ml_X11_copiesStill : Cond.selects RX11 yX11_copiesStill yX11_copiesStill ∈ zWL := List.mem_append_right _ (List.mem_filter.mpr ⟨List.mem_map.mpr ⟨(⟨"SourceDisputeModel", "copiesStill", "()V"⟩, 69), List.mem_of_getElem? (i := 93) (by decide +kernel), rfl⟩, by decide +kernel⟩)
set_option maxRecDepth 20000 in
theorem mc_X11_mixed : Cond.code yX11_mixed cX11_mixed 3 (some .int) ∈ zWL := zw7 (List.mem_of_getElem? (i := 138) rfl) rfl
set_option maxRecDepth 20000 in
theorem ms_X11_mixed : Cond.static yX11_mixed ∈ zWL := zw7 (List.mem_of_getElem? (i := 137) rfl) rfl
set_option maxRecDepth 20000 in
theorem mc_X11_isStorm : Cond.code yX11_isStorm cX11_isStorm 1 (some .boolean) ∈ zWL := zw7 (List.mem_of_getElem? (i := 135) rfl) rfl
set_option maxRecDepth 20000 in
theorem mi_X11_isStorm : Cond.instanceMethod yX11_isStorm ∈ zWL := zw7 (List.mem_of_getElem? (i := 134) rfl) rfl
theorem ml_X11_isStorm : Cond.selects RX11 yX11_isStorm yX11_isStorm ∈ zWL := List.mem_append_right _ (List.mem_filter.mpr ⟨List.mem_map.mpr ⟨(⟨"SourceDisputeModel", "isStorm", "()Z"⟩, 69), List.mem_of_getElem? (i := 92) (by decide +kernel), rfl⟩, by decide +kernel⟩)
set_option maxRecDepth 20000 in
theorem mc_X11_fillsWays : Cond.code yX11_fillsWays cX11_fillsWays 3 none ∈ zWL := zw7 (List.mem_of_getElem? (i := 30) rfl) rfl
set_option maxRecDepth 20000 in
theorem mi_X11_fillsWays : Cond.instanceMethod yX11_fillsWays ∈ zWL := zw7 (List.mem_of_getElem? (i := 29) rfl) rfl
theorem ml_X11_fillsWays : Cond.selects RX11 yX11_fillsWays yX11_fillsWays ∈ zWL := List.mem_append_right _ (List.mem_filter.mpr ⟨List.mem_map.mpr ⟨(⟨"SourceDisputeModel", "fillsWays", "()V"⟩, 69), List.mem_of_getElem? (i := 75) (by decide +kernel), rfl⟩, by decide +kernel⟩)
set_option maxRecDepth 20000 in
theorem mc_X11_isSource : Cond.code yX11_isSource cX11_isSource 2 (some .boolean) ∈ zWL := zw7 (List.mem_of_getElem? (i := 64) rfl) rfl
set_option maxRecDepth 20000 in
theorem mi_X11_isSource : Cond.instanceMethod yX11_isSource ∈ zWL := zw7 (List.mem_of_getElem? (i := 63) rfl) rfl
theorem ml_X11_isSource : Cond.selects RX11 yX11_isSource yX11_isSource ∈ zWL := List.mem_append_right _ (List.mem_filter.mpr ⟨List.mem_map.mpr ⟨(⟨"SourceDisputeModel", "isSource", "(I)Z"⟩, 69), List.mem_of_getElem? (i := 82) (by decide +kernel), rfl⟩, by decide +kernel⟩)
set_option maxRecDepth 20000 in
theorem mc_X11_sourceBits : Cond.code yX11_sourceBits cX11_sourceBits 3 (some .int) ∈ zWL := zw7 (List.mem_of_getElem? (i := 182) rfl) rfl
set_option maxRecDepth 20000 in
theorem mi_X11_sourceBits : Cond.instanceMethod yX11_sourceBits ∈ zWL := zw7 (List.mem_of_getElem? (i := 181) rfl) rfl
theorem ml_X11_sourceBits : Cond.selects RX11 yX11_sourceBits yX11_sourceBits ∈ zWL := List.mem_append_right _ (List.mem_filter.mpr ⟨List.mem_map.mpr ⟨(⟨"SourceDisputeModel", "sourceBits", "()I"⟩, 69), List.mem_of_getElem? (i := 95) (by decide +kernel), rfl⟩, by decide +kernel⟩)
set_option maxRecDepth 20000 in
theorem mc_X11_looks : Cond.code yX11_looks cX11_looks 3 none ∈ zWL := zw7 (List.mem_of_getElem? (i := 42) rfl) rfl
set_option maxRecDepth 20000 in
theorem mi_X11_looks : Cond.instanceMethod yX11_looks ∈ zWL := zw7 (List.mem_of_getElem? (i := 41) rfl) rfl
theorem ml_X11_looks : Cond.selects RX11 yX11_looks yX11_looks ∈ zWL := List.mem_append_right _ (List.mem_filter.mpr ⟨List.mem_map.mpr ⟨(⟨"SourceDisputeModel", "looks", "(II)V"⟩, 69), List.mem_of_getElem? (i := 78) (by decide +kernel), rfl⟩, by decide +kernel⟩)
set_option maxRecDepth 20000 in
theorem mc_X11_lawTells : Cond.code yX11_lawTells cX11_lawTells 7 (some .int) ∈ zWL := zw7 (List.mem_of_getElem? (i := 49) rfl) rfl
set_option maxRecDepth 20000 in
theorem mi_X11_lawTells : Cond.instanceMethod yX11_lawTells ∈ zWL := zw7 (List.mem_of_getElem? (i := 48) rfl) rfl
theorem ml_X11_lawTells : Cond.selects RX11 yX11_lawTells yX11_lawTells ∈ zWL := List.mem_append_right _ (List.mem_filter.mpr ⟨List.mem_map.mpr ⟨(⟨"SourceDisputeModel", "lawTells", "(II)I"⟩, 69), List.mem_of_getElem? (i := 79) (by decide +kernel), rfl⟩, by decide +kernel⟩)
set_option maxRecDepth 20000 in
theorem mc_X11_rainsAt : Cond.code yX11_rainsAt cX11_rainsAt 2 (some .int) ∈ zWL := zw7 (List.mem_of_getElem? (i := 38) rfl) rfl
set_option maxRecDepth 20000 in
theorem mi_X11_rainsAt : Cond.instanceMethod yX11_rainsAt ∈ zWL := zw7 (List.mem_of_getElem? (i := 37) rfl) rfl
theorem ml_X11_rainsAt : Cond.selects RX11 yX11_rainsAt yX11_rainsAt ∈ zWL := List.mem_append_right _ (List.mem_filter.mpr ⟨List.mem_map.mpr ⟨(⟨"SourceDisputeModel", "rainsAt", "(I)I"⟩, 69), List.mem_of_getElem? (i := 77) (by decide +kernel), rfl⟩, by decide +kernel⟩)
set_option maxRecDepth 20000 in
theorem mc_X11_driesAt : Cond.code yX11_driesAt cX11_driesAt 2 (some .int) ∈ zWL := zw7 (List.mem_of_getElem? (i := 60) rfl) rfl
set_option maxRecDepth 20000 in
theorem mi_X11_driesAt : Cond.instanceMethod yX11_driesAt ∈ zWL := zw7 (List.mem_of_getElem? (i := 59) rfl) rfl
theorem ml_X11_driesAt : Cond.selects RX11 yX11_driesAt yX11_driesAt ∈ zWL := List.mem_append_right _ (List.mem_filter.mpr ⟨List.mem_map.mpr ⟨(⟨"SourceDisputeModel", "driesAt", "(I)I"⟩, 69), List.mem_of_getElem? (i := 81) (by decide +kernel), rfl⟩, by decide +kernel⟩)
set_option maxRecDepth 20000 in
theorem mc_X11_fillsFlows : Cond.code yX11_fillsFlows cX11_fillsFlows 5 none ∈ zWL := zw7 (List.mem_of_getElem? (i := 34) rfl) rfl
set_option maxRecDepth 20000 in
theorem mi_X11_fillsFlows : Cond.instanceMethod yX11_fillsFlows ∈ zWL := zw7 (List.mem_of_getElem? (i := 33) rfl) rfl
theorem ml_X11_fillsFlows : Cond.selects RX11 yX11_fillsFlows yX11_fillsFlows ∈ zWL := List.mem_append_right _ (List.mem_filter.mpr ⟨List.mem_map.mpr ⟨(⟨"SourceDisputeModel", "fillsFlows", "(I)V"⟩, 69), List.mem_of_getElem? (i := 76) (by decide +kernel), rfl⟩, by decide +kernel⟩)
set_option maxRecDepth 20000 in
theorem mc_X11_claimOf : Cond.code yX11_claimOf cX11_claimOf 4 (some .int) ∈ zWL := zw7 (List.mem_of_getElem? (i := 83) rfl) rfl
set_option maxRecDepth 20000 in
theorem mi_X11_claimOf : Cond.instanceMethod yX11_claimOf ∈ zWL := zw7 (List.mem_of_getElem? (i := 82) rfl) rfl
theorem ml_X11_claimOf : Cond.selects RX11 yX11_claimOf yX11_claimOf ∈ zWL := List.mem_append_right _ (List.mem_filter.mpr ⟨List.mem_map.mpr ⟨(⟨"SourceDisputeModel", "claimOf", "(II)I"⟩, 69), List.mem_of_getElem? (i := 85) (by decide +kernel), rfl⟩, by decide +kernel⟩)
set_option maxRecDepth 20000 in
theorem mc_X11_winnerBy : Cond.code yX11_winnerBy cX11_winnerBy 6 (some .int) ∈ zWL := zw7 (List.mem_of_getElem? (i := 92) rfl) rfl
set_option maxRecDepth 20000 in
theorem mi_X11_winnerBy : Cond.instanceMethod yX11_winnerBy ∈ zWL := zw7 (List.mem_of_getElem? (i := 91) rfl) rfl
theorem ml_X11_winnerBy : Cond.selects RX11 yX11_winnerBy yX11_winnerBy ∈ zWL := List.mem_append_right _ (List.mem_filter.mpr ⟨List.mem_map.mpr ⟨(⟨"SourceDisputeModel", "winnerBy", "(I)I"⟩, 69), List.mem_of_getElem? (i := 86) (by decide +kernel), rfl⟩, by decide +kernel⟩)
set_option maxRecDepth 20000 in
theorem mc_X11_monthGoes : Cond.code yX11_monthGoes cX11_monthGoes 1 none ∈ zWL := zw7 (List.mem_of_getElem? (i := 131) rfl) rfl
set_option maxRecDepth 20000 in
theorem mi_X11_monthGoes : Cond.instanceMethod yX11_monthGoes ∈ zWL := zw7 (List.mem_of_getElem? (i := 130) rfl) rfl
theorem ml_X11_monthGoes : Cond.selects RX11 yX11_monthGoes yX11_monthGoes ∈ zWL := List.mem_append_right _ (List.mem_filter.mpr ⟨List.mem_map.mpr ⟨(⟨"SourceDisputeModel", "monthGoes", "()V"⟩, 69), List.mem_of_getElem? (i := 91) (by decide +kernel), rfl⟩, by decide +kernel⟩)
set_option maxRecDepth 20000 in
theorem mc_X11_goes : Cond.code yX11_goes cX11_goes 3 none ∈ zWL := zw7 (List.mem_of_getElem? (i := 127) rfl) rfl
set_option maxRecDepth 20000 in
theorem mi_X11_goes : Cond.instanceMethod yX11_goes ∈ zWL := zw7 (List.mem_of_getElem? (i := 126) rfl) rfl
theorem ml_X11_goes : Cond.selects RX11 yX11_goes yX11_goes ∈ zWL := List.mem_append_right _ (List.mem_filter.mpr ⟨List.mem_map.mpr ⟨(⟨"SourceDisputeModel", "goes", "(I)V"⟩, 69), List.mem_of_getElem? (i := 90) (by decide +kernel), rfl⟩, by decide +kernel⟩)
set_option maxRecDepth 20000 in
theorem mc_X11_spot : Cond.code yX11_spot cX11_spot 3 (some .int) ∈ zWL := zw7 (List.mem_of_getElem? (i := 15) rfl) rfl
set_option maxRecDepth 20000 in
theorem mi_X11_spot : Cond.instanceMethod yX11_spot ∈ zWL := zw7 (List.mem_of_getElem? (i := 13) rfl) rfl
set_option maxRecDepth 20000 in
theorem ml_X11_spot : Cond.selects RX11 yX11_spot yX11_spot ∈ zWL := zw7 (List.mem_of_getElem? (i := 14) rfl) rfl
set_option maxRecDepth 20000 in
theorem mc_X11_isClaim : Cond.code yX11_isClaim cX11_isClaim 3 (some .boolean) ∈ zWL := zw7 (List.mem_of_getElem? (i := 76) rfl) rfl
set_option maxRecDepth 20000 in
theorem mi_X11_isClaim : Cond.instanceMethod yX11_isClaim ∈ zWL := zw7 (List.mem_of_getElem? (i := 75) rfl) rfl
theorem ml_X11_isClaim : Cond.selects RX11 yX11_isClaim yX11_isClaim ∈ zWL := List.mem_append_right _ (List.mem_filter.mpr ⟨List.mem_map.mpr ⟨(⟨"SourceDisputeModel", "isClaim", "(II)Z"⟩, 69), List.mem_of_getElem? (i := 84) (by decide +kernel), rfl⟩, by decide +kernel⟩)
set_option maxRecDepth 20000 in
theorem mc_X11_claim : Cond.code yX11_claim cX11_claim 3 (some .int) ∈ zWL := zw7 (List.mem_of_getElem? (i := 72) rfl) rfl
set_option maxRecDepth 20000 in
theorem mi_X11_claim : Cond.instanceMethod yX11_claim ∈ zWL := zw7 (List.mem_of_getElem? (i := 70) rfl) rfl
set_option maxRecDepth 20000 in
theorem ml_X11_claim : Cond.selects RX11 yX11_claim yX11_claim ∈ zWL := zw7 (List.mem_of_getElem? (i := 71) rfl) rfl
set_option maxRecDepth 20000 in
theorem mc_X11_winner : Cond.code yX11_winner cX11_winner 2 (some .int) ∈ zWL := zw7 (List.mem_of_getElem? (i := 88) rfl) rfl
set_option maxRecDepth 20000 in
theorem mi_X11_winner : Cond.instanceMethod yX11_winner ∈ zWL := zw7 (List.mem_of_getElem? (i := 86) rfl) rfl
set_option maxRecDepth 20000 in
theorem ml_X11_winner : Cond.selects RX11 yX11_winner yX11_winner ∈ zWL := zw7 (List.mem_of_getElem? (i := 87) rfl) rfl
set_option maxRecDepth 20000 in
theorem mc_X11_records : Cond.code yX11_records cX11_records 2 none ∈ zWL := zw7 (List.mem_of_getElem? (i := 104) rfl) rfl
set_option maxRecDepth 20000 in
theorem mi_X11_records : Cond.instanceMethod yX11_records ∈ zWL := zw7 (List.mem_of_getElem? (i := 103) rfl) rfl
theorem ml_X11_records : Cond.selects RX11 yX11_records yX11_records ∈ zWL := List.mem_append_right _ (List.mem_filter.mpr ⟨List.mem_map.mpr ⟨(⟨"SourceDisputeModel", "records", "()V"⟩, 69), List.mem_of_getElem? (i := 88) (by decide +kernel), rfl⟩, by decide +kernel⟩)
set_option maxRecDepth 20000 in
theorem mc_X11_does : Cond.code yX11_does cX11_does 3 none ∈ zWL := zw7 (List.mem_of_getElem? (i := 100) rfl) rfl
set_option maxRecDepth 20000 in
theorem mi_X11_does : Cond.instanceMethod yX11_does ∈ zWL := zw7 (List.mem_of_getElem? (i := 99) rfl) rfl
theorem ml_X11_does : Cond.selects RX11 yX11_does yX11_does ∈ zWL := List.mem_append_right _ (List.mem_filter.mpr ⟨List.mem_map.mpr ⟨(⟨"SourceDisputeModel", "does", "(II)V"⟩, 69), List.mem_of_getElem? (i := 87) (by decide +kernel), rfl⟩, by decide +kernel⟩)
set_option maxRecDepth 20000 in
theorem mc_X11_dam : Cond.code yX11_dam cX11_dam 3 (some .boolean) ∈ zWL := zw7 (List.mem_of_getElem? (i := 96) rfl) rfl
set_option maxRecDepth 20000 in
theorem mi_X11_dam : Cond.instanceMethod yX11_dam ∈ zWL := zw7 (List.mem_of_getElem? (i := 94) rfl) rfl
set_option maxRecDepth 20000 in
theorem ml_X11_dam : Cond.selects RX11 yX11_dam yX11_dam ∈ zWL := zw7 (List.mem_of_getElem? (i := 95) rfl) rfl
set_option maxRecDepth 20000 in
theorem mc_X11_canTurn : Cond.code yX11_canTurn cX11_canTurn 3 (some .boolean) ∈ zWL := zw7 (List.mem_of_getElem? (i := 112) rfl) rfl
set_option maxRecDepth 20000 in
theorem mi_X11_canTurn : Cond.instanceMethod yX11_canTurn ∈ zWL := zw7 (List.mem_of_getElem? (i := 111) rfl) rfl
theorem ml_X11_canTurn : Cond.selects RX11 yX11_canTurn yX11_canTurn ∈ zWL := List.mem_append_right _ (List.mem_filter.mpr ⟨List.mem_map.mpr ⟨(⟨"SourceDisputeModel", "canTurn", "(II)Z"⟩, 69), List.mem_of_getElem? (i := 89) (by decide +kernel), rfl⟩, by decide +kernel⟩)
set_option maxRecDepth 20000 in
theorem mc_X11_turn : Cond.code yX11_turn cX11_turn 3 (some .boolean) ∈ zWL := zw7 (List.mem_of_getElem? (i := 108) rfl) rfl
set_option maxRecDepth 20000 in
theorem mi_X11_turn : Cond.instanceMethod yX11_turn ∈ zWL := zw7 (List.mem_of_getElem? (i := 106) rfl) rfl
set_option maxRecDepth 20000 in
theorem ml_X11_turn : Cond.selects RX11 yX11_turn yX11_turn ∈ zWL := zw7 (List.mem_of_getElem? (i := 107) rfl) rfl
set_option maxRecDepth 20000 in
theorem mc_X11_rule : Cond.code yX11_rule cX11_rule 2 (some .boolean) ∈ zWL := zw7 (List.mem_of_getElem? (i := 116) rfl) rfl
set_option maxRecDepth 20000 in
theorem mi_X11_rule : Cond.instanceMethod yX11_rule ∈ zWL := zw7 (List.mem_of_getElem? (i := 114) rfl) rfl
set_option maxRecDepth 20000 in
theorem ml_X11_rule : Cond.selects RX11 yX11_rule yX11_rule ∈ zWL := zw7 (List.mem_of_getElem? (i := 115) rfl) rfl
set_option maxRecDepth 20000 in
theorem mc_X11_isLong : Cond.code yX11_isLong cX11_isLong 1 (some .boolean) ∈ zWL := zw7 (List.mem_of_getElem? (i := 123) rfl) rfl
set_option maxRecDepth 20000 in
theorem ms_X11_isLong : Cond.static yX11_isLong ∈ zWL := zw7 (List.mem_of_getElem? (i := 122) rfl) rfl
set_option maxRecDepth 20000 in
theorem mc_X11_isSome : Cond.code yX11_isSome cX11_isSome 1 (some .boolean) ∈ zWL := zw7 (List.mem_of_getElem? (i := 150) rfl) rfl
set_option maxRecDepth 20000 in
theorem ms_X11_isSome : Cond.static yX11_isSome ∈ zWL := zw7 (List.mem_of_getElem? (i := 149) rfl) rfl
set_option maxRecDepth 20000 in
theorem mc_X11_months : Cond.code yX11_months cX11_months 2 (some .int) ∈ zWL := zw7 (List.mem_of_getElem? (i := 120) rfl) rfl
set_option maxRecDepth 20000 in
theorem mi_X11_months : Cond.instanceMethod yX11_months ∈ zWL := zw7 (List.mem_of_getElem? (i := 118) rfl) rfl
set_option maxRecDepth 20000 in
theorem ml_X11_months : Cond.selects RX11 yX11_months yX11_months ∈ zWL := zw7 (List.mem_of_getElem? (i := 119) rfl) rfl
set_option maxRecDepth 20000 in
theorem mc_X11_undo : Cond.code yX11_undo cX11_undo 2 (some .boolean) ∈ zWL := zw7 (List.mem_of_getElem? (i := 143) rfl) rfl
set_option maxRecDepth 20000 in
theorem mi_X11_undo : Cond.instanceMethod yX11_undo ∈ zWL := zw7 (List.mem_of_getElem? (i := 141) rfl) rfl
set_option maxRecDepth 20000 in
theorem ml_X11_undo : Cond.selects RX11 yX11_undo yX11_undo ∈ zWL := zw7 (List.mem_of_getElem? (i := 142) rfl) rfl
set_option maxRecDepth 20000 in
theorem mc_X11_agree : Cond.code yX11_agree cX11_agree 5 (some .int) ∈ zWL := zw7 (List.mem_of_getElem? (i := 147) rfl) rfl
set_option maxRecDepth 20000 in
theorem mi_X11_agree : Cond.instanceMethod yX11_agree ∈ zWL := zw7 (List.mem_of_getElem? (i := 145) rfl) rfl
set_option maxRecDepth 20000 in
theorem ml_X11_agree : Cond.selects RX11 yX11_agree yX11_agree ∈ zWL := zw7 (List.mem_of_getElem? (i := 146) rfl) rfl
set_option maxRecDepth 20000 in
theorem mc_X11_behind : Cond.code yX11_behind cX11_behind 3 (some .int) ∈ zWL := zw7 (List.mem_of_getElem? (i := 158) rfl) rfl
set_option maxRecDepth 20000 in
theorem mi_X11_behind : Cond.instanceMethod yX11_behind ∈ zWL := zw7 (List.mem_of_getElem? (i := 156) rfl) rfl
set_option maxRecDepth 20000 in
theorem ml_X11_behind : Cond.selects RX11 yX11_behind yX11_behind ∈ zWL := zw7 (List.mem_of_getElem? (i := 157) rfl) rfl
set_option maxRecDepth 20000 in
theorem mc_X11_margin : Cond.code yX11_margin cX11_margin 5 (some .int) ∈ zWL := zw7 (List.mem_of_getElem? (i := 162) rfl) rfl
set_option maxRecDepth 20000 in
theorem mi_X11_margin : Cond.instanceMethod yX11_margin ∈ zWL := zw7 (List.mem_of_getElem? (i := 160) rfl) rfl
set_option maxRecDepth 20000 in
theorem ml_X11_margin : Cond.selects RX11 yX11_margin yX11_margin ∈ zWL := zw7 (List.mem_of_getElem? (i := 161) rfl) rfl
set_option maxRecDepth 20000 in
theorem mc_X11_richest : Cond.code yX11_richest cX11_richest 4 (some .int) ∈ zWL := zw7 (List.mem_of_getElem? (i := 166) rfl) rfl
set_option maxRecDepth 20000 in
theorem mi_X11_richest : Cond.instanceMethod yX11_richest ∈ zWL := zw7 (List.mem_of_getElem? (i := 164) rfl) rfl
set_option maxRecDepth 20000 in
theorem ml_X11_richest : Cond.selects RX11 yX11_richest yX11_richest ∈ zWL := zw7 (List.mem_of_getElem? (i := 165) rfl) rfl
set_option maxRecDepth 20000 in
theorem mc_X11_rankOf : Cond.code yX11_rankOf cX11_rankOf 7 (some .int) ∈ zWL := zw7 (List.mem_of_getElem? (i := 174) rfl) rfl
set_option maxRecDepth 20000 in
theorem mi_X11_rankOf : Cond.instanceMethod yX11_rankOf ∈ zWL := zw7 (List.mem_of_getElem? (i := 173) rfl) rfl
theorem ml_X11_rankOf : Cond.selects RX11 yX11_rankOf yX11_rankOf ∈ zWL := List.mem_append_right _ (List.mem_filter.mpr ⟨List.mem_map.mpr ⟨(⟨"SourceDisputeModel", "rankOf", "(II)I"⟩, 69), List.mem_of_getElem? (i := 94) (by decide +kernel), rfl⟩, by decide +kernel⟩)
set_option maxRecDepth 20000 in
theorem mc_X11_rank : Cond.code yX11_rank cX11_rank 3 (some .int) ∈ zWL := zw7 (List.mem_of_getElem? (i := 170) rfl) rfl
set_option maxRecDepth 20000 in
theorem mi_X11_rank : Cond.instanceMethod yX11_rank ∈ zWL := zw7 (List.mem_of_getElem? (i := 168) rfl) rfl
set_option maxRecDepth 20000 in
theorem ml_X11_rank : Cond.selects RX11 yX11_rank yX11_rank ∈ zWL := zw7 (List.mem_of_getElem? (i := 169) rfl) rfl
set_option maxRecDepth 20000 in
theorem mc_X11_vote : Cond.code yX11_vote cX11_vote 5 (some .int) ∈ zWL := zw7 (List.mem_of_getElem? (i := 178) rfl) rfl
set_option maxRecDepth 20000 in
theorem mi_X11_vote : Cond.instanceMethod yX11_vote ∈ zWL := zw7 (List.mem_of_getElem? (i := 176) rfl) rfl
set_option maxRecDepth 20000 in
theorem ml_X11_vote : Cond.selects RX11 yX11_vote yX11_vote ∈ zWL := zw7 (List.mem_of_getElem? (i := 177) rfl) rfl
set_option maxRecDepth 20000 in
theorem mc_X11_damsAll : Cond.code yX11_damsAll cX11_damsAll 3 none ∈ zWL := zw7 (List.mem_of_getElem? (i := 200) rfl) rfl
set_option maxRecDepth 20000 in
theorem mi_X11_damsAll : Cond.instanceMethod yX11_damsAll ∈ zWL := zw7 (List.mem_of_getElem? (i := 199) rfl) rfl
theorem ml_X11_damsAll : Cond.selects RX11 yX11_damsAll yX11_damsAll ∈ zWL := List.mem_append_right _ (List.mem_filter.mpr ⟨List.mem_map.mpr ⟨(⟨"SourceDisputeModel", "damsAll", "(I)V"⟩, 69), List.mem_of_getElem? (i := 97) (by decide +kernel), rfl⟩, by decide +kernel⟩)
set_option maxRecDepth 20000 in
theorem mc_X11_dammedBits : Cond.code yX11_dammedBits cX11_dammedBits 3 (some .int) ∈ zWL := zw7 (List.mem_of_getElem? (i := 190) rfl) rfl
set_option maxRecDepth 20000 in
theorem mi_X11_dammedBits : Cond.instanceMethod yX11_dammedBits ∈ zWL := zw7 (List.mem_of_getElem? (i := 189) rfl) rfl
theorem ml_X11_dammedBits : Cond.selects RX11 yX11_dammedBits yX11_dammedBits ∈ zWL := List.mem_append_right _ (List.mem_filter.mpr ⟨List.mem_map.mpr ⟨(⟨"SourceDisputeModel", "dammedBits", "()I"⟩, 69), List.mem_of_getElem? (i := 96) (by decide +kernel), rfl⟩, by decide +kernel⟩)
set_option maxRecDepth 20000 in
theorem mc_X11_ithOf : Cond.code yX11_ithOf cX11_ithOf 4 (some .int) ∈ zWL := zw7 (List.mem_of_getElem? (i := 196) rfl) rfl
set_option maxRecDepth 20000 in
theorem ms_X11_ithOf : Cond.static yX11_ithOf ∈ zWL := zw7 (List.mem_of_getElem? (i := 195) rfl) rfl
set_option maxRecDepth 20000 in
theorem mc_X11_isEarlier : Cond.code yX11_isEarlier cX11_isEarlier 3 (some .boolean) ∈ zWL := zw7 (List.mem_of_getElem? (i := 193) rfl) rfl
set_option maxRecDepth 20000 in
theorem ms_X11_isEarlier : Cond.static yX11_isEarlier ∈ zWL := zw7 (List.mem_of_getElem? (i := 192) rfl) rfl
set_option maxRecDepth 20000 in
theorem mc_X11_dams : Cond.code yX11_dams cX11_dams 6 (some .int) ∈ zWL := zw7 (List.mem_of_getElem? (i := 186) rfl) rfl
set_option maxRecDepth 20000 in
theorem mi_X11_dams : Cond.instanceMethod yX11_dams ∈ zWL := zw7 (List.mem_of_getElem? (i := 184) rfl) rfl
set_option maxRecDepth 20000 in
theorem ml_X11_dams : Cond.selects RX11 yX11_dams yX11_dams ∈ zWL := zw7 (List.mem_of_getElem? (i := 185) rfl) rfl
set_option maxRecDepth 20000 in
theorem mc_X11_lossOf : Cond.code yX11_lossOf cX11_lossOf 3 (some .int) ∈ zWL := zw7 (List.mem_of_getElem? (i := 208) rfl) rfl
set_option maxRecDepth 20000 in
theorem mi_X11_lossOf : Cond.instanceMethod yX11_lossOf ∈ zWL := zw7 (List.mem_of_getElem? (i := 207) rfl) rfl
theorem ml_X11_lossOf : Cond.selects RX11 yX11_lossOf yX11_lossOf ∈ zWL := List.mem_append_right _ (List.mem_filter.mpr ⟨List.mem_map.mpr ⟨(⟨"SourceDisputeModel", "lossOf", "(I)I"⟩, 69), List.mem_of_getElem? (i := 98) (by decide +kernel), rfl⟩, by decide +kernel⟩)
set_option maxRecDepth 20000 in
theorem mc_X11_loss : Cond.code yX11_loss cX11_loss 2 (some .int) ∈ zWL := zw7 (List.mem_of_getElem? (i := 204) rfl) rfl
set_option maxRecDepth 20000 in
theorem mi_X11_loss : Cond.instanceMethod yX11_loss ∈ zWL := zw7 (List.mem_of_getElem? (i := 202) rfl) rfl
set_option maxRecDepth 20000 in
theorem ml_X11_loss : Cond.selects RX11 yX11_loss yX11_loss ∈ zWL := zw7 (List.mem_of_getElem? (i := 203) rfl) rfl
set_option maxRecDepth 20000 in
theorem mc_X11_part : Cond.code yX11_part cX11_part 3 (some .int) ∈ zWL := zw7 (List.mem_of_getElem? (i := 212) rfl) rfl
set_option maxRecDepth 20000 in
theorem mi_X11_part : Cond.instanceMethod yX11_part ∈ zWL := zw7 (List.mem_of_getElem? (i := 210) rfl) rfl
set_option maxRecDepth 20000 in
theorem ml_X11_part : Cond.selects RX11 yX11_part yX11_part ∈ zWL := zw7 (List.mem_of_getElem? (i := 211) rfl) rfl
set_option maxRecDepth 20000 in
theorem mc_X11_main : Cond.code yX11_main cX11_main 6 (some .int) ∈ zWL := zw7 (List.mem_of_getElem? (i := 216) rfl) rfl
set_option maxRecDepth 20000 in
theorem mi_X11_main : Cond.instanceMethod yX11_main ∈ zWL := zw7 (List.mem_of_getElem? (i := 214) rfl) rfl
set_option maxRecDepth 20000 in
theorem ml_X11_main : Cond.selects RX11 yX11_main yX11_main ∈ zWL := zw7 (List.mem_of_getElem? (i := 215) rfl) rfl
set_option maxRecDepth 20000 in
theorem mc_X11_driest : Cond.code yX11_driest cX11_driest 6 (some .int) ∈ zWL := zw7 (List.mem_of_getElem? (i := 220) rfl) rfl
set_option maxRecDepth 20000 in
theorem mi_X11_driest : Cond.instanceMethod yX11_driest ∈ zWL := zw7 (List.mem_of_getElem? (i := 218) rfl) rfl
set_option maxRecDepth 20000 in
theorem ml_X11_driest : Cond.selects RX11 yX11_driest yX11_driest ∈ zWL := zw7 (List.mem_of_getElem? (i := 219) rfl) rfl
set_option maxRecDepth 20000 in
theorem mc_X11_winsTurned : Cond.code yX11_winsTurned cX11_winsTurned 5 (some .boolean) ∈ zWL := zw7 (List.mem_of_getElem? (i := 228) rfl) rfl
set_option maxRecDepth 20000 in
theorem mi_X11_winsTurned : Cond.instanceMethod yX11_winsTurned ∈ zWL := zw7 (List.mem_of_getElem? (i := 227) rfl) rfl
theorem ml_X11_winsTurned : Cond.selects RX11 yX11_winsTurned yX11_winsTurned ∈ zWL := List.mem_append_right _ (List.mem_filter.mpr ⟨List.mem_map.mpr ⟨(⟨"SourceDisputeModel", "winsTurned", "(IIII)Z"⟩, 69), List.mem_of_getElem? (i := 99) (by decide +kernel), rfl⟩, by decide +kernel⟩)
set_option maxRecDepth 20000 in
theorem mc_X11_turnFor : Cond.code yX11_turnFor cX11_turnFor 5 (some .int) ∈ zWL := zw7 (List.mem_of_getElem? (i := 224) rfl) rfl
set_option maxRecDepth 20000 in
theorem mi_X11_turnFor : Cond.instanceMethod yX11_turnFor ∈ zWL := zw7 (List.mem_of_getElem? (i := 222) rfl) rfl
set_option maxRecDepth 20000 in
theorem ml_X11_turnFor : Cond.selects RX11 yX11_turnFor yX11_turnFor ∈ zWL := zw7 (List.mem_of_getElem? (i := 223) rfl) rfl
set_option maxRecDepth 20000 in
theorem mc_X11_damFor : Cond.code yX11_damFor cX11_damFor 4 (some .int) ∈ zWL := zw7 (List.mem_of_getElem? (i := 232) rfl) rfl
set_option maxRecDepth 20000 in
theorem mi_X11_damFor : Cond.instanceMethod yX11_damFor ∈ zWL := zw7 (List.mem_of_getElem? (i := 230) rfl) rfl
set_option maxRecDepth 20000 in
theorem ml_X11_damFor : Cond.selects RX11 yX11_damFor yX11_damFor ∈ zWL := zw7 (List.mem_of_getElem? (i := 231) rfl) rfl
set_option maxRecDepth 20000 in
theorem mc_X11_depth : Cond.code yX11_depth cX11_depth 3 (some .int) ∈ zWL := zw7 (List.mem_of_getElem? (i := 236) rfl) rfl
set_option maxRecDepth 20000 in
theorem mi_X11_depth : Cond.instanceMethod yX11_depth ∈ zWL := zw7 (List.mem_of_getElem? (i := 234) rfl) rfl
set_option maxRecDepth 20000 in
theorem ml_X11_depth : Cond.selects RX11 yX11_depth yX11_depth ∈ zWL := zw7 (List.mem_of_getElem? (i := 235) rfl) rfl
set_option maxRecDepth 20000 in
theorem mc_X11_order : Cond.code yX11_order cX11_order 4 (some .int) ∈ zWL := zw8 (List.mem_of_getElem? (i := 0) rfl) rfl
set_option maxRecDepth 20000 in
theorem mi_X11_order : Cond.instanceMethod yX11_order ∈ zWL := zw7 (List.mem_of_getElem? (i := 238) rfl) rfl
set_option maxRecDepth 20000 in
theorem ml_X11_order : Cond.selects RX11 yX11_order yX11_order ∈ zWL := zw7 (List.mem_of_getElem? (i := 239) rfl) rfl
set_option maxRecDepth 20000 in
theorem mc_X11_orderAt : Cond.code yX11_orderAt cX11_orderAt 5 (some .int) ∈ zWL := zw8 (List.mem_of_getElem? (i := 4) rfl) rfl
set_option maxRecDepth 20000 in
theorem mi_X11_orderAt : Cond.instanceMethod yX11_orderAt ∈ zWL := zw8 (List.mem_of_getElem? (i := 3) rfl) rfl
theorem ml_X11_orderAt : Cond.selects RX11 yX11_orderAt yX11_orderAt ∈ zWL := List.mem_append_right _ (List.mem_filter.mpr ⟨List.mem_map.mpr ⟨(⟨"SourceDisputeModel", "orderAt", "(I)I"⟩, 69), List.mem_of_getElem? (i := 100) (by decide +kernel), rfl⟩, by decide +kernel⟩)
set_option maxRecDepth 20000 in
theorem mc_X11_basin : Cond.code yX11_basin cX11_basin 5 (some .int) ∈ zWL := zw8 (List.mem_of_getElem? (i := 8) rfl) rfl
set_option maxRecDepth 20000 in
theorem mi_X11_basin : Cond.instanceMethod yX11_basin ∈ zWL := zw8 (List.mem_of_getElem? (i := 6) rfl) rfl
set_option maxRecDepth 20000 in
theorem ml_X11_basin : Cond.selects RX11 yX11_basin yX11_basin ∈ zWL := zw8 (List.mem_of_getElem? (i := 7) rfl) rfl
set_option maxRecDepth 20000 in
theorem mc_X11_reign : Cond.code yX11_reign cX11_reign 7 (some .int) ∈ zWL := zw8 (List.mem_of_getElem? (i := 12) rfl) rfl
set_option maxRecDepth 20000 in
theorem mi_X11_reign : Cond.instanceMethod yX11_reign ∈ zWL := zw8 (List.mem_of_getElem? (i := 10) rfl) rfl
set_option maxRecDepth 20000 in
theorem ml_X11_reign : Cond.selects RX11 yX11_reign yX11_reign ∈ zWL := zw8 (List.mem_of_getElem? (i := 11) rfl) rfl
set_option maxRecDepth 20000 in
theorem mc_X11_tourOf : Cond.code yX11_tourOf cX11_tourOf 5 (some .int) ∈ zWL := zw8 (List.mem_of_getElem? (i := 20) rfl) rfl
set_option maxRecDepth 20000 in
theorem mi_X11_tourOf : Cond.instanceMethod yX11_tourOf ∈ zWL := zw8 (List.mem_of_getElem? (i := 19) rfl) rfl
theorem ml_X11_tourOf : Cond.selects RX11 yX11_tourOf yX11_tourOf ∈ zWL := List.mem_append_right _ (List.mem_filter.mpr ⟨List.mem_map.mpr ⟨(⟨"SourceDisputeModel", "tourOf", "(I)I"⟩, 69), List.mem_of_getElem? (i := 101) (by decide +kernel), rfl⟩, by decide +kernel⟩)
set_option maxRecDepth 20000 in
theorem mc_X11_tour : Cond.code yX11_tour cX11_tour 1 (some .int) ∈ zWL := zw8 (List.mem_of_getElem? (i := 16) rfl) rfl
set_option maxRecDepth 20000 in
theorem mi_X11_tour : Cond.instanceMethod yX11_tour ∈ zWL := zw8 (List.mem_of_getElem? (i := 14) rfl) rfl
set_option maxRecDepth 20000 in
theorem ml_X11_tour : Cond.selects RX11 yX11_tour yX11_tour ∈ zWL := zw8 (List.mem_of_getElem? (i := 15) rfl) rfl
set_option maxRecDepth 20000 in
theorem mc_X11_parted : Cond.code yX11_parted cX11_parted 6 (some .int) ∈ zWL := zw8 (List.mem_of_getElem? (i := 24) rfl) rfl
set_option maxRecDepth 20000 in
theorem mi_X11_parted : Cond.instanceMethod yX11_parted ∈ zWL := zw8 (List.mem_of_getElem? (i := 22) rfl) rfl
set_option maxRecDepth 20000 in
theorem ml_X11_parted : Cond.selects RX11 yX11_parted yX11_parted ∈ zWL := zw8 (List.mem_of_getElem? (i := 23) rfl) rfl
set_option maxRecDepth 20000 in
theorem mc_X11_meet : Cond.code yX11_meet cX11_meet 5 (some .int) ∈ zWL := zw8 (List.mem_of_getElem? (i := 28) rfl) rfl
set_option maxRecDepth 20000 in
theorem mi_X11_meet : Cond.instanceMethod yX11_meet ∈ zWL := zw8 (List.mem_of_getElem? (i := 26) rfl) rfl
set_option maxRecDepth 20000 in
theorem ml_X11_meet : Cond.selects RX11 yX11_meet yX11_meet ∈ zWL := zw8 (List.mem_of_getElem? (i := 27) rfl) rfl
set_option maxRecDepth 20000 in
theorem mc_X11_when : Cond.code yX11_when cX11_when 3 (some .int) ∈ zWL := zw8 (List.mem_of_getElem? (i := 32) rfl) rfl
set_option maxRecDepth 20000 in
theorem mi_X11_when : Cond.instanceMethod yX11_when ∈ zWL := zw8 (List.mem_of_getElem? (i := 30) rfl) rfl
set_option maxRecDepth 20000 in
theorem ml_X11_when : Cond.selects RX11 yX11_when yX11_when ∈ zWL := zw8 (List.mem_of_getElem? (i := 31) rfl) rfl
set_option maxRecDepth 20000 in
theorem mc_X11_then : Cond.code yX11_then cX11_then 4 (some .int) ∈ zWL := zw8 (List.mem_of_getElem? (i := 36) rfl) rfl
set_option maxRecDepth 20000 in
theorem mi_X11_then : Cond.instanceMethod yX11_then ∈ zWL := zw8 (List.mem_of_getElem? (i := 34) rfl) rfl
set_option maxRecDepth 20000 in
theorem ml_X11_then : Cond.selects RX11 yX11_then yX11_then ∈ zWL := zw8 (List.mem_of_getElem? (i := 35) rfl) rfl
set_option maxRecDepth 20000 in
theorem mc_X11_flowIn : Cond.code yX11_flowIn cX11_flowIn 2 (some .int) ∈ zWL := zw8 (List.mem_of_getElem? (i := 40) rfl) rfl
set_option maxRecDepth 20000 in
theorem mi_X11_flowIn : Cond.instanceMethod yX11_flowIn ∈ zWL := zw8 (List.mem_of_getElem? (i := 38) rfl) rfl
set_option maxRecDepth 20000 in
theorem ml_X11_flowIn : Cond.selects RX11 yX11_flowIn yX11_flowIn ∈ zWL := zw8 (List.mem_of_getElem? (i := 39) rfl) rfl
set_option maxRecDepth 20000 in
theorem mc_X11_hasWonMost : Cond.code yX11_hasWonMost cX11_hasWonMost 3 (some .boolean) ∈ zWL := zw8 (List.mem_of_getElem? (i := 48) rfl) rfl
set_option maxRecDepth 20000 in
theorem mi_X11_hasWonMost : Cond.instanceMethod yX11_hasWonMost ∈ zWL := zw8 (List.mem_of_getElem? (i := 47) rfl) rfl
theorem ml_X11_hasWonMost : Cond.selects RX11 yX11_hasWonMost yX11_hasWonMost ∈ zWL := List.mem_append_right _ (List.mem_filter.mpr ⟨List.mem_map.mpr ⟨(⟨"SourceDisputeModel", "hasWonMost", "(I)Z"⟩, 69), List.mem_of_getElem? (i := 102) (by decide +kernel), rfl⟩, by decide +kernel⟩)
set_option maxRecDepth 20000 in
theorem mc_X11_year : Cond.code yX11_year cX11_year 6 (some .int) ∈ zWL := zw8 (List.mem_of_getElem? (i := 44) rfl) rfl
set_option maxRecDepth 20000 in
theorem mi_X11_year : Cond.instanceMethod yX11_year ∈ zWL := zw8 (List.mem_of_getElem? (i := 42) rfl) rfl
set_option maxRecDepth 20000 in
theorem ml_X11_year : Cond.selects RX11 yX11_year yX11_year ∈ zWL := zw8 (List.mem_of_getElem? (i := 43) rfl) rfl
set_option maxRecDepth 20000 in
theorem mc_X11_tell : Cond.code yX11_tell cX11_tell 5 (some .int) ∈ zWL := zw8 (List.mem_of_getElem? (i := 52) rfl) rfl
set_option maxRecDepth 20000 in
theorem mi_X11_tell : Cond.instanceMethod yX11_tell ∈ zWL := zw8 (List.mem_of_getElem? (i := 50) rfl) rfl
set_option maxRecDepth 20000 in
theorem ml_X11_tell : Cond.selects RX11 yX11_tell yX11_tell ∈ zWL := zw8 (List.mem_of_getElem? (i := 51) rfl) rfl
set_option maxRecDepth 20000 in
theorem mc_X11_forget : Cond.code yX11_forget cX11_forget 2 (some .int) ∈ zWL := zw8 (List.mem_of_getElem? (i := 56) rfl) rfl
set_option maxRecDepth 20000 in
theorem mi_X11_forget : Cond.instanceMethod yX11_forget ∈ zWL := zw8 (List.mem_of_getElem? (i := 54) rfl) rfl
set_option maxRecDepth 20000 in
theorem ml_X11_forget : Cond.selects RX11 yX11_forget yX11_forget ∈ zWL := zw8 (List.mem_of_getElem? (i := 55) rfl) rfl
set_option maxRecDepth 20000 in
theorem mc_X11_comesBy : Cond.code yX11_comesBy cX11_comesBy 4 (some .boolean) ∈ zWL := zw8 (List.mem_of_getElem? (i := 68) rfl) rfl
set_option maxRecDepth 20000 in
theorem mi_X11_comesBy : Cond.instanceMethod yX11_comesBy ∈ zWL := zw8 (List.mem_of_getElem? (i := 67) rfl) rfl
theorem ml_X11_comesBy : Cond.selects RX11 yX11_comesBy yX11_comesBy ∈ zWL := List.mem_append_right _ (List.mem_filter.mpr ⟨List.mem_map.mpr ⟨(⟨"SourceDisputeModel", "comesBy", "(II)Z"⟩, 69), List.mem_of_getElem? (i := 104) (by decide +kernel), rfl⟩, by decide +kernel⟩)
set_option maxRecDepth 20000 in
theorem mc_X11_dyedBits : Cond.code yX11_dyedBits cX11_dyedBits 6 (some .int) ∈ zWL := zw8 (List.mem_of_getElem? (i := 64) rfl) rfl
set_option maxRecDepth 20000 in
theorem mi_X11_dyedBits : Cond.instanceMethod yX11_dyedBits ∈ zWL := zw8 (List.mem_of_getElem? (i := 63) rfl) rfl
theorem ml_X11_dyedBits : Cond.selects RX11 yX11_dyedBits yX11_dyedBits ∈ zWL := List.mem_append_right _ (List.mem_filter.mpr ⟨List.mem_map.mpr ⟨(⟨"SourceDisputeModel", "dyedBits", "(I)I"⟩, 69), List.mem_of_getElem? (i := 103) (by decide +kernel), rfl⟩, by decide +kernel⟩)
set_option maxRecDepth 20000 in
theorem mc_X11_dyed : Cond.code yX11_dyed cX11_dyed 4 (some .int) ∈ zWL := zw8 (List.mem_of_getElem? (i := 60) rfl) rfl
set_option maxRecDepth 20000 in
theorem mi_X11_dyed : Cond.instanceMethod yX11_dyed ∈ zWL := zw8 (List.mem_of_getElem? (i := 58) rfl) rfl
set_option maxRecDepth 20000 in
theorem ml_X11_dyed : Cond.selects RX11 yX11_dyed yX11_dyed ∈ zWL := zw8 (List.mem_of_getElem? (i := 59) rfl) rfl
set_option maxRecDepth 20000 in
theorem mc_X11_watch : Cond.code yX11_watch cX11_watch 8 (some .int) ∈ zWL := zw8 (List.mem_of_getElem? (i := 72) rfl) rfl
set_option maxRecDepth 20000 in
theorem mi_X11_watch : Cond.instanceMethod yX11_watch ∈ zWL := zw8 (List.mem_of_getElem? (i := 70) rfl) rfl
set_option maxRecDepth 20000 in
theorem ml_X11_watch : Cond.selects RX11 yX11_watch yX11_watch ∈ zWL := zw8 (List.mem_of_getElem? (i := 71) rfl) rfl
set_option maxRecDepth 20000 in
theorem mc_X11_hold : Cond.code yX11_hold cX11_hold 3 (some .boolean) ∈ zWL := zw8 (List.mem_of_getElem? (i := 76) rfl) rfl
set_option maxRecDepth 20000 in
theorem mi_X11_hold : Cond.instanceMethod yX11_hold ∈ zWL := zw8 (List.mem_of_getElem? (i := 74) rfl) rfl
set_option maxRecDepth 20000 in
theorem ml_X11_hold : Cond.selects RX11 yX11_hold yX11_hold ∈ zWL := zw8 (List.mem_of_getElem? (i := 75) rfl) rfl
set_option maxRecDepth 20000 in
theorem mc_X11_restore : Cond.code yX11_restore cX11_restore 3 (some .boolean) ∈ zWL := zw8 (List.mem_of_getElem? (i := 80) rfl) rfl
set_option maxRecDepth 20000 in
theorem mi_X11_restore : Cond.instanceMethod yX11_restore ∈ zWL := zw8 (List.mem_of_getElem? (i := 78) rfl) rfl
set_option maxRecDepth 20000 in
theorem ml_X11_restore : Cond.selects RX11 yX11_restore yX11_restore ∈ zWL := zw8 (List.mem_of_getElem? (i := 79) rfl) rfl
set_option maxRecDepth 20000 in
theorem mc_X11_count : Cond.code yX11_count cX11_count 4 (some .int) ∈ zWL := zw8 (List.mem_of_getElem? (i := 84) rfl) rfl
set_option maxRecDepth 20000 in
theorem mi_X11_count : Cond.instanceMethod yX11_count ∈ zWL := zw8 (List.mem_of_getElem? (i := 82) rfl) rfl
set_option maxRecDepth 20000 in
theorem ml_X11_count : Cond.selects RX11 yX11_count yX11_count ∈ zWL := zw8 (List.mem_of_getElem? (i := 83) rfl) rfl
set_option maxRecDepth 20000 in
theorem wc_L_7 : Cond.classLink RL 7 RX10 ∈ zWL := zw1 (List.mem_of_getElem? (i := 22) rfl) rfl
set_option maxRecDepth 20000 in
theorem wi_X10 : Cond.instantiable RX10 14 ∈ zWL := zw1 (List.mem_of_getElem? (i := 23) rfl) rfl
set_option maxRecDepth 20000 in
theorem mn_L_9 : Cond.methodLink RL 9 yX10_init ∈ zWL ∨ ∃ host, Cond.methodLinkNest RL 9 yX10_init host ∈ tables_1 := Or.inl (zw1 (List.mem_of_getElem? (i := 24) rfl) rfl)
set_option maxRecDepth 20000 in
theorem mi_X10_init : Cond.instanceMethod yX10_init ∈ zWL := zw1 (List.mem_of_getElem? (i := 25) rfl) rfl
set_option maxRecDepth 20000 in
theorem mo_X10_1 : Cond.methodLink RX10 1 objectInit ∈ zWL := zw1 (List.mem_of_getElem? (i := 27) rfl) rfl
set_option maxRecDepth 20000 in
theorem mo_inst : Cond.instanceMethod objectInit ∈ zWL := zw1 (List.mem_of_getElem? (i := 28) rfl) rfl
set_option maxRecDepth 20000 in
theorem mo_code : Cond.code objectInit ⟨#[0xb1]⟩ 1 none ∈ zWL := zw1 (List.mem_of_getElem? (i := 29) rfl) rfl
set_option maxRecDepth 20000 in
theorem wc_X10_7 : Cond.classLink RX10 7 RX7 ∈ zWL := zw1 (List.mem_of_getElem? (i := 30) rfl) rfl
set_option maxRecDepth 20000 in
theorem wi_X7 : Cond.instantiable RX7 2 ∈ zWL := zw1 (List.mem_of_getElem? (i := 31) rfl) rfl
set_option maxRecDepth 20000 in
theorem mn_X10_9 : Cond.methodLink RX10 9 yX7_init ∈ zWL ∨ ∃ host, Cond.methodLinkNest RX10 9 yX7_init host ∈ tables_1 := Or.inr ⟨"SourceDispute", (zt1 (List.mem_of_getElem? (i := 32) rfl))⟩
set_option maxRecDepth 20000 in
theorem mi_X7_init : Cond.instanceMethod yX7_init ∈ zWL := zw1 (List.mem_of_getElem? (i := 33) rfl) rfl
set_option maxRecDepth 20000 in
theorem mo_X7_3 : Cond.methodLink RX7 3 objectInit ∈ zWL := zw1 (List.mem_of_getElem? (i := 35) rfl) rfl
set_option maxRecDepth 20000 in
theorem wa_byte : Cond.arrayClass .byte ∈ zWL := zw1 (List.mem_of_getElem? (i := 45) rfl) rfl
set_option maxRecDepth 20000 in
theorem wc_X10_16 : Cond.classLink RX10 16 RX3 ∈ zWL := zw1 (List.mem_of_getElem? (i := 46) rfl) rfl
set_option maxRecDepth 20000 in
theorem wi_X3 : Cond.instantiable RX3 12 ∈ zWL := zw1 (List.mem_of_getElem? (i := 47) rfl) rfl
set_option maxRecDepth 20000 in
theorem mn_X10_18 : Cond.methodLink RX10 18 yX3_init ∈ zWL ∨ ∃ host, Cond.methodLinkNest RX10 18 yX3_init host ∈ tables_1 := Or.inr ⟨"SourceDispute", (zt1 (List.mem_of_getElem? (i := 48) rfl))⟩
set_option maxRecDepth 20000 in
theorem mi_X3_init : Cond.instanceMethod yX3_init ∈ zWL := zw1 (List.mem_of_getElem? (i := 49) rfl) rfl
set_option maxRecDepth 20000 in
theorem mo_X3_3 : Cond.methodLink RX3 3 objectInit ∈ zWL := zw1 (List.mem_of_getElem? (i := 51) rfl) rfl
set_option maxRecDepth 20000 in
theorem wc_X3_9 : Cond.classLink RX3 9 RX8 ∈ zWL := zw1 (List.mem_of_getElem? (i := 52) rfl) rfl
set_option maxRecDepth 20000 in
theorem wi_X8 : Cond.instantiable RX8 5 ∈ zWL := zw1 (List.mem_of_getElem? (i := 53) rfl) rfl
set_option maxRecDepth 20000 in
theorem mn_X3_11 : Cond.methodLink RX3 11 yX8_init ∈ zWL ∨ ∃ host, Cond.methodLinkNest RX3 11 yX8_init host ∈ tables_1 := Or.inl (zw1 (List.mem_of_getElem? (i := 54) rfl) rfl)
set_option maxRecDepth 20000 in
theorem mi_X8_init : Cond.instanceMethod yX8_init ∈ zWL := zw1 (List.mem_of_getElem? (i := 55) rfl) rfl
set_option maxRecDepth 20000 in
theorem mo_X8_1 : Cond.methodLink RX8 1 objectInit ∈ zWL := zw1 (List.mem_of_getElem? (i := 57) rfl) rfl
set_option maxRecDepth 20000 in
theorem wa_long : Cond.arrayClass .long ∈ zWL := zw1 (List.mem_of_getElem? (i := 131) rfl) rfl
set_option maxRecDepth 20000 in
theorem wa_int : Cond.arrayClass .int ∈ zWL := zw1 (List.mem_of_getElem? (i := 132) rfl) rfl
set_option maxRecDepth 20000 in
theorem wc_X10_23 : Cond.classLink RX10 23 RX5 ∈ zWL := zw1 (List.mem_of_getElem? (i := 171) rfl) rfl
set_option maxRecDepth 20000 in
theorem wi_X5 : Cond.instantiable RX5 7 ∈ zWL := zw1 (List.mem_of_getElem? (i := 172) rfl) rfl
set_option maxRecDepth 20000 in
theorem mn_X10_25 : Cond.methodLink RX10 25 yX5_init ∈ zWL ∨ ∃ host, Cond.methodLinkNest RX10 25 yX5_init host ∈ tables_1 := Or.inr ⟨"SourceDispute", (zt1 (List.mem_of_getElem? (i := 173) rfl))⟩
set_option maxRecDepth 20000 in
theorem mi_X5_init : Cond.instanceMethod yX5_init ∈ zWL := zw1 (List.mem_of_getElem? (i := 174) rfl) rfl
set_option maxRecDepth 20000 in
theorem mo_X5_3 : Cond.methodLink RX5 3 objectInit ∈ zWL := zw1 (List.mem_of_getElem? (i := 176) rfl) rfl
set_option maxRecDepth 20000 in
theorem wc_X5_9 : Cond.classLink RX5 9 RX6 ∈ zWL := zw1 (List.mem_of_getElem? (i := 177) rfl) rfl
set_option maxRecDepth 20000 in
theorem wi_X6 : Cond.instantiable RX6 7 ∈ zWL := zw1 (List.mem_of_getElem? (i := 178) rfl) rfl
set_option maxRecDepth 20000 in
theorem mn_X5_11 : Cond.methodLink RX5 11 yX6_init ∈ zWL ∨ ∃ host, Cond.methodLinkNest RX5 11 yX6_init host ∈ tables_1 := Or.inr ⟨"SourceDispute", (zt1 (List.mem_of_getElem? (i := 179) rfl))⟩
set_option maxRecDepth 20000 in
theorem mi_X6_init : Cond.instanceMethod yX6_init ∈ zWL := zw1 (List.mem_of_getElem? (i := 180) rfl) rfl
set_option maxRecDepth 20000 in
theorem mo_X6_3 : Cond.methodLink RX6 3 objectInit ∈ zWL := zw1 (List.mem_of_getElem? (i := 182) rfl) rfl
set_option maxRecDepth 20000 in
theorem wc_X5_18 : Cond.classLink RX5 18 RX0 ∈ zWL := zw1 (List.mem_of_getElem? (i := 214) rfl) rfl
set_option maxRecDepth 20000 in
theorem wi_X0 : Cond.instantiable RX0 2 ∈ zWL := zw1 (List.mem_of_getElem? (i := 215) rfl) rfl
set_option maxRecDepth 20000 in
theorem mn_X5_20 : Cond.methodLink RX5 20 yX0_init ∈ zWL ∨ ∃ host, Cond.methodLinkNest RX5 20 yX0_init host ∈ tables_1 := Or.inr ⟨"SourceDispute", (zt1 (List.mem_of_getElem? (i := 216) rfl))⟩
set_option maxRecDepth 20000 in
theorem mi_X0_init : Cond.instanceMethod yX0_init ∈ zWL := zw1 (List.mem_of_getElem? (i := 217) rfl) rfl
set_option maxRecDepth 20000 in
theorem mo_X0_1 : Cond.methodLink RX0 1 objectInit ∈ zWL := zw1 (List.mem_of_getElem? (i := 219) rfl) rfl
set_option maxRecDepth 20000 in
theorem wc_X10_35 : Cond.classLink RX10 35 RX4 ∈ zWL := zw2 (List.mem_of_getElem? (i := 14) rfl) rfl
set_option maxRecDepth 20000 in
theorem wi_X4 : Cond.instantiable RX4 3 ∈ zWL := zw2 (List.mem_of_getElem? (i := 15) rfl) rfl
set_option maxRecDepth 20000 in
theorem mn_X10_37 : Cond.methodLink RX10 37 yX4_init ∈ zWL ∨ ∃ host, Cond.methodLinkNest RX10 37 yX4_init host ∈ tables_1 := Or.inl (zw2 (List.mem_of_getElem? (i := 16) rfl) rfl)
set_option maxRecDepth 20000 in
theorem mi_X4_init : Cond.instanceMethod yX4_init ∈ zWL := zw2 (List.mem_of_getElem? (i := 17) rfl) rfl
set_option maxRecDepth 20000 in
theorem mo_X4_1 : Cond.methodLink RX4 1 objectInit ∈ zWL := zw2 (List.mem_of_getElem? (i := 19) rfl) rfl
set_option maxRecDepth 20000 in
theorem wc_X4_9 : Cond.classLink RX4 9 RX1 ∈ zWL := zw2 (List.mem_of_getElem? (i := 20) rfl) rfl
set_option maxRecDepth 20000 in
theorem wi_X1 : Cond.instantiable RX1 6 ∈ zWL := zw2 (List.mem_of_getElem? (i := 22) rfl) rfl
set_option maxRecDepth 20000 in
theorem mn_X4_22 : Cond.methodLink RX4 22 yX1_init ∈ zWL ∨ ∃ host, Cond.methodLinkNest RX4 22 yX1_init host ∈ tables_1 := Or.inr ⟨"SourceDispute", (zt2 (List.mem_of_getElem? (i := 23) rfl))⟩
set_option maxRecDepth 20000 in
theorem mi_X1_init : Cond.instanceMethod yX1_init ∈ zWL := zw2 (List.mem_of_getElem? (i := 24) rfl) rfl
set_option maxRecDepth 20000 in
theorem mo_X1_3 : Cond.methodLink RX1 3 objectInit ∈ zWL := zw2 (List.mem_of_getElem? (i := 26) rfl) rfl
set_option maxRecDepth 20000 in
theorem wc_X10_42 : Cond.classLink RX10 42 RX2 ∈ zWL := zw2 (List.mem_of_getElem? (i := 69) rfl) rfl
set_option maxRecDepth 20000 in
theorem wi_X2 : Cond.instantiable RX2 5 ∈ zWL := zw2 (List.mem_of_getElem? (i := 70) rfl) rfl
set_option maxRecDepth 20000 in
theorem mn_X10_44 : Cond.methodLink RX10 44 yX2_init ∈ zWL ∨ ∃ host, Cond.methodLinkNest RX10 44 yX2_init host ∈ tables_1 := Or.inr ⟨"SourceDispute", (zt2 (List.mem_of_getElem? (i := 71) rfl))⟩
set_option maxRecDepth 20000 in
theorem mi_X2_init : Cond.instanceMethod yX2_init ∈ zWL := zw2 (List.mem_of_getElem? (i := 72) rfl) rfl
set_option maxRecDepth 20000 in
theorem mo_X2_3 : Cond.methodLink RX2 3 objectInit ∈ zWL := zw2 (List.mem_of_getElem? (i := 74) rfl) rfl
set_option maxRecDepth 20000 in
theorem wa_boolean : Cond.arrayClass .boolean ∈ zWL := zw2 (List.mem_of_getElem? (i := 92) rfl) rfl
set_option maxRecDepth 20000 in
theorem wc_X10_49 : Cond.classLink RX10 49 RX1 ∈ zWL := zw2 (List.mem_of_getElem? (i := 93) rfl) rfl
set_option maxRecDepth 20000 in
theorem mn_X10_51 : Cond.methodLink RX10 51 yX1_init ∈ zWL ∨ ∃ host, Cond.methodLinkNest RX10 51 yX1_init host ∈ tables_1 := Or.inr ⟨"SourceDispute", (zt2 (List.mem_of_getElem? (i := 94) rfl))⟩
set_option maxRecDepth 20000 in
theorem wc_X10_67 : Cond.classLink RX10 67 RX9 ∈ zWL := zw2 (List.mem_of_getElem? (i := 95) rfl) rfl
set_option maxRecDepth 20000 in
theorem wi_X9 : Cond.instantiable RX9 14 ∈ zWL := zw2 (List.mem_of_getElem? (i := 96) rfl) rfl
set_option maxRecDepth 20000 in
theorem mn_X10_69 : Cond.methodLink RX10 69 yX9_init ∈ zWL ∨ ∃ host, Cond.methodLinkNest RX10 69 yX9_init host ∈ tables_1 := Or.inl (zw2 (List.mem_of_getElem? (i := 97) rfl) rfl)
set_option maxRecDepth 20000 in
theorem mi_X9_init : Cond.instanceMethod yX9_init ∈ zWL := zw2 (List.mem_of_getElem? (i := 98) rfl) rfl
set_option maxRecDepth 20000 in
theorem mo_X9_3 : Cond.methodLink RX9 3 objectInit ∈ zWL := zw2 (List.mem_of_getElem? (i := 100) rfl) rfl
set_option maxRecDepth 20000 in
theorem wc_L_10 : Cond.classLink RL 10 RX11 ∈ zWL := zw5 (List.mem_of_getElem? (i := 146) rfl) rfl
set_option maxRecDepth 20000 in
theorem wi_X11 : Cond.instantiable RX11 69 ∈ zWL := zw5 (List.mem_of_getElem? (i := 147) rfl) rfl
set_option maxRecDepth 20000 in
theorem mn_L_12 : Cond.methodLink RL 12 yX11_init ∈ zWL ∨ ∃ host, Cond.methodLinkNest RL 12 yX11_init host ∈ tables_1 := Or.inl (zw5 (List.mem_of_getElem? (i := 148) rfl) rfl)
set_option maxRecDepth 20000 in
theorem mi_X11_init : Cond.instanceMethod yX11_init ∈ zWL := zw5 (List.mem_of_getElem? (i := 149) rfl) rfl
set_option maxRecDepth 20000 in
theorem mo_X11_7 : Cond.methodLink RX11 7 objectInit ∈ zWL := zw5 (List.mem_of_getElem? (i := 151) rfl) rfl
set_option maxRecDepth 20000 in
theorem zs_J0_38 : Cond.fieldLink RJ0 38 "java/lang/String" "COMPACT_STRINGS" "Z" ∈ zWL := zw1 (List.mem_of_getElem? (i := 67) rfl) rfl
set_option maxRecDepth 20000 in
theorem zs_J0_1053 : Cond.fieldLink RJ0 1053 "jdk/internal/util/Preconditions" "SIOOBE_FORMATTER" "Ljava/util/function/BiFunction;" ∈ zWL := zw1 (List.mem_of_getElem? (i := 83) rfl) rfl
set_option maxRecDepth 20000 in
theorem zs_J0_9 : Cond.fieldLink RJ0 9 "java/lang/String" "value" "[B" ∈ zWL := zw8 (List.mem_of_getElem? (i := 85) rfl) rfl
set_option maxRecDepth 20000 in
theorem zs_J0_15 : Cond.fieldLink RJ0 15 "java/lang/String" "coder" "B" ∈ zWL := zw8 (List.mem_of_getElem? (i := 86) rfl) rfl
set_option maxRecDepth 20000 in
theorem mc_J6_bitCount_0f7a4 : Cond.code yJ6_bitCount_0f7a4 cJ6_bitCount_0f7a4 1 (some .int) ∈ zWL := zw4 (List.mem_of_getElem? (i := 80) rfl) rfl
set_option maxRecDepth 20000 in
theorem ms_J6_bitCount_0f7a4 : Cond.static yJ6_bitCount_0f7a4 ∈ zWL := zw4 (List.mem_of_getElem? (i := 79) rfl) rfl
set_option maxRecDepth 20000 in
theorem mc_J0_length_8abf5 : Cond.code yJ0_length_8abf5 cJ0_length_8abf5 1 (some .int) ∈ zWL := zw1 (List.mem_of_getElem? (i := 62) rfl) rfl
set_option maxRecDepth 20000 in
theorem mi_J0_length_8abf5 : Cond.instanceMethod yJ0_length_8abf5 ∈ zWL := zw1 (List.mem_of_getElem? (i := 60) rfl) rfl
set_option maxRecDepth 20000 in
theorem ml_J0_length_8abf5 : Cond.selects RJ0 yJ0_length_8abf5 yJ0_length_8abf5 ∈ zWL := zw1 (List.mem_of_getElem? (i := 61) rfl) rfl
set_option maxRecDepth 20000 in
theorem mc_J0_charAt_5068e : Cond.code yJ0_charAt_5068e cJ0_charAt_5068e 2 (some .char) ∈ zWL := zw1 (List.mem_of_getElem? (i := 72) rfl) rfl
set_option maxRecDepth 20000 in
theorem mi_J0_charAt_5068e : Cond.instanceMethod yJ0_charAt_5068e ∈ zWL := zw1 (List.mem_of_getElem? (i := 70) rfl) rfl
set_option maxRecDepth 20000 in
theorem ml_J0_charAt_5068e : Cond.selects RJ0 yJ0_charAt_5068e yJ0_charAt_5068e ∈ zWL := zw1 (List.mem_of_getElem? (i := 71) rfl) rfl
set_option maxRecDepth 20000 in
theorem mc_J0_indexOf_0f7a4 : Cond.code yJ0_indexOf_0f7a4 cJ0_indexOf_0f7a4 2 (some .int) ∈ zWL := zw3 (List.mem_of_getElem? (i := 36) rfl) rfl
set_option maxRecDepth 20000 in
theorem mi_J0_indexOf_0f7a4 : Cond.instanceMethod yJ0_indexOf_0f7a4 ∈ zWL := zw3 (List.mem_of_getElem? (i := 34) rfl) rfl
set_option maxRecDepth 20000 in
theorem ml_J0_indexOf_0f7a4 : Cond.selects RJ0 yJ0_indexOf_0f7a4 yJ0_indexOf_0f7a4 ∈ zWL := zw3 (List.mem_of_getElem? (i := 35) rfl) rfl
set_option maxRecDepth 20000 in
theorem mc_J0_indexOf_7cf53 : Cond.code yJ0_indexOf_7cf53 cJ0_indexOf_7cf53 3 (some .int) ∈ zWL := zw3 (List.mem_of_getElem? (i := 40) rfl) rfl
set_option maxRecDepth 20000 in
theorem mi_J0_indexOf_7cf53 : Cond.instanceMethod yJ0_indexOf_7cf53 ∈ zWL := zw3 (List.mem_of_getElem? (i := 38) rfl) rfl
set_option maxRecDepth 20000 in
theorem ml_J0_indexOf_7cf53 : Cond.selects RJ0 yJ0_indexOf_7cf53 yJ0_indexOf_7cf53 ∈ zWL := zw3 (List.mem_of_getElem? (i := 39) rfl) rfl
set_option maxRecDepth 20000 in
theorem mc_J0_coder_7d493 : Cond.code yJ0_coder_7d493 cJ0_coder_7d493 1 (some .byte) ∈ zWL := zw1 (List.mem_of_getElem? (i := 66) rfl) rfl
set_option maxRecDepth 20000 in
theorem mi_J0_coder_7d493 : Cond.instanceMethod yJ0_coder_7d493 ∈ zWL := zw1 (List.mem_of_getElem? (i := 64) rfl) rfl
set_option maxRecDepth 20000 in
theorem ml_J0_coder_7d493 : Cond.selects RJ0 yJ0_coder_7d493 yJ0_coder_7d493 ∈ zWL := zw1 (List.mem_of_getElem? (i := 65) rfl) rfl
set_option maxRecDepth 20000 in
theorem mc_J0_isLatin1_aae02 : Cond.code yJ0_isLatin1_aae02 cJ0_isLatin1_aae02 1 (some .boolean) ∈ zWL := zw1 (List.mem_of_getElem? (i := 76) rfl) rfl
set_option maxRecDepth 20000 in
theorem mi_J0_isLatin1_aae02 : Cond.instanceMethod yJ0_isLatin1_aae02 ∈ zWL := zw1 (List.mem_of_getElem? (i := 74) rfl) rfl
set_option maxRecDepth 20000 in
theorem ml_J0_isLatin1_aae02 : Cond.selects RJ0 yJ0_isLatin1_aae02 yJ0_isLatin1_aae02 ∈ zWL := zw1 (List.mem_of_getElem? (i := 75) rfl) rfl
set_option maxRecDepth 20000 in
theorem mc_J0_checkIndex_df160 : Cond.code yJ0_checkIndex_df160 cJ0_checkIndex_df160 2 none ∈ zWL := zw1 (List.mem_of_getElem? (i := 82) rfl) rfl
set_option maxRecDepth 20000 in
theorem ms_J0_checkIndex_df160 : Cond.static yJ0_checkIndex_df160 ∈ zWL := zw1 (List.mem_of_getElem? (i := 81) rfl) rfl
set_option maxRecDepth 20000 in
theorem mc_J1_charAt_3b067 : Cond.code yJ1_charAt_3b067 cJ1_charAt_3b067 2 (some .char) ∈ zWL := zw1 (List.mem_of_getElem? (i := 79) rfl) rfl
set_option maxRecDepth 20000 in
theorem ms_J1_charAt_3b067 : Cond.static yJ1_charAt_3b067 ∈ zWL := zw1 (List.mem_of_getElem? (i := 78) rfl) rfl
set_option maxRecDepth 20000 in
theorem mc_J1_canEncode_9a6ad : Cond.code yJ1_canEncode_9a6ad cJ1_canEncode_9a6ad 1 (some .boolean) ∈ zWL := zw3 (List.mem_of_getElem? (i := 47) rfl) rfl
set_option maxRecDepth 20000 in
theorem ms_J1_canEncode_9a6ad : Cond.static yJ1_canEncode_9a6ad ∈ zWL := zw3 (List.mem_of_getElem? (i := 46) rfl) rfl
set_option maxRecDepth 20000 in
theorem mc_J1_indexOf_4cfef : Cond.code yJ1_indexOf_4cfef cJ1_indexOf_4cfef 4 (some .int) ∈ zWL := zw3 (List.mem_of_getElem? (i := 44) rfl) rfl
set_option maxRecDepth 20000 in
theorem ms_J1_indexOf_4cfef : Cond.static yJ1_indexOf_4cfef ∈ zWL := zw3 (List.mem_of_getElem? (i := 43) rfl) rfl
set_option maxRecDepth 20000 in
theorem mc_J1_indexOfChar_4cfef : Cond.code yJ1_indexOfChar_4cfef cJ1_indexOfChar_4cfef 6 (some .int) ∈ zWL := zw3 (List.mem_of_getElem? (i := 56) rfl) rfl
set_option maxRecDepth 20000 in
theorem ms_J1_indexOfChar_4cfef : Cond.static yJ1_indexOfChar_4cfef ∈ zWL := zw3 (List.mem_of_getElem? (i := 55) rfl) rfl
set_option maxRecDepth 20000 in
theorem mc_J7_fill_53178 : Cond.code yJ7_fill_53178 cJ7_fill_53178 4 none ∈ zWL := zw3 (List.mem_of_getElem? (i := 179) rfl) rfl
set_option maxRecDepth 20000 in
theorem ms_J7_fill_53178 : Cond.static yJ7_fill_53178 ∈ zWL := zw3 (List.mem_of_getElem? (i := 178) rfl) rfl
set_option maxRecDepth 20000 in
theorem mc_J3_checkIndex_8e157 : Cond.code yJ3_checkIndex_8e157 cJ3_checkIndex_8e157 3 (some .int) ∈ zWL := zw1 (List.mem_of_getElem? (i := 87) rfl) rfl
set_option maxRecDepth 20000 in
theorem ms_J3_checkIndex_8e157 : Cond.static yJ3_checkIndex_8e157 ∈ zWL := zw1 (List.mem_of_getElem? (i := 86) rfl) rfl
set_option maxRecDepth 20000 in
theorem mz_J6 : Cond.initialized RJ6 ∈ zWL := zw1 (List.mem_of_getElem? (i := 21) rfl) rfl
theorem md_J6 : RJ6 ≠ "java/lang/invoke/MethodHandle" ∧ RJ6 ≠ "java/lang/invoke/VarHandle" := ⟨by decide +kernel, by decide +kernel⟩
set_option maxRecDepth 20000 in
theorem mz_J0 : Cond.initialized RJ0 ∈ zWL := zw1 (List.mem_of_getElem? (i := 5) rfl) rfl
theorem md_J0 : RJ0 ≠ "java/lang/invoke/MethodHandle" ∧ RJ0 ≠ "java/lang/invoke/VarHandle" := ⟨by decide +kernel, by decide +kernel⟩
set_option maxRecDepth 20000 in
theorem mz_J1 : Cond.initialized RJ1 ∈ zWL := zw1 (List.mem_of_getElem? (i := 6) rfl) rfl
theorem md_J1 : RJ1 ≠ "java/lang/invoke/MethodHandle" ∧ RJ1 ≠ "java/lang/invoke/VarHandle" := ⟨by decide +kernel, by decide +kernel⟩
set_option maxRecDepth 20000 in
theorem mz_J7 : Cond.initialized RJ7 ∈ zWL := zw1 (List.mem_of_getElem? (i := 20) rfl) rfl
theorem md_J7 : RJ7 ≠ "java/lang/invoke/MethodHandle" ∧ RJ7 ≠ "java/lang/invoke/VarHandle" := ⟨by decide +kernel, by decide +kernel⟩
set_option maxRecDepth 20000 in
theorem mz_J3 : Cond.initialized RJ3 ∈ zWL := zw1 (List.mem_of_getElem? (i := 7) rfl) rfl
theorem md_J3 : RJ3 ≠ "java/lang/invoke/MethodHandle" ∧ RJ3 ≠ "java/lang/invoke/VarHandle" := ⟨by decide +kernel, by decide +kernel⟩
set_option maxRecDepth 20000 in
theorem mk_X8_29 : Cond.methodLink RX8 29 yJ0_length_8abf5 ∈ zWL := zw1 (List.mem_of_getElem? (i := 59) rfl) rfl
set_option maxRecDepth 20000 in
theorem mk_J0_335 : Cond.methodLink RJ0 335 yJ0_coder_7d493 ∈ zWL := zw1 (List.mem_of_getElem? (i := 63) rfl) rfl
set_option maxRecDepth 20000 in
theorem mk_X8_35 : Cond.methodLink RX8 35 yJ0_charAt_5068e ∈ zWL := zw1 (List.mem_of_getElem? (i := 69) rfl) rfl
set_option maxRecDepth 20000 in
theorem mk_J0_492 : Cond.methodLink RJ0 492 yJ0_isLatin1_aae02 ∈ zWL := zw1 (List.mem_of_getElem? (i := 73) rfl) rfl
set_option maxRecDepth 20000 in
theorem mk_J0_495 : Cond.methodLink RJ0 495 yJ1_charAt_3b067 ∈ zWL := zw1 (List.mem_of_getElem? (i := 77) rfl) rfl
set_option maxRecDepth 20000 in
theorem mk_J1_9 : Cond.methodLink RJ1 9 yJ0_checkIndex_df160 ∈ zWL := zw1 (List.mem_of_getElem? (i := 80) rfl) rfl
set_option maxRecDepth 20000 in
theorem mk_J0_1059 : Cond.methodLink RJ0 1059 yJ3_checkIndex_8e157 ∈ zWL := zw1 (List.mem_of_getElem? (i := 85) rfl) rfl
set_option maxRecDepth 20000 in
theorem mk_X8_68 : Cond.methodLink RX8 68 yJ0_indexOf_0f7a4 ∈ zWL := zw3 (List.mem_of_getElem? (i := 33) rfl) rfl
set_option maxRecDepth 20000 in
theorem mk_J0_633 : Cond.methodLink RJ0 633 yJ0_indexOf_7cf53 ∈ zWL := zw3 (List.mem_of_getElem? (i := 37) rfl) rfl
set_option maxRecDepth 20000 in
theorem mk_J0_505 : Cond.methodLink RJ0 505 yJ0_length_8abf5 ∈ zWL := zw3 (List.mem_of_getElem? (i := 41) rfl) rfl
set_option maxRecDepth 20000 in
theorem mk_J0_637 : Cond.methodLink RJ0 637 yJ1_indexOf_4cfef ∈ zWL := zw3 (List.mem_of_getElem? (i := 42) rfl) rfl
set_option maxRecDepth 20000 in
theorem mk_J1_88 : Cond.methodLink RJ1 88 yJ1_canEncode_9a6ad ∈ zWL := zw3 (List.mem_of_getElem? (i := 45) rfl) rfl
set_option maxRecDepth 20000 in
theorem mk_J1_95 : Cond.methodLink RJ1 95 yJ1_indexOfChar_4cfef ∈ zWL := zw3 (List.mem_of_getElem? (i := 54) rfl) rfl
set_option maxRecDepth 20000 in
theorem mk_X1_40 : Cond.methodLink RX1 40 yJ7_fill_53178 ∈ zWL := zw3 (List.mem_of_getElem? (i := 177) rfl) rfl
set_option maxRecDepth 20000 in
theorem mk_X6_57 : Cond.methodLink RX6 57 yJ7_fill_53178 ∈ zWL := zw3 (List.mem_of_getElem? (i := 217) rfl) rfl
set_option maxRecDepth 20000 in
theorem mk_X10_198 : Cond.methodLink RX10 198 yJ6_bitCount_0f7a4 ∈ zWL := zw4 (List.mem_of_getElem? (i := 78) rfl) rfl
set_option maxRecDepth 20000 in
theorem mk_X10_302 : Cond.methodLink RX10 302 yJ7_fill_53178 ∈ zWL := zw5 (List.mem_of_getElem? (i := 31) rfl) rfl
set_option maxRecDepth 20000 in
theorem mk_X6_73 : Cond.methodLink RX6 73 yJ6_bitCount_0f7a4 ∈ zWL := zw5 (List.mem_of_getElem? (i := 68) rfl) rfl
set_option maxRecDepth 20000 in
theorem wk_J6_265 : Cond.constant RJ6 265 (1431655765) ∈ zWL := zw4 (List.mem_of_getElem? (i := 81) rfl) rfl
set_option maxRecDepth 20000 in
theorem wk_J6_266 : Cond.constant RJ6 266 (858993459) ∈ zWL := zw4 (List.mem_of_getElem? (i := 82) rfl) rfl
set_option maxRecDepth 20000 in
theorem wk_J6_267 : Cond.constant RJ6 267 (252645135) ∈ zWL := zw4 (List.mem_of_getElem? (i := 83) rfl) rfl
set_option maxRecDepth 20000 in
theorem zk_unt : Cond.fieldLink RX9 47 "SourceDispute$Told" "UNTOLD_LAWS" "[I" ∈ zWL := zw2 (List.mem_of_getElem? (i := 105) rfl) rfl
set_option maxRecDepth 20000 in
theorem wj_X10_262 : Cond.methodLink RX10 262 Lib.Math.min.name ∈ zWL ∧ Cond.static Lib.Math.min.name ∈ zWL ∧ Cond.initialized "java/lang/Math" ∈ zWL ∧ Cond.code Lib.Math.min.name Lib.Math.min.code 2 (some .int) ∈ zWL := ⟨zw4 (List.mem_of_getElem? (i := 1) rfl) rfl, zw3 (List.mem_of_getElem? (i := 52) rfl) rfl, zw1 (List.mem_of_getElem? (i := 17) rfl) rfl, zw3 (List.mem_of_getElem? (i := 53) rfl) rfl⟩
set_option maxRecDepth 20000 in
theorem wj_X10_333 : Cond.methodLink RX10 333 Lib.Math.max.name ∈ zWL ∧ Cond.static Lib.Math.max.name ∈ zWL ∧ Cond.initialized "java/lang/Math" ∈ zWL ∧ Cond.code Lib.Math.max.name Lib.Math.max.code 2 (some .int) ∈ zWL := ⟨zw4 (List.mem_of_getElem? (i := 2) rfl) rfl, zw3 (List.mem_of_getElem? (i := 49) rfl) rfl, zw1 (List.mem_of_getElem? (i := 17) rfl) rfl, zw3 (List.mem_of_getElem? (i := 50) rfl) rfl⟩
set_option maxRecDepth 20000 in
theorem wj_X1_34 : Cond.methodLink RX1 34 arraycopyName ∈ zWL ∧ Cond.native arraycopyName ∈ zWL ∧ Cond.static arraycopyName ∈ zWL ∧ Cond.initialized "java/lang/System" ∈ zWL := ⟨zw3 (List.mem_of_getElem? (i := 174) rfl) rfl, zw3 (List.mem_of_getElem? (i := 176) rfl) rfl, zw3 (List.mem_of_getElem? (i := 175) rfl) rfl, zw1 (List.mem_of_getElem? (i := 19) rfl) rfl⟩
set_option maxRecDepth 20000 in
theorem wj_X1_46 : Cond.methodLink RX1 46 Lib.Math.min.name ∈ zWL ∧ Cond.static Lib.Math.min.name ∈ zWL ∧ Cond.initialized "java/lang/Math" ∈ zWL ∧ Cond.code Lib.Math.min.name Lib.Math.min.code 2 (some .int) ∈ zWL := ⟨zw4 (List.mem_of_getElem? (i := 152) rfl) rfl, zw3 (List.mem_of_getElem? (i := 52) rfl) rfl, zw1 (List.mem_of_getElem? (i := 17) rfl) rfl, zw3 (List.mem_of_getElem? (i := 53) rfl) rfl⟩
set_option maxRecDepth 20000 in
theorem wj_X3_132 : Cond.methodLink RX3 132 Lib.Math.max.name ∈ zWL ∧ Cond.static Lib.Math.max.name ∈ zWL ∧ Cond.initialized "java/lang/Math" ∈ zWL ∧ Cond.code Lib.Math.max.name Lib.Math.max.code 2 (some .int) ∈ zWL := ⟨zw3 (List.mem_of_getElem? (i := 137) rfl) rfl, zw3 (List.mem_of_getElem? (i := 49) rfl) rfl, zw1 (List.mem_of_getElem? (i := 17) rfl) rfl, zw3 (List.mem_of_getElem? (i := 50) rfl) rfl⟩
set_option maxRecDepth 20000 in
theorem wj_X4_27 : Cond.methodLink RX4 27 Lib.Math.min.name ∈ zWL ∧ Cond.static Lib.Math.min.name ∈ zWL ∧ Cond.initialized "java/lang/Math" ∈ zWL ∧ Cond.code Lib.Math.min.name Lib.Math.min.code 2 (some .int) ∈ zWL := ⟨zw4 (List.mem_of_getElem? (i := 117) rfl) rfl, zw3 (List.mem_of_getElem? (i := 52) rfl) rfl, zw1 (List.mem_of_getElem? (i := 17) rfl) rfl, zw3 (List.mem_of_getElem? (i := 53) rfl) rfl⟩
set_option maxRecDepth 20000 in
theorem wj_X5_76 : Cond.methodLink RX5 76 arraycopyName ∈ zWL ∧ Cond.native arraycopyName ∈ zWL ∧ Cond.static arraycopyName ∈ zWL ∧ Cond.initialized "java/lang/System" ∈ zWL := ⟨zw4 (List.mem_of_getElem? (i := 7) rfl) rfl, zw3 (List.mem_of_getElem? (i := 176) rfl) rfl, zw3 (List.mem_of_getElem? (i := 175) rfl) rfl, zw1 (List.mem_of_getElem? (i := 19) rfl) rfl⟩
set_option maxRecDepth 20000 in
theorem wj_X6_38 : Cond.methodLink RX6 38 arraycopyName ∈ zWL ∧ Cond.native arraycopyName ∈ zWL ∧ Cond.static arraycopyName ∈ zWL ∧ Cond.initialized "java/lang/System" ∈ zWL := ⟨zw3 (List.mem_of_getElem? (i := 209) rfl) rfl, zw3 (List.mem_of_getElem? (i := 176) rfl) rfl, zw3 (List.mem_of_getElem? (i := 175) rfl) rfl, zw1 (List.mem_of_getElem? (i := 19) rfl) rfl⟩
set_option maxRecDepth 20000 in
theorem wj_X6_67 : Cond.methodLink RX6 67 Lib.Math.max.name ∈ zWL ∧ Cond.static Lib.Math.max.name ∈ zWL ∧ Cond.initialized "java/lang/Math" ∈ zWL ∧ Cond.code Lib.Math.max.name Lib.Math.max.code 2 (some .int) ∈ zWL := ⟨zw4 (List.mem_of_getElem? (i := 104) rfl) rfl, zw3 (List.mem_of_getElem? (i := 49) rfl) rfl, zw1 (List.mem_of_getElem? (i := 17) rfl) rfl, zw3 (List.mem_of_getElem? (i := 50) rfl) rfl⟩
set_option maxRecDepth 20000 in
theorem wj_X9_76 : Cond.methodLink RX9 76 Lib.Math.max.name ∈ zWL ∧ Cond.static Lib.Math.max.name ∈ zWL ∧ Cond.initialized "java/lang/Math" ∈ zWL ∧ Cond.code Lib.Math.max.name Lib.Math.max.code 2 (some .int) ∈ zWL := ⟨zw4 (List.mem_of_getElem? (i := 95) rfl) rfl, zw3 (List.mem_of_getElem? (i := 49) rfl) rfl, zw1 (List.mem_of_getElem? (i := 17) rfl) rfl, zw3 (List.mem_of_getElem? (i := 50) rfl) rfl⟩
set_option maxRecDepth 20000 in
theorem wj_J1_38 : Cond.methodLink RJ1 38 Lib.Math.min.name ∈ zWL ∧ Cond.static Lib.Math.min.name ∈ zWL ∧ Cond.initialized "java/lang/Math" ∈ zWL ∧ Cond.code Lib.Math.min.name Lib.Math.min.code 2 (some .int) ∈ zWL := ⟨zw3 (List.mem_of_getElem? (i := 51) rfl) rfl, zw3 (List.mem_of_getElem? (i := 52) rfl) rfl, zw1 (List.mem_of_getElem? (i := 17) rfl) rfl, zw3 (List.mem_of_getElem? (i := 53) rfl) rfl⟩
set_option maxRecDepth 20000 in
theorem wj_J1_92 : Cond.methodLink RJ1 92 Lib.Math.max.name ∈ zWL ∧ Cond.static Lib.Math.max.name ∈ zWL ∧ Cond.initialized "java/lang/Math" ∈ zWL ∧ Cond.code Lib.Math.max.name Lib.Math.max.code 2 (some .int) ∈ zWL := ⟨zw3 (List.mem_of_getElem? (i := 48) rfl) rfl, zw3 (List.mem_of_getElem? (i := 49) rfl) rfl, zw1 (List.mem_of_getElem? (i := 17) rfl) rfl, zw3 (List.mem_of_getElem? (i := 50) rfl) rfl⟩
set_option maxRecDepth 20000 in
theorem wk_X8_43 : Cond.constantLong RX8 43 (32) ∈ zWL := zw1 (List.mem_of_getElem? (i := 110) rfl) rfl
set_option maxRecDepth 20000 in
theorem wk_X5_125 : Cond.constant RX5 125 (99999) ∈ zWL := zw4 (List.mem_of_getElem? (i := 38) rfl) rfl
set_option maxRecDepth 20000 in
theorem wk_X9_81 : Cond.constant RX9 81 (1103515245) ∈ zWL := zw4 (List.mem_of_getElem? (i := 94) rfl) rfl
set_option maxRecDepth 20000 in
theorem wk_X11_178 : Cond.constantLong RX11 178 (27) ∈ zWL := zw5 (List.mem_of_getElem? (i := 162) rfl) rfl
set_option maxRecDepth 20000 in
theorem wk_X11_366 : Cond.constant RX11 366 (99999) ∈ zWL := zw7 (List.mem_of_getElem? (i := 84) rfl) rfl
set_option maxRecDepth 20000 in
theorem wk_X11_335 : Cond.constant RX11 335 (1103515245) ∈ zWL := zw7 (List.mem_of_getElem? (i := 139) rfl) rfl
set_option maxRecDepth 20000 in
theorem mz_X0 : Cond.initialized RX0 ∈ zWL := zw1 (List.mem_of_getElem? (i := 11) rfl) rfl
theorem md_X0 : RX0 ≠ "java/lang/invoke/MethodHandle" ∧ RX0 ≠ "java/lang/invoke/VarHandle" := ⟨by decide +kernel, by decide +kernel⟩
set_option maxRecDepth 20000 in
theorem mz_X1 : Cond.initialized RX1 ∈ zWL := zw1 (List.mem_of_getElem? (i := 13) rfl) rfl
theorem md_X1 : RX1 ≠ "java/lang/invoke/MethodHandle" ∧ RX1 ≠ "java/lang/invoke/VarHandle" := ⟨by decide +kernel, by decide +kernel⟩
set_option maxRecDepth 20000 in
theorem mz_X2 : Cond.initialized RX2 ∈ zWL := zw1 (List.mem_of_getElem? (i := 14) rfl) rfl
theorem md_X2 : RX2 ≠ "java/lang/invoke/MethodHandle" ∧ RX2 ≠ "java/lang/invoke/VarHandle" := ⟨by decide +kernel, by decide +kernel⟩
set_option maxRecDepth 20000 in
theorem mz_X3 : Cond.initialized RX3 ∈ zWL := zw1 (List.mem_of_getElem? (i := 3) rfl) rfl
theorem md_X3 : RX3 ≠ "java/lang/invoke/MethodHandle" ∧ RX3 ≠ "java/lang/invoke/VarHandle" := ⟨by decide +kernel, by decide +kernel⟩
set_option maxRecDepth 20000 in
theorem mz_X4 : Cond.initialized RX4 ∈ zWL := zw1 (List.mem_of_getElem? (i := 12) rfl) rfl
theorem md_X4 : RX4 ≠ "java/lang/invoke/MethodHandle" ∧ RX4 ≠ "java/lang/invoke/VarHandle" := ⟨by decide +kernel, by decide +kernel⟩
set_option maxRecDepth 20000 in
theorem mz_X5 : Cond.initialized RX5 ∈ zWL := zw1 (List.mem_of_getElem? (i := 9) rfl) rfl
theorem md_X5 : RX5 ≠ "java/lang/invoke/MethodHandle" ∧ RX5 ≠ "java/lang/invoke/VarHandle" := ⟨by decide +kernel, by decide +kernel⟩
set_option maxRecDepth 20000 in
theorem mz_X6 : Cond.initialized RX6 ∈ zWL := zw1 (List.mem_of_getElem? (i := 10) rfl) rfl
theorem md_X6 : RX6 ≠ "java/lang/invoke/MethodHandle" ∧ RX6 ≠ "java/lang/invoke/VarHandle" := ⟨by decide +kernel, by decide +kernel⟩
set_option maxRecDepth 20000 in
theorem mz_X7 : Cond.initialized RX7 ∈ zWL := zw1 (List.mem_of_getElem? (i := 2) rfl) rfl
theorem md_X7 : RX7 ≠ "java/lang/invoke/MethodHandle" ∧ RX7 ≠ "java/lang/invoke/VarHandle" := ⟨by decide +kernel, by decide +kernel⟩
set_option maxRecDepth 20000 in
theorem mz_X8 : Cond.initialized RX8 ∈ zWL := zw1 (List.mem_of_getElem? (i := 4) rfl) rfl
theorem md_X8 : RX8 ≠ "java/lang/invoke/MethodHandle" ∧ RX8 ≠ "java/lang/invoke/VarHandle" := ⟨by decide +kernel, by decide +kernel⟩
set_option maxRecDepth 20000 in
theorem mz_X9 : Cond.initialized RX9 ∈ zWL := zw1 (List.mem_of_getElem? (i := 15) rfl) rfl
theorem md_X9 : RX9 ≠ "java/lang/invoke/MethodHandle" ∧ RX9 ≠ "java/lang/invoke/VarHandle" := ⟨by decide +kernel, by decide +kernel⟩
set_option maxRecDepth 20000 in
theorem mz_X10 : Cond.initialized RX10 ∈ zWL := zw1 (List.mem_of_getElem? (i := 1) rfl) rfl
theorem md_X10 : RX10 ≠ "java/lang/invoke/MethodHandle" ∧ RX10 ≠ "java/lang/invoke/VarHandle" := ⟨by decide +kernel, by decide +kernel⟩
set_option maxRecDepth 20000 in
theorem mz_X11 : Cond.initialized RX11 ∈ zWL := zw1 (List.mem_of_getElem? (i := 16) rfl) rfl
theorem md_X11 : RX11 ≠ "java/lang/invoke/MethodHandle" ∧ RX11 ≠ "java/lang/invoke/VarHandle" := ⟨by decide +kernel, by decide +kernel⟩
end
