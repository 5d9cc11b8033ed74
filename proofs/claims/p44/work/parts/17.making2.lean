section ZNEW2
variable {rs : va_W} {cs sl : Nat} {d : zD2} {L ks : List Nat} {kd : Nat → Nat} {A : Nat → Prop} {nL : Nat} {p : Program} {l : Launch} {e : Env} {R : Room} {s : State} {m : MethodId} {args : Array Value} {below : List Frame} {meth : Method} {c : Code} {cc : ByteArray} {own : String} {Q : State → Prop} {σ : zS} {pc : Nat} {lv : List (Nat × Value)} {st : List Value}
/-- a new array of whole numbers (bytes, booleans) -/
theorem zc_newi (X : zX d L kd A nL p s m args c cc own) {atype : ArrayType} {n : Int32} (k b i : Nat) {ty : FieldType} (hk : zK ks L kd σ) (harr : Cond.arrayClass ty ∈ zWL) (hty : newarray.typeOf atype = ty) (hb : zb k = b) (hb2 : b = 12 ∨ b = 13 ∨ b = 15) (hi : (zty d.2.2)[i]? = some (d.2.2 b, ty)) (hdef : defaultValue ty = .int 0) (hn : n.toInt = zn k) (hby : zn k * componentBytes ty ≤ 536870912) (hr : ∀ j, (zr 0 k j).1 ≤ 0 ∧ 0 ≤ (zr 0 k j).2) (hf : ∀ j, zf 0 k j = none) (h11 : k ≠ 11) (hs : (ks.filter zsole).all (fun q => !([k].contains q)) = true) (hwk : zwk ((ks ++ [k]).contains 8) (ks.contains 8) ([k].contains 8) ks [k] = true) (hroom : cs + 1 ≤ R.cells ∧ sl + zn k ≤ R.slots) (hdg : decode cc pc = .ok (.newarray atype, 2))
    (kk : ∀ (q : Nat) (L2 : List Nat) (kd2 : Nat → Nat) (σ2 : zS), zExt L kd σ L2 kd2 σ2 → zT L2 kd2 q k → zrt L2 σ2 q ∧ q ∉ L → zK (ks ++ [k]) L2 kd2 σ2 → zGc rs (cs + 1) (sl + zn k) d L2 kd2 A nL p l e R s m args below meth c Q σ2 (pc + 2) lv (.ref q :: st)) : zGc rs cs sl d L kd A nL p l e R s m args below meth c Q σ pc lv (.int n :: st) := by
  intro hz H locs ls hP hD hS hl
  subst hty
  have hnn : ¬ n < 0 := fun h => by
    have h2 := Int32.lt_iff_toInt_lt.mp h
    rw [hn, show (0 : Int32).toInt = 0 from rfl] at h2
    omega
  have hnc : n.toNatClampNeg = zn k := by
    show n.toInt.toNat = zn k
    rw [hn]
    rfl
  refine va_newa (a0 := (zn k, .inl (fun _ => 0))) X.1 X.2.1 (X.2.2.2.2.1 _ harr) rfl X.2.2.2.2.2.1 hP hD hS X.2.2.2.2.2.2.2.2.1 (fun cA => by rw [hdef]; rfl) hnn hnc hby hroom.1 hroom.2 hdg (fun q cA H1 hK1 hP1 hD1 hS1 => ?_)
  have hc : cA = d.2.2 b := zRA_eq X.2.2.2.2.2.1 hK1 hi
  subst hc
  have hw : zW d.2.2 [q] (fun _ => k) zS0 = [(q, .inl (d.2.2 b, zn k, .inl (fun _ => 0)))] := by
    show [(q, zE d.2.2 k (fun _ => 0) (fun _ => 0) (fun _ => none))] = _
    rw [zE_i hb hb2]
  rw [← hw] at hP1 hD1
  obtain ⟨L3, kd3, σ3, e1, e2, k3, nn, hP3, hD3⟩ := zc_join hk (zK.one (q := q) hr hf h11 (zb12 hb (by omega))) hs hwk hP1 hD1
  exact kk q L3 kd3 σ3 e1 (e2.t ⟨List.mem_cons_self, rfl⟩) ⟨e2.2 q List.mem_cons_self (fun _ _ _ e => by cases e), nn q List.mem_cons_self⟩ k3 hroom H1 locs ls hP3 hD3 hS1 hl
theorem zc_newl (X : zX d L kd A nL p s m args c cc own) {atype : ArrayType} {n : Int32} (k : Nat) (hk : zK ks L kd σ) (harr : Cond.arrayClass .long ∈ zWL) (hty : newarray.typeOf atype = .long) (hb : zb k = 14) (hn : n.toInt = zn k) (hby : zn k * componentBytes .long ≤ 536870912) (hr : ∀ j, (zr 0 k j).1 ≤ 0 ∧ 0 ≤ (zr 0 k j).2) (hf : ∀ j, zf 0 k j = none) (h11 : k ≠ 11) (hs : (ks.filter zsole).all (fun q => !([k].contains q)) = true) (hwk : zwk ((ks ++ [k]).contains 8) (ks.contains 8) ([k].contains 8) ks [k] = true) (hroom : cs + 1 ≤ R.cells ∧ sl + zn k ≤ R.slots) (hdg : decode cc pc = .ok (.newarray atype, 2))
    (kk : ∀ (q : Nat) (L2 : List Nat) (kd2 : Nat → Nat) (σ2 : zS), zExt L kd σ L2 kd2 σ2 → zT L2 kd2 q k → zrt L2 σ2 q ∧ q ∉ L → (∀ j, σ2.2.1 q j = 0) → zK (ks ++ [k]) L2 kd2 σ2 → zGc rs (cs + 1) (sl + zn k) d L2 kd2 A nL p l e R s m args below meth c Q σ2 (pc + 2) lv (.ref q :: st)) : zGc rs cs sl d L kd A nL p l e R s m args below meth c Q σ pc lv (.int n :: st) := by
  intro hz H locs ls hP hD hS hl
  have hnn : ¬ n < 0 := fun h => by
    have h2 := Int32.lt_iff_toInt_lt.mp h
    rw [hn, show (0 : Int32).toInt = 0 from rfl] at h2
    omega
  have hnc : n.toNatClampNeg = zn k := by
    show n.toInt.toNat = zn k
    rw [hn]
    rfl
  refine va_newa (a0 := (zn k, .inr (.inl (fun _ => 0)))) X.1 X.2.1 (by rw [hty]; exact X.2.2.2.2.1 _ harr) hty X.2.2.2.2.2.1 hP hD hS X.2.2.2.2.2.2.2.2.1 (fun cA => rfl) hnn hnc hby hroom.1 hroom.2 hdg (fun q cA H1 hK1 hP1 hD1 hS1 => ?_)
  have hc : cA = d.2.2 14 := zRA_eq (i := 2) X.2.2.2.2.2.1 hK1 rfl
  subst hc
  have hw : zW d.2.2 [q] (fun _ => k) zS0 = [(q, .inl (d.2.2 14, zn k, .inr (.inl (fun _ => 0))))] := by
    show [(q, zE d.2.2 k (fun _ => 0) (fun _ => 0) (fun _ => none))] = _
    rw [zE_l hb]
  rw [← hw] at hP1 hD1
  obtain ⟨L3, kd3, σ3, e1, e2, k3, nn, hP3, hD3⟩ := zc_join hk (zK.one (q := q) hr hf h11 (zb12 hb (by omega))) hs hwk hP1 hD1
  exact kk q L3 kd3 σ3 e1 (e2.t ⟨List.mem_cons_self, rfl⟩) ⟨e2.2 q List.mem_cons_self (fun _ _ _ e => by cases e), nn q List.mem_cons_self⟩ (fun j => by rw [(e2.1 q List.mem_cons_self).2.2.2.1]) k3 hroom H1 locs ls hP3 hD3 hS1 hl
/-- the fields of the object that is being made -/
theorem zc_put {rt : va_W} {a0 ci j index N : Nat} {fs fs2 : List Value} {C : String} {T : u_T} {v : Value} {ty : FieldType} {ty0 : Nat → FieldType} (X : zX d L kd A nL p s m args c cc own) (hin2 : meth.name = "<init>") (hcl : vwCl[ci]? = some (C, T, N)) (hj : j < N) (hin : ∀ w ∈ u_ws C T N, w ∈ zWL) (hty0 : ∀ k, k < N → parseFieldDescriptor (T k).2.2.1 = some (ty0 k)) (hnm : ∀ a, a < N → ∀ b, b < N → a ≠ b → (T a).2.1 ≠ (T b).2.1) (hlink : Cond.fieldLink own index (T j).1 (T j).2.1 (T j).2.2.1 ∈ zWL) (hdecl : (T j).1 = own) (hd : parseFieldDescriptor (T j).2.2.1 = some ty) (hn : narrow ty v = v) (hfit : fits ty v = true) (hlt : j < fs.length) (hfs : fs.set j v = fs2) (hdg : decode cc pc = .ok (.putfield index, 3)) (k : zGc ((a0, .inr (ci, fs2)) :: rt) cs sl d L kd A nL p l e R s m args below meth c Q σ (pc + 3) lv st) : zGc ((a0, .inr (ci, fs)) :: rt) cs sl d L kd A nL p l e R s m args below meth c Q σ pc lv (v :: .ref a0 :: st) := by
  intro hz H locs ls hP hD hS hl
  subst hfs
  by_cases hfin : (T j).2.2.2 = true
  · exact va_putF X.1 X.2.1 X.2.2.2.2.1 hin ty0 hty0 hnm X.2.2.2.1 X.2.2.2.2.2.1 hP hD hS 0 rfl hcl j hj (X.2.2.2.2.1 _ hlink) (fun _ h => h) hfin hin2 hdecl hd hn hfit hlt hdg (fun H1 locs1 hP hD hS => k hz H1 locs1 ls hP hD hS hl)
  · exact va_put X.1 X.2.1 X.2.2.2.2.1 hin ty0 hty0 hnm X.2.2.2.1 X.2.2.2.2.2.1 hP hD hS 0 rfl hcl j hj (X.2.2.2.2.1 _ hlink) (fun _ h => h) (Bool.eq_false_iff.mpr hfin) hd hn hfit hlt hdg (fun H1 locs1 hP hD hS => k hz H1 locs1 ls hP hD hS hl)
theorem zc_get {rt : va_W} {a0 ci j index N : Nat} {fs : List Value} {C : String} {T : u_T} {v : Value} (X : zX d L kd A nL p s m args c cc own) (hcl : vwCl[ci]? = some (C, T, N)) (hj : j < N) (hin : ∀ w ∈ u_ws C T N, w ∈ zWL) (hlink : Cond.fieldLink own index (T j).1 (T j).2.1 (T j).2.2.1 ∈ zWL) (hv : fs[j]? = some v) (hdg : decode cc pc = .ok (.getfield index, 3)) (k : zGc ((a0, .inr (ci, fs)) :: rt) cs sl d L kd A nL p l e R s m args below meth c Q σ (pc + 3) lv (v :: st)) : zGc ((a0, .inr (ci, fs)) :: rt) cs sl d L kd A nL p l e R s m args below meth c Q σ pc lv (.ref a0 :: st) := fun hz H locs ls hP hD hS hl =>
  va_get X.1 X.2.1 X.2.2.2.2.1 hin X.2.2.2.1 X.2.2.2.2.2.1 hP 0 rfl hcl j hj (X.2.2.2.2.1 _ hlink) (fun _ h => h) hv hdg (k hz H locs ls hP hD hS hl)
theorem zc_obj {index : Nat} {a : Nat} (X : zX d L kd A nL p s m args c cc own) (hlink : Cond.methodLink own index objectInit ∈ zWL) (hinst : Cond.instanceMethod objectInit ∈ zWL) (hcode : Cond.code objectInit ⟨#[0xb1]⟩ 1 none ∈ zWL) (hdg : decode cc pc = .ok (.invokespecial index, 3)) (hR : 1 ≤ R.frames ∧ (st.map fun v => v.category).sum + 12 ≤ R.locals) (k : zGc rs cs sl d L kd A nL p l e R s m args below meth c Q σ (pc + 3) lv st) : zGc rs cs sl d L kd A nL p l e R s m args below meth c Q σ pc lv (.ref a :: st) := by
  intro hz H locs ls hP hD hS hl
  refine W.objInit X.1 X.2.1 X.2.2.2.1 (X.2.2.2.2.1 _ hlink) (X.2.2.2.2.1 _ hinst) (X.2.2.2.2.1 _ hcode) rfl (by rw [X.2.2.1]; exact hl.1) rfl hdg hR.1 (by simpa [JFrame.monitorRoom] using hR.2) ?_
  exact k hz H locs ls hP hD hS hl
end ZNEW2
theorem zB_back {D : va_G} {cl : List vw_C} {A : Nat → Prop} {w0 wc w2 : va_W} {H H1 : Heap} (hP : va_P D cl (w0 ++ wc) H) (hD : va_D A (w0 ++ wc)) (hF : ∀ q, va_A wc H.size q → A q) (hk : ∀ q : Nat, q < H.size → ¬ va_A wc H.size q → H1[q]? = H[q]?) (hP2 : va_P D cl w2 H1) (hD2 : va_D (va_A wc H.size) w2) : va_P D cl (w0 ++ w2) H1 ∧ va_D A (w0 ++ w2) := by
  have hP0 : va_P D cl w0 H := fun k q hq => hP k q (by rw [List.getElem?_append_left (List.getElem?_eq_some_iff.mp hq).1]; exact hq)
  have hx : ∀ (i : Nat) (p : Nat × va_E), w0[i]? = some p → ¬ va_A wc H.size p.1 := by
    intro i p hi
    have hi2 : (w0 ++ wc)[i]? = some p := by rw [List.getElem?_append_left (List.getElem?_eq_some_iff.mp hi).1]; exact hi
    rintro (⟨j, e, hj⟩ | hj)
    · have hj2 : (w0 ++ wc)[w0.length + j]? = some (p.1, e) := by rw [List.getElem?_append_right (by omega), Nat.add_sub_cancel_left]; exact hj
      have h1 := hD.1 i _ p _ hi2 hj2 rfl
      have h2 := (List.getElem?_eq_some_iff.mp hi).1
      omega
    · have := va_at.lt (hP0 i p hi)
      omega
  have hP1 : va_P D cl w0 H1 := fun k q hq => va_at.kept (hP0 k q hq) (hk q.1 (va_at.lt (hP0 k q hq)) (hx k q hq))
  have hD0 : va_D A w0 := ⟨fun i j p q hi hj e => hD.1 i j p q (by rw [List.getElem?_append_left (List.getElem?_eq_some_iff.mp hi).1]; exact hi) (by rw [List.getElem?_append_left (List.getElem?_eq_some_iff.mp hj).1]; exact hj) e, fun k q hq => hD.2 k q (by rw [List.getElem?_append_left (List.getElem?_eq_some_iff.mp hq).1]; exact hq)⟩
  have hD3 : va_D A w2 := ⟨hD2.1, fun k q hq => hF _ (hD2.2 k q hq)⟩
  exact ⟨va_P.app hP1 hP2, va_D.app hD0 hD3 (fun i j p q hi hj e => hx i p hi (by rw [e]; exact hD2.2 j q hj))⟩
/-- a constructor's contract: n frames, mc cells of ms slots; ks: the kinds of what it makes, itself the first -/
def zNew (l : Launch) (y : MethodName) (ws : List Cond) (n mc ms : Nat) (d : zD2) (k : Nat) (fs0 : List Value) (ks : List Nat) : Prop := ∀ (a0 sz : Nat), Met l y ws { frames := n, cells := mc, slots := ms, locals := 100 * n } (va_Pc [.ref a0] (fun U => U.heap.size = sz ∧ va_P (d.1, d.2.1) vwCl [(a0, .inr (k, fs0))] U.heap ∧ va_K (d.1, d.2.1) vwCl (zty d.2.2) U ∧ zN U ∧ va_D (fun _ => True) [(a0, .inr (k, fs0))] ∧ zEX d.2.2 (va_A [(a0, .inr (k, fs0))] sz) U U.heap)) (va_Qv (fun u : List Nat × (Nat → Nat) × zS => zT u.1 u.2.1 a0 k ∧ zrt u.1 u.2.2 a0 ∧ zK ks u.1 u.2.1 u.2.2) (fun u t => va_P (d.1, d.2.1) vwCl (zW d.2.2 u.1 u.2.1 u.2.2) t.heap ∧ va_K (d.1, d.2.1) vwCl (zty d.2.2) t ∧ va_D (va_A [(a0, .inr (k, fs0))] sz) (zW d.2.2 u.1 u.2.1 u.2.2)) (va_A [(a0, .inr (k, fs0))] sz)) mc ms (va_A [(a0, .inr (k, fs0))] sz)
theorem zNew.of {l : Launch} {y : MethodName} {ws : List Cond} {n maxL mc ms : Nat} {d : zD2} {k : Nat} {fs0 : List Value} {ks : List Nat} {cc : ByteArray} {own : String} (hy : plainName y.cls = true) (hw : ws = Cond.code y cc maxL none :: zWL) (hown : y.cls = own) (hyn : y.name = "<init>") (hml1 : 1 ≤ maxL)
    (body : ∀ (a0 : Nat) (p : Program) (e : Env) (s : State) (m : MethodId) (args : Array Value) (below : List Frame) (meth : Method) (c : Code) (A : Nat → Prop) (Q : State → Prop), zX d [] (fun _ => 0) A maxL p s m args c cc own → meth.name = "<init>" → (∀ (L2 : List Nat) (kd2 : Nat → Nat) (σ2 : zS) (pc : Nat) (lv : List (Nat × Value)), decode cc pc = .ok (.return_, 1) → zT L2 kd2 a0 k → zrt L2 σ2 a0 → zK ks L2 kd2 σ2 → zGc [] mc ms d L2 kd2 A maxL p l e { frames := n, cells := mc, slots := ms, locals := 100 * n } s m args below meth c Q σ2 pc lv []) → zGc [(a0, .inr (k, fs0))] 0 0 d [] (fun _ => 0) A maxL p l e { frames := n, cells := mc, slots := ms, locals := 100 * n } s m args below meth c Q zS0 0 [(0, .ref a0)] []) : zNew l y ws n mc ms d k fs0 ks := by
  intro a0 sz
  refine Met.ofW (cc := cc) (maxL := maxL) (ret := none) hy hw ?_
  intro p e s m args below meth c s₁ B hml hv
  obtain ⟨rfl, hsz, hP, hK, hN, hD0, hE⟩ := hv
  have hts := atoms_spec (ws := ws) B.pre
  have hown2 : s.vm.findClass y.cls = some m.cls := findClass_of_methodNamed B.named
  have hlocks := B.notSynchronized
  have hin : meth.name = "<init>" := by rw [(name_of_methodNamed B.named B.method).1]; exact hyn
  subst hsz
  have hl := lv_entry [Value.ref a0] (n := maxL) hml1
  rw [lg_entry_eq]
  generalize (lg_sl [Value.ref a0] ++ List.replicate (maxL - (lg_sl [Value.ref a0]).length) Slot.unset).toArray = ls at hl ⊢
  refine body a0 p e s m _ below meth c (va_A [(a0, .inr (k, fs0))] s.heap.size) _ ⟨B.exec, B.bytes, hml, by rw [← hown]; exact hown2, fun w h => hts w (by rw [hw]; exact List.mem_cons_of_mem _ h), hK, hN, trivial, fun q h => Or.inr h, hE⟩ hin ?_ ⟨Nat.zero_le _, Nat.zero_le _⟩ s.heap [] ls hP (hD0.self (sz := s.heap.size)) va_S.rf hl
  intro L2 kd2 σ2 pc lv hdg hT hrt hk2 _ H locs ls hP hD hS hl
  exact W.vret B.exec B.bytes B.returns (fun t ht hW => ⟨⟨(L2, kd2, σ2), rfl, ⟨hT, hrt, hk2⟩, by rw [ht]; exact hP, va_K.moved hW.alike hK, hD⟩, hS.F ht⟩) hS.2.2 hdg
section ZNEW3
variable {rs : va_W} {cs sl : Nat} {d : zD2} {L ks : List Nat} {kd : Nat → Nat} {A : Nat → Prop} {nL : Nat} {p : Program} {l : Launch} {e : Env} {R : Room} {s : State} {m : MethodId} {args : Array Value} {below : List Frame} {meth : Method} {c : Code} {cc : ByteArray} {own : String} {Q : State → Prop} {σ : zS} {pc : Nat} {lv : List (Nat × Value)} {st : List Value}
/-- new, dup, the constructor's call -/
theorem zc_newC (X : zX d L kd A nL p s m args c cc own) {y : MethodName} {b : ByteArray} {mL n mc ms k index ixc N : Nat} {C : String} {T : u_T} {ty : Nat → FieldType} {fs0 : List Value} {ks2 : List Nat} (hk : zK ks L kd σ) (hM : zNew l y (Cond.code y b mL none :: zWL) n mc ms d k fs0 ks2) (hs : (ks.filter zsole).all (fun q => !(ks2.contains q)) = true) (hwk : zwk ((ks ++ ks2).contains 8) (ks.contains 8) (ks2.contains 8) ks ks2 = true)
    (hcl : vwCl[k]? = some (C, T, N)) (hin : ∀ w ∈ u_ws C T N, w ∈ zWL) (hty : ∀ k, k < N → parseFieldDescriptor (T k).2.2.1 = some (ty k)) (hclk : Cond.classLink own index C ∈ zWL) (hinst : Cond.instantiable C N ∈ zWL) (hini : Cond.initialized C ∈ zWL) (hfs : ∀ j, j < N → defaultValue (ty j) = vp_V fs0 j)
    (hlink : Cond.methodLink own ixc y ∈ zWL ∨ ∃ host, Cond.methodLinkNest own ixc y host ∈ tables_1) (hcode : Cond.code y b mL none ∈ zWL) (hyini : Cond.initialized y.cls ∈ zWL) (hyinst : Cond.instanceMethod y ∈ zWL) (hyn : y.name = "<init>") (hd : y.cls ≠ "java/lang/invoke/MethodHandle" ∧ y.cls ≠ "java/lang/invoke/VarHandle" ∧ (parseMethodDescriptor y.desc).map (fun q => q.parameters.length) = some 0)
    (h1 : decode cc pc = .ok (.new index, 3)) (h2 : decode cc (pc + 3) = .ok (.dup, 1)) (h3 : decode cc (pc + 4) = .ok (.invokespecial ixc, 3)) (hroom : (cs + 1 + mc ≤ R.cells ∧ sl + N + ms ≤ R.slots) ∧ n + 1 ≤ R.frames ∧ 8 + (mL + 11) + 100 * n ≤ R.locals) (hst : ((.ref 0 :: st).map fun v => v.category).sum ≤ 8)
    (kk : ∀ (q : Nat) (L2 : List Nat) (kd2 : Nat → Nat) (σ2 : zS), zExt L kd σ L2 kd2 σ2 → zT L2 kd2 q k → zrt L2 σ2 q ∧ q ∉ L → zK (ks ++ ks2) L2 kd2 σ2 → zGc rs (cs + 1 + mc) (sl + N + ms) d L2 kd2 A nL p l e R s m args below meth c Q σ2 (pc + 7) lv (.ref q :: st)) : zGc rs cs sl d L kd A nL p l e R s m args below meth c Q σ pc lv st := by
  intro hz H locs ls hP hD hS hl
  have U := X.2.2.2.2.1
  have hA := X.2.2.2.2.2.2.2.2.1
  refine va_new (ci := k) (fs := fs0) X.1 X.2.1 U hin ty hty X.2.2.2.1 (U _ hclk) (U _ hinst) (U _ hini) X.2.2.2.2.2.1 hP hD hS hA hcl hfs (by omega) (by omega) h1 (fun q H1 hP1 hD1 hS1 => ?_)
  refine lv_dup X.1 X.2.1 h2 rfl ?_
  have hPc : va_P (d.1, d.2.1) vwCl [(q, .inr (k, fs0))] H1 := zP_suf hP1
  have hDc : va_D A [(q, .inr (k, fs0))] := zD_suf hD1
  have hF := zA_sub hDc hS1 hA
  have hsig : ∀ sig, parseMethodDescriptor y.desc = some sig → ([] : List Value).length = sig.parameters.length := fun sig h => by
    have h5 := hd.2.2
    rw [h] at h5
    exact (Option.some.inj h5).symm
  have hpre : PreS s H1 (va_Pc [.ref q] (fun U => U.heap.size = H1.size ∧ va_P (d.1, d.2.1) vwCl [(q, .inr (k, fs0))] U.heap ∧ va_K (d.1, d.2.1) vwCl (zty d.2.2) U ∧ zN U ∧ va_D (fun _ => True) [(q, .inr (k, fs0))] ∧ zEX d.2.2 (va_A [(q, .inr (k, fs0))] H1.size) U U.heap)) (.ref q :: []) := by
    refine ⟨fun a U g mk z => ?_, fun U hU hW => ⟨rfl, by rw [hU], by rw [hU]; exact hPc, va_K.moved hW.alike X.2.2.2.2.2.1, zN.warm hW X.2.2.2.2.2.2.1, hDc.weaken (fun _ _ _ _ => trivial), by rw [hU]; exact ((X.2.2.2.2.2.2.2.2.2.kept hS1.2.1).narrow hF).warm hW⟩⟩
    obtain ⟨z0, z1, zP, zK, zN0, zD, zE0⟩ := z
    exact ⟨z0, z1, zP, va_K.moved (u := U) (U := U.calling g mk a) (Vm.Alike.refl U.vm) zK, zN.same (u := U) (U := U.calling g mk a) rfl zN0, zD, zEX.same (u := U) (U := U.calling g mk a) rfl zE0⟩
  have hsum : ((.ref q :: st).map fun v => v.category).sum ≤ 8 := hst
  have run : va_Run p l e R s m args below meth c H1 locs (cs + 1) (sl + N) mc ms (F0 m (pc + 3 + 1) ls (.ref q :: .ref q :: st)) (.ref q :: st) (va_Qv (fun u : List Nat × (Nat → Nat) × zS => zT u.1 u.2.1 q k ∧ zrt u.1 u.2.2 q ∧ zK ks2 u.1 u.2.1 u.2.2) (fun u t => va_P (d.1, d.2.1) vwCl (zW d.2.2 u.1 u.2.1 u.2.2) t.heap ∧ va_K (d.1, d.2.1) vwCl (zty d.2.2) t ∧ va_D (va_A [(q, .inr (k, fs0))] H1.size) (zW d.2.2 u.1 u.2.1 u.2.2)) (va_A [(q, .inr (k, fs0))] H1.size) (Value.ref q :: []).toArray) (va_A [(q, .inr (k, fs0))] H1.size) := by
    rcases hlink with hlink | ⟨host, hlink⟩
    · exact va_runI (As := []) (rest := .ref q :: st) (n := 0) ⟨X.1, X.2.1, X.2.2.1, X.2.2.2.1, U⟩ (hM q H1.size) ⟨⟨rfl, rfl, hroom.2.1, hroom.2.2, zpay U hcode, List.mem_cons_self, U _ hcode, U _ hyini, ⟨hd.1, hd.2.1⟩, hsig, U _ hlink⟩, hyn, U _ hyinst⟩ hpre rfl rfl hl.1 rfl (lv_room hsum) h3 ⟨by omega, by omega⟩
    · exact va_runIN (As := []) (rest := .ref q :: st) (n := 0) ⟨X.1, X.2.1, X.2.2.1, X.2.2.2.1, U⟩ (hM q H1.size) ⟨⟨⟨rfl, rfl, hroom.2.1, hroom.2.2, zpay U hcode, List.mem_cons_self⟩, U _ hcode, U _ hyini, ⟨hd.1, hd.2.1⟩, hsig, va_Nw.use rfl (X.2.2.2.2.2.2.1 _ hlink rfl)⟩, hyn, U _ hyinst⟩ hpre rfl rfl hl.1 rfl (lv_room hsum) h3 ⟨by omega, by omega⟩
  refine va_callv run hS1 (fun q _ h => hF q h) hF (fun u t H2 locs ht hvm hw hB hz1 hk1 hS2 => ?_)
  obtain ⟨L2, kd2, σ2⟩ := u
  obtain ⟨hP2, hK2, hD2⟩ := hB
  rw [ht] at hP2
  obtain ⟨hP3, hD3⟩ := zB_back hP1 hD1 hF hk1 hP2 hD2
  obtain ⟨L3, kd3, σ3, e1, e2, k3, nn, hP4, hD4⟩ := zc_join hk hw.2.2 hs hwk hP3 hD3
  exact kk q L3 kd3 σ3 e1 (e2.t hw.1) ⟨e2.2 q hw.1.1 hw.2.1, nn q hw.1.1⟩ k3 ⟨by omega, by omega⟩ H2 locs ls hP4 hD4 hS2 hl
end ZNEW3
