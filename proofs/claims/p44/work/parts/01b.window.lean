/-! what is read in a window of the code is read in the code -/
section
variable {α β : Type} {n i q : Nat} {L K : ByteArray}

/-- K is the window of L from n on -/
def zrW (n : Nat) (L K : ByteArray) : Prop := (L.data.toList.drop n).take K.data.toList.length = K.data.toList

theorem zrW.at (h : zrW n L K) {i : Nat} (hi : i < K.size) : ∃ hl : n + i < L.size, L[n + i] = K[i] := by
  have e : (L.data.toList.drop n)[i]? = K.data.toList[i]? := by
    rw [← (show (L.data.toList.drop n).take K.data.toList.length = K.data.toList from h), List.getElem?_take]
    simp only [if_pos (show i < K.data.toList.length from by simpa using hi)]
  rw [List.getElem?_drop] at e
  have hk : i < K.data.toList.length := by simpa using hi
  rw [List.getElem?_eq_getElem hk] at e
  obtain ⟨hl, e⟩ := List.getElem?_eq_some_iff.mp e
  exact ⟨by simpa using hl, e⟩

theorem zr_bind {ε : Type} (r : Reader ε α) (f : α → Reader ε β) (B : ByteArray) (p : Nat) :
    Reader.runAt (r >>= f) B p = (match Reader.runAt r B p with | .ok aq => Reader.runAt (f aq.1) B aq.2 | .error e => .error e) := by
  show Except.bind (Reader.runAt r B p) (fun aq => Reader.runAt (f aq.1) B aq.2) = _
  cases Reader.runAt r B p <;> rfl

theorem zr_u1 {ε : Type} [HasTruncated ε] (B : ByteArray) (p : Nat) :
    Reader.runAt (ε := ε) Reader.u1 B p = if h : p < B.size then .ok (B[p].toNat, p + 1) else .error (HasTruncated.truncated p) := by
  show (dite (p < B.size) (fun h => (do set (p + 1); pure B[p].toNat : Reader ε Nat)) (fun _ => throw (HasTruncated.truncated p))) B p = _
  split <;> rfl

/-- the byte at q -/
def zrB (B : ByteArray) (q : Nat) : Option Nat := match B.data.toList[q]? with
  | some b => some b.toNat
  | none => none

theorem zr_b (hw : zrW n L K) {a : Nat} (h : zrB K q = some a) : Reader.runAt (ε := DecodeError) Reader.u1 L (n + q) = .ok (a, n + (q + 1)) := by
  unfold zrB at h
  split at h
  · rename_i b hb
    obtain ⟨hi, hb⟩ := List.getElem?_eq_some_iff.mp hb
    obtain ⟨hl, e⟩ := hw.at (i := q) (by simpa using hi)
    have e : L[n + q] = b := e.trans hb
    cases h
    rw [zr_u1, dif_pos hl, e]; rfl
  · cases h

theorem zr_b2 (hw : zrW n L K) {a b : Nat} (h : zrB K q = some a) (h2 : zrB K (q + 1) = some b) : Reader.runAt (ε := DecodeError) Reader.u2 L (n + q) = .ok (a * 256 + b, n + (q + 2)) := by
  unfold Reader.u2
  rw [zr_bind, zr_b hw h]; dsimp only
  rw [zr_bind, zr_b hw h2]; rfl

theorem zr_map {ε : Type} (g : α → β) (r : Reader ε α) (B : ByteArray) (p : Nat) {a : α} {j : Nat} (h : Reader.runAt r B p = .ok (a, j)) : Reader.runAt (g <$> r) B p = .ok (g a, j) := by
  have e : Reader.runAt (r >>= fun a => Pure.pure (g a)) B p = .ok (g a, j) := by rw [zr_bind, h]; rfl
  exact e

def zrO0 (a : Instr) (_ : ByteArray) (q : Nat) : Option (Instr × Nat) := some (a, q)
def zrO1 (f : Nat → Instr) (B : ByteArray) (q : Nat) : Option (Instr × Nat) := match zrB B q with
  | some a => some (f a, q + 1)
  | none => none
def zrO2 (f : Nat → Instr) (B : ByteArray) (q : Nat) : Option (Instr × Nat) := match zrB B q with
  | some a => match zrB B (q + 1) with
    | some b => some (f (a * 256 + b), q + 2)
    | none => none
  | none => none
def zrO11 (f : Nat → Nat → Instr) (B : ByteArray) (q : Nat) : Option (Instr × Nat) := match zrB B q with
  | some a => match zrB B (q + 1) with
    | some b => some (f a b, q + 2)
    | none => none
  | none => none

variable {x : Instr} {j : Nat}

theorem zr_0 {a : Instr} (h : zrO0 a K q = some (x, j)) : Reader.runAt (ε := DecodeError) (pure a) L (n + q) = .ok (x, n + j) := by
  cases h; rfl

theorem zr_1 (hw : zrW n L K) {f : Nat → Instr} (h : zrO1 f K q = some (x, j)) : Reader.runAt (ε := DecodeError) (Reader.u1 >>= fun a => pure (f a)) L (n + q) = .ok (x, n + j) := by
  unfold zrO1 at h
  split at h
  · rename_i a ha
    cases h
    rw [zr_bind, zr_b hw ha]; rfl
  · cases h

theorem zr_s1 (hw : zrW n L K) {g : Int → Instr} (h : zrO1 (fun a => g (Reader.signed 8 a)) K q = some (x, j)) : Reader.runAt (ε := DecodeError) (Reader.s1 >>= fun a => pure (g a)) L (n + q) = .ok (x, n + j) := by
  unfold zrO1 at h
  split at h
  · rename_i a ha
    cases h
    unfold Reader.s1
    rw [zr_bind, zr_map _ _ _ _ (zr_b hw ha)]; rfl
  · cases h

theorem zr_2 (hw : zrW n L K) {f : Nat → Instr} (h : zrO2 f K q = some (x, j)) : Reader.runAt (ε := DecodeError) (Reader.u2 >>= fun a => pure (f a)) L (n + q) = .ok (x, n + j) := by
  unfold zrO2 at h
  split at h
  · rename_i a ha
    split at h
    · rename_i b hb
      cases h
      rw [zr_bind, zr_b2 hw ha hb]; rfl
    · cases h
  · cases h

theorem zr_s2 (hw : zrW n L K) {g : Int → Instr} (h : zrO2 (fun a => g (Reader.signed 16 a)) K q = some (x, j)) : Reader.runAt (ε := DecodeError) (Reader.s2 >>= fun a => pure (g a)) L (n + q) = .ok (x, n + j) := by
  unfold zrO2 at h
  split at h
  · rename_i a ha
    split at h
    · rename_i b hb
      cases h
      unfold Reader.s2
      rw [zr_bind, zr_map _ _ _ _ (zr_b2 hw ha hb)]; rfl
    · cases h
  · cases h

theorem zr_11 (hw : zrW n L K) {g : Nat → Int → Instr} (h : zrO11 (fun a b => g a (Reader.signed 8 b)) K q = some (x, j)) : Reader.runAt (ε := DecodeError) (Reader.u1 >>= fun a => Reader.s1 >>= fun b => pure (g a b)) L (n + q) = .ok (x, n + j) := by
  unfold zrO11 at h
  split at h
  · rename_i a ha
    split at h
    · rename_i b hb
      cases h
      rw [zr_bind, zr_b hw ha]; dsimp only
      unfold Reader.s1
      rw [zr_bind, zr_map _ _ _ _ (zr_b hw hb)]; rfl
    · cases h
  · cases h

/-- the opcodes that are read so -/
def zrOps : List Nat := 42 :: 180 :: 182 :: 27 :: 3 :: 16 :: 29 :: 46 :: 28 :: 172 :: 167 :: 4 :: 21 :: 96 :: 181 :: 184 :: 132 :: 162 :: 153 :: 154 :: 54 :: 79 :: 2 :: 61 :: 62 :: 177 :: 160 :: 87 :: 5 :: 43 :: 26 :: 100 :: 17 :: 60 :: 44 :: 89 :: 104 :: 6 :: 164 :: 126 :: 163 :: 155 :: 7 :: 159 :: 158 :: 183 :: 80 :: 161 :: 51 :: 8 :: 128 :: 187 :: 120 :: 92 :: 130 :: 122 :: 124 :: 9 :: 47 :: 156 :: 190 :: 18 :: 84 :: 25 :: 178 :: 112 :: 22 :: 19 :: 31 :: 146 :: 59 :: 148 :: 108 :: 173 :: 50 :: 55 :: 145 :: 191 :: 1 :: 64 :: 30 :: 133 :: 157 :: 45 :: 77 :: 136 :: 189 :: 83 :: 20 :: 105 :: 97 :: 76 :: 58 :: 32 :: 116 :: []

/-- what stands behind the opcode -/
def zrRun (o : Nat) : ByteArray → Nat → Option (Instr × Nat) := bif Nat.blt o 89 then (bif Nat.blt o 32 then (bif Nat.blt o 18 then (bif Nat.blt o 6 then (bif Nat.blt o 3 then (bif Nat.blt o 2 then (bif Nat.beq o 1 then zrO0 (.aconst_null) else fun _ _ => none) else (bif Nat.beq o 2 then zrO0 (.iconst (-1)) else fun _ _ => none)) else (bif Nat.blt o 4 then (bif Nat.beq o 3 then zrO0 (.iconst 0) else fun _ _ => none) else (bif Nat.blt o 5 then (bif Nat.beq o 4 then zrO0 (.iconst 1) else fun _ _ => none) else (bif Nat.beq o 5 then zrO0 (.iconst 2) else fun _ _ => none)))) else (bif Nat.blt o 9 then (bif Nat.blt o 7 then (bif Nat.beq o 6 then zrO0 (.iconst 3) else fun _ _ => none) else (bif Nat.blt o 8 then (bif Nat.beq o 7 then zrO0 (.iconst 4) else fun _ _ => none) else (bif Nat.beq o 8 then zrO0 (.iconst 5) else fun _ _ => none))) else (bif Nat.blt o 16 then (bif Nat.beq o 9 then zrO0 (.lconst 0) else fun _ _ => none) else (bif Nat.blt o 17 then (bif Nat.beq o 16 then zrO1 (fun a => .bipush (Reader.signed 8 a)) else fun _ _ => none) else (bif Nat.beq o 17 then zrO2 (fun a => .sipush (Reader.signed 16 a)) else fun _ _ => none))))) else (bif Nat.blt o 26 then (bif Nat.blt o 21 then (bif Nat.blt o 19 then (bif Nat.beq o 18 then zrO1 (fun a => .ldc a) else fun _ _ => none) else (bif Nat.blt o 20 then (bif Nat.beq o 19 then zrO2 (fun a => .ldc_w a) else fun _ _ => none) else (bif Nat.beq o 20 then zrO2 (fun a => .ldc2_w a) else fun _ _ => none))) else (bif Nat.blt o 22 then (bif Nat.beq o 21 then zrO1 (fun a => .iload a) else fun _ _ => none) else (bif Nat.blt o 25 then (bif Nat.beq o 22 then zrO1 (fun a => .lload a) else fun _ _ => none) else (bif Nat.beq o 25 then zrO1 (fun a => .aload a) else fun _ _ => none)))) else (bif Nat.blt o 29 then (bif Nat.blt o 27 then (bif Nat.beq o 26 then zrO0 (.iload_n 0) else fun _ _ => none) else (bif Nat.blt o 28 then (bif Nat.beq o 27 then zrO0 (.iload_n 1) else fun _ _ => none) else (bif Nat.beq o 28 then zrO0 (.iload_n 2) else fun _ _ => none))) else (bif Nat.blt o 30 then (bif Nat.beq o 29 then zrO0 (.iload_n 3) else fun _ _ => none) else (bif Nat.blt o 31 then (bif Nat.beq o 30 then zrO0 (.lload_n 0) else fun _ _ => none) else (bif Nat.beq o 31 then zrO0 (.lload_n 1) else fun _ _ => none)))))) else (bif Nat.blt o 59 then (bif Nat.blt o 47 then (bif Nat.blt o 44 then (bif Nat.blt o 42 then (bif Nat.beq o 32 then zrO0 (.lload_n 2) else fun _ _ => none) else (bif Nat.blt o 43 then (bif Nat.beq o 42 then zrO0 (.aload_n 0) else fun _ _ => none) else (bif Nat.beq o 43 then zrO0 (.aload_n 1) else fun _ _ => none))) else (bif Nat.blt o 45 then (bif Nat.beq o 44 then zrO0 (.aload_n 2) else fun _ _ => none) else (bif Nat.blt o 46 then (bif Nat.beq o 45 then zrO0 (.aload_n 3) else fun _ _ => none) else (bif Nat.beq o 46 then zrO0 (.iaload) else fun _ _ => none)))) else (bif Nat.blt o 54 then (bif Nat.blt o 50 then (bif Nat.beq o 47 then zrO0 (.laload) else fun _ _ => none) else (bif Nat.blt o 51 then (bif Nat.beq o 50 then zrO0 (.aaload) else fun _ _ => none) else (bif Nat.beq o 51 then zrO0 (.baload) else fun _ _ => none))) else (bif Nat.blt o 55 then (bif Nat.beq o 54 then zrO1 (fun a => .istore a) else fun _ _ => none) else (bif Nat.blt o 58 then (bif Nat.beq o 55 then zrO1 (fun a => .lstore a) else fun _ _ => none) else (bif Nat.beq o 58 then zrO1 (fun a => .astore a) else fun _ _ => none))))) else (bif Nat.blt o 77 then (bif Nat.blt o 62 then (bif Nat.blt o 60 then (bif Nat.beq o 59 then zrO0 (.istore_n 0) else fun _ _ => none) else (bif Nat.blt o 61 then (bif Nat.beq o 60 then zrO0 (.istore_n 1) else fun _ _ => none) else (bif Nat.beq o 61 then zrO0 (.istore_n 2) else fun _ _ => none))) else (bif Nat.blt o 64 then (bif Nat.beq o 62 then zrO0 (.istore_n 3) else fun _ _ => none) else (bif Nat.blt o 76 then (bif Nat.beq o 64 then zrO0 (.lstore_n 1) else fun _ _ => none) else (bif Nat.beq o 76 then zrO0 (.astore_n 1) else fun _ _ => none)))) else (bif Nat.blt o 83 then (bif Nat.blt o 79 then (bif Nat.beq o 77 then zrO0 (.astore_n 2) else fun _ _ => none) else (bif Nat.blt o 80 then (bif Nat.beq o 79 then zrO0 (.iastore) else fun _ _ => none) else (bif Nat.beq o 80 then zrO0 (.lastore) else fun _ _ => none))) else (bif Nat.blt o 84 then (bif Nat.beq o 83 then zrO0 (.aastore) else fun _ _ => none) else (bif Nat.blt o 87 then (bif Nat.beq o 84 then zrO0 (.bastore) else fun _ _ => none) else (bif Nat.beq o 87 then zrO0 (.pop) else fun _ _ => none))))))) else (bif Nat.blt o 155 then (bif Nat.blt o 124 then (bif Nat.blt o 105 then (bif Nat.blt o 97 then (bif Nat.blt o 92 then (bif Nat.beq o 89 then zrO0 (.dup) else fun _ _ => none) else (bif Nat.blt o 96 then (bif Nat.beq o 92 then zrO0 (.dup2) else fun _ _ => none) else (bif Nat.beq o 96 then zrO0 (.iadd) else fun _ _ => none))) else (bif Nat.blt o 100 then (bif Nat.beq o 97 then zrO0 (.ladd) else fun _ _ => none) else (bif Nat.blt o 104 then (bif Nat.beq o 100 then zrO0 (.isub) else fun _ _ => none) else (bif Nat.beq o 104 then zrO0 (.imul) else fun _ _ => none)))) else (bif Nat.blt o 116 then (bif Nat.blt o 108 then (bif Nat.beq o 105 then zrO0 (.lmul) else fun _ _ => none) else (bif Nat.blt o 112 then (bif Nat.beq o 108 then zrO0 (.idiv) else fun _ _ => none) else (bif Nat.beq o 112 then zrO0 (.irem) else fun _ _ => none))) else (bif Nat.blt o 120 then (bif Nat.beq o 116 then zrO0 (.ineg) else fun _ _ => none) else (bif Nat.blt o 122 then (bif Nat.beq o 120 then zrO0 (.ishl) else fun _ _ => none) else (bif Nat.beq o 122 then zrO0 (.ishr) else fun _ _ => none))))) else (bif Nat.blt o 136 then (bif Nat.blt o 130 then (bif Nat.blt o 126 then (bif Nat.beq o 124 then zrO0 (.iushr) else fun _ _ => none) else (bif Nat.blt o 128 then (bif Nat.beq o 126 then zrO0 (.iand) else fun _ _ => none) else (bif Nat.beq o 128 then zrO0 (.ior) else fun _ _ => none))) else (bif Nat.blt o 132 then (bif Nat.beq o 130 then zrO0 (.ixor) else fun _ _ => none) else (bif Nat.blt o 133 then (bif Nat.beq o 132 then zrO11 (fun a b => .iinc a (Reader.signed 8 b)) else fun _ _ => none) else (bif Nat.beq o 133 then zrO0 (.i2l) else fun _ _ => none)))) else (bif Nat.blt o 148 then (bif Nat.blt o 145 then (bif Nat.beq o 136 then zrO0 (.l2i) else fun _ _ => none) else (bif Nat.blt o 146 then (bif Nat.beq o 145 then zrO0 (.i2b) else fun _ _ => none) else (bif Nat.beq o 146 then zrO0 (.i2c) else fun _ _ => none))) else (bif Nat.blt o 153 then (bif Nat.beq o 148 then zrO0 (.lcmp) else fun _ _ => none) else (bif Nat.blt o 154 then (bif Nat.beq o 153 then zrO2 (fun a => .ifCond .eq (Reader.signed 16 a)) else fun _ _ => none) else (bif Nat.beq o 154 then zrO2 (fun a => .ifCond .ne (Reader.signed 16 a)) else fun _ _ => none)))))) else (bif Nat.blt o 173 then (bif Nat.blt o 161 then (bif Nat.blt o 158 then (bif Nat.blt o 156 then (bif Nat.beq o 155 then zrO2 (fun a => .ifCond .lt (Reader.signed 16 a)) else fun _ _ => none) else (bif Nat.blt o 157 then (bif Nat.beq o 156 then zrO2 (fun a => .ifCond .ge (Reader.signed 16 a)) else fun _ _ => none) else (bif Nat.beq o 157 then zrO2 (fun a => .ifCond .gt (Reader.signed 16 a)) else fun _ _ => none))) else (bif Nat.blt o 159 then (bif Nat.beq o 158 then zrO2 (fun a => .ifCond .le (Reader.signed 16 a)) else fun _ _ => none) else (bif Nat.blt o 160 then (bif Nat.beq o 159 then zrO2 (fun a => .if_icmp .eq (Reader.signed 16 a)) else fun _ _ => none) else (bif Nat.beq o 160 then zrO2 (fun a => .if_icmp .ne (Reader.signed 16 a)) else fun _ _ => none)))) else (bif Nat.blt o 164 then (bif Nat.blt o 162 then (bif Nat.beq o 161 then zrO2 (fun a => .if_icmp .lt (Reader.signed 16 a)) else fun _ _ => none) else (bif Nat.blt o 163 then (bif Nat.beq o 162 then zrO2 (fun a => .if_icmp .ge (Reader.signed 16 a)) else fun _ _ => none) else (bif Nat.beq o 163 then zrO2 (fun a => .if_icmp .gt (Reader.signed 16 a)) else fun _ _ => none))) else (bif Nat.blt o 167 then (bif Nat.beq o 164 then zrO2 (fun a => .if_icmp .le (Reader.signed 16 a)) else fun _ _ => none) else (bif Nat.blt o 172 then (bif Nat.beq o 167 then zrO2 (fun a => .goto (Reader.signed 16 a)) else fun _ _ => none) else (bif Nat.beq o 172 then zrO0 (.ireturn) else fun _ _ => none))))) else (bif Nat.blt o 183 then (bif Nat.blt o 180 then (bif Nat.blt o 177 then (bif Nat.beq o 173 then zrO0 (.lreturn) else fun _ _ => none) else (bif Nat.blt o 178 then (bif Nat.beq o 177 then zrO0 (.return_) else fun _ _ => none) else (bif Nat.beq o 178 then zrO2 (fun a => .getstatic a) else fun _ _ => none))) else (bif Nat.blt o 181 then (bif Nat.beq o 180 then zrO2 (fun a => .getfield a) else fun _ _ => none) else (bif Nat.blt o 182 then (bif Nat.beq o 181 then zrO2 (fun a => .putfield a) else fun _ _ => none) else (bif Nat.beq o 182 then zrO2 (fun a => .invokevirtual a) else fun _ _ => none)))) else (bif Nat.blt o 189 then (bif Nat.blt o 184 then (bif Nat.beq o 183 then zrO2 (fun a => .invokespecial a) else fun _ _ => none) else (bif Nat.blt o 187 then (bif Nat.beq o 184 then zrO2 (fun a => .invokestatic a) else fun _ _ => none) else (bif Nat.beq o 187 then zrO2 (fun a => .new a) else fun _ _ => none))) else (bif Nat.blt o 190 then (bif Nat.beq o 189 then zrO2 (fun a => .anewarray a) else fun _ _ => none) else (bif Nat.blt o 191 then (bif Nat.beq o 190 then zrO0 (.arraylength) else fun _ _ => none) else (bif Nat.beq o 191 then zrO0 (.athrow) else fun _ _ => none)))))))

/-- a row of the window: opcode, operands, length -/
def zrRow (K : ByteArray) (i : Nat) (ins : Instr) (len : Nat) : Bool := match K.data.toList[i]? with
  | some o => zrOps.contains o.toNat && match zrRun o.toNat K (i + 1) with
    | some p => decide (p.1 = ins) && Nat.beq p.2 (i + len)
    | none => false
  | none => false

set_option maxRecDepth 100000 in
theorem zrInstr (hw : zrW n L K) (pc q : Nat) (x : Instr) (j : Nat) (hl : n + i < L.size) (hm : L[n + i].toNat ∈ zrOps) (h : zrRun L[n + i].toNat K (i + 1) = some (x, j)) :
    Reader.runAt (Decoder.instr pc) L (n + i) = .ok (x, n + j) := by
  unfold Decoder.instr
  rw [zr_bind, zr_u1, dif_pos hl]
  dsimp only
  revert h
  generalize L[n + i].toNat = o at hm ⊢
  revert o hm
  unfold zrOps
  refine List.forall_mem_cons.mpr ⟨fun h => zr_0 (K := K) (a := .aload_n 0) h, ?_⟩
  refine List.forall_mem_cons.mpr ⟨fun h => zr_2 hw h, ?_⟩
  refine List.forall_mem_cons.mpr ⟨fun h => zr_2 hw h, ?_⟩
  refine List.forall_mem_cons.mpr ⟨fun h => zr_0 (K := K) (a := .iload_n 1) h, ?_⟩
  refine List.forall_mem_cons.mpr ⟨fun h => zr_0 (K := K) (a := .iconst 0) h, ?_⟩
  refine List.forall_mem_cons.mpr ⟨fun h => zr_s1 hw (g := fun a => .bipush a) h, ?_⟩
  refine List.forall_mem_cons.mpr ⟨fun h => zr_0 (K := K) (a := .iload_n 3) h, ?_⟩
  refine List.forall_mem_cons.mpr ⟨fun h => zr_0 (K := K) (a := .iaload) h, ?_⟩
  refine List.forall_mem_cons.mpr ⟨fun h => zr_0 (K := K) (a := .iload_n 2) h, ?_⟩
  refine List.forall_mem_cons.mpr ⟨fun h => zr_0 (K := K) (a := .ireturn) h, ?_⟩
  refine List.forall_mem_cons.mpr ⟨fun h => zr_s2 hw (g := fun a => .goto a) h, ?_⟩
  refine List.forall_mem_cons.mpr ⟨fun h => zr_0 (K := K) (a := .iconst 1) h, ?_⟩
  refine List.forall_mem_cons.mpr ⟨fun h => zr_1 hw h, ?_⟩
  refine List.forall_mem_cons.mpr ⟨fun h => zr_0 (K := K) (a := .iadd) h, ?_⟩
  refine List.forall_mem_cons.mpr ⟨fun h => zr_2 hw h, ?_⟩
  refine List.forall_mem_cons.mpr ⟨fun h => zr_2 hw h, ?_⟩
  refine List.forall_mem_cons.mpr ⟨fun h => zr_11 hw (g := fun a b => .iinc a b) h, ?_⟩
  refine List.forall_mem_cons.mpr ⟨fun h => zr_s2 hw (g := fun a => .if_icmp .ge a) h, ?_⟩
  refine List.forall_mem_cons.mpr ⟨fun h => zr_s2 hw (g := fun a => .ifCond .eq a) h, ?_⟩
  refine List.forall_mem_cons.mpr ⟨fun h => zr_s2 hw (g := fun a => .ifCond .ne a) h, ?_⟩
  refine List.forall_mem_cons.mpr ⟨fun h => zr_1 hw h, ?_⟩
  refine List.forall_mem_cons.mpr ⟨fun h => zr_0 (K := K) (a := .iastore) h, ?_⟩
  refine List.forall_mem_cons.mpr ⟨fun h => zr_0 (K := K) (a := .iconst (-1)) h, ?_⟩
  refine List.forall_mem_cons.mpr ⟨fun h => zr_0 (K := K) (a := .istore_n 2) h, ?_⟩
  refine List.forall_mem_cons.mpr ⟨fun h => zr_0 (K := K) (a := .istore_n 3) h, ?_⟩
  refine List.forall_mem_cons.mpr ⟨fun h => zr_0 (K := K) (a := .return_) h, ?_⟩
  refine List.forall_mem_cons.mpr ⟨fun h => zr_s2 hw (g := fun a => .if_icmp .ne a) h, ?_⟩
  refine List.forall_mem_cons.mpr ⟨fun h => zr_0 (K := K) (a := .pop) h, ?_⟩
  refine List.forall_mem_cons.mpr ⟨fun h => zr_0 (K := K) (a := .iconst 2) h, ?_⟩
  refine List.forall_mem_cons.mpr ⟨fun h => zr_0 (K := K) (a := .aload_n 1) h, ?_⟩
  refine List.forall_mem_cons.mpr ⟨fun h => zr_0 (K := K) (a := .iload_n 0) h, ?_⟩
  refine List.forall_mem_cons.mpr ⟨fun h => zr_0 (K := K) (a := .isub) h, ?_⟩
  refine List.forall_mem_cons.mpr ⟨fun h => zr_s2 hw (g := fun a => .sipush a) h, ?_⟩
  refine List.forall_mem_cons.mpr ⟨fun h => zr_0 (K := K) (a := .istore_n 1) h, ?_⟩
  refine List.forall_mem_cons.mpr ⟨fun h => zr_0 (K := K) (a := .aload_n 2) h, ?_⟩
  refine List.forall_mem_cons.mpr ⟨fun h => zr_0 (K := K) (a := .dup) h, ?_⟩
  refine List.forall_mem_cons.mpr ⟨fun h => zr_0 (K := K) (a := .imul) h, ?_⟩
  refine List.forall_mem_cons.mpr ⟨fun h => zr_0 (K := K) (a := .iconst 3) h, ?_⟩
  refine List.forall_mem_cons.mpr ⟨fun h => zr_s2 hw (g := fun a => .if_icmp .le a) h, ?_⟩
  refine List.forall_mem_cons.mpr ⟨fun h => zr_0 (K := K) (a := .iand) h, ?_⟩
  refine List.forall_mem_cons.mpr ⟨fun h => zr_s2 hw (g := fun a => .if_icmp .gt a) h, ?_⟩
  refine List.forall_mem_cons.mpr ⟨fun h => zr_s2 hw (g := fun a => .ifCond .lt a) h, ?_⟩
  refine List.forall_mem_cons.mpr ⟨fun h => zr_0 (K := K) (a := .iconst 4) h, ?_⟩
  refine List.forall_mem_cons.mpr ⟨fun h => zr_s2 hw (g := fun a => .if_icmp .eq a) h, ?_⟩
  refine List.forall_mem_cons.mpr ⟨fun h => zr_s2 hw (g := fun a => .ifCond .le a) h, ?_⟩
  refine List.forall_mem_cons.mpr ⟨fun h => zr_2 hw h, ?_⟩
  refine List.forall_mem_cons.mpr ⟨fun h => zr_0 (K := K) (a := .lastore) h, ?_⟩
  refine List.forall_mem_cons.mpr ⟨fun h => zr_s2 hw (g := fun a => .if_icmp .lt a) h, ?_⟩
  refine List.forall_mem_cons.mpr ⟨fun h => zr_0 (K := K) (a := .baload) h, ?_⟩
  refine List.forall_mem_cons.mpr ⟨fun h => zr_0 (K := K) (a := .iconst 5) h, ?_⟩
  refine List.forall_mem_cons.mpr ⟨fun h => zr_0 (K := K) (a := .ior) h, ?_⟩
  refine List.forall_mem_cons.mpr ⟨fun h => zr_2 hw h, ?_⟩
  refine List.forall_mem_cons.mpr ⟨fun h => zr_0 (K := K) (a := .ishl) h, ?_⟩
  refine List.forall_mem_cons.mpr ⟨fun h => zr_0 (K := K) (a := .dup2) h, ?_⟩
  refine List.forall_mem_cons.mpr ⟨fun h => zr_0 (K := K) (a := .ixor) h, ?_⟩
  refine List.forall_mem_cons.mpr ⟨fun h => zr_0 (K := K) (a := .ishr) h, ?_⟩
  refine List.forall_mem_cons.mpr ⟨fun h => zr_0 (K := K) (a := .iushr) h, ?_⟩
  refine List.forall_mem_cons.mpr ⟨fun h => zr_0 (K := K) (a := .lconst 0) h, ?_⟩
  refine List.forall_mem_cons.mpr ⟨fun h => zr_0 (K := K) (a := .laload) h, ?_⟩
  refine List.forall_mem_cons.mpr ⟨fun h => zr_s2 hw (g := fun a => .ifCond .ge a) h, ?_⟩
  refine List.forall_mem_cons.mpr ⟨fun h => zr_0 (K := K) (a := .arraylength) h, ?_⟩
  refine List.forall_mem_cons.mpr ⟨fun h => zr_1 hw h, ?_⟩
  refine List.forall_mem_cons.mpr ⟨fun h => zr_0 (K := K) (a := .bastore) h, ?_⟩
  refine List.forall_mem_cons.mpr ⟨fun h => zr_1 hw h, ?_⟩
  refine List.forall_mem_cons.mpr ⟨fun h => zr_2 hw h, ?_⟩
  refine List.forall_mem_cons.mpr ⟨fun h => zr_0 (K := K) (a := .irem) h, ?_⟩
  refine List.forall_mem_cons.mpr ⟨fun h => zr_1 hw h, ?_⟩
  refine List.forall_mem_cons.mpr ⟨fun h => zr_2 hw h, ?_⟩
  refine List.forall_mem_cons.mpr ⟨fun h => zr_0 (K := K) (a := .lload_n 1) h, ?_⟩
  refine List.forall_mem_cons.mpr ⟨fun h => zr_0 (K := K) (a := .i2c) h, ?_⟩
  refine List.forall_mem_cons.mpr ⟨fun h => zr_0 (K := K) (a := .istore_n 0) h, ?_⟩
  refine List.forall_mem_cons.mpr ⟨fun h => zr_0 (K := K) (a := .lcmp) h, ?_⟩
  refine List.forall_mem_cons.mpr ⟨fun h => zr_0 (K := K) (a := .idiv) h, ?_⟩
  refine List.forall_mem_cons.mpr ⟨fun h => zr_0 (K := K) (a := .lreturn) h, ?_⟩
  refine List.forall_mem_cons.mpr ⟨fun h => zr_0 (K := K) (a := .aaload) h, ?_⟩
  refine List.forall_mem_cons.mpr ⟨fun h => zr_1 hw h, ?_⟩
  refine List.forall_mem_cons.mpr ⟨fun h => zr_0 (K := K) (a := .i2b) h, ?_⟩
  refine List.forall_mem_cons.mpr ⟨fun h => zr_0 (K := K) (a := .athrow) h, ?_⟩
  refine List.forall_mem_cons.mpr ⟨fun h => zr_0 (K := K) (a := .aconst_null) h, ?_⟩
  refine List.forall_mem_cons.mpr ⟨fun h => zr_0 (K := K) (a := .lstore_n 1) h, ?_⟩
  refine List.forall_mem_cons.mpr ⟨fun h => zr_0 (K := K) (a := .lload_n 0) h, ?_⟩
  refine List.forall_mem_cons.mpr ⟨fun h => zr_0 (K := K) (a := .i2l) h, ?_⟩
  refine List.forall_mem_cons.mpr ⟨fun h => zr_s2 hw (g := fun a => .ifCond .gt a) h, ?_⟩
  refine List.forall_mem_cons.mpr ⟨fun h => zr_0 (K := K) (a := .aload_n 3) h, ?_⟩
  refine List.forall_mem_cons.mpr ⟨fun h => zr_0 (K := K) (a := .astore_n 2) h, ?_⟩
  refine List.forall_mem_cons.mpr ⟨fun h => zr_0 (K := K) (a := .l2i) h, ?_⟩
  refine List.forall_mem_cons.mpr ⟨fun h => zr_2 hw h, ?_⟩
  refine List.forall_mem_cons.mpr ⟨fun h => zr_0 (K := K) (a := .aastore) h, ?_⟩
  refine List.forall_mem_cons.mpr ⟨fun h => zr_2 hw h, ?_⟩
  refine List.forall_mem_cons.mpr ⟨fun h => zr_0 (K := K) (a := .lmul) h, ?_⟩
  refine List.forall_mem_cons.mpr ⟨fun h => zr_0 (K := K) (a := .ladd) h, ?_⟩
  refine List.forall_mem_cons.mpr ⟨fun h => zr_0 (K := K) (a := .astore_n 1) h, ?_⟩
  refine List.forall_mem_cons.mpr ⟨fun h => zr_1 hw h, ?_⟩
  refine List.forall_mem_cons.mpr ⟨fun h => zr_0 (K := K) (a := .lload_n 2) h, ?_⟩
  refine List.forall_mem_cons.mpr ⟨fun h => zr_0 (K := K) (a := .ineg) h, ?_⟩
  exact fun _ h => absurd h List.not_mem_nil

/-- a row of the window is a row of the code -/
theorem zrD {L K : ByteArray} {n i pc len : Nat} {ins : Instr} (hw : zrW n L K) (h : zrRow K i ins len = true) (hp : n + i = pc) : decode L pc = .ok (ins, len) := by
  subst hp
  unfold zrRow at h
  split at h
  · rename_i o ho
    obtain ⟨hm, h⟩ := Bool.and_eq_true_iff.mp h
    obtain ⟨hi, ho⟩ := List.getElem?_eq_some_iff.mp ho
    obtain ⟨hl, e⟩ := hw.at (i := i) (by simpa using hi)
    have e : L[n + i] = o := e.trans ho
    split at h
    · rename_i p hr
      obtain ⟨h1, h2⟩ := Bool.and_eq_true_iff.mp h
      have h1 := of_decide_eq_true h1
      have h2 := Nat.eq_of_beq_eq_true h2
      rw [← e] at hm hr
      have g := zrInstr hw (n + i) i p.1 p.2 hl (List.contains_iff_mem.mp hm) hr
      have d : decode L (n + i) = (match Reader.runAt (Decoder.instr (n + i)) L (n + i) with | .ok aq => .ok (aq.1, aq.2 - (n + i)) | .error e => .error e) := by
        show Except.bind (Reader.runAt (Decoder.instr (n + i)) L (n + i)) (fun aq => .ok (aq.1, aq.2 - (n + i))) = _
        cases Reader.runAt (Decoder.instr (n + i)) L (n + i) <;> rfl
      rw [d, g]
      show Except.ok (p.1, n + p.2 - (n + i)) = Except.ok (ins, len)
      rw [h1, h2, show n + (i + len) - (n + i) = len by omega]
    · cases h
  · cases h
end
