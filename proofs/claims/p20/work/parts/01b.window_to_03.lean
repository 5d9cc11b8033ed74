-- 01b.window
section
/-! what is read in a window of the code is read in the code -/
section
variable {α β : Type} {n i q : Nat} {L K : ByteArray}

/-- K is the window of L from n on -/
def zrW (n : Nat) (L K : ByteArray) : Prop := (L.data.toList.drop n).take K.data.toList.length = K.data.toList

theorem zrW.at (h : zrW n L K) {i : Nat} (hi : i < K.size) : ∃ hl : n + i < L.size, L[n + i] = K[i] := by
  have e : (L.data.toList.drop n)[i]? = K.data.toList[i]? := by
    rw [← (show (L.data.toList.drop n).take K.data.toList.length = K.data.toList from h), List.getElem?_take]
    simp only [if_pos (show i < K.data.toList.length from by simpa using hi)]
  rw [List.getElem?_drop] at e
  have hk : i < K.data.toList.length := by simpa using hi
  rw [List.getElem?_eq_getElem hk] at e
  obtain ⟨hl, e⟩ := List.getElem?_eq_some_iff.mp e
  exact ⟨by simpa using hl, e⟩

theorem zr_bind {ε : Type} (r : Reader ε α) (f : α → Reader ε β) (B : ByteArray) (p : Nat) :
    Reader.runAt (r >>= f) B p = (match Reader.runAt r B p with | .ok aq => Reader.runAt (f aq.1) B aq.2 | .error e => .error e) := by
  show Except.bind (Reader.runAt r B p) (fun aq => Reader.runAt (f aq.1) B aq.2) = _
  cases Reader.runAt r B p <;> rfl

theorem zr_u1 {ε : Type} [HasTruncated ε] (B : ByteArray) (p : Nat) :
    Reader.runAt (ε := ε) Reader.u1 B p = if h : p < B.size then .ok (B[p].toNat, p + 1) else .error (HasTruncated.truncated p) := by
  show (dite (p < B.size) (fun h => (do set (p + 1); pure B[p].toNat : Reader ε Nat)) (fun _ => throw (HasTruncated.truncated p))) B p = _
  split <;> rfl

/-- the byte at q -/
def zrB (B : ByteArray) (q : Nat) : Option Nat := match B.data.toList[q]? with
  | some b => some b.toNat
  | none => none

theorem zr_b (hw : zrW n L K) {a : Nat} (h : zrB K q = some a) : Reader.runAt (ε := DecodeError) Reader.u1 L (n + q) = .ok (a, n + (q + 1)) := by
  unfold zrB at h
  split at h
  · rename_i b hb
    obtain ⟨hi, hb⟩ := List.getElem?_eq_some_iff.mp hb
    obtain ⟨hl, e⟩ := hw.at (i := q) (by simpa using hi)
    have e : L[n + q] = b := e.trans hb
    cases h
    rw [zr_u1, dif_pos hl, e]; rfl
  · cases h

theorem zr_b2 (hw : zrW n L K) {a b : Nat} (h : zrB K q = some a) (h2 : zrB K (q + 1) = some b) : Reader.runAt (ε := DecodeError) Reader.u2 L (n + q) = .ok (a * 256 + b, n + (q + 2)) := by
  unfold Reader.u2
  rw [zr_bind, zr_b hw h]; dsimp only
  rw [zr_bind, zr_b hw h2]; rfl

theorem zr_map {ε : Type} (g : α → β) (r : Reader ε α) (B : ByteArray) (p : Nat) {a : α} {j : Nat} (h : Reader.runAt r B p = .ok (a, j)) : Reader.runAt (g <$> r) B p = .ok (g a, j) := by
  have e : Reader.runAt (r >>= fun a => Pure.pure (g a)) B p = .ok (g a, j) := by rw [zr_bind, h]; rfl
  exact e

def zrO0 (a : Instr) (_ : ByteArray) (q : Nat) : Option (Instr × Nat) := some (a, q)
def zrO1 (f : Nat → Instr) (B : ByteArray) (q : Nat) : Option (Instr × Nat) := match zrB B q with
  | some a => some (f a, q + 1)
  | none => none
def zrO2 (f : Nat → Instr) (B : ByteArray) (q : Nat) : Option (Instr × Nat) := match zrB B q with
  | some a => match zrB B (q + 1) with
    | some b => some (f (a * 256 + b), q + 2)
    | none => none
  | none => none
def zrO11 (f : Nat → Nat → Instr) (B : ByteArray) (q : Nat) : Option (Instr × Nat) := match zrB B q with
  | some a => match zrB B (q + 1) with
    | some b => some (f a b, q + 2)
    | none => none
  | none => none

variable {x : Instr} {j : Nat}

theorem zr_0 {a : Instr} (h : zrO0 a K q = some (x, j)) : Reader.runAt (ε := DecodeError) (pure a) L (n + q) = .ok (x, n + j) := by
  cases h; rfl

theorem zr_1 (hw : zrW n L K) {f : Nat → Instr} (h : zrO1 f K q = some (x, j)) : Reader.runAt (ε := DecodeError) (Reader.u1 >>= fun a => pure (f a)) L (n + q) = .ok (x, n + j) := by
  unfold zrO1 at h
  split at h
  · rename_i a ha
    cases h
    rw [zr_bind, zr_b hw ha]; rfl
  · cases h

theorem zr_s1 (hw : zrW n L K) {g : Int → Instr} (h : zrO1 (fun a => g (Reader.signed 8 a)) K q = some (x, j)) : Reader.runAt (ε := DecodeError) (Reader.s1 >>= fun a => pure (g a)) L (n + q) = .ok (x, n + j) := by
  unfold zrO1 at h
  split at h
  · rename_i a ha
    cases h
    unfold Reader.s1
    rw [zr_bind, zr_map _ _ _ _ (zr_b hw ha)]; rfl
  · cases h

theorem zr_2 (hw : zrW n L K) {f : Nat → Instr} (h : zrO2 f K q = some (x, j)) : Reader.runAt (ε := DecodeError) (Reader.u2 >>= fun a => pure (f a)) L (n + q) = .ok (x, n + j) := by
  unfold zrO2 at h
  split at h
  · rename_i a ha
    split at h
    · rename_i b hb
      cases h
      rw [zr_bind, zr_b2 hw ha hb]; rfl
    · cases h
  · cases h

theorem zr_s2 (hw : zrW n L K) {g : Int → Instr} (h : zrO2 (fun a => g (Reader.signed 16 a)) K q = some (x, j)) : Reader.runAt (ε := DecodeError) (Reader.s2 >>= fun a => pure (g a)) L (n + q) = .ok (x, n + j) := by
  unfold zrO2 at h
  split at h
  · rename_i a ha
    split at h
    · rename_i b hb
      cases h
      unfold Reader.s2
      rw [zr_bind, zr_map _ _ _ _ (zr_b2 hw ha hb)]; rfl
    · cases h
  · cases h

theorem zr_11 (hw : zrW n L K) {g : Nat → Int → Instr} (h : zrO11 (fun a b => g a (Reader.signed 8 b)) K q = some (x, j)) : Reader.runAt (ε := DecodeError) (Reader.u1 >>= fun a => Reader.s1 >>= fun b => pure (g a b)) L (n + q) = .ok (x, n + j) := by
  unfold zrO11 at h
  split at h
  · rename_i a ha
    split at h
    · rename_i b hb
      cases h
      rw [zr_bind, zr_b hw ha]; dsimp only
      unfold Reader.s1
      rw [zr_bind, zr_map _ _ _ _ (zr_b hw hb)]; rfl
    · cases h
  · cases h

/-- the opcodes that are read so -/
def zrOps : List Nat := 42 :: 180 :: 182 :: 27 :: 3 :: 16 :: 29 :: 46 :: 28 :: 172 :: 167 :: 4 :: 21 :: 96 :: 181 :: 184 :: 132 :: 162 :: 153 :: 154 :: 54 :: 79 :: 2 :: 61 :: 62 :: 177 :: 160 :: 87 :: 5 :: 43 :: 26 :: 100 :: 17 :: 60 :: 44 :: 89 :: 104 :: 6 :: 164 :: 126 :: 163 :: 155 :: 7 :: 159 :: 158 :: 183 :: 80 :: 161 :: 51 :: 8 :: 128 :: 187 :: 120 :: 92 :: 130 :: 122 :: 124 :: 9 :: 47 :: 156 :: 190 :: 18 :: 84 :: 25 :: 178 :: 112 :: 22 :: 19 :: 31 :: 146 :: 59 :: 148 :: 108 :: 173 :: 50 :: 55 :: 145 :: 191 :: 1 :: 64 :: 30 :: 133 :: 157 :: 45 :: 77 :: 136 :: 189 :: 83 :: 20 :: 105 :: 97 :: 76 :: 58 :: 32 :: 116 :: []

/-- what stands behind the opcode -/
def zrRun (o : Nat) : ByteArray → Nat → Option (Instr × Nat) := bif Nat.blt o 89 then (bif Nat.blt o 32 then (bif Nat.blt o 18 then (bif Nat.blt o 6 then (bif Nat.blt o 3 then (bif Nat.blt o 2 then (bif Nat.beq o 1 then zrO0 (.aconst_null) else fun _ _ => none) else (bif Nat.beq o 2 then zrO0 (.iconst (-1)) else fun _ _ => none)) else (bif Nat.blt o 4 then (bif Nat.beq o 3 then zrO0 (.iconst 0) else fun _ _ => none) else (bif Nat.blt o 5 then (bif Nat.beq o 4 then zrO0 (.iconst 1) else fun _ _ => none) else (bif Nat.beq o 5 then zrO0 (.iconst 2) else fun _ _ => none)))) else (bif Nat.blt o 9 then (bif Nat.blt o 7 then (bif Nat.beq o 6 then zrO0 (.iconst 3) else fun _ _ => none) else (bif Nat.blt o 8 then (bif Nat.beq o 7 then zrO0 (.iconst 4) else fun _ _ => none) else (bif Nat.beq o 8 then zrO0 (.iconst 5) else fun _ _ => none))) else (bif Nat.blt o 16 then (bif Nat.beq o 9 then zrO0 (.lconst 0) else fun _ _ => none) else (bif Nat.blt o 17 then (bif Nat.beq o 16 then zrO1 (fun a => .bipush (Reader.signed 8 a)) else fun _ _ => none) else (bif Nat.beq o 17 then zrO2 (fun a => .sipush (Reader.signed 16 a)) else fun _ _ => none))))) else (bif Nat.blt o 26 then (bif Nat.blt o 21 then (bif Nat.blt o 19 then (bif Nat.beq o 18 then zrO1 (fun a => .ldc a) else fun _ _ => none) else (bif Nat.blt o 20 then (bif Nat.beq o 19 then zrO2 (fun a => .ldc_w a) else fun _ _ => none) else (bif Nat.beq o 20 then zrO2 (fun a => .ldc2_w a) else fun _ _ => none))) else (bif Nat.blt o 22 then (bif Nat.beq o 21 then zrO1 (fun a => .iload a) else fun _ _ => none) else (bif Nat.blt o 25 then (bif Nat.beq o 22 then zrO1 (fun a => .lload a) else fun _ _ => none) else (bif Nat.beq o 25 then zrO1 (fun a => .aload a) else fun _ _ => none)))) else (bif Nat.blt o 29 then (bif Nat.blt o 27 then (bif Nat.beq o 26 then zrO0 (.iload_n 0) else fun _ _ => none) else (bif Nat.blt o 28 then (bif Nat.beq o 27 then zrO0 (.iload_n 1) else fun _ _ => none) else (bif Nat.beq o 28 then zrO0 (.iload_n 2) else fun _ _ => none))) else (bif Nat.blt o 30 then (bif Nat.beq o 29 then zrO0 (.iload_n 3) else fun _ _ => none) else (bif Nat.blt o 31 then (bif Nat.beq o 30 then zrO0 (.lload_n 0) else fun _ _ => none) else (bif Nat.beq o 31 then zrO0 (.lload_n 1) else fun _ _ => none)))))) else (bif Nat.blt o 59 then (bif Nat.blt o 47 then (bif Nat.blt o 44 then (bif Nat.blt o 42 then (bif Nat.beq o 32 then zrO0 (.lload_n 2) else fun _ _ => none) else (bif Nat.blt o 43 then (bif Nat.beq o 42 then zrO0 (.aload_n 0) else fun _ _ => none) else (bif Nat.beq o 43 then zrO0 (.aload_n 1) else fun _ _ => none))) else (bif Nat.blt o 45 then (bif Nat.beq o 44 then zrO0 (.aload_n 2) else fun _ _ => none) else (bif Nat.blt o 46 then (bif Nat.beq o 45 then zrO0 (.aload_n 3) else fun _ _ => none) else (bif Nat.beq o 46 then zrO0 (.iaload) else fun _ _ => none)))) else (bif Nat.blt o 54 then (bif Nat.blt o 50 then (bif Nat.beq o 47 then zrO0 (.laload) else fun _ _ => none) else (bif Nat.blt o 51 then (bif Nat.beq o 50 then zrO0 (.aaload) else fun _ _ => none) else (bif Nat.beq o 51 then zrO0 (.baload) else fun _ _ => none))) else (bif Nat.blt o 55 then (bif Nat.beq o 54 then zrO1 (fun a => .istore a) else fun _ _ => none) else (bif Nat.blt o 58 then (bif Nat.beq o 55 then zrO1 (fun a => .lstore a) else fun _ _ => none) else (bif Nat.beq o 58 then zrO1 (fun a => .astore a) else fun _ _ => none))))) else (bif Nat.blt o 77 then (bif Nat.blt o 62 then (bif Nat.blt o 60 then (bif Nat.beq o 59 then zrO0 (.istore_n 0) else fun _ _ => none) else (bif Nat.blt o 61 then (bif Nat.beq o 60 then zrO0 (.istore_n 1) else fun _ _ => none) else (bif Nat.beq o 61 then zrO0 (.istore_n 2) else fun _ _ => none))) else (bif Nat.blt o 64 then (bif Nat.beq o 62 then zrO0 (.istore_n 3) else fun _ _ => none) else (bif Nat.blt o 76 then (bif Nat.beq o 64 then zrO0 (.lstore_n 1) else fun _ _ => none) else (bif Nat.beq o 76 then zrO0 (.astore_n 1) else fun _ _ => none)))) else (bif Nat.blt o 83 then (bif Nat.blt o 79 then (bif Nat.beq o 77 then zrO0 (.astore_n 2) else fun _ _ => none) else (bif Nat.blt o 80 then (bif Nat.beq o 79 then zrO0 (.iastore) else fun _ _ => none) else (bif Nat.beq o 80 then zrO0 (.lastore) else fun _ _ => none))) else (bif Nat.blt o 84 then (bif Nat.beq o 83 then zrO0 (.aastore) else fun _ _ => none) else (bif Nat.blt o 87 then (bif Nat.beq o 84 then zrO0 (.bastore) else fun _ _ => none) else (bif Nat.beq o 87 then zrO0 (.pop) else fun _ _ => none))))))) else (bif Nat.blt o 155 then (bif Nat.blt o 124 then (bif Nat.blt o 105 then (bif Nat.blt o 97 then (bif Nat.blt o 92 then (bif Nat.beq o 89 then zrO0 (.dup) else fun _ _ => none) else (bif Nat.blt o 96 then (bif Nat.beq o 92 then zrO0 (.dup2) else fun _ _ => none) else (bif Nat.beq o 96 then zrO0 (.iadd) else fun _ _ => none))) else (bif Nat.blt o 100 then (bif Nat.beq o 97 then zrO0 (.ladd) else fun _ _ => none) else (bif Nat.blt o 104 then (bif Nat.beq o 100 then zrO0 (.isub) else fun _ _ => none) else (bif Nat.beq o 104 then zrO0 (.imul) else fun _ _ => none)))) else (bif Nat.blt o 116 then (bif Nat.blt o 108 then (bif Nat.beq o 105 then zrO0 (.lmul) else fun _ _ => none) else (bif Nat.blt o 112 then (bif Nat.beq o 108 then zrO0 (.idiv) else fun _ _ => none) else (bif Nat.beq o 112 then zrO0 (.irem) else fun _ _ => none))) else (bif Nat.blt o 120 then (bif Nat.beq o 116 then zrO0 (.ineg) else fun _ _ => none) else (bif Nat.blt o 122 then (bif Nat.beq o 120 then zrO0 (.ishl) else fun _ _ => none) else (bif Nat.beq o 122 then zrO0 (.ishr) else fun _ _ => none))))) else (bif Nat.blt o 136 then (bif Nat.blt o 130 then (bif Nat.blt o 126 then (bif Nat.beq o 124 then zrO0 (.iushr) else fun _ _ => none) else (bif Nat.blt o 128 then (bif Nat.beq o 126 then zrO0 (.iand) else fun _ _ => none) else (bif Nat.beq o 128 then zrO0 (.ior) else fun _ _ => none))) else (bif Nat.blt o 132 then (bif Nat.beq o 130 then zrO0 (.ixor) else fun _ _ => none) else (bif Nat.blt o 133 then (bif Nat.beq o 132 then zrO11 (fun a b => .iinc a (Reader.signed 8 b)) else fun _ _ => none) else (bif Nat.beq o 133 then zrO0 (.i2l) else fun _ _ => none)))) else (bif Nat.blt o 148 then (bif Nat.blt o 145 then (bif Nat.beq o 136 then zrO0 (.l2i) else fun _ _ => none) else (bif Nat.blt o 146 then (bif Nat.beq o 145 then zrO0 (.i2b) else fun _ _ => none) else (bif Nat.beq o 146 then zrO0 (.i2c) else fun _ _ => none))) else (bif Nat.blt o 153 then (bif Nat.beq o 148 then zrO0 (.lcmp) else fun _ _ => none) else (bif Nat.blt o 154 then (bif Nat.beq o 153 then zrO2 (fun a => .ifCond .eq (Reader.signed 16 a)) else fun _ _ => none) else (bif Nat.beq o 154 then zrO2 (fun a => .ifCond .ne (Reader.signed 16 a)) else fun _ _ => none)))))) else (bif Nat.blt o 173 then (bif Nat.blt o 161 then (bif Nat.blt o 158 then (bif Nat.blt o 156 then (bif Nat.beq o 155 then zrO2 (fun a => .ifCond .lt (Reader.signed 16 a)) else fun _ _ => none) else (bif Nat.blt o 157 then (bif Nat.beq o 156 then zrO2 (fun a => .ifCond .ge (Reader.signed 16 a)) else fun _ _ => none) else (bif Nat.beq o 157 then zrO2 (fun a => .ifCond .gt (Reader.signed 16 a)) else fun _ _ => none))) else (bif Nat.blt o 159 then (bif Nat.beq o 158 then zrO2 (fun a => .ifCond .le (Reader.signed 16 a)) else fun _ _ => none) else (bif Nat.blt o 160 then (bif Nat.beq o 159 then zrO2 (fun a => .if_icmp .eq (Reader.signed 16 a)) else fun _ _ => none) else (bif Nat.beq o 160 then zrO2 (fun a => .if_icmp .ne (Reader.signed 16 a)) else fun _ _ => none)))) else (bif Nat.blt o 164 then (bif Nat.blt o 162 then (bif Nat.beq o 161 then zrO2 (fun a => .if_icmp .lt (Reader.signed 16 a)) else fun _ _ => none) else (bif Nat.blt o 163 then (bif Nat.beq o 162 then zrO2 (fun a => .if_icmp .ge (Reader.signed 16 a)) else fun _ _ => none) else (bif Nat.beq o 163 then zrO2 (fun a => .if_icmp .gt (Reader.signed 16 a)) else fun _ _ => none))) else (bif Nat.blt o 167 then (bif Nat.beq o 164 then zrO2 (fun a => .if_icmp .le (Reader.signed 16 a)) else fun _ _ => none) else (bif Nat.blt o 172 then (bif Nat.beq o 167 then zrO2 (fun a => .goto (Reader.signed 16 a)) else fun _ _ => none) else (bif Nat.beq o 172 then zrO0 (.ireturn) else fun _ _ => none))))) else (bif Nat.blt o 183 then (bif Nat.blt o 180 then (bif Nat.blt o 177 then (bif Nat.beq o 173 then zrO0 (.lreturn) else fun _ _ => none) else (bif Nat.blt o 178 then (bif Nat.beq o 177 then zrO0 (.return_) else fun _ _ => none) else (bif Nat.beq o 178 then zrO2 (fun a => .getstatic a) else fun _ _ => none))) else (bif Nat.blt o 181 then (bif Nat.beq o 180 then zrO2 (fun a => .getfield a) else fun _ _ => none) else (bif Nat.blt o 182 then (bif Nat.beq o 181 then zrO2 (fun a => .putfield a) else fun _ _ => none) else (bif Nat.beq o 182 then zrO2 (fun a => .invokevirtual a) else fun _ _ => none)))) else (bif Nat.blt o 189 then (bif Nat.blt o 184 then (bif Nat.beq o 183 then zrO2 (fun a => .invokespecial a) else fun _ _ => none) else (bif Nat.blt o 187 then (bif Nat.beq o 184 then zrO2 (fun a => .invokestatic a) else fun _ _ => none) else (bif Nat.beq o 187 then zrO2 (fun a => .new a) else fun _ _ => none))) else (bif Nat.blt o 190 then (bif Nat.beq o 189 then zrO2 (fun a => .anewarray a) else fun _ _ => none) else (bif Nat.blt o 191 then (bif Nat.beq o 190 then zrO0 (.arraylength) else fun _ _ => none) else (bif Nat.beq o 191 then zrO0 (.athrow) else fun _ _ => none)))))))

/-- a row of the window: opcode, operands, length -/
def zrRow (K : ByteArray) (i : Nat) (ins : Instr) (len : Nat) : Bool := match K.data.toList[i]? with
  | some o => zrOps.contains o.toNat && match zrRun o.toNat K (i + 1) with
    | some p => decide (p.1 = ins) && Nat.beq p.2 (i + len)
    | none => false
  | none => false

set_option maxRecDepth 100000 in
theorem zrInstr (hw : zrW n L K) (pc q : Nat) (x : Instr) (j : Nat) (hl : n + i < L.size) (hm : L[n + i].toNat ∈ zrOps) (h : zrRun L[n + i].toNat K (i + 1) = some (x, j)) :
    Reader.runAt (Decoder.instr pc) L (n + i) = .ok (x, n + j) := by
  unfold Decoder.instr
  rw [zr_bind, zr_u1, dif_pos hl]
  dsimp only
  revert h
  generalize L[n + i].toNat = o at hm ⊢
  revert o hm
  unfold zrOps
  refine List.forall_mem_cons.mpr ⟨fun h => zr_0 (K := K) (a := .aload_n 0) h, ?_⟩
  refine List.forall_mem_cons.mpr ⟨fun h => zr_2 hw h, ?_⟩
  refine List.forall_mem_cons.mpr ⟨fun h => zr_2 hw h, ?_⟩
  refine List.forall_mem_cons.mpr ⟨fun h => zr_0 (K := K) (a := .iload_n 1) h, ?_⟩
  refine List.forall_mem_cons.mpr ⟨fun h => zr_0 (K := K) (a := .iconst 0) h, ?_⟩
  refine List.forall_mem_cons.mpr ⟨fun h => zr_s1 hw (g := fun a => .bipush a) h, ?_⟩
  refine List.forall_mem_cons.mpr ⟨fun h => zr_0 (K := K) (a := .iload_n 3) h, ?_⟩
  refine List.forall_mem_cons.mpr ⟨fun h => zr_0 (K := K) (a := .iaload) h, ?_⟩
  refine List.forall_mem_cons.mpr ⟨fun h => zr_0 (K := K) (a := .iload_n 2) h, ?_⟩
  refine List.forall_mem_cons.mpr ⟨fun h => zr_0 (K := K) (a := .ireturn) h, ?_⟩
  refine List.forall_mem_cons.mpr ⟨fun h => zr_s2 hw (g := fun a => .goto a) h, ?_⟩
  refine List.forall_mem_cons.mpr ⟨fun h => zr_0 (K := K) (a := .iconst 1) h, ?_⟩
  refine List.forall_mem_cons.mpr ⟨fun h => zr_1 hw h, ?_⟩
  refine List.forall_mem_cons.mpr ⟨fun h => zr_0 (K := K) (a := .iadd) h, ?_⟩
  refine List.forall_mem_cons.mpr ⟨fun h => zr_2 hw h, ?_⟩
  refine List.forall_mem_cons.mpr ⟨fun h => zr_2 hw h, ?_⟩
  refine List.forall_mem_cons.mpr ⟨fun h => zr_11 hw (g := fun a b => .iinc a b) h, ?_⟩
  refine List.forall_mem_cons.mpr ⟨fun h => zr_s2 hw (g := fun a => .if_icmp .ge a) h, ?_⟩
  refine List.forall_mem_cons.mpr ⟨fun h => zr_s2 hw (g := fun a => .ifCond .eq a) h, ?_⟩
  refine List.forall_mem_cons.mpr ⟨fun h => zr_s2 hw (g := fun a => .ifCond .ne a) h, ?_⟩
  refine List.forall_mem_cons.mpr ⟨fun h => zr_1 hw h, ?_⟩
  refine List.forall_mem_cons.mpr ⟨fun h => zr_0 (K := K) (a := .iastore) h, ?_⟩
  refine List.forall_mem_cons.mpr ⟨fun h => zr_0 (K := K) (a := .iconst (-1)) h, ?_⟩
  refine List.forall_mem_cons.mpr ⟨fun h => zr_0 (K := K) (a := .istore_n 2) h, ?_⟩
  refine List.forall_mem_cons.mpr ⟨fun h => zr_0 (K := K) (a := .istore_n 3) h, ?_⟩
  refine List.forall_mem_cons.mpr ⟨fun h => zr_0 (K := K) (a := .return_) h, ?_⟩
  refine List.forall_mem_cons.mpr ⟨fun h => zr_s2 hw (g := fun a => .if_icmp .ne a) h, ?_⟩
  refine List.forall_mem_cons.mpr ⟨fun h => zr_0 (K := K) (a := .pop) h, ?_⟩
  refine List.forall_mem_cons.mpr ⟨fun h => zr_0 (K := K) (a := .iconst 2) h, ?_⟩
  refine List.forall_mem_cons.mpr ⟨fun h => zr_0 (K := K) (a := .aload_n 1) h, ?_⟩
  refine List.forall_mem_cons.mpr ⟨fun h => zr_0 (K := K) (a := .iload_n 0) h, ?_⟩
  refine List.forall_mem_cons.mpr ⟨fun h => zr_0 (K := K) (a := .isub) h, ?_⟩
  refine List.forall_mem_cons.mpr ⟨fun h => zr_s2 hw (g := fun a => .sipush a) h, ?_⟩
  refine List.forall_mem_cons.mpr ⟨fun h => zr_0 (K := K) (a := .istore_n 1) h, ?_⟩
  refine List.forall_mem_cons.mpr ⟨fun h => zr_0 (K := K) (a := .aload_n 2) h, ?_⟩
  refine List.forall_mem_cons.mpr ⟨fun h => zr_0 (K := K) (a := .dup) h, ?_⟩
  refine List.forall_mem_cons.mpr ⟨fun h => zr_0 (K := K) (a := .imul) h, ?_⟩
  refine List.forall_mem_cons.mpr ⟨fun h => zr_0 (K := K) (a := .iconst 3) h, ?_⟩
  refine List.forall_mem_cons.mpr ⟨fun h => zr_s2 hw (g := fun a => .if_icmp .le a) h, ?_⟩
  refine List.forall_mem_cons.mpr ⟨fun h => zr_0 (K := K) (a := .iand) h, ?_⟩
  refine List.forall_mem_cons.mpr ⟨fun h => zr_s2 hw (g := fun a => .if_icmp .gt a) h, ?_⟩
  refine List.forall_mem_cons.mpr ⟨fun h => zr_s2 hw (g := fun a => .ifCond .lt a) h, ?_⟩
  refine List.forall_mem_cons.mpr ⟨fun h => zr_0 (K := K) (a := .iconst 4) h, ?_⟩
  refine List.forall_mem_cons.mpr ⟨fun h => zr_s2 hw (g := fun a => .if_icmp .eq a) h, ?_⟩
  refine List.forall_mem_cons.mpr ⟨fun h => zr_s2 hw (g := fun a => .ifCond .le a) h, ?_⟩
  refine List.forall_mem_cons.mpr ⟨fun h => zr_2 hw h, ?_⟩
  refine List.forall_mem_cons.mpr ⟨fun h => zr_0 (K := K) (a := .lastore) h, ?_⟩
  refine List.forall_mem_cons.mpr ⟨fun h => zr_s2 hw (g := fun a => .if_icmp .lt a) h, ?_⟩
  refine List.forall_mem_cons.mpr ⟨fun h => zr_0 (K := K) (a := .baload) h, ?_⟩
  refine List.forall_mem_cons.mpr ⟨fun h => zr_0 (K := K) (a := .iconst 5) h, ?_⟩
  refine List.forall_mem_cons.mpr ⟨fun h => zr_0 (K := K) (a := .ior) h, ?_⟩
  refine List.forall_mem_cons.mpr ⟨fun h => zr_2 hw h, ?_⟩
  refine List.forall_mem_cons.mpr ⟨fun h => zr_0 (K := K) (a := .ishl) h, ?_⟩
  refine List.forall_mem_cons.mpr ⟨fun h => zr_0 (K := K) (a := .dup2) h, ?_⟩
  refine List.forall_mem_cons.mpr ⟨fun h => zr_0 (K := K) (a := .ixor) h, ?_⟩
  refine List.forall_mem_cons.mpr ⟨fun h => zr_0 (K := K) (a := .ishr) h, ?_⟩
  refine List.forall_mem_cons.mpr ⟨fun h => zr_0 (K := K) (a := .iushr) h, ?_⟩
  refine List.forall_mem_cons.mpr ⟨fun h => zr_0 (K := K) (a := .lconst 0) h, ?_⟩
  refine List.forall_mem_cons.mpr ⟨fun h => zr_0 (K := K) (a := .laload) h, ?_⟩
  refine List.forall_mem_cons.mpr ⟨fun h => zr_s2 hw (g := fun a => .ifCond .ge a) h, ?_⟩
  refine List.forall_mem_cons.mpr ⟨fun h => zr_0 (K := K) (a := .arraylength) h, ?_⟩
  refine List.forall_mem_cons.mpr ⟨fun h => zr_1 hw h, ?_⟩
  refine List.forall_mem_cons.mpr ⟨fun h => zr_0 (K := K) (a := .bastore) h, ?_⟩
  refine List.forall_mem_cons.mpr ⟨fun h => zr_1 hw h, ?_⟩
  refine List.forall_mem_cons.mpr ⟨fun h => zr_2 hw h, ?_⟩
  refine List.forall_mem_cons.mpr ⟨fun h => zr_0 (K := K) (a := .irem) h, ?_⟩
  refine List.forall_mem_cons.mpr ⟨fun h => zr_1 hw h, ?_⟩
  refine List.forall_mem_cons.mpr ⟨fun h => zr_2 hw h, ?_⟩
  refine List.forall_mem_cons.mpr ⟨fun h => zr_0 (K := K) (a := .lload_n 1) h, ?_⟩
  refine List.forall_mem_cons.mpr ⟨fun h => zr_0 (K := K) (a := .i2c) h, ?_⟩
  refine List.forall_mem_cons.mpr ⟨fun h => zr_0 (K := K) (a := .istore_n 0) h, ?_⟩
  refine List.forall_mem_cons.mpr ⟨fun h => zr_0 (K := K) (a := .lcmp) h, ?_⟩
  refine List.forall_mem_cons.mpr ⟨fun h => zr_0 (K := K) (a := .idiv) h, ?_⟩
  refine List.forall_mem_cons.mpr ⟨fun h => zr_0 (K := K) (a := .lreturn) h, ?_⟩
  refine List.forall_mem_cons.mpr ⟨fun h => zr_0 (K := K) (a := .aaload) h, ?_⟩
  refine List.forall_mem_cons.mpr ⟨fun h => zr_1 hw h, ?_⟩
  refine List.forall_mem_cons.mpr ⟨fun h => zr_0 (K := K) (a := .i2b) h, ?_⟩
  refine List.forall_mem_cons.mpr ⟨fun h => zr_0 (K := K) (a := .athrow) h, ?_⟩
  refine List.forall_mem_cons.mpr ⟨fun h => zr_0 (K := K) (a := .aconst_null) h, ?_⟩
  refine List.forall_mem_cons.mpr ⟨fun h => zr_0 (K := K) (a := .lstore_n 1) h, ?_⟩
  refine List.forall_mem_cons.mpr ⟨fun h => zr_0 (K := K) (a := .lload_n 0) h, ?_⟩
  refine List.forall_mem_cons.mpr ⟨fun h => zr_0 (K := K) (a := .i2l) h, ?_⟩
  refine List.forall_mem_cons.mpr ⟨fun h => zr_s2 hw (g := fun a => .ifCond .gt a) h, ?_⟩
  refine List.forall_mem_cons.mpr ⟨fun h => zr_0 (K := K) (a := .aload_n 3) h, ?_⟩
  refine List.forall_mem_cons.mpr ⟨fun h => zr_0 (K := K) (a := .astore_n 2) h, ?_⟩
  refine List.forall_mem_cons.mpr ⟨fun h => zr_0 (K := K) (a := .l2i) h, ?_⟩
  refine List.forall_mem_cons.mpr ⟨fun h => zr_2 hw h, ?_⟩
  refine List.forall_mem_cons.mpr ⟨fun h => zr_0 (K := K) (a := .aastore) h, ?_⟩
  refine List.forall_mem_cons.mpr ⟨fun h => zr_2 hw h, ?_⟩
  refine List.forall_mem_cons.mpr ⟨fun h => zr_0 (K := K) (a := .lmul) h, ?_⟩
  refine List.forall_mem_cons.mpr ⟨fun h => zr_0 (K := K) (a := .ladd) h, ?_⟩
  refine List.forall_mem_cons.mpr ⟨fun h => zr_0 (K := K) (a := .astore_n 1) h, ?_⟩
  refine List.forall_mem_cons.mpr ⟨fun h => zr_1 hw h, ?_⟩
  refine List.forall_mem_cons.mpr ⟨fun h => zr_0 (K := K) (a := .lload_n 2) h, ?_⟩
  refine List.forall_mem_cons.mpr ⟨fun h => zr_0 (K := K) (a := .ineg) h, ?_⟩
  exact fun _ h => absurd h List.not_mem_nil

/-- a row of the window is a row of the code -/
theorem zrD {L K : ByteArray} {n i pc len : Nat} {ins : Instr} (hw : zrW n L K) (h : zrRow K i ins len = true) (hp : n + i = pc) : decode L pc = .ok (ins, len) := by
  subst hp
  unfold zrRow at h
  split at h
  · rename_i o ho
    obtain ⟨hm, h⟩ := Bool.and_eq_true_iff.mp h
    obtain ⟨hi, ho⟩ := List.getElem?_eq_some_iff.mp ho
    obtain ⟨hl, e⟩ := hw.at (i := i) (by simpa using hi)
    have e : L[n + i] = o := e.trans ho
    split at h
    · rename_i p hr
      obtain ⟨h1, h2⟩ := Bool.and_eq_true_iff.mp h
      have h1 := of_decide_eq_true h1
      have h2 := Nat.eq_of_beq_eq_true h2
      rw [← e] at hm hr
      have g := zrInstr hw (n + i) i p.1 p.2 hl (List.contains_iff_mem.mp hm) hr
      have d : decode L (n + i) = (match Reader.runAt (Decoder.instr (n + i)) L (n + i) with | .ok aq => .ok (aq.1, aq.2 - (n + i)) | .error e => .error e) := by
        show Except.bind (Reader.runAt (Decoder.instr (n + i)) L (n + i)) (fun aq => .ok (aq.1, aq.2 - (n + i))) = _
        cases Reader.runAt (Decoder.instr (n + i)) L (n + i) <;> rfl
      rw [d, g]
      show Except.ok (p.1, n + p.2 - (n + i)) = Except.ok (ins, len)
      rw [h1, h2, show n + (i + len) - (n + i) = len by omega]
    · cases h
  · cases h
end
end
-- 02.decJL
section
def zrk_cJ0_length_8abf5_0 : ByteArray := .mk #[42, 180, 0, 9, 190, 42, 182, 1, 79, 122, 172]
theorem zrw_cJ0_length_8abf5_0 : zrW 0 cJ0_length_8abf5 zrk_cJ0_length_8abf5_0 := by unfold zrW; decide +kernel
theorem dJ0_length_8abf5_0 : decode cJ0_length_8abf5 0 = .ok (.aload_n 0, 1) := zrD zrw_cJ0_length_8abf5_0 (i := 0) (by decide +kernel) rfl
theorem dJ0_length_8abf5_1 : decode cJ0_length_8abf5 1 = .ok (.getfield 9, 3) := zrD zrw_cJ0_length_8abf5_0 (i := 1) (by decide +kernel) rfl
theorem dJ0_length_8abf5_4 : decode cJ0_length_8abf5 4 = .ok (.arraylength, 1) := zrD zrw_cJ0_length_8abf5_0 (i := 4) (by decide +kernel) rfl
theorem dJ0_length_8abf5_5 : decode cJ0_length_8abf5 5 = .ok (.aload_n 0, 1) := zrD zrw_cJ0_length_8abf5_0 (i := 5) (by decide +kernel) rfl
theorem dJ0_length_8abf5_6 : decode cJ0_length_8abf5 6 = .ok (.invokevirtual 335, 3) := zrD zrw_cJ0_length_8abf5_0 (i := 6) (by decide +kernel) rfl
theorem dJ0_length_8abf5_9 : decode cJ0_length_8abf5 9 = .ok (.ishr, 1) := zrD zrw_cJ0_length_8abf5_0 (i := 9) (by decide +kernel) rfl
theorem dJ0_length_8abf5_10 : decode cJ0_length_8abf5 10 = .ok (.ireturn, 1) := zrD zrw_cJ0_length_8abf5_0 (i := 10) (by decide +kernel) rfl
def zrk_cJ0_charAt_5068e_0 : ByteArray := .mk #[42, 182, 1, 236, 153, 0, 12, 42, 180, 0, 9, 27, 184, 1, 239, 172, 42, 180, 0, 9, 27, 184, 1, 242, 172]
theorem zrw_cJ0_charAt_5068e_0 : zrW 0 cJ0_charAt_5068e zrk_cJ0_charAt_5068e_0 := by unfold zrW; decide +kernel
theorem dJ0_charAt_5068e_0 : decode cJ0_charAt_5068e 0 = .ok (.aload_n 0, 1) := zrD zrw_cJ0_charAt_5068e_0 (i := 0) (by decide +kernel) rfl
theorem dJ0_charAt_5068e_1 : decode cJ0_charAt_5068e 1 = .ok (.invokevirtual 492, 3) := zrD zrw_cJ0_charAt_5068e_0 (i := 1) (by decide +kernel) rfl
theorem dJ0_charAt_5068e_4 : decode cJ0_charAt_5068e 4 = .ok (.ifCond .eq 12, 3) := zrD zrw_cJ0_charAt_5068e_0 (i := 4) (by decide +kernel) rfl
theorem dJ0_charAt_5068e_7 : decode cJ0_charAt_5068e 7 = .ok (.aload_n 0, 1) := zrD zrw_cJ0_charAt_5068e_0 (i := 7) (by decide +kernel) rfl
theorem dJ0_charAt_5068e_8 : decode cJ0_charAt_5068e 8 = .ok (.getfield 9, 3) := zrD zrw_cJ0_charAt_5068e_0 (i := 8) (by decide +kernel) rfl
theorem dJ0_charAt_5068e_11 : decode cJ0_charAt_5068e 11 = .ok (.iload_n 1, 1) := zrD zrw_cJ0_charAt_5068e_0 (i := 11) (by decide +kernel) rfl
theorem dJ0_charAt_5068e_12 : decode cJ0_charAt_5068e 12 = .ok (.invokestatic 495, 3) := zrD zrw_cJ0_charAt_5068e_0 (i := 12) (by decide +kernel) rfl
theorem dJ0_charAt_5068e_15 : decode cJ0_charAt_5068e 15 = .ok (.ireturn, 1) := zrD zrw_cJ0_charAt_5068e_0 (i := 15) (by decide +kernel) rfl
def zrk_cJ0_indexOf_0f7a4_0 : ByteArray := .mk #[42, 27, 3, 182, 2, 121, 172]
theorem zrw_cJ0_indexOf_0f7a4_0 : zrW 0 cJ0_indexOf_0f7a4 zrk_cJ0_indexOf_0f7a4_0 := by unfold zrW; decide +kernel
theorem dJ0_indexOf_0f7a4_0 : decode cJ0_indexOf_0f7a4 0 = .ok (.aload_n 0, 1) := zrD zrw_cJ0_indexOf_0f7a4_0 (i := 0) (by decide +kernel) rfl
theorem dJ0_indexOf_0f7a4_1 : decode cJ0_indexOf_0f7a4 1 = .ok (.iload_n 1, 1) := zrD zrw_cJ0_indexOf_0f7a4_0 (i := 1) (by decide +kernel) rfl
theorem dJ0_indexOf_0f7a4_2 : decode cJ0_indexOf_0f7a4 2 = .ok (.iconst 0, 1) := zrD zrw_cJ0_indexOf_0f7a4_0 (i := 2) (by decide +kernel) rfl
theorem dJ0_indexOf_0f7a4_3 : decode cJ0_indexOf_0f7a4 3 = .ok (.invokevirtual 633, 3) := zrD zrw_cJ0_indexOf_0f7a4_0 (i := 3) (by decide +kernel) rfl
theorem dJ0_indexOf_0f7a4_6 : decode cJ0_indexOf_0f7a4 6 = .ok (.ireturn, 1) := zrD zrw_cJ0_indexOf_0f7a4_0 (i := 6) (by decide +kernel) rfl
def zrk_cJ0_indexOf_7cf53_0 : ByteArray := .mk #[42, 182, 1, 236, 153, 0, 19, 42, 180, 0, 9, 27, 28, 42, 182, 1, 249, 184, 2, 125, 167, 0, 16, 42, 180, 0, 9, 27, 28, 42]
theorem zrw_cJ0_indexOf_7cf53_0 : zrW 0 cJ0_indexOf_7cf53 zrk_cJ0_indexOf_7cf53_0 := by unfold zrW; decide +kernel
theorem dJ0_indexOf_7cf53_0 : decode cJ0_indexOf_7cf53 0 = .ok (.aload_n 0, 1) := zrD zrw_cJ0_indexOf_7cf53_0 (i := 0) (by decide +kernel) rfl
theorem dJ0_indexOf_7cf53_1 : decode cJ0_indexOf_7cf53 1 = .ok (.invokevirtual 492, 3) := zrD zrw_cJ0_indexOf_7cf53_0 (i := 1) (by decide +kernel) rfl
theorem dJ0_indexOf_7cf53_4 : decode cJ0_indexOf_7cf53 4 = .ok (.ifCond .eq 19, 3) := zrD zrw_cJ0_indexOf_7cf53_0 (i := 4) (by decide +kernel) rfl
theorem dJ0_indexOf_7cf53_7 : decode cJ0_indexOf_7cf53 7 = .ok (.aload_n 0, 1) := zrD zrw_cJ0_indexOf_7cf53_0 (i := 7) (by decide +kernel) rfl
theorem dJ0_indexOf_7cf53_8 : decode cJ0_indexOf_7cf53 8 = .ok (.getfield 9, 3) := zrD zrw_cJ0_indexOf_7cf53_0 (i := 8) (by decide +kernel) rfl
theorem dJ0_indexOf_7cf53_11 : decode cJ0_indexOf_7cf53 11 = .ok (.iload_n 1, 1) := zrD zrw_cJ0_indexOf_7cf53_0 (i := 11) (by decide +kernel) rfl
theorem dJ0_indexOf_7cf53_12 : decode cJ0_indexOf_7cf53 12 = .ok (.iload_n 2, 1) := zrD zrw_cJ0_indexOf_7cf53_0 (i := 12) (by decide +kernel) rfl
theorem dJ0_indexOf_7cf53_13 : decode cJ0_indexOf_7cf53 13 = .ok (.aload_n 0, 1) := zrD zrw_cJ0_indexOf_7cf53_0 (i := 13) (by decide +kernel) rfl
theorem dJ0_indexOf_7cf53_14 : decode cJ0_indexOf_7cf53 14 = .ok (.invokevirtual 505, 3) := zrD zrw_cJ0_indexOf_7cf53_0 (i := 14) (by decide +kernel) rfl
theorem dJ0_indexOf_7cf53_17 : decode cJ0_indexOf_7cf53 17 = .ok (.invokestatic 637, 3) := zrD zrw_cJ0_indexOf_7cf53_0 (i := 17) (by decide +kernel) rfl
theorem dJ0_indexOf_7cf53_20 : decode cJ0_indexOf_7cf53 20 = .ok (.goto 16, 3) := zrD zrw_cJ0_indexOf_7cf53_0 (i := 20) (by decide +kernel) rfl
def zrk_cJ0_indexOf_7cf53_30 : ByteArray := .mk #[182, 1, 249, 184, 2, 128, 172]
theorem zrw_cJ0_indexOf_7cf53_30 : zrW 30 cJ0_indexOf_7cf53 zrk_cJ0_indexOf_7cf53_30 := by unfold zrW; decide +kernel
theorem dJ0_indexOf_7cf53_36 : decode cJ0_indexOf_7cf53 36 = .ok (.ireturn, 1) := zrD zrw_cJ0_indexOf_7cf53_30 (i := 6) (by decide +kernel) rfl
def zrk_cJ0_coder_7d493_0 : ByteArray := .mk #[178, 0, 38, 153, 0, 10, 42, 180, 0, 15, 167, 0, 4, 4, 172]
theorem zrw_cJ0_coder_7d493_0 : zrW 0 cJ0_coder_7d493 zrk_cJ0_coder_7d493_0 := by unfold zrW; decide +kernel
theorem dJ0_coder_7d493_0 : decode cJ0_coder_7d493 0 = .ok (.getstatic 38, 3) := zrD zrw_cJ0_coder_7d493_0 (i := 0) (by decide +kernel) rfl
theorem dJ0_coder_7d493_3 : decode cJ0_coder_7d493 3 = .ok (.ifCond .eq 10, 3) := zrD zrw_cJ0_coder_7d493_0 (i := 3) (by decide +kernel) rfl
theorem dJ0_coder_7d493_6 : decode cJ0_coder_7d493 6 = .ok (.aload_n 0, 1) := zrD zrw_cJ0_coder_7d493_0 (i := 6) (by decide +kernel) rfl
theorem dJ0_coder_7d493_7 : decode cJ0_coder_7d493 7 = .ok (.getfield 15, 3) := zrD zrw_cJ0_coder_7d493_0 (i := 7) (by decide +kernel) rfl
theorem dJ0_coder_7d493_10 : decode cJ0_coder_7d493 10 = .ok (.goto 4, 3) := zrD zrw_cJ0_coder_7d493_0 (i := 10) (by decide +kernel) rfl
theorem dJ0_coder_7d493_14 : decode cJ0_coder_7d493 14 = .ok (.ireturn, 1) := zrD zrw_cJ0_coder_7d493_0 (i := 14) (by decide +kernel) rfl
def zrk_cJ0_isLatin1_aae02_0 : ByteArray := .mk #[178, 0, 38, 153, 0, 14, 42, 180, 0, 15, 154, 0, 7, 4, 167, 0, 4, 3, 172]
theorem zrw_cJ0_isLatin1_aae02_0 : zrW 0 cJ0_isLatin1_aae02 zrk_cJ0_isLatin1_aae02_0 := by unfold zrW; decide +kernel
theorem dJ0_isLatin1_aae02_0 : decode cJ0_isLatin1_aae02 0 = .ok (.getstatic 38, 3) := zrD zrw_cJ0_isLatin1_aae02_0 (i := 0) (by decide +kernel) rfl
theorem dJ0_isLatin1_aae02_3 : decode cJ0_isLatin1_aae02 3 = .ok (.ifCond .eq 14, 3) := zrD zrw_cJ0_isLatin1_aae02_0 (i := 3) (by decide +kernel) rfl
theorem dJ0_isLatin1_aae02_6 : decode cJ0_isLatin1_aae02 6 = .ok (.aload_n 0, 1) := zrD zrw_cJ0_isLatin1_aae02_0 (i := 6) (by decide +kernel) rfl
theorem dJ0_isLatin1_aae02_7 : decode cJ0_isLatin1_aae02 7 = .ok (.getfield 15, 3) := zrD zrw_cJ0_isLatin1_aae02_0 (i := 7) (by decide +kernel) rfl
theorem dJ0_isLatin1_aae02_10 : decode cJ0_isLatin1_aae02 10 = .ok (.ifCond .ne 7, 3) := zrD zrw_cJ0_isLatin1_aae02_0 (i := 10) (by decide +kernel) rfl
theorem dJ0_isLatin1_aae02_13 : decode cJ0_isLatin1_aae02 13 = .ok (.iconst 1, 1) := zrD zrw_cJ0_isLatin1_aae02_0 (i := 13) (by decide +kernel) rfl
theorem dJ0_isLatin1_aae02_14 : decode cJ0_isLatin1_aae02 14 = .ok (.goto 4, 3) := zrD zrw_cJ0_isLatin1_aae02_0 (i := 14) (by decide +kernel) rfl
theorem dJ0_isLatin1_aae02_18 : decode cJ0_isLatin1_aae02 18 = .ok (.ireturn, 1) := zrD zrw_cJ0_isLatin1_aae02_0 (i := 18) (by decide +kernel) rfl
def zrk_cJ0_checkIndex_df160_0 : ByteArray := .mk #[26, 27, 178, 4, 29, 184, 4, 35, 87, 177]
theorem zrw_cJ0_checkIndex_df160_0 : zrW 0 cJ0_checkIndex_df160 zrk_cJ0_checkIndex_df160_0 := by unfold zrW; decide +kernel
theorem dJ0_checkIndex_df160_0 : decode cJ0_checkIndex_df160 0 = .ok (.iload_n 0, 1) := zrD zrw_cJ0_checkIndex_df160_0 (i := 0) (by decide +kernel) rfl
theorem dJ0_checkIndex_df160_1 : decode cJ0_checkIndex_df160 1 = .ok (.iload_n 1, 1) := zrD zrw_cJ0_checkIndex_df160_0 (i := 1) (by decide +kernel) rfl
theorem dJ0_checkIndex_df160_2 : decode cJ0_checkIndex_df160 2 = .ok (.getstatic 1053, 3) := zrD zrw_cJ0_checkIndex_df160_0 (i := 2) (by decide +kernel) rfl
theorem dJ0_checkIndex_df160_5 : decode cJ0_checkIndex_df160 5 = .ok (.invokestatic 1059, 3) := zrD zrw_cJ0_checkIndex_df160_0 (i := 5) (by decide +kernel) rfl
theorem dJ0_checkIndex_df160_8 : decode cJ0_checkIndex_df160 8 = .ok (.pop, 1) := zrD zrw_cJ0_checkIndex_df160_0 (i := 8) (by decide +kernel) rfl
theorem dJ0_checkIndex_df160_9 : decode cJ0_checkIndex_df160 9 = .ok (.return_, 1) := zrD zrw_cJ0_checkIndex_df160_0 (i := 9) (by decide +kernel) rfl
def zrk_cJ1_charAt_3b067_0 : ByteArray := .mk #[27, 42, 190, 184, 0, 9, 42, 27, 51, 17, 0, 255, 126, 146, 172]
theorem zrw_cJ1_charAt_3b067_0 : zrW 0 cJ1_charAt_3b067 zrk_cJ1_charAt_3b067_0 := by unfold zrW; decide +kernel
theorem dJ1_charAt_3b067_0 : decode cJ1_charAt_3b067 0 = .ok (.iload_n 1, 1) := zrD zrw_cJ1_charAt_3b067_0 (i := 0) (by decide +kernel) rfl
theorem dJ1_charAt_3b067_1 : decode cJ1_charAt_3b067 1 = .ok (.aload_n 0, 1) := zrD zrw_cJ1_charAt_3b067_0 (i := 1) (by decide +kernel) rfl
theorem dJ1_charAt_3b067_2 : decode cJ1_charAt_3b067 2 = .ok (.arraylength, 1) := zrD zrw_cJ1_charAt_3b067_0 (i := 2) (by decide +kernel) rfl
theorem dJ1_charAt_3b067_3 : decode cJ1_charAt_3b067 3 = .ok (.invokestatic 9, 3) := zrD zrw_cJ1_charAt_3b067_0 (i := 3) (by decide +kernel) rfl
theorem dJ1_charAt_3b067_6 : decode cJ1_charAt_3b067 6 = .ok (.aload_n 0, 1) := zrD zrw_cJ1_charAt_3b067_0 (i := 6) (by decide +kernel) rfl
theorem dJ1_charAt_3b067_7 : decode cJ1_charAt_3b067 7 = .ok (.iload_n 1, 1) := zrD zrw_cJ1_charAt_3b067_0 (i := 7) (by decide +kernel) rfl
theorem dJ1_charAt_3b067_8 : decode cJ1_charAt_3b067 8 = .ok (.baload, 1) := zrD zrw_cJ1_charAt_3b067_0 (i := 8) (by decide +kernel) rfl
theorem dJ1_charAt_3b067_9 : decode cJ1_charAt_3b067 9 = .ok (.sipush 255, 3) := zrD zrw_cJ1_charAt_3b067_0 (i := 9) (by decide +kernel) rfl
theorem dJ1_charAt_3b067_12 : decode cJ1_charAt_3b067 12 = .ok (.iand, 1) := zrD zrw_cJ1_charAt_3b067_0 (i := 12) (by decide +kernel) rfl
theorem dJ1_charAt_3b067_13 : decode cJ1_charAt_3b067 13 = .ok (.i2c, 1) := zrD zrw_cJ1_charAt_3b067_0 (i := 13) (by decide +kernel) rfl
theorem dJ1_charAt_3b067_14 : decode cJ1_charAt_3b067 14 = .ok (.ireturn, 1) := zrD zrw_cJ1_charAt_3b067_0 (i := 14) (by decide +kernel) rfl
def zrk_cJ1_canEncode_9a6ad_0 : ByteArray := .mk #[26, 155, 0, 14, 26, 17, 0, 255, 163, 0, 7, 4, 167, 0, 4, 3, 172]
theorem zrw_cJ1_canEncode_9a6ad_0 : zrW 0 cJ1_canEncode_9a6ad zrk_cJ1_canEncode_9a6ad_0 := by unfold zrW; decide +kernel
theorem dJ1_canEncode_9a6ad_0 : decode cJ1_canEncode_9a6ad 0 = .ok (.iload_n 0, 1) := zrD zrw_cJ1_canEncode_9a6ad_0 (i := 0) (by decide +kernel) rfl
theorem dJ1_canEncode_9a6ad_1 : decode cJ1_canEncode_9a6ad 1 = .ok (.ifCond .lt 14, 3) := zrD zrw_cJ1_canEncode_9a6ad_0 (i := 1) (by decide +kernel) rfl
theorem dJ1_canEncode_9a6ad_4 : decode cJ1_canEncode_9a6ad 4 = .ok (.iload_n 0, 1) := zrD zrw_cJ1_canEncode_9a6ad_0 (i := 4) (by decide +kernel) rfl
theorem dJ1_canEncode_9a6ad_5 : decode cJ1_canEncode_9a6ad 5 = .ok (.sipush 255, 3) := zrD zrw_cJ1_canEncode_9a6ad_0 (i := 5) (by decide +kernel) rfl
theorem dJ1_canEncode_9a6ad_8 : decode cJ1_canEncode_9a6ad 8 = .ok (.if_icmp .gt 7, 3) := zrD zrw_cJ1_canEncode_9a6ad_0 (i := 8) (by decide +kernel) rfl
theorem dJ1_canEncode_9a6ad_11 : decode cJ1_canEncode_9a6ad 11 = .ok (.iconst 1, 1) := zrD zrw_cJ1_canEncode_9a6ad_0 (i := 11) (by decide +kernel) rfl
theorem dJ1_canEncode_9a6ad_12 : decode cJ1_canEncode_9a6ad 12 = .ok (.goto 4, 3) := zrD zrw_cJ1_canEncode_9a6ad_0 (i := 12) (by decide +kernel) rfl
theorem dJ1_canEncode_9a6ad_15 : decode cJ1_canEncode_9a6ad 15 = .ok (.iconst 0, 1) := zrD zrw_cJ1_canEncode_9a6ad_0 (i := 15) (by decide +kernel) rfl
theorem dJ1_canEncode_9a6ad_16 : decode cJ1_canEncode_9a6ad 16 = .ok (.ireturn, 1) := zrD zrw_cJ1_canEncode_9a6ad_0 (i := 16) (by decide +kernel) rfl
def zrk_cJ1_indexOf_4cfef_0 : ByteArray := .mk #[27, 184, 0, 88, 154, 0, 5, 2, 172, 28, 3, 184, 0, 92, 61, 29, 42, 190, 184, 0, 38, 62, 28, 29, 161, 0, 5, 2, 172, 42, 27, 28]
theorem zrw_cJ1_indexOf_4cfef_0 : zrW 0 cJ1_indexOf_4cfef zrk_cJ1_indexOf_4cfef_0 := by unfold zrW; decide +kernel
theorem dJ1_indexOf_4cfef_0 : decode cJ1_indexOf_4cfef 0 = .ok (.iload_n 1, 1) := zrD zrw_cJ1_indexOf_4cfef_0 (i := 0) (by decide +kernel) rfl
theorem dJ1_indexOf_4cfef_1 : decode cJ1_indexOf_4cfef 1 = .ok (.invokestatic 88, 3) := zrD zrw_cJ1_indexOf_4cfef_0 (i := 1) (by decide +kernel) rfl
theorem dJ1_indexOf_4cfef_4 : decode cJ1_indexOf_4cfef 4 = .ok (.ifCond .ne 5, 3) := zrD zrw_cJ1_indexOf_4cfef_0 (i := 4) (by decide +kernel) rfl
theorem dJ1_indexOf_4cfef_7 : decode cJ1_indexOf_4cfef 7 = .ok (.iconst (-1), 1) := zrD zrw_cJ1_indexOf_4cfef_0 (i := 7) (by decide +kernel) rfl
theorem dJ1_indexOf_4cfef_8 : decode cJ1_indexOf_4cfef 8 = .ok (.ireturn, 1) := zrD zrw_cJ1_indexOf_4cfef_0 (i := 8) (by decide +kernel) rfl
theorem dJ1_indexOf_4cfef_9 : decode cJ1_indexOf_4cfef 9 = .ok (.iload_n 2, 1) := zrD zrw_cJ1_indexOf_4cfef_0 (i := 9) (by decide +kernel) rfl
theorem dJ1_indexOf_4cfef_10 : decode cJ1_indexOf_4cfef 10 = .ok (.iconst 0, 1) := zrD zrw_cJ1_indexOf_4cfef_0 (i := 10) (by decide +kernel) rfl
theorem dJ1_indexOf_4cfef_11 : decode cJ1_indexOf_4cfef 11 = .ok (.invokestatic 92, 3) := zrD zrw_cJ1_indexOf_4cfef_0 (i := 11) (by decide +kernel) rfl
theorem dJ1_indexOf_4cfef_14 : decode cJ1_indexOf_4cfef 14 = .ok (.istore_n 2, 1) := zrD zrw_cJ1_indexOf_4cfef_0 (i := 14) (by decide +kernel) rfl
theorem dJ1_indexOf_4cfef_15 : decode cJ1_indexOf_4cfef 15 = .ok (.iload_n 3, 1) := zrD zrw_cJ1_indexOf_4cfef_0 (i := 15) (by decide +kernel) rfl
theorem dJ1_indexOf_4cfef_16 : decode cJ1_indexOf_4cfef 16 = .ok (.aload_n 0, 1) := zrD zrw_cJ1_indexOf_4cfef_0 (i := 16) (by decide +kernel) rfl
theorem dJ1_indexOf_4cfef_17 : decode cJ1_indexOf_4cfef 17 = .ok (.arraylength, 1) := zrD zrw_cJ1_indexOf_4cfef_0 (i := 17) (by decide +kernel) rfl
theorem dJ1_indexOf_4cfef_18 : decode cJ1_indexOf_4cfef 18 = .ok (.invokestatic 38, 3) := zrD zrw_cJ1_indexOf_4cfef_0 (i := 18) (by decide +kernel) rfl
theorem dJ1_indexOf_4cfef_21 : decode cJ1_indexOf_4cfef 21 = .ok (.istore_n 3, 1) := zrD zrw_cJ1_indexOf_4cfef_0 (i := 21) (by decide +kernel) rfl
theorem dJ1_indexOf_4cfef_22 : decode cJ1_indexOf_4cfef 22 = .ok (.iload_n 2, 1) := zrD zrw_cJ1_indexOf_4cfef_0 (i := 22) (by decide +kernel) rfl
theorem dJ1_indexOf_4cfef_23 : decode cJ1_indexOf_4cfef 23 = .ok (.iload_n 3, 1) := zrD zrw_cJ1_indexOf_4cfef_0 (i := 23) (by decide +kernel) rfl
theorem dJ1_indexOf_4cfef_24 : decode cJ1_indexOf_4cfef 24 = .ok (.if_icmp .lt 5, 3) := zrD zrw_cJ1_indexOf_4cfef_0 (i := 24) (by decide +kernel) rfl
theorem dJ1_indexOf_4cfef_27 : decode cJ1_indexOf_4cfef 27 = .ok (.iconst (-1), 1) := zrD zrw_cJ1_indexOf_4cfef_0 (i := 27) (by decide +kernel) rfl
theorem dJ1_indexOf_4cfef_28 : decode cJ1_indexOf_4cfef 28 = .ok (.ireturn, 1) := zrD zrw_cJ1_indexOf_4cfef_0 (i := 28) (by decide +kernel) rfl
theorem dJ1_indexOf_4cfef_29 : decode cJ1_indexOf_4cfef 29 = .ok (.aload_n 0, 1) := zrD zrw_cJ1_indexOf_4cfef_0 (i := 29) (by decide +kernel) rfl
theorem dJ1_indexOf_4cfef_30 : decode cJ1_indexOf_4cfef 30 = .ok (.iload_n 1, 1) := zrD zrw_cJ1_indexOf_4cfef_0 (i := 30) (by decide +kernel) rfl
theorem dJ1_indexOf_4cfef_31 : decode cJ1_indexOf_4cfef 31 = .ok (.iload_n 2, 1) := zrD zrw_cJ1_indexOf_4cfef_0 (i := 31) (by decide +kernel) rfl
def zrk_cJ1_indexOf_4cfef_32 : ByteArray := .mk #[29, 184, 0, 95, 172]
theorem zrw_cJ1_indexOf_4cfef_32 : zrW 32 cJ1_indexOf_4cfef zrk_cJ1_indexOf_4cfef_32 := by unfold zrW; decide +kernel
theorem dJ1_indexOf_4cfef_32 : decode cJ1_indexOf_4cfef 32 = .ok (.iload_n 3, 1) := zrD zrw_cJ1_indexOf_4cfef_32 (i := 0) (by decide +kernel) rfl
theorem dJ1_indexOf_4cfef_33 : decode cJ1_indexOf_4cfef 33 = .ok (.invokestatic 95, 3) := zrD zrw_cJ1_indexOf_4cfef_32 (i := 1) (by decide +kernel) rfl
theorem dJ1_indexOf_4cfef_36 : decode cJ1_indexOf_4cfef 36 = .ok (.ireturn, 1) := zrD zrw_cJ1_indexOf_4cfef_32 (i := 4) (by decide +kernel) rfl
def zrk_cJ1_indexOfChar_4cfef_0 : ByteArray := .mk #[27, 145, 54, 4, 28, 54, 5, 21, 5, 29, 162, 0, 21, 42, 21, 5, 51, 21, 4, 160, 0, 6, 21, 5, 172, 132, 5, 1, 167, 255, 235, 2]
theorem zrw_cJ1_indexOfChar_4cfef_0 : zrW 0 cJ1_indexOfChar_4cfef zrk_cJ1_indexOfChar_4cfef_0 := by unfold zrW; decide +kernel
theorem dJ1_indexOfChar_4cfef_0 : decode cJ1_indexOfChar_4cfef 0 = .ok (.iload_n 1, 1) := zrD zrw_cJ1_indexOfChar_4cfef_0 (i := 0) (by decide +kernel) rfl
theorem dJ1_indexOfChar_4cfef_1 : decode cJ1_indexOfChar_4cfef 1 = .ok (.i2b, 1) := zrD zrw_cJ1_indexOfChar_4cfef_0 (i := 1) (by decide +kernel) rfl
theorem dJ1_indexOfChar_4cfef_2 : decode cJ1_indexOfChar_4cfef 2 = .ok (.istore 4, 2) := zrD zrw_cJ1_indexOfChar_4cfef_0 (i := 2) (by decide +kernel) rfl
theorem dJ1_indexOfChar_4cfef_4 : decode cJ1_indexOfChar_4cfef 4 = .ok (.iload_n 2, 1) := zrD zrw_cJ1_indexOfChar_4cfef_0 (i := 4) (by decide +kernel) rfl
theorem dJ1_indexOfChar_4cfef_5 : decode cJ1_indexOfChar_4cfef 5 = .ok (.istore 5, 2) := zrD zrw_cJ1_indexOfChar_4cfef_0 (i := 5) (by decide +kernel) rfl
theorem dJ1_indexOfChar_4cfef_7 : decode cJ1_indexOfChar_4cfef 7 = .ok (.iload 5, 2) := zrD zrw_cJ1_indexOfChar_4cfef_0 (i := 7) (by decide +kernel) rfl
theorem dJ1_indexOfChar_4cfef_9 : decode cJ1_indexOfChar_4cfef 9 = .ok (.iload_n 3, 1) := zrD zrw_cJ1_indexOfChar_4cfef_0 (i := 9) (by decide +kernel) rfl
theorem dJ1_indexOfChar_4cfef_10 : decode cJ1_indexOfChar_4cfef 10 = .ok (.if_icmp .ge 21, 3) := zrD zrw_cJ1_indexOfChar_4cfef_0 (i := 10) (by decide +kernel) rfl
theorem dJ1_indexOfChar_4cfef_13 : decode cJ1_indexOfChar_4cfef 13 = .ok (.aload_n 0, 1) := zrD zrw_cJ1_indexOfChar_4cfef_0 (i := 13) (by decide +kernel) rfl
theorem dJ1_indexOfChar_4cfef_14 : decode cJ1_indexOfChar_4cfef 14 = .ok (.iload 5, 2) := zrD zrw_cJ1_indexOfChar_4cfef_0 (i := 14) (by decide +kernel) rfl
theorem dJ1_indexOfChar_4cfef_16 : decode cJ1_indexOfChar_4cfef 16 = .ok (.baload, 1) := zrD zrw_cJ1_indexOfChar_4cfef_0 (i := 16) (by decide +kernel) rfl
theorem dJ1_indexOfChar_4cfef_17 : decode cJ1_indexOfChar_4cfef 17 = .ok (.iload 4, 2) := zrD zrw_cJ1_indexOfChar_4cfef_0 (i := 17) (by decide +kernel) rfl
theorem dJ1_indexOfChar_4cfef_19 : decode cJ1_indexOfChar_4cfef 19 = .ok (.if_icmp .ne 6, 3) := zrD zrw_cJ1_indexOfChar_4cfef_0 (i := 19) (by decide +kernel) rfl
theorem dJ1_indexOfChar_4cfef_22 : decode cJ1_indexOfChar_4cfef 22 = .ok (.iload 5, 2) := zrD zrw_cJ1_indexOfChar_4cfef_0 (i := 22) (by decide +kernel) rfl
theorem dJ1_indexOfChar_4cfef_24 : decode cJ1_indexOfChar_4cfef 24 = .ok (.ireturn, 1) := zrD zrw_cJ1_indexOfChar_4cfef_0 (i := 24) (by decide +kernel) rfl
theorem dJ1_indexOfChar_4cfef_25 : decode cJ1_indexOfChar_4cfef 25 = .ok (.iinc 5 1, 3) := zrD zrw_cJ1_indexOfChar_4cfef_0 (i := 25) (by decide +kernel) rfl
theorem dJ1_indexOfChar_4cfef_28 : decode cJ1_indexOfChar_4cfef 28 = .ok (.goto (-21), 3) := zrD zrw_cJ1_indexOfChar_4cfef_0 (i := 28) (by decide +kernel) rfl
theorem dJ1_indexOfChar_4cfef_31 : decode cJ1_indexOfChar_4cfef 31 = .ok (.iconst (-1), 1) := zrD zrw_cJ1_indexOfChar_4cfef_0 (i := 31) (by decide +kernel) rfl
def zrk_cJ1_indexOfChar_4cfef_32 : ByteArray := .mk #[172]
theorem zrw_cJ1_indexOfChar_4cfef_32 : zrW 32 cJ1_indexOfChar_4cfef zrk_cJ1_indexOfChar_4cfef_32 := by unfold zrW; decide +kernel
theorem dJ1_indexOfChar_4cfef_32 : decode cJ1_indexOfChar_4cfef 32 = .ok (.ireturn, 1) := zrD zrw_cJ1_indexOfChar_4cfef_32 (i := 0) (by decide +kernel) rfl
def zrk_cJ3_checkIndex_8e157_0 : ByteArray := .mk #[26, 155, 0, 8, 26, 27, 161, 0, 10, 44, 26, 27, 184, 0, 95, 191, 26, 172]
theorem zrw_cJ3_checkIndex_8e157_0 : zrW 0 cJ3_checkIndex_8e157 zrk_cJ3_checkIndex_8e157_0 := by unfold zrW; decide +kernel
theorem dJ3_checkIndex_8e157_0 : decode cJ3_checkIndex_8e157 0 = .ok (.iload_n 0, 1) := zrD zrw_cJ3_checkIndex_8e157_0 (i := 0) (by decide +kernel) rfl
theorem dJ3_checkIndex_8e157_1 : decode cJ3_checkIndex_8e157 1 = .ok (.ifCond .lt 8, 3) := zrD zrw_cJ3_checkIndex_8e157_0 (i := 1) (by decide +kernel) rfl
theorem dJ3_checkIndex_8e157_4 : decode cJ3_checkIndex_8e157 4 = .ok (.iload_n 0, 1) := zrD zrw_cJ3_checkIndex_8e157_0 (i := 4) (by decide +kernel) rfl
theorem dJ3_checkIndex_8e157_5 : decode cJ3_checkIndex_8e157 5 = .ok (.iload_n 1, 1) := zrD zrw_cJ3_checkIndex_8e157_0 (i := 5) (by decide +kernel) rfl
theorem dJ3_checkIndex_8e157_6 : decode cJ3_checkIndex_8e157 6 = .ok (.if_icmp .lt 10, 3) := zrD zrw_cJ3_checkIndex_8e157_0 (i := 6) (by decide +kernel) rfl
theorem dJ3_checkIndex_8e157_16 : decode cJ3_checkIndex_8e157 16 = .ok (.iload_n 0, 1) := zrD zrw_cJ3_checkIndex_8e157_0 (i := 16) (by decide +kernel) rfl
theorem dJ3_checkIndex_8e157_17 : decode cJ3_checkIndex_8e157 17 = .ok (.ireturn, 1) := zrD zrw_cJ3_checkIndex_8e157_0 (i := 17) (by decide +kernel) rfl
def zrk_cJ6_bitCount_0f7a4_0 : ByteArray := .mk #[26, 26, 4, 124, 19, 1, 9, 126, 100, 59, 26, 19, 1, 10, 126, 26, 5, 124, 19, 1, 10, 126, 96, 59, 26, 26, 7, 124, 96, 19, 1, 11]
theorem zrw_cJ6_bitCount_0f7a4_0 : zrW 0 cJ6_bitCount_0f7a4 zrk_cJ6_bitCount_0f7a4_0 := by unfold zrW; decide +kernel
theorem dJ6_bitCount_0f7a4_0 : decode cJ6_bitCount_0f7a4 0 = .ok (.iload_n 0, 1) := zrD zrw_cJ6_bitCount_0f7a4_0 (i := 0) (by decide +kernel) rfl
theorem dJ6_bitCount_0f7a4_1 : decode cJ6_bitCount_0f7a4 1 = .ok (.iload_n 0, 1) := zrD zrw_cJ6_bitCount_0f7a4_0 (i := 1) (by decide +kernel) rfl
theorem dJ6_bitCount_0f7a4_2 : decode cJ6_bitCount_0f7a4 2 = .ok (.iconst 1, 1) := zrD zrw_cJ6_bitCount_0f7a4_0 (i := 2) (by decide +kernel) rfl
theorem dJ6_bitCount_0f7a4_3 : decode cJ6_bitCount_0f7a4 3 = .ok (.iushr, 1) := zrD zrw_cJ6_bitCount_0f7a4_0 (i := 3) (by decide +kernel) rfl
theorem dJ6_bitCount_0f7a4_4 : decode cJ6_bitCount_0f7a4 4 = .ok (.ldc_w 265, 3) := zrD zrw_cJ6_bitCount_0f7a4_0 (i := 4) (by decide +kernel) rfl
theorem dJ6_bitCount_0f7a4_7 : decode cJ6_bitCount_0f7a4 7 = .ok (.iand, 1) := zrD zrw_cJ6_bitCount_0f7a4_0 (i := 7) (by decide +kernel) rfl
theorem dJ6_bitCount_0f7a4_8 : decode cJ6_bitCount_0f7a4 8 = .ok (.isub, 1) := zrD zrw_cJ6_bitCount_0f7a4_0 (i := 8) (by decide +kernel) rfl
theorem dJ6_bitCount_0f7a4_9 : decode cJ6_bitCount_0f7a4 9 = .ok (.istore_n 0, 1) := zrD zrw_cJ6_bitCount_0f7a4_0 (i := 9) (by decide +kernel) rfl
theorem dJ6_bitCount_0f7a4_10 : decode cJ6_bitCount_0f7a4 10 = .ok (.iload_n 0, 1) := zrD zrw_cJ6_bitCount_0f7a4_0 (i := 10) (by decide +kernel) rfl
theorem dJ6_bitCount_0f7a4_11 : decode cJ6_bitCount_0f7a4 11 = .ok (.ldc_w 266, 3) := zrD zrw_cJ6_bitCount_0f7a4_0 (i := 11) (by decide +kernel) rfl
theorem dJ6_bitCount_0f7a4_14 : decode cJ6_bitCount_0f7a4 14 = .ok (.iand, 1) := zrD zrw_cJ6_bitCount_0f7a4_0 (i := 14) (by decide +kernel) rfl
theorem dJ6_bitCount_0f7a4_15 : decode cJ6_bitCount_0f7a4 15 = .ok (.iload_n 0, 1) := zrD zrw_cJ6_bitCount_0f7a4_0 (i := 15) (by decide +kernel) rfl
theorem dJ6_bitCount_0f7a4_16 : decode cJ6_bitCount_0f7a4 16 = .ok (.iconst 2, 1) := zrD zrw_cJ6_bitCount_0f7a4_0 (i := 16) (by decide +kernel) rfl
theorem dJ6_bitCount_0f7a4_17 : decode cJ6_bitCount_0f7a4 17 = .ok (.iushr, 1) := zrD zrw_cJ6_bitCount_0f7a4_0 (i := 17) (by decide +kernel) rfl
theorem dJ6_bitCount_0f7a4_18 : decode cJ6_bitCount_0f7a4 18 = .ok (.ldc_w 266, 3) := zrD zrw_cJ6_bitCount_0f7a4_0 (i := 18) (by decide +kernel) rfl
theorem dJ6_bitCount_0f7a4_21 : decode cJ6_bitCount_0f7a4 21 = .ok (.iand, 1) := zrD zrw_cJ6_bitCount_0f7a4_0 (i := 21) (by decide +kernel) rfl
theorem dJ6_bitCount_0f7a4_22 : decode cJ6_bitCount_0f7a4 22 = .ok (.iadd, 1) := zrD zrw_cJ6_bitCount_0f7a4_0 (i := 22) (by decide +kernel) rfl
theorem dJ6_bitCount_0f7a4_23 : decode cJ6_bitCount_0f7a4 23 = .ok (.istore_n 0, 1) := zrD zrw_cJ6_bitCount_0f7a4_0 (i := 23) (by decide +kernel) rfl
theorem dJ6_bitCount_0f7a4_24 : decode cJ6_bitCount_0f7a4 24 = .ok (.iload_n 0, 1) := zrD zrw_cJ6_bitCount_0f7a4_0 (i := 24) (by decide +kernel) rfl
theorem dJ6_bitCount_0f7a4_25 : decode cJ6_bitCount_0f7a4 25 = .ok (.iload_n 0, 1) := zrD zrw_cJ6_bitCount_0f7a4_0 (i := 25) (by decide +kernel) rfl
theorem dJ6_bitCount_0f7a4_26 : decode cJ6_bitCount_0f7a4 26 = .ok (.iconst 4, 1) := zrD zrw_cJ6_bitCount_0f7a4_0 (i := 26) (by decide +kernel) rfl
theorem dJ6_bitCount_0f7a4_27 : decode cJ6_bitCount_0f7a4 27 = .ok (.iushr, 1) := zrD zrw_cJ6_bitCount_0f7a4_0 (i := 27) (by decide +kernel) rfl
theorem dJ6_bitCount_0f7a4_28 : decode cJ6_bitCount_0f7a4 28 = .ok (.iadd, 1) := zrD zrw_cJ6_bitCount_0f7a4_0 (i := 28) (by decide +kernel) rfl
theorem dJ6_bitCount_0f7a4_29 : decode cJ6_bitCount_0f7a4 29 = .ok (.ldc_w 267, 3) := zrD zrw_cJ6_bitCount_0f7a4_0 (i := 29) (by decide +kernel) rfl
def zrk_cJ6_bitCount_0f7a4_32 : ByteArray := .mk #[126, 59, 26, 26, 16, 8, 124, 96, 59, 26, 26, 16, 16, 124, 96, 59, 26, 16, 63, 126, 172]
theorem zrw_cJ6_bitCount_0f7a4_32 : zrW 32 cJ6_bitCount_0f7a4 zrk_cJ6_bitCount_0f7a4_32 := by unfold zrW; decide +kernel
theorem dJ6_bitCount_0f7a4_32 : decode cJ6_bitCount_0f7a4 32 = .ok (.iand, 1) := zrD zrw_cJ6_bitCount_0f7a4_32 (i := 0) (by decide +kernel) rfl
theorem dJ6_bitCount_0f7a4_33 : decode cJ6_bitCount_0f7a4 33 = .ok (.istore_n 0, 1) := zrD zrw_cJ6_bitCount_0f7a4_32 (i := 1) (by decide +kernel) rfl
theorem dJ6_bitCount_0f7a4_34 : decode cJ6_bitCount_0f7a4 34 = .ok (.iload_n 0, 1) := zrD zrw_cJ6_bitCount_0f7a4_32 (i := 2) (by decide +kernel) rfl
theorem dJ6_bitCount_0f7a4_35 : decode cJ6_bitCount_0f7a4 35 = .ok (.iload_n 0, 1) := zrD zrw_cJ6_bitCount_0f7a4_32 (i := 3) (by decide +kernel) rfl
theorem dJ6_bitCount_0f7a4_36 : decode cJ6_bitCount_0f7a4 36 = .ok (.bipush 8, 2) := zrD zrw_cJ6_bitCount_0f7a4_32 (i := 4) (by decide +kernel) rfl
theorem dJ6_bitCount_0f7a4_38 : decode cJ6_bitCount_0f7a4 38 = .ok (.iushr, 1) := zrD zrw_cJ6_bitCount_0f7a4_32 (i := 6) (by decide +kernel) rfl
theorem dJ6_bitCount_0f7a4_39 : decode cJ6_bitCount_0f7a4 39 = .ok (.iadd, 1) := zrD zrw_cJ6_bitCount_0f7a4_32 (i := 7) (by decide +kernel) rfl
theorem dJ6_bitCount_0f7a4_40 : decode cJ6_bitCount_0f7a4 40 = .ok (.istore_n 0, 1) := zrD zrw_cJ6_bitCount_0f7a4_32 (i := 8) (by decide +kernel) rfl
theorem dJ6_bitCount_0f7a4_41 : decode cJ6_bitCount_0f7a4 41 = .ok (.iload_n 0, 1) := zrD zrw_cJ6_bitCount_0f7a4_32 (i := 9) (by decide +kernel) rfl
theorem dJ6_bitCount_0f7a4_42 : decode cJ6_bitCount_0f7a4 42 = .ok (.iload_n 0, 1) := zrD zrw_cJ6_bitCount_0f7a4_32 (i := 10) (by decide +kernel) rfl
theorem dJ6_bitCount_0f7a4_43 : decode cJ6_bitCount_0f7a4 43 = .ok (.bipush 16, 2) := zrD zrw_cJ6_bitCount_0f7a4_32 (i := 11) (by decide +kernel) rfl
theorem dJ6_bitCount_0f7a4_45 : decode cJ6_bitCount_0f7a4 45 = .ok (.iushr, 1) := zrD zrw_cJ6_bitCount_0f7a4_32 (i := 13) (by decide +kernel) rfl
theorem dJ6_bitCount_0f7a4_46 : decode cJ6_bitCount_0f7a4 46 = .ok (.iadd, 1) := zrD zrw_cJ6_bitCount_0f7a4_32 (i := 14) (by decide +kernel) rfl
theorem dJ6_bitCount_0f7a4_47 : decode cJ6_bitCount_0f7a4 47 = .ok (.istore_n 0, 1) := zrD zrw_cJ6_bitCount_0f7a4_32 (i := 15) (by decide +kernel) rfl
theorem dJ6_bitCount_0f7a4_48 : decode cJ6_bitCount_0f7a4 48 = .ok (.iload_n 0, 1) := zrD zrw_cJ6_bitCount_0f7a4_32 (i := 16) (by decide +kernel) rfl
theorem dJ6_bitCount_0f7a4_49 : decode cJ6_bitCount_0f7a4 49 = .ok (.bipush 63, 2) := zrD zrw_cJ6_bitCount_0f7a4_32 (i := 17) (by decide +kernel) rfl
theorem dJ6_bitCount_0f7a4_51 : decode cJ6_bitCount_0f7a4 51 = .ok (.iand, 1) := zrD zrw_cJ6_bitCount_0f7a4_32 (i := 19) (by decide +kernel) rfl
theorem dJ6_bitCount_0f7a4_52 : decode cJ6_bitCount_0f7a4 52 = .ok (.ireturn, 1) := zrD zrw_cJ6_bitCount_0f7a4_32 (i := 20) (by decide +kernel) rfl
def zrk_cJ7_fill_53178_0 : ByteArray := .mk #[3, 61, 42, 190, 62, 28, 29, 162, 0, 13, 42, 28, 27, 79, 132, 2, 1, 167, 255, 244, 177]
theorem zrw_cJ7_fill_53178_0 : zrW 0 cJ7_fill_53178 zrk_cJ7_fill_53178_0 := by unfold zrW; decide +kernel
theorem dJ7_fill_53178_0 : decode cJ7_fill_53178 0 = .ok (.iconst 0, 1) := zrD zrw_cJ7_fill_53178_0 (i := 0) (by decide +kernel) rfl
theorem dJ7_fill_53178_1 : decode cJ7_fill_53178 1 = .ok (.istore_n 2, 1) := zrD zrw_cJ7_fill_53178_0 (i := 1) (by decide +kernel) rfl
theorem dJ7_fill_53178_2 : decode cJ7_fill_53178 2 = .ok (.aload_n 0, 1) := zrD zrw_cJ7_fill_53178_0 (i := 2) (by decide +kernel) rfl
theorem dJ7_fill_53178_3 : decode cJ7_fill_53178 3 = .ok (.arraylength, 1) := zrD zrw_cJ7_fill_53178_0 (i := 3) (by decide +kernel) rfl
theorem dJ7_fill_53178_4 : decode cJ7_fill_53178 4 = .ok (.istore_n 3, 1) := zrD zrw_cJ7_fill_53178_0 (i := 4) (by decide +kernel) rfl
theorem dJ7_fill_53178_5 : decode cJ7_fill_53178 5 = .ok (.iload_n 2, 1) := zrD zrw_cJ7_fill_53178_0 (i := 5) (by decide +kernel) rfl
theorem dJ7_fill_53178_6 : decode cJ7_fill_53178 6 = .ok (.iload_n 3, 1) := zrD zrw_cJ7_fill_53178_0 (i := 6) (by decide +kernel) rfl
theorem dJ7_fill_53178_7 : decode cJ7_fill_53178 7 = .ok (.if_icmp .ge 13, 3) := zrD zrw_cJ7_fill_53178_0 (i := 7) (by decide +kernel) rfl
theorem dJ7_fill_53178_10 : decode cJ7_fill_53178 10 = .ok (.aload_n 0, 1) := zrD zrw_cJ7_fill_53178_0 (i := 10) (by decide +kernel) rfl
theorem dJ7_fill_53178_11 : decode cJ7_fill_53178 11 = .ok (.iload_n 2, 1) := zrD zrw_cJ7_fill_53178_0 (i := 11) (by decide +kernel) rfl
theorem dJ7_fill_53178_12 : decode cJ7_fill_53178 12 = .ok (.iload_n 1, 1) := zrD zrw_cJ7_fill_53178_0 (i := 12) (by decide +kernel) rfl
theorem dJ7_fill_53178_13 : decode cJ7_fill_53178 13 = .ok (.iastore, 1) := zrD zrw_cJ7_fill_53178_0 (i := 13) (by decide +kernel) rfl
theorem dJ7_fill_53178_14 : decode cJ7_fill_53178 14 = .ok (.iinc 2 1, 3) := zrD zrw_cJ7_fill_53178_0 (i := 14) (by decide +kernel) rfl
theorem dJ7_fill_53178_17 : decode cJ7_fill_53178 17 = .ok (.goto (-12), 3) := zrD zrw_cJ7_fill_53178_0 (i := 17) (by decide +kernel) rfl
theorem dJ7_fill_53178_20 : decode cJ7_fill_53178 20 = .ok (.return_, 1) := zrD zrw_cJ7_fill_53178_0 (i := 20) (by decide +kernel) rfl
def zrk_cL_law_0 : ByteArray := .mk #[187, 0, 7, 89, 183, 0, 9, 76, 187, 0, 10, 89, 183, 0, 12, 77, 3, 62, 29, 42, 190, 16, 6, 100, 163, 5, 143, 42, 29, 46, 16, 63]
theorem zrw_cL_law_0 : zrW 0 cL_law zrk_cL_law_0 := by unfold zrW; decide +kernel
theorem dL_law_0 : decode cL_law 0 = .ok (.new 7, 3) := zrD zrw_cL_law_0 (i := 0) (by decide +kernel) rfl
theorem dL_law_3 : decode cL_law 3 = .ok (.dup, 1) := zrD zrw_cL_law_0 (i := 3) (by decide +kernel) rfl
theorem dL_law_4 : decode cL_law 4 = .ok (.invokespecial 9, 3) := zrD zrw_cL_law_0 (i := 4) (by decide +kernel) rfl
theorem dL_law_7 : decode cL_law 7 = .ok (.astore_n 1, 1) := zrD zrw_cL_law_0 (i := 7) (by decide +kernel) rfl
theorem dL_law_8 : decode cL_law 8 = .ok (.new 10, 3) := zrD zrw_cL_law_0 (i := 8) (by decide +kernel) rfl
theorem dL_law_11 : decode cL_law 11 = .ok (.dup, 1) := zrD zrw_cL_law_0 (i := 11) (by decide +kernel) rfl
theorem dL_law_12 : decode cL_law 12 = .ok (.invokespecial 12, 3) := zrD zrw_cL_law_0 (i := 12) (by decide +kernel) rfl
theorem dL_law_15 : decode cL_law 15 = .ok (.astore_n 2, 1) := zrD zrw_cL_law_0 (i := 15) (by decide +kernel) rfl
theorem dL_law_16 : decode cL_law 16 = .ok (.iconst 0, 1) := zrD zrw_cL_law_0 (i := 16) (by decide +kernel) rfl
theorem dL_law_17 : decode cL_law 17 = .ok (.istore_n 3, 1) := zrD zrw_cL_law_0 (i := 17) (by decide +kernel) rfl
theorem dL_law_18 : decode cL_law 18 = .ok (.iload_n 3, 1) := zrD zrw_cL_law_0 (i := 18) (by decide +kernel) rfl
theorem dL_law_19 : decode cL_law 19 = .ok (.aload_n 0, 1) := zrD zrw_cL_law_0 (i := 19) (by decide +kernel) rfl
theorem dL_law_20 : decode cL_law 20 = .ok (.arraylength, 1) := zrD zrw_cL_law_0 (i := 20) (by decide +kernel) rfl
theorem dL_law_21 : decode cL_law 21 = .ok (.bipush 6, 2) := zrD zrw_cL_law_0 (i := 21) (by decide +kernel) rfl
theorem dL_law_23 : decode cL_law 23 = .ok (.isub, 1) := zrD zrw_cL_law_0 (i := 23) (by decide +kernel) rfl
theorem dL_law_24 : decode cL_law 24 = .ok (.if_icmp .gt 1423, 3) := zrD zrw_cL_law_0 (i := 24) (by decide +kernel) rfl
theorem dL_law_27 : decode cL_law 27 = .ok (.aload_n 0, 1) := zrD zrw_cL_law_0 (i := 27) (by decide +kernel) rfl
theorem dL_law_28 : decode cL_law 28 = .ok (.iload_n 3, 1) := zrD zrw_cL_law_0 (i := 28) (by decide +kernel) rfl
theorem dL_law_29 : decode cL_law 29 = .ok (.iaload, 1) := zrD zrw_cL_law_0 (i := 29) (by decide +kernel) rfl
theorem dL_law_30 : decode cL_law 30 = .ok (.bipush 63, 2) := zrD zrw_cL_law_0 (i := 30) (by decide +kernel) rfl
def zrk_cL_law_32 : ByteArray := .mk #[126]
theorem zrw_cL_law_32 : zrW 32 cL_law zrk_cL_law_32 := by unfold zrW; decide +kernel
theorem dL_law_32 : decode cL_law 32 = .ok (.iand, 1) := zrD zrw_cL_law_32 (i := 0) (by decide +kernel) rfl
theorem dL_law_33 : decode cL_law 33 = .ok (.tableswitch 1408 0 42 #[187, 250, 273, 286, 299, 332, 365, 388, 437, 470, 493, 516, 529, 552, 585, 608, 631, 664, 687, 720, 743, 766, 799, 832, 865, 878, 901, 934, 957, 1000, 1013, 1026, 1069, 1092, 1135, 1158, 1201, 1270, 1283, 1316, 1339, 1362, 1385], 187) := by decide +kernel
def zrk_cL_law_220 : ByteArray := .mk #[43, 42, 29, 4, 96, 46, 42, 29, 5, 96, 46, 42, 29, 6, 96, 46, 42, 29, 7, 96, 46, 42, 29, 8, 96, 46, 182, 0, 13, 87, 44, 42]
theorem zrw_cL_law_220 : zrW 220 cL_law zrk_cL_law_220 := by unfold zrW; decide +kernel
theorem dL_law_220 : decode cL_law 220 = .ok (.aload_n 1, 1) := zrD zrw_cL_law_220 (i := 0) (by decide +kernel) rfl
theorem dL_law_221 : decode cL_law 221 = .ok (.aload_n 0, 1) := zrD zrw_cL_law_220 (i := 1) (by decide +kernel) rfl
theorem dL_law_222 : decode cL_law 222 = .ok (.iload_n 3, 1) := zrD zrw_cL_law_220 (i := 2) (by decide +kernel) rfl
theorem dL_law_223 : decode cL_law 223 = .ok (.iconst 1, 1) := zrD zrw_cL_law_220 (i := 3) (by decide +kernel) rfl
theorem dL_law_224 : decode cL_law 224 = .ok (.iadd, 1) := zrD zrw_cL_law_220 (i := 4) (by decide +kernel) rfl
theorem dL_law_225 : decode cL_law 225 = .ok (.iaload, 1) := zrD zrw_cL_law_220 (i := 5) (by decide +kernel) rfl
theorem dL_law_226 : decode cL_law 226 = .ok (.aload_n 0, 1) := zrD zrw_cL_law_220 (i := 6) (by decide +kernel) rfl
theorem dL_law_227 : decode cL_law 227 = .ok (.iload_n 3, 1) := zrD zrw_cL_law_220 (i := 7) (by decide +kernel) rfl
theorem dL_law_228 : decode cL_law 228 = .ok (.iconst 2, 1) := zrD zrw_cL_law_220 (i := 8) (by decide +kernel) rfl
theorem dL_law_229 : decode cL_law 229 = .ok (.iadd, 1) := zrD zrw_cL_law_220 (i := 9) (by decide +kernel) rfl
theorem dL_law_230 : decode cL_law 230 = .ok (.iaload, 1) := zrD zrw_cL_law_220 (i := 10) (by decide +kernel) rfl
theorem dL_law_231 : decode cL_law 231 = .ok (.aload_n 0, 1) := zrD zrw_cL_law_220 (i := 11) (by decide +kernel) rfl
theorem dL_law_232 : decode cL_law 232 = .ok (.iload_n 3, 1) := zrD zrw_cL_law_220 (i := 12) (by decide +kernel) rfl
theorem dL_law_233 : decode cL_law 233 = .ok (.iconst 3, 1) := zrD zrw_cL_law_220 (i := 13) (by decide +kernel) rfl
theorem dL_law_234 : decode cL_law 234 = .ok (.iadd, 1) := zrD zrw_cL_law_220 (i := 14) (by decide +kernel) rfl
theorem dL_law_235 : decode cL_law 235 = .ok (.iaload, 1) := zrD zrw_cL_law_220 (i := 15) (by decide +kernel) rfl
theorem dL_law_236 : decode cL_law 236 = .ok (.aload_n 0, 1) := zrD zrw_cL_law_220 (i := 16) (by decide +kernel) rfl
theorem dL_law_237 : decode cL_law 237 = .ok (.iload_n 3, 1) := zrD zrw_cL_law_220 (i := 17) (by decide +kernel) rfl
theorem dL_law_238 : decode cL_law 238 = .ok (.iconst 4, 1) := zrD zrw_cL_law_220 (i := 18) (by decide +kernel) rfl
theorem dL_law_239 : decode cL_law 239 = .ok (.iadd, 1) := zrD zrw_cL_law_220 (i := 19) (by decide +kernel) rfl
theorem dL_law_240 : decode cL_law 240 = .ok (.iaload, 1) := zrD zrw_cL_law_220 (i := 20) (by decide +kernel) rfl
theorem dL_law_241 : decode cL_law 241 = .ok (.aload_n 0, 1) := zrD zrw_cL_law_220 (i := 21) (by decide +kernel) rfl
theorem dL_law_242 : decode cL_law 242 = .ok (.iload_n 3, 1) := zrD zrw_cL_law_220 (i := 22) (by decide +kernel) rfl
theorem dL_law_243 : decode cL_law 243 = .ok (.iconst 5, 1) := zrD zrw_cL_law_220 (i := 23) (by decide +kernel) rfl
theorem dL_law_244 : decode cL_law 244 = .ok (.iadd, 1) := zrD zrw_cL_law_220 (i := 24) (by decide +kernel) rfl
theorem dL_law_245 : decode cL_law 245 = .ok (.iaload, 1) := zrD zrw_cL_law_220 (i := 25) (by decide +kernel) rfl
theorem dL_law_246 : decode cL_law 246 = .ok (.invokevirtual 13, 3) := zrD zrw_cL_law_220 (i := 26) (by decide +kernel) rfl
theorem dL_law_249 : decode cL_law 249 = .ok (.pop, 1) := zrD zrw_cL_law_220 (i := 29) (by decide +kernel) rfl
theorem dL_law_250 : decode cL_law 250 = .ok (.aload_n 2, 1) := zrD zrw_cL_law_220 (i := 30) (by decide +kernel) rfl
theorem dL_law_251 : decode cL_law 251 = .ok (.aload_n 0, 1) := zrD zrw_cL_law_220 (i := 31) (by decide +kernel) rfl
def zrk_cL_law_252 : ByteArray := .mk #[29, 4, 96, 46, 42, 29, 5, 96, 46, 42, 29, 6, 96, 46, 42, 29, 7, 96, 46, 42, 29, 8, 96, 46, 182, 0, 17, 87, 167, 4, 137, 43]
theorem zrw_cL_law_252 : zrW 252 cL_law zrk_cL_law_252 := by unfold zrW; decide +kernel
theorem dL_law_252 : decode cL_law 252 = .ok (.iload_n 3, 1) := zrD zrw_cL_law_252 (i := 0) (by decide +kernel) rfl
theorem dL_law_253 : decode cL_law 253 = .ok (.iconst 1, 1) := zrD zrw_cL_law_252 (i := 1) (by decide +kernel) rfl
theorem dL_law_254 : decode cL_law 254 = .ok (.iadd, 1) := zrD zrw_cL_law_252 (i := 2) (by decide +kernel) rfl
theorem dL_law_255 : decode cL_law 255 = .ok (.iaload, 1) := zrD zrw_cL_law_252 (i := 3) (by decide +kernel) rfl
theorem dL_law_256 : decode cL_law 256 = .ok (.aload_n 0, 1) := zrD zrw_cL_law_252 (i := 4) (by decide +kernel) rfl
theorem dL_law_257 : decode cL_law 257 = .ok (.iload_n 3, 1) := zrD zrw_cL_law_252 (i := 5) (by decide +kernel) rfl
theorem dL_law_258 : decode cL_law 258 = .ok (.iconst 2, 1) := zrD zrw_cL_law_252 (i := 6) (by decide +kernel) rfl
theorem dL_law_259 : decode cL_law 259 = .ok (.iadd, 1) := zrD zrw_cL_law_252 (i := 7) (by decide +kernel) rfl
theorem dL_law_260 : decode cL_law 260 = .ok (.iaload, 1) := zrD zrw_cL_law_252 (i := 8) (by decide +kernel) rfl
theorem dL_law_261 : decode cL_law 261 = .ok (.aload_n 0, 1) := zrD zrw_cL_law_252 (i := 9) (by decide +kernel) rfl
theorem dL_law_262 : decode cL_law 262 = .ok (.iload_n 3, 1) := zrD zrw_cL_law_252 (i := 10) (by decide +kernel) rfl
theorem dL_law_263 : decode cL_law 263 = .ok (.iconst 3, 1) := zrD zrw_cL_law_252 (i := 11) (by decide +kernel) rfl
theorem dL_law_264 : decode cL_law 264 = .ok (.iadd, 1) := zrD zrw_cL_law_252 (i := 12) (by decide +kernel) rfl
theorem dL_law_265 : decode cL_law 265 = .ok (.iaload, 1) := zrD zrw_cL_law_252 (i := 13) (by decide +kernel) rfl
theorem dL_law_266 : decode cL_law 266 = .ok (.aload_n 0, 1) := zrD zrw_cL_law_252 (i := 14) (by decide +kernel) rfl
theorem dL_law_267 : decode cL_law 267 = .ok (.iload_n 3, 1) := zrD zrw_cL_law_252 (i := 15) (by decide +kernel) rfl
theorem dL_law_268 : decode cL_law 268 = .ok (.iconst 4, 1) := zrD zrw_cL_law_252 (i := 16) (by decide +kernel) rfl
theorem dL_law_269 : decode cL_law 269 = .ok (.iadd, 1) := zrD zrw_cL_law_252 (i := 17) (by decide +kernel) rfl
theorem dL_law_270 : decode cL_law 270 = .ok (.iaload, 1) := zrD zrw_cL_law_252 (i := 18) (by decide +kernel) rfl
theorem dL_law_271 : decode cL_law 271 = .ok (.aload_n 0, 1) := zrD zrw_cL_law_252 (i := 19) (by decide +kernel) rfl
theorem dL_law_272 : decode cL_law 272 = .ok (.iload_n 3, 1) := zrD zrw_cL_law_252 (i := 20) (by decide +kernel) rfl
theorem dL_law_273 : decode cL_law 273 = .ok (.iconst 5, 1) := zrD zrw_cL_law_252 (i := 21) (by decide +kernel) rfl
theorem dL_law_274 : decode cL_law 274 = .ok (.iadd, 1) := zrD zrw_cL_law_252 (i := 22) (by decide +kernel) rfl
theorem dL_law_275 : decode cL_law 275 = .ok (.iaload, 1) := zrD zrw_cL_law_252 (i := 23) (by decide +kernel) rfl
theorem dL_law_276 : decode cL_law 276 = .ok (.invokevirtual 17, 3) := zrD zrw_cL_law_252 (i := 24) (by decide +kernel) rfl
theorem dL_law_279 : decode cL_law 279 = .ok (.pop, 1) := zrD zrw_cL_law_252 (i := 27) (by decide +kernel) rfl
theorem dL_law_280 : decode cL_law 280 = .ok (.goto 1161, 3) := zrD zrw_cL_law_252 (i := 28) (by decide +kernel) rfl
theorem dL_law_283 : decode cL_law 283 = .ok (.aload_n 1, 1) := zrD zrw_cL_law_252 (i := 31) (by decide +kernel) rfl
def zrk_cL_law_284 : ByteArray := .mk #[42, 29, 4, 96, 46, 182, 0, 18, 87, 44, 42, 29, 4, 96, 46, 182, 0, 22, 87, 167, 4, 114, 43, 182, 0, 23, 87, 44, 182, 0, 27, 87]
theorem zrw_cL_law_284 : zrW 284 cL_law zrk_cL_law_284 := by unfold zrW; decide +kernel
theorem dL_law_284 : decode cL_law 284 = .ok (.aload_n 0, 1) := zrD zrw_cL_law_284 (i := 0) (by decide +kernel) rfl
theorem dL_law_285 : decode cL_law 285 = .ok (.iload_n 3, 1) := zrD zrw_cL_law_284 (i := 1) (by decide +kernel) rfl
theorem dL_law_286 : decode cL_law 286 = .ok (.iconst 1, 1) := zrD zrw_cL_law_284 (i := 2) (by decide +kernel) rfl
theorem dL_law_287 : decode cL_law 287 = .ok (.iadd, 1) := zrD zrw_cL_law_284 (i := 3) (by decide +kernel) rfl
theorem dL_law_288 : decode cL_law 288 = .ok (.iaload, 1) := zrD zrw_cL_law_284 (i := 4) (by decide +kernel) rfl
theorem dL_law_289 : decode cL_law 289 = .ok (.invokevirtual 18, 3) := zrD zrw_cL_law_284 (i := 5) (by decide +kernel) rfl
theorem dL_law_292 : decode cL_law 292 = .ok (.pop, 1) := zrD zrw_cL_law_284 (i := 8) (by decide +kernel) rfl
theorem dL_law_293 : decode cL_law 293 = .ok (.aload_n 2, 1) := zrD zrw_cL_law_284 (i := 9) (by decide +kernel) rfl
theorem dL_law_294 : decode cL_law 294 = .ok (.aload_n 0, 1) := zrD zrw_cL_law_284 (i := 10) (by decide +kernel) rfl
theorem dL_law_295 : decode cL_law 295 = .ok (.iload_n 3, 1) := zrD zrw_cL_law_284 (i := 11) (by decide +kernel) rfl
theorem dL_law_296 : decode cL_law 296 = .ok (.iconst 1, 1) := zrD zrw_cL_law_284 (i := 12) (by decide +kernel) rfl
theorem dL_law_297 : decode cL_law 297 = .ok (.iadd, 1) := zrD zrw_cL_law_284 (i := 13) (by decide +kernel) rfl
theorem dL_law_298 : decode cL_law 298 = .ok (.iaload, 1) := zrD zrw_cL_law_284 (i := 14) (by decide +kernel) rfl
theorem dL_law_299 : decode cL_law 299 = .ok (.invokevirtual 22, 3) := zrD zrw_cL_law_284 (i := 15) (by decide +kernel) rfl
theorem dL_law_302 : decode cL_law 302 = .ok (.pop, 1) := zrD zrw_cL_law_284 (i := 18) (by decide +kernel) rfl
theorem dL_law_303 : decode cL_law 303 = .ok (.goto 1138, 3) := zrD zrw_cL_law_284 (i := 19) (by decide +kernel) rfl
theorem dL_law_306 : decode cL_law 306 = .ok (.aload_n 1, 1) := zrD zrw_cL_law_284 (i := 22) (by decide +kernel) rfl
theorem dL_law_307 : decode cL_law 307 = .ok (.invokevirtual 23, 3) := zrD zrw_cL_law_284 (i := 23) (by decide +kernel) rfl
theorem dL_law_310 : decode cL_law 310 = .ok (.pop, 1) := zrD zrw_cL_law_284 (i := 26) (by decide +kernel) rfl
theorem dL_law_311 : decode cL_law 311 = .ok (.aload_n 2, 1) := zrD zrw_cL_law_284 (i := 27) (by decide +kernel) rfl
theorem dL_law_312 : decode cL_law 312 = .ok (.invokevirtual 27, 3) := zrD zrw_cL_law_284 (i := 28) (by decide +kernel) rfl
theorem dL_law_315 : decode cL_law 315 = .ok (.pop, 1) := zrD zrw_cL_law_284 (i := 31) (by decide +kernel) rfl
def zrk_cL_law_316 : ByteArray := .mk #[167, 4, 101, 43, 182, 0, 28, 87, 44, 182, 0, 31, 87, 167, 4, 88, 43, 42, 29, 4, 96, 46, 42, 29, 5, 96, 46, 182, 0, 32, 87, 44]
theorem zrw_cL_law_316 : zrW 316 cL_law zrk_cL_law_316 := by unfold zrW; decide +kernel
theorem dL_law_316 : decode cL_law 316 = .ok (.goto 1125, 3) := zrD zrw_cL_law_316 (i := 0) (by decide +kernel) rfl
theorem dL_law_319 : decode cL_law 319 = .ok (.aload_n 1, 1) := zrD zrw_cL_law_316 (i := 3) (by decide +kernel) rfl
theorem dL_law_320 : decode cL_law 320 = .ok (.invokevirtual 28, 3) := zrD zrw_cL_law_316 (i := 4) (by decide +kernel) rfl
theorem dL_law_323 : decode cL_law 323 = .ok (.pop, 1) := zrD zrw_cL_law_316 (i := 7) (by decide +kernel) rfl
theorem dL_law_324 : decode cL_law 324 = .ok (.aload_n 2, 1) := zrD zrw_cL_law_316 (i := 8) (by decide +kernel) rfl
theorem dL_law_325 : decode cL_law 325 = .ok (.invokevirtual 31, 3) := zrD zrw_cL_law_316 (i := 9) (by decide +kernel) rfl
theorem dL_law_328 : decode cL_law 328 = .ok (.pop, 1) := zrD zrw_cL_law_316 (i := 12) (by decide +kernel) rfl
theorem dL_law_329 : decode cL_law 329 = .ok (.goto 1112, 3) := zrD zrw_cL_law_316 (i := 13) (by decide +kernel) rfl
theorem dL_law_332 : decode cL_law 332 = .ok (.aload_n 1, 1) := zrD zrw_cL_law_316 (i := 16) (by decide +kernel) rfl
theorem dL_law_333 : decode cL_law 333 = .ok (.aload_n 0, 1) := zrD zrw_cL_law_316 (i := 17) (by decide +kernel) rfl
theorem dL_law_334 : decode cL_law 334 = .ok (.iload_n 3, 1) := zrD zrw_cL_law_316 (i := 18) (by decide +kernel) rfl
theorem dL_law_335 : decode cL_law 335 = .ok (.iconst 1, 1) := zrD zrw_cL_law_316 (i := 19) (by decide +kernel) rfl
theorem dL_law_336 : decode cL_law 336 = .ok (.iadd, 1) := zrD zrw_cL_law_316 (i := 20) (by decide +kernel) rfl
theorem dL_law_337 : decode cL_law 337 = .ok (.iaload, 1) := zrD zrw_cL_law_316 (i := 21) (by decide +kernel) rfl
theorem dL_law_338 : decode cL_law 338 = .ok (.aload_n 0, 1) := zrD zrw_cL_law_316 (i := 22) (by decide +kernel) rfl
theorem dL_law_339 : decode cL_law 339 = .ok (.iload_n 3, 1) := zrD zrw_cL_law_316 (i := 23) (by decide +kernel) rfl
theorem dL_law_340 : decode cL_law 340 = .ok (.iconst 2, 1) := zrD zrw_cL_law_316 (i := 24) (by decide +kernel) rfl
theorem dL_law_341 : decode cL_law 341 = .ok (.iadd, 1) := zrD zrw_cL_law_316 (i := 25) (by decide +kernel) rfl
theorem dL_law_342 : decode cL_law 342 = .ok (.iaload, 1) := zrD zrw_cL_law_316 (i := 26) (by decide +kernel) rfl
theorem dL_law_343 : decode cL_law 343 = .ok (.invokevirtual 32, 3) := zrD zrw_cL_law_316 (i := 27) (by decide +kernel) rfl
theorem dL_law_346 : decode cL_law 346 = .ok (.pop, 1) := zrD zrw_cL_law_316 (i := 30) (by decide +kernel) rfl
theorem dL_law_347 : decode cL_law 347 = .ok (.aload_n 2, 1) := zrD zrw_cL_law_316 (i := 31) (by decide +kernel) rfl
def zrk_cL_law_348 : ByteArray := .mk #[42, 29, 4, 96, 46, 42, 29, 5, 96, 46, 182, 0, 36, 87, 167, 4, 55, 43, 42, 29, 4, 96, 46, 42, 29, 5, 96, 46, 182, 0, 37, 87]
theorem zrw_cL_law_348 : zrW 348 cL_law zrk_cL_law_348 := by unfold zrW; decide +kernel
theorem dL_law_348 : decode cL_law 348 = .ok (.aload_n 0, 1) := zrD zrw_cL_law_348 (i := 0) (by decide +kernel) rfl
theorem dL_law_349 : decode cL_law 349 = .ok (.iload_n 3, 1) := zrD zrw_cL_law_348 (i := 1) (by decide +kernel) rfl
theorem dL_law_350 : decode cL_law 350 = .ok (.iconst 1, 1) := zrD zrw_cL_law_348 (i := 2) (by decide +kernel) rfl
theorem dL_law_351 : decode cL_law 351 = .ok (.iadd, 1) := zrD zrw_cL_law_348 (i := 3) (by decide +kernel) rfl
theorem dL_law_352 : decode cL_law 352 = .ok (.iaload, 1) := zrD zrw_cL_law_348 (i := 4) (by decide +kernel) rfl
theorem dL_law_353 : decode cL_law 353 = .ok (.aload_n 0, 1) := zrD zrw_cL_law_348 (i := 5) (by decide +kernel) rfl
theorem dL_law_354 : decode cL_law 354 = .ok (.iload_n 3, 1) := zrD zrw_cL_law_348 (i := 6) (by decide +kernel) rfl
theorem dL_law_355 : decode cL_law 355 = .ok (.iconst 2, 1) := zrD zrw_cL_law_348 (i := 7) (by decide +kernel) rfl
theorem dL_law_356 : decode cL_law 356 = .ok (.iadd, 1) := zrD zrw_cL_law_348 (i := 8) (by decide +kernel) rfl
theorem dL_law_357 : decode cL_law 357 = .ok (.iaload, 1) := zrD zrw_cL_law_348 (i := 9) (by decide +kernel) rfl
theorem dL_law_358 : decode cL_law 358 = .ok (.invokevirtual 36, 3) := zrD zrw_cL_law_348 (i := 10) (by decide +kernel) rfl
theorem dL_law_361 : decode cL_law 361 = .ok (.pop, 1) := zrD zrw_cL_law_348 (i := 13) (by decide +kernel) rfl
theorem dL_law_362 : decode cL_law 362 = .ok (.goto 1079, 3) := zrD zrw_cL_law_348 (i := 14) (by decide +kernel) rfl
theorem dL_law_365 : decode cL_law 365 = .ok (.aload_n 1, 1) := zrD zrw_cL_law_348 (i := 17) (by decide +kernel) rfl
theorem dL_law_366 : decode cL_law 366 = .ok (.aload_n 0, 1) := zrD zrw_cL_law_348 (i := 18) (by decide +kernel) rfl
theorem dL_law_367 : decode cL_law 367 = .ok (.iload_n 3, 1) := zrD zrw_cL_law_348 (i := 19) (by decide +kernel) rfl
theorem dL_law_368 : decode cL_law 368 = .ok (.iconst 1, 1) := zrD zrw_cL_law_348 (i := 20) (by decide +kernel) rfl
theorem dL_law_369 : decode cL_law 369 = .ok (.iadd, 1) := zrD zrw_cL_law_348 (i := 21) (by decide +kernel) rfl
theorem dL_law_370 : decode cL_law 370 = .ok (.iaload, 1) := zrD zrw_cL_law_348 (i := 22) (by decide +kernel) rfl
theorem dL_law_371 : decode cL_law 371 = .ok (.aload_n 0, 1) := zrD zrw_cL_law_348 (i := 23) (by decide +kernel) rfl
theorem dL_law_372 : decode cL_law 372 = .ok (.iload_n 3, 1) := zrD zrw_cL_law_348 (i := 24) (by decide +kernel) rfl
theorem dL_law_373 : decode cL_law 373 = .ok (.iconst 2, 1) := zrD zrw_cL_law_348 (i := 25) (by decide +kernel) rfl
theorem dL_law_374 : decode cL_law 374 = .ok (.iadd, 1) := zrD zrw_cL_law_348 (i := 26) (by decide +kernel) rfl
theorem dL_law_375 : decode cL_law 375 = .ok (.iaload, 1) := zrD zrw_cL_law_348 (i := 27) (by decide +kernel) rfl
theorem dL_law_376 : decode cL_law 376 = .ok (.invokevirtual 37, 3) := zrD zrw_cL_law_348 (i := 28) (by decide +kernel) rfl
theorem dL_law_379 : decode cL_law 379 = .ok (.pop, 1) := zrD zrw_cL_law_348 (i := 31) (by decide +kernel) rfl
def zrk_cL_law_380 : ByteArray := .mk #[44, 42, 29, 4, 96, 46, 42, 29, 5, 96, 46, 182, 0, 40, 87, 167, 4, 22, 43, 42, 29, 4, 96, 46, 182, 0, 41, 87, 44, 42, 29, 4]
theorem zrw_cL_law_380 : zrW 380 cL_law zrk_cL_law_380 := by unfold zrW; decide +kernel
theorem dL_law_380 : decode cL_law 380 = .ok (.aload_n 2, 1) := zrD zrw_cL_law_380 (i := 0) (by decide +kernel) rfl
theorem dL_law_381 : decode cL_law 381 = .ok (.aload_n 0, 1) := zrD zrw_cL_law_380 (i := 1) (by decide +kernel) rfl
theorem dL_law_382 : decode cL_law 382 = .ok (.iload_n 3, 1) := zrD zrw_cL_law_380 (i := 2) (by decide +kernel) rfl
theorem dL_law_383 : decode cL_law 383 = .ok (.iconst 1, 1) := zrD zrw_cL_law_380 (i := 3) (by decide +kernel) rfl
theorem dL_law_384 : decode cL_law 384 = .ok (.iadd, 1) := zrD zrw_cL_law_380 (i := 4) (by decide +kernel) rfl
theorem dL_law_385 : decode cL_law 385 = .ok (.iaload, 1) := zrD zrw_cL_law_380 (i := 5) (by decide +kernel) rfl
theorem dL_law_386 : decode cL_law 386 = .ok (.aload_n 0, 1) := zrD zrw_cL_law_380 (i := 6) (by decide +kernel) rfl
theorem dL_law_387 : decode cL_law 387 = .ok (.iload_n 3, 1) := zrD zrw_cL_law_380 (i := 7) (by decide +kernel) rfl
theorem dL_law_388 : decode cL_law 388 = .ok (.iconst 2, 1) := zrD zrw_cL_law_380 (i := 8) (by decide +kernel) rfl
theorem dL_law_389 : decode cL_law 389 = .ok (.iadd, 1) := zrD zrw_cL_law_380 (i := 9) (by decide +kernel) rfl
theorem dL_law_390 : decode cL_law 390 = .ok (.iaload, 1) := zrD zrw_cL_law_380 (i := 10) (by decide +kernel) rfl
theorem dL_law_391 : decode cL_law 391 = .ok (.invokevirtual 40, 3) := zrD zrw_cL_law_380 (i := 11) (by decide +kernel) rfl
theorem dL_law_394 : decode cL_law 394 = .ok (.pop, 1) := zrD zrw_cL_law_380 (i := 14) (by decide +kernel) rfl
theorem dL_law_395 : decode cL_law 395 = .ok (.goto 1046, 3) := zrD zrw_cL_law_380 (i := 15) (by decide +kernel) rfl
theorem dL_law_398 : decode cL_law 398 = .ok (.aload_n 1, 1) := zrD zrw_cL_law_380 (i := 18) (by decide +kernel) rfl
theorem dL_law_399 : decode cL_law 399 = .ok (.aload_n 0, 1) := zrD zrw_cL_law_380 (i := 19) (by decide +kernel) rfl
theorem dL_law_400 : decode cL_law 400 = .ok (.iload_n 3, 1) := zrD zrw_cL_law_380 (i := 20) (by decide +kernel) rfl
theorem dL_law_401 : decode cL_law 401 = .ok (.iconst 1, 1) := zrD zrw_cL_law_380 (i := 21) (by decide +kernel) rfl
theorem dL_law_402 : decode cL_law 402 = .ok (.iadd, 1) := zrD zrw_cL_law_380 (i := 22) (by decide +kernel) rfl
theorem dL_law_403 : decode cL_law 403 = .ok (.iaload, 1) := zrD zrw_cL_law_380 (i := 23) (by decide +kernel) rfl
theorem dL_law_404 : decode cL_law 404 = .ok (.invokevirtual 41, 3) := zrD zrw_cL_law_380 (i := 24) (by decide +kernel) rfl
theorem dL_law_407 : decode cL_law 407 = .ok (.pop, 1) := zrD zrw_cL_law_380 (i := 27) (by decide +kernel) rfl
theorem dL_law_408 : decode cL_law 408 = .ok (.aload_n 2, 1) := zrD zrw_cL_law_380 (i := 28) (by decide +kernel) rfl
theorem dL_law_409 : decode cL_law 409 = .ok (.aload_n 0, 1) := zrD zrw_cL_law_380 (i := 29) (by decide +kernel) rfl
theorem dL_law_410 : decode cL_law 410 = .ok (.iload_n 3, 1) := zrD zrw_cL_law_380 (i := 30) (by decide +kernel) rfl
theorem dL_law_411 : decode cL_law 411 = .ok (.iconst 1, 1) := zrD zrw_cL_law_380 (i := 31) (by decide +kernel) rfl
def zrk_cL_law_412 : ByteArray := .mk #[96, 46, 182, 0, 44, 87, 167, 3, 255, 43, 42, 29, 4, 96, 46, 42, 29, 5, 96, 46, 153, 0, 7, 4, 167, 0, 4, 3, 182, 0, 45, 87]
theorem zrw_cL_law_412 : zrW 412 cL_law zrk_cL_law_412 := by unfold zrW; decide +kernel
theorem dL_law_412 : decode cL_law 412 = .ok (.iadd, 1) := zrD zrw_cL_law_412 (i := 0) (by decide +kernel) rfl
theorem dL_law_413 : decode cL_law 413 = .ok (.iaload, 1) := zrD zrw_cL_law_412 (i := 1) (by decide +kernel) rfl
theorem dL_law_414 : decode cL_law 414 = .ok (.invokevirtual 44, 3) := zrD zrw_cL_law_412 (i := 2) (by decide +kernel) rfl
theorem dL_law_417 : decode cL_law 417 = .ok (.pop, 1) := zrD zrw_cL_law_412 (i := 5) (by decide +kernel) rfl
theorem dL_law_418 : decode cL_law 418 = .ok (.goto 1023, 3) := zrD zrw_cL_law_412 (i := 6) (by decide +kernel) rfl
theorem dL_law_421 : decode cL_law 421 = .ok (.aload_n 1, 1) := zrD zrw_cL_law_412 (i := 9) (by decide +kernel) rfl
theorem dL_law_422 : decode cL_law 422 = .ok (.aload_n 0, 1) := zrD zrw_cL_law_412 (i := 10) (by decide +kernel) rfl
theorem dL_law_423 : decode cL_law 423 = .ok (.iload_n 3, 1) := zrD zrw_cL_law_412 (i := 11) (by decide +kernel) rfl
theorem dL_law_424 : decode cL_law 424 = .ok (.iconst 1, 1) := zrD zrw_cL_law_412 (i := 12) (by decide +kernel) rfl
theorem dL_law_425 : decode cL_law 425 = .ok (.iadd, 1) := zrD zrw_cL_law_412 (i := 13) (by decide +kernel) rfl
theorem dL_law_426 : decode cL_law 426 = .ok (.iaload, 1) := zrD zrw_cL_law_412 (i := 14) (by decide +kernel) rfl
theorem dL_law_427 : decode cL_law 427 = .ok (.aload_n 0, 1) := zrD zrw_cL_law_412 (i := 15) (by decide +kernel) rfl
theorem dL_law_428 : decode cL_law 428 = .ok (.iload_n 3, 1) := zrD zrw_cL_law_412 (i := 16) (by decide +kernel) rfl
theorem dL_law_429 : decode cL_law 429 = .ok (.iconst 2, 1) := zrD zrw_cL_law_412 (i := 17) (by decide +kernel) rfl
theorem dL_law_430 : decode cL_law 430 = .ok (.iadd, 1) := zrD zrw_cL_law_412 (i := 18) (by decide +kernel) rfl
theorem dL_law_431 : decode cL_law 431 = .ok (.iaload, 1) := zrD zrw_cL_law_412 (i := 19) (by decide +kernel) rfl
theorem dL_law_432 : decode cL_law 432 = .ok (.ifCond .eq 7, 3) := zrD zrw_cL_law_412 (i := 20) (by decide +kernel) rfl
theorem dL_law_435 : decode cL_law 435 = .ok (.iconst 1, 1) := zrD zrw_cL_law_412 (i := 23) (by decide +kernel) rfl
theorem dL_law_436 : decode cL_law 436 = .ok (.goto 4, 3) := zrD zrw_cL_law_412 (i := 24) (by decide +kernel) rfl
theorem dL_law_439 : decode cL_law 439 = .ok (.iconst 0, 1) := zrD zrw_cL_law_412 (i := 27) (by decide +kernel) rfl
theorem dL_law_440 : decode cL_law 440 = .ok (.invokevirtual 45, 3) := zrD zrw_cL_law_412 (i := 28) (by decide +kernel) rfl
theorem dL_law_443 : decode cL_law 443 = .ok (.pop, 1) := zrD zrw_cL_law_412 (i := 31) (by decide +kernel) rfl
def zrk_cL_law_444 : ByteArray := .mk #[44, 42, 29, 4, 96, 46, 42, 29, 5, 96, 46, 153, 0, 7, 4, 167, 0, 4, 3, 182, 0, 49, 87, 167, 3, 206, 43, 42, 29, 4, 96, 46]
theorem zrw_cL_law_444 : zrW 444 cL_law zrk_cL_law_444 := by unfold zrW; decide +kernel
theorem dL_law_444 : decode cL_law 444 = .ok (.aload_n 2, 1) := zrD zrw_cL_law_444 (i := 0) (by decide +kernel) rfl
theorem dL_law_445 : decode cL_law 445 = .ok (.aload_n 0, 1) := zrD zrw_cL_law_444 (i := 1) (by decide +kernel) rfl
theorem dL_law_446 : decode cL_law 446 = .ok (.iload_n 3, 1) := zrD zrw_cL_law_444 (i := 2) (by decide +kernel) rfl
theorem dL_law_447 : decode cL_law 447 = .ok (.iconst 1, 1) := zrD zrw_cL_law_444 (i := 3) (by decide +kernel) rfl
theorem dL_law_448 : decode cL_law 448 = .ok (.iadd, 1) := zrD zrw_cL_law_444 (i := 4) (by decide +kernel) rfl
theorem dL_law_449 : decode cL_law 449 = .ok (.iaload, 1) := zrD zrw_cL_law_444 (i := 5) (by decide +kernel) rfl
theorem dL_law_450 : decode cL_law 450 = .ok (.aload_n 0, 1) := zrD zrw_cL_law_444 (i := 6) (by decide +kernel) rfl
theorem dL_law_451 : decode cL_law 451 = .ok (.iload_n 3, 1) := zrD zrw_cL_law_444 (i := 7) (by decide +kernel) rfl
theorem dL_law_452 : decode cL_law 452 = .ok (.iconst 2, 1) := zrD zrw_cL_law_444 (i := 8) (by decide +kernel) rfl
theorem dL_law_453 : decode cL_law 453 = .ok (.iadd, 1) := zrD zrw_cL_law_444 (i := 9) (by decide +kernel) rfl
theorem dL_law_454 : decode cL_law 454 = .ok (.iaload, 1) := zrD zrw_cL_law_444 (i := 10) (by decide +kernel) rfl
theorem dL_law_455 : decode cL_law 455 = .ok (.ifCond .eq 7, 3) := zrD zrw_cL_law_444 (i := 11) (by decide +kernel) rfl
theorem dL_law_458 : decode cL_law 458 = .ok (.iconst 1, 1) := zrD zrw_cL_law_444 (i := 14) (by decide +kernel) rfl
theorem dL_law_459 : decode cL_law 459 = .ok (.goto 4, 3) := zrD zrw_cL_law_444 (i := 15) (by decide +kernel) rfl
theorem dL_law_462 : decode cL_law 462 = .ok (.iconst 0, 1) := zrD zrw_cL_law_444 (i := 18) (by decide +kernel) rfl
theorem dL_law_463 : decode cL_law 463 = .ok (.invokevirtual 49, 3) := zrD zrw_cL_law_444 (i := 19) (by decide +kernel) rfl
theorem dL_law_466 : decode cL_law 466 = .ok (.pop, 1) := zrD zrw_cL_law_444 (i := 22) (by decide +kernel) rfl
theorem dL_law_467 : decode cL_law 467 = .ok (.goto 974, 3) := zrD zrw_cL_law_444 (i := 23) (by decide +kernel) rfl
theorem dL_law_470 : decode cL_law 470 = .ok (.aload_n 1, 1) := zrD zrw_cL_law_444 (i := 26) (by decide +kernel) rfl
theorem dL_law_471 : decode cL_law 471 = .ok (.aload_n 0, 1) := zrD zrw_cL_law_444 (i := 27) (by decide +kernel) rfl
theorem dL_law_472 : decode cL_law 472 = .ok (.iload_n 3, 1) := zrD zrw_cL_law_444 (i := 28) (by decide +kernel) rfl
theorem dL_law_473 : decode cL_law 473 = .ok (.iconst 1, 1) := zrD zrw_cL_law_444 (i := 29) (by decide +kernel) rfl
theorem dL_law_474 : decode cL_law 474 = .ok (.iadd, 1) := zrD zrw_cL_law_444 (i := 30) (by decide +kernel) rfl
theorem dL_law_475 : decode cL_law 475 = .ok (.iaload, 1) := zrD zrw_cL_law_444 (i := 31) (by decide +kernel) rfl
def zrk_cL_law_476 : ByteArray := .mk #[42, 29, 5, 96, 46, 182, 0, 50, 87, 44, 42, 29, 4, 96, 46, 42, 29, 5, 96, 46, 182, 0, 54, 87, 167, 3, 173, 43, 42, 29, 4, 96]
theorem zrw_cL_law_476 : zrW 476 cL_law zrk_cL_law_476 := by unfold zrW; decide +kernel
theorem dL_law_476 : decode cL_law 476 = .ok (.aload_n 0, 1) := zrD zrw_cL_law_476 (i := 0) (by decide +kernel) rfl
theorem dL_law_477 : decode cL_law 477 = .ok (.iload_n 3, 1) := zrD zrw_cL_law_476 (i := 1) (by decide +kernel) rfl
theorem dL_law_478 : decode cL_law 478 = .ok (.iconst 2, 1) := zrD zrw_cL_law_476 (i := 2) (by decide +kernel) rfl
theorem dL_law_479 : decode cL_law 479 = .ok (.iadd, 1) := zrD zrw_cL_law_476 (i := 3) (by decide +kernel) rfl
theorem dL_law_480 : decode cL_law 480 = .ok (.iaload, 1) := zrD zrw_cL_law_476 (i := 4) (by decide +kernel) rfl
theorem dL_law_481 : decode cL_law 481 = .ok (.invokevirtual 50, 3) := zrD zrw_cL_law_476 (i := 5) (by decide +kernel) rfl
theorem dL_law_484 : decode cL_law 484 = .ok (.pop, 1) := zrD zrw_cL_law_476 (i := 8) (by decide +kernel) rfl
theorem dL_law_485 : decode cL_law 485 = .ok (.aload_n 2, 1) := zrD zrw_cL_law_476 (i := 9) (by decide +kernel) rfl
theorem dL_law_486 : decode cL_law 486 = .ok (.aload_n 0, 1) := zrD zrw_cL_law_476 (i := 10) (by decide +kernel) rfl
theorem dL_law_487 : decode cL_law 487 = .ok (.iload_n 3, 1) := zrD zrw_cL_law_476 (i := 11) (by decide +kernel) rfl
theorem dL_law_488 : decode cL_law 488 = .ok (.iconst 1, 1) := zrD zrw_cL_law_476 (i := 12) (by decide +kernel) rfl
theorem dL_law_489 : decode cL_law 489 = .ok (.iadd, 1) := zrD zrw_cL_law_476 (i := 13) (by decide +kernel) rfl
theorem dL_law_490 : decode cL_law 490 = .ok (.iaload, 1) := zrD zrw_cL_law_476 (i := 14) (by decide +kernel) rfl
theorem dL_law_491 : decode cL_law 491 = .ok (.aload_n 0, 1) := zrD zrw_cL_law_476 (i := 15) (by decide +kernel) rfl
theorem dL_law_492 : decode cL_law 492 = .ok (.iload_n 3, 1) := zrD zrw_cL_law_476 (i := 16) (by decide +kernel) rfl
theorem dL_law_493 : decode cL_law 493 = .ok (.iconst 2, 1) := zrD zrw_cL_law_476 (i := 17) (by decide +kernel) rfl
theorem dL_law_494 : decode cL_law 494 = .ok (.iadd, 1) := zrD zrw_cL_law_476 (i := 18) (by decide +kernel) rfl
theorem dL_law_495 : decode cL_law 495 = .ok (.iaload, 1) := zrD zrw_cL_law_476 (i := 19) (by decide +kernel) rfl
theorem dL_law_496 : decode cL_law 496 = .ok (.invokevirtual 54, 3) := zrD zrw_cL_law_476 (i := 20) (by decide +kernel) rfl
theorem dL_law_499 : decode cL_law 499 = .ok (.pop, 1) := zrD zrw_cL_law_476 (i := 23) (by decide +kernel) rfl
theorem dL_law_500 : decode cL_law 500 = .ok (.goto 941, 3) := zrD zrw_cL_law_476 (i := 24) (by decide +kernel) rfl
theorem dL_law_503 : decode cL_law 503 = .ok (.aload_n 1, 1) := zrD zrw_cL_law_476 (i := 27) (by decide +kernel) rfl
theorem dL_law_504 : decode cL_law 504 = .ok (.aload_n 0, 1) := zrD zrw_cL_law_476 (i := 28) (by decide +kernel) rfl
theorem dL_law_505 : decode cL_law 505 = .ok (.iload_n 3, 1) := zrD zrw_cL_law_476 (i := 29) (by decide +kernel) rfl
theorem dL_law_506 : decode cL_law 506 = .ok (.iconst 1, 1) := zrD zrw_cL_law_476 (i := 30) (by decide +kernel) rfl
theorem dL_law_507 : decode cL_law 507 = .ok (.iadd, 1) := zrD zrw_cL_law_476 (i := 31) (by decide +kernel) rfl
def zrk_cL_law_508 : ByteArray := .mk #[46, 182, 0, 55, 87, 44, 42, 29, 4, 96, 46, 182, 0, 59, 87, 167, 3, 150, 43, 42, 29, 4, 96, 46, 182, 0, 60, 87, 44, 42, 29, 4]
theorem zrw_cL_law_508 : zrW 508 cL_law zrk_cL_law_508 := by unfold zrW; decide +kernel
theorem dL_law_508 : decode cL_law 508 = .ok (.iaload, 1) := zrD zrw_cL_law_508 (i := 0) (by decide +kernel) rfl
theorem dL_law_509 : decode cL_law 509 = .ok (.invokevirtual 55, 3) := zrD zrw_cL_law_508 (i := 1) (by decide +kernel) rfl
theorem dL_law_512 : decode cL_law 512 = .ok (.pop, 1) := zrD zrw_cL_law_508 (i := 4) (by decide +kernel) rfl
theorem dL_law_513 : decode cL_law 513 = .ok (.aload_n 2, 1) := zrD zrw_cL_law_508 (i := 5) (by decide +kernel) rfl
theorem dL_law_514 : decode cL_law 514 = .ok (.aload_n 0, 1) := zrD zrw_cL_law_508 (i := 6) (by decide +kernel) rfl
theorem dL_law_515 : decode cL_law 515 = .ok (.iload_n 3, 1) := zrD zrw_cL_law_508 (i := 7) (by decide +kernel) rfl
theorem dL_law_516 : decode cL_law 516 = .ok (.iconst 1, 1) := zrD zrw_cL_law_508 (i := 8) (by decide +kernel) rfl
theorem dL_law_517 : decode cL_law 517 = .ok (.iadd, 1) := zrD zrw_cL_law_508 (i := 9) (by decide +kernel) rfl
theorem dL_law_518 : decode cL_law 518 = .ok (.iaload, 1) := zrD zrw_cL_law_508 (i := 10) (by decide +kernel) rfl
theorem dL_law_519 : decode cL_law 519 = .ok (.invokevirtual 59, 3) := zrD zrw_cL_law_508 (i := 11) (by decide +kernel) rfl
theorem dL_law_522 : decode cL_law 522 = .ok (.pop, 1) := zrD zrw_cL_law_508 (i := 14) (by decide +kernel) rfl
theorem dL_law_523 : decode cL_law 523 = .ok (.goto 918, 3) := zrD zrw_cL_law_508 (i := 15) (by decide +kernel) rfl
theorem dL_law_526 : decode cL_law 526 = .ok (.aload_n 1, 1) := zrD zrw_cL_law_508 (i := 18) (by decide +kernel) rfl
theorem dL_law_527 : decode cL_law 527 = .ok (.aload_n 0, 1) := zrD zrw_cL_law_508 (i := 19) (by decide +kernel) rfl
theorem dL_law_528 : decode cL_law 528 = .ok (.iload_n 3, 1) := zrD zrw_cL_law_508 (i := 20) (by decide +kernel) rfl
theorem dL_law_529 : decode cL_law 529 = .ok (.iconst 1, 1) := zrD zrw_cL_law_508 (i := 21) (by decide +kernel) rfl
theorem dL_law_530 : decode cL_law 530 = .ok (.iadd, 1) := zrD zrw_cL_law_508 (i := 22) (by decide +kernel) rfl
theorem dL_law_531 : decode cL_law 531 = .ok (.iaload, 1) := zrD zrw_cL_law_508 (i := 23) (by decide +kernel) rfl
theorem dL_law_532 : decode cL_law 532 = .ok (.invokevirtual 60, 3) := zrD zrw_cL_law_508 (i := 24) (by decide +kernel) rfl
theorem dL_law_535 : decode cL_law 535 = .ok (.pop, 1) := zrD zrw_cL_law_508 (i := 27) (by decide +kernel) rfl
theorem dL_law_536 : decode cL_law 536 = .ok (.aload_n 2, 1) := zrD zrw_cL_law_508 (i := 28) (by decide +kernel) rfl
theorem dL_law_537 : decode cL_law 537 = .ok (.aload_n 0, 1) := zrD zrw_cL_law_508 (i := 29) (by decide +kernel) rfl
theorem dL_law_538 : decode cL_law 538 = .ok (.iload_n 3, 1) := zrD zrw_cL_law_508 (i := 30) (by decide +kernel) rfl
theorem dL_law_539 : decode cL_law 539 = .ok (.iconst 1, 1) := zrD zrw_cL_law_508 (i := 31) (by decide +kernel) rfl
def zrk_cL_law_540 : ByteArray := .mk #[96, 46, 182, 0, 63, 87, 167, 3, 127, 43, 182, 0, 64, 87, 44, 182, 0, 68, 87, 167, 3, 114, 43, 42, 29, 4, 96, 46, 182, 0, 69, 87]
theorem zrw_cL_law_540 : zrW 540 cL_law zrk_cL_law_540 := by unfold zrW; decide +kernel
theorem dL_law_540 : decode cL_law 540 = .ok (.iadd, 1) := zrD zrw_cL_law_540 (i := 0) (by decide +kernel) rfl
theorem dL_law_541 : decode cL_law 541 = .ok (.iaload, 1) := zrD zrw_cL_law_540 (i := 1) (by decide +kernel) rfl
theorem dL_law_542 : decode cL_law 542 = .ok (.invokevirtual 63, 3) := zrD zrw_cL_law_540 (i := 2) (by decide +kernel) rfl
theorem dL_law_545 : decode cL_law 545 = .ok (.pop, 1) := zrD zrw_cL_law_540 (i := 5) (by decide +kernel) rfl
theorem dL_law_546 : decode cL_law 546 = .ok (.goto 895, 3) := zrD zrw_cL_law_540 (i := 6) (by decide +kernel) rfl
theorem dL_law_549 : decode cL_law 549 = .ok (.aload_n 1, 1) := zrD zrw_cL_law_540 (i := 9) (by decide +kernel) rfl
theorem dL_law_550 : decode cL_law 550 = .ok (.invokevirtual 64, 3) := zrD zrw_cL_law_540 (i := 10) (by decide +kernel) rfl
theorem dL_law_553 : decode cL_law 553 = .ok (.pop, 1) := zrD zrw_cL_law_540 (i := 13) (by decide +kernel) rfl
theorem dL_law_554 : decode cL_law 554 = .ok (.aload_n 2, 1) := zrD zrw_cL_law_540 (i := 14) (by decide +kernel) rfl
theorem dL_law_555 : decode cL_law 555 = .ok (.invokevirtual 68, 3) := zrD zrw_cL_law_540 (i := 15) (by decide +kernel) rfl
theorem dL_law_558 : decode cL_law 558 = .ok (.pop, 1) := zrD zrw_cL_law_540 (i := 18) (by decide +kernel) rfl
theorem dL_law_559 : decode cL_law 559 = .ok (.goto 882, 3) := zrD zrw_cL_law_540 (i := 19) (by decide +kernel) rfl
theorem dL_law_562 : decode cL_law 562 = .ok (.aload_n 1, 1) := zrD zrw_cL_law_540 (i := 22) (by decide +kernel) rfl
theorem dL_law_563 : decode cL_law 563 = .ok (.aload_n 0, 1) := zrD zrw_cL_law_540 (i := 23) (by decide +kernel) rfl
theorem dL_law_564 : decode cL_law 564 = .ok (.iload_n 3, 1) := zrD zrw_cL_law_540 (i := 24) (by decide +kernel) rfl
theorem dL_law_565 : decode cL_law 565 = .ok (.iconst 1, 1) := zrD zrw_cL_law_540 (i := 25) (by decide +kernel) rfl
theorem dL_law_566 : decode cL_law 566 = .ok (.iadd, 1) := zrD zrw_cL_law_540 (i := 26) (by decide +kernel) rfl
theorem dL_law_567 : decode cL_law 567 = .ok (.iaload, 1) := zrD zrw_cL_law_540 (i := 27) (by decide +kernel) rfl
theorem dL_law_568 : decode cL_law 568 = .ok (.invokevirtual 69, 3) := zrD zrw_cL_law_540 (i := 28) (by decide +kernel) rfl
theorem dL_law_571 : decode cL_law 571 = .ok (.pop, 1) := zrD zrw_cL_law_540 (i := 31) (by decide +kernel) rfl
def zrk_cL_law_572 : ByteArray := .mk #[44, 42, 29, 4, 96, 46, 182, 0, 72, 87, 167, 3, 91, 43, 42, 29, 4, 96, 46, 42, 29, 5, 96, 46, 182, 0, 73, 87, 44, 42, 29, 4]
theorem zrw_cL_law_572 : zrW 572 cL_law zrk_cL_law_572 := by unfold zrW; decide +kernel
theorem dL_law_572 : decode cL_law 572 = .ok (.aload_n 2, 1) := zrD zrw_cL_law_572 (i := 0) (by decide +kernel) rfl
theorem dL_law_573 : decode cL_law 573 = .ok (.aload_n 0, 1) := zrD zrw_cL_law_572 (i := 1) (by decide +kernel) rfl
theorem dL_law_574 : decode cL_law 574 = .ok (.iload_n 3, 1) := zrD zrw_cL_law_572 (i := 2) (by decide +kernel) rfl
theorem dL_law_575 : decode cL_law 575 = .ok (.iconst 1, 1) := zrD zrw_cL_law_572 (i := 3) (by decide +kernel) rfl
theorem dL_law_576 : decode cL_law 576 = .ok (.iadd, 1) := zrD zrw_cL_law_572 (i := 4) (by decide +kernel) rfl
theorem dL_law_577 : decode cL_law 577 = .ok (.iaload, 1) := zrD zrw_cL_law_572 (i := 5) (by decide +kernel) rfl
theorem dL_law_578 : decode cL_law 578 = .ok (.invokevirtual 72, 3) := zrD zrw_cL_law_572 (i := 6) (by decide +kernel) rfl
theorem dL_law_581 : decode cL_law 581 = .ok (.pop, 1) := zrD zrw_cL_law_572 (i := 9) (by decide +kernel) rfl
theorem dL_law_582 : decode cL_law 582 = .ok (.goto 859, 3) := zrD zrw_cL_law_572 (i := 10) (by decide +kernel) rfl
theorem dL_law_585 : decode cL_law 585 = .ok (.aload_n 1, 1) := zrD zrw_cL_law_572 (i := 13) (by decide +kernel) rfl
theorem dL_law_586 : decode cL_law 586 = .ok (.aload_n 0, 1) := zrD zrw_cL_law_572 (i := 14) (by decide +kernel) rfl
theorem dL_law_587 : decode cL_law 587 = .ok (.iload_n 3, 1) := zrD zrw_cL_law_572 (i := 15) (by decide +kernel) rfl
theorem dL_law_588 : decode cL_law 588 = .ok (.iconst 1, 1) := zrD zrw_cL_law_572 (i := 16) (by decide +kernel) rfl
theorem dL_law_589 : decode cL_law 589 = .ok (.iadd, 1) := zrD zrw_cL_law_572 (i := 17) (by decide +kernel) rfl
theorem dL_law_590 : decode cL_law 590 = .ok (.iaload, 1) := zrD zrw_cL_law_572 (i := 18) (by decide +kernel) rfl
theorem dL_law_591 : decode cL_law 591 = .ok (.aload_n 0, 1) := zrD zrw_cL_law_572 (i := 19) (by decide +kernel) rfl
theorem dL_law_592 : decode cL_law 592 = .ok (.iload_n 3, 1) := zrD zrw_cL_law_572 (i := 20) (by decide +kernel) rfl
theorem dL_law_593 : decode cL_law 593 = .ok (.iconst 2, 1) := zrD zrw_cL_law_572 (i := 21) (by decide +kernel) rfl
theorem dL_law_594 : decode cL_law 594 = .ok (.iadd, 1) := zrD zrw_cL_law_572 (i := 22) (by decide +kernel) rfl
theorem dL_law_595 : decode cL_law 595 = .ok (.iaload, 1) := zrD zrw_cL_law_572 (i := 23) (by decide +kernel) rfl
theorem dL_law_596 : decode cL_law 596 = .ok (.invokevirtual 73, 3) := zrD zrw_cL_law_572 (i := 24) (by decide +kernel) rfl
theorem dL_law_599 : decode cL_law 599 = .ok (.pop, 1) := zrD zrw_cL_law_572 (i := 27) (by decide +kernel) rfl
theorem dL_law_600 : decode cL_law 600 = .ok (.aload_n 2, 1) := zrD zrw_cL_law_572 (i := 28) (by decide +kernel) rfl
theorem dL_law_601 : decode cL_law 601 = .ok (.aload_n 0, 1) := zrD zrw_cL_law_572 (i := 29) (by decide +kernel) rfl
theorem dL_law_602 : decode cL_law 602 = .ok (.iload_n 3, 1) := zrD zrw_cL_law_572 (i := 30) (by decide +kernel) rfl
theorem dL_law_603 : decode cL_law 603 = .ok (.iconst 1, 1) := zrD zrw_cL_law_572 (i := 31) (by decide +kernel) rfl
def zrk_cL_law_604 : ByteArray := .mk #[96, 46, 42, 29, 5, 96, 46, 182, 0, 76, 87, 167, 3, 58, 43, 42, 29, 4, 96, 46, 182, 0, 77, 87, 44, 42, 29, 4, 96, 46]
theorem zrw_cL_law_604 : zrW 604 cL_law zrk_cL_law_604 := by unfold zrW; decide +kernel
theorem dL_law_604 : decode cL_law 604 = .ok (.iadd, 1) := zrD zrw_cL_law_604 (i := 0) (by decide +kernel) rfl
theorem dL_law_605 : decode cL_law 605 = .ok (.iaload, 1) := zrD zrw_cL_law_604 (i := 1) (by decide +kernel) rfl
theorem dL_law_606 : decode cL_law 606 = .ok (.aload_n 0, 1) := zrD zrw_cL_law_604 (i := 2) (by decide +kernel) rfl
theorem dL_law_607 : decode cL_law 607 = .ok (.iload_n 3, 1) := zrD zrw_cL_law_604 (i := 3) (by decide +kernel) rfl
theorem dL_law_608 : decode cL_law 608 = .ok (.iconst 2, 1) := zrD zrw_cL_law_604 (i := 4) (by decide +kernel) rfl
theorem dL_law_609 : decode cL_law 609 = .ok (.iadd, 1) := zrD zrw_cL_law_604 (i := 5) (by decide +kernel) rfl
theorem dL_law_610 : decode cL_law 610 = .ok (.iaload, 1) := zrD zrw_cL_law_604 (i := 6) (by decide +kernel) rfl
theorem dL_law_611 : decode cL_law 611 = .ok (.invokevirtual 76, 3) := zrD zrw_cL_law_604 (i := 7) (by decide +kernel) rfl
theorem dL_law_614 : decode cL_law 614 = .ok (.pop, 1) := zrD zrw_cL_law_604 (i := 10) (by decide +kernel) rfl
theorem dL_law_615 : decode cL_law 615 = .ok (.goto 826, 3) := zrD zrw_cL_law_604 (i := 11) (by decide +kernel) rfl
theorem dL_law_618 : decode cL_law 618 = .ok (.aload_n 1, 1) := zrD zrw_cL_law_604 (i := 14) (by decide +kernel) rfl
theorem dL_law_619 : decode cL_law 619 = .ok (.aload_n 0, 1) := zrD zrw_cL_law_604 (i := 15) (by decide +kernel) rfl
theorem dL_law_620 : decode cL_law 620 = .ok (.iload_n 3, 1) := zrD zrw_cL_law_604 (i := 16) (by decide +kernel) rfl
theorem dL_law_621 : decode cL_law 621 = .ok (.iconst 1, 1) := zrD zrw_cL_law_604 (i := 17) (by decide +kernel) rfl
theorem dL_law_622 : decode cL_law 622 = .ok (.iadd, 1) := zrD zrw_cL_law_604 (i := 18) (by decide +kernel) rfl
theorem dL_law_623 : decode cL_law 623 = .ok (.iaload, 1) := zrD zrw_cL_law_604 (i := 19) (by decide +kernel) rfl
theorem dL_law_624 : decode cL_law 624 = .ok (.invokevirtual 77, 3) := zrD zrw_cL_law_604 (i := 20) (by decide +kernel) rfl
theorem dL_law_627 : decode cL_law 627 = .ok (.pop, 1) := zrD zrw_cL_law_604 (i := 23) (by decide +kernel) rfl
theorem dL_law_628 : decode cL_law 628 = .ok (.aload_n 2, 1) := zrD zrw_cL_law_604 (i := 24) (by decide +kernel) rfl
theorem dL_law_629 : decode cL_law 629 = .ok (.aload_n 0, 1) := zrD zrw_cL_law_604 (i := 25) (by decide +kernel) rfl
theorem dL_law_630 : decode cL_law 630 = .ok (.iload_n 3, 1) := zrD zrw_cL_law_604 (i := 26) (by decide +kernel) rfl
theorem dL_law_631 : decode cL_law 631 = .ok (.iconst 1, 1) := zrD zrw_cL_law_604 (i := 27) (by decide +kernel) rfl
theorem dL_law_632 : decode cL_law 632 = .ok (.iadd, 1) := zrD zrw_cL_law_604 (i := 28) (by decide +kernel) rfl
theorem dL_law_633 : decode cL_law 633 = .ok (.iaload, 1) := zrD zrw_cL_law_604 (i := 29) (by decide +kernel) rfl
def zrk_cL_law_634 : ByteArray := .mk #[182, 0, 80, 87, 167, 3, 35, 43, 42, 29, 4, 96, 46, 182, 0, 81, 87, 44, 42, 29, 4, 96, 46, 182, 0, 84, 87, 167, 3, 12, 43, 42]
theorem zrw_cL_law_634 : zrW 634 cL_law zrk_cL_law_634 := by unfold zrW; decide +kernel
theorem dL_law_634 : decode cL_law 634 = .ok (.invokevirtual 80, 3) := zrD zrw_cL_law_634 (i := 0) (by decide +kernel) rfl
theorem dL_law_637 : decode cL_law 637 = .ok (.pop, 1) := zrD zrw_cL_law_634 (i := 3) (by decide +kernel) rfl
theorem dL_law_638 : decode cL_law 638 = .ok (.goto 803, 3) := zrD zrw_cL_law_634 (i := 4) (by decide +kernel) rfl
theorem dL_law_641 : decode cL_law 641 = .ok (.aload_n 1, 1) := zrD zrw_cL_law_634 (i := 7) (by decide +kernel) rfl
theorem dL_law_642 : decode cL_law 642 = .ok (.aload_n 0, 1) := zrD zrw_cL_law_634 (i := 8) (by decide +kernel) rfl
theorem dL_law_643 : decode cL_law 643 = .ok (.iload_n 3, 1) := zrD zrw_cL_law_634 (i := 9) (by decide +kernel) rfl
theorem dL_law_644 : decode cL_law 644 = .ok (.iconst 1, 1) := zrD zrw_cL_law_634 (i := 10) (by decide +kernel) rfl
theorem dL_law_645 : decode cL_law 645 = .ok (.iadd, 1) := zrD zrw_cL_law_634 (i := 11) (by decide +kernel) rfl
theorem dL_law_646 : decode cL_law 646 = .ok (.iaload, 1) := zrD zrw_cL_law_634 (i := 12) (by decide +kernel) rfl
theorem dL_law_647 : decode cL_law 647 = .ok (.invokevirtual 81, 3) := zrD zrw_cL_law_634 (i := 13) (by decide +kernel) rfl
theorem dL_law_650 : decode cL_law 650 = .ok (.pop, 1) := zrD zrw_cL_law_634 (i := 16) (by decide +kernel) rfl
theorem dL_law_651 : decode cL_law 651 = .ok (.aload_n 2, 1) := zrD zrw_cL_law_634 (i := 17) (by decide +kernel) rfl
theorem dL_law_652 : decode cL_law 652 = .ok (.aload_n 0, 1) := zrD zrw_cL_law_634 (i := 18) (by decide +kernel) rfl
theorem dL_law_653 : decode cL_law 653 = .ok (.iload_n 3, 1) := zrD zrw_cL_law_634 (i := 19) (by decide +kernel) rfl
theorem dL_law_654 : decode cL_law 654 = .ok (.iconst 1, 1) := zrD zrw_cL_law_634 (i := 20) (by decide +kernel) rfl
theorem dL_law_655 : decode cL_law 655 = .ok (.iadd, 1) := zrD zrw_cL_law_634 (i := 21) (by decide +kernel) rfl
theorem dL_law_656 : decode cL_law 656 = .ok (.iaload, 1) := zrD zrw_cL_law_634 (i := 22) (by decide +kernel) rfl
theorem dL_law_657 : decode cL_law 657 = .ok (.invokevirtual 84, 3) := zrD zrw_cL_law_634 (i := 23) (by decide +kernel) rfl
theorem dL_law_660 : decode cL_law 660 = .ok (.pop, 1) := zrD zrw_cL_law_634 (i := 26) (by decide +kernel) rfl
theorem dL_law_661 : decode cL_law 661 = .ok (.goto 780, 3) := zrD zrw_cL_law_634 (i := 27) (by decide +kernel) rfl
theorem dL_law_664 : decode cL_law 664 = .ok (.aload_n 1, 1) := zrD zrw_cL_law_634 (i := 30) (by decide +kernel) rfl
theorem dL_law_665 : decode cL_law 665 = .ok (.aload_n 0, 1) := zrD zrw_cL_law_634 (i := 31) (by decide +kernel) rfl
def zrk_cL_law_666 : ByteArray := .mk #[29, 4, 96, 46, 42, 29, 5, 96, 46, 182, 0, 85, 87, 44, 42, 29, 4, 96, 46, 42, 29, 5, 96, 46, 182, 0, 88, 87, 167, 2, 235, 43]
theorem zrw_cL_law_666 : zrW 666 cL_law zrk_cL_law_666 := by unfold zrW; decide +kernel
theorem dL_law_666 : decode cL_law 666 = .ok (.iload_n 3, 1) := zrD zrw_cL_law_666 (i := 0) (by decide +kernel) rfl
theorem dL_law_667 : decode cL_law 667 = .ok (.iconst 1, 1) := zrD zrw_cL_law_666 (i := 1) (by decide +kernel) rfl
theorem dL_law_668 : decode cL_law 668 = .ok (.iadd, 1) := zrD zrw_cL_law_666 (i := 2) (by decide +kernel) rfl
theorem dL_law_669 : decode cL_law 669 = .ok (.iaload, 1) := zrD zrw_cL_law_666 (i := 3) (by decide +kernel) rfl
theorem dL_law_670 : decode cL_law 670 = .ok (.aload_n 0, 1) := zrD zrw_cL_law_666 (i := 4) (by decide +kernel) rfl
theorem dL_law_671 : decode cL_law 671 = .ok (.iload_n 3, 1) := zrD zrw_cL_law_666 (i := 5) (by decide +kernel) rfl
theorem dL_law_672 : decode cL_law 672 = .ok (.iconst 2, 1) := zrD zrw_cL_law_666 (i := 6) (by decide +kernel) rfl
theorem dL_law_673 : decode cL_law 673 = .ok (.iadd, 1) := zrD zrw_cL_law_666 (i := 7) (by decide +kernel) rfl
theorem dL_law_674 : decode cL_law 674 = .ok (.iaload, 1) := zrD zrw_cL_law_666 (i := 8) (by decide +kernel) rfl
theorem dL_law_675 : decode cL_law 675 = .ok (.invokevirtual 85, 3) := zrD zrw_cL_law_666 (i := 9) (by decide +kernel) rfl
theorem dL_law_678 : decode cL_law 678 = .ok (.pop, 1) := zrD zrw_cL_law_666 (i := 12) (by decide +kernel) rfl
theorem dL_law_679 : decode cL_law 679 = .ok (.aload_n 2, 1) := zrD zrw_cL_law_666 (i := 13) (by decide +kernel) rfl
theorem dL_law_680 : decode cL_law 680 = .ok (.aload_n 0, 1) := zrD zrw_cL_law_666 (i := 14) (by decide +kernel) rfl
theorem dL_law_681 : decode cL_law 681 = .ok (.iload_n 3, 1) := zrD zrw_cL_law_666 (i := 15) (by decide +kernel) rfl
theorem dL_law_682 : decode cL_law 682 = .ok (.iconst 1, 1) := zrD zrw_cL_law_666 (i := 16) (by decide +kernel) rfl
theorem dL_law_683 : decode cL_law 683 = .ok (.iadd, 1) := zrD zrw_cL_law_666 (i := 17) (by decide +kernel) rfl
theorem dL_law_684 : decode cL_law 684 = .ok (.iaload, 1) := zrD zrw_cL_law_666 (i := 18) (by decide +kernel) rfl
theorem dL_law_685 : decode cL_law 685 = .ok (.aload_n 0, 1) := zrD zrw_cL_law_666 (i := 19) (by decide +kernel) rfl
theorem dL_law_686 : decode cL_law 686 = .ok (.iload_n 3, 1) := zrD zrw_cL_law_666 (i := 20) (by decide +kernel) rfl
theorem dL_law_687 : decode cL_law 687 = .ok (.iconst 2, 1) := zrD zrw_cL_law_666 (i := 21) (by decide +kernel) rfl
theorem dL_law_688 : decode cL_law 688 = .ok (.iadd, 1) := zrD zrw_cL_law_666 (i := 22) (by decide +kernel) rfl
theorem dL_law_689 : decode cL_law 689 = .ok (.iaload, 1) := zrD zrw_cL_law_666 (i := 23) (by decide +kernel) rfl
theorem dL_law_690 : decode cL_law 690 = .ok (.invokevirtual 88, 3) := zrD zrw_cL_law_666 (i := 24) (by decide +kernel) rfl
theorem dL_law_693 : decode cL_law 693 = .ok (.pop, 1) := zrD zrw_cL_law_666 (i := 27) (by decide +kernel) rfl
theorem dL_law_694 : decode cL_law 694 = .ok (.goto 747, 3) := zrD zrw_cL_law_666 (i := 28) (by decide +kernel) rfl
theorem dL_law_697 : decode cL_law 697 = .ok (.aload_n 1, 1) := zrD zrw_cL_law_666 (i := 31) (by decide +kernel) rfl
def zrk_cL_law_698 : ByteArray := .mk #[42, 29, 4, 96, 46, 182, 0, 89, 87, 44, 42, 29, 4, 96, 46, 182, 0, 92, 87, 167, 2, 212, 43, 42, 29, 4, 96, 46, 42, 29, 5, 96]
theorem zrw_cL_law_698 : zrW 698 cL_law zrk_cL_law_698 := by unfold zrW; decide +kernel
theorem dL_law_698 : decode cL_law 698 = .ok (.aload_n 0, 1) := zrD zrw_cL_law_698 (i := 0) (by decide +kernel) rfl
theorem dL_law_699 : decode cL_law 699 = .ok (.iload_n 3, 1) := zrD zrw_cL_law_698 (i := 1) (by decide +kernel) rfl
theorem dL_law_700 : decode cL_law 700 = .ok (.iconst 1, 1) := zrD zrw_cL_law_698 (i := 2) (by decide +kernel) rfl
theorem dL_law_701 : decode cL_law 701 = .ok (.iadd, 1) := zrD zrw_cL_law_698 (i := 3) (by decide +kernel) rfl
theorem dL_law_702 : decode cL_law 702 = .ok (.iaload, 1) := zrD zrw_cL_law_698 (i := 4) (by decide +kernel) rfl
theorem dL_law_703 : decode cL_law 703 = .ok (.invokevirtual 89, 3) := zrD zrw_cL_law_698 (i := 5) (by decide +kernel) rfl
theorem dL_law_706 : decode cL_law 706 = .ok (.pop, 1) := zrD zrw_cL_law_698 (i := 8) (by decide +kernel) rfl
theorem dL_law_707 : decode cL_law 707 = .ok (.aload_n 2, 1) := zrD zrw_cL_law_698 (i := 9) (by decide +kernel) rfl
theorem dL_law_708 : decode cL_law 708 = .ok (.aload_n 0, 1) := zrD zrw_cL_law_698 (i := 10) (by decide +kernel) rfl
theorem dL_law_709 : decode cL_law 709 = .ok (.iload_n 3, 1) := zrD zrw_cL_law_698 (i := 11) (by decide +kernel) rfl
theorem dL_law_710 : decode cL_law 710 = .ok (.iconst 1, 1) := zrD zrw_cL_law_698 (i := 12) (by decide +kernel) rfl
theorem dL_law_711 : decode cL_law 711 = .ok (.iadd, 1) := zrD zrw_cL_law_698 (i := 13) (by decide +kernel) rfl
theorem dL_law_712 : decode cL_law 712 = .ok (.iaload, 1) := zrD zrw_cL_law_698 (i := 14) (by decide +kernel) rfl
theorem dL_law_713 : decode cL_law 713 = .ok (.invokevirtual 92, 3) := zrD zrw_cL_law_698 (i := 15) (by decide +kernel) rfl
theorem dL_law_716 : decode cL_law 716 = .ok (.pop, 1) := zrD zrw_cL_law_698 (i := 18) (by decide +kernel) rfl
theorem dL_law_717 : decode cL_law 717 = .ok (.goto 724, 3) := zrD zrw_cL_law_698 (i := 19) (by decide +kernel) rfl
theorem dL_law_720 : decode cL_law 720 = .ok (.aload_n 1, 1) := zrD zrw_cL_law_698 (i := 22) (by decide +kernel) rfl
theorem dL_law_721 : decode cL_law 721 = .ok (.aload_n 0, 1) := zrD zrw_cL_law_698 (i := 23) (by decide +kernel) rfl
theorem dL_law_722 : decode cL_law 722 = .ok (.iload_n 3, 1) := zrD zrw_cL_law_698 (i := 24) (by decide +kernel) rfl
theorem dL_law_723 : decode cL_law 723 = .ok (.iconst 1, 1) := zrD zrw_cL_law_698 (i := 25) (by decide +kernel) rfl
theorem dL_law_724 : decode cL_law 724 = .ok (.iadd, 1) := zrD zrw_cL_law_698 (i := 26) (by decide +kernel) rfl
theorem dL_law_725 : decode cL_law 725 = .ok (.iaload, 1) := zrD zrw_cL_law_698 (i := 27) (by decide +kernel) rfl
theorem dL_law_726 : decode cL_law 726 = .ok (.aload_n 0, 1) := zrD zrw_cL_law_698 (i := 28) (by decide +kernel) rfl
theorem dL_law_727 : decode cL_law 727 = .ok (.iload_n 3, 1) := zrD zrw_cL_law_698 (i := 29) (by decide +kernel) rfl
theorem dL_law_728 : decode cL_law 728 = .ok (.iconst 2, 1) := zrD zrw_cL_law_698 (i := 30) (by decide +kernel) rfl
theorem dL_law_729 : decode cL_law 729 = .ok (.iadd, 1) := zrD zrw_cL_law_698 (i := 31) (by decide +kernel) rfl
def zrk_cL_law_730 : ByteArray := .mk #[46, 182, 0, 93, 44, 42, 29, 4, 96, 46, 42, 29, 5, 96, 46, 182, 0, 96, 159, 2, 181, 3, 172, 43, 42, 29, 4, 96, 46, 182, 0, 97]
theorem zrw_cL_law_730 : zrW 730 cL_law zrk_cL_law_730 := by unfold zrW; decide +kernel
theorem dL_law_730 : decode cL_law 730 = .ok (.iaload, 1) := zrD zrw_cL_law_730 (i := 0) (by decide +kernel) rfl
theorem dL_law_731 : decode cL_law 731 = .ok (.invokevirtual 93, 3) := zrD zrw_cL_law_730 (i := 1) (by decide +kernel) rfl
theorem dL_law_734 : decode cL_law 734 = .ok (.aload_n 2, 1) := zrD zrw_cL_law_730 (i := 4) (by decide +kernel) rfl
theorem dL_law_735 : decode cL_law 735 = .ok (.aload_n 0, 1) := zrD zrw_cL_law_730 (i := 5) (by decide +kernel) rfl
theorem dL_law_736 : decode cL_law 736 = .ok (.iload_n 3, 1) := zrD zrw_cL_law_730 (i := 6) (by decide +kernel) rfl
theorem dL_law_737 : decode cL_law 737 = .ok (.iconst 1, 1) := zrD zrw_cL_law_730 (i := 7) (by decide +kernel) rfl
theorem dL_law_738 : decode cL_law 738 = .ok (.iadd, 1) := zrD zrw_cL_law_730 (i := 8) (by decide +kernel) rfl
theorem dL_law_739 : decode cL_law 739 = .ok (.iaload, 1) := zrD zrw_cL_law_730 (i := 9) (by decide +kernel) rfl
theorem dL_law_740 : decode cL_law 740 = .ok (.aload_n 0, 1) := zrD zrw_cL_law_730 (i := 10) (by decide +kernel) rfl
theorem dL_law_741 : decode cL_law 741 = .ok (.iload_n 3, 1) := zrD zrw_cL_law_730 (i := 11) (by decide +kernel) rfl
theorem dL_law_742 : decode cL_law 742 = .ok (.iconst 2, 1) := zrD zrw_cL_law_730 (i := 12) (by decide +kernel) rfl
theorem dL_law_743 : decode cL_law 743 = .ok (.iadd, 1) := zrD zrw_cL_law_730 (i := 13) (by decide +kernel) rfl
theorem dL_law_744 : decode cL_law 744 = .ok (.iaload, 1) := zrD zrw_cL_law_730 (i := 14) (by decide +kernel) rfl
theorem dL_law_745 : decode cL_law 745 = .ok (.invokevirtual 96, 3) := zrD zrw_cL_law_730 (i := 15) (by decide +kernel) rfl
theorem dL_law_748 : decode cL_law 748 = .ok (.if_icmp .eq 693, 3) := zrD zrw_cL_law_730 (i := 18) (by decide +kernel) rfl
theorem dL_law_751 : decode cL_law 751 = .ok (.iconst 0, 1) := zrD zrw_cL_law_730 (i := 21) (by decide +kernel) rfl
theorem dL_law_753 : decode cL_law 753 = .ok (.aload_n 1, 1) := zrD zrw_cL_law_730 (i := 23) (by decide +kernel) rfl
theorem dL_law_754 : decode cL_law 754 = .ok (.aload_n 0, 1) := zrD zrw_cL_law_730 (i := 24) (by decide +kernel) rfl
theorem dL_law_755 : decode cL_law 755 = .ok (.iload_n 3, 1) := zrD zrw_cL_law_730 (i := 25) (by decide +kernel) rfl
theorem dL_law_756 : decode cL_law 756 = .ok (.iconst 1, 1) := zrD zrw_cL_law_730 (i := 26) (by decide +kernel) rfl
theorem dL_law_757 : decode cL_law 757 = .ok (.iadd, 1) := zrD zrw_cL_law_730 (i := 27) (by decide +kernel) rfl
theorem dL_law_758 : decode cL_law 758 = .ok (.iaload, 1) := zrD zrw_cL_law_730 (i := 28) (by decide +kernel) rfl
theorem dL_law_759 : decode cL_law 759 = .ok (.invokevirtual 97, 3) := zrD zrw_cL_law_730 (i := 29) (by decide +kernel) rfl
def zrk_cL_law_762 : ByteArray := .mk #[87, 44, 42, 29, 4, 96, 46, 182, 0, 100, 87, 167, 2, 156, 43, 42, 29, 4, 96, 46, 182, 0, 101, 87, 44, 42, 29, 4, 96, 46]
theorem zrw_cL_law_762 : zrW 762 cL_law zrk_cL_law_762 := by unfold zrW; decide +kernel
theorem dL_law_762 : decode cL_law 762 = .ok (.pop, 1) := zrD zrw_cL_law_762 (i := 0) (by decide +kernel) rfl
theorem dL_law_763 : decode cL_law 763 = .ok (.aload_n 2, 1) := zrD zrw_cL_law_762 (i := 1) (by decide +kernel) rfl
theorem dL_law_764 : decode cL_law 764 = .ok (.aload_n 0, 1) := zrD zrw_cL_law_762 (i := 2) (by decide +kernel) rfl
theorem dL_law_765 : decode cL_law 765 = .ok (.iload_n 3, 1) := zrD zrw_cL_law_762 (i := 3) (by decide +kernel) rfl
theorem dL_law_766 : decode cL_law 766 = .ok (.iconst 1, 1) := zrD zrw_cL_law_762 (i := 4) (by decide +kernel) rfl
theorem dL_law_767 : decode cL_law 767 = .ok (.iadd, 1) := zrD zrw_cL_law_762 (i := 5) (by decide +kernel) rfl
theorem dL_law_768 : decode cL_law 768 = .ok (.iaload, 1) := zrD zrw_cL_law_762 (i := 6) (by decide +kernel) rfl
theorem dL_law_769 : decode cL_law 769 = .ok (.invokevirtual 100, 3) := zrD zrw_cL_law_762 (i := 7) (by decide +kernel) rfl
theorem dL_law_772 : decode cL_law 772 = .ok (.pop, 1) := zrD zrw_cL_law_762 (i := 10) (by decide +kernel) rfl
theorem dL_law_773 : decode cL_law 773 = .ok (.goto 668, 3) := zrD zrw_cL_law_762 (i := 11) (by decide +kernel) rfl
theorem dL_law_776 : decode cL_law 776 = .ok (.aload_n 1, 1) := zrD zrw_cL_law_762 (i := 14) (by decide +kernel) rfl
theorem dL_law_777 : decode cL_law 777 = .ok (.aload_n 0, 1) := zrD zrw_cL_law_762 (i := 15) (by decide +kernel) rfl
theorem dL_law_778 : decode cL_law 778 = .ok (.iload_n 3, 1) := zrD zrw_cL_law_762 (i := 16) (by decide +kernel) rfl
theorem dL_law_779 : decode cL_law 779 = .ok (.iconst 1, 1) := zrD zrw_cL_law_762 (i := 17) (by decide +kernel) rfl
theorem dL_law_780 : decode cL_law 780 = .ok (.iadd, 1) := zrD zrw_cL_law_762 (i := 18) (by decide +kernel) rfl
theorem dL_law_781 : decode cL_law 781 = .ok (.iaload, 1) := zrD zrw_cL_law_762 (i := 19) (by decide +kernel) rfl
theorem dL_law_782 : decode cL_law 782 = .ok (.invokevirtual 101, 3) := zrD zrw_cL_law_762 (i := 20) (by decide +kernel) rfl
theorem dL_law_785 : decode cL_law 785 = .ok (.pop, 1) := zrD zrw_cL_law_762 (i := 23) (by decide +kernel) rfl
theorem dL_law_786 : decode cL_law 786 = .ok (.aload_n 2, 1) := zrD zrw_cL_law_762 (i := 24) (by decide +kernel) rfl
theorem dL_law_787 : decode cL_law 787 = .ok (.aload_n 0, 1) := zrD zrw_cL_law_762 (i := 25) (by decide +kernel) rfl
theorem dL_law_788 : decode cL_law 788 = .ok (.iload_n 3, 1) := zrD zrw_cL_law_762 (i := 26) (by decide +kernel) rfl
theorem dL_law_789 : decode cL_law 789 = .ok (.iconst 1, 1) := zrD zrw_cL_law_762 (i := 27) (by decide +kernel) rfl
theorem dL_law_790 : decode cL_law 790 = .ok (.iadd, 1) := zrD zrw_cL_law_762 (i := 28) (by decide +kernel) rfl
theorem dL_law_791 : decode cL_law 791 = .ok (.iaload, 1) := zrD zrw_cL_law_762 (i := 29) (by decide +kernel) rfl
def zrk_cL_law_792 : ByteArray := .mk #[182, 0, 104, 87, 167, 2, 133, 43, 42, 29, 4, 96, 46, 42, 29, 5, 96, 46, 182, 0, 105, 87, 44, 42, 29, 4, 96, 46, 42, 29, 5, 96]
theorem zrw_cL_law_792 : zrW 792 cL_law zrk_cL_law_792 := by unfold zrW; decide +kernel
theorem dL_law_792 : decode cL_law 792 = .ok (.invokevirtual 104, 3) := zrD zrw_cL_law_792 (i := 0) (by decide +kernel) rfl
theorem dL_law_795 : decode cL_law 795 = .ok (.pop, 1) := zrD zrw_cL_law_792 (i := 3) (by decide +kernel) rfl
theorem dL_law_796 : decode cL_law 796 = .ok (.goto 645, 3) := zrD zrw_cL_law_792 (i := 4) (by decide +kernel) rfl
theorem dL_law_799 : decode cL_law 799 = .ok (.aload_n 1, 1) := zrD zrw_cL_law_792 (i := 7) (by decide +kernel) rfl
theorem dL_law_800 : decode cL_law 800 = .ok (.aload_n 0, 1) := zrD zrw_cL_law_792 (i := 8) (by decide +kernel) rfl
theorem dL_law_801 : decode cL_law 801 = .ok (.iload_n 3, 1) := zrD zrw_cL_law_792 (i := 9) (by decide +kernel) rfl
theorem dL_law_802 : decode cL_law 802 = .ok (.iconst 1, 1) := zrD zrw_cL_law_792 (i := 10) (by decide +kernel) rfl
theorem dL_law_803 : decode cL_law 803 = .ok (.iadd, 1) := zrD zrw_cL_law_792 (i := 11) (by decide +kernel) rfl
theorem dL_law_804 : decode cL_law 804 = .ok (.iaload, 1) := zrD zrw_cL_law_792 (i := 12) (by decide +kernel) rfl
theorem dL_law_805 : decode cL_law 805 = .ok (.aload_n 0, 1) := zrD zrw_cL_law_792 (i := 13) (by decide +kernel) rfl
theorem dL_law_806 : decode cL_law 806 = .ok (.iload_n 3, 1) := zrD zrw_cL_law_792 (i := 14) (by decide +kernel) rfl
theorem dL_law_807 : decode cL_law 807 = .ok (.iconst 2, 1) := zrD zrw_cL_law_792 (i := 15) (by decide +kernel) rfl
theorem dL_law_808 : decode cL_law 808 = .ok (.iadd, 1) := zrD zrw_cL_law_792 (i := 16) (by decide +kernel) rfl
theorem dL_law_809 : decode cL_law 809 = .ok (.iaload, 1) := zrD zrw_cL_law_792 (i := 17) (by decide +kernel) rfl
theorem dL_law_810 : decode cL_law 810 = .ok (.invokevirtual 105, 3) := zrD zrw_cL_law_792 (i := 18) (by decide +kernel) rfl
theorem dL_law_813 : decode cL_law 813 = .ok (.pop, 1) := zrD zrw_cL_law_792 (i := 21) (by decide +kernel) rfl
theorem dL_law_814 : decode cL_law 814 = .ok (.aload_n 2, 1) := zrD zrw_cL_law_792 (i := 22) (by decide +kernel) rfl
theorem dL_law_815 : decode cL_law 815 = .ok (.aload_n 0, 1) := zrD zrw_cL_law_792 (i := 23) (by decide +kernel) rfl
theorem dL_law_816 : decode cL_law 816 = .ok (.iload_n 3, 1) := zrD zrw_cL_law_792 (i := 24) (by decide +kernel) rfl
theorem dL_law_817 : decode cL_law 817 = .ok (.iconst 1, 1) := zrD zrw_cL_law_792 (i := 25) (by decide +kernel) rfl
theorem dL_law_818 : decode cL_law 818 = .ok (.iadd, 1) := zrD zrw_cL_law_792 (i := 26) (by decide +kernel) rfl
theorem dL_law_819 : decode cL_law 819 = .ok (.iaload, 1) := zrD zrw_cL_law_792 (i := 27) (by decide +kernel) rfl
theorem dL_law_820 : decode cL_law 820 = .ok (.aload_n 0, 1) := zrD zrw_cL_law_792 (i := 28) (by decide +kernel) rfl
theorem dL_law_821 : decode cL_law 821 = .ok (.iload_n 3, 1) := zrD zrw_cL_law_792 (i := 29) (by decide +kernel) rfl
theorem dL_law_822 : decode cL_law 822 = .ok (.iconst 2, 1) := zrD zrw_cL_law_792 (i := 30) (by decide +kernel) rfl
theorem dL_law_823 : decode cL_law 823 = .ok (.iadd, 1) := zrD zrw_cL_law_792 (i := 31) (by decide +kernel) rfl
def zrk_cL_law_824 : ByteArray := .mk #[46, 182, 0, 108, 87, 167, 2, 100, 43, 42, 29, 4, 96, 46, 42, 29, 5, 96, 46, 182, 0, 109, 87, 44, 42, 29, 4, 96, 46, 42, 29, 5]
theorem zrw_cL_law_824 : zrW 824 cL_law zrk_cL_law_824 := by unfold zrW; decide +kernel
theorem dL_law_824 : decode cL_law 824 = .ok (.iaload, 1) := zrD zrw_cL_law_824 (i := 0) (by decide +kernel) rfl
theorem dL_law_825 : decode cL_law 825 = .ok (.invokevirtual 108, 3) := zrD zrw_cL_law_824 (i := 1) (by decide +kernel) rfl
theorem dL_law_828 : decode cL_law 828 = .ok (.pop, 1) := zrD zrw_cL_law_824 (i := 4) (by decide +kernel) rfl
theorem dL_law_829 : decode cL_law 829 = .ok (.goto 612, 3) := zrD zrw_cL_law_824 (i := 5) (by decide +kernel) rfl
theorem dL_law_832 : decode cL_law 832 = .ok (.aload_n 1, 1) := zrD zrw_cL_law_824 (i := 8) (by decide +kernel) rfl
theorem dL_law_833 : decode cL_law 833 = .ok (.aload_n 0, 1) := zrD zrw_cL_law_824 (i := 9) (by decide +kernel) rfl
theorem dL_law_834 : decode cL_law 834 = .ok (.iload_n 3, 1) := zrD zrw_cL_law_824 (i := 10) (by decide +kernel) rfl
theorem dL_law_835 : decode cL_law 835 = .ok (.iconst 1, 1) := zrD zrw_cL_law_824 (i := 11) (by decide +kernel) rfl
theorem dL_law_836 : decode cL_law 836 = .ok (.iadd, 1) := zrD zrw_cL_law_824 (i := 12) (by decide +kernel) rfl
theorem dL_law_837 : decode cL_law 837 = .ok (.iaload, 1) := zrD zrw_cL_law_824 (i := 13) (by decide +kernel) rfl
theorem dL_law_838 : decode cL_law 838 = .ok (.aload_n 0, 1) := zrD zrw_cL_law_824 (i := 14) (by decide +kernel) rfl
theorem dL_law_839 : decode cL_law 839 = .ok (.iload_n 3, 1) := zrD zrw_cL_law_824 (i := 15) (by decide +kernel) rfl
theorem dL_law_840 : decode cL_law 840 = .ok (.iconst 2, 1) := zrD zrw_cL_law_824 (i := 16) (by decide +kernel) rfl
theorem dL_law_841 : decode cL_law 841 = .ok (.iadd, 1) := zrD zrw_cL_law_824 (i := 17) (by decide +kernel) rfl
theorem dL_law_842 : decode cL_law 842 = .ok (.iaload, 1) := zrD zrw_cL_law_824 (i := 18) (by decide +kernel) rfl
theorem dL_law_843 : decode cL_law 843 = .ok (.invokevirtual 109, 3) := zrD zrw_cL_law_824 (i := 19) (by decide +kernel) rfl
theorem dL_law_846 : decode cL_law 846 = .ok (.pop, 1) := zrD zrw_cL_law_824 (i := 22) (by decide +kernel) rfl
theorem dL_law_847 : decode cL_law 847 = .ok (.aload_n 2, 1) := zrD zrw_cL_law_824 (i := 23) (by decide +kernel) rfl
theorem dL_law_848 : decode cL_law 848 = .ok (.aload_n 0, 1) := zrD zrw_cL_law_824 (i := 24) (by decide +kernel) rfl
theorem dL_law_849 : decode cL_law 849 = .ok (.iload_n 3, 1) := zrD zrw_cL_law_824 (i := 25) (by decide +kernel) rfl
theorem dL_law_850 : decode cL_law 850 = .ok (.iconst 1, 1) := zrD zrw_cL_law_824 (i := 26) (by decide +kernel) rfl
theorem dL_law_851 : decode cL_law 851 = .ok (.iadd, 1) := zrD zrw_cL_law_824 (i := 27) (by decide +kernel) rfl
theorem dL_law_852 : decode cL_law 852 = .ok (.iaload, 1) := zrD zrw_cL_law_824 (i := 28) (by decide +kernel) rfl
theorem dL_law_853 : decode cL_law 853 = .ok (.aload_n 0, 1) := zrD zrw_cL_law_824 (i := 29) (by decide +kernel) rfl
theorem dL_law_854 : decode cL_law 854 = .ok (.iload_n 3, 1) := zrD zrw_cL_law_824 (i := 30) (by decide +kernel) rfl
theorem dL_law_855 : decode cL_law 855 = .ok (.iconst 2, 1) := zrD zrw_cL_law_824 (i := 31) (by decide +kernel) rfl
def zrk_cL_law_856 : ByteArray := .mk #[96, 46, 182, 0, 112, 87, 167, 2, 67, 43, 42, 29, 4, 96, 46, 42, 29, 5, 96, 46, 182, 0, 113, 87, 44, 42, 29, 4, 96, 46, 42, 29]
theorem zrw_cL_law_856 : zrW 856 cL_law zrk_cL_law_856 := by unfold zrW; decide +kernel
theorem dL_law_856 : decode cL_law 856 = .ok (.iadd, 1) := zrD zrw_cL_law_856 (i := 0) (by decide +kernel) rfl
theorem dL_law_857 : decode cL_law 857 = .ok (.iaload, 1) := zrD zrw_cL_law_856 (i := 1) (by decide +kernel) rfl
theorem dL_law_858 : decode cL_law 858 = .ok (.invokevirtual 112, 3) := zrD zrw_cL_law_856 (i := 2) (by decide +kernel) rfl
theorem dL_law_861 : decode cL_law 861 = .ok (.pop, 1) := zrD zrw_cL_law_856 (i := 5) (by decide +kernel) rfl
theorem dL_law_862 : decode cL_law 862 = .ok (.goto 579, 3) := zrD zrw_cL_law_856 (i := 6) (by decide +kernel) rfl
theorem dL_law_865 : decode cL_law 865 = .ok (.aload_n 1, 1) := zrD zrw_cL_law_856 (i := 9) (by decide +kernel) rfl
theorem dL_law_866 : decode cL_law 866 = .ok (.aload_n 0, 1) := zrD zrw_cL_law_856 (i := 10) (by decide +kernel) rfl
theorem dL_law_867 : decode cL_law 867 = .ok (.iload_n 3, 1) := zrD zrw_cL_law_856 (i := 11) (by decide +kernel) rfl
theorem dL_law_868 : decode cL_law 868 = .ok (.iconst 1, 1) := zrD zrw_cL_law_856 (i := 12) (by decide +kernel) rfl
theorem dL_law_869 : decode cL_law 869 = .ok (.iadd, 1) := zrD zrw_cL_law_856 (i := 13) (by decide +kernel) rfl
theorem dL_law_870 : decode cL_law 870 = .ok (.iaload, 1) := zrD zrw_cL_law_856 (i := 14) (by decide +kernel) rfl
theorem dL_law_871 : decode cL_law 871 = .ok (.aload_n 0, 1) := zrD zrw_cL_law_856 (i := 15) (by decide +kernel) rfl
theorem dL_law_872 : decode cL_law 872 = .ok (.iload_n 3, 1) := zrD zrw_cL_law_856 (i := 16) (by decide +kernel) rfl
theorem dL_law_873 : decode cL_law 873 = .ok (.iconst 2, 1) := zrD zrw_cL_law_856 (i := 17) (by decide +kernel) rfl
theorem dL_law_874 : decode cL_law 874 = .ok (.iadd, 1) := zrD zrw_cL_law_856 (i := 18) (by decide +kernel) rfl
theorem dL_law_875 : decode cL_law 875 = .ok (.iaload, 1) := zrD zrw_cL_law_856 (i := 19) (by decide +kernel) rfl
theorem dL_law_876 : decode cL_law 876 = .ok (.invokevirtual 113, 3) := zrD zrw_cL_law_856 (i := 20) (by decide +kernel) rfl
theorem dL_law_879 : decode cL_law 879 = .ok (.pop, 1) := zrD zrw_cL_law_856 (i := 23) (by decide +kernel) rfl
theorem dL_law_880 : decode cL_law 880 = .ok (.aload_n 2, 1) := zrD zrw_cL_law_856 (i := 24) (by decide +kernel) rfl
theorem dL_law_881 : decode cL_law 881 = .ok (.aload_n 0, 1) := zrD zrw_cL_law_856 (i := 25) (by decide +kernel) rfl
theorem dL_law_882 : decode cL_law 882 = .ok (.iload_n 3, 1) := zrD zrw_cL_law_856 (i := 26) (by decide +kernel) rfl
theorem dL_law_883 : decode cL_law 883 = .ok (.iconst 1, 1) := zrD zrw_cL_law_856 (i := 27) (by decide +kernel) rfl
theorem dL_law_884 : decode cL_law 884 = .ok (.iadd, 1) := zrD zrw_cL_law_856 (i := 28) (by decide +kernel) rfl
theorem dL_law_885 : decode cL_law 885 = .ok (.iaload, 1) := zrD zrw_cL_law_856 (i := 29) (by decide +kernel) rfl
theorem dL_law_886 : decode cL_law 886 = .ok (.aload_n 0, 1) := zrD zrw_cL_law_856 (i := 30) (by decide +kernel) rfl
theorem dL_law_887 : decode cL_law 887 = .ok (.iload_n 3, 1) := zrD zrw_cL_law_856 (i := 31) (by decide +kernel) rfl
def zrk_cL_law_888 : ByteArray := .mk #[5, 96, 46, 182, 0, 116, 87, 167, 2, 34, 43, 182, 0, 117, 87, 44, 182, 0, 120, 87, 167, 2, 21, 43, 42, 29, 4, 96, 46, 182, 0, 121]
theorem zrw_cL_law_888 : zrW 888 cL_law zrk_cL_law_888 := by unfold zrW; decide +kernel
theorem dL_law_888 : decode cL_law 888 = .ok (.iconst 2, 1) := zrD zrw_cL_law_888 (i := 0) (by decide +kernel) rfl
theorem dL_law_889 : decode cL_law 889 = .ok (.iadd, 1) := zrD zrw_cL_law_888 (i := 1) (by decide +kernel) rfl
theorem dL_law_890 : decode cL_law 890 = .ok (.iaload, 1) := zrD zrw_cL_law_888 (i := 2) (by decide +kernel) rfl
theorem dL_law_891 : decode cL_law 891 = .ok (.invokevirtual 116, 3) := zrD zrw_cL_law_888 (i := 3) (by decide +kernel) rfl
theorem dL_law_894 : decode cL_law 894 = .ok (.pop, 1) := zrD zrw_cL_law_888 (i := 6) (by decide +kernel) rfl
theorem dL_law_895 : decode cL_law 895 = .ok (.goto 546, 3) := zrD zrw_cL_law_888 (i := 7) (by decide +kernel) rfl
theorem dL_law_898 : decode cL_law 898 = .ok (.aload_n 1, 1) := zrD zrw_cL_law_888 (i := 10) (by decide +kernel) rfl
theorem dL_law_899 : decode cL_law 899 = .ok (.invokevirtual 117, 3) := zrD zrw_cL_law_888 (i := 11) (by decide +kernel) rfl
theorem dL_law_902 : decode cL_law 902 = .ok (.pop, 1) := zrD zrw_cL_law_888 (i := 14) (by decide +kernel) rfl
theorem dL_law_903 : decode cL_law 903 = .ok (.aload_n 2, 1) := zrD zrw_cL_law_888 (i := 15) (by decide +kernel) rfl
theorem dL_law_904 : decode cL_law 904 = .ok (.invokevirtual 120, 3) := zrD zrw_cL_law_888 (i := 16) (by decide +kernel) rfl
theorem dL_law_907 : decode cL_law 907 = .ok (.pop, 1) := zrD zrw_cL_law_888 (i := 19) (by decide +kernel) rfl
theorem dL_law_908 : decode cL_law 908 = .ok (.goto 533, 3) := zrD zrw_cL_law_888 (i := 20) (by decide +kernel) rfl
theorem dL_law_911 : decode cL_law 911 = .ok (.aload_n 1, 1) := zrD zrw_cL_law_888 (i := 23) (by decide +kernel) rfl
theorem dL_law_912 : decode cL_law 912 = .ok (.aload_n 0, 1) := zrD zrw_cL_law_888 (i := 24) (by decide +kernel) rfl
theorem dL_law_913 : decode cL_law 913 = .ok (.iload_n 3, 1) := zrD zrw_cL_law_888 (i := 25) (by decide +kernel) rfl
theorem dL_law_914 : decode cL_law 914 = .ok (.iconst 1, 1) := zrD zrw_cL_law_888 (i := 26) (by decide +kernel) rfl
theorem dL_law_915 : decode cL_law 915 = .ok (.iadd, 1) := zrD zrw_cL_law_888 (i := 27) (by decide +kernel) rfl
theorem dL_law_916 : decode cL_law 916 = .ok (.iaload, 1) := zrD zrw_cL_law_888 (i := 28) (by decide +kernel) rfl
theorem dL_law_917 : decode cL_law 917 = .ok (.invokevirtual 121, 3) := zrD zrw_cL_law_888 (i := 29) (by decide +kernel) rfl
def zrk_cL_law_920 : ByteArray := .mk #[87, 44, 42, 29, 4, 96, 46, 182, 0, 124, 87, 167, 1, 254, 43, 42, 29, 4, 96, 46, 42, 29, 5, 96, 46, 182, 0, 125, 87, 44, 42, 29]
theorem zrw_cL_law_920 : zrW 920 cL_law zrk_cL_law_920 := by unfold zrW; decide +kernel
theorem dL_law_920 : decode cL_law 920 = .ok (.pop, 1) := zrD zrw_cL_law_920 (i := 0) (by decide +kernel) rfl
theorem dL_law_921 : decode cL_law 921 = .ok (.aload_n 2, 1) := zrD zrw_cL_law_920 (i := 1) (by decide +kernel) rfl
theorem dL_law_922 : decode cL_law 922 = .ok (.aload_n 0, 1) := zrD zrw_cL_law_920 (i := 2) (by decide +kernel) rfl
theorem dL_law_923 : decode cL_law 923 = .ok (.iload_n 3, 1) := zrD zrw_cL_law_920 (i := 3) (by decide +kernel) rfl
theorem dL_law_924 : decode cL_law 924 = .ok (.iconst 1, 1) := zrD zrw_cL_law_920 (i := 4) (by decide +kernel) rfl
theorem dL_law_925 : decode cL_law 925 = .ok (.iadd, 1) := zrD zrw_cL_law_920 (i := 5) (by decide +kernel) rfl
theorem dL_law_926 : decode cL_law 926 = .ok (.iaload, 1) := zrD zrw_cL_law_920 (i := 6) (by decide +kernel) rfl
theorem dL_law_927 : decode cL_law 927 = .ok (.invokevirtual 124, 3) := zrD zrw_cL_law_920 (i := 7) (by decide +kernel) rfl
theorem dL_law_930 : decode cL_law 930 = .ok (.pop, 1) := zrD zrw_cL_law_920 (i := 10) (by decide +kernel) rfl
theorem dL_law_931 : decode cL_law 931 = .ok (.goto 510, 3) := zrD zrw_cL_law_920 (i := 11) (by decide +kernel) rfl
theorem dL_law_934 : decode cL_law 934 = .ok (.aload_n 1, 1) := zrD zrw_cL_law_920 (i := 14) (by decide +kernel) rfl
theorem dL_law_935 : decode cL_law 935 = .ok (.aload_n 0, 1) := zrD zrw_cL_law_920 (i := 15) (by decide +kernel) rfl
theorem dL_law_936 : decode cL_law 936 = .ok (.iload_n 3, 1) := zrD zrw_cL_law_920 (i := 16) (by decide +kernel) rfl
theorem dL_law_937 : decode cL_law 937 = .ok (.iconst 1, 1) := zrD zrw_cL_law_920 (i := 17) (by decide +kernel) rfl
theorem dL_law_938 : decode cL_law 938 = .ok (.iadd, 1) := zrD zrw_cL_law_920 (i := 18) (by decide +kernel) rfl
theorem dL_law_939 : decode cL_law 939 = .ok (.iaload, 1) := zrD zrw_cL_law_920 (i := 19) (by decide +kernel) rfl
theorem dL_law_940 : decode cL_law 940 = .ok (.aload_n 0, 1) := zrD zrw_cL_law_920 (i := 20) (by decide +kernel) rfl
theorem dL_law_941 : decode cL_law 941 = .ok (.iload_n 3, 1) := zrD zrw_cL_law_920 (i := 21) (by decide +kernel) rfl
theorem dL_law_942 : decode cL_law 942 = .ok (.iconst 2, 1) := zrD zrw_cL_law_920 (i := 22) (by decide +kernel) rfl
theorem dL_law_943 : decode cL_law 943 = .ok (.iadd, 1) := zrD zrw_cL_law_920 (i := 23) (by decide +kernel) rfl
theorem dL_law_944 : decode cL_law 944 = .ok (.iaload, 1) := zrD zrw_cL_law_920 (i := 24) (by decide +kernel) rfl
theorem dL_law_945 : decode cL_law 945 = .ok (.invokevirtual 125, 3) := zrD zrw_cL_law_920 (i := 25) (by decide +kernel) rfl
theorem dL_law_948 : decode cL_law 948 = .ok (.pop, 1) := zrD zrw_cL_law_920 (i := 28) (by decide +kernel) rfl
theorem dL_law_949 : decode cL_law 949 = .ok (.aload_n 2, 1) := zrD zrw_cL_law_920 (i := 29) (by decide +kernel) rfl
theorem dL_law_950 : decode cL_law 950 = .ok (.aload_n 0, 1) := zrD zrw_cL_law_920 (i := 30) (by decide +kernel) rfl
theorem dL_law_951 : decode cL_law 951 = .ok (.iload_n 3, 1) := zrD zrw_cL_law_920 (i := 31) (by decide +kernel) rfl
def zrk_cL_law_952 : ByteArray := .mk #[4, 96, 46, 42, 29, 5, 96, 46, 182, 0, 128, 87, 167, 1, 221, 43, 42, 29, 4, 96, 46, 182, 0, 129, 87, 44, 42, 29, 4, 96, 46]
theorem zrw_cL_law_952 : zrW 952 cL_law zrk_cL_law_952 := by unfold zrW; decide +kernel
theorem dL_law_952 : decode cL_law 952 = .ok (.iconst 1, 1) := zrD zrw_cL_law_952 (i := 0) (by decide +kernel) rfl
theorem dL_law_953 : decode cL_law 953 = .ok (.iadd, 1) := zrD zrw_cL_law_952 (i := 1) (by decide +kernel) rfl
theorem dL_law_954 : decode cL_law 954 = .ok (.iaload, 1) := zrD zrw_cL_law_952 (i := 2) (by decide +kernel) rfl
theorem dL_law_955 : decode cL_law 955 = .ok (.aload_n 0, 1) := zrD zrw_cL_law_952 (i := 3) (by decide +kernel) rfl
theorem dL_law_956 : decode cL_law 956 = .ok (.iload_n 3, 1) := zrD zrw_cL_law_952 (i := 4) (by decide +kernel) rfl
theorem dL_law_957 : decode cL_law 957 = .ok (.iconst 2, 1) := zrD zrw_cL_law_952 (i := 5) (by decide +kernel) rfl
theorem dL_law_958 : decode cL_law 958 = .ok (.iadd, 1) := zrD zrw_cL_law_952 (i := 6) (by decide +kernel) rfl
theorem dL_law_959 : decode cL_law 959 = .ok (.iaload, 1) := zrD zrw_cL_law_952 (i := 7) (by decide +kernel) rfl
theorem dL_law_960 : decode cL_law 960 = .ok (.invokevirtual 128, 3) := zrD zrw_cL_law_952 (i := 8) (by decide +kernel) rfl
theorem dL_law_963 : decode cL_law 963 = .ok (.pop, 1) := zrD zrw_cL_law_952 (i := 11) (by decide +kernel) rfl
theorem dL_law_964 : decode cL_law 964 = .ok (.goto 477, 3) := zrD zrw_cL_law_952 (i := 12) (by decide +kernel) rfl
theorem dL_law_967 : decode cL_law 967 = .ok (.aload_n 1, 1) := zrD zrw_cL_law_952 (i := 15) (by decide +kernel) rfl
theorem dL_law_968 : decode cL_law 968 = .ok (.aload_n 0, 1) := zrD zrw_cL_law_952 (i := 16) (by decide +kernel) rfl
theorem dL_law_969 : decode cL_law 969 = .ok (.iload_n 3, 1) := zrD zrw_cL_law_952 (i := 17) (by decide +kernel) rfl
theorem dL_law_970 : decode cL_law 970 = .ok (.iconst 1, 1) := zrD zrw_cL_law_952 (i := 18) (by decide +kernel) rfl
theorem dL_law_971 : decode cL_law 971 = .ok (.iadd, 1) := zrD zrw_cL_law_952 (i := 19) (by decide +kernel) rfl
theorem dL_law_972 : decode cL_law 972 = .ok (.iaload, 1) := zrD zrw_cL_law_952 (i := 20) (by decide +kernel) rfl
theorem dL_law_973 : decode cL_law 973 = .ok (.invokevirtual 129, 3) := zrD zrw_cL_law_952 (i := 21) (by decide +kernel) rfl
theorem dL_law_976 : decode cL_law 976 = .ok (.pop, 1) := zrD zrw_cL_law_952 (i := 24) (by decide +kernel) rfl
theorem dL_law_977 : decode cL_law 977 = .ok (.aload_n 2, 1) := zrD zrw_cL_law_952 (i := 25) (by decide +kernel) rfl
theorem dL_law_978 : decode cL_law 978 = .ok (.aload_n 0, 1) := zrD zrw_cL_law_952 (i := 26) (by decide +kernel) rfl
theorem dL_law_979 : decode cL_law 979 = .ok (.iload_n 3, 1) := zrD zrw_cL_law_952 (i := 27) (by decide +kernel) rfl
theorem dL_law_980 : decode cL_law 980 = .ok (.iconst 1, 1) := zrD zrw_cL_law_952 (i := 28) (by decide +kernel) rfl
theorem dL_law_981 : decode cL_law 981 = .ok (.iadd, 1) := zrD zrw_cL_law_952 (i := 29) (by decide +kernel) rfl
theorem dL_law_982 : decode cL_law 982 = .ok (.iaload, 1) := zrD zrw_cL_law_952 (i := 30) (by decide +kernel) rfl
def zrk_cL_law_983 : ByteArray := .mk #[182, 0, 132, 87, 167, 1, 198, 43, 42, 29, 4, 96, 46, 42, 29, 5, 96, 46, 42, 29, 6, 96, 46, 182, 0, 133, 87, 44, 42, 29, 4, 96]
theorem zrw_cL_law_983 : zrW 983 cL_law zrk_cL_law_983 := by unfold zrW; decide +kernel
theorem dL_law_983 : decode cL_law 983 = .ok (.invokevirtual 132, 3) := zrD zrw_cL_law_983 (i := 0) (by decide +kernel) rfl
theorem dL_law_986 : decode cL_law 986 = .ok (.pop, 1) := zrD zrw_cL_law_983 (i := 3) (by decide +kernel) rfl
theorem dL_law_987 : decode cL_law 987 = .ok (.goto 454, 3) := zrD zrw_cL_law_983 (i := 4) (by decide +kernel) rfl
theorem dL_law_990 : decode cL_law 990 = .ok (.aload_n 1, 1) := zrD zrw_cL_law_983 (i := 7) (by decide +kernel) rfl
theorem dL_law_991 : decode cL_law 991 = .ok (.aload_n 0, 1) := zrD zrw_cL_law_983 (i := 8) (by decide +kernel) rfl
theorem dL_law_992 : decode cL_law 992 = .ok (.iload_n 3, 1) := zrD zrw_cL_law_983 (i := 9) (by decide +kernel) rfl
theorem dL_law_993 : decode cL_law 993 = .ok (.iconst 1, 1) := zrD zrw_cL_law_983 (i := 10) (by decide +kernel) rfl
theorem dL_law_994 : decode cL_law 994 = .ok (.iadd, 1) := zrD zrw_cL_law_983 (i := 11) (by decide +kernel) rfl
theorem dL_law_995 : decode cL_law 995 = .ok (.iaload, 1) := zrD zrw_cL_law_983 (i := 12) (by decide +kernel) rfl
theorem dL_law_996 : decode cL_law 996 = .ok (.aload_n 0, 1) := zrD zrw_cL_law_983 (i := 13) (by decide +kernel) rfl
theorem dL_law_997 : decode cL_law 997 = .ok (.iload_n 3, 1) := zrD zrw_cL_law_983 (i := 14) (by decide +kernel) rfl
theorem dL_law_998 : decode cL_law 998 = .ok (.iconst 2, 1) := zrD zrw_cL_law_983 (i := 15) (by decide +kernel) rfl
theorem dL_law_999 : decode cL_law 999 = .ok (.iadd, 1) := zrD zrw_cL_law_983 (i := 16) (by decide +kernel) rfl
theorem dL_law_1000 : decode cL_law 1000 = .ok (.iaload, 1) := zrD zrw_cL_law_983 (i := 17) (by decide +kernel) rfl
theorem dL_law_1001 : decode cL_law 1001 = .ok (.aload_n 0, 1) := zrD zrw_cL_law_983 (i := 18) (by decide +kernel) rfl
theorem dL_law_1002 : decode cL_law 1002 = .ok (.iload_n 3, 1) := zrD zrw_cL_law_983 (i := 19) (by decide +kernel) rfl
theorem dL_law_1003 : decode cL_law 1003 = .ok (.iconst 3, 1) := zrD zrw_cL_law_983 (i := 20) (by decide +kernel) rfl
theorem dL_law_1004 : decode cL_law 1004 = .ok (.iadd, 1) := zrD zrw_cL_law_983 (i := 21) (by decide +kernel) rfl
theorem dL_law_1005 : decode cL_law 1005 = .ok (.iaload, 1) := zrD zrw_cL_law_983 (i := 22) (by decide +kernel) rfl
theorem dL_law_1006 : decode cL_law 1006 = .ok (.invokevirtual 133, 3) := zrD zrw_cL_law_983 (i := 23) (by decide +kernel) rfl
theorem dL_law_1009 : decode cL_law 1009 = .ok (.pop, 1) := zrD zrw_cL_law_983 (i := 26) (by decide +kernel) rfl
theorem dL_law_1010 : decode cL_law 1010 = .ok (.aload_n 2, 1) := zrD zrw_cL_law_983 (i := 27) (by decide +kernel) rfl
theorem dL_law_1011 : decode cL_law 1011 = .ok (.aload_n 0, 1) := zrD zrw_cL_law_983 (i := 28) (by decide +kernel) rfl
theorem dL_law_1012 : decode cL_law 1012 = .ok (.iload_n 3, 1) := zrD zrw_cL_law_983 (i := 29) (by decide +kernel) rfl
theorem dL_law_1013 : decode cL_law 1013 = .ok (.iconst 1, 1) := zrD zrw_cL_law_983 (i := 30) (by decide +kernel) rfl
theorem dL_law_1014 : decode cL_law 1014 = .ok (.iadd, 1) := zrD zrw_cL_law_983 (i := 31) (by decide +kernel) rfl
def zrk_cL_law_1015 : ByteArray := .mk #[46, 42, 29, 5, 96, 46, 42, 29, 6, 96, 46, 182, 0, 137, 87, 167, 1, 155, 43, 182, 0, 138, 87, 44, 182, 0, 141, 87, 167, 1, 142, 43]
theorem zrw_cL_law_1015 : zrW 1015 cL_law zrk_cL_law_1015 := by unfold zrW; decide +kernel
theorem dL_law_1015 : decode cL_law 1015 = .ok (.iaload, 1) := zrD zrw_cL_law_1015 (i := 0) (by decide +kernel) rfl
theorem dL_law_1016 : decode cL_law 1016 = .ok (.aload_n 0, 1) := zrD zrw_cL_law_1015 (i := 1) (by decide +kernel) rfl
theorem dL_law_1017 : decode cL_law 1017 = .ok (.iload_n 3, 1) := zrD zrw_cL_law_1015 (i := 2) (by decide +kernel) rfl
theorem dL_law_1018 : decode cL_law 1018 = .ok (.iconst 2, 1) := zrD zrw_cL_law_1015 (i := 3) (by decide +kernel) rfl
theorem dL_law_1019 : decode cL_law 1019 = .ok (.iadd, 1) := zrD zrw_cL_law_1015 (i := 4) (by decide +kernel) rfl
theorem dL_law_1020 : decode cL_law 1020 = .ok (.iaload, 1) := zrD zrw_cL_law_1015 (i := 5) (by decide +kernel) rfl
theorem dL_law_1021 : decode cL_law 1021 = .ok (.aload_n 0, 1) := zrD zrw_cL_law_1015 (i := 6) (by decide +kernel) rfl
theorem dL_law_1022 : decode cL_law 1022 = .ok (.iload_n 3, 1) := zrD zrw_cL_law_1015 (i := 7) (by decide +kernel) rfl
theorem dL_law_1023 : decode cL_law 1023 = .ok (.iconst 3, 1) := zrD zrw_cL_law_1015 (i := 8) (by decide +kernel) rfl
theorem dL_law_1024 : decode cL_law 1024 = .ok (.iadd, 1) := zrD zrw_cL_law_1015 (i := 9) (by decide +kernel) rfl
theorem dL_law_1025 : decode cL_law 1025 = .ok (.iaload, 1) := zrD zrw_cL_law_1015 (i := 10) (by decide +kernel) rfl
theorem dL_law_1026 : decode cL_law 1026 = .ok (.invokevirtual 137, 3) := zrD zrw_cL_law_1015 (i := 11) (by decide +kernel) rfl
theorem dL_law_1029 : decode cL_law 1029 = .ok (.pop, 1) := zrD zrw_cL_law_1015 (i := 14) (by decide +kernel) rfl
theorem dL_law_1030 : decode cL_law 1030 = .ok (.goto 411, 3) := zrD zrw_cL_law_1015 (i := 15) (by decide +kernel) rfl
theorem dL_law_1033 : decode cL_law 1033 = .ok (.aload_n 1, 1) := zrD zrw_cL_law_1015 (i := 18) (by decide +kernel) rfl
theorem dL_law_1034 : decode cL_law 1034 = .ok (.invokevirtual 138, 3) := zrD zrw_cL_law_1015 (i := 19) (by decide +kernel) rfl
theorem dL_law_1037 : decode cL_law 1037 = .ok (.pop, 1) := zrD zrw_cL_law_1015 (i := 22) (by decide +kernel) rfl
theorem dL_law_1038 : decode cL_law 1038 = .ok (.aload_n 2, 1) := zrD zrw_cL_law_1015 (i := 23) (by decide +kernel) rfl
theorem dL_law_1039 : decode cL_law 1039 = .ok (.invokevirtual 141, 3) := zrD zrw_cL_law_1015 (i := 24) (by decide +kernel) rfl
theorem dL_law_1042 : decode cL_law 1042 = .ok (.pop, 1) := zrD zrw_cL_law_1015 (i := 27) (by decide +kernel) rfl
theorem dL_law_1043 : decode cL_law 1043 = .ok (.goto 398, 3) := zrD zrw_cL_law_1015 (i := 28) (by decide +kernel) rfl
theorem dL_law_1046 : decode cL_law 1046 = .ok (.aload_n 1, 1) := zrD zrw_cL_law_1015 (i := 31) (by decide +kernel) rfl
def zrk_cL_law_1047 : ByteArray := .mk #[182, 0, 142, 87, 44, 182, 0, 145, 87, 167, 1, 129, 43, 42, 29, 4, 96, 46, 42, 29, 5, 96, 46, 42, 29, 6, 96, 46, 182, 0, 146, 87]
theorem zrw_cL_law_1047 : zrW 1047 cL_law zrk_cL_law_1047 := by unfold zrW; decide +kernel
theorem dL_law_1047 : decode cL_law 1047 = .ok (.invokevirtual 142, 3) := zrD zrw_cL_law_1047 (i := 0) (by decide +kernel) rfl
theorem dL_law_1050 : decode cL_law 1050 = .ok (.pop, 1) := zrD zrw_cL_law_1047 (i := 3) (by decide +kernel) rfl
theorem dL_law_1051 : decode cL_law 1051 = .ok (.aload_n 2, 1) := zrD zrw_cL_law_1047 (i := 4) (by decide +kernel) rfl
theorem dL_law_1052 : decode cL_law 1052 = .ok (.invokevirtual 145, 3) := zrD zrw_cL_law_1047 (i := 5) (by decide +kernel) rfl
theorem dL_law_1055 : decode cL_law 1055 = .ok (.pop, 1) := zrD zrw_cL_law_1047 (i := 8) (by decide +kernel) rfl
theorem dL_law_1056 : decode cL_law 1056 = .ok (.goto 385, 3) := zrD zrw_cL_law_1047 (i := 9) (by decide +kernel) rfl
theorem dL_law_1059 : decode cL_law 1059 = .ok (.aload_n 1, 1) := zrD zrw_cL_law_1047 (i := 12) (by decide +kernel) rfl
theorem dL_law_1060 : decode cL_law 1060 = .ok (.aload_n 0, 1) := zrD zrw_cL_law_1047 (i := 13) (by decide +kernel) rfl
theorem dL_law_1061 : decode cL_law 1061 = .ok (.iload_n 3, 1) := zrD zrw_cL_law_1047 (i := 14) (by decide +kernel) rfl
theorem dL_law_1062 : decode cL_law 1062 = .ok (.iconst 1, 1) := zrD zrw_cL_law_1047 (i := 15) (by decide +kernel) rfl
theorem dL_law_1063 : decode cL_law 1063 = .ok (.iadd, 1) := zrD zrw_cL_law_1047 (i := 16) (by decide +kernel) rfl
theorem dL_law_1064 : decode cL_law 1064 = .ok (.iaload, 1) := zrD zrw_cL_law_1047 (i := 17) (by decide +kernel) rfl
theorem dL_law_1065 : decode cL_law 1065 = .ok (.aload_n 0, 1) := zrD zrw_cL_law_1047 (i := 18) (by decide +kernel) rfl
theorem dL_law_1066 : decode cL_law 1066 = .ok (.iload_n 3, 1) := zrD zrw_cL_law_1047 (i := 19) (by decide +kernel) rfl
theorem dL_law_1067 : decode cL_law 1067 = .ok (.iconst 2, 1) := zrD zrw_cL_law_1047 (i := 20) (by decide +kernel) rfl
theorem dL_law_1068 : decode cL_law 1068 = .ok (.iadd, 1) := zrD zrw_cL_law_1047 (i := 21) (by decide +kernel) rfl
theorem dL_law_1069 : decode cL_law 1069 = .ok (.iaload, 1) := zrD zrw_cL_law_1047 (i := 22) (by decide +kernel) rfl
theorem dL_law_1070 : decode cL_law 1070 = .ok (.aload_n 0, 1) := zrD zrw_cL_law_1047 (i := 23) (by decide +kernel) rfl
theorem dL_law_1071 : decode cL_law 1071 = .ok (.iload_n 3, 1) := zrD zrw_cL_law_1047 (i := 24) (by decide +kernel) rfl
theorem dL_law_1072 : decode cL_law 1072 = .ok (.iconst 3, 1) := zrD zrw_cL_law_1047 (i := 25) (by decide +kernel) rfl
theorem dL_law_1073 : decode cL_law 1073 = .ok (.iadd, 1) := zrD zrw_cL_law_1047 (i := 26) (by decide +kernel) rfl
theorem dL_law_1074 : decode cL_law 1074 = .ok (.iaload, 1) := zrD zrw_cL_law_1047 (i := 27) (by decide +kernel) rfl
theorem dL_law_1075 : decode cL_law 1075 = .ok (.invokevirtual 146, 3) := zrD zrw_cL_law_1047 (i := 28) (by decide +kernel) rfl
theorem dL_law_1078 : decode cL_law 1078 = .ok (.pop, 1) := zrD zrw_cL_law_1047 (i := 31) (by decide +kernel) rfl
def zrk_cL_law_1079 : ByteArray := .mk #[44, 42, 29, 4, 96, 46, 42, 29, 5, 96, 46, 42, 29, 6, 96, 46, 182, 0, 149, 87, 167, 1, 86, 43, 42, 29, 4, 96, 46, 182, 0, 150]
theorem zrw_cL_law_1079 : zrW 1079 cL_law zrk_cL_law_1079 := by unfold zrW; decide +kernel
theorem dL_law_1079 : decode cL_law 1079 = .ok (.aload_n 2, 1) := zrD zrw_cL_law_1079 (i := 0) (by decide +kernel) rfl
theorem dL_law_1080 : decode cL_law 1080 = .ok (.aload_n 0, 1) := zrD zrw_cL_law_1079 (i := 1) (by decide +kernel) rfl
theorem dL_law_1081 : decode cL_law 1081 = .ok (.iload_n 3, 1) := zrD zrw_cL_law_1079 (i := 2) (by decide +kernel) rfl
theorem dL_law_1082 : decode cL_law 1082 = .ok (.iconst 1, 1) := zrD zrw_cL_law_1079 (i := 3) (by decide +kernel) rfl
theorem dL_law_1083 : decode cL_law 1083 = .ok (.iadd, 1) := zrD zrw_cL_law_1079 (i := 4) (by decide +kernel) rfl
theorem dL_law_1084 : decode cL_law 1084 = .ok (.iaload, 1) := zrD zrw_cL_law_1079 (i := 5) (by decide +kernel) rfl
theorem dL_law_1085 : decode cL_law 1085 = .ok (.aload_n 0, 1) := zrD zrw_cL_law_1079 (i := 6) (by decide +kernel) rfl
theorem dL_law_1086 : decode cL_law 1086 = .ok (.iload_n 3, 1) := zrD zrw_cL_law_1079 (i := 7) (by decide +kernel) rfl
theorem dL_law_1087 : decode cL_law 1087 = .ok (.iconst 2, 1) := zrD zrw_cL_law_1079 (i := 8) (by decide +kernel) rfl
theorem dL_law_1088 : decode cL_law 1088 = .ok (.iadd, 1) := zrD zrw_cL_law_1079 (i := 9) (by decide +kernel) rfl
theorem dL_law_1089 : decode cL_law 1089 = .ok (.iaload, 1) := zrD zrw_cL_law_1079 (i := 10) (by decide +kernel) rfl
theorem dL_law_1090 : decode cL_law 1090 = .ok (.aload_n 0, 1) := zrD zrw_cL_law_1079 (i := 11) (by decide +kernel) rfl
theorem dL_law_1091 : decode cL_law 1091 = .ok (.iload_n 3, 1) := zrD zrw_cL_law_1079 (i := 12) (by decide +kernel) rfl
theorem dL_law_1092 : decode cL_law 1092 = .ok (.iconst 3, 1) := zrD zrw_cL_law_1079 (i := 13) (by decide +kernel) rfl
theorem dL_law_1093 : decode cL_law 1093 = .ok (.iadd, 1) := zrD zrw_cL_law_1079 (i := 14) (by decide +kernel) rfl
theorem dL_law_1094 : decode cL_law 1094 = .ok (.iaload, 1) := zrD zrw_cL_law_1079 (i := 15) (by decide +kernel) rfl
theorem dL_law_1095 : decode cL_law 1095 = .ok (.invokevirtual 149, 3) := zrD zrw_cL_law_1079 (i := 16) (by decide +kernel) rfl
theorem dL_law_1098 : decode cL_law 1098 = .ok (.pop, 1) := zrD zrw_cL_law_1079 (i := 19) (by decide +kernel) rfl
theorem dL_law_1099 : decode cL_law 1099 = .ok (.goto 342, 3) := zrD zrw_cL_law_1079 (i := 20) (by decide +kernel) rfl
theorem dL_law_1102 : decode cL_law 1102 = .ok (.aload_n 1, 1) := zrD zrw_cL_law_1079 (i := 23) (by decide +kernel) rfl
theorem dL_law_1103 : decode cL_law 1103 = .ok (.aload_n 0, 1) := zrD zrw_cL_law_1079 (i := 24) (by decide +kernel) rfl
theorem dL_law_1104 : decode cL_law 1104 = .ok (.iload_n 3, 1) := zrD zrw_cL_law_1079 (i := 25) (by decide +kernel) rfl
theorem dL_law_1105 : decode cL_law 1105 = .ok (.iconst 1, 1) := zrD zrw_cL_law_1079 (i := 26) (by decide +kernel) rfl
theorem dL_law_1106 : decode cL_law 1106 = .ok (.iadd, 1) := zrD zrw_cL_law_1079 (i := 27) (by decide +kernel) rfl
theorem dL_law_1107 : decode cL_law 1107 = .ok (.iaload, 1) := zrD zrw_cL_law_1079 (i := 28) (by decide +kernel) rfl
theorem dL_law_1108 : decode cL_law 1108 = .ok (.invokevirtual 150, 3) := zrD zrw_cL_law_1079 (i := 29) (by decide +kernel) rfl
def zrk_cL_law_1111 : ByteArray := .mk #[87, 44, 42, 29, 4, 96, 46, 182, 0, 153, 87, 167, 1, 63, 43, 42, 29, 4, 96, 46, 42, 29, 5, 96, 46, 42, 29, 6, 96, 46]
theorem zrw_cL_law_1111 : zrW 1111 cL_law zrk_cL_law_1111 := by unfold zrW; decide +kernel
theorem dL_law_1111 : decode cL_law 1111 = .ok (.pop, 1) := zrD zrw_cL_law_1111 (i := 0) (by decide +kernel) rfl
theorem dL_law_1112 : decode cL_law 1112 = .ok (.aload_n 2, 1) := zrD zrw_cL_law_1111 (i := 1) (by decide +kernel) rfl
theorem dL_law_1113 : decode cL_law 1113 = .ok (.aload_n 0, 1) := zrD zrw_cL_law_1111 (i := 2) (by decide +kernel) rfl
theorem dL_law_1114 : decode cL_law 1114 = .ok (.iload_n 3, 1) := zrD zrw_cL_law_1111 (i := 3) (by decide +kernel) rfl
theorem dL_law_1115 : decode cL_law 1115 = .ok (.iconst 1, 1) := zrD zrw_cL_law_1111 (i := 4) (by decide +kernel) rfl
theorem dL_law_1116 : decode cL_law 1116 = .ok (.iadd, 1) := zrD zrw_cL_law_1111 (i := 5) (by decide +kernel) rfl
theorem dL_law_1117 : decode cL_law 1117 = .ok (.iaload, 1) := zrD zrw_cL_law_1111 (i := 6) (by decide +kernel) rfl
theorem dL_law_1118 : decode cL_law 1118 = .ok (.invokevirtual 153, 3) := zrD zrw_cL_law_1111 (i := 7) (by decide +kernel) rfl
theorem dL_law_1121 : decode cL_law 1121 = .ok (.pop, 1) := zrD zrw_cL_law_1111 (i := 10) (by decide +kernel) rfl
theorem dL_law_1122 : decode cL_law 1122 = .ok (.goto 319, 3) := zrD zrw_cL_law_1111 (i := 11) (by decide +kernel) rfl
theorem dL_law_1125 : decode cL_law 1125 = .ok (.aload_n 1, 1) := zrD zrw_cL_law_1111 (i := 14) (by decide +kernel) rfl
theorem dL_law_1126 : decode cL_law 1126 = .ok (.aload_n 0, 1) := zrD zrw_cL_law_1111 (i := 15) (by decide +kernel) rfl
theorem dL_law_1127 : decode cL_law 1127 = .ok (.iload_n 3, 1) := zrD zrw_cL_law_1111 (i := 16) (by decide +kernel) rfl
theorem dL_law_1128 : decode cL_law 1128 = .ok (.iconst 1, 1) := zrD zrw_cL_law_1111 (i := 17) (by decide +kernel) rfl
theorem dL_law_1129 : decode cL_law 1129 = .ok (.iadd, 1) := zrD zrw_cL_law_1111 (i := 18) (by decide +kernel) rfl
theorem dL_law_1130 : decode cL_law 1130 = .ok (.iaload, 1) := zrD zrw_cL_law_1111 (i := 19) (by decide +kernel) rfl
theorem dL_law_1131 : decode cL_law 1131 = .ok (.aload_n 0, 1) := zrD zrw_cL_law_1111 (i := 20) (by decide +kernel) rfl
theorem dL_law_1132 : decode cL_law 1132 = .ok (.iload_n 3, 1) := zrD zrw_cL_law_1111 (i := 21) (by decide +kernel) rfl
theorem dL_law_1133 : decode cL_law 1133 = .ok (.iconst 2, 1) := zrD zrw_cL_law_1111 (i := 22) (by decide +kernel) rfl
theorem dL_law_1134 : decode cL_law 1134 = .ok (.iadd, 1) := zrD zrw_cL_law_1111 (i := 23) (by decide +kernel) rfl
theorem dL_law_1135 : decode cL_law 1135 = .ok (.iaload, 1) := zrD zrw_cL_law_1111 (i := 24) (by decide +kernel) rfl
theorem dL_law_1136 : decode cL_law 1136 = .ok (.aload_n 0, 1) := zrD zrw_cL_law_1111 (i := 25) (by decide +kernel) rfl
theorem dL_law_1137 : decode cL_law 1137 = .ok (.iload_n 3, 1) := zrD zrw_cL_law_1111 (i := 26) (by decide +kernel) rfl
theorem dL_law_1138 : decode cL_law 1138 = .ok (.iconst 3, 1) := zrD zrw_cL_law_1111 (i := 27) (by decide +kernel) rfl
theorem dL_law_1139 : decode cL_law 1139 = .ok (.iadd, 1) := zrD zrw_cL_law_1111 (i := 28) (by decide +kernel) rfl
theorem dL_law_1140 : decode cL_law 1140 = .ok (.iaload, 1) := zrD zrw_cL_law_1111 (i := 29) (by decide +kernel) rfl
def zrk_cL_law_1141 : ByteArray := .mk #[182, 0, 154, 87, 44, 42, 29, 4, 96, 46, 42, 29, 5, 96, 46, 42, 29, 6, 96, 46, 182, 0, 157, 87, 167, 1, 20, 43, 42, 29, 4, 96]
theorem zrw_cL_law_1141 : zrW 1141 cL_law zrk_cL_law_1141 := by unfold zrW; decide +kernel
theorem dL_law_1141 : decode cL_law 1141 = .ok (.invokevirtual 154, 3) := zrD zrw_cL_law_1141 (i := 0) (by decide +kernel) rfl
theorem dL_law_1144 : decode cL_law 1144 = .ok (.pop, 1) := zrD zrw_cL_law_1141 (i := 3) (by decide +kernel) rfl
theorem dL_law_1145 : decode cL_law 1145 = .ok (.aload_n 2, 1) := zrD zrw_cL_law_1141 (i := 4) (by decide +kernel) rfl
theorem dL_law_1146 : decode cL_law 1146 = .ok (.aload_n 0, 1) := zrD zrw_cL_law_1141 (i := 5) (by decide +kernel) rfl
theorem dL_law_1147 : decode cL_law 1147 = .ok (.iload_n 3, 1) := zrD zrw_cL_law_1141 (i := 6) (by decide +kernel) rfl
theorem dL_law_1148 : decode cL_law 1148 = .ok (.iconst 1, 1) := zrD zrw_cL_law_1141 (i := 7) (by decide +kernel) rfl
theorem dL_law_1149 : decode cL_law 1149 = .ok (.iadd, 1) := zrD zrw_cL_law_1141 (i := 8) (by decide +kernel) rfl
theorem dL_law_1150 : decode cL_law 1150 = .ok (.iaload, 1) := zrD zrw_cL_law_1141 (i := 9) (by decide +kernel) rfl
theorem dL_law_1151 : decode cL_law 1151 = .ok (.aload_n 0, 1) := zrD zrw_cL_law_1141 (i := 10) (by decide +kernel) rfl
theorem dL_law_1152 : decode cL_law 1152 = .ok (.iload_n 3, 1) := zrD zrw_cL_law_1141 (i := 11) (by decide +kernel) rfl
theorem dL_law_1153 : decode cL_law 1153 = .ok (.iconst 2, 1) := zrD zrw_cL_law_1141 (i := 12) (by decide +kernel) rfl
theorem dL_law_1154 : decode cL_law 1154 = .ok (.iadd, 1) := zrD zrw_cL_law_1141 (i := 13) (by decide +kernel) rfl
theorem dL_law_1155 : decode cL_law 1155 = .ok (.iaload, 1) := zrD zrw_cL_law_1141 (i := 14) (by decide +kernel) rfl
theorem dL_law_1156 : decode cL_law 1156 = .ok (.aload_n 0, 1) := zrD zrw_cL_law_1141 (i := 15) (by decide +kernel) rfl
theorem dL_law_1157 : decode cL_law 1157 = .ok (.iload_n 3, 1) := zrD zrw_cL_law_1141 (i := 16) (by decide +kernel) rfl
theorem dL_law_1158 : decode cL_law 1158 = .ok (.iconst 3, 1) := zrD zrw_cL_law_1141 (i := 17) (by decide +kernel) rfl
theorem dL_law_1159 : decode cL_law 1159 = .ok (.iadd, 1) := zrD zrw_cL_law_1141 (i := 18) (by decide +kernel) rfl
theorem dL_law_1160 : decode cL_law 1160 = .ok (.iaload, 1) := zrD zrw_cL_law_1141 (i := 19) (by decide +kernel) rfl
theorem dL_law_1161 : decode cL_law 1161 = .ok (.invokevirtual 157, 3) := zrD zrw_cL_law_1141 (i := 20) (by decide +kernel) rfl
theorem dL_law_1164 : decode cL_law 1164 = .ok (.pop, 1) := zrD zrw_cL_law_1141 (i := 23) (by decide +kernel) rfl
theorem dL_law_1165 : decode cL_law 1165 = .ok (.goto 276, 3) := zrD zrw_cL_law_1141 (i := 24) (by decide +kernel) rfl
theorem dL_law_1168 : decode cL_law 1168 = .ok (.aload_n 1, 1) := zrD zrw_cL_law_1141 (i := 27) (by decide +kernel) rfl
theorem dL_law_1169 : decode cL_law 1169 = .ok (.aload_n 0, 1) := zrD zrw_cL_law_1141 (i := 28) (by decide +kernel) rfl
theorem dL_law_1170 : decode cL_law 1170 = .ok (.iload_n 3, 1) := zrD zrw_cL_law_1141 (i := 29) (by decide +kernel) rfl
theorem dL_law_1171 : decode cL_law 1171 = .ok (.iconst 1, 1) := zrD zrw_cL_law_1141 (i := 30) (by decide +kernel) rfl
theorem dL_law_1172 : decode cL_law 1172 = .ok (.iadd, 1) := zrD zrw_cL_law_1141 (i := 31) (by decide +kernel) rfl
def zrk_cL_law_1173 : ByteArray := .mk #[46, 182, 0, 158, 87, 44, 42, 29, 4, 96, 46, 182, 0, 161, 87, 167, 0, 253, 43, 42, 29, 4, 96, 46, 42, 29, 5, 96, 46, 42, 29, 6]
theorem zrw_cL_law_1173 : zrW 1173 cL_law zrk_cL_law_1173 := by unfold zrW; decide +kernel
theorem dL_law_1173 : decode cL_law 1173 = .ok (.iaload, 1) := zrD zrw_cL_law_1173 (i := 0) (by decide +kernel) rfl
theorem dL_law_1174 : decode cL_law 1174 = .ok (.invokevirtual 158, 3) := zrD zrw_cL_law_1173 (i := 1) (by decide +kernel) rfl
theorem dL_law_1177 : decode cL_law 1177 = .ok (.pop, 1) := zrD zrw_cL_law_1173 (i := 4) (by decide +kernel) rfl
theorem dL_law_1178 : decode cL_law 1178 = .ok (.aload_n 2, 1) := zrD zrw_cL_law_1173 (i := 5) (by decide +kernel) rfl
theorem dL_law_1179 : decode cL_law 1179 = .ok (.aload_n 0, 1) := zrD zrw_cL_law_1173 (i := 6) (by decide +kernel) rfl
theorem dL_law_1180 : decode cL_law 1180 = .ok (.iload_n 3, 1) := zrD zrw_cL_law_1173 (i := 7) (by decide +kernel) rfl
theorem dL_law_1181 : decode cL_law 1181 = .ok (.iconst 1, 1) := zrD zrw_cL_law_1173 (i := 8) (by decide +kernel) rfl
theorem dL_law_1182 : decode cL_law 1182 = .ok (.iadd, 1) := zrD zrw_cL_law_1173 (i := 9) (by decide +kernel) rfl
theorem dL_law_1183 : decode cL_law 1183 = .ok (.iaload, 1) := zrD zrw_cL_law_1173 (i := 10) (by decide +kernel) rfl
theorem dL_law_1184 : decode cL_law 1184 = .ok (.invokevirtual 161, 3) := zrD zrw_cL_law_1173 (i := 11) (by decide +kernel) rfl
theorem dL_law_1187 : decode cL_law 1187 = .ok (.pop, 1) := zrD zrw_cL_law_1173 (i := 14) (by decide +kernel) rfl
theorem dL_law_1188 : decode cL_law 1188 = .ok (.goto 253, 3) := zrD zrw_cL_law_1173 (i := 15) (by decide +kernel) rfl
theorem dL_law_1191 : decode cL_law 1191 = .ok (.aload_n 1, 1) := zrD zrw_cL_law_1173 (i := 18) (by decide +kernel) rfl
theorem dL_law_1192 : decode cL_law 1192 = .ok (.aload_n 0, 1) := zrD zrw_cL_law_1173 (i := 19) (by decide +kernel) rfl
theorem dL_law_1193 : decode cL_law 1193 = .ok (.iload_n 3, 1) := zrD zrw_cL_law_1173 (i := 20) (by decide +kernel) rfl
theorem dL_law_1194 : decode cL_law 1194 = .ok (.iconst 1, 1) := zrD zrw_cL_law_1173 (i := 21) (by decide +kernel) rfl
theorem dL_law_1195 : decode cL_law 1195 = .ok (.iadd, 1) := zrD zrw_cL_law_1173 (i := 22) (by decide +kernel) rfl
theorem dL_law_1196 : decode cL_law 1196 = .ok (.iaload, 1) := zrD zrw_cL_law_1173 (i := 23) (by decide +kernel) rfl
theorem dL_law_1197 : decode cL_law 1197 = .ok (.aload_n 0, 1) := zrD zrw_cL_law_1173 (i := 24) (by decide +kernel) rfl
theorem dL_law_1198 : decode cL_law 1198 = .ok (.iload_n 3, 1) := zrD zrw_cL_law_1173 (i := 25) (by decide +kernel) rfl
theorem dL_law_1199 : decode cL_law 1199 = .ok (.iconst 2, 1) := zrD zrw_cL_law_1173 (i := 26) (by decide +kernel) rfl
theorem dL_law_1200 : decode cL_law 1200 = .ok (.iadd, 1) := zrD zrw_cL_law_1173 (i := 27) (by decide +kernel) rfl
theorem dL_law_1201 : decode cL_law 1201 = .ok (.iaload, 1) := zrD zrw_cL_law_1173 (i := 28) (by decide +kernel) rfl
theorem dL_law_1202 : decode cL_law 1202 = .ok (.aload_n 0, 1) := zrD zrw_cL_law_1173 (i := 29) (by decide +kernel) rfl
theorem dL_law_1203 : decode cL_law 1203 = .ok (.iload_n 3, 1) := zrD zrw_cL_law_1173 (i := 30) (by decide +kernel) rfl
theorem dL_law_1204 : decode cL_law 1204 = .ok (.iconst 3, 1) := zrD zrw_cL_law_1173 (i := 31) (by decide +kernel) rfl
def zrk_cL_law_1205 : ByteArray := .mk #[96, 46, 182, 0, 162, 87, 44, 42, 29, 4, 96, 46, 42, 29, 5, 96, 46, 42, 29, 6, 96, 46, 182, 0, 165, 87, 167, 0, 210, 43, 42, 29]
theorem zrw_cL_law_1205 : zrW 1205 cL_law zrk_cL_law_1205 := by unfold zrW; decide +kernel
theorem dL_law_1205 : decode cL_law 1205 = .ok (.iadd, 1) := zrD zrw_cL_law_1205 (i := 0) (by decide +kernel) rfl
theorem dL_law_1206 : decode cL_law 1206 = .ok (.iaload, 1) := zrD zrw_cL_law_1205 (i := 1) (by decide +kernel) rfl
theorem dL_law_1207 : decode cL_law 1207 = .ok (.invokevirtual 162, 3) := zrD zrw_cL_law_1205 (i := 2) (by decide +kernel) rfl
theorem dL_law_1210 : decode cL_law 1210 = .ok (.pop, 1) := zrD zrw_cL_law_1205 (i := 5) (by decide +kernel) rfl
theorem dL_law_1211 : decode cL_law 1211 = .ok (.aload_n 2, 1) := zrD zrw_cL_law_1205 (i := 6) (by decide +kernel) rfl
theorem dL_law_1212 : decode cL_law 1212 = .ok (.aload_n 0, 1) := zrD zrw_cL_law_1205 (i := 7) (by decide +kernel) rfl
theorem dL_law_1213 : decode cL_law 1213 = .ok (.iload_n 3, 1) := zrD zrw_cL_law_1205 (i := 8) (by decide +kernel) rfl
theorem dL_law_1214 : decode cL_law 1214 = .ok (.iconst 1, 1) := zrD zrw_cL_law_1205 (i := 9) (by decide +kernel) rfl
theorem dL_law_1215 : decode cL_law 1215 = .ok (.iadd, 1) := zrD zrw_cL_law_1205 (i := 10) (by decide +kernel) rfl
theorem dL_law_1216 : decode cL_law 1216 = .ok (.iaload, 1) := zrD zrw_cL_law_1205 (i := 11) (by decide +kernel) rfl
theorem dL_law_1217 : decode cL_law 1217 = .ok (.aload_n 0, 1) := zrD zrw_cL_law_1205 (i := 12) (by decide +kernel) rfl
theorem dL_law_1218 : decode cL_law 1218 = .ok (.iload_n 3, 1) := zrD zrw_cL_law_1205 (i := 13) (by decide +kernel) rfl
theorem dL_law_1219 : decode cL_law 1219 = .ok (.iconst 2, 1) := zrD zrw_cL_law_1205 (i := 14) (by decide +kernel) rfl
theorem dL_law_1220 : decode cL_law 1220 = .ok (.iadd, 1) := zrD zrw_cL_law_1205 (i := 15) (by decide +kernel) rfl
theorem dL_law_1221 : decode cL_law 1221 = .ok (.iaload, 1) := zrD zrw_cL_law_1205 (i := 16) (by decide +kernel) rfl
theorem dL_law_1222 : decode cL_law 1222 = .ok (.aload_n 0, 1) := zrD zrw_cL_law_1205 (i := 17) (by decide +kernel) rfl
theorem dL_law_1223 : decode cL_law 1223 = .ok (.iload_n 3, 1) := zrD zrw_cL_law_1205 (i := 18) (by decide +kernel) rfl
theorem dL_law_1224 : decode cL_law 1224 = .ok (.iconst 3, 1) := zrD zrw_cL_law_1205 (i := 19) (by decide +kernel) rfl
theorem dL_law_1225 : decode cL_law 1225 = .ok (.iadd, 1) := zrD zrw_cL_law_1205 (i := 20) (by decide +kernel) rfl
theorem dL_law_1226 : decode cL_law 1226 = .ok (.iaload, 1) := zrD zrw_cL_law_1205 (i := 21) (by decide +kernel) rfl
theorem dL_law_1227 : decode cL_law 1227 = .ok (.invokevirtual 165, 3) := zrD zrw_cL_law_1205 (i := 22) (by decide +kernel) rfl
theorem dL_law_1230 : decode cL_law 1230 = .ok (.pop, 1) := zrD zrw_cL_law_1205 (i := 25) (by decide +kernel) rfl
theorem dL_law_1231 : decode cL_law 1231 = .ok (.goto 210, 3) := zrD zrw_cL_law_1205 (i := 26) (by decide +kernel) rfl
theorem dL_law_1234 : decode cL_law 1234 = .ok (.aload_n 1, 1) := zrD zrw_cL_law_1205 (i := 29) (by decide +kernel) rfl
theorem dL_law_1235 : decode cL_law 1235 = .ok (.aload_n 0, 1) := zrD zrw_cL_law_1205 (i := 30) (by decide +kernel) rfl
theorem dL_law_1236 : decode cL_law 1236 = .ok (.iload_n 3, 1) := zrD zrw_cL_law_1205 (i := 31) (by decide +kernel) rfl
def zrk_cL_law_1237 : ByteArray := .mk #[4, 96, 46, 42, 29, 5, 96, 46, 42, 29, 6, 96, 46, 42, 29, 7, 96, 46, 153, 0, 7, 4, 167, 0, 4, 3, 182, 0, 166, 87, 44, 42]
theorem zrw_cL_law_1237 : zrW 1237 cL_law zrk_cL_law_1237 := by unfold zrW; decide +kernel
theorem dL_law_1237 : decode cL_law 1237 = .ok (.iconst 1, 1) := zrD zrw_cL_law_1237 (i := 0) (by decide +kernel) rfl
theorem dL_law_1238 : decode cL_law 1238 = .ok (.iadd, 1) := zrD zrw_cL_law_1237 (i := 1) (by decide +kernel) rfl
theorem dL_law_1239 : decode cL_law 1239 = .ok (.iaload, 1) := zrD zrw_cL_law_1237 (i := 2) (by decide +kernel) rfl
theorem dL_law_1240 : decode cL_law 1240 = .ok (.aload_n 0, 1) := zrD zrw_cL_law_1237 (i := 3) (by decide +kernel) rfl
theorem dL_law_1241 : decode cL_law 1241 = .ok (.iload_n 3, 1) := zrD zrw_cL_law_1237 (i := 4) (by decide +kernel) rfl
theorem dL_law_1242 : decode cL_law 1242 = .ok (.iconst 2, 1) := zrD zrw_cL_law_1237 (i := 5) (by decide +kernel) rfl
theorem dL_law_1243 : decode cL_law 1243 = .ok (.iadd, 1) := zrD zrw_cL_law_1237 (i := 6) (by decide +kernel) rfl
theorem dL_law_1244 : decode cL_law 1244 = .ok (.iaload, 1) := zrD zrw_cL_law_1237 (i := 7) (by decide +kernel) rfl
theorem dL_law_1245 : decode cL_law 1245 = .ok (.aload_n 0, 1) := zrD zrw_cL_law_1237 (i := 8) (by decide +kernel) rfl
theorem dL_law_1246 : decode cL_law 1246 = .ok (.iload_n 3, 1) := zrD zrw_cL_law_1237 (i := 9) (by decide +kernel) rfl
theorem dL_law_1247 : decode cL_law 1247 = .ok (.iconst 3, 1) := zrD zrw_cL_law_1237 (i := 10) (by decide +kernel) rfl
theorem dL_law_1248 : decode cL_law 1248 = .ok (.iadd, 1) := zrD zrw_cL_law_1237 (i := 11) (by decide +kernel) rfl
theorem dL_law_1249 : decode cL_law 1249 = .ok (.iaload, 1) := zrD zrw_cL_law_1237 (i := 12) (by decide +kernel) rfl
theorem dL_law_1250 : decode cL_law 1250 = .ok (.aload_n 0, 1) := zrD zrw_cL_law_1237 (i := 13) (by decide +kernel) rfl
theorem dL_law_1251 : decode cL_law 1251 = .ok (.iload_n 3, 1) := zrD zrw_cL_law_1237 (i := 14) (by decide +kernel) rfl
theorem dL_law_1252 : decode cL_law 1252 = .ok (.iconst 4, 1) := zrD zrw_cL_law_1237 (i := 15) (by decide +kernel) rfl
theorem dL_law_1253 : decode cL_law 1253 = .ok (.iadd, 1) := zrD zrw_cL_law_1237 (i := 16) (by decide +kernel) rfl
theorem dL_law_1254 : decode cL_law 1254 = .ok (.iaload, 1) := zrD zrw_cL_law_1237 (i := 17) (by decide +kernel) rfl
theorem dL_law_1255 : decode cL_law 1255 = .ok (.ifCond .eq 7, 3) := zrD zrw_cL_law_1237 (i := 18) (by decide +kernel) rfl
theorem dL_law_1258 : decode cL_law 1258 = .ok (.iconst 1, 1) := zrD zrw_cL_law_1237 (i := 21) (by decide +kernel) rfl
theorem dL_law_1259 : decode cL_law 1259 = .ok (.goto 4, 3) := zrD zrw_cL_law_1237 (i := 22) (by decide +kernel) rfl
theorem dL_law_1262 : decode cL_law 1262 = .ok (.iconst 0, 1) := zrD zrw_cL_law_1237 (i := 25) (by decide +kernel) rfl
theorem dL_law_1263 : decode cL_law 1263 = .ok (.invokevirtual 166, 3) := zrD zrw_cL_law_1237 (i := 26) (by decide +kernel) rfl
theorem dL_law_1266 : decode cL_law 1266 = .ok (.pop, 1) := zrD zrw_cL_law_1237 (i := 29) (by decide +kernel) rfl
theorem dL_law_1267 : decode cL_law 1267 = .ok (.aload_n 2, 1) := zrD zrw_cL_law_1237 (i := 30) (by decide +kernel) rfl
theorem dL_law_1268 : decode cL_law 1268 = .ok (.aload_n 0, 1) := zrD zrw_cL_law_1237 (i := 31) (by decide +kernel) rfl
def zrk_cL_law_1269 : ByteArray := .mk #[29, 4, 96, 46, 42, 29, 5, 96, 46, 42, 29, 6, 96, 46, 42, 29, 7, 96, 46, 153, 0, 7, 4, 167, 0, 4, 3, 182, 0, 170, 87]
theorem zrw_cL_law_1269 : zrW 1269 cL_law zrk_cL_law_1269 := by unfold zrW; decide +kernel
theorem dL_law_1269 : decode cL_law 1269 = .ok (.iload_n 3, 1) := zrD zrw_cL_law_1269 (i := 0) (by decide +kernel) rfl
theorem dL_law_1270 : decode cL_law 1270 = .ok (.iconst 1, 1) := zrD zrw_cL_law_1269 (i := 1) (by decide +kernel) rfl
theorem dL_law_1271 : decode cL_law 1271 = .ok (.iadd, 1) := zrD zrw_cL_law_1269 (i := 2) (by decide +kernel) rfl
theorem dL_law_1272 : decode cL_law 1272 = .ok (.iaload, 1) := zrD zrw_cL_law_1269 (i := 3) (by decide +kernel) rfl
theorem dL_law_1273 : decode cL_law 1273 = .ok (.aload_n 0, 1) := zrD zrw_cL_law_1269 (i := 4) (by decide +kernel) rfl
theorem dL_law_1274 : decode cL_law 1274 = .ok (.iload_n 3, 1) := zrD zrw_cL_law_1269 (i := 5) (by decide +kernel) rfl
theorem dL_law_1275 : decode cL_law 1275 = .ok (.iconst 2, 1) := zrD zrw_cL_law_1269 (i := 6) (by decide +kernel) rfl
theorem dL_law_1276 : decode cL_law 1276 = .ok (.iadd, 1) := zrD zrw_cL_law_1269 (i := 7) (by decide +kernel) rfl
theorem dL_law_1277 : decode cL_law 1277 = .ok (.iaload, 1) := zrD zrw_cL_law_1269 (i := 8) (by decide +kernel) rfl
theorem dL_law_1278 : decode cL_law 1278 = .ok (.aload_n 0, 1) := zrD zrw_cL_law_1269 (i := 9) (by decide +kernel) rfl
theorem dL_law_1279 : decode cL_law 1279 = .ok (.iload_n 3, 1) := zrD zrw_cL_law_1269 (i := 10) (by decide +kernel) rfl
theorem dL_law_1280 : decode cL_law 1280 = .ok (.iconst 3, 1) := zrD zrw_cL_law_1269 (i := 11) (by decide +kernel) rfl
theorem dL_law_1281 : decode cL_law 1281 = .ok (.iadd, 1) := zrD zrw_cL_law_1269 (i := 12) (by decide +kernel) rfl
theorem dL_law_1282 : decode cL_law 1282 = .ok (.iaload, 1) := zrD zrw_cL_law_1269 (i := 13) (by decide +kernel) rfl
theorem dL_law_1283 : decode cL_law 1283 = .ok (.aload_n 0, 1) := zrD zrw_cL_law_1269 (i := 14) (by decide +kernel) rfl
theorem dL_law_1284 : decode cL_law 1284 = .ok (.iload_n 3, 1) := zrD zrw_cL_law_1269 (i := 15) (by decide +kernel) rfl
theorem dL_law_1285 : decode cL_law 1285 = .ok (.iconst 4, 1) := zrD zrw_cL_law_1269 (i := 16) (by decide +kernel) rfl
theorem dL_law_1286 : decode cL_law 1286 = .ok (.iadd, 1) := zrD zrw_cL_law_1269 (i := 17) (by decide +kernel) rfl
theorem dL_law_1287 : decode cL_law 1287 = .ok (.iaload, 1) := zrD zrw_cL_law_1269 (i := 18) (by decide +kernel) rfl
theorem dL_law_1288 : decode cL_law 1288 = .ok (.ifCond .eq 7, 3) := zrD zrw_cL_law_1269 (i := 19) (by decide +kernel) rfl
theorem dL_law_1291 : decode cL_law 1291 = .ok (.iconst 1, 1) := zrD zrw_cL_law_1269 (i := 22) (by decide +kernel) rfl
theorem dL_law_1292 : decode cL_law 1292 = .ok (.goto 4, 3) := zrD zrw_cL_law_1269 (i := 23) (by decide +kernel) rfl
theorem dL_law_1295 : decode cL_law 1295 = .ok (.iconst 0, 1) := zrD zrw_cL_law_1269 (i := 26) (by decide +kernel) rfl
theorem dL_law_1296 : decode cL_law 1296 = .ok (.invokevirtual 170, 3) := zrD zrw_cL_law_1269 (i := 27) (by decide +kernel) rfl
theorem dL_law_1299 : decode cL_law 1299 = .ok (.pop, 1) := zrD zrw_cL_law_1269 (i := 30) (by decide +kernel) rfl
def zrk_cL_law_1300 : ByteArray := .mk #[167, 0, 141, 43, 182, 0, 171, 87, 44, 182, 0, 174, 87, 167, 0, 128, 43, 42, 29, 4, 96, 46, 42, 29, 5, 96, 46, 182, 0, 175, 87, 44]
theorem zrw_cL_law_1300 : zrW 1300 cL_law zrk_cL_law_1300 := by unfold zrW; decide +kernel
theorem dL_law_1300 : decode cL_law 1300 = .ok (.goto 141, 3) := zrD zrw_cL_law_1300 (i := 0) (by decide +kernel) rfl
theorem dL_law_1303 : decode cL_law 1303 = .ok (.aload_n 1, 1) := zrD zrw_cL_law_1300 (i := 3) (by decide +kernel) rfl
theorem dL_law_1304 : decode cL_law 1304 = .ok (.invokevirtual 171, 3) := zrD zrw_cL_law_1300 (i := 4) (by decide +kernel) rfl
theorem dL_law_1307 : decode cL_law 1307 = .ok (.pop, 1) := zrD zrw_cL_law_1300 (i := 7) (by decide +kernel) rfl
theorem dL_law_1308 : decode cL_law 1308 = .ok (.aload_n 2, 1) := zrD zrw_cL_law_1300 (i := 8) (by decide +kernel) rfl
theorem dL_law_1309 : decode cL_law 1309 = .ok (.invokevirtual 174, 3) := zrD zrw_cL_law_1300 (i := 9) (by decide +kernel) rfl
theorem dL_law_1312 : decode cL_law 1312 = .ok (.pop, 1) := zrD zrw_cL_law_1300 (i := 12) (by decide +kernel) rfl
theorem dL_law_1313 : decode cL_law 1313 = .ok (.goto 128, 3) := zrD zrw_cL_law_1300 (i := 13) (by decide +kernel) rfl
theorem dL_law_1316 : decode cL_law 1316 = .ok (.aload_n 1, 1) := zrD zrw_cL_law_1300 (i := 16) (by decide +kernel) rfl
theorem dL_law_1317 : decode cL_law 1317 = .ok (.aload_n 0, 1) := zrD zrw_cL_law_1300 (i := 17) (by decide +kernel) rfl
theorem dL_law_1318 : decode cL_law 1318 = .ok (.iload_n 3, 1) := zrD zrw_cL_law_1300 (i := 18) (by decide +kernel) rfl
theorem dL_law_1319 : decode cL_law 1319 = .ok (.iconst 1, 1) := zrD zrw_cL_law_1300 (i := 19) (by decide +kernel) rfl
theorem dL_law_1320 : decode cL_law 1320 = .ok (.iadd, 1) := zrD zrw_cL_law_1300 (i := 20) (by decide +kernel) rfl
theorem dL_law_1321 : decode cL_law 1321 = .ok (.iaload, 1) := zrD zrw_cL_law_1300 (i := 21) (by decide +kernel) rfl
theorem dL_law_1322 : decode cL_law 1322 = .ok (.aload_n 0, 1) := zrD zrw_cL_law_1300 (i := 22) (by decide +kernel) rfl
theorem dL_law_1323 : decode cL_law 1323 = .ok (.iload_n 3, 1) := zrD zrw_cL_law_1300 (i := 23) (by decide +kernel) rfl
theorem dL_law_1324 : decode cL_law 1324 = .ok (.iconst 2, 1) := zrD zrw_cL_law_1300 (i := 24) (by decide +kernel) rfl
theorem dL_law_1325 : decode cL_law 1325 = .ok (.iadd, 1) := zrD zrw_cL_law_1300 (i := 25) (by decide +kernel) rfl
theorem dL_law_1326 : decode cL_law 1326 = .ok (.iaload, 1) := zrD zrw_cL_law_1300 (i := 26) (by decide +kernel) rfl
theorem dL_law_1327 : decode cL_law 1327 = .ok (.invokevirtual 175, 3) := zrD zrw_cL_law_1300 (i := 27) (by decide +kernel) rfl
theorem dL_law_1330 : decode cL_law 1330 = .ok (.pop, 1) := zrD zrw_cL_law_1300 (i := 30) (by decide +kernel) rfl
theorem dL_law_1331 : decode cL_law 1331 = .ok (.aload_n 2, 1) := zrD zrw_cL_law_1300 (i := 31) (by decide +kernel) rfl
def zrk_cL_law_1332 : ByteArray := .mk #[42, 29, 4, 96, 46, 42, 29, 5, 96, 46, 182, 0, 178, 87, 167, 0, 95, 43, 42, 29, 4, 96, 46, 182, 0, 179, 87, 44, 42, 29, 4, 96]
theorem zrw_cL_law_1332 : zrW 1332 cL_law zrk_cL_law_1332 := by unfold zrW; decide +kernel
theorem dL_law_1332 : decode cL_law 1332 = .ok (.aload_n 0, 1) := zrD zrw_cL_law_1332 (i := 0) (by decide +kernel) rfl
theorem dL_law_1333 : decode cL_law 1333 = .ok (.iload_n 3, 1) := zrD zrw_cL_law_1332 (i := 1) (by decide +kernel) rfl
theorem dL_law_1334 : decode cL_law 1334 = .ok (.iconst 1, 1) := zrD zrw_cL_law_1332 (i := 2) (by decide +kernel) rfl
theorem dL_law_1335 : decode cL_law 1335 = .ok (.iadd, 1) := zrD zrw_cL_law_1332 (i := 3) (by decide +kernel) rfl
theorem dL_law_1336 : decode cL_law 1336 = .ok (.iaload, 1) := zrD zrw_cL_law_1332 (i := 4) (by decide +kernel) rfl
theorem dL_law_1337 : decode cL_law 1337 = .ok (.aload_n 0, 1) := zrD zrw_cL_law_1332 (i := 5) (by decide +kernel) rfl
theorem dL_law_1338 : decode cL_law 1338 = .ok (.iload_n 3, 1) := zrD zrw_cL_law_1332 (i := 6) (by decide +kernel) rfl
theorem dL_law_1339 : decode cL_law 1339 = .ok (.iconst 2, 1) := zrD zrw_cL_law_1332 (i := 7) (by decide +kernel) rfl
theorem dL_law_1340 : decode cL_law 1340 = .ok (.iadd, 1) := zrD zrw_cL_law_1332 (i := 8) (by decide +kernel) rfl
theorem dL_law_1341 : decode cL_law 1341 = .ok (.iaload, 1) := zrD zrw_cL_law_1332 (i := 9) (by decide +kernel) rfl
theorem dL_law_1342 : decode cL_law 1342 = .ok (.invokevirtual 178, 3) := zrD zrw_cL_law_1332 (i := 10) (by decide +kernel) rfl
theorem dL_law_1345 : decode cL_law 1345 = .ok (.pop, 1) := zrD zrw_cL_law_1332 (i := 13) (by decide +kernel) rfl
theorem dL_law_1346 : decode cL_law 1346 = .ok (.goto 95, 3) := zrD zrw_cL_law_1332 (i := 14) (by decide +kernel) rfl
theorem dL_law_1349 : decode cL_law 1349 = .ok (.aload_n 1, 1) := zrD zrw_cL_law_1332 (i := 17) (by decide +kernel) rfl
theorem dL_law_1350 : decode cL_law 1350 = .ok (.aload_n 0, 1) := zrD zrw_cL_law_1332 (i := 18) (by decide +kernel) rfl
theorem dL_law_1351 : decode cL_law 1351 = .ok (.iload_n 3, 1) := zrD zrw_cL_law_1332 (i := 19) (by decide +kernel) rfl
theorem dL_law_1352 : decode cL_law 1352 = .ok (.iconst 1, 1) := zrD zrw_cL_law_1332 (i := 20) (by decide +kernel) rfl
theorem dL_law_1353 : decode cL_law 1353 = .ok (.iadd, 1) := zrD zrw_cL_law_1332 (i := 21) (by decide +kernel) rfl
theorem dL_law_1354 : decode cL_law 1354 = .ok (.iaload, 1) := zrD zrw_cL_law_1332 (i := 22) (by decide +kernel) rfl
theorem dL_law_1355 : decode cL_law 1355 = .ok (.invokevirtual 179, 3) := zrD zrw_cL_law_1332 (i := 23) (by decide +kernel) rfl
theorem dL_law_1358 : decode cL_law 1358 = .ok (.pop, 1) := zrD zrw_cL_law_1332 (i := 26) (by decide +kernel) rfl
theorem dL_law_1359 : decode cL_law 1359 = .ok (.aload_n 2, 1) := zrD zrw_cL_law_1332 (i := 27) (by decide +kernel) rfl
theorem dL_law_1360 : decode cL_law 1360 = .ok (.aload_n 0, 1) := zrD zrw_cL_law_1332 (i := 28) (by decide +kernel) rfl
theorem dL_law_1361 : decode cL_law 1361 = .ok (.iload_n 3, 1) := zrD zrw_cL_law_1332 (i := 29) (by decide +kernel) rfl
theorem dL_law_1362 : decode cL_law 1362 = .ok (.iconst 1, 1) := zrD zrw_cL_law_1332 (i := 30) (by decide +kernel) rfl
theorem dL_law_1363 : decode cL_law 1363 = .ok (.iadd, 1) := zrD zrw_cL_law_1332 (i := 31) (by decide +kernel) rfl
def zrk_cL_law_1364 : ByteArray := .mk #[46, 182, 0, 182, 87, 167, 0, 72, 43, 42, 29, 4, 96, 46, 182, 0, 183, 87, 44, 42, 29, 4, 96, 46, 182, 0, 186, 87, 167, 0, 49, 43]
theorem zrw_cL_law_1364 : zrW 1364 cL_law zrk_cL_law_1364 := by unfold zrW; decide +kernel
theorem dL_law_1364 : decode cL_law 1364 = .ok (.iaload, 1) := zrD zrw_cL_law_1364 (i := 0) (by decide +kernel) rfl
theorem dL_law_1365 : decode cL_law 1365 = .ok (.invokevirtual 182, 3) := zrD zrw_cL_law_1364 (i := 1) (by decide +kernel) rfl
theorem dL_law_1368 : decode cL_law 1368 = .ok (.pop, 1) := zrD zrw_cL_law_1364 (i := 4) (by decide +kernel) rfl
theorem dL_law_1369 : decode cL_law 1369 = .ok (.goto 72, 3) := zrD zrw_cL_law_1364 (i := 5) (by decide +kernel) rfl
theorem dL_law_1372 : decode cL_law 1372 = .ok (.aload_n 1, 1) := zrD zrw_cL_law_1364 (i := 8) (by decide +kernel) rfl
theorem dL_law_1373 : decode cL_law 1373 = .ok (.aload_n 0, 1) := zrD zrw_cL_law_1364 (i := 9) (by decide +kernel) rfl
theorem dL_law_1374 : decode cL_law 1374 = .ok (.iload_n 3, 1) := zrD zrw_cL_law_1364 (i := 10) (by decide +kernel) rfl
theorem dL_law_1375 : decode cL_law 1375 = .ok (.iconst 1, 1) := zrD zrw_cL_law_1364 (i := 11) (by decide +kernel) rfl
theorem dL_law_1376 : decode cL_law 1376 = .ok (.iadd, 1) := zrD zrw_cL_law_1364 (i := 12) (by decide +kernel) rfl
theorem dL_law_1377 : decode cL_law 1377 = .ok (.iaload, 1) := zrD zrw_cL_law_1364 (i := 13) (by decide +kernel) rfl
theorem dL_law_1378 : decode cL_law 1378 = .ok (.invokevirtual 183, 3) := zrD zrw_cL_law_1364 (i := 14) (by decide +kernel) rfl
theorem dL_law_1381 : decode cL_law 1381 = .ok (.pop, 1) := zrD zrw_cL_law_1364 (i := 17) (by decide +kernel) rfl
theorem dL_law_1382 : decode cL_law 1382 = .ok (.aload_n 2, 1) := zrD zrw_cL_law_1364 (i := 18) (by decide +kernel) rfl
theorem dL_law_1383 : decode cL_law 1383 = .ok (.aload_n 0, 1) := zrD zrw_cL_law_1364 (i := 19) (by decide +kernel) rfl
theorem dL_law_1384 : decode cL_law 1384 = .ok (.iload_n 3, 1) := zrD zrw_cL_law_1364 (i := 20) (by decide +kernel) rfl
theorem dL_law_1385 : decode cL_law 1385 = .ok (.iconst 1, 1) := zrD zrw_cL_law_1364 (i := 21) (by decide +kernel) rfl
theorem dL_law_1386 : decode cL_law 1386 = .ok (.iadd, 1) := zrD zrw_cL_law_1364 (i := 22) (by decide +kernel) rfl
theorem dL_law_1387 : decode cL_law 1387 = .ok (.iaload, 1) := zrD zrw_cL_law_1364 (i := 23) (by decide +kernel) rfl
theorem dL_law_1388 : decode cL_law 1388 = .ok (.invokevirtual 186, 3) := zrD zrw_cL_law_1364 (i := 24) (by decide +kernel) rfl
theorem dL_law_1391 : decode cL_law 1391 = .ok (.pop, 1) := zrD zrw_cL_law_1364 (i := 27) (by decide +kernel) rfl
theorem dL_law_1392 : decode cL_law 1392 = .ok (.goto 49, 3) := zrD zrw_cL_law_1364 (i := 28) (by decide +kernel) rfl
theorem dL_law_1395 : decode cL_law 1395 = .ok (.aload_n 1, 1) := zrD zrw_cL_law_1364 (i := 31) (by decide +kernel) rfl
def zrk_cL_law_1396 : ByteArray := .mk #[42, 29, 4, 96, 46, 182, 0, 187, 87, 44, 42, 29, 4, 96, 46, 182, 0, 190, 87, 167, 0, 26, 43, 42, 29, 4, 96, 46, 182, 0, 191, 87]
theorem zrw_cL_law_1396 : zrW 1396 cL_law zrk_cL_law_1396 := by unfold zrW; decide +kernel
theorem dL_law_1396 : decode cL_law 1396 = .ok (.aload_n 0, 1) := zrD zrw_cL_law_1396 (i := 0) (by decide +kernel) rfl
theorem dL_law_1397 : decode cL_law 1397 = .ok (.iload_n 3, 1) := zrD zrw_cL_law_1396 (i := 1) (by decide +kernel) rfl
theorem dL_law_1398 : decode cL_law 1398 = .ok (.iconst 1, 1) := zrD zrw_cL_law_1396 (i := 2) (by decide +kernel) rfl
theorem dL_law_1399 : decode cL_law 1399 = .ok (.iadd, 1) := zrD zrw_cL_law_1396 (i := 3) (by decide +kernel) rfl
theorem dL_law_1400 : decode cL_law 1400 = .ok (.iaload, 1) := zrD zrw_cL_law_1396 (i := 4) (by decide +kernel) rfl
theorem dL_law_1401 : decode cL_law 1401 = .ok (.invokevirtual 187, 3) := zrD zrw_cL_law_1396 (i := 5) (by decide +kernel) rfl
theorem dL_law_1404 : decode cL_law 1404 = .ok (.pop, 1) := zrD zrw_cL_law_1396 (i := 8) (by decide +kernel) rfl
theorem dL_law_1405 : decode cL_law 1405 = .ok (.aload_n 2, 1) := zrD zrw_cL_law_1396 (i := 9) (by decide +kernel) rfl
theorem dL_law_1406 : decode cL_law 1406 = .ok (.aload_n 0, 1) := zrD zrw_cL_law_1396 (i := 10) (by decide +kernel) rfl
theorem dL_law_1407 : decode cL_law 1407 = .ok (.iload_n 3, 1) := zrD zrw_cL_law_1396 (i := 11) (by decide +kernel) rfl
theorem dL_law_1408 : decode cL_law 1408 = .ok (.iconst 1, 1) := zrD zrw_cL_law_1396 (i := 12) (by decide +kernel) rfl
theorem dL_law_1409 : decode cL_law 1409 = .ok (.iadd, 1) := zrD zrw_cL_law_1396 (i := 13) (by decide +kernel) rfl
theorem dL_law_1410 : decode cL_law 1410 = .ok (.iaload, 1) := zrD zrw_cL_law_1396 (i := 14) (by decide +kernel) rfl
theorem dL_law_1411 : decode cL_law 1411 = .ok (.invokevirtual 190, 3) := zrD zrw_cL_law_1396 (i := 15) (by decide +kernel) rfl
theorem dL_law_1414 : decode cL_law 1414 = .ok (.pop, 1) := zrD zrw_cL_law_1396 (i := 18) (by decide +kernel) rfl
theorem dL_law_1415 : decode cL_law 1415 = .ok (.goto 26, 3) := zrD zrw_cL_law_1396 (i := 19) (by decide +kernel) rfl
theorem dL_law_1418 : decode cL_law 1418 = .ok (.aload_n 1, 1) := zrD zrw_cL_law_1396 (i := 22) (by decide +kernel) rfl
theorem dL_law_1419 : decode cL_law 1419 = .ok (.aload_n 0, 1) := zrD zrw_cL_law_1396 (i := 23) (by decide +kernel) rfl
theorem dL_law_1420 : decode cL_law 1420 = .ok (.iload_n 3, 1) := zrD zrw_cL_law_1396 (i := 24) (by decide +kernel) rfl
theorem dL_law_1421 : decode cL_law 1421 = .ok (.iconst 1, 1) := zrD zrw_cL_law_1396 (i := 25) (by decide +kernel) rfl
theorem dL_law_1422 : decode cL_law 1422 = .ok (.iadd, 1) := zrD zrw_cL_law_1396 (i := 26) (by decide +kernel) rfl
theorem dL_law_1423 : decode cL_law 1423 = .ok (.iaload, 1) := zrD zrw_cL_law_1396 (i := 27) (by decide +kernel) rfl
theorem dL_law_1424 : decode cL_law 1424 = .ok (.invokevirtual 191, 3) := zrD zrw_cL_law_1396 (i := 28) (by decide +kernel) rfl
theorem dL_law_1427 : decode cL_law 1427 = .ok (.pop, 1) := zrD zrw_cL_law_1396 (i := 31) (by decide +kernel) rfl
def zrk_cL_law_1428 : ByteArray := .mk #[44, 42, 29, 4, 96, 46, 182, 0, 194, 87, 167, 0, 3, 132, 3, 6, 167, 250, 110, 4, 172]
theorem zrw_cL_law_1428 : zrW 1428 cL_law zrk_cL_law_1428 := by unfold zrW; decide +kernel
theorem dL_law_1428 : decode cL_law 1428 = .ok (.aload_n 2, 1) := zrD zrw_cL_law_1428 (i := 0) (by decide +kernel) rfl
theorem dL_law_1429 : decode cL_law 1429 = .ok (.aload_n 0, 1) := zrD zrw_cL_law_1428 (i := 1) (by decide +kernel) rfl
theorem dL_law_1430 : decode cL_law 1430 = .ok (.iload_n 3, 1) := zrD zrw_cL_law_1428 (i := 2) (by decide +kernel) rfl
theorem dL_law_1431 : decode cL_law 1431 = .ok (.iconst 1, 1) := zrD zrw_cL_law_1428 (i := 3) (by decide +kernel) rfl
theorem dL_law_1432 : decode cL_law 1432 = .ok (.iadd, 1) := zrD zrw_cL_law_1428 (i := 4) (by decide +kernel) rfl
theorem dL_law_1433 : decode cL_law 1433 = .ok (.iaload, 1) := zrD zrw_cL_law_1428 (i := 5) (by decide +kernel) rfl
theorem dL_law_1434 : decode cL_law 1434 = .ok (.invokevirtual 194, 3) := zrD zrw_cL_law_1428 (i := 6) (by decide +kernel) rfl
theorem dL_law_1437 : decode cL_law 1437 = .ok (.pop, 1) := zrD zrw_cL_law_1428 (i := 9) (by decide +kernel) rfl
theorem dL_law_1438 : decode cL_law 1438 = .ok (.goto 3, 3) := zrD zrw_cL_law_1428 (i := 10) (by decide +kernel) rfl
theorem dL_law_1441 : decode cL_law 1441 = .ok (.iinc 3 6, 3) := zrD zrw_cL_law_1428 (i := 13) (by decide +kernel) rfl
theorem dL_law_1444 : decode cL_law 1444 = .ok (.goto (-1426), 3) := zrD zrw_cL_law_1428 (i := 16) (by decide +kernel) rfl
theorem dL_law_1447 : decode cL_law 1447 = .ok (.iconst 1, 1) := zrD zrw_cL_law_1428 (i := 19) (by decide +kernel) rfl
theorem dL_law_1448 : decode cL_law 1448 = .ok (.ireturn, 1) := zrD zrw_cL_law_1428 (i := 20) (by decide +kernel) rfl
end
-- 03.decX
section
def zrk_cX0_init_0 : ByteArray := .mk #[42, 183, 0, 1, 42, 16, 9]
theorem zrw_cX0_init_0 : zrW 0 cX0_init zrk_cX0_init_0 := by unfold zrW; decide +kernel
theorem dX0_init_0 : decode cX0_init 0 = .ok (.aload_n 0, 1) := zrD zrw_cX0_init_0 (i := 0) (by decide +kernel) rfl
theorem dX0_init_1 : decode cX0_init 1 = .ok (.invokespecial 1, 3) := zrD zrw_cX0_init_0 (i := 1) (by decide +kernel) rfl
theorem dX0_init_4 : decode cX0_init 4 = .ok (.aload_n 0, 1) := zrD zrw_cX0_init_0 (i := 4) (by decide +kernel) rfl
theorem dX0_init_5 : decode cX0_init 5 = .ok (.bipush 9, 2) := zrD zrw_cX0_init_0 (i := 5) (by decide +kernel) rfl
theorem dX0_init_7 : decode cX0_init 7 = .ok (.newarray .int, 2) := by decide +kernel
def zrk_cX0_init_9 : ByteArray := .mk #[181, 0, 9, 42, 16, 32]
theorem zrw_cX0_init_9 : zrW 9 cX0_init zrk_cX0_init_9 := by unfold zrW; decide +kernel
theorem dX0_init_9 : decode cX0_init 9 = .ok (.putfield 9, 3) := zrD zrw_cX0_init_9 (i := 0) (by decide +kernel) rfl
theorem dX0_init_12 : decode cX0_init 12 = .ok (.aload_n 0, 1) := zrD zrw_cX0_init_9 (i := 3) (by decide +kernel) rfl
theorem dX0_init_13 : decode cX0_init 13 = .ok (.bipush 32, 2) := zrD zrw_cX0_init_9 (i := 4) (by decide +kernel) rfl
theorem dX0_init_15 : decode cX0_init 15 = .ok (.newarray .int, 2) := by decide +kernel
def zrk_cX0_init_17 : ByteArray := .mk #[181, 0, 13, 177]
theorem zrw_cX0_init_17 : zrW 17 cX0_init zrk_cX0_init_17 := by unfold zrW; decide +kernel
theorem dX0_init_17 : decode cX0_init 17 = .ok (.putfield 13, 3) := zrD zrw_cX0_init_17 (i := 0) (by decide +kernel) rfl
theorem dX0_init_20 : decode cX0_init 20 = .ok (.return_, 1) := zrD zrw_cX0_init_17 (i := 3) (by decide +kernel) rfl
def zrk_cX0_answer_0 : ByteArray := .mk #[3, 62, 43, 180, 0, 16, 28, 46, 54, 4, 3, 54, 5, 21, 5, 17, 1, 164, 162, 1, 37, 21, 4, 155, 1, 32, 21, 4, 43, 180, 0, 21]
theorem zrw_cX0_answer_0 : zrW 0 cX0_answer zrk_cX0_answer_0 := by unfold zrW; decide +kernel
theorem dX0_answer_0 : decode cX0_answer 0 = .ok (.iconst 0, 1) := zrD zrw_cX0_answer_0 (i := 0) (by decide +kernel) rfl
theorem dX0_answer_1 : decode cX0_answer 1 = .ok (.istore_n 3, 1) := zrD zrw_cX0_answer_0 (i := 1) (by decide +kernel) rfl
theorem dX0_answer_2 : decode cX0_answer 2 = .ok (.aload_n 1, 1) := zrD zrw_cX0_answer_0 (i := 2) (by decide +kernel) rfl
theorem dX0_answer_3 : decode cX0_answer 3 = .ok (.getfield 16, 3) := zrD zrw_cX0_answer_0 (i := 3) (by decide +kernel) rfl
theorem dX0_answer_6 : decode cX0_answer 6 = .ok (.iload_n 2, 1) := zrD zrw_cX0_answer_0 (i := 6) (by decide +kernel) rfl
theorem dX0_answer_7 : decode cX0_answer 7 = .ok (.iaload, 1) := zrD zrw_cX0_answer_0 (i := 7) (by decide +kernel) rfl
theorem dX0_answer_8 : decode cX0_answer 8 = .ok (.istore 4, 2) := zrD zrw_cX0_answer_0 (i := 8) (by decide +kernel) rfl
theorem dX0_answer_10 : decode cX0_answer 10 = .ok (.iconst 0, 1) := zrD zrw_cX0_answer_0 (i := 10) (by decide +kernel) rfl
theorem dX0_answer_11 : decode cX0_answer 11 = .ok (.istore 5, 2) := zrD zrw_cX0_answer_0 (i := 11) (by decide +kernel) rfl
theorem dX0_answer_13 : decode cX0_answer 13 = .ok (.iload 5, 2) := zrD zrw_cX0_answer_0 (i := 13) (by decide +kernel) rfl
theorem dX0_answer_15 : decode cX0_answer 15 = .ok (.sipush 420, 3) := zrD zrw_cX0_answer_0 (i := 15) (by decide +kernel) rfl
theorem dX0_answer_18 : decode cX0_answer 18 = .ok (.if_icmp .ge 293, 3) := zrD zrw_cX0_answer_0 (i := 18) (by decide +kernel) rfl
theorem dX0_answer_21 : decode cX0_answer 21 = .ok (.iload 4, 2) := zrD zrw_cX0_answer_0 (i := 21) (by decide +kernel) rfl
theorem dX0_answer_23 : decode cX0_answer 23 = .ok (.ifCond .lt 288, 3) := zrD zrw_cX0_answer_0 (i := 23) (by decide +kernel) rfl
theorem dX0_answer_26 : decode cX0_answer 26 = .ok (.iload 4, 2) := zrD zrw_cX0_answer_0 (i := 26) (by decide +kernel) rfl
theorem dX0_answer_28 : decode cX0_answer 28 = .ok (.aload_n 1, 1) := zrD zrw_cX0_answer_0 (i := 28) (by decide +kernel) rfl
theorem dX0_answer_29 : decode cX0_answer 29 = .ok (.getfield 21, 3) := zrD zrw_cX0_answer_0 (i := 29) (by decide +kernel) rfl
def zrk_cX0_answer_32 : ByteArray := .mk #[162, 1, 23, 43, 180, 0, 25, 21, 4, 46, 54, 6, 43, 180, 0, 28, 21, 4, 46, 54, 7, 132, 4, 1, 21, 6, 16, 7, 160, 0, 20, 29]
theorem zrw_cX0_answer_32 : zrW 32 cX0_answer zrk_cX0_answer_32 := by unfold zrW; decide +kernel
theorem dX0_answer_32 : decode cX0_answer 32 = .ok (.if_icmp .ge 279, 3) := zrD zrw_cX0_answer_32 (i := 0) (by decide +kernel) rfl
theorem dX0_answer_35 : decode cX0_answer 35 = .ok (.aload_n 1, 1) := zrD zrw_cX0_answer_32 (i := 3) (by decide +kernel) rfl
theorem dX0_answer_36 : decode cX0_answer 36 = .ok (.getfield 25, 3) := zrD zrw_cX0_answer_32 (i := 4) (by decide +kernel) rfl
theorem dX0_answer_39 : decode cX0_answer 39 = .ok (.iload 4, 2) := zrD zrw_cX0_answer_32 (i := 7) (by decide +kernel) rfl
theorem dX0_answer_41 : decode cX0_answer 41 = .ok (.iaload, 1) := zrD zrw_cX0_answer_32 (i := 9) (by decide +kernel) rfl
theorem dX0_answer_42 : decode cX0_answer 42 = .ok (.istore 6, 2) := zrD zrw_cX0_answer_32 (i := 10) (by decide +kernel) rfl
theorem dX0_answer_44 : decode cX0_answer 44 = .ok (.aload_n 1, 1) := zrD zrw_cX0_answer_32 (i := 12) (by decide +kernel) rfl
theorem dX0_answer_45 : decode cX0_answer 45 = .ok (.getfield 28, 3) := zrD zrw_cX0_answer_32 (i := 13) (by decide +kernel) rfl
theorem dX0_answer_48 : decode cX0_answer 48 = .ok (.iload 4, 2) := zrD zrw_cX0_answer_32 (i := 16) (by decide +kernel) rfl
theorem dX0_answer_50 : decode cX0_answer 50 = .ok (.iaload, 1) := zrD zrw_cX0_answer_32 (i := 18) (by decide +kernel) rfl
theorem dX0_answer_51 : decode cX0_answer 51 = .ok (.istore 7, 2) := zrD zrw_cX0_answer_32 (i := 19) (by decide +kernel) rfl
theorem dX0_answer_53 : decode cX0_answer 53 = .ok (.iinc 4 1, 3) := zrD zrw_cX0_answer_32 (i := 21) (by decide +kernel) rfl
theorem dX0_answer_56 : decode cX0_answer 56 = .ok (.iload 6, 2) := zrD zrw_cX0_answer_32 (i := 24) (by decide +kernel) rfl
theorem dX0_answer_58 : decode cX0_answer 58 = .ok (.bipush 7, 2) := zrD zrw_cX0_answer_32 (i := 26) (by decide +kernel) rfl
theorem dX0_answer_60 : decode cX0_answer 60 = .ok (.if_icmp .ne 20, 3) := zrD zrw_cX0_answer_32 (i := 28) (by decide +kernel) rfl
theorem dX0_answer_63 : decode cX0_answer 63 = .ok (.iload_n 3, 1) := zrD zrw_cX0_answer_32 (i := 31) (by decide +kernel) rfl
def zrk_cX0_answer_64 : ByteArray := .mk #[158, 0, 14, 42, 180, 0, 13, 29, 4, 100, 46, 167, 0, 4, 3, 172, 21, 6, 153, 0, 9, 21, 6, 4, 160, 0, 58, 29, 16, 32]
theorem zrw_cX0_answer_64 : zrW 64 cX0_answer zrk_cX0_answer_64 := by unfold zrW; decide +kernel
theorem dX0_answer_64 : decode cX0_answer 64 = .ok (.ifCond .le 14, 3) := zrD zrw_cX0_answer_64 (i := 0) (by decide +kernel) rfl
theorem dX0_answer_67 : decode cX0_answer 67 = .ok (.aload_n 0, 1) := zrD zrw_cX0_answer_64 (i := 3) (by decide +kernel) rfl
theorem dX0_answer_68 : decode cX0_answer 68 = .ok (.getfield 13, 3) := zrD zrw_cX0_answer_64 (i := 4) (by decide +kernel) rfl
theorem dX0_answer_71 : decode cX0_answer 71 = .ok (.iload_n 3, 1) := zrD zrw_cX0_answer_64 (i := 7) (by decide +kernel) rfl
theorem dX0_answer_72 : decode cX0_answer 72 = .ok (.iconst 1, 1) := zrD zrw_cX0_answer_64 (i := 8) (by decide +kernel) rfl
theorem dX0_answer_73 : decode cX0_answer 73 = .ok (.isub, 1) := zrD zrw_cX0_answer_64 (i := 9) (by decide +kernel) rfl
theorem dX0_answer_74 : decode cX0_answer 74 = .ok (.iaload, 1) := zrD zrw_cX0_answer_64 (i := 10) (by decide +kernel) rfl
theorem dX0_answer_75 : decode cX0_answer 75 = .ok (.goto 4, 3) := zrD zrw_cX0_answer_64 (i := 11) (by decide +kernel) rfl
theorem dX0_answer_78 : decode cX0_answer 78 = .ok (.iconst 0, 1) := zrD zrw_cX0_answer_64 (i := 14) (by decide +kernel) rfl
theorem dX0_answer_79 : decode cX0_answer 79 = .ok (.ireturn, 1) := zrD zrw_cX0_answer_64 (i := 15) (by decide +kernel) rfl
theorem dX0_answer_80 : decode cX0_answer 80 = .ok (.iload 6, 2) := zrD zrw_cX0_answer_64 (i := 16) (by decide +kernel) rfl
theorem dX0_answer_82 : decode cX0_answer 82 = .ok (.ifCond .eq 9, 3) := zrD zrw_cX0_answer_64 (i := 18) (by decide +kernel) rfl
theorem dX0_answer_85 : decode cX0_answer 85 = .ok (.iload 6, 2) := zrD zrw_cX0_answer_64 (i := 21) (by decide +kernel) rfl
theorem dX0_answer_87 : decode cX0_answer 87 = .ok (.iconst 1, 1) := zrD zrw_cX0_answer_64 (i := 23) (by decide +kernel) rfl
theorem dX0_answer_88 : decode cX0_answer 88 = .ok (.if_icmp .ne 58, 3) := zrD zrw_cX0_answer_64 (i := 24) (by decide +kernel) rfl
theorem dX0_answer_91 : decode cX0_answer 91 = .ok (.iload_n 3, 1) := zrD zrw_cX0_answer_64 (i := 27) (by decide +kernel) rfl
theorem dX0_answer_92 : decode cX0_answer 92 = .ok (.bipush 32, 2) := zrD zrw_cX0_answer_64 (i := 28) (by decide +kernel) rfl
def zrk_cX0_answer_94 : ByteArray := .mk #[162, 0, 21, 21, 7, 155, 0, 16, 21, 6, 4, 160, 0, 12, 21, 7, 16, 9, 161, 0, 5, 3, 172, 42, 180, 0, 13, 29, 21, 6]
theorem zrw_cX0_answer_94 : zrW 94 cX0_answer zrk_cX0_answer_94 := by unfold zrW; decide +kernel
theorem dX0_answer_94 : decode cX0_answer 94 = .ok (.if_icmp .ge 21, 3) := zrD zrw_cX0_answer_94 (i := 0) (by decide +kernel) rfl
theorem dX0_answer_97 : decode cX0_answer 97 = .ok (.iload 7, 2) := zrD zrw_cX0_answer_94 (i := 3) (by decide +kernel) rfl
theorem dX0_answer_99 : decode cX0_answer 99 = .ok (.ifCond .lt 16, 3) := zrD zrw_cX0_answer_94 (i := 5) (by decide +kernel) rfl
theorem dX0_answer_102 : decode cX0_answer 102 = .ok (.iload 6, 2) := zrD zrw_cX0_answer_94 (i := 8) (by decide +kernel) rfl
theorem dX0_answer_104 : decode cX0_answer 104 = .ok (.iconst 1, 1) := zrD zrw_cX0_answer_94 (i := 10) (by decide +kernel) rfl
theorem dX0_answer_105 : decode cX0_answer 105 = .ok (.if_icmp .ne 12, 3) := zrD zrw_cX0_answer_94 (i := 11) (by decide +kernel) rfl
theorem dX0_answer_108 : decode cX0_answer 108 = .ok (.iload 7, 2) := zrD zrw_cX0_answer_94 (i := 14) (by decide +kernel) rfl
theorem dX0_answer_110 : decode cX0_answer 110 = .ok (.bipush 9, 2) := zrD zrw_cX0_answer_94 (i := 16) (by decide +kernel) rfl
theorem dX0_answer_112 : decode cX0_answer 112 = .ok (.if_icmp .lt 5, 3) := zrD zrw_cX0_answer_94 (i := 18) (by decide +kernel) rfl
theorem dX0_answer_115 : decode cX0_answer 115 = .ok (.iconst 0, 1) := zrD zrw_cX0_answer_94 (i := 21) (by decide +kernel) rfl
theorem dX0_answer_116 : decode cX0_answer 116 = .ok (.ireturn, 1) := zrD zrw_cX0_answer_94 (i := 22) (by decide +kernel) rfl
theorem dX0_answer_117 : decode cX0_answer 117 = .ok (.aload_n 0, 1) := zrD zrw_cX0_answer_94 (i := 23) (by decide +kernel) rfl
theorem dX0_answer_118 : decode cX0_answer 118 = .ok (.getfield 13, 3) := zrD zrw_cX0_answer_94 (i := 24) (by decide +kernel) rfl
theorem dX0_answer_121 : decode cX0_answer 121 = .ok (.iload_n 3, 1) := zrD zrw_cX0_answer_94 (i := 27) (by decide +kernel) rfl
theorem dX0_answer_122 : decode cX0_answer 122 = .ok (.iload 6, 2) := zrD zrw_cX0_answer_94 (i := 28) (by decide +kernel) rfl
def zrk_cX0_answer_124 : ByteArray := .mk #[154, 0, 8, 21, 7, 167, 0, 10, 42, 180, 0, 9, 21, 7, 46, 79, 132, 3, 1, 167, 0, 162, 29, 5, 162, 0, 5, 3, 172, 132, 3, 255]
theorem zrw_cX0_answer_124 : zrW 124 cX0_answer zrk_cX0_answer_124 := by unfold zrW; decide +kernel
theorem dX0_answer_124 : decode cX0_answer 124 = .ok (.ifCond .ne 8, 3) := zrD zrw_cX0_answer_124 (i := 0) (by decide +kernel) rfl
theorem dX0_answer_127 : decode cX0_answer 127 = .ok (.iload 7, 2) := zrD zrw_cX0_answer_124 (i := 3) (by decide +kernel) rfl
theorem dX0_answer_129 : decode cX0_answer 129 = .ok (.goto 10, 3) := zrD zrw_cX0_answer_124 (i := 5) (by decide +kernel) rfl
theorem dX0_answer_132 : decode cX0_answer 132 = .ok (.aload_n 0, 1) := zrD zrw_cX0_answer_124 (i := 8) (by decide +kernel) rfl
theorem dX0_answer_133 : decode cX0_answer 133 = .ok (.getfield 9, 3) := zrD zrw_cX0_answer_124 (i := 9) (by decide +kernel) rfl
theorem dX0_answer_136 : decode cX0_answer 136 = .ok (.iload 7, 2) := zrD zrw_cX0_answer_124 (i := 12) (by decide +kernel) rfl
theorem dX0_answer_138 : decode cX0_answer 138 = .ok (.iaload, 1) := zrD zrw_cX0_answer_124 (i := 14) (by decide +kernel) rfl
theorem dX0_answer_139 : decode cX0_answer 139 = .ok (.iastore, 1) := zrD zrw_cX0_answer_124 (i := 15) (by decide +kernel) rfl
theorem dX0_answer_140 : decode cX0_answer 140 = .ok (.iinc 3 1, 3) := zrD zrw_cX0_answer_124 (i := 16) (by decide +kernel) rfl
theorem dX0_answer_143 : decode cX0_answer 143 = .ok (.goto 162, 3) := zrD zrw_cX0_answer_124 (i := 19) (by decide +kernel) rfl
theorem dX0_answer_146 : decode cX0_answer 146 = .ok (.iload_n 3, 1) := zrD zrw_cX0_answer_124 (i := 22) (by decide +kernel) rfl
theorem dX0_answer_147 : decode cX0_answer 147 = .ok (.iconst 2, 1) := zrD zrw_cX0_answer_124 (i := 23) (by decide +kernel) rfl
theorem dX0_answer_148 : decode cX0_answer 148 = .ok (.if_icmp .ge 5, 3) := zrD zrw_cX0_answer_124 (i := 24) (by decide +kernel) rfl
theorem dX0_answer_151 : decode cX0_answer 151 = .ok (.iconst 0, 1) := zrD zrw_cX0_answer_124 (i := 27) (by decide +kernel) rfl
theorem dX0_answer_152 : decode cX0_answer 152 = .ok (.ireturn, 1) := zrD zrw_cX0_answer_124 (i := 28) (by decide +kernel) rfl
theorem dX0_answer_153 : decode cX0_answer 153 = .ok (.iinc 3 (-1), 3) := zrD zrw_cX0_answer_124 (i := 29) (by decide +kernel) rfl
def zrk_cX0_answer_156 : ByteArray := .mk #[42, 180, 0, 13, 29, 46, 54, 8, 42, 180, 0, 13, 29, 4, 100, 46, 54, 9, 21, 6]
theorem zrw_cX0_answer_156 : zrW 156 cX0_answer zrk_cX0_answer_156 := by unfold zrW; decide +kernel
theorem dX0_answer_156 : decode cX0_answer 156 = .ok (.aload_n 0, 1) := zrD zrw_cX0_answer_156 (i := 0) (by decide +kernel) rfl
theorem dX0_answer_157 : decode cX0_answer 157 = .ok (.getfield 13, 3) := zrD zrw_cX0_answer_156 (i := 1) (by decide +kernel) rfl
theorem dX0_answer_160 : decode cX0_answer 160 = .ok (.iload_n 3, 1) := zrD zrw_cX0_answer_156 (i := 4) (by decide +kernel) rfl
theorem dX0_answer_161 : decode cX0_answer 161 = .ok (.iaload, 1) := zrD zrw_cX0_answer_156 (i := 5) (by decide +kernel) rfl
theorem dX0_answer_162 : decode cX0_answer 162 = .ok (.istore 8, 2) := zrD zrw_cX0_answer_156 (i := 6) (by decide +kernel) rfl
theorem dX0_answer_164 : decode cX0_answer 164 = .ok (.aload_n 0, 1) := zrD zrw_cX0_answer_156 (i := 8) (by decide +kernel) rfl
theorem dX0_answer_165 : decode cX0_answer 165 = .ok (.getfield 13, 3) := zrD zrw_cX0_answer_156 (i := 9) (by decide +kernel) rfl
theorem dX0_answer_168 : decode cX0_answer 168 = .ok (.iload_n 3, 1) := zrD zrw_cX0_answer_156 (i := 12) (by decide +kernel) rfl
theorem dX0_answer_169 : decode cX0_answer 169 = .ok (.iconst 1, 1) := zrD zrw_cX0_answer_156 (i := 13) (by decide +kernel) rfl
theorem dX0_answer_170 : decode cX0_answer 170 = .ok (.isub, 1) := zrD zrw_cX0_answer_156 (i := 14) (by decide +kernel) rfl
theorem dX0_answer_171 : decode cX0_answer 171 = .ok (.iaload, 1) := zrD zrw_cX0_answer_156 (i := 15) (by decide +kernel) rfl
theorem dX0_answer_172 : decode cX0_answer 172 = .ok (.istore 9, 2) := zrD zrw_cX0_answer_156 (i := 16) (by decide +kernel) rfl
theorem dX0_answer_174 : decode cX0_answer 174 = .ok (.iload 6, 2) := zrD zrw_cX0_answer_156 (i := 18) (by decide +kernel) rfl
theorem dX0_answer_176 : decode cX0_answer 176 = .ok (.tableswitch 103 2 5 #[32, 48, 64, 80], 32) := by decide +kernel
def zrk_cX0_answer_208 : ByteArray := .mk #[42, 180, 0, 13, 29, 4, 100, 21, 9, 21, 8, 96, 79, 167, 0, 84, 42, 180, 0, 13, 29, 4, 100, 21, 9, 21, 8, 100, 79, 167, 0, 68]
theorem zrw_cX0_answer_208 : zrW 208 cX0_answer zrk_cX0_answer_208 := by unfold zrW; decide +kernel
theorem dX0_answer_208 : decode cX0_answer 208 = .ok (.aload_n 0, 1) := zrD zrw_cX0_answer_208 (i := 0) (by decide +kernel) rfl
theorem dX0_answer_209 : decode cX0_answer 209 = .ok (.getfield 13, 3) := zrD zrw_cX0_answer_208 (i := 1) (by decide +kernel) rfl
theorem dX0_answer_212 : decode cX0_answer 212 = .ok (.iload_n 3, 1) := zrD zrw_cX0_answer_208 (i := 4) (by decide +kernel) rfl
theorem dX0_answer_213 : decode cX0_answer 213 = .ok (.iconst 1, 1) := zrD zrw_cX0_answer_208 (i := 5) (by decide +kernel) rfl
theorem dX0_answer_214 : decode cX0_answer 214 = .ok (.isub, 1) := zrD zrw_cX0_answer_208 (i := 6) (by decide +kernel) rfl
theorem dX0_answer_215 : decode cX0_answer 215 = .ok (.iload 9, 2) := zrD zrw_cX0_answer_208 (i := 7) (by decide +kernel) rfl
theorem dX0_answer_217 : decode cX0_answer 217 = .ok (.iload 8, 2) := zrD zrw_cX0_answer_208 (i := 9) (by decide +kernel) rfl
theorem dX0_answer_219 : decode cX0_answer 219 = .ok (.iadd, 1) := zrD zrw_cX0_answer_208 (i := 11) (by decide +kernel) rfl
theorem dX0_answer_220 : decode cX0_answer 220 = .ok (.iastore, 1) := zrD zrw_cX0_answer_208 (i := 12) (by decide +kernel) rfl
theorem dX0_answer_221 : decode cX0_answer 221 = .ok (.goto 84, 3) := zrD zrw_cX0_answer_208 (i := 13) (by decide +kernel) rfl
theorem dX0_answer_224 : decode cX0_answer 224 = .ok (.aload_n 0, 1) := zrD zrw_cX0_answer_208 (i := 16) (by decide +kernel) rfl
theorem dX0_answer_225 : decode cX0_answer 225 = .ok (.getfield 13, 3) := zrD zrw_cX0_answer_208 (i := 17) (by decide +kernel) rfl
theorem dX0_answer_228 : decode cX0_answer 228 = .ok (.iload_n 3, 1) := zrD zrw_cX0_answer_208 (i := 20) (by decide +kernel) rfl
theorem dX0_answer_229 : decode cX0_answer 229 = .ok (.iconst 1, 1) := zrD zrw_cX0_answer_208 (i := 21) (by decide +kernel) rfl
theorem dX0_answer_230 : decode cX0_answer 230 = .ok (.isub, 1) := zrD zrw_cX0_answer_208 (i := 22) (by decide +kernel) rfl
theorem dX0_answer_231 : decode cX0_answer 231 = .ok (.iload 9, 2) := zrD zrw_cX0_answer_208 (i := 23) (by decide +kernel) rfl
theorem dX0_answer_233 : decode cX0_answer 233 = .ok (.iload 8, 2) := zrD zrw_cX0_answer_208 (i := 25) (by decide +kernel) rfl
theorem dX0_answer_235 : decode cX0_answer 235 = .ok (.isub, 1) := zrD zrw_cX0_answer_208 (i := 27) (by decide +kernel) rfl
theorem dX0_answer_236 : decode cX0_answer 236 = .ok (.iastore, 1) := zrD zrw_cX0_answer_208 (i := 28) (by decide +kernel) rfl
theorem dX0_answer_237 : decode cX0_answer 237 = .ok (.goto 68, 3) := zrD zrw_cX0_answer_208 (i := 29) (by decide +kernel) rfl
def zrk_cX0_answer_240 : ByteArray := .mk #[42, 180, 0, 13, 29, 4, 100, 21, 9, 21, 8, 104, 79, 167, 0, 52, 21, 8, 154, 0, 5, 3, 172, 42, 180, 0, 13, 29, 4, 100, 21, 9]
theorem zrw_cX0_answer_240 : zrW 240 cX0_answer zrk_cX0_answer_240 := by unfold zrW; decide +kernel
theorem dX0_answer_240 : decode cX0_answer 240 = .ok (.aload_n 0, 1) := zrD zrw_cX0_answer_240 (i := 0) (by decide +kernel) rfl
theorem dX0_answer_241 : decode cX0_answer 241 = .ok (.getfield 13, 3) := zrD zrw_cX0_answer_240 (i := 1) (by decide +kernel) rfl
theorem dX0_answer_244 : decode cX0_answer 244 = .ok (.iload_n 3, 1) := zrD zrw_cX0_answer_240 (i := 4) (by decide +kernel) rfl
theorem dX0_answer_245 : decode cX0_answer 245 = .ok (.iconst 1, 1) := zrD zrw_cX0_answer_240 (i := 5) (by decide +kernel) rfl
theorem dX0_answer_246 : decode cX0_answer 246 = .ok (.isub, 1) := zrD zrw_cX0_answer_240 (i := 6) (by decide +kernel) rfl
theorem dX0_answer_247 : decode cX0_answer 247 = .ok (.iload 9, 2) := zrD zrw_cX0_answer_240 (i := 7) (by decide +kernel) rfl
theorem dX0_answer_249 : decode cX0_answer 249 = .ok (.iload 8, 2) := zrD zrw_cX0_answer_240 (i := 9) (by decide +kernel) rfl
theorem dX0_answer_251 : decode cX0_answer 251 = .ok (.imul, 1) := zrD zrw_cX0_answer_240 (i := 11) (by decide +kernel) rfl
theorem dX0_answer_252 : decode cX0_answer 252 = .ok (.iastore, 1) := zrD zrw_cX0_answer_240 (i := 12) (by decide +kernel) rfl
theorem dX0_answer_253 : decode cX0_answer 253 = .ok (.goto 52, 3) := zrD zrw_cX0_answer_240 (i := 13) (by decide +kernel) rfl
theorem dX0_answer_256 : decode cX0_answer 256 = .ok (.iload 8, 2) := zrD zrw_cX0_answer_240 (i := 16) (by decide +kernel) rfl
theorem dX0_answer_258 : decode cX0_answer 258 = .ok (.ifCond .ne 5, 3) := zrD zrw_cX0_answer_240 (i := 18) (by decide +kernel) rfl
theorem dX0_answer_261 : decode cX0_answer 261 = .ok (.iconst 0, 1) := zrD zrw_cX0_answer_240 (i := 21) (by decide +kernel) rfl
theorem dX0_answer_262 : decode cX0_answer 262 = .ok (.ireturn, 1) := zrD zrw_cX0_answer_240 (i := 22) (by decide +kernel) rfl
theorem dX0_answer_263 : decode cX0_answer 263 = .ok (.aload_n 0, 1) := zrD zrw_cX0_answer_240 (i := 23) (by decide +kernel) rfl
theorem dX0_answer_264 : decode cX0_answer 264 = .ok (.getfield 13, 3) := zrD zrw_cX0_answer_240 (i := 24) (by decide +kernel) rfl
theorem dX0_answer_267 : decode cX0_answer 267 = .ok (.iload_n 3, 1) := zrD zrw_cX0_answer_240 (i := 27) (by decide +kernel) rfl
theorem dX0_answer_268 : decode cX0_answer 268 = .ok (.iconst 1, 1) := zrD zrw_cX0_answer_240 (i := 28) (by decide +kernel) rfl
theorem dX0_answer_269 : decode cX0_answer 269 = .ok (.isub, 1) := zrD zrw_cX0_answer_240 (i := 29) (by decide +kernel) rfl
theorem dX0_answer_270 : decode cX0_answer 270 = .ok (.iload 9, 2) := zrD zrw_cX0_answer_240 (i := 30) (by decide +kernel) rfl
def zrk_cX0_answer_272 : ByteArray := .mk #[21, 8, 108, 79, 167, 0, 29, 132, 3, 255, 21, 9, 21, 8, 161, 0, 15, 21, 7, 21, 4, 164, 0, 8, 21, 7, 167, 0, 5, 21, 4]
theorem zrw_cX0_answer_272 : zrW 272 cX0_answer zrk_cX0_answer_272 := by unfold zrW; decide +kernel
theorem dX0_answer_272 : decode cX0_answer 272 = .ok (.iload 8, 2) := zrD zrw_cX0_answer_272 (i := 0) (by decide +kernel) rfl
theorem dX0_answer_274 : decode cX0_answer 274 = .ok (.idiv, 1) := zrD zrw_cX0_answer_272 (i := 2) (by decide +kernel) rfl
theorem dX0_answer_275 : decode cX0_answer 275 = .ok (.iastore, 1) := zrD zrw_cX0_answer_272 (i := 3) (by decide +kernel) rfl
theorem dX0_answer_276 : decode cX0_answer 276 = .ok (.goto 29, 3) := zrD zrw_cX0_answer_272 (i := 4) (by decide +kernel) rfl
theorem dX0_answer_279 : decode cX0_answer 279 = .ok (.iinc 3 (-1), 3) := zrD zrw_cX0_answer_272 (i := 7) (by decide +kernel) rfl
theorem dX0_answer_282 : decode cX0_answer 282 = .ok (.iload 9, 2) := zrD zrw_cX0_answer_272 (i := 10) (by decide +kernel) rfl
theorem dX0_answer_284 : decode cX0_answer 284 = .ok (.iload 8, 2) := zrD zrw_cX0_answer_272 (i := 12) (by decide +kernel) rfl
theorem dX0_answer_286 : decode cX0_answer 286 = .ok (.if_icmp .lt 15, 3) := zrD zrw_cX0_answer_272 (i := 14) (by decide +kernel) rfl
theorem dX0_answer_289 : decode cX0_answer 289 = .ok (.iload 7, 2) := zrD zrw_cX0_answer_272 (i := 17) (by decide +kernel) rfl
theorem dX0_answer_291 : decode cX0_answer 291 = .ok (.iload 4, 2) := zrD zrw_cX0_answer_272 (i := 19) (by decide +kernel) rfl
theorem dX0_answer_293 : decode cX0_answer 293 = .ok (.if_icmp .le 8, 3) := zrD zrw_cX0_answer_272 (i := 21) (by decide +kernel) rfl
theorem dX0_answer_296 : decode cX0_answer 296 = .ok (.iload 7, 2) := zrD zrw_cX0_answer_272 (i := 24) (by decide +kernel) rfl
theorem dX0_answer_298 : decode cX0_answer 298 = .ok (.goto 5, 3) := zrD zrw_cX0_answer_272 (i := 26) (by decide +kernel) rfl
theorem dX0_answer_301 : decode cX0_answer 301 = .ok (.iload 4, 2) := zrD zrw_cX0_answer_272 (i := 29) (by decide +kernel) rfl
def zrk_cX0_answer_303 : ByteArray := .mk #[54, 4, 132, 5, 1, 167, 254, 217, 3, 172]
theorem zrw_cX0_answer_303 : zrW 303 cX0_answer zrk_cX0_answer_303 := by unfold zrW; decide +kernel
theorem dX0_answer_303 : decode cX0_answer 303 = .ok (.istore 4, 2) := zrD zrw_cX0_answer_303 (i := 0) (by decide +kernel) rfl
theorem dX0_answer_305 : decode cX0_answer 305 = .ok (.iinc 5 1, 3) := zrD zrw_cX0_answer_303 (i := 2) (by decide +kernel) rfl
theorem dX0_answer_308 : decode cX0_answer 308 = .ok (.goto (-295), 3) := zrD zrw_cX0_answer_303 (i := 5) (by decide +kernel) rfl
theorem dX0_answer_311 : decode cX0_answer 311 = .ok (.iconst 0, 1) := zrD zrw_cX0_answer_303 (i := 8) (by decide +kernel) rfl
theorem dX0_answer_312 : decode cX0_answer 312 = .ok (.ireturn, 1) := zrD zrw_cX0_answer_303 (i := 9) (by decide +kernel) rfl
def zrk_cX1_init_0 : ByteArray := .mk #[42, 183, 0, 3, 42, 16, 12]
theorem zrw_cX1_init_0 : zrW 0 cX1_init zrk_cX1_init_0 := by unfold zrW; decide +kernel
theorem dX1_init_0 : decode cX1_init 0 = .ok (.aload_n 0, 1) := zrD zrw_cX1_init_0 (i := 0) (by decide +kernel) rfl
theorem dX1_init_1 : decode cX1_init 1 = .ok (.invokespecial 3, 3) := zrD zrw_cX1_init_0 (i := 1) (by decide +kernel) rfl
theorem dX1_init_4 : decode cX1_init 4 = .ok (.aload_n 0, 1) := zrD zrw_cX1_init_0 (i := 4) (by decide +kernel) rfl
theorem dX1_init_5 : decode cX1_init 5 = .ok (.bipush 12, 2) := zrD zrw_cX1_init_0 (i := 5) (by decide +kernel) rfl
theorem dX1_init_7 : decode cX1_init 7 = .ok (.newarray .int, 2) := by decide +kernel
def zrk_cX1_init_9 : ByteArray := .mk #[181, 0, 9, 42, 16, 12]
theorem zrw_cX1_init_9 : zrW 9 cX1_init zrk_cX1_init_9 := by unfold zrW; decide +kernel
theorem dX1_init_9 : decode cX1_init 9 = .ok (.putfield 9, 3) := zrD zrw_cX1_init_9 (i := 0) (by decide +kernel) rfl
theorem dX1_init_12 : decode cX1_init 12 = .ok (.aload_n 0, 1) := zrD zrw_cX1_init_9 (i := 3) (by decide +kernel) rfl
theorem dX1_init_13 : decode cX1_init 13 = .ok (.bipush 12, 2) := zrD zrw_cX1_init_9 (i := 4) (by decide +kernel) rfl
theorem dX1_init_15 : decode cX1_init 15 = .ok (.newarray .int, 2) := by decide +kernel
def zrk_cX1_init_17 : ByteArray := .mk #[181, 0, 15, 42, 16, 12]
theorem zrw_cX1_init_17 : zrW 17 cX1_init zrk_cX1_init_17 := by unfold zrW; decide +kernel
theorem dX1_init_17 : decode cX1_init 17 = .ok (.putfield 15, 3) := zrD zrw_cX1_init_17 (i := 0) (by decide +kernel) rfl
theorem dX1_init_20 : decode cX1_init 20 = .ok (.aload_n 0, 1) := zrD zrw_cX1_init_17 (i := 3) (by decide +kernel) rfl
theorem dX1_init_21 : decode cX1_init 21 = .ok (.bipush 12, 2) := zrD zrw_cX1_init_17 (i := 4) (by decide +kernel) rfl
theorem dX1_init_23 : decode cX1_init 23 = .ok (.newarray .int, 2) := by decide +kernel
def zrk_cX1_init_25 : ByteArray := .mk #[181, 0, 18, 42, 3, 181, 0, 21, 42, 3, 181, 0, 25, 42, 3, 181, 0, 28, 177]
theorem zrw_cX1_init_25 : zrW 25 cX1_init zrk_cX1_init_25 := by unfold zrW; decide +kernel
theorem dX1_init_25 : decode cX1_init 25 = .ok (.putfield 18, 3) := zrD zrw_cX1_init_25 (i := 0) (by decide +kernel) rfl
theorem dX1_init_28 : decode cX1_init 28 = .ok (.aload_n 0, 1) := zrD zrw_cX1_init_25 (i := 3) (by decide +kernel) rfl
theorem dX1_init_29 : decode cX1_init 29 = .ok (.iconst 0, 1) := zrD zrw_cX1_init_25 (i := 4) (by decide +kernel) rfl
theorem dX1_init_30 : decode cX1_init 30 = .ok (.putfield 21, 3) := zrD zrw_cX1_init_25 (i := 5) (by decide +kernel) rfl
theorem dX1_init_33 : decode cX1_init 33 = .ok (.aload_n 0, 1) := zrD zrw_cX1_init_25 (i := 8) (by decide +kernel) rfl
theorem dX1_init_34 : decode cX1_init 34 = .ok (.iconst 0, 1) := zrD zrw_cX1_init_25 (i := 9) (by decide +kernel) rfl
theorem dX1_init_35 : decode cX1_init 35 = .ok (.putfield 25, 3) := zrD zrw_cX1_init_25 (i := 10) (by decide +kernel) rfl
theorem dX1_init_38 : decode cX1_init 38 = .ok (.aload_n 0, 1) := zrD zrw_cX1_init_25 (i := 13) (by decide +kernel) rfl
theorem dX1_init_39 : decode cX1_init 39 = .ok (.iconst 0, 1) := zrD zrw_cX1_init_25 (i := 14) (by decide +kernel) rfl
theorem dX1_init_40 : decode cX1_init 40 = .ok (.putfield 28, 3) := zrD zrw_cX1_init_25 (i := 15) (by decide +kernel) rfl
theorem dX1_init_43 : decode cX1_init 43 = .ok (.return_, 1) := zrD zrw_cX1_init_25 (i := 18) (by decide +kernel) rfl
def zrk_cX1_begin_0 : ByteArray := .mk #[43, 180, 0, 31, 3, 42, 180, 0, 9, 3, 16, 12, 184, 0, 34, 42, 180, 0, 15, 3, 184, 0, 40, 42, 180, 0, 18, 3, 184, 0, 40, 42]
theorem zrw_cX1_begin_0 : zrW 0 cX1_begin zrk_cX1_begin_0 := by unfold zrW; decide +kernel
theorem dX1_begin_0 : decode cX1_begin 0 = .ok (.aload_n 1, 1) := zrD zrw_cX1_begin_0 (i := 0) (by decide +kernel) rfl
theorem dX1_begin_1 : decode cX1_begin 1 = .ok (.getfield 31, 3) := zrD zrw_cX1_begin_0 (i := 1) (by decide +kernel) rfl
theorem dX1_begin_4 : decode cX1_begin 4 = .ok (.iconst 0, 1) := zrD zrw_cX1_begin_0 (i := 4) (by decide +kernel) rfl
theorem dX1_begin_5 : decode cX1_begin 5 = .ok (.aload_n 0, 1) := zrD zrw_cX1_begin_0 (i := 5) (by decide +kernel) rfl
theorem dX1_begin_6 : decode cX1_begin 6 = .ok (.getfield 9, 3) := zrD zrw_cX1_begin_0 (i := 6) (by decide +kernel) rfl
theorem dX1_begin_9 : decode cX1_begin 9 = .ok (.iconst 0, 1) := zrD zrw_cX1_begin_0 (i := 9) (by decide +kernel) rfl
theorem dX1_begin_10 : decode cX1_begin 10 = .ok (.bipush 12, 2) := zrD zrw_cX1_begin_0 (i := 10) (by decide +kernel) rfl
theorem dX1_begin_12 : decode cX1_begin 12 = .ok (.invokestatic 34, 3) := zrD zrw_cX1_begin_0 (i := 12) (by decide +kernel) rfl
theorem dX1_begin_15 : decode cX1_begin 15 = .ok (.aload_n 0, 1) := zrD zrw_cX1_begin_0 (i := 15) (by decide +kernel) rfl
theorem dX1_begin_16 : decode cX1_begin 16 = .ok (.getfield 15, 3) := zrD zrw_cX1_begin_0 (i := 16) (by decide +kernel) rfl
theorem dX1_begin_19 : decode cX1_begin 19 = .ok (.iconst 0, 1) := zrD zrw_cX1_begin_0 (i := 19) (by decide +kernel) rfl
theorem dX1_begin_20 : decode cX1_begin 20 = .ok (.invokestatic 40, 3) := zrD zrw_cX1_begin_0 (i := 20) (by decide +kernel) rfl
theorem dX1_begin_23 : decode cX1_begin 23 = .ok (.aload_n 0, 1) := zrD zrw_cX1_begin_0 (i := 23) (by decide +kernel) rfl
theorem dX1_begin_24 : decode cX1_begin 24 = .ok (.getfield 18, 3) := zrD zrw_cX1_begin_0 (i := 24) (by decide +kernel) rfl
theorem dX1_begin_27 : decode cX1_begin 27 = .ok (.iconst 0, 1) := zrD zrw_cX1_begin_0 (i := 27) (by decide +kernel) rfl
theorem dX1_begin_28 : decode cX1_begin 28 = .ok (.invokestatic 40, 3) := zrD zrw_cX1_begin_0 (i := 28) (by decide +kernel) rfl
theorem dX1_begin_31 : decode cX1_begin 31 = .ok (.aload_n 0, 1) := zrD zrw_cX1_begin_0 (i := 31) (by decide +kernel) rfl
def zrk_cX1_begin_32 : ByteArray := .mk #[3, 181, 0, 21, 42, 3, 181, 0, 25, 42, 3, 181, 0, 28, 177]
theorem zrw_cX1_begin_32 : zrW 32 cX1_begin zrk_cX1_begin_32 := by unfold zrW; decide +kernel
theorem dX1_begin_32 : decode cX1_begin 32 = .ok (.iconst 0, 1) := zrD zrw_cX1_begin_32 (i := 0) (by decide +kernel) rfl
theorem dX1_begin_33 : decode cX1_begin 33 = .ok (.putfield 21, 3) := zrD zrw_cX1_begin_32 (i := 1) (by decide +kernel) rfl
theorem dX1_begin_36 : decode cX1_begin 36 = .ok (.aload_n 0, 1) := zrD zrw_cX1_begin_32 (i := 4) (by decide +kernel) rfl
theorem dX1_begin_37 : decode cX1_begin 37 = .ok (.iconst 0, 1) := zrD zrw_cX1_begin_32 (i := 5) (by decide +kernel) rfl
theorem dX1_begin_38 : decode cX1_begin 38 = .ok (.putfield 25, 3) := zrD zrw_cX1_begin_32 (i := 6) (by decide +kernel) rfl
theorem dX1_begin_41 : decode cX1_begin 41 = .ok (.aload_n 0, 1) := zrD zrw_cX1_begin_32 (i := 9) (by decide +kernel) rfl
theorem dX1_begin_42 : decode cX1_begin 42 = .ok (.iconst 0, 1) := zrD zrw_cX1_begin_32 (i := 10) (by decide +kernel) rfl
theorem dX1_begin_43 : decode cX1_begin 43 = .ok (.putfield 28, 3) := zrD zrw_cX1_begin_32 (i := 11) (by decide +kernel) rfl
theorem dX1_begin_46 : decode cX1_begin 46 = .ok (.return_, 1) := zrD zrw_cX1_begin_32 (i := 14) (by decide +kernel) rfl
def zrk_cX1_copy_0 : ByteArray := .mk #[43, 180, 0, 9, 3, 42, 180, 0, 9, 3, 16, 12, 184, 0, 34, 43, 180, 0, 15, 3, 42, 180, 0, 15, 3, 16, 12, 184, 0, 34, 43]
theorem zrw_cX1_copy_0 : zrW 0 cX1_copy zrk_cX1_copy_0 := by unfold zrW; decide +kernel
theorem dX1_copy_0 : decode cX1_copy 0 = .ok (.aload_n 1, 1) := zrD zrw_cX1_copy_0 (i := 0) (by decide +kernel) rfl
theorem dX1_copy_1 : decode cX1_copy 1 = .ok (.getfield 9, 3) := zrD zrw_cX1_copy_0 (i := 1) (by decide +kernel) rfl
theorem dX1_copy_4 : decode cX1_copy 4 = .ok (.iconst 0, 1) := zrD zrw_cX1_copy_0 (i := 4) (by decide +kernel) rfl
theorem dX1_copy_5 : decode cX1_copy 5 = .ok (.aload_n 0, 1) := zrD zrw_cX1_copy_0 (i := 5) (by decide +kernel) rfl
theorem dX1_copy_6 : decode cX1_copy 6 = .ok (.getfield 9, 3) := zrD zrw_cX1_copy_0 (i := 6) (by decide +kernel) rfl
theorem dX1_copy_9 : decode cX1_copy 9 = .ok (.iconst 0, 1) := zrD zrw_cX1_copy_0 (i := 9) (by decide +kernel) rfl
theorem dX1_copy_10 : decode cX1_copy 10 = .ok (.bipush 12, 2) := zrD zrw_cX1_copy_0 (i := 10) (by decide +kernel) rfl
theorem dX1_copy_12 : decode cX1_copy 12 = .ok (.invokestatic 34, 3) := zrD zrw_cX1_copy_0 (i := 12) (by decide +kernel) rfl
theorem dX1_copy_15 : decode cX1_copy 15 = .ok (.aload_n 1, 1) := zrD zrw_cX1_copy_0 (i := 15) (by decide +kernel) rfl
theorem dX1_copy_16 : decode cX1_copy 16 = .ok (.getfield 15, 3) := zrD zrw_cX1_copy_0 (i := 16) (by decide +kernel) rfl
theorem dX1_copy_19 : decode cX1_copy 19 = .ok (.iconst 0, 1) := zrD zrw_cX1_copy_0 (i := 19) (by decide +kernel) rfl
theorem dX1_copy_20 : decode cX1_copy 20 = .ok (.aload_n 0, 1) := zrD zrw_cX1_copy_0 (i := 20) (by decide +kernel) rfl
theorem dX1_copy_21 : decode cX1_copy 21 = .ok (.getfield 15, 3) := zrD zrw_cX1_copy_0 (i := 21) (by decide +kernel) rfl
theorem dX1_copy_24 : decode cX1_copy 24 = .ok (.iconst 0, 1) := zrD zrw_cX1_copy_0 (i := 24) (by decide +kernel) rfl
theorem dX1_copy_25 : decode cX1_copy 25 = .ok (.bipush 12, 2) := zrD zrw_cX1_copy_0 (i := 25) (by decide +kernel) rfl
theorem dX1_copy_27 : decode cX1_copy 27 = .ok (.invokestatic 34, 3) := zrD zrw_cX1_copy_0 (i := 27) (by decide +kernel) rfl
theorem dX1_copy_30 : decode cX1_copy 30 = .ok (.aload_n 1, 1) := zrD zrw_cX1_copy_0 (i := 30) (by decide +kernel) rfl
def zrk_cX1_copy_31 : ByteArray := .mk #[180, 0, 18, 3, 42, 180, 0, 18, 3, 16, 12, 184, 0, 34, 42, 43, 180, 0, 21, 181, 0, 21, 42, 43, 180, 0, 25, 181, 0, 25, 42, 43]
theorem zrw_cX1_copy_31 : zrW 31 cX1_copy zrk_cX1_copy_31 := by unfold zrW; decide +kernel
theorem dX1_copy_31 : decode cX1_copy 31 = .ok (.getfield 18, 3) := zrD zrw_cX1_copy_31 (i := 0) (by decide +kernel) rfl
theorem dX1_copy_34 : decode cX1_copy 34 = .ok (.iconst 0, 1) := zrD zrw_cX1_copy_31 (i := 3) (by decide +kernel) rfl
theorem dX1_copy_35 : decode cX1_copy 35 = .ok (.aload_n 0, 1) := zrD zrw_cX1_copy_31 (i := 4) (by decide +kernel) rfl
theorem dX1_copy_36 : decode cX1_copy 36 = .ok (.getfield 18, 3) := zrD zrw_cX1_copy_31 (i := 5) (by decide +kernel) rfl
theorem dX1_copy_39 : decode cX1_copy 39 = .ok (.iconst 0, 1) := zrD zrw_cX1_copy_31 (i := 8) (by decide +kernel) rfl
theorem dX1_copy_40 : decode cX1_copy 40 = .ok (.bipush 12, 2) := zrD zrw_cX1_copy_31 (i := 9) (by decide +kernel) rfl
theorem dX1_copy_42 : decode cX1_copy 42 = .ok (.invokestatic 34, 3) := zrD zrw_cX1_copy_31 (i := 11) (by decide +kernel) rfl
theorem dX1_copy_45 : decode cX1_copy 45 = .ok (.aload_n 0, 1) := zrD zrw_cX1_copy_31 (i := 14) (by decide +kernel) rfl
theorem dX1_copy_46 : decode cX1_copy 46 = .ok (.aload_n 1, 1) := zrD zrw_cX1_copy_31 (i := 15) (by decide +kernel) rfl
theorem dX1_copy_47 : decode cX1_copy 47 = .ok (.getfield 21, 3) := zrD zrw_cX1_copy_31 (i := 16) (by decide +kernel) rfl
theorem dX1_copy_50 : decode cX1_copy 50 = .ok (.putfield 21, 3) := zrD zrw_cX1_copy_31 (i := 19) (by decide +kernel) rfl
theorem dX1_copy_53 : decode cX1_copy 53 = .ok (.aload_n 0, 1) := zrD zrw_cX1_copy_31 (i := 22) (by decide +kernel) rfl
theorem dX1_copy_54 : decode cX1_copy 54 = .ok (.aload_n 1, 1) := zrD zrw_cX1_copy_31 (i := 23) (by decide +kernel) rfl
theorem dX1_copy_55 : decode cX1_copy 55 = .ok (.getfield 25, 3) := zrD zrw_cX1_copy_31 (i := 24) (by decide +kernel) rfl
theorem dX1_copy_58 : decode cX1_copy 58 = .ok (.putfield 25, 3) := zrD zrw_cX1_copy_31 (i := 27) (by decide +kernel) rfl
theorem dX1_copy_61 : decode cX1_copy 61 = .ok (.aload_n 0, 1) := zrD zrw_cX1_copy_31 (i := 30) (by decide +kernel) rfl
theorem dX1_copy_62 : decode cX1_copy 62 = .ok (.aload_n 1, 1) := zrD zrw_cX1_copy_31 (i := 31) (by decide +kernel) rfl
def zrk_cX1_copy_63 : ByteArray := .mk #[180, 0, 28, 181, 0, 28, 177]
theorem zrw_cX1_copy_63 : zrW 63 cX1_copy zrk_cX1_copy_63 := by unfold zrW; decide +kernel
theorem dX1_copy_63 : decode cX1_copy 63 = .ok (.getfield 28, 3) := zrD zrw_cX1_copy_63 (i := 0) (by decide +kernel) rfl
theorem dX1_copy_66 : decode cX1_copy 66 = .ok (.putfield 28, 3) := zrD zrw_cX1_copy_63 (i := 3) (by decide +kernel) rfl
theorem dX1_copy_69 : decode cX1_copy 69 = .ok (.return_, 1) := zrD zrw_cX1_copy_63 (i := 6) (by decide +kernel) rfl
def zrk_cX1_moon_0 : ByteArray := .mk #[42, 180, 0, 25, 16, 12, 112, 172]
theorem zrw_cX1_moon_0 : zrW 0 cX1_moon zrk_cX1_moon_0 := by unfold zrW; decide +kernel
theorem dX1_moon_0 : decode cX1_moon 0 = .ok (.aload_n 0, 1) := zrD zrw_cX1_moon_0 (i := 0) (by decide +kernel) rfl
theorem dX1_moon_1 : decode cX1_moon 1 = .ok (.getfield 25, 3) := zrD zrw_cX1_moon_0 (i := 1) (by decide +kernel) rfl
theorem dX1_moon_4 : decode cX1_moon 4 = .ok (.bipush 12, 2) := zrD zrw_cX1_moon_0 (i := 4) (by decide +kernel) rfl
theorem dX1_moon_6 : decode cX1_moon 6 = .ok (.irem, 1) := zrD zrw_cX1_moon_0 (i := 6) (by decide +kernel) rfl
theorem dX1_moon_7 : decode cX1_moon 7 = .ok (.ireturn, 1) := zrD zrw_cX1_moon_0 (i := 7) (by decide +kernel) rfl
def zrk_cX1_comesBy_0 : ByteArray := .mk #[27, 62, 3, 54, 4, 21, 4, 16, 12, 162, 0, 25, 29, 28, 159, 0, 20, 29, 153, 0, 16, 42, 180, 0, 9, 29, 46, 62, 132, 4, 1]
theorem zrw_cX1_comesBy_0 : zrW 0 cX1_comesBy zrk_cX1_comesBy_0 := by unfold zrW; decide +kernel
theorem dX1_comesBy_0 : decode cX1_comesBy 0 = .ok (.iload_n 1, 1) := zrD zrw_cX1_comesBy_0 (i := 0) (by decide +kernel) rfl
theorem dX1_comesBy_1 : decode cX1_comesBy 1 = .ok (.istore_n 3, 1) := zrD zrw_cX1_comesBy_0 (i := 1) (by decide +kernel) rfl
theorem dX1_comesBy_2 : decode cX1_comesBy 2 = .ok (.iconst 0, 1) := zrD zrw_cX1_comesBy_0 (i := 2) (by decide +kernel) rfl
theorem dX1_comesBy_3 : decode cX1_comesBy 3 = .ok (.istore 4, 2) := zrD zrw_cX1_comesBy_0 (i := 3) (by decide +kernel) rfl
theorem dX1_comesBy_5 : decode cX1_comesBy 5 = .ok (.iload 4, 2) := zrD zrw_cX1_comesBy_0 (i := 5) (by decide +kernel) rfl
theorem dX1_comesBy_7 : decode cX1_comesBy 7 = .ok (.bipush 12, 2) := zrD zrw_cX1_comesBy_0 (i := 7) (by decide +kernel) rfl
theorem dX1_comesBy_9 : decode cX1_comesBy 9 = .ok (.if_icmp .ge 25, 3) := zrD zrw_cX1_comesBy_0 (i := 9) (by decide +kernel) rfl
theorem dX1_comesBy_12 : decode cX1_comesBy 12 = .ok (.iload_n 3, 1) := zrD zrw_cX1_comesBy_0 (i := 12) (by decide +kernel) rfl
theorem dX1_comesBy_13 : decode cX1_comesBy 13 = .ok (.iload_n 2, 1) := zrD zrw_cX1_comesBy_0 (i := 13) (by decide +kernel) rfl
theorem dX1_comesBy_14 : decode cX1_comesBy 14 = .ok (.if_icmp .eq 20, 3) := zrD zrw_cX1_comesBy_0 (i := 14) (by decide +kernel) rfl
theorem dX1_comesBy_17 : decode cX1_comesBy 17 = .ok (.iload_n 3, 1) := zrD zrw_cX1_comesBy_0 (i := 17) (by decide +kernel) rfl
theorem dX1_comesBy_18 : decode cX1_comesBy 18 = .ok (.ifCond .eq 16, 3) := zrD zrw_cX1_comesBy_0 (i := 18) (by decide +kernel) rfl
theorem dX1_comesBy_21 : decode cX1_comesBy 21 = .ok (.aload_n 0, 1) := zrD zrw_cX1_comesBy_0 (i := 21) (by decide +kernel) rfl
theorem dX1_comesBy_22 : decode cX1_comesBy 22 = .ok (.getfield 9, 3) := zrD zrw_cX1_comesBy_0 (i := 22) (by decide +kernel) rfl
theorem dX1_comesBy_25 : decode cX1_comesBy 25 = .ok (.iload_n 3, 1) := zrD zrw_cX1_comesBy_0 (i := 25) (by decide +kernel) rfl
theorem dX1_comesBy_26 : decode cX1_comesBy 26 = .ok (.iaload, 1) := zrD zrw_cX1_comesBy_0 (i := 26) (by decide +kernel) rfl
theorem dX1_comesBy_27 : decode cX1_comesBy 27 = .ok (.istore_n 3, 1) := zrD zrw_cX1_comesBy_0 (i := 27) (by decide +kernel) rfl
theorem dX1_comesBy_28 : decode cX1_comesBy 28 = .ok (.iinc 4 1, 3) := zrD zrw_cX1_comesBy_0 (i := 28) (by decide +kernel) rfl
def zrk_cX1_comesBy_31 : ByteArray := .mk #[167, 255, 230, 29, 28, 160, 0, 7, 4, 167, 0, 4, 3, 172]
theorem zrw_cX1_comesBy_31 : zrW 31 cX1_comesBy zrk_cX1_comesBy_31 := by unfold zrW; decide +kernel
theorem dX1_comesBy_31 : decode cX1_comesBy 31 = .ok (.goto (-26), 3) := zrD zrw_cX1_comesBy_31 (i := 0) (by decide +kernel) rfl
theorem dX1_comesBy_34 : decode cX1_comesBy 34 = .ok (.iload_n 3, 1) := zrD zrw_cX1_comesBy_31 (i := 3) (by decide +kernel) rfl
theorem dX1_comesBy_35 : decode cX1_comesBy 35 = .ok (.iload_n 2, 1) := zrD zrw_cX1_comesBy_31 (i := 4) (by decide +kernel) rfl
theorem dX1_comesBy_36 : decode cX1_comesBy 36 = .ok (.if_icmp .ne 7, 3) := zrD zrw_cX1_comesBy_31 (i := 5) (by decide +kernel) rfl
theorem dX1_comesBy_39 : decode cX1_comesBy 39 = .ok (.iconst 1, 1) := zrD zrw_cX1_comesBy_31 (i := 8) (by decide +kernel) rfl
theorem dX1_comesBy_40 : decode cX1_comesBy 40 = .ok (.goto 4, 3) := zrD zrw_cX1_comesBy_31 (i := 9) (by decide +kernel) rfl
theorem dX1_comesBy_43 : decode cX1_comesBy 43 = .ok (.iconst 0, 1) := zrD zrw_cX1_comesBy_31 (i := 12) (by decide +kernel) rfl
theorem dX1_comesBy_44 : decode cX1_comesBy 44 = .ok (.ireturn, 1) := zrD zrw_cX1_comesBy_31 (i := 13) (by decide +kernel) rfl
def zrk_cX1_pay_0 : ByteArray := .mk #[42, 180, 0, 18, 27, 92, 46, 28, 96, 79, 42, 180, 0, 15, 27, 17, 3, 231, 42, 180, 0, 15, 27, 46, 4, 96, 184, 0, 46, 79, 177]
theorem zrw_cX1_pay_0 : zrW 0 cX1_pay zrk_cX1_pay_0 := by unfold zrW; decide +kernel
theorem dX1_pay_0 : decode cX1_pay 0 = .ok (.aload_n 0, 1) := zrD zrw_cX1_pay_0 (i := 0) (by decide +kernel) rfl
theorem dX1_pay_1 : decode cX1_pay 1 = .ok (.getfield 18, 3) := zrD zrw_cX1_pay_0 (i := 1) (by decide +kernel) rfl
theorem dX1_pay_4 : decode cX1_pay 4 = .ok (.iload_n 1, 1) := zrD zrw_cX1_pay_0 (i := 4) (by decide +kernel) rfl
theorem dX1_pay_5 : decode cX1_pay 5 = .ok (.dup2, 1) := zrD zrw_cX1_pay_0 (i := 5) (by decide +kernel) rfl
theorem dX1_pay_6 : decode cX1_pay 6 = .ok (.iaload, 1) := zrD zrw_cX1_pay_0 (i := 6) (by decide +kernel) rfl
theorem dX1_pay_7 : decode cX1_pay 7 = .ok (.iload_n 2, 1) := zrD zrw_cX1_pay_0 (i := 7) (by decide +kernel) rfl
theorem dX1_pay_8 : decode cX1_pay 8 = .ok (.iadd, 1) := zrD zrw_cX1_pay_0 (i := 8) (by decide +kernel) rfl
theorem dX1_pay_9 : decode cX1_pay 9 = .ok (.iastore, 1) := zrD zrw_cX1_pay_0 (i := 9) (by decide +kernel) rfl
theorem dX1_pay_10 : decode cX1_pay 10 = .ok (.aload_n 0, 1) := zrD zrw_cX1_pay_0 (i := 10) (by decide +kernel) rfl
theorem dX1_pay_11 : decode cX1_pay 11 = .ok (.getfield 15, 3) := zrD zrw_cX1_pay_0 (i := 11) (by decide +kernel) rfl
theorem dX1_pay_14 : decode cX1_pay 14 = .ok (.iload_n 1, 1) := zrD zrw_cX1_pay_0 (i := 14) (by decide +kernel) rfl
theorem dX1_pay_15 : decode cX1_pay 15 = .ok (.sipush 999, 3) := zrD zrw_cX1_pay_0 (i := 15) (by decide +kernel) rfl
theorem dX1_pay_18 : decode cX1_pay 18 = .ok (.aload_n 0, 1) := zrD zrw_cX1_pay_0 (i := 18) (by decide +kernel) rfl
theorem dX1_pay_19 : decode cX1_pay 19 = .ok (.getfield 15, 3) := zrD zrw_cX1_pay_0 (i := 19) (by decide +kernel) rfl
theorem dX1_pay_22 : decode cX1_pay 22 = .ok (.iload_n 1, 1) := zrD zrw_cX1_pay_0 (i := 22) (by decide +kernel) rfl
theorem dX1_pay_23 : decode cX1_pay 23 = .ok (.iaload, 1) := zrD zrw_cX1_pay_0 (i := 23) (by decide +kernel) rfl
theorem dX1_pay_24 : decode cX1_pay 24 = .ok (.iconst 1, 1) := zrD zrw_cX1_pay_0 (i := 24) (by decide +kernel) rfl
theorem dX1_pay_25 : decode cX1_pay 25 = .ok (.iadd, 1) := zrD zrw_cX1_pay_0 (i := 25) (by decide +kernel) rfl
theorem dX1_pay_26 : decode cX1_pay 26 = .ok (.invokestatic 46, 3) := zrD zrw_cX1_pay_0 (i := 26) (by decide +kernel) rfl
theorem dX1_pay_29 : decode cX1_pay 29 = .ok (.iastore, 1) := zrD zrw_cX1_pay_0 (i := 29) (by decide +kernel) rfl
theorem dX1_pay_30 : decode cX1_pay 30 = .ok (.return_, 1) := zrD zrw_cX1_pay_0 (i := 30) (by decide +kernel) rfl
def zrk_cX2_init_0 : ByteArray := .mk #[42, 183, 0, 3, 42, 16, 20]
theorem zrw_cX2_init_0 : zrW 0 cX2_init zrk_cX2_init_0 := by unfold zrW; decide +kernel
theorem dX2_init_0 : decode cX2_init 0 = .ok (.aload_n 0, 1) := zrD zrw_cX2_init_0 (i := 0) (by decide +kernel) rfl
theorem dX2_init_1 : decode cX2_init 1 = .ok (.invokespecial 3, 3) := zrD zrw_cX2_init_0 (i := 1) (by decide +kernel) rfl
theorem dX2_init_4 : decode cX2_init 4 = .ok (.aload_n 0, 1) := zrD zrw_cX2_init_0 (i := 4) (by decide +kernel) rfl
theorem dX2_init_5 : decode cX2_init 5 = .ok (.bipush 20, 2) := zrD zrw_cX2_init_0 (i := 5) (by decide +kernel) rfl
theorem dX2_init_7 : decode cX2_init 7 = .ok (.newarray .int, 2) := by decide +kernel
def zrk_cX2_init_9 : ByteArray := .mk #[181, 0, 11, 42, 16, 20]
theorem zrw_cX2_init_9 : zrW 9 cX2_init zrk_cX2_init_9 := by unfold zrW; decide +kernel
theorem dX2_init_9 : decode cX2_init 9 = .ok (.putfield 11, 3) := zrD zrw_cX2_init_9 (i := 0) (by decide +kernel) rfl
theorem dX2_init_12 : decode cX2_init 12 = .ok (.aload_n 0, 1) := zrD zrw_cX2_init_9 (i := 3) (by decide +kernel) rfl
theorem dX2_init_13 : decode cX2_init 13 = .ok (.bipush 20, 2) := zrD zrw_cX2_init_9 (i := 4) (by decide +kernel) rfl
theorem dX2_init_15 : decode cX2_init 15 = .ok (.newarray .int, 2) := by decide +kernel
def zrk_cX2_init_17 : ByteArray := .mk #[181, 0, 15, 42, 16, 20]
theorem zrw_cX2_init_17 : zrW 17 cX2_init zrk_cX2_init_17 := by unfold zrW; decide +kernel
theorem dX2_init_17 : decode cX2_init 17 = .ok (.putfield 15, 3) := zrD zrw_cX2_init_17 (i := 0) (by decide +kernel) rfl
theorem dX2_init_20 : decode cX2_init 20 = .ok (.aload_n 0, 1) := zrD zrw_cX2_init_17 (i := 3) (by decide +kernel) rfl
theorem dX2_init_21 : decode cX2_init 21 = .ok (.bipush 20, 2) := zrD zrw_cX2_init_17 (i := 4) (by decide +kernel) rfl
theorem dX2_init_23 : decode cX2_init 23 = .ok (.newarray .int, 2) := by decide +kernel
def zrk_cX2_init_25 : ByteArray := .mk #[181, 0, 18, 42, 16, 20]
theorem zrw_cX2_init_25 : zrW 25 cX2_init zrk_cX2_init_25 := by unfold zrW; decide +kernel
theorem dX2_init_25 : decode cX2_init 25 = .ok (.putfield 18, 3) := zrD zrw_cX2_init_25 (i := 0) (by decide +kernel) rfl
theorem dX2_init_28 : decode cX2_init 28 = .ok (.aload_n 0, 1) := zrD zrw_cX2_init_25 (i := 3) (by decide +kernel) rfl
theorem dX2_init_29 : decode cX2_init 29 = .ok (.bipush 20, 2) := zrD zrw_cX2_init_25 (i := 4) (by decide +kernel) rfl
theorem dX2_init_31 : decode cX2_init 31 = .ok (.newarray .boolean, 2) := by decide +kernel
def zrk_cX2_init_33 : ByteArray := .mk #[181, 0, 21, 42, 3, 181, 0, 25, 177]
theorem zrw_cX2_init_33 : zrW 33 cX2_init zrk_cX2_init_33 := by unfold zrW; decide +kernel
theorem dX2_init_33 : decode cX2_init 33 = .ok (.putfield 21, 3) := zrD zrw_cX2_init_33 (i := 0) (by decide +kernel) rfl
theorem dX2_init_36 : decode cX2_init 36 = .ok (.aload_n 0, 1) := zrD zrw_cX2_init_33 (i := 3) (by decide +kernel) rfl
theorem dX2_init_37 : decode cX2_init 37 = .ok (.iconst 0, 1) := zrD zrw_cX2_init_33 (i := 4) (by decide +kernel) rfl
theorem dX2_init_38 : decode cX2_init 38 = .ok (.putfield 25, 3) := zrD zrw_cX2_init_33 (i := 5) (by decide +kernel) rfl
theorem dX2_init_41 : decode cX2_init 41 = .ok (.return_, 1) := zrD zrw_cX2_init_33 (i := 8) (by decide +kernel) rfl
def zrk_cX2_add_0 : ByteArray := .mk #[42, 180, 0, 25, 16, 20, 161, 0, 5, 2, 172, 42, 180, 0, 11, 42, 180, 0, 25, 27, 79, 42, 180, 0, 15, 42, 180, 0, 25, 28, 79, 42]
theorem zrw_cX2_add_0 : zrW 0 cX2_add zrk_cX2_add_0 := by unfold zrW; decide +kernel
theorem dX2_add_0 : decode cX2_add 0 = .ok (.aload_n 0, 1) := zrD zrw_cX2_add_0 (i := 0) (by decide +kernel) rfl
theorem dX2_add_1 : decode cX2_add 1 = .ok (.getfield 25, 3) := zrD zrw_cX2_add_0 (i := 1) (by decide +kernel) rfl
theorem dX2_add_4 : decode cX2_add 4 = .ok (.bipush 20, 2) := zrD zrw_cX2_add_0 (i := 4) (by decide +kernel) rfl
theorem dX2_add_6 : decode cX2_add 6 = .ok (.if_icmp .lt 5, 3) := zrD zrw_cX2_add_0 (i := 6) (by decide +kernel) rfl
theorem dX2_add_9 : decode cX2_add 9 = .ok (.iconst (-1), 1) := zrD zrw_cX2_add_0 (i := 9) (by decide +kernel) rfl
theorem dX2_add_10 : decode cX2_add 10 = .ok (.ireturn, 1) := zrD zrw_cX2_add_0 (i := 10) (by decide +kernel) rfl
theorem dX2_add_11 : decode cX2_add 11 = .ok (.aload_n 0, 1) := zrD zrw_cX2_add_0 (i := 11) (by decide +kernel) rfl
theorem dX2_add_12 : decode cX2_add 12 = .ok (.getfield 11, 3) := zrD zrw_cX2_add_0 (i := 12) (by decide +kernel) rfl
theorem dX2_add_15 : decode cX2_add 15 = .ok (.aload_n 0, 1) := zrD zrw_cX2_add_0 (i := 15) (by decide +kernel) rfl
theorem dX2_add_16 : decode cX2_add 16 = .ok (.getfield 25, 3) := zrD zrw_cX2_add_0 (i := 16) (by decide +kernel) rfl
theorem dX2_add_19 : decode cX2_add 19 = .ok (.iload_n 1, 1) := zrD zrw_cX2_add_0 (i := 19) (by decide +kernel) rfl
theorem dX2_add_20 : decode cX2_add 20 = .ok (.iastore, 1) := zrD zrw_cX2_add_0 (i := 20) (by decide +kernel) rfl
theorem dX2_add_21 : decode cX2_add 21 = .ok (.aload_n 0, 1) := zrD zrw_cX2_add_0 (i := 21) (by decide +kernel) rfl
theorem dX2_add_22 : decode cX2_add 22 = .ok (.getfield 15, 3) := zrD zrw_cX2_add_0 (i := 22) (by decide +kernel) rfl
theorem dX2_add_25 : decode cX2_add 25 = .ok (.aload_n 0, 1) := zrD zrw_cX2_add_0 (i := 25) (by decide +kernel) rfl
theorem dX2_add_26 : decode cX2_add 26 = .ok (.getfield 25, 3) := zrD zrw_cX2_add_0 (i := 26) (by decide +kernel) rfl
theorem dX2_add_29 : decode cX2_add 29 = .ok (.iload_n 2, 1) := zrD zrw_cX2_add_0 (i := 29) (by decide +kernel) rfl
theorem dX2_add_30 : decode cX2_add 30 = .ok (.iastore, 1) := zrD zrw_cX2_add_0 (i := 30) (by decide +kernel) rfl
theorem dX2_add_31 : decode cX2_add 31 = .ok (.aload_n 0, 1) := zrD zrw_cX2_add_0 (i := 31) (by decide +kernel) rfl
def zrk_cX2_add_32 : ByteArray := .mk #[180, 0, 18, 42, 180, 0, 25, 29, 79, 42, 180, 0, 21, 42, 180, 0, 25, 21, 4, 84, 42, 89, 180, 0, 25, 4, 96, 181, 0, 25, 42]
theorem zrw_cX2_add_32 : zrW 32 cX2_add zrk_cX2_add_32 := by unfold zrW; decide +kernel
theorem dX2_add_32 : decode cX2_add 32 = .ok (.getfield 18, 3) := zrD zrw_cX2_add_32 (i := 0) (by decide +kernel) rfl
theorem dX2_add_35 : decode cX2_add 35 = .ok (.aload_n 0, 1) := zrD zrw_cX2_add_32 (i := 3) (by decide +kernel) rfl
theorem dX2_add_36 : decode cX2_add 36 = .ok (.getfield 25, 3) := zrD zrw_cX2_add_32 (i := 4) (by decide +kernel) rfl
theorem dX2_add_39 : decode cX2_add 39 = .ok (.iload_n 3, 1) := zrD zrw_cX2_add_32 (i := 7) (by decide +kernel) rfl
theorem dX2_add_40 : decode cX2_add 40 = .ok (.iastore, 1) := zrD zrw_cX2_add_32 (i := 8) (by decide +kernel) rfl
theorem dX2_add_41 : decode cX2_add 41 = .ok (.aload_n 0, 1) := zrD zrw_cX2_add_32 (i := 9) (by decide +kernel) rfl
theorem dX2_add_42 : decode cX2_add 42 = .ok (.getfield 21, 3) := zrD zrw_cX2_add_32 (i := 10) (by decide +kernel) rfl
theorem dX2_add_45 : decode cX2_add 45 = .ok (.aload_n 0, 1) := zrD zrw_cX2_add_32 (i := 13) (by decide +kernel) rfl
theorem dX2_add_46 : decode cX2_add 46 = .ok (.getfield 25, 3) := zrD zrw_cX2_add_32 (i := 14) (by decide +kernel) rfl
theorem dX2_add_49 : decode cX2_add 49 = .ok (.iload 4, 2) := zrD zrw_cX2_add_32 (i := 17) (by decide +kernel) rfl
theorem dX2_add_51 : decode cX2_add 51 = .ok (.bastore, 1) := zrD zrw_cX2_add_32 (i := 19) (by decide +kernel) rfl
theorem dX2_add_52 : decode cX2_add 52 = .ok (.aload_n 0, 1) := zrD zrw_cX2_add_32 (i := 20) (by decide +kernel) rfl
theorem dX2_add_53 : decode cX2_add 53 = .ok (.dup, 1) := zrD zrw_cX2_add_32 (i := 21) (by decide +kernel) rfl
theorem dX2_add_54 : decode cX2_add 54 = .ok (.getfield 25, 3) := zrD zrw_cX2_add_32 (i := 22) (by decide +kernel) rfl
theorem dX2_add_57 : decode cX2_add 57 = .ok (.iconst 1, 1) := zrD zrw_cX2_add_32 (i := 25) (by decide +kernel) rfl
theorem dX2_add_58 : decode cX2_add 58 = .ok (.iadd, 1) := zrD zrw_cX2_add_32 (i := 26) (by decide +kernel) rfl
theorem dX2_add_59 : decode cX2_add 59 = .ok (.putfield 25, 3) := zrD zrw_cX2_add_32 (i := 27) (by decide +kernel) rfl
theorem dX2_add_62 : decode cX2_add 62 = .ok (.aload_n 0, 1) := zrD zrw_cX2_add_32 (i := 30) (by decide +kernel) rfl
def zrk_cX2_add_63 : ByteArray := .mk #[180, 0, 25, 4, 100, 172]
theorem zrw_cX2_add_63 : zrW 63 cX2_add zrk_cX2_add_63 := by unfold zrW; decide +kernel
theorem dX2_add_63 : decode cX2_add 63 = .ok (.getfield 25, 3) := zrD zrw_cX2_add_63 (i := 0) (by decide +kernel) rfl
theorem dX2_add_66 : decode cX2_add 66 = .ok (.iconst 1, 1) := zrD zrw_cX2_add_63 (i := 3) (by decide +kernel) rfl
theorem dX2_add_67 : decode cX2_add 67 = .ok (.isub, 1) := zrD zrw_cX2_add_63 (i := 4) (by decide +kernel) rfl
theorem dX2_add_68 : decode cX2_add 68 = .ok (.ireturn, 1) := zrD zrw_cX2_add_63 (i := 5) (by decide +kernel) rfl
def zrk_cX2_left_0 : ByteArray := .mk #[3, 62, 4, 54, 4, 21, 4, 43, 180, 0, 29, 162, 0, 37, 43, 21, 4, 182, 0, 34, 153, 0, 22, 42, 43, 21, 4, 28, 182, 0, 38]
theorem zrw_cX2_left_0 : zrW 0 cX2_left zrk_cX2_left_0 := by unfold zrW; decide +kernel
theorem dX2_left_0 : decode cX2_left 0 = .ok (.iconst 0, 1) := zrD zrw_cX2_left_0 (i := 0) (by decide +kernel) rfl
theorem dX2_left_1 : decode cX2_left 1 = .ok (.istore_n 3, 1) := zrD zrw_cX2_left_0 (i := 1) (by decide +kernel) rfl
theorem dX2_left_2 : decode cX2_left 2 = .ok (.iconst 1, 1) := zrD zrw_cX2_left_0 (i := 2) (by decide +kernel) rfl
theorem dX2_left_3 : decode cX2_left 3 = .ok (.istore 4, 2) := zrD zrw_cX2_left_0 (i := 3) (by decide +kernel) rfl
theorem dX2_left_5 : decode cX2_left 5 = .ok (.iload 4, 2) := zrD zrw_cX2_left_0 (i := 5) (by decide +kernel) rfl
theorem dX2_left_7 : decode cX2_left 7 = .ok (.aload_n 1, 1) := zrD zrw_cX2_left_0 (i := 7) (by decide +kernel) rfl
theorem dX2_left_8 : decode cX2_left 8 = .ok (.getfield 29, 3) := zrD zrw_cX2_left_0 (i := 8) (by decide +kernel) rfl
theorem dX2_left_11 : decode cX2_left 11 = .ok (.if_icmp .ge 37, 3) := zrD zrw_cX2_left_0 (i := 11) (by decide +kernel) rfl
theorem dX2_left_14 : decode cX2_left 14 = .ok (.aload_n 1, 1) := zrD zrw_cX2_left_0 (i := 14) (by decide +kernel) rfl
theorem dX2_left_15 : decode cX2_left 15 = .ok (.iload 4, 2) := zrD zrw_cX2_left_0 (i := 15) (by decide +kernel) rfl
theorem dX2_left_17 : decode cX2_left 17 = .ok (.invokevirtual 34, 3) := zrD zrw_cX2_left_0 (i := 17) (by decide +kernel) rfl
theorem dX2_left_20 : decode cX2_left 20 = .ok (.ifCond .eq 22, 3) := zrD zrw_cX2_left_0 (i := 20) (by decide +kernel) rfl
theorem dX2_left_23 : decode cX2_left 23 = .ok (.aload_n 0, 1) := zrD zrw_cX2_left_0 (i := 23) (by decide +kernel) rfl
theorem dX2_left_24 : decode cX2_left 24 = .ok (.aload_n 1, 1) := zrD zrw_cX2_left_0 (i := 24) (by decide +kernel) rfl
theorem dX2_left_25 : decode cX2_left 25 = .ok (.iload 4, 2) := zrD zrw_cX2_left_0 (i := 25) (by decide +kernel) rfl
theorem dX2_left_27 : decode cX2_left 27 = .ok (.iload_n 2, 1) := zrD zrw_cX2_left_0 (i := 27) (by decide +kernel) rfl
theorem dX2_left_28 : decode cX2_left 28 = .ok (.invokevirtual 38, 3) := zrD zrw_cX2_left_0 (i := 28) (by decide +kernel) rfl
def zrk_cX2_left_31 : ByteArray := .mk #[153, 0, 11, 29, 21, 4, 184, 0, 42, 128, 62, 132, 4, 1, 167, 255, 216, 29, 172]
theorem zrw_cX2_left_31 : zrW 31 cX2_left zrk_cX2_left_31 := by unfold zrW; decide +kernel
theorem dX2_left_31 : decode cX2_left 31 = .ok (.ifCond .eq 11, 3) := zrD zrw_cX2_left_31 (i := 0) (by decide +kernel) rfl
theorem dX2_left_34 : decode cX2_left 34 = .ok (.iload_n 3, 1) := zrD zrw_cX2_left_31 (i := 3) (by decide +kernel) rfl
theorem dX2_left_35 : decode cX2_left 35 = .ok (.iload 4, 2) := zrD zrw_cX2_left_31 (i := 4) (by decide +kernel) rfl
theorem dX2_left_37 : decode cX2_left 37 = .ok (.invokestatic 42, 3) := zrD zrw_cX2_left_31 (i := 6) (by decide +kernel) rfl
theorem dX2_left_40 : decode cX2_left 40 = .ok (.ior, 1) := zrD zrw_cX2_left_31 (i := 9) (by decide +kernel) rfl
theorem dX2_left_41 : decode cX2_left 41 = .ok (.istore_n 3, 1) := zrD zrw_cX2_left_31 (i := 10) (by decide +kernel) rfl
theorem dX2_left_42 : decode cX2_left 42 = .ok (.iinc 4 1, 3) := zrD zrw_cX2_left_31 (i := 11) (by decide +kernel) rfl
theorem dX2_left_45 : decode cX2_left 45 = .ok (.goto (-40), 3) := zrD zrw_cX2_left_31 (i := 14) (by decide +kernel) rfl
theorem dX2_left_48 : decode cX2_left 48 = .ok (.iload_n 3, 1) := zrD zrw_cX2_left_31 (i := 17) (by decide +kernel) rfl
theorem dX2_left_49 : decode cX2_left 49 = .ok (.ireturn, 1) := zrD zrw_cX2_left_31 (i := 18) (by decide +kernel) rfl
def zrk_cX2_isSo_0 : ByteArray := .mk #[4, 54, 4, 3, 54, 5, 21, 5, 29, 162, 0, 111, 21, 5, 42, 180, 0, 25, 162, 0, 102, 43, 180, 0, 46, 28, 46, 43, 180, 0, 46, 42]
theorem zrw_cX2_isSo_0 : zrW 0 cX2_isSo zrk_cX2_isSo_0 := by unfold zrW; decide +kernel
theorem dX2_isSo_0 : decode cX2_isSo 0 = .ok (.iconst 1, 1) := zrD zrw_cX2_isSo_0 (i := 0) (by decide +kernel) rfl
theorem dX2_isSo_1 : decode cX2_isSo 1 = .ok (.istore 4, 2) := zrD zrw_cX2_isSo_0 (i := 1) (by decide +kernel) rfl
theorem dX2_isSo_3 : decode cX2_isSo 3 = .ok (.iconst 0, 1) := zrD zrw_cX2_isSo_0 (i := 3) (by decide +kernel) rfl
theorem dX2_isSo_4 : decode cX2_isSo 4 = .ok (.istore 5, 2) := zrD zrw_cX2_isSo_0 (i := 4) (by decide +kernel) rfl
theorem dX2_isSo_6 : decode cX2_isSo 6 = .ok (.iload 5, 2) := zrD zrw_cX2_isSo_0 (i := 6) (by decide +kernel) rfl
theorem dX2_isSo_8 : decode cX2_isSo 8 = .ok (.iload_n 3, 1) := zrD zrw_cX2_isSo_0 (i := 8) (by decide +kernel) rfl
theorem dX2_isSo_9 : decode cX2_isSo 9 = .ok (.if_icmp .ge 111, 3) := zrD zrw_cX2_isSo_0 (i := 9) (by decide +kernel) rfl
theorem dX2_isSo_12 : decode cX2_isSo 12 = .ok (.iload 5, 2) := zrD zrw_cX2_isSo_0 (i := 12) (by decide +kernel) rfl
theorem dX2_isSo_14 : decode cX2_isSo 14 = .ok (.aload_n 0, 1) := zrD zrw_cX2_isSo_0 (i := 14) (by decide +kernel) rfl
theorem dX2_isSo_15 : decode cX2_isSo 15 = .ok (.getfield 25, 3) := zrD zrw_cX2_isSo_0 (i := 15) (by decide +kernel) rfl
theorem dX2_isSo_18 : decode cX2_isSo 18 = .ok (.if_icmp .ge 102, 3) := zrD zrw_cX2_isSo_0 (i := 18) (by decide +kernel) rfl
theorem dX2_isSo_21 : decode cX2_isSo 21 = .ok (.aload_n 1, 1) := zrD zrw_cX2_isSo_0 (i := 21) (by decide +kernel) rfl
theorem dX2_isSo_22 : decode cX2_isSo 22 = .ok (.getfield 46, 3) := zrD zrw_cX2_isSo_0 (i := 22) (by decide +kernel) rfl
theorem dX2_isSo_25 : decode cX2_isSo 25 = .ok (.iload_n 2, 1) := zrD zrw_cX2_isSo_0 (i := 25) (by decide +kernel) rfl
theorem dX2_isSo_26 : decode cX2_isSo 26 = .ok (.iaload, 1) := zrD zrw_cX2_isSo_0 (i := 26) (by decide +kernel) rfl
theorem dX2_isSo_27 : decode cX2_isSo 27 = .ok (.aload_n 1, 1) := zrD zrw_cX2_isSo_0 (i := 27) (by decide +kernel) rfl
theorem dX2_isSo_28 : decode cX2_isSo 28 = .ok (.getfield 46, 3) := zrD zrw_cX2_isSo_0 (i := 28) (by decide +kernel) rfl
theorem dX2_isSo_31 : decode cX2_isSo 31 = .ok (.aload_n 0, 1) := zrD zrw_cX2_isSo_0 (i := 31) (by decide +kernel) rfl
def zrk_cX2_isSo_32 : ByteArray := .mk #[180, 0, 11, 21, 5, 46, 46, 100, 54, 6, 43, 180, 0, 49, 28, 46, 42, 180, 0, 11, 21, 5, 46, 184, 0, 52, 153, 0, 29, 21, 6, 42]
theorem zrw_cX2_isSo_32 : zrW 32 cX2_isSo zrk_cX2_isSo_32 := by unfold zrW; decide +kernel
theorem dX2_isSo_32 : decode cX2_isSo 32 = .ok (.getfield 11, 3) := zrD zrw_cX2_isSo_32 (i := 0) (by decide +kernel) rfl
theorem dX2_isSo_35 : decode cX2_isSo 35 = .ok (.iload 5, 2) := zrD zrw_cX2_isSo_32 (i := 3) (by decide +kernel) rfl
theorem dX2_isSo_37 : decode cX2_isSo 37 = .ok (.iaload, 1) := zrD zrw_cX2_isSo_32 (i := 5) (by decide +kernel) rfl
theorem dX2_isSo_38 : decode cX2_isSo 38 = .ok (.iaload, 1) := zrD zrw_cX2_isSo_32 (i := 6) (by decide +kernel) rfl
theorem dX2_isSo_39 : decode cX2_isSo 39 = .ok (.isub, 1) := zrD zrw_cX2_isSo_32 (i := 7) (by decide +kernel) rfl
theorem dX2_isSo_40 : decode cX2_isSo 40 = .ok (.istore 6, 2) := zrD zrw_cX2_isSo_32 (i := 8) (by decide +kernel) rfl
theorem dX2_isSo_42 : decode cX2_isSo 42 = .ok (.aload_n 1, 1) := zrD zrw_cX2_isSo_32 (i := 10) (by decide +kernel) rfl
theorem dX2_isSo_43 : decode cX2_isSo 43 = .ok (.getfield 49, 3) := zrD zrw_cX2_isSo_32 (i := 11) (by decide +kernel) rfl
theorem dX2_isSo_46 : decode cX2_isSo 46 = .ok (.iload_n 2, 1) := zrD zrw_cX2_isSo_32 (i := 14) (by decide +kernel) rfl
theorem dX2_isSo_47 : decode cX2_isSo 47 = .ok (.iaload, 1) := zrD zrw_cX2_isSo_32 (i := 15) (by decide +kernel) rfl
theorem dX2_isSo_48 : decode cX2_isSo 48 = .ok (.aload_n 0, 1) := zrD zrw_cX2_isSo_32 (i := 16) (by decide +kernel) rfl
theorem dX2_isSo_49 : decode cX2_isSo 49 = .ok (.getfield 11, 3) := zrD zrw_cX2_isSo_32 (i := 17) (by decide +kernel) rfl
theorem dX2_isSo_52 : decode cX2_isSo 52 = .ok (.iload 5, 2) := zrD zrw_cX2_isSo_32 (i := 20) (by decide +kernel) rfl
theorem dX2_isSo_54 : decode cX2_isSo 54 = .ok (.iaload, 1) := zrD zrw_cX2_isSo_32 (i := 22) (by decide +kernel) rfl
theorem dX2_isSo_55 : decode cX2_isSo 55 = .ok (.invokestatic 52, 3) := zrD zrw_cX2_isSo_32 (i := 23) (by decide +kernel) rfl
theorem dX2_isSo_58 : decode cX2_isSo 58 = .ok (.ifCond .eq 29, 3) := zrD zrw_cX2_isSo_32 (i := 26) (by decide +kernel) rfl
theorem dX2_isSo_61 : decode cX2_isSo 61 = .ok (.iload 6, 2) := zrD zrw_cX2_isSo_32 (i := 29) (by decide +kernel) rfl
theorem dX2_isSo_63 : decode cX2_isSo 63 = .ok (.aload_n 0, 1) := zrD zrw_cX2_isSo_32 (i := 31) (by decide +kernel) rfl
def zrk_cX2_isSo_64 : ByteArray := .mk #[180, 0, 15, 21, 5, 46, 42, 180, 0, 18, 21, 5, 46, 184, 0, 56, 153, 0, 7, 4, 167, 0, 4, 3, 54, 7, 21, 4, 153, 0, 19]
theorem zrw_cX2_isSo_64 : zrW 64 cX2_isSo zrk_cX2_isSo_64 := by unfold zrW; decide +kernel
theorem dX2_isSo_64 : decode cX2_isSo 64 = .ok (.getfield 15, 3) := zrD zrw_cX2_isSo_64 (i := 0) (by decide +kernel) rfl
theorem dX2_isSo_67 : decode cX2_isSo 67 = .ok (.iload 5, 2) := zrD zrw_cX2_isSo_64 (i := 3) (by decide +kernel) rfl
theorem dX2_isSo_69 : decode cX2_isSo 69 = .ok (.iaload, 1) := zrD zrw_cX2_isSo_64 (i := 5) (by decide +kernel) rfl
theorem dX2_isSo_70 : decode cX2_isSo 70 = .ok (.aload_n 0, 1) := zrD zrw_cX2_isSo_64 (i := 6) (by decide +kernel) rfl
theorem dX2_isSo_71 : decode cX2_isSo 71 = .ok (.getfield 18, 3) := zrD zrw_cX2_isSo_64 (i := 7) (by decide +kernel) rfl
theorem dX2_isSo_74 : decode cX2_isSo 74 = .ok (.iload 5, 2) := zrD zrw_cX2_isSo_64 (i := 10) (by decide +kernel) rfl
theorem dX2_isSo_76 : decode cX2_isSo 76 = .ok (.iaload, 1) := zrD zrw_cX2_isSo_64 (i := 12) (by decide +kernel) rfl
theorem dX2_isSo_77 : decode cX2_isSo 77 = .ok (.invokestatic 56, 3) := zrD zrw_cX2_isSo_64 (i := 13) (by decide +kernel) rfl
theorem dX2_isSo_80 : decode cX2_isSo 80 = .ok (.ifCond .eq 7, 3) := zrD zrw_cX2_isSo_64 (i := 16) (by decide +kernel) rfl
theorem dX2_isSo_83 : decode cX2_isSo 83 = .ok (.iconst 1, 1) := zrD zrw_cX2_isSo_64 (i := 19) (by decide +kernel) rfl
theorem dX2_isSo_84 : decode cX2_isSo 84 = .ok (.goto 4, 3) := zrD zrw_cX2_isSo_64 (i := 20) (by decide +kernel) rfl
theorem dX2_isSo_87 : decode cX2_isSo 87 = .ok (.iconst 0, 1) := zrD zrw_cX2_isSo_64 (i := 23) (by decide +kernel) rfl
theorem dX2_isSo_88 : decode cX2_isSo 88 = .ok (.istore 7, 2) := zrD zrw_cX2_isSo_64 (i := 24) (by decide +kernel) rfl
theorem dX2_isSo_90 : decode cX2_isSo 90 = .ok (.iload 4, 2) := zrD zrw_cX2_isSo_64 (i := 26) (by decide +kernel) rfl
theorem dX2_isSo_92 : decode cX2_isSo 92 = .ok (.ifCond .eq 19, 3) := zrD zrw_cX2_isSo_64 (i := 28) (by decide +kernel) rfl
def zrk_cX2_isSo_95 : ByteArray := .mk #[21, 7, 42, 180, 0, 21, 21, 5, 51, 160, 0, 7, 4, 167, 0, 4, 3, 54, 4, 132, 5, 1, 167, 255, 145, 21, 4, 172]
theorem zrw_cX2_isSo_95 : zrW 95 cX2_isSo zrk_cX2_isSo_95 := by unfold zrW; decide +kernel
theorem dX2_isSo_95 : decode cX2_isSo 95 = .ok (.iload 7, 2) := zrD zrw_cX2_isSo_95 (i := 0) (by decide +kernel) rfl
theorem dX2_isSo_97 : decode cX2_isSo 97 = .ok (.aload_n 0, 1) := zrD zrw_cX2_isSo_95 (i := 2) (by decide +kernel) rfl
theorem dX2_isSo_98 : decode cX2_isSo 98 = .ok (.getfield 21, 3) := zrD zrw_cX2_isSo_95 (i := 3) (by decide +kernel) rfl
theorem dX2_isSo_101 : decode cX2_isSo 101 = .ok (.iload 5, 2) := zrD zrw_cX2_isSo_95 (i := 6) (by decide +kernel) rfl
theorem dX2_isSo_103 : decode cX2_isSo 103 = .ok (.baload, 1) := zrD zrw_cX2_isSo_95 (i := 8) (by decide +kernel) rfl
theorem dX2_isSo_104 : decode cX2_isSo 104 = .ok (.if_icmp .ne 7, 3) := zrD zrw_cX2_isSo_95 (i := 9) (by decide +kernel) rfl
theorem dX2_isSo_107 : decode cX2_isSo 107 = .ok (.iconst 1, 1) := zrD zrw_cX2_isSo_95 (i := 12) (by decide +kernel) rfl
theorem dX2_isSo_108 : decode cX2_isSo 108 = .ok (.goto 4, 3) := zrD zrw_cX2_isSo_95 (i := 13) (by decide +kernel) rfl
theorem dX2_isSo_111 : decode cX2_isSo 111 = .ok (.iconst 0, 1) := zrD zrw_cX2_isSo_95 (i := 16) (by decide +kernel) rfl
theorem dX2_isSo_112 : decode cX2_isSo 112 = .ok (.istore 4, 2) := zrD zrw_cX2_isSo_95 (i := 17) (by decide +kernel) rfl
theorem dX2_isSo_114 : decode cX2_isSo 114 = .ok (.iinc 5 1, 3) := zrD zrw_cX2_isSo_95 (i := 19) (by decide +kernel) rfl
theorem dX2_isSo_117 : decode cX2_isSo 117 = .ok (.goto (-111), 3) := zrD zrw_cX2_isSo_95 (i := 22) (by decide +kernel) rfl
theorem dX2_isSo_120 : decode cX2_isSo 120 = .ok (.iload 4, 2) := zrD zrw_cX2_isSo_95 (i := 25) (by decide +kernel) rfl
theorem dX2_isSo_122 : decode cX2_isSo 122 = .ok (.ireturn, 1) := zrD zrw_cX2_isSo_95 (i := 27) (by decide +kernel) rfl
def zrk_cX3_init_0 : ByteArray := .mk #[42, 183, 0, 3, 42, 187, 0, 9, 89, 183, 0, 11, 181, 0, 12, 42, 1, 181, 0, 18, 42, 3, 181, 0, 22, 42, 16, 34, 181, 0, 26, 42]
theorem zrw_cX3_init_0 : zrW 0 cX3_init zrk_cX3_init_0 := by unfold zrW; decide +kernel
theorem dX3_init_0 : decode cX3_init 0 = .ok (.aload_n 0, 1) := zrD zrw_cX3_init_0 (i := 0) (by decide +kernel) rfl
theorem dX3_init_1 : decode cX3_init 1 = .ok (.invokespecial 3, 3) := zrD zrw_cX3_init_0 (i := 1) (by decide +kernel) rfl
theorem dX3_init_4 : decode cX3_init 4 = .ok (.aload_n 0, 1) := zrD zrw_cX3_init_0 (i := 4) (by decide +kernel) rfl
theorem dX3_init_5 : decode cX3_init 5 = .ok (.new 9, 3) := zrD zrw_cX3_init_0 (i := 5) (by decide +kernel) rfl
theorem dX3_init_8 : decode cX3_init 8 = .ok (.dup, 1) := zrD zrw_cX3_init_0 (i := 8) (by decide +kernel) rfl
theorem dX3_init_9 : decode cX3_init 9 = .ok (.invokespecial 11, 3) := zrD zrw_cX3_init_0 (i := 9) (by decide +kernel) rfl
theorem dX3_init_12 : decode cX3_init 12 = .ok (.putfield 12, 3) := zrD zrw_cX3_init_0 (i := 12) (by decide +kernel) rfl
theorem dX3_init_15 : decode cX3_init 15 = .ok (.aload_n 0, 1) := zrD zrw_cX3_init_0 (i := 15) (by decide +kernel) rfl
theorem dX3_init_16 : decode cX3_init 16 = .ok (.aconst_null, 1) := zrD zrw_cX3_init_0 (i := 16) (by decide +kernel) rfl
theorem dX3_init_17 : decode cX3_init 17 = .ok (.putfield 18, 3) := zrD zrw_cX3_init_0 (i := 17) (by decide +kernel) rfl
theorem dX3_init_20 : decode cX3_init 20 = .ok (.aload_n 0, 1) := zrD zrw_cX3_init_0 (i := 20) (by decide +kernel) rfl
theorem dX3_init_21 : decode cX3_init 21 = .ok (.iconst 0, 1) := zrD zrw_cX3_init_0 (i := 21) (by decide +kernel) rfl
theorem dX3_init_22 : decode cX3_init 22 = .ok (.putfield 22, 3) := zrD zrw_cX3_init_0 (i := 22) (by decide +kernel) rfl
theorem dX3_init_25 : decode cX3_init 25 = .ok (.aload_n 0, 1) := zrD zrw_cX3_init_0 (i := 25) (by decide +kernel) rfl
theorem dX3_init_26 : decode cX3_init 26 = .ok (.bipush 34, 2) := zrD zrw_cX3_init_0 (i := 26) (by decide +kernel) rfl
theorem dX3_init_28 : decode cX3_init 28 = .ok (.putfield 26, 3) := zrD zrw_cX3_init_0 (i := 28) (by decide +kernel) rfl
theorem dX3_init_31 : decode cX3_init 31 = .ok (.aload_n 0, 1) := zrD zrw_cX3_init_0 (i := 31) (by decide +kernel) rfl
def zrk_cX3_init_32 : ByteArray := .mk #[9, 181, 0, 29, 42, 2, 181, 0, 33, 42, 3, 181, 0, 36, 42, 3, 181, 0, 40, 42, 3, 181, 0, 43, 42, 2, 181, 0, 46, 42, 3]
theorem zrw_cX3_init_32 : zrW 32 cX3_init zrk_cX3_init_32 := by unfold zrW; decide +kernel
theorem dX3_init_32 : decode cX3_init 32 = .ok (.lconst 0, 1) := zrD zrw_cX3_init_32 (i := 0) (by decide +kernel) rfl
theorem dX3_init_33 : decode cX3_init 33 = .ok (.putfield 29, 3) := zrD zrw_cX3_init_32 (i := 1) (by decide +kernel) rfl
theorem dX3_init_36 : decode cX3_init 36 = .ok (.aload_n 0, 1) := zrD zrw_cX3_init_32 (i := 4) (by decide +kernel) rfl
theorem dX3_init_37 : decode cX3_init 37 = .ok (.iconst (-1), 1) := zrD zrw_cX3_init_32 (i := 5) (by decide +kernel) rfl
theorem dX3_init_38 : decode cX3_init 38 = .ok (.putfield 33, 3) := zrD zrw_cX3_init_32 (i := 6) (by decide +kernel) rfl
theorem dX3_init_41 : decode cX3_init 41 = .ok (.aload_n 0, 1) := zrD zrw_cX3_init_32 (i := 9) (by decide +kernel) rfl
theorem dX3_init_42 : decode cX3_init 42 = .ok (.iconst 0, 1) := zrD zrw_cX3_init_32 (i := 10) (by decide +kernel) rfl
theorem dX3_init_43 : decode cX3_init 43 = .ok (.putfield 36, 3) := zrD zrw_cX3_init_32 (i := 11) (by decide +kernel) rfl
theorem dX3_init_46 : decode cX3_init 46 = .ok (.aload_n 0, 1) := zrD zrw_cX3_init_32 (i := 14) (by decide +kernel) rfl
theorem dX3_init_47 : decode cX3_init 47 = .ok (.iconst 0, 1) := zrD zrw_cX3_init_32 (i := 15) (by decide +kernel) rfl
theorem dX3_init_48 : decode cX3_init 48 = .ok (.putfield 40, 3) := zrD zrw_cX3_init_32 (i := 16) (by decide +kernel) rfl
theorem dX3_init_51 : decode cX3_init 51 = .ok (.aload_n 0, 1) := zrD zrw_cX3_init_32 (i := 19) (by decide +kernel) rfl
theorem dX3_init_52 : decode cX3_init 52 = .ok (.iconst 0, 1) := zrD zrw_cX3_init_32 (i := 20) (by decide +kernel) rfl
theorem dX3_init_53 : decode cX3_init 53 = .ok (.putfield 43, 3) := zrD zrw_cX3_init_32 (i := 21) (by decide +kernel) rfl
theorem dX3_init_56 : decode cX3_init 56 = .ok (.aload_n 0, 1) := zrD zrw_cX3_init_32 (i := 24) (by decide +kernel) rfl
theorem dX3_init_57 : decode cX3_init 57 = .ok (.iconst (-1), 1) := zrD zrw_cX3_init_32 (i := 25) (by decide +kernel) rfl
theorem dX3_init_58 : decode cX3_init 58 = .ok (.putfield 46, 3) := zrD zrw_cX3_init_32 (i := 26) (by decide +kernel) rfl
theorem dX3_init_61 : decode cX3_init 61 = .ok (.aload_n 0, 1) := zrD zrw_cX3_init_32 (i := 29) (by decide +kernel) rfl
theorem dX3_init_62 : decode cX3_init 62 = .ok (.iconst 0, 1) := zrD zrw_cX3_init_32 (i := 30) (by decide +kernel) rfl
def zrk_cX3_init_63 : ByteArray := .mk #[181, 0, 49, 42, 2, 181, 0, 52, 177]
theorem zrw_cX3_init_63 : zrW 63 cX3_init zrk_cX3_init_63 := by unfold zrW; decide +kernel
theorem dX3_init_63 : decode cX3_init 63 = .ok (.putfield 49, 3) := zrD zrw_cX3_init_63 (i := 0) (by decide +kernel) rfl
theorem dX3_init_66 : decode cX3_init 66 = .ok (.aload_n 0, 1) := zrD zrw_cX3_init_63 (i := 3) (by decide +kernel) rfl
theorem dX3_init_67 : decode cX3_init 67 = .ok (.iconst (-1), 1) := zrD zrw_cX3_init_63 (i := 4) (by decide +kernel) rfl
theorem dX3_init_68 : decode cX3_init 68 = .ok (.putfield 52, 3) := zrD zrw_cX3_init_63 (i := 5) (by decide +kernel) rfl
theorem dX3_init_71 : decode cX3_init 71 = .ok (.return_, 1) := zrD zrw_cX3_init_63 (i := 8) (by decide +kernel) rfl
def zrk_cX3_parse_0 : ByteArray := .mk #[42, 180, 0, 12, 43, 28, 182, 0, 55, 42, 45, 181, 0, 18, 42, 180, 0, 18, 182, 0, 59, 42, 3, 181, 0, 36, 42, 3, 181, 0, 40, 42]
theorem zrw_cX3_parse_0 : zrW 0 cX3_parse zrk_cX3_parse_0 := by unfold zrW; decide +kernel
theorem dX3_parse_0 : decode cX3_parse 0 = .ok (.aload_n 0, 1) := zrD zrw_cX3_parse_0 (i := 0) (by decide +kernel) rfl
theorem dX3_parse_1 : decode cX3_parse 1 = .ok (.getfield 12, 3) := zrD zrw_cX3_parse_0 (i := 1) (by decide +kernel) rfl
theorem dX3_parse_4 : decode cX3_parse 4 = .ok (.aload_n 1, 1) := zrD zrw_cX3_parse_0 (i := 4) (by decide +kernel) rfl
theorem dX3_parse_5 : decode cX3_parse 5 = .ok (.iload_n 2, 1) := zrD zrw_cX3_parse_0 (i := 5) (by decide +kernel) rfl
theorem dX3_parse_6 : decode cX3_parse 6 = .ok (.invokevirtual 55, 3) := zrD zrw_cX3_parse_0 (i := 6) (by decide +kernel) rfl
theorem dX3_parse_9 : decode cX3_parse 9 = .ok (.aload_n 0, 1) := zrD zrw_cX3_parse_0 (i := 9) (by decide +kernel) rfl
theorem dX3_parse_10 : decode cX3_parse 10 = .ok (.aload_n 3, 1) := zrD zrw_cX3_parse_0 (i := 10) (by decide +kernel) rfl
theorem dX3_parse_11 : decode cX3_parse 11 = .ok (.putfield 18, 3) := zrD zrw_cX3_parse_0 (i := 11) (by decide +kernel) rfl
theorem dX3_parse_14 : decode cX3_parse 14 = .ok (.aload_n 0, 1) := zrD zrw_cX3_parse_0 (i := 14) (by decide +kernel) rfl
theorem dX3_parse_15 : decode cX3_parse 15 = .ok (.getfield 18, 3) := zrD zrw_cX3_parse_0 (i := 15) (by decide +kernel) rfl
theorem dX3_parse_18 : decode cX3_parse 18 = .ok (.invokevirtual 59, 3) := zrD zrw_cX3_parse_0 (i := 18) (by decide +kernel) rfl
theorem dX3_parse_21 : decode cX3_parse 21 = .ok (.aload_n 0, 1) := zrD zrw_cX3_parse_0 (i := 21) (by decide +kernel) rfl
theorem dX3_parse_22 : decode cX3_parse 22 = .ok (.iconst 0, 1) := zrD zrw_cX3_parse_0 (i := 22) (by decide +kernel) rfl
theorem dX3_parse_23 : decode cX3_parse 23 = .ok (.putfield 36, 3) := zrD zrw_cX3_parse_0 (i := 23) (by decide +kernel) rfl
theorem dX3_parse_26 : decode cX3_parse 26 = .ok (.aload_n 0, 1) := zrD zrw_cX3_parse_0 (i := 26) (by decide +kernel) rfl
theorem dX3_parse_27 : decode cX3_parse 27 = .ok (.iconst 0, 1) := zrD zrw_cX3_parse_0 (i := 27) (by decide +kernel) rfl
theorem dX3_parse_28 : decode cX3_parse 28 = .ok (.putfield 40, 3) := zrD zrw_cX3_parse_0 (i := 28) (by decide +kernel) rfl
theorem dX3_parse_31 : decode cX3_parse 31 = .ok (.aload_n 0, 1) := zrD zrw_cX3_parse_0 (i := 31) (by decide +kernel) rfl
def zrk_cX3_parse_32 : ByteArray := .mk #[3, 181, 0, 43, 42, 2, 181, 0, 46, 42, 3, 181, 0, 49, 42, 2, 181, 0, 52, 42, 3, 182, 0, 64, 3, 54, 4, 21, 4, 17, 1, 144]
theorem zrw_cX3_parse_32 : zrW 32 cX3_parse zrk_cX3_parse_32 := by unfold zrW; decide +kernel
theorem dX3_parse_32 : decode cX3_parse 32 = .ok (.iconst 0, 1) := zrD zrw_cX3_parse_32 (i := 0) (by decide +kernel) rfl
theorem dX3_parse_33 : decode cX3_parse 33 = .ok (.putfield 43, 3) := zrD zrw_cX3_parse_32 (i := 1) (by decide +kernel) rfl
theorem dX3_parse_36 : decode cX3_parse 36 = .ok (.aload_n 0, 1) := zrD zrw_cX3_parse_32 (i := 4) (by decide +kernel) rfl
theorem dX3_parse_37 : decode cX3_parse 37 = .ok (.iconst (-1), 1) := zrD zrw_cX3_parse_32 (i := 5) (by decide +kernel) rfl
theorem dX3_parse_38 : decode cX3_parse 38 = .ok (.putfield 46, 3) := zrD zrw_cX3_parse_32 (i := 6) (by decide +kernel) rfl
theorem dX3_parse_41 : decode cX3_parse 41 = .ok (.aload_n 0, 1) := zrD zrw_cX3_parse_32 (i := 9) (by decide +kernel) rfl
theorem dX3_parse_42 : decode cX3_parse 42 = .ok (.iconst 0, 1) := zrD zrw_cX3_parse_32 (i := 10) (by decide +kernel) rfl
theorem dX3_parse_43 : decode cX3_parse 43 = .ok (.putfield 49, 3) := zrD zrw_cX3_parse_32 (i := 11) (by decide +kernel) rfl
theorem dX3_parse_46 : decode cX3_parse 46 = .ok (.aload_n 0, 1) := zrD zrw_cX3_parse_32 (i := 14) (by decide +kernel) rfl
theorem dX3_parse_47 : decode cX3_parse 47 = .ok (.iconst (-1), 1) := zrD zrw_cX3_parse_32 (i := 15) (by decide +kernel) rfl
theorem dX3_parse_48 : decode cX3_parse 48 = .ok (.putfield 52, 3) := zrD zrw_cX3_parse_32 (i := 16) (by decide +kernel) rfl
theorem dX3_parse_51 : decode cX3_parse 51 = .ok (.aload_n 0, 1) := zrD zrw_cX3_parse_32 (i := 19) (by decide +kernel) rfl
theorem dX3_parse_52 : decode cX3_parse 52 = .ok (.iconst 0, 1) := zrD zrw_cX3_parse_32 (i := 20) (by decide +kernel) rfl
theorem dX3_parse_53 : decode cX3_parse 53 = .ok (.invokevirtual 64, 3) := zrD zrw_cX3_parse_32 (i := 21) (by decide +kernel) rfl
theorem dX3_parse_56 : decode cX3_parse 56 = .ok (.iconst 0, 1) := zrD zrw_cX3_parse_32 (i := 24) (by decide +kernel) rfl
theorem dX3_parse_57 : decode cX3_parse 57 = .ok (.istore 4, 2) := zrD zrw_cX3_parse_32 (i := 25) (by decide +kernel) rfl
theorem dX3_parse_59 : decode cX3_parse 59 = .ok (.iload 4, 2) := zrD zrw_cX3_parse_32 (i := 27) (by decide +kernel) rfl
theorem dX3_parse_61 : decode cX3_parse 61 = .ok (.sipush 400, 3) := zrD zrw_cX3_parse_32 (i := 29) (by decide +kernel) rfl
def zrk_cX3_parse_64 : ByteArray := .mk #[163, 0, 29, 42, 180, 0, 43, 154, 0, 22, 42, 180, 0, 26, 16, 33, 159, 0, 13, 42, 182, 0, 68, 132, 4, 1, 167, 255, 225, 42]
theorem zrw_cX3_parse_64 : zrW 64 cX3_parse zrk_cX3_parse_64 := by unfold zrW; decide +kernel
theorem dX3_parse_64 : decode cX3_parse 64 = .ok (.if_icmp .gt 29, 3) := zrD zrw_cX3_parse_64 (i := 0) (by decide +kernel) rfl
theorem dX3_parse_67 : decode cX3_parse 67 = .ok (.aload_n 0, 1) := zrD zrw_cX3_parse_64 (i := 3) (by decide +kernel) rfl
theorem dX3_parse_68 : decode cX3_parse 68 = .ok (.getfield 43, 3) := zrD zrw_cX3_parse_64 (i := 4) (by decide +kernel) rfl
theorem dX3_parse_71 : decode cX3_parse 71 = .ok (.ifCond .ne 22, 3) := zrD zrw_cX3_parse_64 (i := 7) (by decide +kernel) rfl
theorem dX3_parse_74 : decode cX3_parse 74 = .ok (.aload_n 0, 1) := zrD zrw_cX3_parse_64 (i := 10) (by decide +kernel) rfl
theorem dX3_parse_75 : decode cX3_parse 75 = .ok (.getfield 26, 3) := zrD zrw_cX3_parse_64 (i := 11) (by decide +kernel) rfl
theorem dX3_parse_78 : decode cX3_parse 78 = .ok (.bipush 33, 2) := zrD zrw_cX3_parse_64 (i := 14) (by decide +kernel) rfl
theorem dX3_parse_80 : decode cX3_parse 80 = .ok (.if_icmp .eq 13, 3) := zrD zrw_cX3_parse_64 (i := 16) (by decide +kernel) rfl
theorem dX3_parse_83 : decode cX3_parse 83 = .ok (.aload_n 0, 1) := zrD zrw_cX3_parse_64 (i := 19) (by decide +kernel) rfl
theorem dX3_parse_84 : decode cX3_parse 84 = .ok (.invokevirtual 68, 3) := zrD zrw_cX3_parse_64 (i := 20) (by decide +kernel) rfl
theorem dX3_parse_87 : decode cX3_parse 87 = .ok (.iinc 4 1, 3) := zrD zrw_cX3_parse_64 (i := 23) (by decide +kernel) rfl
theorem dX3_parse_90 : decode cX3_parse 90 = .ok (.goto (-31), 3) := zrD zrw_cX3_parse_64 (i := 26) (by decide +kernel) rfl
theorem dX3_parse_93 : decode cX3_parse 93 = .ok (.aload_n 0, 1) := zrD zrw_cX3_parse_64 (i := 29) (by decide +kernel) rfl
def zrk_cX3_parse_94 : ByteArray := .mk #[180, 0, 43, 154, 0, 19, 42, 42, 180, 0, 49, 181, 0, 43, 42, 42, 180, 0, 52, 181, 0, 46, 42, 180, 0, 18, 42, 180, 0, 36]
theorem zrw_cX3_parse_94 : zrW 94 cX3_parse zrk_cX3_parse_94 := by unfold zrW; decide +kernel
theorem dX3_parse_94 : decode cX3_parse 94 = .ok (.getfield 43, 3) := zrD zrw_cX3_parse_94 (i := 0) (by decide +kernel) rfl
theorem dX3_parse_97 : decode cX3_parse 97 = .ok (.ifCond .ne 19, 3) := zrD zrw_cX3_parse_94 (i := 3) (by decide +kernel) rfl
theorem dX3_parse_100 : decode cX3_parse 100 = .ok (.aload_n 0, 1) := zrD zrw_cX3_parse_94 (i := 6) (by decide +kernel) rfl
theorem dX3_parse_101 : decode cX3_parse 101 = .ok (.aload_n 0, 1) := zrD zrw_cX3_parse_94 (i := 7) (by decide +kernel) rfl
theorem dX3_parse_102 : decode cX3_parse 102 = .ok (.getfield 49, 3) := zrD zrw_cX3_parse_94 (i := 8) (by decide +kernel) rfl
theorem dX3_parse_105 : decode cX3_parse 105 = .ok (.putfield 43, 3) := zrD zrw_cX3_parse_94 (i := 11) (by decide +kernel) rfl
theorem dX3_parse_108 : decode cX3_parse 108 = .ok (.aload_n 0, 1) := zrD zrw_cX3_parse_94 (i := 14) (by decide +kernel) rfl
theorem dX3_parse_109 : decode cX3_parse 109 = .ok (.aload_n 0, 1) := zrD zrw_cX3_parse_94 (i := 15) (by decide +kernel) rfl
theorem dX3_parse_110 : decode cX3_parse 110 = .ok (.getfield 52, 3) := zrD zrw_cX3_parse_94 (i := 16) (by decide +kernel) rfl
theorem dX3_parse_113 : decode cX3_parse 113 = .ok (.putfield 46, 3) := zrD zrw_cX3_parse_94 (i := 19) (by decide +kernel) rfl
theorem dX3_parse_116 : decode cX3_parse 116 = .ok (.aload_n 0, 1) := zrD zrw_cX3_parse_94 (i := 22) (by decide +kernel) rfl
theorem dX3_parse_117 : decode cX3_parse 117 = .ok (.getfield 18, 3) := zrD zrw_cX3_parse_94 (i := 23) (by decide +kernel) rfl
theorem dX3_parse_120 : decode cX3_parse 120 = .ok (.aload_n 0, 1) := zrD zrw_cX3_parse_94 (i := 26) (by decide +kernel) rfl
theorem dX3_parse_121 : decode cX3_parse 121 = .ok (.getfield 36, 3) := zrD zrw_cX3_parse_94 (i := 27) (by decide +kernel) rfl
def zrk_cX3_parse_124 : ByteArray := .mk #[153, 0, 12, 4, 42, 180, 0, 40, 96, 167, 0, 4, 3, 181, 0, 71, 42, 180, 0, 43, 172]
theorem zrw_cX3_parse_124 : zrW 124 cX3_parse zrk_cX3_parse_124 := by unfold zrW; decide +kernel
theorem dX3_parse_124 : decode cX3_parse 124 = .ok (.ifCond .eq 12, 3) := zrD zrw_cX3_parse_124 (i := 0) (by decide +kernel) rfl
theorem dX3_parse_127 : decode cX3_parse 127 = .ok (.iconst 1, 1) := zrD zrw_cX3_parse_124 (i := 3) (by decide +kernel) rfl
theorem dX3_parse_128 : decode cX3_parse 128 = .ok (.aload_n 0, 1) := zrD zrw_cX3_parse_124 (i := 4) (by decide +kernel) rfl
theorem dX3_parse_129 : decode cX3_parse 129 = .ok (.getfield 40, 3) := zrD zrw_cX3_parse_124 (i := 5) (by decide +kernel) rfl
theorem dX3_parse_132 : decode cX3_parse 132 = .ok (.iadd, 1) := zrD zrw_cX3_parse_124 (i := 8) (by decide +kernel) rfl
theorem dX3_parse_133 : decode cX3_parse 133 = .ok (.goto 4, 3) := zrD zrw_cX3_parse_124 (i := 9) (by decide +kernel) rfl
theorem dX3_parse_136 : decode cX3_parse 136 = .ok (.iconst 0, 1) := zrD zrw_cX3_parse_124 (i := 12) (by decide +kernel) rfl
theorem dX3_parse_137 : decode cX3_parse 137 = .ok (.putfield 71, 3) := zrD zrw_cX3_parse_124 (i := 13) (by decide +kernel) rfl
theorem dX3_parse_140 : decode cX3_parse 140 = .ok (.aload_n 0, 1) := zrD zrw_cX3_parse_124 (i := 16) (by decide +kernel) rfl
theorem dX3_parse_141 : decode cX3_parse 141 = .ok (.getfield 43, 3) := zrD zrw_cX3_parse_124 (i := 17) (by decide +kernel) rfl
theorem dX3_parse_144 : decode cX3_parse 144 = .ok (.ireturn, 1) := zrD zrw_cX3_parse_124 (i := 20) (by decide +kernel) rfl
def zrk_cX3_telling_0 : ByteArray := .mk #[42, 180, 0, 26, 154, 0, 10, 42, 182, 0, 74, 167, 0, 166, 42, 180, 0, 26, 4, 160, 0, 10, 42, 182, 0, 77, 167, 0, 151, 42]
theorem zrw_cX3_telling_0 : zrW 0 cX3_telling zrk_cX3_telling_0 := by unfold zrW; decide +kernel
theorem dX3_telling_0 : decode cX3_telling 0 = .ok (.aload_n 0, 1) := zrD zrw_cX3_telling_0 (i := 0) (by decide +kernel) rfl
theorem dX3_telling_1 : decode cX3_telling 1 = .ok (.getfield 26, 3) := zrD zrw_cX3_telling_0 (i := 1) (by decide +kernel) rfl
theorem dX3_telling_4 : decode cX3_telling 4 = .ok (.ifCond .ne 10, 3) := zrD zrw_cX3_telling_0 (i := 4) (by decide +kernel) rfl
theorem dX3_telling_7 : decode cX3_telling 7 = .ok (.aload_n 0, 1) := zrD zrw_cX3_telling_0 (i := 7) (by decide +kernel) rfl
theorem dX3_telling_8 : decode cX3_telling 8 = .ok (.invokevirtual 74, 3) := zrD zrw_cX3_telling_0 (i := 8) (by decide +kernel) rfl
theorem dX3_telling_11 : decode cX3_telling 11 = .ok (.goto 166, 3) := zrD zrw_cX3_telling_0 (i := 11) (by decide +kernel) rfl
theorem dX3_telling_14 : decode cX3_telling 14 = .ok (.aload_n 0, 1) := zrD zrw_cX3_telling_0 (i := 14) (by decide +kernel) rfl
theorem dX3_telling_15 : decode cX3_telling 15 = .ok (.getfield 26, 3) := zrD zrw_cX3_telling_0 (i := 15) (by decide +kernel) rfl
theorem dX3_telling_18 : decode cX3_telling 18 = .ok (.iconst 1, 1) := zrD zrw_cX3_telling_0 (i := 18) (by decide +kernel) rfl
theorem dX3_telling_19 : decode cX3_telling 19 = .ok (.if_icmp .ne 10, 3) := zrD zrw_cX3_telling_0 (i := 19) (by decide +kernel) rfl
theorem dX3_telling_22 : decode cX3_telling 22 = .ok (.aload_n 0, 1) := zrD zrw_cX3_telling_0 (i := 22) (by decide +kernel) rfl
theorem dX3_telling_23 : decode cX3_telling 23 = .ok (.invokevirtual 77, 3) := zrD zrw_cX3_telling_0 (i := 23) (by decide +kernel) rfl
theorem dX3_telling_26 : decode cX3_telling 26 = .ok (.goto 151, 3) := zrD zrw_cX3_telling_0 (i := 26) (by decide +kernel) rfl
theorem dX3_telling_29 : decode cX3_telling 29 = .ok (.aload_n 0, 1) := zrD zrw_cX3_telling_0 (i := 29) (by decide +kernel) rfl
def zrk_cX3_telling_30 : ByteArray := .mk #[180, 0, 26, 5, 16, 6, 184, 0, 80, 153, 0, 16, 42, 42, 180, 0, 26, 5, 100, 182, 0, 84, 167, 0, 125, 42, 180, 0, 26, 16, 7]
theorem zrw_cX3_telling_30 : zrW 30 cX3_telling zrk_cX3_telling_30 := by unfold zrW; decide +kernel
theorem dX3_telling_30 : decode cX3_telling 30 = .ok (.getfield 26, 3) := zrD zrw_cX3_telling_30 (i := 0) (by decide +kernel) rfl
theorem dX3_telling_33 : decode cX3_telling 33 = .ok (.iconst 2, 1) := zrD zrw_cX3_telling_30 (i := 3) (by decide +kernel) rfl
theorem dX3_telling_34 : decode cX3_telling 34 = .ok (.bipush 6, 2) := zrD zrw_cX3_telling_30 (i := 4) (by decide +kernel) rfl
theorem dX3_telling_36 : decode cX3_telling 36 = .ok (.invokestatic 80, 3) := zrD zrw_cX3_telling_30 (i := 6) (by decide +kernel) rfl
theorem dX3_telling_39 : decode cX3_telling 39 = .ok (.ifCond .eq 16, 3) := zrD zrw_cX3_telling_30 (i := 9) (by decide +kernel) rfl
theorem dX3_telling_42 : decode cX3_telling 42 = .ok (.aload_n 0, 1) := zrD zrw_cX3_telling_30 (i := 12) (by decide +kernel) rfl
theorem dX3_telling_43 : decode cX3_telling 43 = .ok (.aload_n 0, 1) := zrD zrw_cX3_telling_30 (i := 13) (by decide +kernel) rfl
theorem dX3_telling_44 : decode cX3_telling 44 = .ok (.getfield 26, 3) := zrD zrw_cX3_telling_30 (i := 14) (by decide +kernel) rfl
theorem dX3_telling_47 : decode cX3_telling 47 = .ok (.iconst 2, 1) := zrD zrw_cX3_telling_30 (i := 17) (by decide +kernel) rfl
theorem dX3_telling_48 : decode cX3_telling 48 = .ok (.isub, 1) := zrD zrw_cX3_telling_30 (i := 18) (by decide +kernel) rfl
theorem dX3_telling_49 : decode cX3_telling 49 = .ok (.invokevirtual 84, 3) := zrD zrw_cX3_telling_30 (i := 19) (by decide +kernel) rfl
theorem dX3_telling_52 : decode cX3_telling 52 = .ok (.goto 125, 3) := zrD zrw_cX3_telling_30 (i := 22) (by decide +kernel) rfl
theorem dX3_telling_55 : decode cX3_telling 55 = .ok (.aload_n 0, 1) := zrD zrw_cX3_telling_30 (i := 25) (by decide +kernel) rfl
theorem dX3_telling_56 : decode cX3_telling 56 = .ok (.getfield 26, 3) := zrD zrw_cX3_telling_30 (i := 26) (by decide +kernel) rfl
theorem dX3_telling_59 : decode cX3_telling 59 = .ok (.bipush 7, 2) := zrD zrw_cX3_telling_30 (i := 29) (by decide +kernel) rfl
def zrk_cX3_telling_61 : ByteArray := .mk #[160, 0, 42, 42, 42, 180, 0, 26, 182, 0, 87, 42, 180, 0, 18, 42, 3, 16, 100, 182, 0, 90, 181, 0, 94, 42, 180, 0, 18, 42, 3]
theorem zrw_cX3_telling_61 : zrW 61 cX3_telling zrk_cX3_telling_61 := by unfold zrW; decide +kernel
theorem dX3_telling_61 : decode cX3_telling 61 = .ok (.if_icmp .ne 42, 3) := zrD zrw_cX3_telling_61 (i := 0) (by decide +kernel) rfl
theorem dX3_telling_64 : decode cX3_telling 64 = .ok (.aload_n 0, 1) := zrD zrw_cX3_telling_61 (i := 3) (by decide +kernel) rfl
theorem dX3_telling_65 : decode cX3_telling 65 = .ok (.aload_n 0, 1) := zrD zrw_cX3_telling_61 (i := 4) (by decide +kernel) rfl
theorem dX3_telling_66 : decode cX3_telling 66 = .ok (.getfield 26, 3) := zrD zrw_cX3_telling_61 (i := 5) (by decide +kernel) rfl
theorem dX3_telling_69 : decode cX3_telling 69 = .ok (.invokevirtual 87, 3) := zrD zrw_cX3_telling_61 (i := 8) (by decide +kernel) rfl
theorem dX3_telling_72 : decode cX3_telling 72 = .ok (.aload_n 0, 1) := zrD zrw_cX3_telling_61 (i := 11) (by decide +kernel) rfl
theorem dX3_telling_73 : decode cX3_telling 73 = .ok (.getfield 18, 3) := zrD zrw_cX3_telling_61 (i := 12) (by decide +kernel) rfl
theorem dX3_telling_76 : decode cX3_telling 76 = .ok (.aload_n 0, 1) := zrD zrw_cX3_telling_61 (i := 15) (by decide +kernel) rfl
theorem dX3_telling_77 : decode cX3_telling 77 = .ok (.iconst 0, 1) := zrD zrw_cX3_telling_61 (i := 16) (by decide +kernel) rfl
theorem dX3_telling_78 : decode cX3_telling 78 = .ok (.bipush 100, 2) := zrD zrw_cX3_telling_61 (i := 17) (by decide +kernel) rfl
theorem dX3_telling_80 : decode cX3_telling 80 = .ok (.invokevirtual 90, 3) := zrD zrw_cX3_telling_61 (i := 19) (by decide +kernel) rfl
theorem dX3_telling_83 : decode cX3_telling 83 = .ok (.putfield 94, 3) := zrD zrw_cX3_telling_61 (i := 22) (by decide +kernel) rfl
theorem dX3_telling_86 : decode cX3_telling 86 = .ok (.aload_n 0, 1) := zrD zrw_cX3_telling_61 (i := 25) (by decide +kernel) rfl
theorem dX3_telling_87 : decode cX3_telling 87 = .ok (.getfield 18, 3) := zrD zrw_cX3_telling_61 (i := 26) (by decide +kernel) rfl
theorem dX3_telling_90 : decode cX3_telling 90 = .ok (.aload_n 0, 1) := zrD zrw_cX3_telling_61 (i := 29) (by decide +kernel) rfl
theorem dX3_telling_91 : decode cX3_telling 91 = .ok (.iconst 0, 1) := zrD zrw_cX3_telling_61 (i := 30) (by decide +kernel) rfl
def zrk_cX3_telling_92 : ByteArray := .mk #[16, 99, 182, 0, 90, 181, 0, 97, 167, 0, 77, 42, 180, 0, 26, 16, 8, 160, 0, 28, 42, 42, 180, 0, 26, 182, 0, 87, 42, 180, 0, 18]
theorem zrw_cX3_telling_92 : zrW 92 cX3_telling zrk_cX3_telling_92 := by unfold zrW; decide +kernel
theorem dX3_telling_92 : decode cX3_telling 92 = .ok (.bipush 99, 2) := zrD zrw_cX3_telling_92 (i := 0) (by decide +kernel) rfl
theorem dX3_telling_94 : decode cX3_telling 94 = .ok (.invokevirtual 90, 3) := zrD zrw_cX3_telling_92 (i := 2) (by decide +kernel) rfl
theorem dX3_telling_97 : decode cX3_telling 97 = .ok (.putfield 97, 3) := zrD zrw_cX3_telling_92 (i := 5) (by decide +kernel) rfl
theorem dX3_telling_100 : decode cX3_telling 100 = .ok (.goto 77, 3) := zrD zrw_cX3_telling_92 (i := 8) (by decide +kernel) rfl
theorem dX3_telling_103 : decode cX3_telling 103 = .ok (.aload_n 0, 1) := zrD zrw_cX3_telling_92 (i := 11) (by decide +kernel) rfl
theorem dX3_telling_104 : decode cX3_telling 104 = .ok (.getfield 26, 3) := zrD zrw_cX3_telling_92 (i := 12) (by decide +kernel) rfl
theorem dX3_telling_107 : decode cX3_telling 107 = .ok (.bipush 8, 2) := zrD zrw_cX3_telling_92 (i := 15) (by decide +kernel) rfl
theorem dX3_telling_109 : decode cX3_telling 109 = .ok (.if_icmp .ne 28, 3) := zrD zrw_cX3_telling_92 (i := 17) (by decide +kernel) rfl
theorem dX3_telling_112 : decode cX3_telling 112 = .ok (.aload_n 0, 1) := zrD zrw_cX3_telling_92 (i := 20) (by decide +kernel) rfl
theorem dX3_telling_113 : decode cX3_telling 113 = .ok (.aload_n 0, 1) := zrD zrw_cX3_telling_92 (i := 21) (by decide +kernel) rfl
theorem dX3_telling_114 : decode cX3_telling 114 = .ok (.getfield 26, 3) := zrD zrw_cX3_telling_92 (i := 22) (by decide +kernel) rfl
theorem dX3_telling_117 : decode cX3_telling 117 = .ok (.invokevirtual 87, 3) := zrD zrw_cX3_telling_92 (i := 25) (by decide +kernel) rfl
theorem dX3_telling_120 : decode cX3_telling 120 = .ok (.aload_n 0, 1) := zrD zrw_cX3_telling_92 (i := 28) (by decide +kernel) rfl
theorem dX3_telling_121 : decode cX3_telling 121 = .ok (.getfield 18, 3) := zrD zrw_cX3_telling_92 (i := 29) (by decide +kernel) rfl
def zrk_cX3_telling_124 : ByteArray := .mk #[42, 3, 16, 99, 182, 0, 90, 181, 0, 100, 167, 0, 43, 42, 180, 0, 26, 16, 9, 160, 0, 29, 42, 42, 180, 0, 26, 182, 0, 87, 42]
theorem zrw_cX3_telling_124 : zrW 124 cX3_telling zrk_cX3_telling_124 := by unfold zrW; decide +kernel
theorem dX3_telling_124 : decode cX3_telling 124 = .ok (.aload_n 0, 1) := zrD zrw_cX3_telling_124 (i := 0) (by decide +kernel) rfl
theorem dX3_telling_125 : decode cX3_telling 125 = .ok (.iconst 0, 1) := zrD zrw_cX3_telling_124 (i := 1) (by decide +kernel) rfl
theorem dX3_telling_126 : decode cX3_telling 126 = .ok (.bipush 99, 2) := zrD zrw_cX3_telling_124 (i := 2) (by decide +kernel) rfl
theorem dX3_telling_128 : decode cX3_telling 128 = .ok (.invokevirtual 90, 3) := zrD zrw_cX3_telling_124 (i := 4) (by decide +kernel) rfl
theorem dX3_telling_131 : decode cX3_telling 131 = .ok (.putfield 100, 3) := zrD zrw_cX3_telling_124 (i := 7) (by decide +kernel) rfl
theorem dX3_telling_134 : decode cX3_telling 134 = .ok (.goto 43, 3) := zrD zrw_cX3_telling_124 (i := 10) (by decide +kernel) rfl
theorem dX3_telling_137 : decode cX3_telling 137 = .ok (.aload_n 0, 1) := zrD zrw_cX3_telling_124 (i := 13) (by decide +kernel) rfl
theorem dX3_telling_138 : decode cX3_telling 138 = .ok (.getfield 26, 3) := zrD zrw_cX3_telling_124 (i := 14) (by decide +kernel) rfl
theorem dX3_telling_141 : decode cX3_telling 141 = .ok (.bipush 9, 2) := zrD zrw_cX3_telling_124 (i := 17) (by decide +kernel) rfl
theorem dX3_telling_143 : decode cX3_telling 143 = .ok (.if_icmp .ne 29, 3) := zrD zrw_cX3_telling_124 (i := 19) (by decide +kernel) rfl
theorem dX3_telling_146 : decode cX3_telling 146 = .ok (.aload_n 0, 1) := zrD zrw_cX3_telling_124 (i := 22) (by decide +kernel) rfl
theorem dX3_telling_147 : decode cX3_telling 147 = .ok (.aload_n 0, 1) := zrD zrw_cX3_telling_124 (i := 23) (by decide +kernel) rfl
theorem dX3_telling_148 : decode cX3_telling 148 = .ok (.getfield 26, 3) := zrD zrw_cX3_telling_124 (i := 24) (by decide +kernel) rfl
theorem dX3_telling_151 : decode cX3_telling 151 = .ok (.invokevirtual 87, 3) := zrD zrw_cX3_telling_124 (i := 27) (by decide +kernel) rfl
theorem dX3_telling_154 : decode cX3_telling 154 = .ok (.aload_n 0, 1) := zrD zrw_cX3_telling_124 (i := 30) (by decide +kernel) rfl
def zrk_cX3_telling_155 : ByteArray := .mk #[180, 0, 18, 42, 3, 17, 39, 15, 182, 0, 90, 181, 0, 103, 167, 0, 8, 42, 4, 182, 0, 106, 42, 16, 24, 182, 0, 87, 177]
theorem zrw_cX3_telling_155 : zrW 155 cX3_telling zrk_cX3_telling_155 := by unfold zrW; decide +kernel
theorem dX3_telling_155 : decode cX3_telling 155 = .ok (.getfield 18, 3) := zrD zrw_cX3_telling_155 (i := 0) (by decide +kernel) rfl
theorem dX3_telling_158 : decode cX3_telling 158 = .ok (.aload_n 0, 1) := zrD zrw_cX3_telling_155 (i := 3) (by decide +kernel) rfl
theorem dX3_telling_159 : decode cX3_telling 159 = .ok (.iconst 0, 1) := zrD zrw_cX3_telling_155 (i := 4) (by decide +kernel) rfl
theorem dX3_telling_160 : decode cX3_telling 160 = .ok (.sipush 9999, 3) := zrD zrw_cX3_telling_155 (i := 5) (by decide +kernel) rfl
theorem dX3_telling_163 : decode cX3_telling 163 = .ok (.invokevirtual 90, 3) := zrD zrw_cX3_telling_155 (i := 8) (by decide +kernel) rfl
theorem dX3_telling_166 : decode cX3_telling 166 = .ok (.putfield 103, 3) := zrD zrw_cX3_telling_155 (i := 11) (by decide +kernel) rfl
theorem dX3_telling_169 : decode cX3_telling 169 = .ok (.goto 8, 3) := zrD zrw_cX3_telling_155 (i := 14) (by decide +kernel) rfl
theorem dX3_telling_172 : decode cX3_telling 172 = .ok (.aload_n 0, 1) := zrD zrw_cX3_telling_155 (i := 17) (by decide +kernel) rfl
theorem dX3_telling_173 : decode cX3_telling 173 = .ok (.iconst 1, 1) := zrD zrw_cX3_telling_155 (i := 18) (by decide +kernel) rfl
theorem dX3_telling_174 : decode cX3_telling 174 = .ok (.invokevirtual 106, 3) := zrD zrw_cX3_telling_155 (i := 19) (by decide +kernel) rfl
theorem dX3_telling_177 : decode cX3_telling 177 = .ok (.aload_n 0, 1) := zrD zrw_cX3_telling_155 (i := 22) (by decide +kernel) rfl
theorem dX3_telling_178 : decode cX3_telling 178 = .ok (.bipush 24, 2) := zrD zrw_cX3_telling_155 (i := 23) (by decide +kernel) rfl
theorem dX3_telling_180 : decode cX3_telling 180 = .ok (.invokevirtual 87, 3) := zrD zrw_cX3_telling_155 (i := 25) (by decide +kernel) rfl
theorem dX3_telling_183 : decode cX3_telling 183 = .ok (.return_, 1) := zrD zrw_cX3_telling_155 (i := 28) (by decide +kernel) rfl
def zrk_cX3_mouth_0 : ByteArray := .mk #[42, 180, 0, 36, 153, 0, 8, 42, 5, 182, 0, 106, 42, 3, 182, 0, 87, 42, 182, 0, 109, 64, 42, 180, 0, 43, 154, 0, 30, 42, 4]
theorem zrw_cX3_mouth_0 : zrW 0 cX3_mouth zrk_cX3_mouth_0 := by unfold zrW; decide +kernel
theorem dX3_mouth_0 : decode cX3_mouth 0 = .ok (.aload_n 0, 1) := zrD zrw_cX3_mouth_0 (i := 0) (by decide +kernel) rfl
theorem dX3_mouth_1 : decode cX3_mouth 1 = .ok (.getfield 36, 3) := zrD zrw_cX3_mouth_0 (i := 1) (by decide +kernel) rfl
theorem dX3_mouth_4 : decode cX3_mouth 4 = .ok (.ifCond .eq 8, 3) := zrD zrw_cX3_mouth_0 (i := 4) (by decide +kernel) rfl
theorem dX3_mouth_7 : decode cX3_mouth 7 = .ok (.aload_n 0, 1) := zrD zrw_cX3_mouth_0 (i := 7) (by decide +kernel) rfl
theorem dX3_mouth_8 : decode cX3_mouth 8 = .ok (.iconst 2, 1) := zrD zrw_cX3_mouth_0 (i := 8) (by decide +kernel) rfl
theorem dX3_mouth_9 : decode cX3_mouth 9 = .ok (.invokevirtual 106, 3) := zrD zrw_cX3_mouth_0 (i := 9) (by decide +kernel) rfl
theorem dX3_mouth_12 : decode cX3_mouth 12 = .ok (.aload_n 0, 1) := zrD zrw_cX3_mouth_0 (i := 12) (by decide +kernel) rfl
theorem dX3_mouth_13 : decode cX3_mouth 13 = .ok (.iconst 0, 1) := zrD zrw_cX3_mouth_0 (i := 13) (by decide +kernel) rfl
theorem dX3_mouth_14 : decode cX3_mouth 14 = .ok (.invokevirtual 87, 3) := zrD zrw_cX3_mouth_0 (i := 14) (by decide +kernel) rfl
theorem dX3_mouth_17 : decode cX3_mouth 17 = .ok (.aload_n 0, 1) := zrD zrw_cX3_mouth_0 (i := 17) (by decide +kernel) rfl
theorem dX3_mouth_18 : decode cX3_mouth 18 = .ok (.invokevirtual 109, 3) := zrD zrw_cX3_mouth_0 (i := 18) (by decide +kernel) rfl
theorem dX3_mouth_21 : decode cX3_mouth 21 = .ok (.lstore_n 1, 1) := zrD zrw_cX3_mouth_0 (i := 21) (by decide +kernel) rfl
theorem dX3_mouth_22 : decode cX3_mouth 22 = .ok (.aload_n 0, 1) := zrD zrw_cX3_mouth_0 (i := 22) (by decide +kernel) rfl
theorem dX3_mouth_23 : decode cX3_mouth 23 = .ok (.getfield 43, 3) := zrD zrw_cX3_mouth_0 (i := 23) (by decide +kernel) rfl
theorem dX3_mouth_26 : decode cX3_mouth 26 = .ok (.ifCond .ne 30, 3) := zrD zrw_cX3_mouth_0 (i := 26) (by decide +kernel) rfl
theorem dX3_mouth_29 : decode cX3_mouth 29 = .ok (.aload_n 0, 1) := zrD zrw_cX3_mouth_0 (i := 29) (by decide +kernel) rfl
theorem dX3_mouth_30 : decode cX3_mouth 30 = .ok (.iconst 1, 1) := zrD zrw_cX3_mouth_0 (i := 30) (by decide +kernel) rfl
def zrk_cX3_mouth_31 : ByteArray := .mk #[181, 0, 36, 42, 180, 0, 18, 180, 0, 113, 3, 31, 80, 42, 180, 0, 18, 3, 3, 3, 3, 3, 182, 0, 117, 177]
theorem zrw_cX3_mouth_31 : zrW 31 cX3_mouth zrk_cX3_mouth_31 := by unfold zrW; decide +kernel
theorem dX3_mouth_31 : decode cX3_mouth 31 = .ok (.putfield 36, 3) := zrD zrw_cX3_mouth_31 (i := 0) (by decide +kernel) rfl
theorem dX3_mouth_34 : decode cX3_mouth 34 = .ok (.aload_n 0, 1) := zrD zrw_cX3_mouth_31 (i := 3) (by decide +kernel) rfl
theorem dX3_mouth_35 : decode cX3_mouth 35 = .ok (.getfield 18, 3) := zrD zrw_cX3_mouth_31 (i := 4) (by decide +kernel) rfl
theorem dX3_mouth_38 : decode cX3_mouth 38 = .ok (.getfield 113, 3) := zrD zrw_cX3_mouth_31 (i := 7) (by decide +kernel) rfl
theorem dX3_mouth_41 : decode cX3_mouth 41 = .ok (.iconst 0, 1) := zrD zrw_cX3_mouth_31 (i := 10) (by decide +kernel) rfl
theorem dX3_mouth_42 : decode cX3_mouth 42 = .ok (.lload_n 1, 1) := zrD zrw_cX3_mouth_31 (i := 11) (by decide +kernel) rfl
theorem dX3_mouth_43 : decode cX3_mouth 43 = .ok (.lastore, 1) := zrD zrw_cX3_mouth_31 (i := 12) (by decide +kernel) rfl
theorem dX3_mouth_44 : decode cX3_mouth 44 = .ok (.aload_n 0, 1) := zrD zrw_cX3_mouth_31 (i := 13) (by decide +kernel) rfl
theorem dX3_mouth_45 : decode cX3_mouth 45 = .ok (.getfield 18, 3) := zrD zrw_cX3_mouth_31 (i := 14) (by decide +kernel) rfl
theorem dX3_mouth_48 : decode cX3_mouth 48 = .ok (.iconst 0, 1) := zrD zrw_cX3_mouth_31 (i := 17) (by decide +kernel) rfl
theorem dX3_mouth_49 : decode cX3_mouth 49 = .ok (.iconst 0, 1) := zrD zrw_cX3_mouth_31 (i := 18) (by decide +kernel) rfl
theorem dX3_mouth_50 : decode cX3_mouth 50 = .ok (.iconst 0, 1) := zrD zrw_cX3_mouth_31 (i := 19) (by decide +kernel) rfl
theorem dX3_mouth_51 : decode cX3_mouth 51 = .ok (.iconst 0, 1) := zrD zrw_cX3_mouth_31 (i := 20) (by decide +kernel) rfl
theorem dX3_mouth_52 : decode cX3_mouth 52 = .ok (.iconst 0, 1) := zrD zrw_cX3_mouth_31 (i := 21) (by decide +kernel) rfl
theorem dX3_mouth_53 : decode cX3_mouth 53 = .ok (.invokevirtual 117, 3) := zrD zrw_cX3_mouth_31 (i := 22) (by decide +kernel) rfl
theorem dX3_mouth_56 : decode cX3_mouth 56 = .ok (.return_, 1) := zrD zrw_cX3_mouth_31 (i := 25) (by decide +kernel) rfl
def zrk_cX3_newPlace_0 : ByteArray := .mk #[42, 180, 0, 40, 16, 11, 161, 0, 8, 42, 5, 182, 0, 106, 42, 4, 182, 0, 87, 42, 182, 0, 109, 64, 42, 182, 0, 121, 62, 42, 4]
theorem zrw_cX3_newPlace_0 : zrW 0 cX3_newPlace zrk_cX3_newPlace_0 := by unfold zrW; decide +kernel
theorem dX3_newPlace_0 : decode cX3_newPlace 0 = .ok (.aload_n 0, 1) := zrD zrw_cX3_newPlace_0 (i := 0) (by decide +kernel) rfl
theorem dX3_newPlace_1 : decode cX3_newPlace 1 = .ok (.getfield 40, 3) := zrD zrw_cX3_newPlace_0 (i := 1) (by decide +kernel) rfl
theorem dX3_newPlace_4 : decode cX3_newPlace 4 = .ok (.bipush 11, 2) := zrD zrw_cX3_newPlace_0 (i := 4) (by decide +kernel) rfl
theorem dX3_newPlace_6 : decode cX3_newPlace 6 = .ok (.if_icmp .lt 8, 3) := zrD zrw_cX3_newPlace_0 (i := 6) (by decide +kernel) rfl
theorem dX3_newPlace_9 : decode cX3_newPlace 9 = .ok (.aload_n 0, 1) := zrD zrw_cX3_newPlace_0 (i := 9) (by decide +kernel) rfl
theorem dX3_newPlace_10 : decode cX3_newPlace 10 = .ok (.iconst 2, 1) := zrD zrw_cX3_newPlace_0 (i := 10) (by decide +kernel) rfl
theorem dX3_newPlace_11 : decode cX3_newPlace 11 = .ok (.invokevirtual 106, 3) := zrD zrw_cX3_newPlace_0 (i := 11) (by decide +kernel) rfl
theorem dX3_newPlace_14 : decode cX3_newPlace 14 = .ok (.aload_n 0, 1) := zrD zrw_cX3_newPlace_0 (i := 14) (by decide +kernel) rfl
theorem dX3_newPlace_15 : decode cX3_newPlace 15 = .ok (.iconst 1, 1) := zrD zrw_cX3_newPlace_0 (i := 15) (by decide +kernel) rfl
theorem dX3_newPlace_16 : decode cX3_newPlace 16 = .ok (.invokevirtual 87, 3) := zrD zrw_cX3_newPlace_0 (i := 16) (by decide +kernel) rfl
theorem dX3_newPlace_19 : decode cX3_newPlace 19 = .ok (.aload_n 0, 1) := zrD zrw_cX3_newPlace_0 (i := 19) (by decide +kernel) rfl
theorem dX3_newPlace_20 : decode cX3_newPlace 20 = .ok (.invokevirtual 109, 3) := zrD zrw_cX3_newPlace_0 (i := 20) (by decide +kernel) rfl
theorem dX3_newPlace_23 : decode cX3_newPlace 23 = .ok (.lstore_n 1, 1) := zrD zrw_cX3_newPlace_0 (i := 23) (by decide +kernel) rfl
theorem dX3_newPlace_24 : decode cX3_newPlace 24 = .ok (.aload_n 0, 1) := zrD zrw_cX3_newPlace_0 (i := 24) (by decide +kernel) rfl
theorem dX3_newPlace_25 : decode cX3_newPlace 25 = .ok (.invokevirtual 121, 3) := zrD zrw_cX3_newPlace_0 (i := 25) (by decide +kernel) rfl
theorem dX3_newPlace_28 : decode cX3_newPlace 28 = .ok (.istore_n 3, 1) := zrD zrw_cX3_newPlace_0 (i := 28) (by decide +kernel) rfl
theorem dX3_newPlace_29 : decode cX3_newPlace 29 = .ok (.aload_n 0, 1) := zrD zrw_cX3_newPlace_0 (i := 29) (by decide +kernel) rfl
theorem dX3_newPlace_30 : decode cX3_newPlace 30 = .ok (.iconst 1, 1) := zrD zrw_cX3_newPlace_0 (i := 30) (by decide +kernel) rfl
def zrk_cX3_newPlace_31 : ByteArray := .mk #[16, 99, 182, 0, 90, 54, 4, 42, 3, 16, 99, 182, 0, 90, 54, 5, 42, 3, 16, 99, 182, 0, 90, 54, 6, 42, 180, 0, 43, 154, 0, 53]
theorem zrw_cX3_newPlace_31 : zrW 31 cX3_newPlace zrk_cX3_newPlace_31 := by unfold zrW; decide +kernel
theorem dX3_newPlace_31 : decode cX3_newPlace 31 = .ok (.bipush 99, 2) := zrD zrw_cX3_newPlace_31 (i := 0) (by decide +kernel) rfl
theorem dX3_newPlace_33 : decode cX3_newPlace 33 = .ok (.invokevirtual 90, 3) := zrD zrw_cX3_newPlace_31 (i := 2) (by decide +kernel) rfl
theorem dX3_newPlace_36 : decode cX3_newPlace 36 = .ok (.istore 4, 2) := zrD zrw_cX3_newPlace_31 (i := 5) (by decide +kernel) rfl
theorem dX3_newPlace_38 : decode cX3_newPlace 38 = .ok (.aload_n 0, 1) := zrD zrw_cX3_newPlace_31 (i := 7) (by decide +kernel) rfl
theorem dX3_newPlace_39 : decode cX3_newPlace 39 = .ok (.iconst 0, 1) := zrD zrw_cX3_newPlace_31 (i := 8) (by decide +kernel) rfl
theorem dX3_newPlace_40 : decode cX3_newPlace 40 = .ok (.bipush 99, 2) := zrD zrw_cX3_newPlace_31 (i := 9) (by decide +kernel) rfl
theorem dX3_newPlace_42 : decode cX3_newPlace 42 = .ok (.invokevirtual 90, 3) := zrD zrw_cX3_newPlace_31 (i := 11) (by decide +kernel) rfl
theorem dX3_newPlace_45 : decode cX3_newPlace 45 = .ok (.istore 5, 2) := zrD zrw_cX3_newPlace_31 (i := 14) (by decide +kernel) rfl
theorem dX3_newPlace_47 : decode cX3_newPlace 47 = .ok (.aload_n 0, 1) := zrD zrw_cX3_newPlace_31 (i := 16) (by decide +kernel) rfl
theorem dX3_newPlace_48 : decode cX3_newPlace 48 = .ok (.iconst 0, 1) := zrD zrw_cX3_newPlace_31 (i := 17) (by decide +kernel) rfl
theorem dX3_newPlace_49 : decode cX3_newPlace 49 = .ok (.bipush 99, 2) := zrD zrw_cX3_newPlace_31 (i := 18) (by decide +kernel) rfl
theorem dX3_newPlace_51 : decode cX3_newPlace 51 = .ok (.invokevirtual 90, 3) := zrD zrw_cX3_newPlace_31 (i := 20) (by decide +kernel) rfl
theorem dX3_newPlace_54 : decode cX3_newPlace 54 = .ok (.istore 6, 2) := zrD zrw_cX3_newPlace_31 (i := 23) (by decide +kernel) rfl
theorem dX3_newPlace_56 : decode cX3_newPlace 56 = .ok (.aload_n 0, 1) := zrD zrw_cX3_newPlace_31 (i := 25) (by decide +kernel) rfl
theorem dX3_newPlace_57 : decode cX3_newPlace 57 = .ok (.getfield 43, 3) := zrD zrw_cX3_newPlace_31 (i := 26) (by decide +kernel) rfl
theorem dX3_newPlace_60 : decode cX3_newPlace 60 = .ok (.ifCond .ne 53, 3) := zrD zrw_cX3_newPlace_31 (i := 29) (by decide +kernel) rfl
def zrk_cX3_newPlace_63 : ByteArray := .mk #[42, 180, 0, 40, 16, 11, 162, 0, 44, 42, 89, 180, 0, 40, 4, 96, 181, 0, 40, 42, 180, 0, 18, 180, 0, 113, 42, 180, 0, 40, 31, 80]
theorem zrw_cX3_newPlace_63 : zrW 63 cX3_newPlace zrk_cX3_newPlace_63 := by unfold zrW; decide +kernel
theorem dX3_newPlace_63 : decode cX3_newPlace 63 = .ok (.aload_n 0, 1) := zrD zrw_cX3_newPlace_63 (i := 0) (by decide +kernel) rfl
theorem dX3_newPlace_64 : decode cX3_newPlace 64 = .ok (.getfield 40, 3) := zrD zrw_cX3_newPlace_63 (i := 1) (by decide +kernel) rfl
theorem dX3_newPlace_67 : decode cX3_newPlace 67 = .ok (.bipush 11, 2) := zrD zrw_cX3_newPlace_63 (i := 4) (by decide +kernel) rfl
theorem dX3_newPlace_69 : decode cX3_newPlace 69 = .ok (.if_icmp .ge 44, 3) := zrD zrw_cX3_newPlace_63 (i := 6) (by decide +kernel) rfl
theorem dX3_newPlace_72 : decode cX3_newPlace 72 = .ok (.aload_n 0, 1) := zrD zrw_cX3_newPlace_63 (i := 9) (by decide +kernel) rfl
theorem dX3_newPlace_73 : decode cX3_newPlace 73 = .ok (.dup, 1) := zrD zrw_cX3_newPlace_63 (i := 10) (by decide +kernel) rfl
theorem dX3_newPlace_74 : decode cX3_newPlace 74 = .ok (.getfield 40, 3) := zrD zrw_cX3_newPlace_63 (i := 11) (by decide +kernel) rfl
theorem dX3_newPlace_77 : decode cX3_newPlace 77 = .ok (.iconst 1, 1) := zrD zrw_cX3_newPlace_63 (i := 14) (by decide +kernel) rfl
theorem dX3_newPlace_78 : decode cX3_newPlace 78 = .ok (.iadd, 1) := zrD zrw_cX3_newPlace_63 (i := 15) (by decide +kernel) rfl
theorem dX3_newPlace_79 : decode cX3_newPlace 79 = .ok (.putfield 40, 3) := zrD zrw_cX3_newPlace_63 (i := 16) (by decide +kernel) rfl
theorem dX3_newPlace_82 : decode cX3_newPlace 82 = .ok (.aload_n 0, 1) := zrD zrw_cX3_newPlace_63 (i := 19) (by decide +kernel) rfl
theorem dX3_newPlace_83 : decode cX3_newPlace 83 = .ok (.getfield 18, 3) := zrD zrw_cX3_newPlace_63 (i := 20) (by decide +kernel) rfl
theorem dX3_newPlace_86 : decode cX3_newPlace 86 = .ok (.getfield 113, 3) := zrD zrw_cX3_newPlace_63 (i := 23) (by decide +kernel) rfl
theorem dX3_newPlace_89 : decode cX3_newPlace 89 = .ok (.aload_n 0, 1) := zrD zrw_cX3_newPlace_63 (i := 26) (by decide +kernel) rfl
theorem dX3_newPlace_90 : decode cX3_newPlace 90 = .ok (.getfield 40, 3) := zrD zrw_cX3_newPlace_63 (i := 27) (by decide +kernel) rfl
theorem dX3_newPlace_93 : decode cX3_newPlace 93 = .ok (.lload_n 1, 1) := zrD zrw_cX3_newPlace_63 (i := 30) (by decide +kernel) rfl
theorem dX3_newPlace_94 : decode cX3_newPlace 94 = .ok (.lastore, 1) := zrD zrw_cX3_newPlace_63 (i := 31) (by decide +kernel) rfl
def zrk_cX3_newPlace_95 : ByteArray := .mk #[42, 180, 0, 18, 42, 180, 0, 40, 29, 21, 4, 21, 5, 21, 6, 182, 0, 117, 177]
theorem zrw_cX3_newPlace_95 : zrW 95 cX3_newPlace zrk_cX3_newPlace_95 := by unfold zrW; decide +kernel
theorem dX3_newPlace_95 : decode cX3_newPlace 95 = .ok (.aload_n 0, 1) := zrD zrw_cX3_newPlace_95 (i := 0) (by decide +kernel) rfl
theorem dX3_newPlace_96 : decode cX3_newPlace 96 = .ok (.getfield 18, 3) := zrD zrw_cX3_newPlace_95 (i := 1) (by decide +kernel) rfl
theorem dX3_newPlace_99 : decode cX3_newPlace 99 = .ok (.aload_n 0, 1) := zrD zrw_cX3_newPlace_95 (i := 4) (by decide +kernel) rfl
theorem dX3_newPlace_100 : decode cX3_newPlace 100 = .ok (.getfield 40, 3) := zrD zrw_cX3_newPlace_95 (i := 5) (by decide +kernel) rfl
theorem dX3_newPlace_103 : decode cX3_newPlace 103 = .ok (.iload_n 3, 1) := zrD zrw_cX3_newPlace_95 (i := 8) (by decide +kernel) rfl
theorem dX3_newPlace_104 : decode cX3_newPlace 104 = .ok (.iload 4, 2) := zrD zrw_cX3_newPlace_95 (i := 9) (by decide +kernel) rfl
theorem dX3_newPlace_106 : decode cX3_newPlace 106 = .ok (.iload 5, 2) := zrD zrw_cX3_newPlace_95 (i := 11) (by decide +kernel) rfl
theorem dX3_newPlace_108 : decode cX3_newPlace 108 = .ok (.iload 6, 2) := zrD zrw_cX3_newPlace_95 (i := 13) (by decide +kernel) rfl
theorem dX3_newPlace_110 : decode cX3_newPlace 110 = .ok (.invokevirtual 117, 3) := zrD zrw_cX3_newPlace_95 (i := 15) (by decide +kernel) rfl
theorem dX3_newPlace_113 : decode cX3_newPlace 113 = .ok (.return_, 1) := zrD zrw_cX3_newPlace_95 (i := 18) (by decide +kernel) rfl
def zrk_cX3_newName_0 : ByteArray := .mk #[42, 180, 0, 29, 64, 42, 180, 0, 26, 16, 22, 160, 0, 17, 42, 31, 182, 0, 125, 2, 159, 0, 8, 42, 6, 182, 0, 129, 42, 16, 22]
theorem zrw_cX3_newName_0 : zrW 0 cX3_newName zrk_cX3_newName_0 := by unfold zrW; decide +kernel
theorem dX3_newName_0 : decode cX3_newName 0 = .ok (.aload_n 0, 1) := zrD zrw_cX3_newName_0 (i := 0) (by decide +kernel) rfl
theorem dX3_newName_1 : decode cX3_newName 1 = .ok (.getfield 29, 3) := zrD zrw_cX3_newName_0 (i := 1) (by decide +kernel) rfl
theorem dX3_newName_4 : decode cX3_newName 4 = .ok (.lstore_n 1, 1) := zrD zrw_cX3_newName_0 (i := 4) (by decide +kernel) rfl
theorem dX3_newName_5 : decode cX3_newName 5 = .ok (.aload_n 0, 1) := zrD zrw_cX3_newName_0 (i := 5) (by decide +kernel) rfl
theorem dX3_newName_6 : decode cX3_newName 6 = .ok (.getfield 26, 3) := zrD zrw_cX3_newName_0 (i := 6) (by decide +kernel) rfl
theorem dX3_newName_9 : decode cX3_newName 9 = .ok (.bipush 22, 2) := zrD zrw_cX3_newName_0 (i := 9) (by decide +kernel) rfl
theorem dX3_newName_11 : decode cX3_newName 11 = .ok (.if_icmp .ne 17, 3) := zrD zrw_cX3_newName_0 (i := 11) (by decide +kernel) rfl
theorem dX3_newName_14 : decode cX3_newName 14 = .ok (.aload_n 0, 1) := zrD zrw_cX3_newName_0 (i := 14) (by decide +kernel) rfl
theorem dX3_newName_15 : decode cX3_newName 15 = .ok (.lload_n 1, 1) := zrD zrw_cX3_newName_0 (i := 15) (by decide +kernel) rfl
theorem dX3_newName_16 : decode cX3_newName 16 = .ok (.invokevirtual 125, 3) := zrD zrw_cX3_newName_0 (i := 16) (by decide +kernel) rfl
theorem dX3_newName_19 : decode cX3_newName 19 = .ok (.iconst (-1), 1) := zrD zrw_cX3_newName_0 (i := 19) (by decide +kernel) rfl
theorem dX3_newName_20 : decode cX3_newName 20 = .ok (.if_icmp .eq 8, 3) := zrD zrw_cX3_newName_0 (i := 20) (by decide +kernel) rfl
theorem dX3_newName_23 : decode cX3_newName 23 = .ok (.aload_n 0, 1) := zrD zrw_cX3_newName_0 (i := 23) (by decide +kernel) rfl
theorem dX3_newName_24 : decode cX3_newName 24 = .ok (.iconst 3, 1) := zrD zrw_cX3_newName_0 (i := 24) (by decide +kernel) rfl
theorem dX3_newName_25 : decode cX3_newName 25 = .ok (.invokevirtual 129, 3) := zrD zrw_cX3_newName_0 (i := 25) (by decide +kernel) rfl
theorem dX3_newName_28 : decode cX3_newName 28 = .ok (.aload_n 0, 1) := zrD zrw_cX3_newName_0 (i := 28) (by decide +kernel) rfl
theorem dX3_newName_29 : decode cX3_newName 29 = .ok (.bipush 22, 2) := zrD zrw_cX3_newName_0 (i := 29) (by decide +kernel) rfl
def zrk_cX3_newName_31 : ByteArray := .mk #[182, 0, 87, 31, 173]
theorem zrw_cX3_newName_31 : zrW 31 cX3_newName zrk_cX3_newName_31 := by unfold zrW; decide +kernel
theorem dX3_newName_31 : decode cX3_newName 31 = .ok (.invokevirtual 87, 3) := zrD zrw_cX3_newName_31 (i := 0) (by decide +kernel) rfl
theorem dX3_newName_34 : decode cX3_newName 34 = .ok (.lload_n 1, 1) := zrD zrw_cX3_newName_31 (i := 3) (by decide +kernel) rfl
theorem dX3_newName_35 : decode cX3_newName 35 = .ok (.lreturn, 1) := zrD zrw_cX3_newName_31 (i := 4) (by decide +kernel) rfl
def zrk_cX3_knownName_0 : ByteArray := .mk #[42, 42, 180, 0, 29, 182, 0, 125, 60, 42, 180, 0, 26, 16, 22, 160, 0, 13, 27, 2, 160, 0, 8, 42, 7, 182, 0, 129, 42, 16, 22]
theorem zrw_cX3_knownName_0 : zrW 0 cX3_knownName zrk_cX3_knownName_0 := by unfold zrW; decide +kernel
theorem dX3_knownName_0 : decode cX3_knownName 0 = .ok (.aload_n 0, 1) := zrD zrw_cX3_knownName_0 (i := 0) (by decide +kernel) rfl
theorem dX3_knownName_1 : decode cX3_knownName 1 = .ok (.aload_n 0, 1) := zrD zrw_cX3_knownName_0 (i := 1) (by decide +kernel) rfl
theorem dX3_knownName_2 : decode cX3_knownName 2 = .ok (.getfield 29, 3) := zrD zrw_cX3_knownName_0 (i := 2) (by decide +kernel) rfl
theorem dX3_knownName_5 : decode cX3_knownName 5 = .ok (.invokevirtual 125, 3) := zrD zrw_cX3_knownName_0 (i := 5) (by decide +kernel) rfl
theorem dX3_knownName_8 : decode cX3_knownName 8 = .ok (.istore_n 1, 1) := zrD zrw_cX3_knownName_0 (i := 8) (by decide +kernel) rfl
theorem dX3_knownName_9 : decode cX3_knownName 9 = .ok (.aload_n 0, 1) := zrD zrw_cX3_knownName_0 (i := 9) (by decide +kernel) rfl
theorem dX3_knownName_10 : decode cX3_knownName 10 = .ok (.getfield 26, 3) := zrD zrw_cX3_knownName_0 (i := 10) (by decide +kernel) rfl
theorem dX3_knownName_13 : decode cX3_knownName 13 = .ok (.bipush 22, 2) := zrD zrw_cX3_knownName_0 (i := 13) (by decide +kernel) rfl
theorem dX3_knownName_15 : decode cX3_knownName 15 = .ok (.if_icmp .ne 13, 3) := zrD zrw_cX3_knownName_0 (i := 15) (by decide +kernel) rfl
theorem dX3_knownName_18 : decode cX3_knownName 18 = .ok (.iload_n 1, 1) := zrD zrw_cX3_knownName_0 (i := 18) (by decide +kernel) rfl
theorem dX3_knownName_19 : decode cX3_knownName 19 = .ok (.iconst (-1), 1) := zrD zrw_cX3_knownName_0 (i := 19) (by decide +kernel) rfl
theorem dX3_knownName_20 : decode cX3_knownName 20 = .ok (.if_icmp .ne 8, 3) := zrD zrw_cX3_knownName_0 (i := 20) (by decide +kernel) rfl
theorem dX3_knownName_23 : decode cX3_knownName 23 = .ok (.aload_n 0, 1) := zrD zrw_cX3_knownName_0 (i := 23) (by decide +kernel) rfl
theorem dX3_knownName_24 : decode cX3_knownName 24 = .ok (.iconst 4, 1) := zrD zrw_cX3_knownName_0 (i := 24) (by decide +kernel) rfl
theorem dX3_knownName_25 : decode cX3_knownName 25 = .ok (.invokevirtual 129, 3) := zrD zrw_cX3_knownName_0 (i := 25) (by decide +kernel) rfl
theorem dX3_knownName_28 : decode cX3_knownName 28 = .ok (.aload_n 0, 1) := zrD zrw_cX3_knownName_0 (i := 28) (by decide +kernel) rfl
theorem dX3_knownName_29 : decode cX3_knownName 29 = .ok (.bipush 22, 2) := zrD zrw_cX3_knownName_0 (i := 29) (by decide +kernel) rfl
def zrk_cX3_knownName_31 : ByteArray := .mk #[182, 0, 87, 3, 27, 184, 0, 132, 172]
theorem zrw_cX3_knownName_31 : zrW 31 cX3_knownName zrk_cX3_knownName_31 := by unfold zrW; decide +kernel
theorem dX3_knownName_31 : decode cX3_knownName 31 = .ok (.invokevirtual 87, 3) := zrD zrw_cX3_knownName_31 (i := 0) (by decide +kernel) rfl
theorem dX3_knownName_34 : decode cX3_knownName 34 = .ok (.iconst 0, 1) := zrD zrw_cX3_knownName_31 (i := 3) (by decide +kernel) rfl
theorem dX3_knownName_35 : decode cX3_knownName 35 = .ok (.iload_n 1, 1) := zrD zrw_cX3_knownName_31 (i := 4) (by decide +kernel) rfl
theorem dX3_knownName_36 : decode cX3_knownName 36 = .ok (.invokestatic 132, 3) := zrD zrw_cX3_knownName_31 (i := 5) (by decide +kernel) rfl
theorem dX3_knownName_39 : decode cX3_knownName 39 = .ok (.ireturn, 1) := zrD zrw_cX3_knownName_31 (i := 8) (by decide +kernel) rfl
def zrk_cX3_placeNamed_0 : ByteArray := .mk #[42, 180, 0, 36, 153, 0, 7, 3, 167, 0, 4, 4, 62, 29, 42, 180, 0, 40, 163, 0, 31, 29, 16, 12, 162, 0, 25, 42, 180, 0, 18]
theorem zrw_cX3_placeNamed_0 : zrW 0 cX3_placeNamed zrk_cX3_placeNamed_0 := by unfold zrW; decide +kernel
theorem dX3_placeNamed_0 : decode cX3_placeNamed 0 = .ok (.aload_n 0, 1) := zrD zrw_cX3_placeNamed_0 (i := 0) (by decide +kernel) rfl
theorem dX3_placeNamed_1 : decode cX3_placeNamed 1 = .ok (.getfield 36, 3) := zrD zrw_cX3_placeNamed_0 (i := 1) (by decide +kernel) rfl
theorem dX3_placeNamed_4 : decode cX3_placeNamed 4 = .ok (.ifCond .eq 7, 3) := zrD zrw_cX3_placeNamed_0 (i := 4) (by decide +kernel) rfl
theorem dX3_placeNamed_7 : decode cX3_placeNamed 7 = .ok (.iconst 0, 1) := zrD zrw_cX3_placeNamed_0 (i := 7) (by decide +kernel) rfl
theorem dX3_placeNamed_8 : decode cX3_placeNamed 8 = .ok (.goto 4, 3) := zrD zrw_cX3_placeNamed_0 (i := 8) (by decide +kernel) rfl
theorem dX3_placeNamed_11 : decode cX3_placeNamed 11 = .ok (.iconst 1, 1) := zrD zrw_cX3_placeNamed_0 (i := 11) (by decide +kernel) rfl
theorem dX3_placeNamed_12 : decode cX3_placeNamed 12 = .ok (.istore_n 3, 1) := zrD zrw_cX3_placeNamed_0 (i := 12) (by decide +kernel) rfl
theorem dX3_placeNamed_13 : decode cX3_placeNamed 13 = .ok (.iload_n 3, 1) := zrD zrw_cX3_placeNamed_0 (i := 13) (by decide +kernel) rfl
theorem dX3_placeNamed_14 : decode cX3_placeNamed 14 = .ok (.aload_n 0, 1) := zrD zrw_cX3_placeNamed_0 (i := 14) (by decide +kernel) rfl
theorem dX3_placeNamed_15 : decode cX3_placeNamed 15 = .ok (.getfield 40, 3) := zrD zrw_cX3_placeNamed_0 (i := 15) (by decide +kernel) rfl
theorem dX3_placeNamed_18 : decode cX3_placeNamed 18 = .ok (.if_icmp .gt 31, 3) := zrD zrw_cX3_placeNamed_0 (i := 18) (by decide +kernel) rfl
theorem dX3_placeNamed_21 : decode cX3_placeNamed 21 = .ok (.iload_n 3, 1) := zrD zrw_cX3_placeNamed_0 (i := 21) (by decide +kernel) rfl
theorem dX3_placeNamed_22 : decode cX3_placeNamed 22 = .ok (.bipush 12, 2) := zrD zrw_cX3_placeNamed_0 (i := 22) (by decide +kernel) rfl
theorem dX3_placeNamed_24 : decode cX3_placeNamed 24 = .ok (.if_icmp .ge 25, 3) := zrD zrw_cX3_placeNamed_0 (i := 24) (by decide +kernel) rfl
theorem dX3_placeNamed_27 : decode cX3_placeNamed 27 = .ok (.aload_n 0, 1) := zrD zrw_cX3_placeNamed_0 (i := 27) (by decide +kernel) rfl
theorem dX3_placeNamed_28 : decode cX3_placeNamed 28 = .ok (.getfield 18, 3) := zrD zrw_cX3_placeNamed_0 (i := 28) (by decide +kernel) rfl
def zrk_cX3_placeNamed_31 : ByteArray := .mk #[180, 0, 113, 29, 47, 31, 148, 154, 0, 5, 29, 172, 132, 3, 1, 167, 255, 223, 2, 172]
theorem zrw_cX3_placeNamed_31 : zrW 31 cX3_placeNamed zrk_cX3_placeNamed_31 := by unfold zrW; decide +kernel
theorem dX3_placeNamed_31 : decode cX3_placeNamed 31 = .ok (.getfield 113, 3) := zrD zrw_cX3_placeNamed_31 (i := 0) (by decide +kernel) rfl
theorem dX3_placeNamed_34 : decode cX3_placeNamed 34 = .ok (.iload_n 3, 1) := zrD zrw_cX3_placeNamed_31 (i := 3) (by decide +kernel) rfl
theorem dX3_placeNamed_35 : decode cX3_placeNamed 35 = .ok (.laload, 1) := zrD zrw_cX3_placeNamed_31 (i := 4) (by decide +kernel) rfl
theorem dX3_placeNamed_36 : decode cX3_placeNamed 36 = .ok (.lload_n 1, 1) := zrD zrw_cX3_placeNamed_31 (i := 5) (by decide +kernel) rfl
theorem dX3_placeNamed_37 : decode cX3_placeNamed 37 = .ok (.lcmp, 1) := zrD zrw_cX3_placeNamed_31 (i := 6) (by decide +kernel) rfl
theorem dX3_placeNamed_38 : decode cX3_placeNamed 38 = .ok (.ifCond .ne 5, 3) := zrD zrw_cX3_placeNamed_31 (i := 7) (by decide +kernel) rfl
theorem dX3_placeNamed_41 : decode cX3_placeNamed 41 = .ok (.iload_n 3, 1) := zrD zrw_cX3_placeNamed_31 (i := 10) (by decide +kernel) rfl
theorem dX3_placeNamed_42 : decode cX3_placeNamed 42 = .ok (.ireturn, 1) := zrD zrw_cX3_placeNamed_31 (i := 11) (by decide +kernel) rfl
theorem dX3_placeNamed_43 : decode cX3_placeNamed 43 = .ok (.iinc 3 1, 3) := zrD zrw_cX3_placeNamed_31 (i := 12) (by decide +kernel) rfl
theorem dX3_placeNamed_46 : decode cX3_placeNamed 46 = .ok (.goto (-33), 3) := zrD zrw_cX3_placeNamed_31 (i := 15) (by decide +kernel) rfl
theorem dX3_placeNamed_49 : decode cX3_placeNamed 49 = .ok (.iconst (-1), 1) := zrD zrw_cX3_placeNamed_31 (i := 18) (by decide +kernel) rfl
theorem dX3_placeNamed_50 : decode cX3_placeNamed 50 = .ok (.ireturn, 1) := zrD zrw_cX3_placeNamed_31 (i := 19) (by decide +kernel) rfl
def zrk_cX3_number_0 : ByteArray := .mk #[42, 180, 0, 29, 136, 62, 42, 180, 0, 26, 16, 23, 160, 0, 17, 29, 27, 28, 184, 0, 80, 154, 0, 8, 42, 8, 182, 0, 129, 42, 16, 23]
theorem zrw_cX3_number_0 : zrW 0 cX3_number zrk_cX3_number_0 := by unfold zrW; decide +kernel
theorem dX3_number_0 : decode cX3_number 0 = .ok (.aload_n 0, 1) := zrD zrw_cX3_number_0 (i := 0) (by decide +kernel) rfl
theorem dX3_number_1 : decode cX3_number 1 = .ok (.getfield 29, 3) := zrD zrw_cX3_number_0 (i := 1) (by decide +kernel) rfl
theorem dX3_number_4 : decode cX3_number 4 = .ok (.l2i, 1) := zrD zrw_cX3_number_0 (i := 4) (by decide +kernel) rfl
theorem dX3_number_5 : decode cX3_number 5 = .ok (.istore_n 3, 1) := zrD zrw_cX3_number_0 (i := 5) (by decide +kernel) rfl
theorem dX3_number_6 : decode cX3_number 6 = .ok (.aload_n 0, 1) := zrD zrw_cX3_number_0 (i := 6) (by decide +kernel) rfl
theorem dX3_number_7 : decode cX3_number 7 = .ok (.getfield 26, 3) := zrD zrw_cX3_number_0 (i := 7) (by decide +kernel) rfl
theorem dX3_number_10 : decode cX3_number 10 = .ok (.bipush 23, 2) := zrD zrw_cX3_number_0 (i := 10) (by decide +kernel) rfl
theorem dX3_number_12 : decode cX3_number 12 = .ok (.if_icmp .ne 17, 3) := zrD zrw_cX3_number_0 (i := 12) (by decide +kernel) rfl
theorem dX3_number_15 : decode cX3_number 15 = .ok (.iload_n 3, 1) := zrD zrw_cX3_number_0 (i := 15) (by decide +kernel) rfl
theorem dX3_number_16 : decode cX3_number 16 = .ok (.iload_n 1, 1) := zrD zrw_cX3_number_0 (i := 16) (by decide +kernel) rfl
theorem dX3_number_17 : decode cX3_number 17 = .ok (.iload_n 2, 1) := zrD zrw_cX3_number_0 (i := 17) (by decide +kernel) rfl
theorem dX3_number_18 : decode cX3_number 18 = .ok (.invokestatic 80, 3) := zrD zrw_cX3_number_0 (i := 18) (by decide +kernel) rfl
theorem dX3_number_21 : decode cX3_number 21 = .ok (.ifCond .ne 8, 3) := zrD zrw_cX3_number_0 (i := 21) (by decide +kernel) rfl
theorem dX3_number_24 : decode cX3_number 24 = .ok (.aload_n 0, 1) := zrD zrw_cX3_number_0 (i := 24) (by decide +kernel) rfl
theorem dX3_number_25 : decode cX3_number 25 = .ok (.iconst 5, 1) := zrD zrw_cX3_number_0 (i := 25) (by decide +kernel) rfl
theorem dX3_number_26 : decode cX3_number 26 = .ok (.invokevirtual 129, 3) := zrD zrw_cX3_number_0 (i := 26) (by decide +kernel) rfl
theorem dX3_number_29 : decode cX3_number 29 = .ok (.aload_n 0, 1) := zrD zrw_cX3_number_0 (i := 29) (by decide +kernel) rfl
theorem dX3_number_30 : decode cX3_number 30 = .ok (.bipush 23, 2) := zrD zrw_cX3_number_0 (i := 30) (by decide +kernel) rfl
def zrk_cX3_number_32 : ByteArray := .mk #[182, 0, 87, 29, 172]
theorem zrw_cX3_number_32 : zrW 32 cX3_number zrk_cX3_number_32 := by unfold zrW; decide +kernel
theorem dX3_number_32 : decode cX3_number 32 = .ok (.invokevirtual 87, 3) := zrD zrw_cX3_number_32 (i := 0) (by decide +kernel) rfl
theorem dX3_number_35 : decode cX3_number 35 = .ok (.iload_n 3, 1) := zrD zrw_cX3_number_32 (i := 3) (by decide +kernel) rfl
theorem dX3_number_36 : decode cX3_number 36 = .ok (.ireturn, 1) := zrD zrw_cX3_number_32 (i := 4) (by decide +kernel) rfl
def zrk_cX3_law_0 : ByteArray := .mk #[42, 5, 27, 96, 182, 0, 87, 42, 16, 25, 182, 0, 87, 42, 180, 0, 18, 180, 0, 137, 61, 3, 62, 29, 7, 163, 0, 112, 42, 180, 0, 26]
theorem zrw_cX3_law_0 : zrW 0 cX3_law zrk_cX3_law_0 := by unfold zrW; decide +kernel
theorem dX3_law_0 : decode cX3_law 0 = .ok (.aload_n 0, 1) := zrD zrw_cX3_law_0 (i := 0) (by decide +kernel) rfl
theorem dX3_law_1 : decode cX3_law 1 = .ok (.iconst 2, 1) := zrD zrw_cX3_law_0 (i := 1) (by decide +kernel) rfl
theorem dX3_law_2 : decode cX3_law 2 = .ok (.iload_n 1, 1) := zrD zrw_cX3_law_0 (i := 2) (by decide +kernel) rfl
theorem dX3_law_3 : decode cX3_law 3 = .ok (.iadd, 1) := zrD zrw_cX3_law_0 (i := 3) (by decide +kernel) rfl
theorem dX3_law_4 : decode cX3_law 4 = .ok (.invokevirtual 87, 3) := zrD zrw_cX3_law_0 (i := 4) (by decide +kernel) rfl
theorem dX3_law_7 : decode cX3_law 7 = .ok (.aload_n 0, 1) := zrD zrw_cX3_law_0 (i := 7) (by decide +kernel) rfl
theorem dX3_law_8 : decode cX3_law 8 = .ok (.bipush 25, 2) := zrD zrw_cX3_law_0 (i := 8) (by decide +kernel) rfl
theorem dX3_law_10 : decode cX3_law 10 = .ok (.invokevirtual 87, 3) := zrD zrw_cX3_law_0 (i := 10) (by decide +kernel) rfl
theorem dX3_law_13 : decode cX3_law 13 = .ok (.aload_n 0, 1) := zrD zrw_cX3_law_0 (i := 13) (by decide +kernel) rfl
theorem dX3_law_14 : decode cX3_law 14 = .ok (.getfield 18, 3) := zrD zrw_cX3_law_0 (i := 14) (by decide +kernel) rfl
theorem dX3_law_17 : decode cX3_law 17 = .ok (.getfield 137, 3) := zrD zrw_cX3_law_0 (i := 17) (by decide +kernel) rfl
theorem dX3_law_20 : decode cX3_law 20 = .ok (.istore_n 2, 1) := zrD zrw_cX3_law_0 (i := 20) (by decide +kernel) rfl
theorem dX3_law_21 : decode cX3_law 21 = .ok (.iconst 0, 1) := zrD zrw_cX3_law_0 (i := 21) (by decide +kernel) rfl
theorem dX3_law_22 : decode cX3_law 22 = .ok (.istore_n 3, 1) := zrD zrw_cX3_law_0 (i := 22) (by decide +kernel) rfl
theorem dX3_law_23 : decode cX3_law 23 = .ok (.iload_n 3, 1) := zrD zrw_cX3_law_0 (i := 23) (by decide +kernel) rfl
theorem dX3_law_24 : decode cX3_law 24 = .ok (.iconst 4, 1) := zrD zrw_cX3_law_0 (i := 24) (by decide +kernel) rfl
theorem dX3_law_25 : decode cX3_law 25 = .ok (.if_icmp .gt 112, 3) := zrD zrw_cX3_law_0 (i := 25) (by decide +kernel) rfl
theorem dX3_law_28 : decode cX3_law 28 = .ok (.aload_n 0, 1) := zrD zrw_cX3_law_0 (i := 28) (by decide +kernel) rfl
theorem dX3_law_29 : decode cX3_law 29 = .ok (.getfield 26, 3) := zrD zrw_cX3_law_0 (i := 29) (by decide +kernel) rfl
def zrk_cX3_law_32 : ByteArray := .mk #[16, 10, 160, 0, 103, 29, 7, 160, 0, 8, 42, 5, 182, 0, 106, 42, 16, 10, 182, 0, 87, 42, 3, 182, 0, 140, 42, 16, 30, 182, 0, 87]
theorem zrw_cX3_law_32 : zrW 32 cX3_law zrk_cX3_law_32 := by unfold zrW; decide +kernel
theorem dX3_law_32 : decode cX3_law 32 = .ok (.bipush 10, 2) := zrD zrw_cX3_law_32 (i := 0) (by decide +kernel) rfl
theorem dX3_law_34 : decode cX3_law 34 = .ok (.if_icmp .ne 103, 3) := zrD zrw_cX3_law_32 (i := 2) (by decide +kernel) rfl
theorem dX3_law_37 : decode cX3_law 37 = .ok (.iload_n 3, 1) := zrD zrw_cX3_law_32 (i := 5) (by decide +kernel) rfl
theorem dX3_law_38 : decode cX3_law 38 = .ok (.iconst 4, 1) := zrD zrw_cX3_law_32 (i := 6) (by decide +kernel) rfl
theorem dX3_law_39 : decode cX3_law 39 = .ok (.if_icmp .ne 8, 3) := zrD zrw_cX3_law_32 (i := 7) (by decide +kernel) rfl
theorem dX3_law_42 : decode cX3_law 42 = .ok (.aload_n 0, 1) := zrD zrw_cX3_law_32 (i := 10) (by decide +kernel) rfl
theorem dX3_law_43 : decode cX3_law 43 = .ok (.iconst 2, 1) := zrD zrw_cX3_law_32 (i := 11) (by decide +kernel) rfl
theorem dX3_law_44 : decode cX3_law 44 = .ok (.invokevirtual 106, 3) := zrD zrw_cX3_law_32 (i := 12) (by decide +kernel) rfl
theorem dX3_law_47 : decode cX3_law 47 = .ok (.aload_n 0, 1) := zrD zrw_cX3_law_32 (i := 15) (by decide +kernel) rfl
theorem dX3_law_48 : decode cX3_law 48 = .ok (.bipush 10, 2) := zrD zrw_cX3_law_32 (i := 16) (by decide +kernel) rfl
theorem dX3_law_50 : decode cX3_law 50 = .ok (.invokevirtual 87, 3) := zrD zrw_cX3_law_32 (i := 18) (by decide +kernel) rfl
theorem dX3_law_53 : decode cX3_law 53 = .ok (.aload_n 0, 1) := zrD zrw_cX3_law_32 (i := 21) (by decide +kernel) rfl
theorem dX3_law_54 : decode cX3_law 54 = .ok (.iconst 0, 1) := zrD zrw_cX3_law_32 (i := 22) (by decide +kernel) rfl
theorem dX3_law_55 : decode cX3_law 55 = .ok (.invokevirtual 140, 3) := zrD zrw_cX3_law_32 (i := 23) (by decide +kernel) rfl
theorem dX3_law_58 : decode cX3_law 58 = .ok (.aload_n 0, 1) := zrD zrw_cX3_law_32 (i := 26) (by decide +kernel) rfl
theorem dX3_law_59 : decode cX3_law 59 = .ok (.bipush 30, 2) := zrD zrw_cX3_law_32 (i := 27) (by decide +kernel) rfl
theorem dX3_law_61 : decode cX3_law 61 = .ok (.invokevirtual 87, 3) := zrD zrw_cX3_law_32 (i := 29) (by decide +kernel) rfl
def zrk_cX3_law_64 : ByteArray := .mk #[42, 3, 182, 0, 140, 42, 16, 11, 182, 0, 87, 42, 180, 0, 18, 180, 0, 137, 54, 4, 42, 180, 0, 18, 16, 6, 3, 182, 0, 145, 42, 3]
theorem zrw_cX3_law_64 : zrW 64 cX3_law zrk_cX3_law_64 := by unfold zrW; decide +kernel
theorem dX3_law_64 : decode cX3_law 64 = .ok (.aload_n 0, 1) := zrD zrw_cX3_law_64 (i := 0) (by decide +kernel) rfl
theorem dX3_law_65 : decode cX3_law 65 = .ok (.iconst 0, 1) := zrD zrw_cX3_law_64 (i := 1) (by decide +kernel) rfl
theorem dX3_law_66 : decode cX3_law 66 = .ok (.invokevirtual 140, 3) := zrD zrw_cX3_law_64 (i := 2) (by decide +kernel) rfl
theorem dX3_law_69 : decode cX3_law 69 = .ok (.aload_n 0, 1) := zrD zrw_cX3_law_64 (i := 5) (by decide +kernel) rfl
theorem dX3_law_70 : decode cX3_law 70 = .ok (.bipush 11, 2) := zrD zrw_cX3_law_64 (i := 6) (by decide +kernel) rfl
theorem dX3_law_72 : decode cX3_law 72 = .ok (.invokevirtual 87, 3) := zrD zrw_cX3_law_64 (i := 8) (by decide +kernel) rfl
theorem dX3_law_75 : decode cX3_law 75 = .ok (.aload_n 0, 1) := zrD zrw_cX3_law_64 (i := 11) (by decide +kernel) rfl
theorem dX3_law_76 : decode cX3_law 76 = .ok (.getfield 18, 3) := zrD zrw_cX3_law_64 (i := 12) (by decide +kernel) rfl
theorem dX3_law_79 : decode cX3_law 79 = .ok (.getfield 137, 3) := zrD zrw_cX3_law_64 (i := 15) (by decide +kernel) rfl
theorem dX3_law_82 : decode cX3_law 82 = .ok (.istore 4, 2) := zrD zrw_cX3_law_64 (i := 18) (by decide +kernel) rfl
theorem dX3_law_84 : decode cX3_law 84 = .ok (.aload_n 0, 1) := zrD zrw_cX3_law_64 (i := 20) (by decide +kernel) rfl
theorem dX3_law_85 : decode cX3_law 85 = .ok (.getfield 18, 3) := zrD zrw_cX3_law_64 (i := 21) (by decide +kernel) rfl
theorem dX3_law_88 : decode cX3_law 88 = .ok (.bipush 6, 2) := zrD zrw_cX3_law_64 (i := 24) (by decide +kernel) rfl
theorem dX3_law_90 : decode cX3_law 90 = .ok (.iconst 0, 1) := zrD zrw_cX3_law_64 (i := 26) (by decide +kernel) rfl
theorem dX3_law_91 : decode cX3_law 91 = .ok (.invokevirtual 145, 3) := zrD zrw_cX3_law_64 (i := 27) (by decide +kernel) rfl
theorem dX3_law_94 : decode cX3_law 94 = .ok (.aload_n 0, 1) := zrD zrw_cX3_law_64 (i := 30) (by decide +kernel) rfl
theorem dX3_law_95 : decode cX3_law 95 = .ok (.iconst 0, 1) := zrD zrw_cX3_law_64 (i := 31) (by decide +kernel) rfl
def zrk_cX3_law_96 : ByteArray := .mk #[182, 0, 140, 42, 16, 12, 182, 0, 87, 42, 180, 0, 18, 16, 7, 3, 182, 0, 145, 42, 180, 0, 18, 21, 4, 42, 180, 0, 18, 180, 0, 137]
theorem zrw_cX3_law_96 : zrW 96 cX3_law zrk_cX3_law_96 := by unfold zrW; decide +kernel
theorem dX3_law_96 : decode cX3_law 96 = .ok (.invokevirtual 140, 3) := zrD zrw_cX3_law_96 (i := 0) (by decide +kernel) rfl
theorem dX3_law_99 : decode cX3_law 99 = .ok (.aload_n 0, 1) := zrD zrw_cX3_law_96 (i := 3) (by decide +kernel) rfl
theorem dX3_law_100 : decode cX3_law 100 = .ok (.bipush 12, 2) := zrD zrw_cX3_law_96 (i := 4) (by decide +kernel) rfl
theorem dX3_law_102 : decode cX3_law 102 = .ok (.invokevirtual 87, 3) := zrD zrw_cX3_law_96 (i := 6) (by decide +kernel) rfl
theorem dX3_law_105 : decode cX3_law 105 = .ok (.aload_n 0, 1) := zrD zrw_cX3_law_96 (i := 9) (by decide +kernel) rfl
theorem dX3_law_106 : decode cX3_law 106 = .ok (.getfield 18, 3) := zrD zrw_cX3_law_96 (i := 10) (by decide +kernel) rfl
theorem dX3_law_109 : decode cX3_law 109 = .ok (.bipush 7, 2) := zrD zrw_cX3_law_96 (i := 13) (by decide +kernel) rfl
theorem dX3_law_111 : decode cX3_law 111 = .ok (.iconst 0, 1) := zrD zrw_cX3_law_96 (i := 15) (by decide +kernel) rfl
theorem dX3_law_112 : decode cX3_law 112 = .ok (.invokevirtual 145, 3) := zrD zrw_cX3_law_96 (i := 16) (by decide +kernel) rfl
theorem dX3_law_115 : decode cX3_law 115 = .ok (.aload_n 0, 1) := zrD zrw_cX3_law_96 (i := 19) (by decide +kernel) rfl
theorem dX3_law_116 : decode cX3_law 116 = .ok (.getfield 18, 3) := zrD zrw_cX3_law_96 (i := 20) (by decide +kernel) rfl
theorem dX3_law_119 : decode cX3_law 119 = .ok (.iload 4, 2) := zrD zrw_cX3_law_96 (i := 23) (by decide +kernel) rfl
theorem dX3_law_121 : decode cX3_law 121 = .ok (.aload_n 0, 1) := zrD zrw_cX3_law_96 (i := 25) (by decide +kernel) rfl
theorem dX3_law_122 : decode cX3_law 122 = .ok (.getfield 18, 3) := zrD zrw_cX3_law_96 (i := 26) (by decide +kernel) rfl
theorem dX3_law_125 : decode cX3_law 125 = .ok (.getfield 137, 3) := zrD zrw_cX3_law_96 (i := 29) (by decide +kernel) rfl
def zrk_cX3_law_128 : ByteArray := .mk #[182, 0, 149, 132, 3, 1, 167, 255, 145, 42, 3, 182, 0, 140, 42, 180, 0, 18, 16, 7, 3, 182, 0, 145, 42, 180, 0, 18, 180, 0, 152, 27]
theorem zrw_cX3_law_128 : zrW 128 cX3_law zrk_cX3_law_128 := by unfold zrW; decide +kernel
theorem dX3_law_128 : decode cX3_law 128 = .ok (.invokevirtual 149, 3) := zrD zrw_cX3_law_128 (i := 0) (by decide +kernel) rfl
theorem dX3_law_131 : decode cX3_law 131 = .ok (.iinc 3 1, 3) := zrD zrw_cX3_law_128 (i := 3) (by decide +kernel) rfl
theorem dX3_law_134 : decode cX3_law 134 = .ok (.goto (-111), 3) := zrD zrw_cX3_law_128 (i := 6) (by decide +kernel) rfl
theorem dX3_law_137 : decode cX3_law 137 = .ok (.aload_n 0, 1) := zrD zrw_cX3_law_128 (i := 9) (by decide +kernel) rfl
theorem dX3_law_138 : decode cX3_law 138 = .ok (.iconst 0, 1) := zrD zrw_cX3_law_128 (i := 10) (by decide +kernel) rfl
theorem dX3_law_139 : decode cX3_law 139 = .ok (.invokevirtual 140, 3) := zrD zrw_cX3_law_128 (i := 11) (by decide +kernel) rfl
theorem dX3_law_142 : decode cX3_law 142 = .ok (.aload_n 0, 1) := zrD zrw_cX3_law_128 (i := 14) (by decide +kernel) rfl
theorem dX3_law_143 : decode cX3_law 143 = .ok (.getfield 18, 3) := zrD zrw_cX3_law_128 (i := 15) (by decide +kernel) rfl
theorem dX3_law_146 : decode cX3_law 146 = .ok (.bipush 7, 2) := zrD zrw_cX3_law_128 (i := 18) (by decide +kernel) rfl
theorem dX3_law_148 : decode cX3_law 148 = .ok (.iconst 0, 1) := zrD zrw_cX3_law_128 (i := 20) (by decide +kernel) rfl
theorem dX3_law_149 : decode cX3_law 149 = .ok (.invokevirtual 145, 3) := zrD zrw_cX3_law_128 (i := 21) (by decide +kernel) rfl
theorem dX3_law_152 : decode cX3_law 152 = .ok (.aload_n 0, 1) := zrD zrw_cX3_law_128 (i := 24) (by decide +kernel) rfl
theorem dX3_law_153 : decode cX3_law 153 = .ok (.getfield 18, 3) := zrD zrw_cX3_law_128 (i := 25) (by decide +kernel) rfl
theorem dX3_law_156 : decode cX3_law 156 = .ok (.getfield 152, 3) := zrD zrw_cX3_law_128 (i := 28) (by decide +kernel) rfl
theorem dX3_law_159 : decode cX3_law 159 = .ok (.iload_n 1, 1) := zrD zrw_cX3_law_128 (i := 31) (by decide +kernel) rfl
def zrk_cX3_law_160 : ByteArray := .mk #[28, 79, 177]
theorem zrw_cX3_law_160 : zrW 160 cX3_law zrk_cX3_law_160 := by unfold zrW; decide +kernel
theorem dX3_law_160 : decode cX3_law 160 = .ok (.iload_n 2, 1) := zrD zrw_cX3_law_160 (i := 0) (by decide +kernel) rfl
theorem dX3_law_161 : decode cX3_law 161 = .ok (.iastore, 1) := zrD zrw_cX3_law_160 (i := 1) (by decide +kernel) rfl
theorem dX3_law_162 : decode cX3_law 162 = .ok (.return_, 1) := zrD zrw_cX3_law_160 (i := 2) (by decide +kernel) rfl
def zrk_cX3_sum_0 : ByteArray := .mk #[42, 27, 182, 0, 156, 3, 61, 28, 17, 1, 144, 163, 0, 57, 42, 180, 0, 26, 16, 26, 16, 27, 184, 0, 80, 153, 0, 43, 42, 180, 0, 26]
theorem zrw_cX3_sum_0 : zrW 0 cX3_sum zrk_cX3_sum_0 := by unfold zrW; decide +kernel
theorem dX3_sum_0 : decode cX3_sum 0 = .ok (.aload_n 0, 1) := zrD zrw_cX3_sum_0 (i := 0) (by decide +kernel) rfl
theorem dX3_sum_1 : decode cX3_sum 1 = .ok (.iload_n 1, 1) := zrD zrw_cX3_sum_0 (i := 1) (by decide +kernel) rfl
theorem dX3_sum_2 : decode cX3_sum 2 = .ok (.invokevirtual 156, 3) := zrD zrw_cX3_sum_0 (i := 2) (by decide +kernel) rfl
theorem dX3_sum_5 : decode cX3_sum 5 = .ok (.iconst 0, 1) := zrD zrw_cX3_sum_0 (i := 5) (by decide +kernel) rfl
theorem dX3_sum_6 : decode cX3_sum 6 = .ok (.istore_n 2, 1) := zrD zrw_cX3_sum_0 (i := 6) (by decide +kernel) rfl
theorem dX3_sum_7 : decode cX3_sum 7 = .ok (.iload_n 2, 1) := zrD zrw_cX3_sum_0 (i := 7) (by decide +kernel) rfl
theorem dX3_sum_8 : decode cX3_sum 8 = .ok (.sipush 400, 3) := zrD zrw_cX3_sum_0 (i := 8) (by decide +kernel) rfl
theorem dX3_sum_11 : decode cX3_sum 11 = .ok (.if_icmp .gt 57, 3) := zrD zrw_cX3_sum_0 (i := 11) (by decide +kernel) rfl
theorem dX3_sum_14 : decode cX3_sum 14 = .ok (.aload_n 0, 1) := zrD zrw_cX3_sum_0 (i := 14) (by decide +kernel) rfl
theorem dX3_sum_15 : decode cX3_sum 15 = .ok (.getfield 26, 3) := zrD zrw_cX3_sum_0 (i := 15) (by decide +kernel) rfl
theorem dX3_sum_18 : decode cX3_sum 18 = .ok (.bipush 26, 2) := zrD zrw_cX3_sum_0 (i := 18) (by decide +kernel) rfl
theorem dX3_sum_20 : decode cX3_sum 20 = .ok (.bipush 27, 2) := zrD zrw_cX3_sum_0 (i := 20) (by decide +kernel) rfl
theorem dX3_sum_22 : decode cX3_sum 22 = .ok (.invokestatic 80, 3) := zrD zrw_cX3_sum_0 (i := 22) (by decide +kernel) rfl
theorem dX3_sum_25 : decode cX3_sum 25 = .ok (.ifCond .eq 43, 3) := zrD zrw_cX3_sum_0 (i := 25) (by decide +kernel) rfl
theorem dX3_sum_28 : decode cX3_sum 28 = .ok (.aload_n 0, 1) := zrD zrw_cX3_sum_0 (i := 28) (by decide +kernel) rfl
theorem dX3_sum_29 : decode cX3_sum 29 = .ok (.getfield 26, 3) := zrD zrw_cX3_sum_0 (i := 29) (by decide +kernel) rfl
def zrk_cX3_sum_32 : ByteArray := .mk #[62, 42, 29, 182, 0, 87, 42, 27, 182, 0, 156, 42, 180, 0, 18, 29, 16, 26, 160, 0, 7, 5, 167, 0, 4, 6, 3, 182, 0, 145]
theorem zrw_cX3_sum_32 : zrW 32 cX3_sum zrk_cX3_sum_32 := by unfold zrW; decide +kernel
theorem dX3_sum_32 : decode cX3_sum 32 = .ok (.istore_n 3, 1) := zrD zrw_cX3_sum_32 (i := 0) (by decide +kernel) rfl
theorem dX3_sum_33 : decode cX3_sum 33 = .ok (.aload_n 0, 1) := zrD zrw_cX3_sum_32 (i := 1) (by decide +kernel) rfl
theorem dX3_sum_34 : decode cX3_sum 34 = .ok (.iload_n 3, 1) := zrD zrw_cX3_sum_32 (i := 2) (by decide +kernel) rfl
theorem dX3_sum_35 : decode cX3_sum 35 = .ok (.invokevirtual 87, 3) := zrD zrw_cX3_sum_32 (i := 3) (by decide +kernel) rfl
theorem dX3_sum_38 : decode cX3_sum 38 = .ok (.aload_n 0, 1) := zrD zrw_cX3_sum_32 (i := 6) (by decide +kernel) rfl
theorem dX3_sum_39 : decode cX3_sum 39 = .ok (.iload_n 1, 1) := zrD zrw_cX3_sum_32 (i := 7) (by decide +kernel) rfl
theorem dX3_sum_40 : decode cX3_sum 40 = .ok (.invokevirtual 156, 3) := zrD zrw_cX3_sum_32 (i := 8) (by decide +kernel) rfl
theorem dX3_sum_43 : decode cX3_sum 43 = .ok (.aload_n 0, 1) := zrD zrw_cX3_sum_32 (i := 11) (by decide +kernel) rfl
theorem dX3_sum_44 : decode cX3_sum 44 = .ok (.getfield 18, 3) := zrD zrw_cX3_sum_32 (i := 12) (by decide +kernel) rfl
theorem dX3_sum_47 : decode cX3_sum 47 = .ok (.iload_n 3, 1) := zrD zrw_cX3_sum_32 (i := 15) (by decide +kernel) rfl
theorem dX3_sum_48 : decode cX3_sum 48 = .ok (.bipush 26, 2) := zrD zrw_cX3_sum_32 (i := 16) (by decide +kernel) rfl
theorem dX3_sum_50 : decode cX3_sum 50 = .ok (.if_icmp .ne 7, 3) := zrD zrw_cX3_sum_32 (i := 18) (by decide +kernel) rfl
theorem dX3_sum_53 : decode cX3_sum 53 = .ok (.iconst 2, 1) := zrD zrw_cX3_sum_32 (i := 21) (by decide +kernel) rfl
theorem dX3_sum_54 : decode cX3_sum 54 = .ok (.goto 4, 3) := zrD zrw_cX3_sum_32 (i := 22) (by decide +kernel) rfl
theorem dX3_sum_57 : decode cX3_sum 57 = .ok (.iconst 3, 1) := zrD zrw_cX3_sum_32 (i := 25) (by decide +kernel) rfl
theorem dX3_sum_58 : decode cX3_sum 58 = .ok (.iconst 0, 1) := zrD zrw_cX3_sum_32 (i := 26) (by decide +kernel) rfl
theorem dX3_sum_59 : decode cX3_sum 59 = .ok (.invokevirtual 145, 3) := zrD zrw_cX3_sum_32 (i := 27) (by decide +kernel) rfl
def zrk_cX3_sum_62 : ByteArray := .mk #[132, 2, 1, 167, 255, 198, 177]
theorem zrw_cX3_sum_62 : zrW 62 cX3_sum zrk_cX3_sum_62 := by unfold zrW; decide +kernel
theorem dX3_sum_62 : decode cX3_sum 62 = .ok (.iinc 2 1, 3) := zrD zrw_cX3_sum_62 (i := 0) (by decide +kernel) rfl
theorem dX3_sum_65 : decode cX3_sum 65 = .ok (.goto (-58), 3) := zrD zrw_cX3_sum_62 (i := 3) (by decide +kernel) rfl
theorem dX3_sum_68 : decode cX3_sum 68 = .ok (.return_, 1) := zrD zrw_cX3_sum_62 (i := 6) (by decide +kernel) rfl
def zrk_cX3_product_0 : ByteArray := .mk #[42, 27, 182, 0, 159, 3, 61, 28, 17, 1, 144, 163, 0, 57, 42, 180, 0, 26, 16, 28, 16, 29, 184, 0, 80, 153, 0, 43, 42, 180, 0, 26]
theorem zrw_cX3_product_0 : zrW 0 cX3_product zrk_cX3_product_0 := by unfold zrW; decide +kernel
theorem dX3_product_0 : decode cX3_product 0 = .ok (.aload_n 0, 1) := zrD zrw_cX3_product_0 (i := 0) (by decide +kernel) rfl
theorem dX3_product_1 : decode cX3_product 1 = .ok (.iload_n 1, 1) := zrD zrw_cX3_product_0 (i := 1) (by decide +kernel) rfl
theorem dX3_product_2 : decode cX3_product 2 = .ok (.invokevirtual 159, 3) := zrD zrw_cX3_product_0 (i := 2) (by decide +kernel) rfl
theorem dX3_product_5 : decode cX3_product 5 = .ok (.iconst 0, 1) := zrD zrw_cX3_product_0 (i := 5) (by decide +kernel) rfl
theorem dX3_product_6 : decode cX3_product 6 = .ok (.istore_n 2, 1) := zrD zrw_cX3_product_0 (i := 6) (by decide +kernel) rfl
theorem dX3_product_7 : decode cX3_product 7 = .ok (.iload_n 2, 1) := zrD zrw_cX3_product_0 (i := 7) (by decide +kernel) rfl
theorem dX3_product_8 : decode cX3_product 8 = .ok (.sipush 400, 3) := zrD zrw_cX3_product_0 (i := 8) (by decide +kernel) rfl
theorem dX3_product_11 : decode cX3_product 11 = .ok (.if_icmp .gt 57, 3) := zrD zrw_cX3_product_0 (i := 11) (by decide +kernel) rfl
theorem dX3_product_14 : decode cX3_product 14 = .ok (.aload_n 0, 1) := zrD zrw_cX3_product_0 (i := 14) (by decide +kernel) rfl
theorem dX3_product_15 : decode cX3_product 15 = .ok (.getfield 26, 3) := zrD zrw_cX3_product_0 (i := 15) (by decide +kernel) rfl
theorem dX3_product_18 : decode cX3_product 18 = .ok (.bipush 28, 2) := zrD zrw_cX3_product_0 (i := 18) (by decide +kernel) rfl
theorem dX3_product_20 : decode cX3_product 20 = .ok (.bipush 29, 2) := zrD zrw_cX3_product_0 (i := 20) (by decide +kernel) rfl
theorem dX3_product_22 : decode cX3_product 22 = .ok (.invokestatic 80, 3) := zrD zrw_cX3_product_0 (i := 22) (by decide +kernel) rfl
theorem dX3_product_25 : decode cX3_product 25 = .ok (.ifCond .eq 43, 3) := zrD zrw_cX3_product_0 (i := 25) (by decide +kernel) rfl
theorem dX3_product_28 : decode cX3_product 28 = .ok (.aload_n 0, 1) := zrD zrw_cX3_product_0 (i := 28) (by decide +kernel) rfl
theorem dX3_product_29 : decode cX3_product 29 = .ok (.getfield 26, 3) := zrD zrw_cX3_product_0 (i := 29) (by decide +kernel) rfl
def zrk_cX3_product_32 : ByteArray := .mk #[62, 42, 29, 182, 0, 87, 42, 27, 182, 0, 159, 42, 180, 0, 18, 29, 16, 28, 160, 0, 7, 7, 167, 0, 4, 8, 3, 182, 0, 145]
theorem zrw_cX3_product_32 : zrW 32 cX3_product zrk_cX3_product_32 := by unfold zrW; decide +kernel
theorem dX3_product_32 : decode cX3_product 32 = .ok (.istore_n 3, 1) := zrD zrw_cX3_product_32 (i := 0) (by decide +kernel) rfl
theorem dX3_product_33 : decode cX3_product 33 = .ok (.aload_n 0, 1) := zrD zrw_cX3_product_32 (i := 1) (by decide +kernel) rfl
theorem dX3_product_34 : decode cX3_product 34 = .ok (.iload_n 3, 1) := zrD zrw_cX3_product_32 (i := 2) (by decide +kernel) rfl
theorem dX3_product_35 : decode cX3_product 35 = .ok (.invokevirtual 87, 3) := zrD zrw_cX3_product_32 (i := 3) (by decide +kernel) rfl
theorem dX3_product_38 : decode cX3_product 38 = .ok (.aload_n 0, 1) := zrD zrw_cX3_product_32 (i := 6) (by decide +kernel) rfl
theorem dX3_product_39 : decode cX3_product 39 = .ok (.iload_n 1, 1) := zrD zrw_cX3_product_32 (i := 7) (by decide +kernel) rfl
theorem dX3_product_40 : decode cX3_product 40 = .ok (.invokevirtual 159, 3) := zrD zrw_cX3_product_32 (i := 8) (by decide +kernel) rfl
theorem dX3_product_43 : decode cX3_product 43 = .ok (.aload_n 0, 1) := zrD zrw_cX3_product_32 (i := 11) (by decide +kernel) rfl
theorem dX3_product_44 : decode cX3_product 44 = .ok (.getfield 18, 3) := zrD zrw_cX3_product_32 (i := 12) (by decide +kernel) rfl
theorem dX3_product_47 : decode cX3_product 47 = .ok (.iload_n 3, 1) := zrD zrw_cX3_product_32 (i := 15) (by decide +kernel) rfl
theorem dX3_product_48 : decode cX3_product 48 = .ok (.bipush 28, 2) := zrD zrw_cX3_product_32 (i := 16) (by decide +kernel) rfl
theorem dX3_product_50 : decode cX3_product 50 = .ok (.if_icmp .ne 7, 3) := zrD zrw_cX3_product_32 (i := 18) (by decide +kernel) rfl
theorem dX3_product_53 : decode cX3_product 53 = .ok (.iconst 4, 1) := zrD zrw_cX3_product_32 (i := 21) (by decide +kernel) rfl
theorem dX3_product_54 : decode cX3_product 54 = .ok (.goto 4, 3) := zrD zrw_cX3_product_32 (i := 22) (by decide +kernel) rfl
theorem dX3_product_57 : decode cX3_product 57 = .ok (.iconst 5, 1) := zrD zrw_cX3_product_32 (i := 25) (by decide +kernel) rfl
theorem dX3_product_58 : decode cX3_product 58 = .ok (.iconst 0, 1) := zrD zrw_cX3_product_32 (i := 26) (by decide +kernel) rfl
theorem dX3_product_59 : decode cX3_product 59 = .ok (.invokevirtual 145, 3) := zrD zrw_cX3_product_32 (i := 27) (by decide +kernel) rfl
def zrk_cX3_product_62 : ByteArray := .mk #[132, 2, 1, 167, 255, 198, 177]
theorem zrw_cX3_product_62 : zrW 62 cX3_product zrk_cX3_product_62 := by unfold zrW; decide +kernel
theorem dX3_product_62 : decode cX3_product 62 = .ok (.iinc 2 1, 3) := zrD zrw_cX3_product_62 (i := 0) (by decide +kernel) rfl
theorem dX3_product_65 : decode cX3_product 65 = .ok (.goto (-58), 3) := zrD zrw_cX3_product_62 (i := 3) (by decide +kernel) rfl
theorem dX3_product_68 : decode cX3_product 68 = .ok (.return_, 1) := zrD zrw_cX3_product_62 (i := 6) (by decide +kernel) rfl
def zrk_cX3_unit_0 : ByteArray := .mk #[42, 180, 0, 26, 16, 23, 160, 0, 27, 42, 180, 0, 18, 3, 42, 180, 0, 29, 136, 182, 0, 145, 42, 42, 180, 0, 26, 182, 0, 87]
theorem zrw_cX3_unit_0 : zrW 0 cX3_unit zrk_cX3_unit_0 := by unfold zrW; decide +kernel
theorem dX3_unit_0 : decode cX3_unit 0 = .ok (.aload_n 0, 1) := zrD zrw_cX3_unit_0 (i := 0) (by decide +kernel) rfl
theorem dX3_unit_1 : decode cX3_unit 1 = .ok (.getfield 26, 3) := zrD zrw_cX3_unit_0 (i := 1) (by decide +kernel) rfl
theorem dX3_unit_4 : decode cX3_unit 4 = .ok (.bipush 23, 2) := zrD zrw_cX3_unit_0 (i := 4) (by decide +kernel) rfl
theorem dX3_unit_6 : decode cX3_unit 6 = .ok (.if_icmp .ne 27, 3) := zrD zrw_cX3_unit_0 (i := 6) (by decide +kernel) rfl
theorem dX3_unit_9 : decode cX3_unit 9 = .ok (.aload_n 0, 1) := zrD zrw_cX3_unit_0 (i := 9) (by decide +kernel) rfl
theorem dX3_unit_10 : decode cX3_unit 10 = .ok (.getfield 18, 3) := zrD zrw_cX3_unit_0 (i := 10) (by decide +kernel) rfl
theorem dX3_unit_13 : decode cX3_unit 13 = .ok (.iconst 0, 1) := zrD zrw_cX3_unit_0 (i := 13) (by decide +kernel) rfl
theorem dX3_unit_14 : decode cX3_unit 14 = .ok (.aload_n 0, 1) := zrD zrw_cX3_unit_0 (i := 14) (by decide +kernel) rfl
theorem dX3_unit_15 : decode cX3_unit 15 = .ok (.getfield 29, 3) := zrD zrw_cX3_unit_0 (i := 15) (by decide +kernel) rfl
theorem dX3_unit_18 : decode cX3_unit 18 = .ok (.l2i, 1) := zrD zrw_cX3_unit_0 (i := 18) (by decide +kernel) rfl
theorem dX3_unit_19 : decode cX3_unit 19 = .ok (.invokevirtual 145, 3) := zrD zrw_cX3_unit_0 (i := 19) (by decide +kernel) rfl
theorem dX3_unit_22 : decode cX3_unit 22 = .ok (.aload_n 0, 1) := zrD zrw_cX3_unit_0 (i := 22) (by decide +kernel) rfl
theorem dX3_unit_23 : decode cX3_unit 23 = .ok (.aload_n 0, 1) := zrD zrw_cX3_unit_0 (i := 23) (by decide +kernel) rfl
theorem dX3_unit_24 : decode cX3_unit 24 = .ok (.getfield 26, 3) := zrD zrw_cX3_unit_0 (i := 24) (by decide +kernel) rfl
theorem dX3_unit_27 : decode cX3_unit 27 = .ok (.invokevirtual 87, 3) := zrD zrw_cX3_unit_0 (i := 27) (by decide +kernel) rfl
def zrk_cX3_unit_30 : ByteArray := .mk #[167, 0, 104, 42, 180, 0, 26, 16, 13, 161, 0, 38, 42, 180, 0, 26, 16, 22, 162, 0, 29, 42, 180, 0, 18, 4, 42, 180, 0, 26, 16, 13]
theorem zrw_cX3_unit_30 : zrW 30 cX3_unit zrk_cX3_unit_30 := by unfold zrW; decide +kernel
theorem dX3_unit_30 : decode cX3_unit 30 = .ok (.goto 104, 3) := zrD zrw_cX3_unit_30 (i := 0) (by decide +kernel) rfl
theorem dX3_unit_33 : decode cX3_unit 33 = .ok (.aload_n 0, 1) := zrD zrw_cX3_unit_30 (i := 3) (by decide +kernel) rfl
theorem dX3_unit_34 : decode cX3_unit 34 = .ok (.getfield 26, 3) := zrD zrw_cX3_unit_30 (i := 4) (by decide +kernel) rfl
theorem dX3_unit_37 : decode cX3_unit 37 = .ok (.bipush 13, 2) := zrD zrw_cX3_unit_30 (i := 7) (by decide +kernel) rfl
theorem dX3_unit_39 : decode cX3_unit 39 = .ok (.if_icmp .lt 38, 3) := zrD zrw_cX3_unit_30 (i := 9) (by decide +kernel) rfl
theorem dX3_unit_42 : decode cX3_unit 42 = .ok (.aload_n 0, 1) := zrD zrw_cX3_unit_30 (i := 12) (by decide +kernel) rfl
theorem dX3_unit_43 : decode cX3_unit 43 = .ok (.getfield 26, 3) := zrD zrw_cX3_unit_30 (i := 13) (by decide +kernel) rfl
theorem dX3_unit_46 : decode cX3_unit 46 = .ok (.bipush 22, 2) := zrD zrw_cX3_unit_30 (i := 16) (by decide +kernel) rfl
theorem dX3_unit_48 : decode cX3_unit 48 = .ok (.if_icmp .ge 29, 3) := zrD zrw_cX3_unit_30 (i := 18) (by decide +kernel) rfl
theorem dX3_unit_51 : decode cX3_unit 51 = .ok (.aload_n 0, 1) := zrD zrw_cX3_unit_30 (i := 21) (by decide +kernel) rfl
theorem dX3_unit_52 : decode cX3_unit 52 = .ok (.getfield 18, 3) := zrD zrw_cX3_unit_30 (i := 22) (by decide +kernel) rfl
theorem dX3_unit_55 : decode cX3_unit 55 = .ok (.iconst 1, 1) := zrD zrw_cX3_unit_30 (i := 25) (by decide +kernel) rfl
theorem dX3_unit_56 : decode cX3_unit 56 = .ok (.aload_n 0, 1) := zrD zrw_cX3_unit_30 (i := 26) (by decide +kernel) rfl
theorem dX3_unit_57 : decode cX3_unit 57 = .ok (.getfield 26, 3) := zrD zrw_cX3_unit_30 (i := 27) (by decide +kernel) rfl
theorem dX3_unit_60 : decode cX3_unit 60 = .ok (.bipush 13, 2) := zrD zrw_cX3_unit_30 (i := 30) (by decide +kernel) rfl
def zrk_cX3_unit_62 : ByteArray := .mk #[100, 182, 0, 145, 42, 42, 180, 0, 26, 182, 0, 87, 167, 0, 60, 42, 180, 0, 26, 16, 31, 160, 0, 33, 27, 16, 6, 162, 0, 27, 42, 42]
theorem zrw_cX3_unit_62 : zrW 62 cX3_unit zrk_cX3_unit_62 := by unfold zrW; decide +kernel
theorem dX3_unit_62 : decode cX3_unit 62 = .ok (.isub, 1) := zrD zrw_cX3_unit_62 (i := 0) (by decide +kernel) rfl
theorem dX3_unit_63 : decode cX3_unit 63 = .ok (.invokevirtual 145, 3) := zrD zrw_cX3_unit_62 (i := 1) (by decide +kernel) rfl
theorem dX3_unit_66 : decode cX3_unit 66 = .ok (.aload_n 0, 1) := zrD zrw_cX3_unit_62 (i := 4) (by decide +kernel) rfl
theorem dX3_unit_67 : decode cX3_unit 67 = .ok (.aload_n 0, 1) := zrD zrw_cX3_unit_62 (i := 5) (by decide +kernel) rfl
theorem dX3_unit_68 : decode cX3_unit 68 = .ok (.getfield 26, 3) := zrD zrw_cX3_unit_62 (i := 6) (by decide +kernel) rfl
theorem dX3_unit_71 : decode cX3_unit 71 = .ok (.invokevirtual 87, 3) := zrD zrw_cX3_unit_62 (i := 9) (by decide +kernel) rfl
theorem dX3_unit_74 : decode cX3_unit 74 = .ok (.goto 60, 3) := zrD zrw_cX3_unit_62 (i := 12) (by decide +kernel) rfl
theorem dX3_unit_77 : decode cX3_unit 77 = .ok (.aload_n 0, 1) := zrD zrw_cX3_unit_62 (i := 15) (by decide +kernel) rfl
theorem dX3_unit_78 : decode cX3_unit 78 = .ok (.getfield 26, 3) := zrD zrw_cX3_unit_62 (i := 16) (by decide +kernel) rfl
theorem dX3_unit_81 : decode cX3_unit 81 = .ok (.bipush 31, 2) := zrD zrw_cX3_unit_62 (i := 19) (by decide +kernel) rfl
theorem dX3_unit_83 : decode cX3_unit 83 = .ok (.if_icmp .ne 33, 3) := zrD zrw_cX3_unit_62 (i := 21) (by decide +kernel) rfl
theorem dX3_unit_86 : decode cX3_unit 86 = .ok (.iload_n 1, 1) := zrD zrw_cX3_unit_62 (i := 24) (by decide +kernel) rfl
theorem dX3_unit_87 : decode cX3_unit 87 = .ok (.bipush 6, 2) := zrD zrw_cX3_unit_62 (i := 25) (by decide +kernel) rfl
theorem dX3_unit_89 : decode cX3_unit 89 = .ok (.if_icmp .ge 27, 3) := zrD zrw_cX3_unit_62 (i := 27) (by decide +kernel) rfl
theorem dX3_unit_92 : decode cX3_unit 92 = .ok (.aload_n 0, 1) := zrD zrw_cX3_unit_62 (i := 30) (by decide +kernel) rfl
theorem dX3_unit_93 : decode cX3_unit 93 = .ok (.aload_n 0, 1) := zrD zrw_cX3_unit_62 (i := 31) (by decide +kernel) rfl
def zrk_cX3_unit_94 : ByteArray := .mk #[180, 0, 26, 182, 0, 87, 42, 27, 4, 96, 182, 0, 140, 42, 16, 32, 182, 0, 87, 167, 0, 21, 42, 42, 180, 0, 26, 16, 31, 160, 0, 7]
theorem zrw_cX3_unit_94 : zrW 94 cX3_unit zrk_cX3_unit_94 := by unfold zrW; decide +kernel
theorem dX3_unit_94 : decode cX3_unit 94 = .ok (.getfield 26, 3) := zrD zrw_cX3_unit_94 (i := 0) (by decide +kernel) rfl
theorem dX3_unit_97 : decode cX3_unit 97 = .ok (.invokevirtual 87, 3) := zrD zrw_cX3_unit_94 (i := 3) (by decide +kernel) rfl
theorem dX3_unit_100 : decode cX3_unit 100 = .ok (.aload_n 0, 1) := zrD zrw_cX3_unit_94 (i := 6) (by decide +kernel) rfl
theorem dX3_unit_101 : decode cX3_unit 101 = .ok (.iload_n 1, 1) := zrD zrw_cX3_unit_94 (i := 7) (by decide +kernel) rfl
theorem dX3_unit_102 : decode cX3_unit 102 = .ok (.iconst 1, 1) := zrD zrw_cX3_unit_94 (i := 8) (by decide +kernel) rfl
theorem dX3_unit_103 : decode cX3_unit 103 = .ok (.iadd, 1) := zrD zrw_cX3_unit_94 (i := 9) (by decide +kernel) rfl
theorem dX3_unit_104 : decode cX3_unit 104 = .ok (.invokevirtual 140, 3) := zrD zrw_cX3_unit_94 (i := 10) (by decide +kernel) rfl
theorem dX3_unit_107 : decode cX3_unit 107 = .ok (.aload_n 0, 1) := zrD zrw_cX3_unit_94 (i := 13) (by decide +kernel) rfl
theorem dX3_unit_108 : decode cX3_unit 108 = .ok (.bipush 32, 2) := zrD zrw_cX3_unit_94 (i := 14) (by decide +kernel) rfl
theorem dX3_unit_110 : decode cX3_unit 110 = .ok (.invokevirtual 87, 3) := zrD zrw_cX3_unit_94 (i := 16) (by decide +kernel) rfl
theorem dX3_unit_113 : decode cX3_unit 113 = .ok (.goto 21, 3) := zrD zrw_cX3_unit_94 (i := 19) (by decide +kernel) rfl
theorem dX3_unit_116 : decode cX3_unit 116 = .ok (.aload_n 0, 1) := zrD zrw_cX3_unit_94 (i := 22) (by decide +kernel) rfl
theorem dX3_unit_117 : decode cX3_unit 117 = .ok (.aload_n 0, 1) := zrD zrw_cX3_unit_94 (i := 23) (by decide +kernel) rfl
theorem dX3_unit_118 : decode cX3_unit 118 = .ok (.getfield 26, 3) := zrD zrw_cX3_unit_94 (i := 24) (by decide +kernel) rfl
theorem dX3_unit_121 : decode cX3_unit 121 = .ok (.bipush 31, 2) := zrD zrw_cX3_unit_94 (i := 27) (by decide +kernel) rfl
theorem dX3_unit_123 : decode cX3_unit 123 = .ok (.if_icmp .ne 7, 3) := zrD zrw_cX3_unit_94 (i := 29) (by decide +kernel) rfl
def zrk_cX3_unit_126 : ByteArray := .mk #[5, 167, 0, 4, 4, 182, 0, 106, 177]
theorem zrw_cX3_unit_126 : zrW 126 cX3_unit zrk_cX3_unit_126 := by unfold zrW; decide +kernel
theorem dX3_unit_126 : decode cX3_unit 126 = .ok (.iconst 2, 1) := zrD zrw_cX3_unit_126 (i := 0) (by decide +kernel) rfl
theorem dX3_unit_127 : decode cX3_unit 127 = .ok (.goto 4, 3) := zrD zrw_cX3_unit_126 (i := 1) (by decide +kernel) rfl
theorem dX3_unit_130 : decode cX3_unit 130 = .ok (.iconst 1, 1) := zrD zrw_cX3_unit_126 (i := 4) (by decide +kernel) rfl
theorem dX3_unit_131 : decode cX3_unit 131 = .ok (.invokevirtual 106, 3) := zrD zrw_cX3_unit_126 (i := 5) (by decide +kernel) rfl
theorem dX3_unit_134 : decode cX3_unit 134 = .ok (.return_, 1) := zrD zrw_cX3_unit_126 (i := 8) (by decide +kernel) rfl
def zrk_cX3_take_0 : ByteArray := .mk #[42, 180, 0, 26, 27, 159, 0, 11, 42, 4, 182, 0, 106, 167, 0, 31, 42, 180, 0, 22, 17, 1, 144, 161, 0, 11, 42, 5, 182, 0, 106]
theorem zrw_cX3_take_0 : zrW 0 cX3_take zrk_cX3_take_0 := by unfold zrW; decide +kernel
theorem dX3_take_0 : decode cX3_take 0 = .ok (.aload_n 0, 1) := zrD zrw_cX3_take_0 (i := 0) (by decide +kernel) rfl
theorem dX3_take_1 : decode cX3_take 1 = .ok (.getfield 26, 3) := zrD zrw_cX3_take_0 (i := 1) (by decide +kernel) rfl
theorem dX3_take_4 : decode cX3_take 4 = .ok (.iload_n 1, 1) := zrD zrw_cX3_take_0 (i := 4) (by decide +kernel) rfl
theorem dX3_take_5 : decode cX3_take 5 = .ok (.if_icmp .eq 11, 3) := zrD zrw_cX3_take_0 (i := 5) (by decide +kernel) rfl
theorem dX3_take_8 : decode cX3_take 8 = .ok (.aload_n 0, 1) := zrD zrw_cX3_take_0 (i := 8) (by decide +kernel) rfl
theorem dX3_take_9 : decode cX3_take 9 = .ok (.iconst 1, 1) := zrD zrw_cX3_take_0 (i := 9) (by decide +kernel) rfl
theorem dX3_take_10 : decode cX3_take 10 = .ok (.invokevirtual 106, 3) := zrD zrw_cX3_take_0 (i := 10) (by decide +kernel) rfl
theorem dX3_take_13 : decode cX3_take 13 = .ok (.goto 31, 3) := zrD zrw_cX3_take_0 (i := 13) (by decide +kernel) rfl
theorem dX3_take_16 : decode cX3_take 16 = .ok (.aload_n 0, 1) := zrD zrw_cX3_take_0 (i := 16) (by decide +kernel) rfl
theorem dX3_take_17 : decode cX3_take 17 = .ok (.getfield 22, 3) := zrD zrw_cX3_take_0 (i := 17) (by decide +kernel) rfl
theorem dX3_take_20 : decode cX3_take 20 = .ok (.sipush 400, 3) := zrD zrw_cX3_take_0 (i := 20) (by decide +kernel) rfl
theorem dX3_take_23 : decode cX3_take 23 = .ok (.if_icmp .lt 11, 3) := zrD zrw_cX3_take_0 (i := 23) (by decide +kernel) rfl
theorem dX3_take_26 : decode cX3_take 26 = .ok (.aload_n 0, 1) := zrD zrw_cX3_take_0 (i := 26) (by decide +kernel) rfl
theorem dX3_take_27 : decode cX3_take 27 = .ok (.iconst 2, 1) := zrD zrw_cX3_take_0 (i := 27) (by decide +kernel) rfl
theorem dX3_take_28 : decode cX3_take 28 = .ok (.invokevirtual 106, 3) := zrD zrw_cX3_take_0 (i := 28) (by decide +kernel) rfl
def zrk_cX3_take_31 : ByteArray := .mk #[167, 0, 13, 42, 42, 180, 0, 22, 4, 96, 182, 0, 64, 177]
theorem zrw_cX3_take_31 : zrW 31 cX3_take zrk_cX3_take_31 := by unfold zrW; decide +kernel
theorem dX3_take_31 : decode cX3_take 31 = .ok (.goto 13, 3) := zrD zrw_cX3_take_31 (i := 0) (by decide +kernel) rfl
theorem dX3_take_34 : decode cX3_take 34 = .ok (.aload_n 0, 1) := zrD zrw_cX3_take_31 (i := 3) (by decide +kernel) rfl
theorem dX3_take_35 : decode cX3_take 35 = .ok (.aload_n 0, 1) := zrD zrw_cX3_take_31 (i := 4) (by decide +kernel) rfl
theorem dX3_take_36 : decode cX3_take 36 = .ok (.getfield 22, 3) := zrD zrw_cX3_take_31 (i := 5) (by decide +kernel) rfl
theorem dX3_take_39 : decode cX3_take 39 = .ok (.iconst 1, 1) := zrD zrw_cX3_take_31 (i := 8) (by decide +kernel) rfl
theorem dX3_take_40 : decode cX3_take 40 = .ok (.iadd, 1) := zrD zrw_cX3_take_31 (i := 9) (by decide +kernel) rfl
theorem dX3_take_41 : decode cX3_take 41 = .ok (.invokevirtual 64, 3) := zrD zrw_cX3_take_31 (i := 10) (by decide +kernel) rfl
theorem dX3_take_44 : decode cX3_take 44 = .ok (.return_, 1) := zrD zrw_cX3_take_31 (i := 13) (by decide +kernel) rfl
def zrk_cX3_goTo_0 : ByteArray := .mk #[27, 155, 0, 18, 27, 42, 180, 0, 12, 180, 0, 162, 162, 0, 7, 4, 167, 0, 4, 3, 61, 42, 27, 181, 0, 22, 42, 28, 153, 0, 15, 42]
theorem zrw_cX3_goTo_0 : zrW 0 cX3_goTo zrk_cX3_goTo_0 := by unfold zrW; decide +kernel
theorem dX3_goTo_0 : decode cX3_goTo 0 = .ok (.iload_n 1, 1) := zrD zrw_cX3_goTo_0 (i := 0) (by decide +kernel) rfl
theorem dX3_goTo_1 : decode cX3_goTo 1 = .ok (.ifCond .lt 18, 3) := zrD zrw_cX3_goTo_0 (i := 1) (by decide +kernel) rfl
theorem dX3_goTo_4 : decode cX3_goTo 4 = .ok (.iload_n 1, 1) := zrD zrw_cX3_goTo_0 (i := 4) (by decide +kernel) rfl
theorem dX3_goTo_5 : decode cX3_goTo 5 = .ok (.aload_n 0, 1) := zrD zrw_cX3_goTo_0 (i := 5) (by decide +kernel) rfl
theorem dX3_goTo_6 : decode cX3_goTo 6 = .ok (.getfield 12, 3) := zrD zrw_cX3_goTo_0 (i := 6) (by decide +kernel) rfl
theorem dX3_goTo_9 : decode cX3_goTo 9 = .ok (.getfield 162, 3) := zrD zrw_cX3_goTo_0 (i := 9) (by decide +kernel) rfl
theorem dX3_goTo_12 : decode cX3_goTo 12 = .ok (.if_icmp .ge 7, 3) := zrD zrw_cX3_goTo_0 (i := 12) (by decide +kernel) rfl
theorem dX3_goTo_15 : decode cX3_goTo 15 = .ok (.iconst 1, 1) := zrD zrw_cX3_goTo_0 (i := 15) (by decide +kernel) rfl
theorem dX3_goTo_16 : decode cX3_goTo 16 = .ok (.goto 4, 3) := zrD zrw_cX3_goTo_0 (i := 16) (by decide +kernel) rfl
theorem dX3_goTo_19 : decode cX3_goTo 19 = .ok (.iconst 0, 1) := zrD zrw_cX3_goTo_0 (i := 19) (by decide +kernel) rfl
theorem dX3_goTo_20 : decode cX3_goTo 20 = .ok (.istore_n 2, 1) := zrD zrw_cX3_goTo_0 (i := 20) (by decide +kernel) rfl
theorem dX3_goTo_21 : decode cX3_goTo 21 = .ok (.aload_n 0, 1) := zrD zrw_cX3_goTo_0 (i := 21) (by decide +kernel) rfl
theorem dX3_goTo_22 : decode cX3_goTo 22 = .ok (.iload_n 1, 1) := zrD zrw_cX3_goTo_0 (i := 22) (by decide +kernel) rfl
theorem dX3_goTo_23 : decode cX3_goTo 23 = .ok (.putfield 22, 3) := zrD zrw_cX3_goTo_0 (i := 23) (by decide +kernel) rfl
theorem dX3_goTo_26 : decode cX3_goTo 26 = .ok (.aload_n 0, 1) := zrD zrw_cX3_goTo_0 (i := 26) (by decide +kernel) rfl
theorem dX3_goTo_27 : decode cX3_goTo 27 = .ok (.iload_n 2, 1) := zrD zrw_cX3_goTo_0 (i := 27) (by decide +kernel) rfl
theorem dX3_goTo_28 : decode cX3_goTo 28 = .ok (.ifCond .eq 15, 3) := zrD zrw_cX3_goTo_0 (i := 28) (by decide +kernel) rfl
theorem dX3_goTo_31 : decode cX3_goTo 31 = .ok (.aload_n 0, 1) := zrD zrw_cX3_goTo_0 (i := 31) (by decide +kernel) rfl
def zrk_cX3_goTo_32 : ByteArray := .mk #[180, 0, 12, 180, 0, 163, 27, 46, 167, 0, 5, 16, 34, 181, 0, 26, 42, 28, 153, 0, 15, 42, 180, 0, 12, 180, 0, 166, 27, 47]
theorem zrw_cX3_goTo_32 : zrW 32 cX3_goTo zrk_cX3_goTo_32 := by unfold zrW; decide +kernel
theorem dX3_goTo_32 : decode cX3_goTo 32 = .ok (.getfield 12, 3) := zrD zrw_cX3_goTo_32 (i := 0) (by decide +kernel) rfl
theorem dX3_goTo_35 : decode cX3_goTo 35 = .ok (.getfield 163, 3) := zrD zrw_cX3_goTo_32 (i := 3) (by decide +kernel) rfl
theorem dX3_goTo_38 : decode cX3_goTo 38 = .ok (.iload_n 1, 1) := zrD zrw_cX3_goTo_32 (i := 6) (by decide +kernel) rfl
theorem dX3_goTo_39 : decode cX3_goTo 39 = .ok (.iaload, 1) := zrD zrw_cX3_goTo_32 (i := 7) (by decide +kernel) rfl
theorem dX3_goTo_40 : decode cX3_goTo 40 = .ok (.goto 5, 3) := zrD zrw_cX3_goTo_32 (i := 8) (by decide +kernel) rfl
theorem dX3_goTo_43 : decode cX3_goTo 43 = .ok (.bipush 34, 2) := zrD zrw_cX3_goTo_32 (i := 11) (by decide +kernel) rfl
theorem dX3_goTo_45 : decode cX3_goTo 45 = .ok (.putfield 26, 3) := zrD zrw_cX3_goTo_32 (i := 13) (by decide +kernel) rfl
theorem dX3_goTo_48 : decode cX3_goTo 48 = .ok (.aload_n 0, 1) := zrD zrw_cX3_goTo_32 (i := 16) (by decide +kernel) rfl
theorem dX3_goTo_49 : decode cX3_goTo 49 = .ok (.iload_n 2, 1) := zrD zrw_cX3_goTo_32 (i := 17) (by decide +kernel) rfl
theorem dX3_goTo_50 : decode cX3_goTo 50 = .ok (.ifCond .eq 15, 3) := zrD zrw_cX3_goTo_32 (i := 18) (by decide +kernel) rfl
theorem dX3_goTo_53 : decode cX3_goTo 53 = .ok (.aload_n 0, 1) := zrD zrw_cX3_goTo_32 (i := 21) (by decide +kernel) rfl
theorem dX3_goTo_54 : decode cX3_goTo 54 = .ok (.getfield 12, 3) := zrD zrw_cX3_goTo_32 (i := 22) (by decide +kernel) rfl
theorem dX3_goTo_57 : decode cX3_goTo 57 = .ok (.getfield 166, 3) := zrD zrw_cX3_goTo_32 (i := 25) (by decide +kernel) rfl
theorem dX3_goTo_60 : decode cX3_goTo 60 = .ok (.iload_n 1, 1) := zrD zrw_cX3_goTo_32 (i := 28) (by decide +kernel) rfl
theorem dX3_goTo_61 : decode cX3_goTo 61 = .ok (.laload, 1) := zrD zrw_cX3_goTo_32 (i := 29) (by decide +kernel) rfl
def zrk_cX3_goTo_62 : ByteArray := .mk #[167, 0, 4, 9, 181, 0, 29, 42, 28, 153, 0, 15, 42, 180, 0, 12, 180, 0, 169, 27, 46, 167, 0, 4, 2, 181, 0, 33, 177]
theorem zrw_cX3_goTo_62 : zrW 62 cX3_goTo zrk_cX3_goTo_62 := by unfold zrW; decide +kernel
theorem dX3_goTo_62 : decode cX3_goTo 62 = .ok (.goto 4, 3) := zrD zrw_cX3_goTo_62 (i := 0) (by decide +kernel) rfl
theorem dX3_goTo_65 : decode cX3_goTo 65 = .ok (.lconst 0, 1) := zrD zrw_cX3_goTo_62 (i := 3) (by decide +kernel) rfl
theorem dX3_goTo_66 : decode cX3_goTo 66 = .ok (.putfield 29, 3) := zrD zrw_cX3_goTo_62 (i := 4) (by decide +kernel) rfl
theorem dX3_goTo_69 : decode cX3_goTo 69 = .ok (.aload_n 0, 1) := zrD zrw_cX3_goTo_62 (i := 7) (by decide +kernel) rfl
theorem dX3_goTo_70 : decode cX3_goTo 70 = .ok (.iload_n 2, 1) := zrD zrw_cX3_goTo_62 (i := 8) (by decide +kernel) rfl
theorem dX3_goTo_71 : decode cX3_goTo 71 = .ok (.ifCond .eq 15, 3) := zrD zrw_cX3_goTo_62 (i := 9) (by decide +kernel) rfl
theorem dX3_goTo_74 : decode cX3_goTo 74 = .ok (.aload_n 0, 1) := zrD zrw_cX3_goTo_62 (i := 12) (by decide +kernel) rfl
theorem dX3_goTo_75 : decode cX3_goTo 75 = .ok (.getfield 12, 3) := zrD zrw_cX3_goTo_62 (i := 13) (by decide +kernel) rfl
theorem dX3_goTo_78 : decode cX3_goTo 78 = .ok (.getfield 169, 3) := zrD zrw_cX3_goTo_62 (i := 16) (by decide +kernel) rfl
theorem dX3_goTo_81 : decode cX3_goTo 81 = .ok (.iload_n 1, 1) := zrD zrw_cX3_goTo_62 (i := 19) (by decide +kernel) rfl
theorem dX3_goTo_82 : decode cX3_goTo 82 = .ok (.iaload, 1) := zrD zrw_cX3_goTo_62 (i := 20) (by decide +kernel) rfl
theorem dX3_goTo_83 : decode cX3_goTo 83 = .ok (.goto 4, 3) := zrD zrw_cX3_goTo_62 (i := 21) (by decide +kernel) rfl
theorem dX3_goTo_86 : decode cX3_goTo 86 = .ok (.iconst (-1), 1) := zrD zrw_cX3_goTo_62 (i := 24) (by decide +kernel) rfl
theorem dX3_goTo_87 : decode cX3_goTo 87 = .ok (.putfield 33, 3) := zrD zrw_cX3_goTo_62 (i := 25) (by decide +kernel) rfl
theorem dX3_goTo_90 : decode cX3_goTo 90 = .ok (.return_, 1) := zrD zrw_cX3_goTo_62 (i := 28) (by decide +kernel) rfl
def zrk_cX3_fail_0 : ByteArray := .mk #[42, 180, 0, 43, 154, 0, 22, 42, 27, 181, 0, 43, 42, 42, 180, 0, 33, 181, 0, 46, 42, 16, 34, 181, 0, 26, 177]
theorem zrw_cX3_fail_0 : zrW 0 cX3_fail zrk_cX3_fail_0 := by unfold zrW; decide +kernel
theorem dX3_fail_0 : decode cX3_fail 0 = .ok (.aload_n 0, 1) := zrD zrw_cX3_fail_0 (i := 0) (by decide +kernel) rfl
theorem dX3_fail_1 : decode cX3_fail 1 = .ok (.getfield 43, 3) := zrD zrw_cX3_fail_0 (i := 1) (by decide +kernel) rfl
theorem dX3_fail_4 : decode cX3_fail 4 = .ok (.ifCond .ne 22, 3) := zrD zrw_cX3_fail_0 (i := 4) (by decide +kernel) rfl
theorem dX3_fail_7 : decode cX3_fail 7 = .ok (.aload_n 0, 1) := zrD zrw_cX3_fail_0 (i := 7) (by decide +kernel) rfl
theorem dX3_fail_8 : decode cX3_fail 8 = .ok (.iload_n 1, 1) := zrD zrw_cX3_fail_0 (i := 8) (by decide +kernel) rfl
theorem dX3_fail_9 : decode cX3_fail 9 = .ok (.putfield 43, 3) := zrD zrw_cX3_fail_0 (i := 9) (by decide +kernel) rfl
theorem dX3_fail_12 : decode cX3_fail 12 = .ok (.aload_n 0, 1) := zrD zrw_cX3_fail_0 (i := 12) (by decide +kernel) rfl
theorem dX3_fail_13 : decode cX3_fail 13 = .ok (.aload_n 0, 1) := zrD zrw_cX3_fail_0 (i := 13) (by decide +kernel) rfl
theorem dX3_fail_14 : decode cX3_fail 14 = .ok (.getfield 33, 3) := zrD zrw_cX3_fail_0 (i := 14) (by decide +kernel) rfl
theorem dX3_fail_17 : decode cX3_fail 17 = .ok (.putfield 46, 3) := zrD zrw_cX3_fail_0 (i := 17) (by decide +kernel) rfl
theorem dX3_fail_20 : decode cX3_fail 20 = .ok (.aload_n 0, 1) := zrD zrw_cX3_fail_0 (i := 20) (by decide +kernel) rfl
theorem dX3_fail_21 : decode cX3_fail 21 = .ok (.bipush 34, 2) := zrD zrw_cX3_fail_0 (i := 21) (by decide +kernel) rfl
theorem dX3_fail_23 : decode cX3_fail 23 = .ok (.putfield 26, 3) := zrD zrw_cX3_fail_0 (i := 23) (by decide +kernel) rfl
theorem dX3_fail_26 : decode cX3_fail 26 = .ok (.return_, 1) := zrD zrw_cX3_fail_0 (i := 26) (by decide +kernel) rfl
def zrk_cX3_failLate_0 : ByteArray := .mk #[42, 180, 0, 49, 154, 0, 16, 42, 27, 181, 0, 49, 42, 42, 180, 0, 33, 181, 0, 52, 177]
theorem zrw_cX3_failLate_0 : zrW 0 cX3_failLate zrk_cX3_failLate_0 := by unfold zrW; decide +kernel
theorem dX3_failLate_0 : decode cX3_failLate 0 = .ok (.aload_n 0, 1) := zrD zrw_cX3_failLate_0 (i := 0) (by decide +kernel) rfl
theorem dX3_failLate_1 : decode cX3_failLate 1 = .ok (.getfield 49, 3) := zrD zrw_cX3_failLate_0 (i := 1) (by decide +kernel) rfl
theorem dX3_failLate_4 : decode cX3_failLate 4 = .ok (.ifCond .ne 16, 3) := zrD zrw_cX3_failLate_0 (i := 4) (by decide +kernel) rfl
theorem dX3_failLate_7 : decode cX3_failLate 7 = .ok (.aload_n 0, 1) := zrD zrw_cX3_failLate_0 (i := 7) (by decide +kernel) rfl
theorem dX3_failLate_8 : decode cX3_failLate 8 = .ok (.iload_n 1, 1) := zrD zrw_cX3_failLate_0 (i := 8) (by decide +kernel) rfl
theorem dX3_failLate_9 : decode cX3_failLate 9 = .ok (.putfield 49, 3) := zrD zrw_cX3_failLate_0 (i := 9) (by decide +kernel) rfl
theorem dX3_failLate_12 : decode cX3_failLate 12 = .ok (.aload_n 0, 1) := zrD zrw_cX3_failLate_0 (i := 12) (by decide +kernel) rfl
theorem dX3_failLate_13 : decode cX3_failLate 13 = .ok (.aload_n 0, 1) := zrD zrw_cX3_failLate_0 (i := 13) (by decide +kernel) rfl
theorem dX3_failLate_14 : decode cX3_failLate 14 = .ok (.getfield 33, 3) := zrD zrw_cX3_failLate_0 (i := 14) (by decide +kernel) rfl
theorem dX3_failLate_17 : decode cX3_failLate 17 = .ok (.putfield 52, 3) := zrD zrw_cX3_failLate_0 (i := 17) (by decide +kernel) rfl
theorem dX3_failLate_20 : decode cX3_failLate 20 = .ok (.return_, 1) := zrD zrw_cX3_failLate_0 (i := 20) (by decide +kernel) rfl
def zrk_cX4_init_0 : ByteArray := .mk #[42, 183, 0, 1, 42, 16, 40, 189, 0, 9, 181, 0, 11, 42, 3, 181, 0, 15, 42, 3, 181, 0, 19, 3, 60, 27, 16, 40, 162, 0, 22, 42]
theorem zrw_cX4_init_0 : zrW 0 cX4_init zrk_cX4_init_0 := by unfold zrW; decide +kernel
theorem dX4_init_0 : decode cX4_init 0 = .ok (.aload_n 0, 1) := zrD zrw_cX4_init_0 (i := 0) (by decide +kernel) rfl
theorem dX4_init_1 : decode cX4_init 1 = .ok (.invokespecial 1, 3) := zrD zrw_cX4_init_0 (i := 1) (by decide +kernel) rfl
theorem dX4_init_4 : decode cX4_init 4 = .ok (.aload_n 0, 1) := zrD zrw_cX4_init_0 (i := 4) (by decide +kernel) rfl
theorem dX4_init_5 : decode cX4_init 5 = .ok (.bipush 40, 2) := zrD zrw_cX4_init_0 (i := 5) (by decide +kernel) rfl
theorem dX4_init_7 : decode cX4_init 7 = .ok (.anewarray 9, 3) := zrD zrw_cX4_init_0 (i := 7) (by decide +kernel) rfl
theorem dX4_init_10 : decode cX4_init 10 = .ok (.putfield 11, 3) := zrD zrw_cX4_init_0 (i := 10) (by decide +kernel) rfl
theorem dX4_init_13 : decode cX4_init 13 = .ok (.aload_n 0, 1) := zrD zrw_cX4_init_0 (i := 13) (by decide +kernel) rfl
theorem dX4_init_14 : decode cX4_init 14 = .ok (.iconst 0, 1) := zrD zrw_cX4_init_0 (i := 14) (by decide +kernel) rfl
theorem dX4_init_15 : decode cX4_init 15 = .ok (.putfield 15, 3) := zrD zrw_cX4_init_0 (i := 15) (by decide +kernel) rfl
theorem dX4_init_18 : decode cX4_init 18 = .ok (.aload_n 0, 1) := zrD zrw_cX4_init_0 (i := 18) (by decide +kernel) rfl
theorem dX4_init_19 : decode cX4_init 19 = .ok (.iconst 0, 1) := zrD zrw_cX4_init_0 (i := 19) (by decide +kernel) rfl
theorem dX4_init_20 : decode cX4_init 20 = .ok (.putfield 19, 3) := zrD zrw_cX4_init_0 (i := 20) (by decide +kernel) rfl
theorem dX4_init_23 : decode cX4_init 23 = .ok (.iconst 0, 1) := zrD zrw_cX4_init_0 (i := 23) (by decide +kernel) rfl
theorem dX4_init_24 : decode cX4_init 24 = .ok (.istore_n 1, 1) := zrD zrw_cX4_init_0 (i := 24) (by decide +kernel) rfl
theorem dX4_init_25 : decode cX4_init 25 = .ok (.iload_n 1, 1) := zrD zrw_cX4_init_0 (i := 25) (by decide +kernel) rfl
theorem dX4_init_26 : decode cX4_init 26 = .ok (.bipush 40, 2) := zrD zrw_cX4_init_0 (i := 26) (by decide +kernel) rfl
theorem dX4_init_28 : decode cX4_init 28 = .ok (.if_icmp .ge 22, 3) := zrD zrw_cX4_init_0 (i := 28) (by decide +kernel) rfl
theorem dX4_init_31 : decode cX4_init 31 = .ok (.aload_n 0, 1) := zrD zrw_cX4_init_0 (i := 31) (by decide +kernel) rfl
def zrk_cX4_init_32 : ByteArray := .mk #[180, 0, 11, 27, 187, 0, 9, 89, 183, 0, 22, 83, 132, 1, 1, 167, 255, 234, 177]
theorem zrw_cX4_init_32 : zrW 32 cX4_init zrk_cX4_init_32 := by unfold zrW; decide +kernel
theorem dX4_init_32 : decode cX4_init 32 = .ok (.getfield 11, 3) := zrD zrw_cX4_init_32 (i := 0) (by decide +kernel) rfl
theorem dX4_init_35 : decode cX4_init 35 = .ok (.iload_n 1, 1) := zrD zrw_cX4_init_32 (i := 3) (by decide +kernel) rfl
theorem dX4_init_36 : decode cX4_init 36 = .ok (.new 9, 3) := zrD zrw_cX4_init_32 (i := 4) (by decide +kernel) rfl
theorem dX4_init_39 : decode cX4_init 39 = .ok (.dup, 1) := zrD zrw_cX4_init_32 (i := 7) (by decide +kernel) rfl
theorem dX4_init_40 : decode cX4_init 40 = .ok (.invokespecial 22, 3) := zrD zrw_cX4_init_32 (i := 8) (by decide +kernel) rfl
theorem dX4_init_43 : decode cX4_init 43 = .ok (.aastore, 1) := zrD zrw_cX4_init_32 (i := 11) (by decide +kernel) rfl
theorem dX4_init_44 : decode cX4_init 44 = .ok (.iinc 1 1, 3) := zrD zrw_cX4_init_32 (i := 12) (by decide +kernel) rfl
theorem dX4_init_47 : decode cX4_init 47 = .ok (.goto (-22), 3) := zrD zrw_cX4_init_32 (i := 15) (by decide +kernel) rfl
theorem dX4_init_50 : decode cX4_init 50 = .ok (.return_, 1) := zrD zrw_cX4_init_32 (i := 18) (by decide +kernel) rfl
def zrk_cX4_push_0 : ByteArray := .mk #[42, 180, 0, 11, 42, 180, 0, 15, 50, 43, 182, 0, 23, 42, 42, 180, 0, 15, 4, 96, 16, 40, 112, 181, 0, 15, 42, 16, 40, 42]
theorem zrw_cX4_push_0 : zrW 0 cX4_push zrk_cX4_push_0 := by unfold zrW; decide +kernel
theorem dX4_push_0 : decode cX4_push 0 = .ok (.aload_n 0, 1) := zrD zrw_cX4_push_0 (i := 0) (by decide +kernel) rfl
theorem dX4_push_1 : decode cX4_push 1 = .ok (.getfield 11, 3) := zrD zrw_cX4_push_0 (i := 1) (by decide +kernel) rfl
theorem dX4_push_4 : decode cX4_push 4 = .ok (.aload_n 0, 1) := zrD zrw_cX4_push_0 (i := 4) (by decide +kernel) rfl
theorem dX4_push_5 : decode cX4_push 5 = .ok (.getfield 15, 3) := zrD zrw_cX4_push_0 (i := 5) (by decide +kernel) rfl
theorem dX4_push_8 : decode cX4_push 8 = .ok (.aaload, 1) := zrD zrw_cX4_push_0 (i := 8) (by decide +kernel) rfl
theorem dX4_push_9 : decode cX4_push 9 = .ok (.aload_n 1, 1) := zrD zrw_cX4_push_0 (i := 9) (by decide +kernel) rfl
theorem dX4_push_10 : decode cX4_push 10 = .ok (.invokevirtual 23, 3) := zrD zrw_cX4_push_0 (i := 10) (by decide +kernel) rfl
theorem dX4_push_13 : decode cX4_push 13 = .ok (.aload_n 0, 1) := zrD zrw_cX4_push_0 (i := 13) (by decide +kernel) rfl
theorem dX4_push_14 : decode cX4_push 14 = .ok (.aload_n 0, 1) := zrD zrw_cX4_push_0 (i := 14) (by decide +kernel) rfl
theorem dX4_push_15 : decode cX4_push 15 = .ok (.getfield 15, 3) := zrD zrw_cX4_push_0 (i := 15) (by decide +kernel) rfl
theorem dX4_push_18 : decode cX4_push 18 = .ok (.iconst 1, 1) := zrD zrw_cX4_push_0 (i := 18) (by decide +kernel) rfl
theorem dX4_push_19 : decode cX4_push 19 = .ok (.iadd, 1) := zrD zrw_cX4_push_0 (i := 19) (by decide +kernel) rfl
theorem dX4_push_20 : decode cX4_push 20 = .ok (.bipush 40, 2) := zrD zrw_cX4_push_0 (i := 20) (by decide +kernel) rfl
theorem dX4_push_22 : decode cX4_push 22 = .ok (.irem, 1) := zrD zrw_cX4_push_0 (i := 22) (by decide +kernel) rfl
theorem dX4_push_23 : decode cX4_push 23 = .ok (.putfield 15, 3) := zrD zrw_cX4_push_0 (i := 23) (by decide +kernel) rfl
theorem dX4_push_26 : decode cX4_push 26 = .ok (.aload_n 0, 1) := zrD zrw_cX4_push_0 (i := 26) (by decide +kernel) rfl
theorem dX4_push_27 : decode cX4_push 27 = .ok (.bipush 40, 2) := zrD zrw_cX4_push_0 (i := 27) (by decide +kernel) rfl
theorem dX4_push_29 : decode cX4_push 29 = .ok (.aload_n 0, 1) := zrD zrw_cX4_push_0 (i := 29) (by decide +kernel) rfl
def zrk_cX4_push_30 : ByteArray := .mk #[180, 0, 19, 4, 96, 184, 0, 27, 181, 0, 19, 177]
theorem zrw_cX4_push_30 : zrW 30 cX4_push zrk_cX4_push_30 := by unfold zrW; decide +kernel
theorem dX4_push_30 : decode cX4_push 30 = .ok (.getfield 19, 3) := zrD zrw_cX4_push_30 (i := 0) (by decide +kernel) rfl
theorem dX4_push_33 : decode cX4_push 33 = .ok (.iconst 1, 1) := zrD zrw_cX4_push_30 (i := 3) (by decide +kernel) rfl
theorem dX4_push_34 : decode cX4_push 34 = .ok (.iadd, 1) := zrD zrw_cX4_push_30 (i := 4) (by decide +kernel) rfl
theorem dX4_push_35 : decode cX4_push 35 = .ok (.invokestatic 27, 3) := zrD zrw_cX4_push_30 (i := 5) (by decide +kernel) rfl
theorem dX4_push_38 : decode cX4_push 38 = .ok (.putfield 19, 3) := zrD zrw_cX4_push_30 (i := 8) (by decide +kernel) rfl
theorem dX4_push_41 : decode cX4_push 41 = .ok (.return_, 1) := zrD zrw_cX4_push_30 (i := 11) (by decide +kernel) rfl
def zrk_cX4_pop_0 : ByteArray := .mk #[42, 180, 0, 19, 154, 0, 5, 3, 172, 42, 42, 180, 0, 15, 16, 40, 96, 4, 100, 16, 40, 112, 181, 0, 15, 42, 89, 180, 0, 19, 4, 100]
theorem zrw_cX4_pop_0 : zrW 0 cX4_pop zrk_cX4_pop_0 := by unfold zrW; decide +kernel
theorem dX4_pop_0 : decode cX4_pop 0 = .ok (.aload_n 0, 1) := zrD zrw_cX4_pop_0 (i := 0) (by decide +kernel) rfl
theorem dX4_pop_1 : decode cX4_pop 1 = .ok (.getfield 19, 3) := zrD zrw_cX4_pop_0 (i := 1) (by decide +kernel) rfl
theorem dX4_pop_4 : decode cX4_pop 4 = .ok (.ifCond .ne 5, 3) := zrD zrw_cX4_pop_0 (i := 4) (by decide +kernel) rfl
theorem dX4_pop_7 : decode cX4_pop 7 = .ok (.iconst 0, 1) := zrD zrw_cX4_pop_0 (i := 7) (by decide +kernel) rfl
theorem dX4_pop_8 : decode cX4_pop 8 = .ok (.ireturn, 1) := zrD zrw_cX4_pop_0 (i := 8) (by decide +kernel) rfl
theorem dX4_pop_9 : decode cX4_pop 9 = .ok (.aload_n 0, 1) := zrD zrw_cX4_pop_0 (i := 9) (by decide +kernel) rfl
theorem dX4_pop_10 : decode cX4_pop 10 = .ok (.aload_n 0, 1) := zrD zrw_cX4_pop_0 (i := 10) (by decide +kernel) rfl
theorem dX4_pop_11 : decode cX4_pop 11 = .ok (.getfield 15, 3) := zrD zrw_cX4_pop_0 (i := 11) (by decide +kernel) rfl
theorem dX4_pop_14 : decode cX4_pop 14 = .ok (.bipush 40, 2) := zrD zrw_cX4_pop_0 (i := 14) (by decide +kernel) rfl
theorem dX4_pop_16 : decode cX4_pop 16 = .ok (.iadd, 1) := zrD zrw_cX4_pop_0 (i := 16) (by decide +kernel) rfl
theorem dX4_pop_17 : decode cX4_pop 17 = .ok (.iconst 1, 1) := zrD zrw_cX4_pop_0 (i := 17) (by decide +kernel) rfl
theorem dX4_pop_18 : decode cX4_pop 18 = .ok (.isub, 1) := zrD zrw_cX4_pop_0 (i := 18) (by decide +kernel) rfl
theorem dX4_pop_19 : decode cX4_pop 19 = .ok (.bipush 40, 2) := zrD zrw_cX4_pop_0 (i := 19) (by decide +kernel) rfl
theorem dX4_pop_21 : decode cX4_pop 21 = .ok (.irem, 1) := zrD zrw_cX4_pop_0 (i := 21) (by decide +kernel) rfl
theorem dX4_pop_22 : decode cX4_pop 22 = .ok (.putfield 15, 3) := zrD zrw_cX4_pop_0 (i := 22) (by decide +kernel) rfl
theorem dX4_pop_25 : decode cX4_pop 25 = .ok (.aload_n 0, 1) := zrD zrw_cX4_pop_0 (i := 25) (by decide +kernel) rfl
theorem dX4_pop_26 : decode cX4_pop 26 = .ok (.dup, 1) := zrD zrw_cX4_pop_0 (i := 26) (by decide +kernel) rfl
theorem dX4_pop_27 : decode cX4_pop 27 = .ok (.getfield 19, 3) := zrD zrw_cX4_pop_0 (i := 27) (by decide +kernel) rfl
theorem dX4_pop_30 : decode cX4_pop 30 = .ok (.iconst 1, 1) := zrD zrw_cX4_pop_0 (i := 30) (by decide +kernel) rfl
theorem dX4_pop_31 : decode cX4_pop 31 = .ok (.isub, 1) := zrD zrw_cX4_pop_0 (i := 31) (by decide +kernel) rfl
def zrk_cX4_pop_32 : ByteArray := .mk #[181, 0, 19, 43, 42, 180, 0, 11, 42, 180, 0, 15, 50, 182, 0, 23, 4, 172]
theorem zrw_cX4_pop_32 : zrW 32 cX4_pop zrk_cX4_pop_32 := by unfold zrW; decide +kernel
theorem dX4_pop_32 : decode cX4_pop 32 = .ok (.putfield 19, 3) := zrD zrw_cX4_pop_32 (i := 0) (by decide +kernel) rfl
theorem dX4_pop_35 : decode cX4_pop 35 = .ok (.aload_n 1, 1) := zrD zrw_cX4_pop_32 (i := 3) (by decide +kernel) rfl
theorem dX4_pop_36 : decode cX4_pop 36 = .ok (.aload_n 0, 1) := zrD zrw_cX4_pop_32 (i := 4) (by decide +kernel) rfl
theorem dX4_pop_37 : decode cX4_pop 37 = .ok (.getfield 11, 3) := zrD zrw_cX4_pop_32 (i := 5) (by decide +kernel) rfl
theorem dX4_pop_40 : decode cX4_pop 40 = .ok (.aload_n 0, 1) := zrD zrw_cX4_pop_32 (i := 8) (by decide +kernel) rfl
theorem dX4_pop_41 : decode cX4_pop 41 = .ok (.getfield 15, 3) := zrD zrw_cX4_pop_32 (i := 9) (by decide +kernel) rfl
theorem dX4_pop_44 : decode cX4_pop 44 = .ok (.aaload, 1) := zrD zrw_cX4_pop_32 (i := 12) (by decide +kernel) rfl
theorem dX4_pop_45 : decode cX4_pop 45 = .ok (.invokevirtual 23, 3) := zrD zrw_cX4_pop_32 (i := 13) (by decide +kernel) rfl
theorem dX4_pop_48 : decode cX4_pop 48 = .ok (.iconst 1, 1) := zrD zrw_cX4_pop_32 (i := 16) (by decide +kernel) rfl
theorem dX4_pop_49 : decode cX4_pop 49 = .ok (.ireturn, 1) := zrD zrw_cX4_pop_32 (i := 17) (by decide +kernel) rfl
def zrk_cX5_init_0 : ByteArray := .mk #[42, 183, 0, 3, 42, 187, 0, 9, 89, 183, 0, 11, 181, 0, 12, 42, 187, 0, 18, 89, 183, 0, 20, 181, 0, 21, 42, 16, 12]
theorem zrw_cX5_init_0 : zrW 0 cX5_init zrk_cX5_init_0 := by unfold zrW; decide +kernel
theorem dX5_init_0 : decode cX5_init 0 = .ok (.aload_n 0, 1) := zrD zrw_cX5_init_0 (i := 0) (by decide +kernel) rfl
theorem dX5_init_1 : decode cX5_init 1 = .ok (.invokespecial 3, 3) := zrD zrw_cX5_init_0 (i := 1) (by decide +kernel) rfl
theorem dX5_init_4 : decode cX5_init 4 = .ok (.aload_n 0, 1) := zrD zrw_cX5_init_0 (i := 4) (by decide +kernel) rfl
theorem dX5_init_5 : decode cX5_init 5 = .ok (.new 9, 3) := zrD zrw_cX5_init_0 (i := 5) (by decide +kernel) rfl
theorem dX5_init_8 : decode cX5_init 8 = .ok (.dup, 1) := zrD zrw_cX5_init_0 (i := 8) (by decide +kernel) rfl
theorem dX5_init_9 : decode cX5_init 9 = .ok (.invokespecial 11, 3) := zrD zrw_cX5_init_0 (i := 9) (by decide +kernel) rfl
theorem dX5_init_12 : decode cX5_init 12 = .ok (.putfield 12, 3) := zrD zrw_cX5_init_0 (i := 12) (by decide +kernel) rfl
theorem dX5_init_15 : decode cX5_init 15 = .ok (.aload_n 0, 1) := zrD zrw_cX5_init_0 (i := 15) (by decide +kernel) rfl
theorem dX5_init_16 : decode cX5_init 16 = .ok (.new 18, 3) := zrD zrw_cX5_init_0 (i := 16) (by decide +kernel) rfl
theorem dX5_init_19 : decode cX5_init 19 = .ok (.dup, 1) := zrD zrw_cX5_init_0 (i := 19) (by decide +kernel) rfl
theorem dX5_init_20 : decode cX5_init 20 = .ok (.invokespecial 20, 3) := zrD zrw_cX5_init_0 (i := 20) (by decide +kernel) rfl
theorem dX5_init_23 : decode cX5_init 23 = .ok (.putfield 21, 3) := zrD zrw_cX5_init_0 (i := 23) (by decide +kernel) rfl
theorem dX5_init_26 : decode cX5_init 26 = .ok (.aload_n 0, 1) := zrD zrw_cX5_init_0 (i := 26) (by decide +kernel) rfl
theorem dX5_init_27 : decode cX5_init 27 = .ok (.bipush 12, 2) := zrD zrw_cX5_init_0 (i := 27) (by decide +kernel) rfl
theorem dX5_init_29 : decode cX5_init 29 = .ok (.newarray .int, 2) := by decide +kernel
def zrk_cX5_init_31 : ByteArray := .mk #[181, 0, 25, 42, 16, 12]
theorem zrw_cX5_init_31 : zrW 31 cX5_init zrk_cX5_init_31 := by unfold zrW; decide +kernel
theorem dX5_init_31 : decode cX5_init 31 = .ok (.putfield 25, 3) := zrD zrw_cX5_init_31 (i := 0) (by decide +kernel) rfl
theorem dX5_init_34 : decode cX5_init 34 = .ok (.aload_n 0, 1) := zrD zrw_cX5_init_31 (i := 3) (by decide +kernel) rfl
theorem dX5_init_35 : decode cX5_init 35 = .ok (.bipush 12, 2) := zrD zrw_cX5_init_31 (i := 4) (by decide +kernel) rfl
theorem dX5_init_37 : decode cX5_init 37 = .ok (.newarray .int, 2) := by decide +kernel
def zrk_cX5_init_39 : ByteArray := .mk #[181, 0, 29, 42, 16, 12]
theorem zrw_cX5_init_39 : zrW 39 cX5_init zrk_cX5_init_39 := by unfold zrW; decide +kernel
theorem dX5_init_39 : decode cX5_init 39 = .ok (.putfield 29, 3) := zrD zrw_cX5_init_39 (i := 0) (by decide +kernel) rfl
theorem dX5_init_42 : decode cX5_init 42 = .ok (.aload_n 0, 1) := zrD zrw_cX5_init_39 (i := 3) (by decide +kernel) rfl
theorem dX5_init_43 : decode cX5_init 43 = .ok (.bipush 12, 2) := zrD zrw_cX5_init_39 (i := 4) (by decide +kernel) rfl
theorem dX5_init_45 : decode cX5_init 45 = .ok (.newarray .int, 2) := by decide +kernel
def zrk_cX5_init_47 : ByteArray := .mk #[181, 0, 32, 42, 1, 181, 0, 35, 42, 1, 181, 0, 39, 177]
theorem zrw_cX5_init_47 : zrW 47 cX5_init zrk_cX5_init_47 := by unfold zrW; decide +kernel
theorem dX5_init_47 : decode cX5_init 47 = .ok (.putfield 32, 3) := zrD zrw_cX5_init_47 (i := 0) (by decide +kernel) rfl
theorem dX5_init_50 : decode cX5_init 50 = .ok (.aload_n 0, 1) := zrD zrw_cX5_init_47 (i := 3) (by decide +kernel) rfl
theorem dX5_init_51 : decode cX5_init 51 = .ok (.aconst_null, 1) := zrD zrw_cX5_init_47 (i := 4) (by decide +kernel) rfl
theorem dX5_init_52 : decode cX5_init 52 = .ok (.putfield 35, 3) := zrD zrw_cX5_init_47 (i := 5) (by decide +kernel) rfl
theorem dX5_init_55 : decode cX5_init 55 = .ok (.aload_n 0, 1) := zrD zrw_cX5_init_47 (i := 8) (by decide +kernel) rfl
theorem dX5_init_56 : decode cX5_init 56 = .ok (.aconst_null, 1) := zrD zrw_cX5_init_47 (i := 9) (by decide +kernel) rfl
theorem dX5_init_57 : decode cX5_init 57 = .ok (.putfield 39, 3) := zrD zrw_cX5_init_47 (i := 10) (by decide +kernel) rfl
theorem dX5_init_60 : decode cX5_init 60 = .ok (.return_, 1) := zrD zrw_cX5_init_47 (i := 13) (by decide +kernel) rfl
def zrk_cX5_look_0 : ByteArray := .mk #[42, 43, 44, 182, 0, 43, 42, 3, 182, 0, 47, 177]
theorem zrw_cX5_look_0 : zrW 0 cX5_look zrk_cX5_look_0 := by unfold zrW; decide +kernel
theorem dX5_look_0 : decode cX5_look 0 = .ok (.aload_n 0, 1) := zrD zrw_cX5_look_0 (i := 0) (by decide +kernel) rfl
theorem dX5_look_1 : decode cX5_look 1 = .ok (.aload_n 1, 1) := zrD zrw_cX5_look_0 (i := 1) (by decide +kernel) rfl
theorem dX5_look_2 : decode cX5_look 2 = .ok (.aload_n 2, 1) := zrD zrw_cX5_look_0 (i := 2) (by decide +kernel) rfl
theorem dX5_look_3 : decode cX5_look 3 = .ok (.invokevirtual 43, 3) := zrD zrw_cX5_look_0 (i := 3) (by decide +kernel) rfl
theorem dX5_look_6 : decode cX5_look 6 = .ok (.aload_n 0, 1) := zrD zrw_cX5_look_0 (i := 6) (by decide +kernel) rfl
theorem dX5_look_7 : decode cX5_look 7 = .ok (.iconst 0, 1) := zrD zrw_cX5_look_0 (i := 7) (by decide +kernel) rfl
theorem dX5_look_8 : decode cX5_look 8 = .ok (.invokevirtual 47, 3) := zrD zrw_cX5_look_0 (i := 8) (by decide +kernel) rfl
theorem dX5_look_11 : decode cX5_look 11 = .ok (.return_, 1) := zrD zrw_cX5_look_0 (i := 11) (by decide +kernel) rfl
def zrk_cX5_form_0 : ByteArray := .mk #[42, 43, 181, 0, 35, 42, 44, 181, 0, 39, 42, 180, 0, 12, 43, 44, 182, 0, 51, 177]
theorem zrw_cX5_form_0 : zrW 0 cX5_form zrk_cX5_form_0 := by unfold zrW; decide +kernel
theorem dX5_form_0 : decode cX5_form 0 = .ok (.aload_n 0, 1) := zrD zrw_cX5_form_0 (i := 0) (by decide +kernel) rfl
theorem dX5_form_1 : decode cX5_form 1 = .ok (.aload_n 1, 1) := zrD zrw_cX5_form_0 (i := 1) (by decide +kernel) rfl
theorem dX5_form_2 : decode cX5_form 2 = .ok (.putfield 35, 3) := zrD zrw_cX5_form_0 (i := 2) (by decide +kernel) rfl
theorem dX5_form_5 : decode cX5_form 5 = .ok (.aload_n 0, 1) := zrD zrw_cX5_form_0 (i := 5) (by decide +kernel) rfl
theorem dX5_form_6 : decode cX5_form 6 = .ok (.aload_n 2, 1) := zrD zrw_cX5_form_0 (i := 6) (by decide +kernel) rfl
theorem dX5_form_7 : decode cX5_form 7 = .ok (.putfield 39, 3) := zrD zrw_cX5_form_0 (i := 7) (by decide +kernel) rfl
theorem dX5_form_10 : decode cX5_form 10 = .ok (.aload_n 0, 1) := zrD zrw_cX5_form_0 (i := 10) (by decide +kernel) rfl
theorem dX5_form_11 : decode cX5_form 11 = .ok (.getfield 12, 3) := zrD zrw_cX5_form_0 (i := 11) (by decide +kernel) rfl
theorem dX5_form_14 : decode cX5_form 14 = .ok (.aload_n 1, 1) := zrD zrw_cX5_form_0 (i := 14) (by decide +kernel) rfl
theorem dX5_form_15 : decode cX5_form 15 = .ok (.aload_n 2, 1) := zrD zrw_cX5_form_0 (i := 15) (by decide +kernel) rfl
theorem dX5_form_16 : decode cX5_form 16 = .ok (.invokevirtual 51, 3) := zrD zrw_cX5_form_0 (i := 16) (by decide +kernel) rfl
theorem dX5_form_19 : decode cX5_form 19 = .ok (.return_, 1) := zrD zrw_cX5_form_0 (i := 19) (by decide +kernel) rfl
def zrk_cX5_fall_0 : ByteArray := .mk #[42, 27, 182, 0, 52, 42, 42, 180, 0, 39, 180, 0, 55, 182, 0, 61, 177]
theorem zrw_cX5_fall_0 : zrW 0 cX5_fall zrk_cX5_fall_0 := by unfold zrW; decide +kernel
theorem dX5_fall_0 : decode cX5_fall 0 = .ok (.aload_n 0, 1) := zrD zrw_cX5_fall_0 (i := 0) (by decide +kernel) rfl
theorem dX5_fall_1 : decode cX5_fall 1 = .ok (.iload_n 1, 1) := zrD zrw_cX5_fall_0 (i := 1) (by decide +kernel) rfl
theorem dX5_fall_2 : decode cX5_fall 2 = .ok (.invokevirtual 52, 3) := zrD zrw_cX5_fall_0 (i := 2) (by decide +kernel) rfl
theorem dX5_fall_5 : decode cX5_fall 5 = .ok (.aload_n 0, 1) := zrD zrw_cX5_fall_0 (i := 5) (by decide +kernel) rfl
theorem dX5_fall_6 : decode cX5_fall 6 = .ok (.aload_n 0, 1) := zrD zrw_cX5_fall_0 (i := 6) (by decide +kernel) rfl
theorem dX5_fall_7 : decode cX5_fall 7 = .ok (.getfield 39, 3) := zrD zrw_cX5_fall_0 (i := 7) (by decide +kernel) rfl
theorem dX5_fall_10 : decode cX5_fall 10 = .ok (.getfield 55, 3) := zrD zrw_cX5_fall_0 (i := 10) (by decide +kernel) rfl
theorem dX5_fall_13 : decode cX5_fall 13 = .ok (.invokevirtual 61, 3) := zrD zrw_cX5_fall_0 (i := 13) (by decide +kernel) rfl
theorem dX5_fall_16 : decode cX5_fall 16 = .ok (.return_, 1) := zrD zrw_cX5_fall_0 (i := 16) (by decide +kernel) rfl
def zrk_cX5_rainDown_0 : ByteArray := .mk #[3, 61, 28, 42, 180, 0, 12, 180, 0, 64, 162, 0, 31, 42, 180, 0, 25, 28, 42, 3, 28, 3, 182, 0, 69, 3, 17, 3, 231, 184, 0, 73]
theorem zrw_cX5_rainDown_0 : zrW 0 cX5_rainDown zrk_cX5_rainDown_0 := by unfold zrW; decide +kernel
theorem dX5_rainDown_0 : decode cX5_rainDown 0 = .ok (.iconst 0, 1) := zrD zrw_cX5_rainDown_0 (i := 0) (by decide +kernel) rfl
theorem dX5_rainDown_1 : decode cX5_rainDown 1 = .ok (.istore_n 2, 1) := zrD zrw_cX5_rainDown_0 (i := 1) (by decide +kernel) rfl
theorem dX5_rainDown_2 : decode cX5_rainDown 2 = .ok (.iload_n 2, 1) := zrD zrw_cX5_rainDown_0 (i := 2) (by decide +kernel) rfl
theorem dX5_rainDown_3 : decode cX5_rainDown 3 = .ok (.aload_n 0, 1) := zrD zrw_cX5_rainDown_0 (i := 3) (by decide +kernel) rfl
theorem dX5_rainDown_4 : decode cX5_rainDown 4 = .ok (.getfield 12, 3) := zrD zrw_cX5_rainDown_0 (i := 4) (by decide +kernel) rfl
theorem dX5_rainDown_7 : decode cX5_rainDown 7 = .ok (.getfield 64, 3) := zrD zrw_cX5_rainDown_0 (i := 7) (by decide +kernel) rfl
theorem dX5_rainDown_10 : decode cX5_rainDown 10 = .ok (.if_icmp .ge 31, 3) := zrD zrw_cX5_rainDown_0 (i := 10) (by decide +kernel) rfl
theorem dX5_rainDown_13 : decode cX5_rainDown 13 = .ok (.aload_n 0, 1) := zrD zrw_cX5_rainDown_0 (i := 13) (by decide +kernel) rfl
theorem dX5_rainDown_14 : decode cX5_rainDown 14 = .ok (.getfield 25, 3) := zrD zrw_cX5_rainDown_0 (i := 14) (by decide +kernel) rfl
theorem dX5_rainDown_17 : decode cX5_rainDown 17 = .ok (.iload_n 2, 1) := zrD zrw_cX5_rainDown_0 (i := 17) (by decide +kernel) rfl
theorem dX5_rainDown_18 : decode cX5_rainDown 18 = .ok (.aload_n 0, 1) := zrD zrw_cX5_rainDown_0 (i := 18) (by decide +kernel) rfl
theorem dX5_rainDown_19 : decode cX5_rainDown 19 = .ok (.iconst 0, 1) := zrD zrw_cX5_rainDown_0 (i := 19) (by decide +kernel) rfl
theorem dX5_rainDown_20 : decode cX5_rainDown 20 = .ok (.iload_n 2, 1) := zrD zrw_cX5_rainDown_0 (i := 20) (by decide +kernel) rfl
theorem dX5_rainDown_21 : decode cX5_rainDown 21 = .ok (.iconst 0, 1) := zrD zrw_cX5_rainDown_0 (i := 21) (by decide +kernel) rfl
theorem dX5_rainDown_22 : decode cX5_rainDown 22 = .ok (.invokevirtual 69, 3) := zrD zrw_cX5_rainDown_0 (i := 22) (by decide +kernel) rfl
theorem dX5_rainDown_25 : decode cX5_rainDown 25 = .ok (.iconst 0, 1) := zrD zrw_cX5_rainDown_0 (i := 25) (by decide +kernel) rfl
theorem dX5_rainDown_26 : decode cX5_rainDown 26 = .ok (.sipush 999, 3) := zrD zrw_cX5_rainDown_0 (i := 26) (by decide +kernel) rfl
theorem dX5_rainDown_29 : decode cX5_rainDown 29 = .ok (.invokestatic 73, 3) := zrD zrw_cX5_rainDown_0 (i := 29) (by decide +kernel) rfl
def zrk_cX5_rainDown_32 : ByteArray := .mk #[27, 96, 79, 132, 2, 1, 167, 255, 220, 177]
theorem zrw_cX5_rainDown_32 : zrW 32 cX5_rainDown zrk_cX5_rainDown_32 := by unfold zrW; decide +kernel
theorem dX5_rainDown_32 : decode cX5_rainDown 32 = .ok (.iload_n 1, 1) := zrD zrw_cX5_rainDown_32 (i := 0) (by decide +kernel) rfl
theorem dX5_rainDown_33 : decode cX5_rainDown 33 = .ok (.iadd, 1) := zrD zrw_cX5_rainDown_32 (i := 1) (by decide +kernel) rfl
theorem dX5_rainDown_34 : decode cX5_rainDown 34 = .ok (.iastore, 1) := zrD zrw_cX5_rainDown_32 (i := 2) (by decide +kernel) rfl
theorem dX5_rainDown_35 : decode cX5_rainDown 35 = .ok (.iinc 2 1, 3) := zrD zrw_cX5_rainDown_32 (i := 3) (by decide +kernel) rfl
theorem dX5_rainDown_38 : decode cX5_rainDown 38 = .ok (.goto (-36), 3) := zrD zrw_cX5_rainDown_32 (i := 6) (by decide +kernel) rfl
theorem dX5_rainDown_41 : decode cX5_rainDown 41 = .ok (.return_, 1) := zrD zrw_cX5_rainDown_32 (i := 9) (by decide +kernel) rfl
def zrk_cX5_run_0 : ByteArray := .mk #[42, 180, 0, 25, 3, 42, 180, 0, 29, 3, 16, 12, 184, 0, 76, 42, 180, 0, 12, 180, 0, 64, 4, 100, 61, 28, 158, 0, 56, 42]
theorem zrw_cX5_run_0 : zrW 0 cX5_run zrk_cX5_run_0 := by unfold zrW; decide +kernel
theorem dX5_run_0 : decode cX5_run 0 = .ok (.aload_n 0, 1) := zrD zrw_cX5_run_0 (i := 0) (by decide +kernel) rfl
theorem dX5_run_1 : decode cX5_run 1 = .ok (.getfield 25, 3) := zrD zrw_cX5_run_0 (i := 1) (by decide +kernel) rfl
theorem dX5_run_4 : decode cX5_run 4 = .ok (.iconst 0, 1) := zrD zrw_cX5_run_0 (i := 4) (by decide +kernel) rfl
theorem dX5_run_5 : decode cX5_run 5 = .ok (.aload_n 0, 1) := zrD zrw_cX5_run_0 (i := 5) (by decide +kernel) rfl
theorem dX5_run_6 : decode cX5_run 6 = .ok (.getfield 29, 3) := zrD zrw_cX5_run_0 (i := 6) (by decide +kernel) rfl
theorem dX5_run_9 : decode cX5_run 9 = .ok (.iconst 0, 1) := zrD zrw_cX5_run_0 (i := 9) (by decide +kernel) rfl
theorem dX5_run_10 : decode cX5_run 10 = .ok (.bipush 12, 2) := zrD zrw_cX5_run_0 (i := 10) (by decide +kernel) rfl
theorem dX5_run_12 : decode cX5_run 12 = .ok (.invokestatic 76, 3) := zrD zrw_cX5_run_0 (i := 12) (by decide +kernel) rfl
theorem dX5_run_15 : decode cX5_run 15 = .ok (.aload_n 0, 1) := zrD zrw_cX5_run_0 (i := 15) (by decide +kernel) rfl
theorem dX5_run_16 : decode cX5_run 16 = .ok (.getfield 12, 3) := zrD zrw_cX5_run_0 (i := 16) (by decide +kernel) rfl
theorem dX5_run_19 : decode cX5_run 19 = .ok (.getfield 64, 3) := zrD zrw_cX5_run_0 (i := 19) (by decide +kernel) rfl
theorem dX5_run_22 : decode cX5_run 22 = .ok (.iconst 1, 1) := zrD zrw_cX5_run_0 (i := 22) (by decide +kernel) rfl
theorem dX5_run_23 : decode cX5_run 23 = .ok (.isub, 1) := zrD zrw_cX5_run_0 (i := 23) (by decide +kernel) rfl
theorem dX5_run_24 : decode cX5_run 24 = .ok (.istore_n 2, 1) := zrD zrw_cX5_run_0 (i := 24) (by decide +kernel) rfl
theorem dX5_run_25 : decode cX5_run 25 = .ok (.iload_n 2, 1) := zrD zrw_cX5_run_0 (i := 25) (by decide +kernel) rfl
theorem dX5_run_26 : decode cX5_run 26 = .ok (.ifCond .le 56, 3) := zrD zrw_cX5_run_0 (i := 26) (by decide +kernel) rfl
theorem dX5_run_29 : decode cX5_run 29 = .ok (.aload_n 0, 1) := zrD zrw_cX5_run_0 (i := 29) (by decide +kernel) rfl
def zrk_cX5_run_30 : ByteArray := .mk #[180, 0, 12, 180, 0, 82, 28, 46, 62, 27, 29, 184, 0, 85, 154, 0, 32, 42, 180, 0, 29, 42, 180, 0, 39, 180, 0, 89, 29, 46, 92, 46]
theorem zrw_cX5_run_30 : zrW 30 cX5_run zrk_cX5_run_30 := by unfold zrW; decide +kernel
theorem dX5_run_30 : decode cX5_run 30 = .ok (.getfield 12, 3) := zrD zrw_cX5_run_30 (i := 0) (by decide +kernel) rfl
theorem dX5_run_33 : decode cX5_run 33 = .ok (.getfield 82, 3) := zrD zrw_cX5_run_30 (i := 3) (by decide +kernel) rfl
theorem dX5_run_36 : decode cX5_run 36 = .ok (.iload_n 2, 1) := zrD zrw_cX5_run_30 (i := 6) (by decide +kernel) rfl
theorem dX5_run_37 : decode cX5_run 37 = .ok (.iaload, 1) := zrD zrw_cX5_run_30 (i := 7) (by decide +kernel) rfl
theorem dX5_run_38 : decode cX5_run 38 = .ok (.istore_n 3, 1) := zrD zrw_cX5_run_30 (i := 8) (by decide +kernel) rfl
theorem dX5_run_39 : decode cX5_run 39 = .ok (.iload_n 1, 1) := zrD zrw_cX5_run_30 (i := 9) (by decide +kernel) rfl
theorem dX5_run_40 : decode cX5_run 40 = .ok (.iload_n 3, 1) := zrD zrw_cX5_run_30 (i := 10) (by decide +kernel) rfl
theorem dX5_run_41 : decode cX5_run 41 = .ok (.invokestatic 85, 3) := zrD zrw_cX5_run_30 (i := 11) (by decide +kernel) rfl
theorem dX5_run_44 : decode cX5_run 44 = .ok (.ifCond .ne 32, 3) := zrD zrw_cX5_run_30 (i := 14) (by decide +kernel) rfl
theorem dX5_run_47 : decode cX5_run 47 = .ok (.aload_n 0, 1) := zrD zrw_cX5_run_30 (i := 17) (by decide +kernel) rfl
theorem dX5_run_48 : decode cX5_run 48 = .ok (.getfield 29, 3) := zrD zrw_cX5_run_30 (i := 18) (by decide +kernel) rfl
theorem dX5_run_51 : decode cX5_run 51 = .ok (.aload_n 0, 1) := zrD zrw_cX5_run_30 (i := 21) (by decide +kernel) rfl
theorem dX5_run_52 : decode cX5_run 52 = .ok (.getfield 39, 3) := zrD zrw_cX5_run_30 (i := 22) (by decide +kernel) rfl
theorem dX5_run_55 : decode cX5_run 55 = .ok (.getfield 89, 3) := zrD zrw_cX5_run_30 (i := 25) (by decide +kernel) rfl
theorem dX5_run_58 : decode cX5_run 58 = .ok (.iload_n 3, 1) := zrD zrw_cX5_run_30 (i := 28) (by decide +kernel) rfl
theorem dX5_run_59 : decode cX5_run 59 = .ok (.iaload, 1) := zrD zrw_cX5_run_30 (i := 29) (by decide +kernel) rfl
theorem dX5_run_60 : decode cX5_run 60 = .ok (.dup2, 1) := zrD zrw_cX5_run_30 (i := 30) (by decide +kernel) rfl
theorem dX5_run_61 : decode cX5_run 61 = .ok (.iaload, 1) := zrD zrw_cX5_run_30 (i := 31) (by decide +kernel) rfl
def zrk_cX5_run_62 : ByteArray := .mk #[42, 180, 0, 29, 29, 46, 42, 29, 182, 0, 92, 100, 96, 79, 132, 2, 255, 167, 255, 202, 177]
theorem zrw_cX5_run_62 : zrW 62 cX5_run zrk_cX5_run_62 := by unfold zrW; decide +kernel
theorem dX5_run_62 : decode cX5_run 62 = .ok (.aload_n 0, 1) := zrD zrw_cX5_run_62 (i := 0) (by decide +kernel) rfl
theorem dX5_run_63 : decode cX5_run 63 = .ok (.getfield 29, 3) := zrD zrw_cX5_run_62 (i := 1) (by decide +kernel) rfl
theorem dX5_run_66 : decode cX5_run 66 = .ok (.iload_n 3, 1) := zrD zrw_cX5_run_62 (i := 4) (by decide +kernel) rfl
theorem dX5_run_67 : decode cX5_run 67 = .ok (.iaload, 1) := zrD zrw_cX5_run_62 (i := 5) (by decide +kernel) rfl
theorem dX5_run_68 : decode cX5_run 68 = .ok (.aload_n 0, 1) := zrD zrw_cX5_run_62 (i := 6) (by decide +kernel) rfl
theorem dX5_run_69 : decode cX5_run 69 = .ok (.iload_n 3, 1) := zrD zrw_cX5_run_62 (i := 7) (by decide +kernel) rfl
theorem dX5_run_70 : decode cX5_run 70 = .ok (.invokevirtual 92, 3) := zrD zrw_cX5_run_62 (i := 8) (by decide +kernel) rfl
theorem dX5_run_73 : decode cX5_run 73 = .ok (.isub, 1) := zrD zrw_cX5_run_62 (i := 11) (by decide +kernel) rfl
theorem dX5_run_74 : decode cX5_run 74 = .ok (.iadd, 1) := zrD zrw_cX5_run_62 (i := 12) (by decide +kernel) rfl
theorem dX5_run_75 : decode cX5_run 75 = .ok (.iastore, 1) := zrD zrw_cX5_run_62 (i := 13) (by decide +kernel) rfl
theorem dX5_run_76 : decode cX5_run 76 = .ok (.iinc 2 (-1), 3) := zrD zrw_cX5_run_62 (i := 14) (by decide +kernel) rfl
theorem dX5_run_79 : decode cX5_run 79 = .ok (.goto (-54), 3) := zrD zrw_cX5_run_62 (i := 17) (by decide +kernel) rfl
theorem dX5_run_82 : decode cX5_run 82 = .ok (.return_, 1) := zrD zrw_cX5_run_62 (i := 20) (by decide +kernel) rfl
def zrk_cX5_dried_0 : ByteArray := .mk #[42, 4, 27, 42, 180, 0, 29, 27, 46, 182, 0, 69, 3, 42, 180, 0, 29, 27, 46, 184, 0, 73, 172]
theorem zrw_cX5_dried_0 : zrW 0 cX5_dried zrk_cX5_dried_0 := by unfold zrW; decide +kernel
theorem dX5_dried_0 : decode cX5_dried 0 = .ok (.aload_n 0, 1) := zrD zrw_cX5_dried_0 (i := 0) (by decide +kernel) rfl
theorem dX5_dried_1 : decode cX5_dried 1 = .ok (.iconst 1, 1) := zrD zrw_cX5_dried_0 (i := 1) (by decide +kernel) rfl
theorem dX5_dried_2 : decode cX5_dried 2 = .ok (.iload_n 1, 1) := zrD zrw_cX5_dried_0 (i := 2) (by decide +kernel) rfl
theorem dX5_dried_3 : decode cX5_dried 3 = .ok (.aload_n 0, 1) := zrD zrw_cX5_dried_0 (i := 3) (by decide +kernel) rfl
theorem dX5_dried_4 : decode cX5_dried 4 = .ok (.getfield 29, 3) := zrD zrw_cX5_dried_0 (i := 4) (by decide +kernel) rfl
theorem dX5_dried_7 : decode cX5_dried 7 = .ok (.iload_n 1, 1) := zrD zrw_cX5_dried_0 (i := 7) (by decide +kernel) rfl
theorem dX5_dried_8 : decode cX5_dried 8 = .ok (.iaload, 1) := zrD zrw_cX5_dried_0 (i := 8) (by decide +kernel) rfl
theorem dX5_dried_9 : decode cX5_dried 9 = .ok (.invokevirtual 69, 3) := zrD zrw_cX5_dried_0 (i := 9) (by decide +kernel) rfl
theorem dX5_dried_12 : decode cX5_dried 12 = .ok (.iconst 0, 1) := zrD zrw_cX5_dried_0 (i := 12) (by decide +kernel) rfl
theorem dX5_dried_13 : decode cX5_dried 13 = .ok (.aload_n 0, 1) := zrD zrw_cX5_dried_0 (i := 13) (by decide +kernel) rfl
theorem dX5_dried_14 : decode cX5_dried 14 = .ok (.getfield 29, 3) := zrD zrw_cX5_dried_0 (i := 14) (by decide +kernel) rfl
theorem dX5_dried_17 : decode cX5_dried 17 = .ok (.iload_n 1, 1) := zrD zrw_cX5_dried_0 (i := 17) (by decide +kernel) rfl
theorem dX5_dried_18 : decode cX5_dried 18 = .ok (.iaload, 1) := zrD zrw_cX5_dried_0 (i := 18) (by decide +kernel) rfl
theorem dX5_dried_19 : decode cX5_dried 19 = .ok (.invokestatic 73, 3) := zrD zrw_cX5_dried_0 (i := 19) (by decide +kernel) rfl
theorem dX5_dried_22 : decode cX5_dried 22 = .ok (.ireturn, 1) := zrD zrw_cX5_dried_0 (i := 22) (by decide +kernel) rfl
def zrk_cX5_tells_0 : ByteArray := .mk #[42, 180, 0, 21, 180, 0, 96, 58, 4, 25, 4, 3, 42, 180, 0, 35, 180, 0, 99, 28, 46, 79, 25, 4, 4, 42, 180, 0, 12, 180, 0, 102]
theorem zrw_cX5_tells_0 : zrW 0 cX5_tells zrk_cX5_tells_0 := by unfold zrW; decide +kernel
theorem dX5_tells_0 : decode cX5_tells 0 = .ok (.aload_n 0, 1) := zrD zrw_cX5_tells_0 (i := 0) (by decide +kernel) rfl
theorem dX5_tells_1 : decode cX5_tells 1 = .ok (.getfield 21, 3) := zrD zrw_cX5_tells_0 (i := 1) (by decide +kernel) rfl
theorem dX5_tells_4 : decode cX5_tells 4 = .ok (.getfield 96, 3) := zrD zrw_cX5_tells_0 (i := 4) (by decide +kernel) rfl
theorem dX5_tells_7 : decode cX5_tells 7 = .ok (.astore 4, 2) := zrD zrw_cX5_tells_0 (i := 7) (by decide +kernel) rfl
theorem dX5_tells_9 : decode cX5_tells 9 = .ok (.aload 4, 2) := zrD zrw_cX5_tells_0 (i := 9) (by decide +kernel) rfl
theorem dX5_tells_11 : decode cX5_tells 11 = .ok (.iconst 0, 1) := zrD zrw_cX5_tells_0 (i := 11) (by decide +kernel) rfl
theorem dX5_tells_12 : decode cX5_tells 12 = .ok (.aload_n 0, 1) := zrD zrw_cX5_tells_0 (i := 12) (by decide +kernel) rfl
theorem dX5_tells_13 : decode cX5_tells 13 = .ok (.getfield 35, 3) := zrD zrw_cX5_tells_0 (i := 13) (by decide +kernel) rfl
theorem dX5_tells_16 : decode cX5_tells 16 = .ok (.getfield 99, 3) := zrD zrw_cX5_tells_0 (i := 16) (by decide +kernel) rfl
theorem dX5_tells_19 : decode cX5_tells 19 = .ok (.iload_n 2, 1) := zrD zrw_cX5_tells_0 (i := 19) (by decide +kernel) rfl
theorem dX5_tells_20 : decode cX5_tells 20 = .ok (.iaload, 1) := zrD zrw_cX5_tells_0 (i := 20) (by decide +kernel) rfl
theorem dX5_tells_21 : decode cX5_tells 21 = .ok (.iastore, 1) := zrD zrw_cX5_tells_0 (i := 21) (by decide +kernel) rfl
theorem dX5_tells_22 : decode cX5_tells 22 = .ok (.aload 4, 2) := zrD zrw_cX5_tells_0 (i := 22) (by decide +kernel) rfl
theorem dX5_tells_24 : decode cX5_tells 24 = .ok (.iconst 1, 1) := zrD zrw_cX5_tells_0 (i := 24) (by decide +kernel) rfl
theorem dX5_tells_25 : decode cX5_tells 25 = .ok (.aload_n 0, 1) := zrD zrw_cX5_tells_0 (i := 25) (by decide +kernel) rfl
theorem dX5_tells_26 : decode cX5_tells 26 = .ok (.getfield 12, 3) := zrD zrw_cX5_tells_0 (i := 26) (by decide +kernel) rfl
theorem dX5_tells_29 : decode cX5_tells 29 = .ok (.getfield 102, 3) := zrD zrw_cX5_tells_0 (i := 29) (by decide +kernel) rfl
def zrk_cX5_tells_32 : ByteArray := .mk #[28, 46, 79, 25, 4, 5, 42, 180, 0, 35, 180, 0, 105, 28, 46, 79, 25, 4, 6, 42, 180, 0, 39, 182, 0, 108, 79, 25, 4, 7, 29, 79]
theorem zrw_cX5_tells_32 : zrW 32 cX5_tells zrk_cX5_tells_32 := by unfold zrW; decide +kernel
theorem dX5_tells_32 : decode cX5_tells 32 = .ok (.iload_n 2, 1) := zrD zrw_cX5_tells_32 (i := 0) (by decide +kernel) rfl
theorem dX5_tells_33 : decode cX5_tells 33 = .ok (.iaload, 1) := zrD zrw_cX5_tells_32 (i := 1) (by decide +kernel) rfl
theorem dX5_tells_34 : decode cX5_tells 34 = .ok (.iastore, 1) := zrD zrw_cX5_tells_32 (i := 2) (by decide +kernel) rfl
theorem dX5_tells_35 : decode cX5_tells 35 = .ok (.aload 4, 2) := zrD zrw_cX5_tells_32 (i := 3) (by decide +kernel) rfl
theorem dX5_tells_37 : decode cX5_tells 37 = .ok (.iconst 2, 1) := zrD zrw_cX5_tells_32 (i := 5) (by decide +kernel) rfl
theorem dX5_tells_38 : decode cX5_tells 38 = .ok (.aload_n 0, 1) := zrD zrw_cX5_tells_32 (i := 6) (by decide +kernel) rfl
theorem dX5_tells_39 : decode cX5_tells 39 = .ok (.getfield 35, 3) := zrD zrw_cX5_tells_32 (i := 7) (by decide +kernel) rfl
theorem dX5_tells_42 : decode cX5_tells 42 = .ok (.getfield 105, 3) := zrD zrw_cX5_tells_32 (i := 10) (by decide +kernel) rfl
theorem dX5_tells_45 : decode cX5_tells 45 = .ok (.iload_n 2, 1) := zrD zrw_cX5_tells_32 (i := 13) (by decide +kernel) rfl
theorem dX5_tells_46 : decode cX5_tells 46 = .ok (.iaload, 1) := zrD zrw_cX5_tells_32 (i := 14) (by decide +kernel) rfl
theorem dX5_tells_47 : decode cX5_tells 47 = .ok (.iastore, 1) := zrD zrw_cX5_tells_32 (i := 15) (by decide +kernel) rfl
theorem dX5_tells_48 : decode cX5_tells 48 = .ok (.aload 4, 2) := zrD zrw_cX5_tells_32 (i := 16) (by decide +kernel) rfl
theorem dX5_tells_50 : decode cX5_tells 50 = .ok (.iconst 3, 1) := zrD zrw_cX5_tells_32 (i := 18) (by decide +kernel) rfl
theorem dX5_tells_51 : decode cX5_tells 51 = .ok (.aload_n 0, 1) := zrD zrw_cX5_tells_32 (i := 19) (by decide +kernel) rfl
theorem dX5_tells_52 : decode cX5_tells 52 = .ok (.getfield 39, 3) := zrD zrw_cX5_tells_32 (i := 20) (by decide +kernel) rfl
theorem dX5_tells_55 : decode cX5_tells 55 = .ok (.invokevirtual 108, 3) := zrD zrw_cX5_tells_32 (i := 23) (by decide +kernel) rfl
theorem dX5_tells_58 : decode cX5_tells 58 = .ok (.iastore, 1) := zrD zrw_cX5_tells_32 (i := 26) (by decide +kernel) rfl
theorem dX5_tells_59 : decode cX5_tells 59 = .ok (.aload 4, 2) := zrD zrw_cX5_tells_32 (i := 27) (by decide +kernel) rfl
theorem dX5_tells_61 : decode cX5_tells 61 = .ok (.iconst 4, 1) := zrD zrw_cX5_tells_32 (i := 29) (by decide +kernel) rfl
theorem dX5_tells_62 : decode cX5_tells 62 = .ok (.iload_n 3, 1) := zrD zrw_cX5_tells_32 (i := 30) (by decide +kernel) rfl
theorem dX5_tells_63 : decode cX5_tells 63 = .ok (.iastore, 1) := zrD zrw_cX5_tells_32 (i := 31) (by decide +kernel) rfl
def zrk_cX5_tells_64 : ByteArray := .mk #[25, 4, 8, 42, 180, 0, 35, 180, 0, 112, 28, 46, 79, 25, 4, 16, 6, 42, 180, 0, 39, 180, 0, 115, 28, 46, 79, 25, 4, 16, 7, 28]
theorem zrw_cX5_tells_64 : zrW 64 cX5_tells zrk_cX5_tells_64 := by unfold zrW; decide +kernel
theorem dX5_tells_64 : decode cX5_tells 64 = .ok (.aload 4, 2) := zrD zrw_cX5_tells_64 (i := 0) (by decide +kernel) rfl
theorem dX5_tells_66 : decode cX5_tells 66 = .ok (.iconst 5, 1) := zrD zrw_cX5_tells_64 (i := 2) (by decide +kernel) rfl
theorem dX5_tells_67 : decode cX5_tells 67 = .ok (.aload_n 0, 1) := zrD zrw_cX5_tells_64 (i := 3) (by decide +kernel) rfl
theorem dX5_tells_68 : decode cX5_tells 68 = .ok (.getfield 35, 3) := zrD zrw_cX5_tells_64 (i := 4) (by decide +kernel) rfl
theorem dX5_tells_71 : decode cX5_tells 71 = .ok (.getfield 112, 3) := zrD zrw_cX5_tells_64 (i := 7) (by decide +kernel) rfl
theorem dX5_tells_74 : decode cX5_tells 74 = .ok (.iload_n 2, 1) := zrD zrw_cX5_tells_64 (i := 10) (by decide +kernel) rfl
theorem dX5_tells_75 : decode cX5_tells 75 = .ok (.iaload, 1) := zrD zrw_cX5_tells_64 (i := 11) (by decide +kernel) rfl
theorem dX5_tells_76 : decode cX5_tells 76 = .ok (.iastore, 1) := zrD zrw_cX5_tells_64 (i := 12) (by decide +kernel) rfl
theorem dX5_tells_77 : decode cX5_tells 77 = .ok (.aload 4, 2) := zrD zrw_cX5_tells_64 (i := 13) (by decide +kernel) rfl
theorem dX5_tells_79 : decode cX5_tells 79 = .ok (.bipush 6, 2) := zrD zrw_cX5_tells_64 (i := 15) (by decide +kernel) rfl
theorem dX5_tells_81 : decode cX5_tells 81 = .ok (.aload_n 0, 1) := zrD zrw_cX5_tells_64 (i := 17) (by decide +kernel) rfl
theorem dX5_tells_82 : decode cX5_tells 82 = .ok (.getfield 39, 3) := zrD zrw_cX5_tells_64 (i := 18) (by decide +kernel) rfl
theorem dX5_tells_85 : decode cX5_tells 85 = .ok (.getfield 115, 3) := zrD zrw_cX5_tells_64 (i := 21) (by decide +kernel) rfl
theorem dX5_tells_88 : decode cX5_tells 88 = .ok (.iload_n 2, 1) := zrD zrw_cX5_tells_64 (i := 24) (by decide +kernel) rfl
theorem dX5_tells_89 : decode cX5_tells 89 = .ok (.iaload, 1) := zrD zrw_cX5_tells_64 (i := 25) (by decide +kernel) rfl
theorem dX5_tells_90 : decode cX5_tells 90 = .ok (.iastore, 1) := zrD zrw_cX5_tells_64 (i := 26) (by decide +kernel) rfl
theorem dX5_tells_91 : decode cX5_tells 91 = .ok (.aload 4, 2) := zrD zrw_cX5_tells_64 (i := 27) (by decide +kernel) rfl
theorem dX5_tells_93 : decode cX5_tells 93 = .ok (.bipush 7, 2) := zrD zrw_cX5_tells_64 (i := 29) (by decide +kernel) rfl
theorem dX5_tells_95 : decode cX5_tells 95 = .ok (.iload_n 2, 1) := zrD zrw_cX5_tells_64 (i := 31) (by decide +kernel) rfl
def zrk_cX5_tells_96 : ByteArray := .mk #[79, 25, 4, 16, 8, 42, 180, 0, 12, 180, 0, 118, 28, 46, 79, 42, 180, 0, 21, 42, 180, 0, 35, 27, 182, 0, 121, 172]
theorem zrw_cX5_tells_96 : zrW 96 cX5_tells zrk_cX5_tells_96 := by unfold zrW; decide +kernel
theorem dX5_tells_96 : decode cX5_tells 96 = .ok (.iastore, 1) := zrD zrw_cX5_tells_96 (i := 0) (by decide +kernel) rfl
theorem dX5_tells_97 : decode cX5_tells 97 = .ok (.aload 4, 2) := zrD zrw_cX5_tells_96 (i := 1) (by decide +kernel) rfl
theorem dX5_tells_99 : decode cX5_tells 99 = .ok (.bipush 8, 2) := zrD zrw_cX5_tells_96 (i := 3) (by decide +kernel) rfl
theorem dX5_tells_101 : decode cX5_tells 101 = .ok (.aload_n 0, 1) := zrD zrw_cX5_tells_96 (i := 5) (by decide +kernel) rfl
theorem dX5_tells_102 : decode cX5_tells 102 = .ok (.getfield 12, 3) := zrD zrw_cX5_tells_96 (i := 6) (by decide +kernel) rfl
theorem dX5_tells_105 : decode cX5_tells 105 = .ok (.getfield 118, 3) := zrD zrw_cX5_tells_96 (i := 9) (by decide +kernel) rfl
theorem dX5_tells_108 : decode cX5_tells 108 = .ok (.iload_n 2, 1) := zrD zrw_cX5_tells_96 (i := 12) (by decide +kernel) rfl
theorem dX5_tells_109 : decode cX5_tells 109 = .ok (.iaload, 1) := zrD zrw_cX5_tells_96 (i := 13) (by decide +kernel) rfl
theorem dX5_tells_110 : decode cX5_tells 110 = .ok (.iastore, 1) := zrD zrw_cX5_tells_96 (i := 14) (by decide +kernel) rfl
theorem dX5_tells_111 : decode cX5_tells 111 = .ok (.aload_n 0, 1) := zrD zrw_cX5_tells_96 (i := 15) (by decide +kernel) rfl
theorem dX5_tells_112 : decode cX5_tells 112 = .ok (.getfield 21, 3) := zrD zrw_cX5_tells_96 (i := 16) (by decide +kernel) rfl
theorem dX5_tells_115 : decode cX5_tells 115 = .ok (.aload_n 0, 1) := zrD zrw_cX5_tells_96 (i := 19) (by decide +kernel) rfl
theorem dX5_tells_116 : decode cX5_tells 116 = .ok (.getfield 35, 3) := zrD zrw_cX5_tells_96 (i := 20) (by decide +kernel) rfl
theorem dX5_tells_119 : decode cX5_tells 119 = .ok (.iload_n 1, 1) := zrD zrw_cX5_tells_96 (i := 23) (by decide +kernel) rfl
theorem dX5_tells_120 : decode cX5_tells 120 = .ok (.invokevirtual 121, 3) := zrD zrw_cX5_tells_96 (i := 24) (by decide +kernel) rfl
theorem dX5_tells_123 : decode cX5_tells 123 = .ok (.ireturn, 1) := zrD zrw_cX5_tells_96 (i := 27) (by decide +kernel) rfl
def zrk_cX5_claimOf_0 : ByteArray := .mk #[42, 5, 28, 96, 27, 42, 180, 0, 29, 27, 46, 182, 0, 69, 3, 18, 125, 184, 0, 73, 172]
theorem zrw_cX5_claimOf_0 : zrW 0 cX5_claimOf zrk_cX5_claimOf_0 := by unfold zrW; decide +kernel
theorem dX5_claimOf_0 : decode cX5_claimOf 0 = .ok (.aload_n 0, 1) := zrD zrw_cX5_claimOf_0 (i := 0) (by decide +kernel) rfl
theorem dX5_claimOf_1 : decode cX5_claimOf 1 = .ok (.iconst 2, 1) := zrD zrw_cX5_claimOf_0 (i := 1) (by decide +kernel) rfl
theorem dX5_claimOf_2 : decode cX5_claimOf 2 = .ok (.iload_n 2, 1) := zrD zrw_cX5_claimOf_0 (i := 2) (by decide +kernel) rfl
theorem dX5_claimOf_3 : decode cX5_claimOf 3 = .ok (.iadd, 1) := zrD zrw_cX5_claimOf_0 (i := 3) (by decide +kernel) rfl
theorem dX5_claimOf_4 : decode cX5_claimOf 4 = .ok (.iload_n 1, 1) := zrD zrw_cX5_claimOf_0 (i := 4) (by decide +kernel) rfl
theorem dX5_claimOf_5 : decode cX5_claimOf 5 = .ok (.aload_n 0, 1) := zrD zrw_cX5_claimOf_0 (i := 5) (by decide +kernel) rfl
theorem dX5_claimOf_6 : decode cX5_claimOf 6 = .ok (.getfield 29, 3) := zrD zrw_cX5_claimOf_0 (i := 6) (by decide +kernel) rfl
theorem dX5_claimOf_9 : decode cX5_claimOf 9 = .ok (.iload_n 1, 1) := zrD zrw_cX5_claimOf_0 (i := 9) (by decide +kernel) rfl
theorem dX5_claimOf_10 : decode cX5_claimOf 10 = .ok (.iaload, 1) := zrD zrw_cX5_claimOf_0 (i := 10) (by decide +kernel) rfl
theorem dX5_claimOf_11 : decode cX5_claimOf 11 = .ok (.invokevirtual 69, 3) := zrD zrw_cX5_claimOf_0 (i := 11) (by decide +kernel) rfl
theorem dX5_claimOf_14 : decode cX5_claimOf 14 = .ok (.iconst 0, 1) := zrD zrw_cX5_claimOf_0 (i := 14) (by decide +kernel) rfl
theorem dX5_claimOf_15 : decode cX5_claimOf 15 = .ok (.ldc 125, 2) := zrD zrw_cX5_claimOf_0 (i := 15) (by decide +kernel) rfl
theorem dX5_claimOf_17 : decode cX5_claimOf 17 = .ok (.invokestatic 73, 3) := zrD zrw_cX5_claimOf_0 (i := 17) (by decide +kernel) rfl
theorem dX5_claimOf_20 : decode cX5_claimOf 20 = .ok (.ireturn, 1) := zrD zrw_cX5_claimOf_0 (i := 20) (by decide +kernel) rfl
def zrk_cX5_weigh_0 : ByteArray := .mk #[4, 61, 28, 42, 180, 0, 12, 180, 0, 64, 162, 0, 36, 42, 180, 0, 32, 28, 42, 180, 0, 12, 28, 182, 0, 126, 153, 0, 12, 42, 28, 27]
theorem zrw_cX5_weigh_0 : zrW 0 cX5_weigh zrk_cX5_weigh_0 := by unfold zrW; decide +kernel
theorem dX5_weigh_0 : decode cX5_weigh 0 = .ok (.iconst 1, 1) := zrD zrw_cX5_weigh_0 (i := 0) (by decide +kernel) rfl
theorem dX5_weigh_1 : decode cX5_weigh 1 = .ok (.istore_n 2, 1) := zrD zrw_cX5_weigh_0 (i := 1) (by decide +kernel) rfl
theorem dX5_weigh_2 : decode cX5_weigh 2 = .ok (.iload_n 2, 1) := zrD zrw_cX5_weigh_0 (i := 2) (by decide +kernel) rfl
theorem dX5_weigh_3 : decode cX5_weigh 3 = .ok (.aload_n 0, 1) := zrD zrw_cX5_weigh_0 (i := 3) (by decide +kernel) rfl
theorem dX5_weigh_4 : decode cX5_weigh 4 = .ok (.getfield 12, 3) := zrD zrw_cX5_weigh_0 (i := 4) (by decide +kernel) rfl
theorem dX5_weigh_7 : decode cX5_weigh 7 = .ok (.getfield 64, 3) := zrD zrw_cX5_weigh_0 (i := 7) (by decide +kernel) rfl
theorem dX5_weigh_10 : decode cX5_weigh 10 = .ok (.if_icmp .ge 36, 3) := zrD zrw_cX5_weigh_0 (i := 10) (by decide +kernel) rfl
theorem dX5_weigh_13 : decode cX5_weigh 13 = .ok (.aload_n 0, 1) := zrD zrw_cX5_weigh_0 (i := 13) (by decide +kernel) rfl
theorem dX5_weigh_14 : decode cX5_weigh 14 = .ok (.getfield 32, 3) := zrD zrw_cX5_weigh_0 (i := 14) (by decide +kernel) rfl
theorem dX5_weigh_17 : decode cX5_weigh 17 = .ok (.iload_n 2, 1) := zrD zrw_cX5_weigh_0 (i := 17) (by decide +kernel) rfl
theorem dX5_weigh_18 : decode cX5_weigh 18 = .ok (.aload_n 0, 1) := zrD zrw_cX5_weigh_0 (i := 18) (by decide +kernel) rfl
theorem dX5_weigh_19 : decode cX5_weigh 19 = .ok (.getfield 12, 3) := zrD zrw_cX5_weigh_0 (i := 19) (by decide +kernel) rfl
theorem dX5_weigh_22 : decode cX5_weigh 22 = .ok (.iload_n 2, 1) := zrD zrw_cX5_weigh_0 (i := 22) (by decide +kernel) rfl
theorem dX5_weigh_23 : decode cX5_weigh 23 = .ok (.invokevirtual 126, 3) := zrD zrw_cX5_weigh_0 (i := 23) (by decide +kernel) rfl
theorem dX5_weigh_26 : decode cX5_weigh 26 = .ok (.ifCond .eq 12, 3) := zrD zrw_cX5_weigh_0 (i := 26) (by decide +kernel) rfl
theorem dX5_weigh_29 : decode cX5_weigh 29 = .ok (.aload_n 0, 1) := zrD zrw_cX5_weigh_0 (i := 29) (by decide +kernel) rfl
theorem dX5_weigh_30 : decode cX5_weigh 30 = .ok (.iload_n 2, 1) := zrD zrw_cX5_weigh_0 (i := 30) (by decide +kernel) rfl
theorem dX5_weigh_31 : decode cX5_weigh 31 = .ok (.iload_n 1, 1) := zrD zrw_cX5_weigh_0 (i := 31) (by decide +kernel) rfl
def zrk_cX5_weigh_32 : ByteArray := .mk #[182, 0, 130, 167, 0, 4, 2, 79, 132, 2, 1, 167, 255, 215, 177]
theorem zrw_cX5_weigh_32 : zrW 32 cX5_weigh zrk_cX5_weigh_32 := by unfold zrW; decide +kernel
theorem dX5_weigh_32 : decode cX5_weigh 32 = .ok (.invokevirtual 130, 3) := zrD zrw_cX5_weigh_32 (i := 0) (by decide +kernel) rfl
theorem dX5_weigh_35 : decode cX5_weigh 35 = .ok (.goto 4, 3) := zrD zrw_cX5_weigh_32 (i := 3) (by decide +kernel) rfl
theorem dX5_weigh_38 : decode cX5_weigh 38 = .ok (.iconst (-1), 1) := zrD zrw_cX5_weigh_32 (i := 6) (by decide +kernel) rfl
theorem dX5_weigh_39 : decode cX5_weigh 39 = .ok (.iastore, 1) := zrD zrw_cX5_weigh_32 (i := 7) (by decide +kernel) rfl
theorem dX5_weigh_40 : decode cX5_weigh 40 = .ok (.iinc 2 1, 3) := zrD zrw_cX5_weigh_32 (i := 8) (by decide +kernel) rfl
theorem dX5_weigh_43 : decode cX5_weigh 43 = .ok (.goto (-41), 3) := zrD zrw_cX5_weigh_32 (i := 11) (by decide +kernel) rfl
theorem dX5_weigh_46 : decode cX5_weigh 46 = .ok (.return_, 1) := zrD zrw_cX5_weigh_32 (i := 14) (by decide +kernel) rfl
def zrk_cX5_greatestClaim_0 : ByteArray := .mk #[16, 254, 61, 4, 62, 29, 42, 180, 0, 12, 180, 0, 64, 162, 0, 46, 29, 27, 159, 0, 35, 42, 180, 0, 12, 29, 182, 0, 126, 153, 0, 24]
theorem zrw_cX5_greatestClaim_0 : zrW 0 cX5_greatestClaim zrk_cX5_greatestClaim_0 := by unfold zrW; decide +kernel
theorem dX5_greatestClaim_0 : decode cX5_greatestClaim 0 = .ok (.bipush (-2), 2) := zrD zrw_cX5_greatestClaim_0 (i := 0) (by decide +kernel) rfl
theorem dX5_greatestClaim_2 : decode cX5_greatestClaim 2 = .ok (.istore_n 2, 1) := zrD zrw_cX5_greatestClaim_0 (i := 2) (by decide +kernel) rfl
theorem dX5_greatestClaim_3 : decode cX5_greatestClaim 3 = .ok (.iconst 1, 1) := zrD zrw_cX5_greatestClaim_0 (i := 3) (by decide +kernel) rfl
theorem dX5_greatestClaim_4 : decode cX5_greatestClaim 4 = .ok (.istore_n 3, 1) := zrD zrw_cX5_greatestClaim_0 (i := 4) (by decide +kernel) rfl
theorem dX5_greatestClaim_5 : decode cX5_greatestClaim 5 = .ok (.iload_n 3, 1) := zrD zrw_cX5_greatestClaim_0 (i := 5) (by decide +kernel) rfl
theorem dX5_greatestClaim_6 : decode cX5_greatestClaim 6 = .ok (.aload_n 0, 1) := zrD zrw_cX5_greatestClaim_0 (i := 6) (by decide +kernel) rfl
theorem dX5_greatestClaim_7 : decode cX5_greatestClaim 7 = .ok (.getfield 12, 3) := zrD zrw_cX5_greatestClaim_0 (i := 7) (by decide +kernel) rfl
theorem dX5_greatestClaim_10 : decode cX5_greatestClaim 10 = .ok (.getfield 64, 3) := zrD zrw_cX5_greatestClaim_0 (i := 10) (by decide +kernel) rfl
theorem dX5_greatestClaim_13 : decode cX5_greatestClaim 13 = .ok (.if_icmp .ge 46, 3) := zrD zrw_cX5_greatestClaim_0 (i := 13) (by decide +kernel) rfl
theorem dX5_greatestClaim_16 : decode cX5_greatestClaim 16 = .ok (.iload_n 3, 1) := zrD zrw_cX5_greatestClaim_0 (i := 16) (by decide +kernel) rfl
theorem dX5_greatestClaim_17 : decode cX5_greatestClaim 17 = .ok (.iload_n 1, 1) := zrD zrw_cX5_greatestClaim_0 (i := 17) (by decide +kernel) rfl
theorem dX5_greatestClaim_18 : decode cX5_greatestClaim 18 = .ok (.if_icmp .eq 35, 3) := zrD zrw_cX5_greatestClaim_0 (i := 18) (by decide +kernel) rfl
theorem dX5_greatestClaim_21 : decode cX5_greatestClaim 21 = .ok (.aload_n 0, 1) := zrD zrw_cX5_greatestClaim_0 (i := 21) (by decide +kernel) rfl
theorem dX5_greatestClaim_22 : decode cX5_greatestClaim 22 = .ok (.getfield 12, 3) := zrD zrw_cX5_greatestClaim_0 (i := 22) (by decide +kernel) rfl
theorem dX5_greatestClaim_25 : decode cX5_greatestClaim 25 = .ok (.iload_n 3, 1) := zrD zrw_cX5_greatestClaim_0 (i := 25) (by decide +kernel) rfl
theorem dX5_greatestClaim_26 : decode cX5_greatestClaim 26 = .ok (.invokevirtual 126, 3) := zrD zrw_cX5_greatestClaim_0 (i := 26) (by decide +kernel) rfl
theorem dX5_greatestClaim_29 : decode cX5_greatestClaim 29 = .ok (.ifCond .eq 24, 3) := zrD zrw_cX5_greatestClaim_0 (i := 29) (by decide +kernel) rfl
def zrk_cX5_greatestClaim_32 : ByteArray := .mk #[28, 155, 0, 18, 42, 180, 0, 32, 29, 46, 42, 180, 0, 32, 28, 46, 164, 0, 5, 29, 61, 132, 3, 1, 167, 255, 205, 28, 172]
theorem zrw_cX5_greatestClaim_32 : zrW 32 cX5_greatestClaim zrk_cX5_greatestClaim_32 := by unfold zrW; decide +kernel
theorem dX5_greatestClaim_32 : decode cX5_greatestClaim 32 = .ok (.iload_n 2, 1) := zrD zrw_cX5_greatestClaim_32 (i := 0) (by decide +kernel) rfl
theorem dX5_greatestClaim_33 : decode cX5_greatestClaim 33 = .ok (.ifCond .lt 18, 3) := zrD zrw_cX5_greatestClaim_32 (i := 1) (by decide +kernel) rfl
theorem dX5_greatestClaim_36 : decode cX5_greatestClaim 36 = .ok (.aload_n 0, 1) := zrD zrw_cX5_greatestClaim_32 (i := 4) (by decide +kernel) rfl
theorem dX5_greatestClaim_37 : decode cX5_greatestClaim 37 = .ok (.getfield 32, 3) := zrD zrw_cX5_greatestClaim_32 (i := 5) (by decide +kernel) rfl
theorem dX5_greatestClaim_40 : decode cX5_greatestClaim 40 = .ok (.iload_n 3, 1) := zrD zrw_cX5_greatestClaim_32 (i := 8) (by decide +kernel) rfl
theorem dX5_greatestClaim_41 : decode cX5_greatestClaim 41 = .ok (.iaload, 1) := zrD zrw_cX5_greatestClaim_32 (i := 9) (by decide +kernel) rfl
theorem dX5_greatestClaim_42 : decode cX5_greatestClaim 42 = .ok (.aload_n 0, 1) := zrD zrw_cX5_greatestClaim_32 (i := 10) (by decide +kernel) rfl
theorem dX5_greatestClaim_43 : decode cX5_greatestClaim 43 = .ok (.getfield 32, 3) := zrD zrw_cX5_greatestClaim_32 (i := 11) (by decide +kernel) rfl
theorem dX5_greatestClaim_46 : decode cX5_greatestClaim 46 = .ok (.iload_n 2, 1) := zrD zrw_cX5_greatestClaim_32 (i := 14) (by decide +kernel) rfl
theorem dX5_greatestClaim_47 : decode cX5_greatestClaim 47 = .ok (.iaload, 1) := zrD zrw_cX5_greatestClaim_32 (i := 15) (by decide +kernel) rfl
theorem dX5_greatestClaim_48 : decode cX5_greatestClaim 48 = .ok (.if_icmp .le 5, 3) := zrD zrw_cX5_greatestClaim_32 (i := 16) (by decide +kernel) rfl
theorem dX5_greatestClaim_51 : decode cX5_greatestClaim 51 = .ok (.iload_n 3, 1) := zrD zrw_cX5_greatestClaim_32 (i := 19) (by decide +kernel) rfl
theorem dX5_greatestClaim_52 : decode cX5_greatestClaim 52 = .ok (.istore_n 2, 1) := zrD zrw_cX5_greatestClaim_32 (i := 20) (by decide +kernel) rfl
theorem dX5_greatestClaim_53 : decode cX5_greatestClaim 53 = .ok (.iinc 3 1, 3) := zrD zrw_cX5_greatestClaim_32 (i := 21) (by decide +kernel) rfl
theorem dX5_greatestClaim_56 : decode cX5_greatestClaim 56 = .ok (.goto (-51), 3) := zrD zrw_cX5_greatestClaim_32 (i := 24) (by decide +kernel) rfl
theorem dX5_greatestClaim_59 : decode cX5_greatestClaim 59 = .ok (.iload_n 2, 1) := zrD zrw_cX5_greatestClaim_32 (i := 27) (by decide +kernel) rfl
theorem dX5_greatestClaim_60 : decode cX5_greatestClaim 60 = .ok (.ireturn, 1) := zrD zrw_cX5_greatestClaim_32 (i := 28) (by decide +kernel) rfl
def zrk_cX5_rankOf_0 : ByteArray := .mk #[3, 61, 4, 62, 29, 42, 180, 0, 12, 180, 0, 64, 162, 0, 47, 42, 180, 0, 32, 29, 46, 42, 180, 0, 32, 27, 46, 163, 0, 23, 42]
theorem zrw_cX5_rankOf_0 : zrW 0 cX5_rankOf zrk_cX5_rankOf_0 := by unfold zrW; decide +kernel
theorem dX5_rankOf_0 : decode cX5_rankOf 0 = .ok (.iconst 0, 1) := zrD zrw_cX5_rankOf_0 (i := 0) (by decide +kernel) rfl
theorem dX5_rankOf_1 : decode cX5_rankOf 1 = .ok (.istore_n 2, 1) := zrD zrw_cX5_rankOf_0 (i := 1) (by decide +kernel) rfl
theorem dX5_rankOf_2 : decode cX5_rankOf 2 = .ok (.iconst 1, 1) := zrD zrw_cX5_rankOf_0 (i := 2) (by decide +kernel) rfl
theorem dX5_rankOf_3 : decode cX5_rankOf 3 = .ok (.istore_n 3, 1) := zrD zrw_cX5_rankOf_0 (i := 3) (by decide +kernel) rfl
theorem dX5_rankOf_4 : decode cX5_rankOf 4 = .ok (.iload_n 3, 1) := zrD zrw_cX5_rankOf_0 (i := 4) (by decide +kernel) rfl
theorem dX5_rankOf_5 : decode cX5_rankOf 5 = .ok (.aload_n 0, 1) := zrD zrw_cX5_rankOf_0 (i := 5) (by decide +kernel) rfl
theorem dX5_rankOf_6 : decode cX5_rankOf 6 = .ok (.getfield 12, 3) := zrD zrw_cX5_rankOf_0 (i := 6) (by decide +kernel) rfl
theorem dX5_rankOf_9 : decode cX5_rankOf 9 = .ok (.getfield 64, 3) := zrD zrw_cX5_rankOf_0 (i := 9) (by decide +kernel) rfl
theorem dX5_rankOf_12 : decode cX5_rankOf 12 = .ok (.if_icmp .ge 47, 3) := zrD zrw_cX5_rankOf_0 (i := 12) (by decide +kernel) rfl
theorem dX5_rankOf_15 : decode cX5_rankOf 15 = .ok (.aload_n 0, 1) := zrD zrw_cX5_rankOf_0 (i := 15) (by decide +kernel) rfl
theorem dX5_rankOf_16 : decode cX5_rankOf 16 = .ok (.getfield 32, 3) := zrD zrw_cX5_rankOf_0 (i := 16) (by decide +kernel) rfl
theorem dX5_rankOf_19 : decode cX5_rankOf 19 = .ok (.iload_n 3, 1) := zrD zrw_cX5_rankOf_0 (i := 19) (by decide +kernel) rfl
theorem dX5_rankOf_20 : decode cX5_rankOf 20 = .ok (.iaload, 1) := zrD zrw_cX5_rankOf_0 (i := 20) (by decide +kernel) rfl
theorem dX5_rankOf_21 : decode cX5_rankOf 21 = .ok (.aload_n 0, 1) := zrD zrw_cX5_rankOf_0 (i := 21) (by decide +kernel) rfl
theorem dX5_rankOf_22 : decode cX5_rankOf 22 = .ok (.getfield 32, 3) := zrD zrw_cX5_rankOf_0 (i := 22) (by decide +kernel) rfl
theorem dX5_rankOf_25 : decode cX5_rankOf 25 = .ok (.iload_n 1, 1) := zrD zrw_cX5_rankOf_0 (i := 25) (by decide +kernel) rfl
theorem dX5_rankOf_26 : decode cX5_rankOf 26 = .ok (.iaload, 1) := zrD zrw_cX5_rankOf_0 (i := 26) (by decide +kernel) rfl
theorem dX5_rankOf_27 : decode cX5_rankOf 27 = .ok (.if_icmp .gt 23, 3) := zrD zrw_cX5_rankOf_0 (i := 27) (by decide +kernel) rfl
theorem dX5_rankOf_30 : decode cX5_rankOf 30 = .ok (.aload_n 0, 1) := zrD zrw_cX5_rankOf_0 (i := 30) (by decide +kernel) rfl
def zrk_cX5_rankOf_31 : ByteArray := .mk #[180, 0, 32, 29, 46, 42, 180, 0, 32, 27, 46, 160, 0, 11, 29, 27, 162, 0, 6, 132, 2, 1, 132, 3, 1, 167, 255, 204, 28, 172]
theorem zrw_cX5_rankOf_31 : zrW 31 cX5_rankOf zrk_cX5_rankOf_31 := by unfold zrW; decide +kernel
theorem dX5_rankOf_31 : decode cX5_rankOf 31 = .ok (.getfield 32, 3) := zrD zrw_cX5_rankOf_31 (i := 0) (by decide +kernel) rfl
theorem dX5_rankOf_34 : decode cX5_rankOf 34 = .ok (.iload_n 3, 1) := zrD zrw_cX5_rankOf_31 (i := 3) (by decide +kernel) rfl
theorem dX5_rankOf_35 : decode cX5_rankOf 35 = .ok (.iaload, 1) := zrD zrw_cX5_rankOf_31 (i := 4) (by decide +kernel) rfl
theorem dX5_rankOf_36 : decode cX5_rankOf 36 = .ok (.aload_n 0, 1) := zrD zrw_cX5_rankOf_31 (i := 5) (by decide +kernel) rfl
theorem dX5_rankOf_37 : decode cX5_rankOf 37 = .ok (.getfield 32, 3) := zrD zrw_cX5_rankOf_31 (i := 6) (by decide +kernel) rfl
theorem dX5_rankOf_40 : decode cX5_rankOf 40 = .ok (.iload_n 1, 1) := zrD zrw_cX5_rankOf_31 (i := 9) (by decide +kernel) rfl
theorem dX5_rankOf_41 : decode cX5_rankOf 41 = .ok (.iaload, 1) := zrD zrw_cX5_rankOf_31 (i := 10) (by decide +kernel) rfl
theorem dX5_rankOf_42 : decode cX5_rankOf 42 = .ok (.if_icmp .ne 11, 3) := zrD zrw_cX5_rankOf_31 (i := 11) (by decide +kernel) rfl
theorem dX5_rankOf_45 : decode cX5_rankOf 45 = .ok (.iload_n 3, 1) := zrD zrw_cX5_rankOf_31 (i := 14) (by decide +kernel) rfl
theorem dX5_rankOf_46 : decode cX5_rankOf 46 = .ok (.iload_n 1, 1) := zrD zrw_cX5_rankOf_31 (i := 15) (by decide +kernel) rfl
theorem dX5_rankOf_47 : decode cX5_rankOf 47 = .ok (.if_icmp .ge 6, 3) := zrD zrw_cX5_rankOf_31 (i := 16) (by decide +kernel) rfl
theorem dX5_rankOf_50 : decode cX5_rankOf 50 = .ok (.iinc 2 1, 3) := zrD zrw_cX5_rankOf_31 (i := 19) (by decide +kernel) rfl
theorem dX5_rankOf_53 : decode cX5_rankOf 53 = .ok (.iinc 3 1, 3) := zrD zrw_cX5_rankOf_31 (i := 22) (by decide +kernel) rfl
theorem dX5_rankOf_56 : decode cX5_rankOf 56 = .ok (.goto (-52), 3) := zrD zrw_cX5_rankOf_31 (i := 25) (by decide +kernel) rfl
theorem dX5_rankOf_59 : decode cX5_rankOf 59 = .ok (.iload_n 2, 1) := zrD zrw_cX5_rankOf_31 (i := 28) (by decide +kernel) rfl
theorem dX5_rankOf_60 : decode cX5_rankOf 60 = .ok (.ireturn, 1) := zrD zrw_cX5_rankOf_31 (i := 29) (by decide +kernel) rfl
def zrk_cX5_winnerBy_0 : ByteArray := .mk #[42, 27, 182, 0, 134, 42, 2, 182, 0, 137, 172]
theorem zrw_cX5_winnerBy_0 : zrW 0 cX5_winnerBy zrk_cX5_winnerBy_0 := by unfold zrW; decide +kernel
theorem dX5_winnerBy_0 : decode cX5_winnerBy 0 = .ok (.aload_n 0, 1) := zrD zrw_cX5_winnerBy_0 (i := 0) (by decide +kernel) rfl
theorem dX5_winnerBy_1 : decode cX5_winnerBy 1 = .ok (.iload_n 1, 1) := zrD zrw_cX5_winnerBy_0 (i := 1) (by decide +kernel) rfl
theorem dX5_winnerBy_2 : decode cX5_winnerBy 2 = .ok (.invokevirtual 134, 3) := zrD zrw_cX5_winnerBy_0 (i := 2) (by decide +kernel) rfl
theorem dX5_winnerBy_5 : decode cX5_winnerBy 5 = .ok (.aload_n 0, 1) := zrD zrw_cX5_winnerBy_0 (i := 5) (by decide +kernel) rfl
theorem dX5_winnerBy_6 : decode cX5_winnerBy 6 = .ok (.iconst (-1), 1) := zrD zrw_cX5_winnerBy_0 (i := 6) (by decide +kernel) rfl
theorem dX5_winnerBy_7 : decode cX5_winnerBy 7 = .ok (.invokevirtual 137, 3) := zrD zrw_cX5_winnerBy_0 (i := 7) (by decide +kernel) rfl
theorem dX5_winnerBy_10 : decode cX5_winnerBy 10 = .ok (.ireturn, 1) := zrD zrw_cX5_winnerBy_0 (i := 10) (by decide +kernel) rfl
def zrk_cX5_rainsOf_0 : ByteArray := .mk #[3, 61, 3, 62, 29, 42, 180, 0, 12, 180, 0, 64, 162, 0, 26, 27, 29, 184, 0, 85, 153, 0, 12, 28, 42, 180, 0, 25, 29, 46, 96, 61]
theorem zrw_cX5_rainsOf_0 : zrW 0 cX5_rainsOf zrk_cX5_rainsOf_0 := by unfold zrW; decide +kernel
theorem dX5_rainsOf_0 : decode cX5_rainsOf 0 = .ok (.iconst 0, 1) := zrD zrw_cX5_rainsOf_0 (i := 0) (by decide +kernel) rfl
theorem dX5_rainsOf_1 : decode cX5_rainsOf 1 = .ok (.istore_n 2, 1) := zrD zrw_cX5_rainsOf_0 (i := 1) (by decide +kernel) rfl
theorem dX5_rainsOf_2 : decode cX5_rainsOf 2 = .ok (.iconst 0, 1) := zrD zrw_cX5_rainsOf_0 (i := 2) (by decide +kernel) rfl
theorem dX5_rainsOf_3 : decode cX5_rainsOf 3 = .ok (.istore_n 3, 1) := zrD zrw_cX5_rainsOf_0 (i := 3) (by decide +kernel) rfl
theorem dX5_rainsOf_4 : decode cX5_rainsOf 4 = .ok (.iload_n 3, 1) := zrD zrw_cX5_rainsOf_0 (i := 4) (by decide +kernel) rfl
theorem dX5_rainsOf_5 : decode cX5_rainsOf 5 = .ok (.aload_n 0, 1) := zrD zrw_cX5_rainsOf_0 (i := 5) (by decide +kernel) rfl
theorem dX5_rainsOf_6 : decode cX5_rainsOf 6 = .ok (.getfield 12, 3) := zrD zrw_cX5_rainsOf_0 (i := 6) (by decide +kernel) rfl
theorem dX5_rainsOf_9 : decode cX5_rainsOf 9 = .ok (.getfield 64, 3) := zrD zrw_cX5_rainsOf_0 (i := 9) (by decide +kernel) rfl
theorem dX5_rainsOf_12 : decode cX5_rainsOf 12 = .ok (.if_icmp .ge 26, 3) := zrD zrw_cX5_rainsOf_0 (i := 12) (by decide +kernel) rfl
theorem dX5_rainsOf_15 : decode cX5_rainsOf 15 = .ok (.iload_n 1, 1) := zrD zrw_cX5_rainsOf_0 (i := 15) (by decide +kernel) rfl
theorem dX5_rainsOf_16 : decode cX5_rainsOf 16 = .ok (.iload_n 3, 1) := zrD zrw_cX5_rainsOf_0 (i := 16) (by decide +kernel) rfl
theorem dX5_rainsOf_17 : decode cX5_rainsOf 17 = .ok (.invokestatic 85, 3) := zrD zrw_cX5_rainsOf_0 (i := 17) (by decide +kernel) rfl
theorem dX5_rainsOf_20 : decode cX5_rainsOf 20 = .ok (.ifCond .eq 12, 3) := zrD zrw_cX5_rainsOf_0 (i := 20) (by decide +kernel) rfl
theorem dX5_rainsOf_23 : decode cX5_rainsOf 23 = .ok (.iload_n 2, 1) := zrD zrw_cX5_rainsOf_0 (i := 23) (by decide +kernel) rfl
theorem dX5_rainsOf_24 : decode cX5_rainsOf 24 = .ok (.aload_n 0, 1) := zrD zrw_cX5_rainsOf_0 (i := 24) (by decide +kernel) rfl
theorem dX5_rainsOf_25 : decode cX5_rainsOf 25 = .ok (.getfield 25, 3) := zrD zrw_cX5_rainsOf_0 (i := 25) (by decide +kernel) rfl
theorem dX5_rainsOf_28 : decode cX5_rainsOf 28 = .ok (.iload_n 3, 1) := zrD zrw_cX5_rainsOf_0 (i := 28) (by decide +kernel) rfl
theorem dX5_rainsOf_29 : decode cX5_rainsOf 29 = .ok (.iaload, 1) := zrD zrw_cX5_rainsOf_0 (i := 29) (by decide +kernel) rfl
theorem dX5_rainsOf_30 : decode cX5_rainsOf 30 = .ok (.iadd, 1) := zrD zrw_cX5_rainsOf_0 (i := 30) (by decide +kernel) rfl
theorem dX5_rainsOf_31 : decode cX5_rainsOf 31 = .ok (.istore_n 2, 1) := zrD zrw_cX5_rainsOf_0 (i := 31) (by decide +kernel) rfl
def zrk_cX5_rainsOf_32 : ByteArray := .mk #[132, 3, 1, 167, 255, 225, 28, 172]
theorem zrw_cX5_rainsOf_32 : zrW 32 cX5_rainsOf zrk_cX5_rainsOf_32 := by unfold zrW; decide +kernel
theorem dX5_rainsOf_32 : decode cX5_rainsOf 32 = .ok (.iinc 3 1, 3) := zrD zrw_cX5_rainsOf_32 (i := 0) (by decide +kernel) rfl
theorem dX5_rainsOf_35 : decode cX5_rainsOf 35 = .ok (.goto (-31), 3) := zrD zrw_cX5_rainsOf_32 (i := 3) (by decide +kernel) rfl
theorem dX5_rainsOf_38 : decode cX5_rainsOf 38 = .ok (.iload_n 2, 1) := zrD zrw_cX5_rainsOf_32 (i := 6) (by decide +kernel) rfl
theorem dX5_rainsOf_39 : decode cX5_rainsOf 39 = .ok (.ireturn, 1) := zrD zrw_cX5_rainsOf_32 (i := 7) (by decide +kernel) rfl
def zrk_cX5_endMonth_0 : ByteArray := .mk #[42, 42, 180, 0, 39, 180, 0, 140, 182, 0, 143, 60, 27, 158, 0, 18, 42, 180, 0, 39, 27, 42, 180, 0, 35, 180, 0, 146, 182, 0, 149, 42]
theorem zrw_cX5_endMonth_0 : zrW 0 cX5_endMonth zrk_cX5_endMonth_0 := by unfold zrW; decide +kernel
theorem dX5_endMonth_0 : decode cX5_endMonth 0 = .ok (.aload_n 0, 1) := zrD zrw_cX5_endMonth_0 (i := 0) (by decide +kernel) rfl
theorem dX5_endMonth_1 : decode cX5_endMonth 1 = .ok (.aload_n 0, 1) := zrD zrw_cX5_endMonth_0 (i := 1) (by decide +kernel) rfl
theorem dX5_endMonth_2 : decode cX5_endMonth 2 = .ok (.getfield 39, 3) := zrD zrw_cX5_endMonth_0 (i := 2) (by decide +kernel) rfl
theorem dX5_endMonth_5 : decode cX5_endMonth 5 = .ok (.getfield 140, 3) := zrD zrw_cX5_endMonth_0 (i := 5) (by decide +kernel) rfl
theorem dX5_endMonth_8 : decode cX5_endMonth 8 = .ok (.invokevirtual 143, 3) := zrD zrw_cX5_endMonth_0 (i := 8) (by decide +kernel) rfl
theorem dX5_endMonth_11 : decode cX5_endMonth 11 = .ok (.istore_n 1, 1) := zrD zrw_cX5_endMonth_0 (i := 11) (by decide +kernel) rfl
theorem dX5_endMonth_12 : decode cX5_endMonth 12 = .ok (.iload_n 1, 1) := zrD zrw_cX5_endMonth_0 (i := 12) (by decide +kernel) rfl
theorem dX5_endMonth_13 : decode cX5_endMonth 13 = .ok (.ifCond .le 18, 3) := zrD zrw_cX5_endMonth_0 (i := 13) (by decide +kernel) rfl
theorem dX5_endMonth_16 : decode cX5_endMonth 16 = .ok (.aload_n 0, 1) := zrD zrw_cX5_endMonth_0 (i := 16) (by decide +kernel) rfl
theorem dX5_endMonth_17 : decode cX5_endMonth 17 = .ok (.getfield 39, 3) := zrD zrw_cX5_endMonth_0 (i := 17) (by decide +kernel) rfl
theorem dX5_endMonth_20 : decode cX5_endMonth 20 = .ok (.iload_n 1, 1) := zrD zrw_cX5_endMonth_0 (i := 20) (by decide +kernel) rfl
theorem dX5_endMonth_21 : decode cX5_endMonth 21 = .ok (.aload_n 0, 1) := zrD zrw_cX5_endMonth_0 (i := 21) (by decide +kernel) rfl
theorem dX5_endMonth_22 : decode cX5_endMonth 22 = .ok (.getfield 35, 3) := zrD zrw_cX5_endMonth_0 (i := 22) (by decide +kernel) rfl
theorem dX5_endMonth_25 : decode cX5_endMonth 25 = .ok (.getfield 146, 3) := zrD zrw_cX5_endMonth_0 (i := 25) (by decide +kernel) rfl
theorem dX5_endMonth_28 : decode cX5_endMonth 28 = .ok (.invokevirtual 149, 3) := zrD zrw_cX5_endMonth_0 (i := 28) (by decide +kernel) rfl
theorem dX5_endMonth_31 : decode cX5_endMonth 31 = .ok (.aload_n 0, 1) := zrD zrw_cX5_endMonth_0 (i := 31) (by decide +kernel) rfl
def zrk_cX5_endMonth_32 : ByteArray := .mk #[180, 0, 39, 89, 180, 0, 153, 4, 96, 181, 0, 153, 177]
theorem zrw_cX5_endMonth_32 : zrW 32 cX5_endMonth zrk_cX5_endMonth_32 := by unfold zrW; decide +kernel
theorem dX5_endMonth_32 : decode cX5_endMonth 32 = .ok (.getfield 39, 3) := zrD zrw_cX5_endMonth_32 (i := 0) (by decide +kernel) rfl
theorem dX5_endMonth_35 : decode cX5_endMonth 35 = .ok (.dup, 1) := zrD zrw_cX5_endMonth_32 (i := 3) (by decide +kernel) rfl
theorem dX5_endMonth_36 : decode cX5_endMonth 36 = .ok (.getfield 153, 3) := zrD zrw_cX5_endMonth_32 (i := 4) (by decide +kernel) rfl
theorem dX5_endMonth_39 : decode cX5_endMonth 39 = .ok (.iconst 1, 1) := zrD zrw_cX5_endMonth_32 (i := 7) (by decide +kernel) rfl
theorem dX5_endMonth_40 : decode cX5_endMonth 40 = .ok (.iadd, 1) := zrD zrw_cX5_endMonth_32 (i := 8) (by decide +kernel) rfl
theorem dX5_endMonth_41 : decode cX5_endMonth 41 = .ok (.putfield 153, 3) := zrD zrw_cX5_endMonth_32 (i := 9) (by decide +kernel) rfl
theorem dX5_endMonth_44 : decode cX5_endMonth 44 = .ok (.return_, 1) := zrD zrw_cX5_endMonth_32 (i := 12) (by decide +kernel) rfl
def zrk_cX5_goOn_0 : ByteArray := .mk #[42, 182, 0, 156, 42, 3, 182, 0, 47, 177]
theorem zrw_cX5_goOn_0 : zrW 0 cX5_goOn zrk_cX5_goOn_0 := by unfold zrW; decide +kernel
theorem dX5_goOn_0 : decode cX5_goOn 0 = .ok (.aload_n 0, 1) := zrD zrw_cX5_goOn_0 (i := 0) (by decide +kernel) rfl
theorem dX5_goOn_1 : decode cX5_goOn 1 = .ok (.invokevirtual 156, 3) := zrD zrw_cX5_goOn_0 (i := 1) (by decide +kernel) rfl
theorem dX5_goOn_4 : decode cX5_goOn 4 = .ok (.aload_n 0, 1) := zrD zrw_cX5_goOn_0 (i := 4) (by decide +kernel) rfl
theorem dX5_goOn_5 : decode cX5_goOn 5 = .ok (.iconst 0, 1) := zrD zrw_cX5_goOn_0 (i := 5) (by decide +kernel) rfl
theorem dX5_goOn_6 : decode cX5_goOn 6 = .ok (.invokevirtual 47, 3) := zrD zrw_cX5_goOn_0 (i := 6) (by decide +kernel) rfl
theorem dX5_goOn_9 : decode cX5_goOn 9 = .ok (.return_, 1) := zrD zrw_cX5_goOn_0 (i := 9) (by decide +kernel) rfl
def zrk_cX5_goThrough_0 : ByteArray := .mk #[42, 43, 44, 182, 0, 43, 3, 54, 5, 21, 5, 29, 162, 0, 38, 42, 43, 21, 4, 44, 180, 0, 153, 182, 0, 159, 153, 0, 10, 43]
theorem zrw_cX5_goThrough_0 : zrW 0 cX5_goThrough zrk_cX5_goThrough_0 := by unfold zrW; decide +kernel
theorem dX5_goThrough_0 : decode cX5_goThrough 0 = .ok (.aload_n 0, 1) := zrD zrw_cX5_goThrough_0 (i := 0) (by decide +kernel) rfl
theorem dX5_goThrough_1 : decode cX5_goThrough 1 = .ok (.aload_n 1, 1) := zrD zrw_cX5_goThrough_0 (i := 1) (by decide +kernel) rfl
theorem dX5_goThrough_2 : decode cX5_goThrough 2 = .ok (.aload_n 2, 1) := zrD zrw_cX5_goThrough_0 (i := 2) (by decide +kernel) rfl
theorem dX5_goThrough_3 : decode cX5_goThrough 3 = .ok (.invokevirtual 43, 3) := zrD zrw_cX5_goThrough_0 (i := 3) (by decide +kernel) rfl
theorem dX5_goThrough_6 : decode cX5_goThrough 6 = .ok (.iconst 0, 1) := zrD zrw_cX5_goThrough_0 (i := 6) (by decide +kernel) rfl
theorem dX5_goThrough_7 : decode cX5_goThrough 7 = .ok (.istore 5, 2) := zrD zrw_cX5_goThrough_0 (i := 7) (by decide +kernel) rfl
theorem dX5_goThrough_9 : decode cX5_goThrough 9 = .ok (.iload 5, 2) := zrD zrw_cX5_goThrough_0 (i := 9) (by decide +kernel) rfl
theorem dX5_goThrough_11 : decode cX5_goThrough 11 = .ok (.iload_n 3, 1) := zrD zrw_cX5_goThrough_0 (i := 11) (by decide +kernel) rfl
theorem dX5_goThrough_12 : decode cX5_goThrough 12 = .ok (.if_icmp .ge 38, 3) := zrD zrw_cX5_goThrough_0 (i := 12) (by decide +kernel) rfl
theorem dX5_goThrough_15 : decode cX5_goThrough 15 = .ok (.aload_n 0, 1) := zrD zrw_cX5_goThrough_0 (i := 15) (by decide +kernel) rfl
theorem dX5_goThrough_16 : decode cX5_goThrough 16 = .ok (.aload_n 1, 1) := zrD zrw_cX5_goThrough_0 (i := 16) (by decide +kernel) rfl
theorem dX5_goThrough_17 : decode cX5_goThrough 17 = .ok (.iload 4, 2) := zrD zrw_cX5_goThrough_0 (i := 17) (by decide +kernel) rfl
theorem dX5_goThrough_19 : decode cX5_goThrough 19 = .ok (.aload_n 2, 1) := zrD zrw_cX5_goThrough_0 (i := 19) (by decide +kernel) rfl
theorem dX5_goThrough_20 : decode cX5_goThrough 20 = .ok (.getfield 153, 3) := zrD zrw_cX5_goThrough_0 (i := 20) (by decide +kernel) rfl
theorem dX5_goThrough_23 : decode cX5_goThrough 23 = .ok (.invokevirtual 159, 3) := zrD zrw_cX5_goThrough_0 (i := 23) (by decide +kernel) rfl
theorem dX5_goThrough_26 : decode cX5_goThrough 26 = .ok (.ifCond .eq 10, 3) := zrD zrw_cX5_goThrough_0 (i := 26) (by decide +kernel) rfl
theorem dX5_goThrough_29 : decode cX5_goThrough 29 = .ok (.aload_n 1, 1) := zrD zrw_cX5_goThrough_0 (i := 29) (by decide +kernel) rfl
def zrk_cX5_goThrough_30 : ByteArray := .mk #[180, 0, 162, 167, 0, 4, 3, 182, 0, 47, 42, 182, 0, 156, 132, 5, 1, 167, 255, 218, 177]
theorem zrw_cX5_goThrough_30 : zrW 30 cX5_goThrough zrk_cX5_goThrough_30 := by unfold zrW; decide +kernel
theorem dX5_goThrough_30 : decode cX5_goThrough 30 = .ok (.getfield 162, 3) := zrD zrw_cX5_goThrough_30 (i := 0) (by decide +kernel) rfl
theorem dX5_goThrough_33 : decode cX5_goThrough 33 = .ok (.goto 4, 3) := zrD zrw_cX5_goThrough_30 (i := 3) (by decide +kernel) rfl
theorem dX5_goThrough_36 : decode cX5_goThrough 36 = .ok (.iconst 0, 1) := zrD zrw_cX5_goThrough_30 (i := 6) (by decide +kernel) rfl
theorem dX5_goThrough_37 : decode cX5_goThrough 37 = .ok (.invokevirtual 47, 3) := zrD zrw_cX5_goThrough_30 (i := 7) (by decide +kernel) rfl
theorem dX5_goThrough_40 : decode cX5_goThrough 40 = .ok (.aload_n 0, 1) := zrD zrw_cX5_goThrough_30 (i := 10) (by decide +kernel) rfl
theorem dX5_goThrough_41 : decode cX5_goThrough 41 = .ok (.invokevirtual 156, 3) := zrD zrw_cX5_goThrough_30 (i := 11) (by decide +kernel) rfl
theorem dX5_goThrough_44 : decode cX5_goThrough 44 = .ok (.iinc 5 1, 3) := zrD zrw_cX5_goThrough_30 (i := 14) (by decide +kernel) rfl
theorem dX5_goThrough_47 : decode cX5_goThrough 47 = .ok (.goto (-38), 3) := zrD zrw_cX5_goThrough_30 (i := 17) (by decide +kernel) rfl
theorem dX5_goThrough_50 : decode cX5_goThrough 50 = .ok (.return_, 1) := zrD zrw_cX5_goThrough_30 (i := 20) (by decide +kernel) rfl
def zrk_cX6_init_0 : ByteArray := .mk #[42, 183, 0, 3, 42, 3, 181, 0, 9, 42, 16, 12]
theorem zrw_cX6_init_0 : zrW 0 cX6_init zrk_cX6_init_0 := by unfold zrW; decide +kernel
theorem dX6_init_0 : decode cX6_init 0 = .ok (.aload_n 0, 1) := zrD zrw_cX6_init_0 (i := 0) (by decide +kernel) rfl
theorem dX6_init_1 : decode cX6_init 1 = .ok (.invokespecial 3, 3) := zrD zrw_cX6_init_0 (i := 1) (by decide +kernel) rfl
theorem dX6_init_4 : decode cX6_init 4 = .ok (.aload_n 0, 1) := zrD zrw_cX6_init_0 (i := 4) (by decide +kernel) rfl
theorem dX6_init_5 : decode cX6_init 5 = .ok (.iconst 0, 1) := zrD zrw_cX6_init_0 (i := 5) (by decide +kernel) rfl
theorem dX6_init_6 : decode cX6_init 6 = .ok (.putfield 9, 3) := zrD zrw_cX6_init_0 (i := 6) (by decide +kernel) rfl
theorem dX6_init_9 : decode cX6_init 9 = .ok (.aload_n 0, 1) := zrD zrw_cX6_init_0 (i := 9) (by decide +kernel) rfl
theorem dX6_init_10 : decode cX6_init 10 = .ok (.bipush 12, 2) := zrD zrw_cX6_init_0 (i := 10) (by decide +kernel) rfl
theorem dX6_init_12 : decode cX6_init 12 = .ok (.newarray .int, 2) := by decide +kernel
def zrk_cX6_init_14 : ByteArray := .mk #[181, 0, 15, 42, 16, 12]
theorem zrw_cX6_init_14 : zrW 14 cX6_init zrk_cX6_init_14 := by unfold zrW; decide +kernel
theorem dX6_init_14 : decode cX6_init 14 = .ok (.putfield 15, 3) := zrD zrw_cX6_init_14 (i := 0) (by decide +kernel) rfl
theorem dX6_init_17 : decode cX6_init 17 = .ok (.aload_n 0, 1) := zrD zrw_cX6_init_14 (i := 3) (by decide +kernel) rfl
theorem dX6_init_18 : decode cX6_init 18 = .ok (.bipush 12, 2) := zrD zrw_cX6_init_14 (i := 4) (by decide +kernel) rfl
theorem dX6_init_20 : decode cX6_init 20 = .ok (.newarray .int, 2) := by decide +kernel
def zrk_cX6_init_22 : ByteArray := .mk #[181, 0, 19, 42, 16, 12]
theorem zrw_cX6_init_22 : zrW 22 cX6_init zrk_cX6_init_22 := by unfold zrW; decide +kernel
theorem dX6_init_22 : decode cX6_init 22 = .ok (.putfield 19, 3) := zrD zrw_cX6_init_22 (i := 0) (by decide +kernel) rfl
theorem dX6_init_25 : decode cX6_init 25 = .ok (.aload_n 0, 1) := zrD zrw_cX6_init_22 (i := 3) (by decide +kernel) rfl
theorem dX6_init_26 : decode cX6_init 26 = .ok (.bipush 12, 2) := zrD zrw_cX6_init_22 (i := 4) (by decide +kernel) rfl
theorem dX6_init_28 : decode cX6_init 28 = .ok (.newarray .int, 2) := by decide +kernel
def zrk_cX6_init_30 : ByteArray := .mk #[181, 0, 22, 42, 16, 12]
theorem zrw_cX6_init_30 : zrW 30 cX6_init zrk_cX6_init_30 := by unfold zrW; decide +kernel
theorem dX6_init_30 : decode cX6_init 30 = .ok (.putfield 22, 3) := zrD zrw_cX6_init_30 (i := 0) (by decide +kernel) rfl
theorem dX6_init_33 : decode cX6_init 33 = .ok (.aload_n 0, 1) := zrD zrw_cX6_init_30 (i := 3) (by decide +kernel) rfl
theorem dX6_init_34 : decode cX6_init 34 = .ok (.bipush 12, 2) := zrD zrw_cX6_init_30 (i := 4) (by decide +kernel) rfl
theorem dX6_init_36 : decode cX6_init 36 = .ok (.newarray .int, 2) := by decide +kernel
def zrk_cX6_init_38 : ByteArray := .mk #[181, 0, 25, 42, 16, 12]
theorem zrw_cX6_init_38 : zrW 38 cX6_init zrk_cX6_init_38 := by unfold zrW; decide +kernel
theorem dX6_init_38 : decode cX6_init 38 = .ok (.putfield 25, 3) := zrD zrw_cX6_init_38 (i := 0) (by decide +kernel) rfl
theorem dX6_init_41 : decode cX6_init 41 = .ok (.aload_n 0, 1) := zrD zrw_cX6_init_38 (i := 3) (by decide +kernel) rfl
theorem dX6_init_42 : decode cX6_init 42 = .ok (.bipush 12, 2) := zrD zrw_cX6_init_38 (i := 4) (by decide +kernel) rfl
theorem dX6_init_44 : decode cX6_init 44 = .ok (.newarray .int, 2) := by decide +kernel
def zrk_cX6_init_46 : ByteArray := .mk #[181, 0, 28, 42, 16, 12]
theorem zrw_cX6_init_46 : zrW 46 cX6_init zrk_cX6_init_46 := by unfold zrW; decide +kernel
theorem dX6_init_46 : decode cX6_init 46 = .ok (.putfield 28, 3) := zrD zrw_cX6_init_46 (i := 0) (by decide +kernel) rfl
theorem dX6_init_49 : decode cX6_init 49 = .ok (.aload_n 0, 1) := zrD zrw_cX6_init_46 (i := 3) (by decide +kernel) rfl
theorem dX6_init_50 : decode cX6_init 50 = .ok (.bipush 12, 2) := zrD zrw_cX6_init_46 (i := 4) (by decide +kernel) rfl
theorem dX6_init_52 : decode cX6_init 52 = .ok (.newarray .int, 2) := by decide +kernel
def zrk_cX6_init_54 : ByteArray := .mk #[181, 0, 31, 177]
theorem zrw_cX6_init_54 : zrW 54 cX6_init zrk_cX6_init_54 := by unfold zrW; decide +kernel
theorem dX6_init_54 : decode cX6_init 54 = .ok (.putfield 31, 3) := zrD zrw_cX6_init_54 (i := 0) (by decide +kernel) rfl
theorem dX6_init_57 : decode cX6_init 57 = .ok (.return_, 1) := zrD zrw_cX6_init_54 (i := 3) (by decide +kernel) rfl
def zrk_cX6_form_0 : ByteArray := .mk #[42, 43, 180, 0, 34, 181, 0, 9, 43, 180, 0, 37, 3, 42, 180, 0, 15, 3, 16, 12, 184, 0, 38, 42, 180, 0, 9, 158, 0, 7, 4]
theorem zrw_cX6_form_0 : zrW 0 cX6_form zrk_cX6_form_0 := by unfold zrW; decide +kernel
theorem dX6_form_0 : decode cX6_form 0 = .ok (.aload_n 0, 1) := zrD zrw_cX6_form_0 (i := 0) (by decide +kernel) rfl
theorem dX6_form_1 : decode cX6_form 1 = .ok (.aload_n 1, 1) := zrD zrw_cX6_form_0 (i := 1) (by decide +kernel) rfl
theorem dX6_form_2 : decode cX6_form 2 = .ok (.getfield 34, 3) := zrD zrw_cX6_form_0 (i := 2) (by decide +kernel) rfl
theorem dX6_form_5 : decode cX6_form 5 = .ok (.putfield 9, 3) := zrD zrw_cX6_form_0 (i := 5) (by decide +kernel) rfl
theorem dX6_form_8 : decode cX6_form 8 = .ok (.aload_n 1, 1) := zrD zrw_cX6_form_0 (i := 8) (by decide +kernel) rfl
theorem dX6_form_9 : decode cX6_form 9 = .ok (.getfield 37, 3) := zrD zrw_cX6_form_0 (i := 9) (by decide +kernel) rfl
theorem dX6_form_12 : decode cX6_form 12 = .ok (.iconst 0, 1) := zrD zrw_cX6_form_0 (i := 12) (by decide +kernel) rfl
theorem dX6_form_13 : decode cX6_form 13 = .ok (.aload_n 0, 1) := zrD zrw_cX6_form_0 (i := 13) (by decide +kernel) rfl
theorem dX6_form_14 : decode cX6_form 14 = .ok (.getfield 15, 3) := zrD zrw_cX6_form_0 (i := 14) (by decide +kernel) rfl
theorem dX6_form_17 : decode cX6_form 17 = .ok (.iconst 0, 1) := zrD zrw_cX6_form_0 (i := 17) (by decide +kernel) rfl
theorem dX6_form_18 : decode cX6_form 18 = .ok (.bipush 12, 2) := zrD zrw_cX6_form_0 (i := 18) (by decide +kernel) rfl
theorem dX6_form_20 : decode cX6_form 20 = .ok (.invokestatic 38, 3) := zrD zrw_cX6_form_0 (i := 20) (by decide +kernel) rfl
theorem dX6_form_23 : decode cX6_form 23 = .ok (.aload_n 0, 1) := zrD zrw_cX6_form_0 (i := 23) (by decide +kernel) rfl
theorem dX6_form_24 : decode cX6_form 24 = .ok (.getfield 9, 3) := zrD zrw_cX6_form_0 (i := 24) (by decide +kernel) rfl
theorem dX6_form_27 : decode cX6_form 27 = .ok (.ifCond .le 7, 3) := zrD zrw_cX6_form_0 (i := 27) (by decide +kernel) rfl
theorem dX6_form_30 : decode cX6_form 30 = .ok (.iconst 1, 1) := zrD zrw_cX6_form_0 (i := 30) (by decide +kernel) rfl
def zrk_cX6_form_31 : ByteArray := .mk #[167, 0, 4, 3, 62, 42, 180, 0, 19, 3, 3, 79, 42, 180, 0, 22, 3, 3, 79, 42, 180, 0, 31, 3, 3, 184, 0, 44, 79, 3, 54, 4]
theorem zrw_cX6_form_31 : zrW 31 cX6_form zrk_cX6_form_31 := by unfold zrW; decide +kernel
theorem dX6_form_31 : decode cX6_form 31 = .ok (.goto 4, 3) := zrD zrw_cX6_form_31 (i := 0) (by decide +kernel) rfl
theorem dX6_form_34 : decode cX6_form 34 = .ok (.iconst 0, 1) := zrD zrw_cX6_form_31 (i := 3) (by decide +kernel) rfl
theorem dX6_form_35 : decode cX6_form 35 = .ok (.istore_n 3, 1) := zrD zrw_cX6_form_31 (i := 4) (by decide +kernel) rfl
theorem dX6_form_36 : decode cX6_form 36 = .ok (.aload_n 0, 1) := zrD zrw_cX6_form_31 (i := 5) (by decide +kernel) rfl
theorem dX6_form_37 : decode cX6_form 37 = .ok (.getfield 19, 3) := zrD zrw_cX6_form_31 (i := 6) (by decide +kernel) rfl
theorem dX6_form_40 : decode cX6_form 40 = .ok (.iconst 0, 1) := zrD zrw_cX6_form_31 (i := 9) (by decide +kernel) rfl
theorem dX6_form_41 : decode cX6_form 41 = .ok (.iconst 0, 1) := zrD zrw_cX6_form_31 (i := 10) (by decide +kernel) rfl
theorem dX6_form_42 : decode cX6_form 42 = .ok (.iastore, 1) := zrD zrw_cX6_form_31 (i := 11) (by decide +kernel) rfl
theorem dX6_form_43 : decode cX6_form 43 = .ok (.aload_n 0, 1) := zrD zrw_cX6_form_31 (i := 12) (by decide +kernel) rfl
theorem dX6_form_44 : decode cX6_form 44 = .ok (.getfield 22, 3) := zrD zrw_cX6_form_31 (i := 13) (by decide +kernel) rfl
theorem dX6_form_47 : decode cX6_form 47 = .ok (.iconst 0, 1) := zrD zrw_cX6_form_31 (i := 16) (by decide +kernel) rfl
theorem dX6_form_48 : decode cX6_form 48 = .ok (.iconst 0, 1) := zrD zrw_cX6_form_31 (i := 17) (by decide +kernel) rfl
theorem dX6_form_49 : decode cX6_form 49 = .ok (.iastore, 1) := zrD zrw_cX6_form_31 (i := 18) (by decide +kernel) rfl
theorem dX6_form_50 : decode cX6_form 50 = .ok (.aload_n 0, 1) := zrD zrw_cX6_form_31 (i := 19) (by decide +kernel) rfl
theorem dX6_form_51 : decode cX6_form 51 = .ok (.getfield 31, 3) := zrD zrw_cX6_form_31 (i := 20) (by decide +kernel) rfl
theorem dX6_form_54 : decode cX6_form 54 = .ok (.iconst 0, 1) := zrD zrw_cX6_form_31 (i := 23) (by decide +kernel) rfl
theorem dX6_form_55 : decode cX6_form 55 = .ok (.iconst 0, 1) := zrD zrw_cX6_form_31 (i := 24) (by decide +kernel) rfl
theorem dX6_form_56 : decode cX6_form 56 = .ok (.invokestatic 44, 3) := zrD zrw_cX6_form_31 (i := 25) (by decide +kernel) rfl
theorem dX6_form_59 : decode cX6_form 59 = .ok (.iastore, 1) := zrD zrw_cX6_form_31 (i := 28) (by decide +kernel) rfl
theorem dX6_form_60 : decode cX6_form 60 = .ok (.iconst 0, 1) := zrD zrw_cX6_form_31 (i := 29) (by decide +kernel) rfl
theorem dX6_form_61 : decode cX6_form 61 = .ok (.istore 4, 2) := zrD zrw_cX6_form_31 (i := 30) (by decide +kernel) rfl
def zrk_cX6_form_63 : ByteArray := .mk #[21, 4, 29, 162, 0, 109, 42, 180, 0, 19, 21, 4, 46, 54, 5, 4, 54, 6, 21, 6, 42, 180, 0, 9, 162, 0, 82, 29, 42, 180, 0, 9]
theorem zrw_cX6_form_63 : zrW 63 cX6_form zrk_cX6_form_63 := by unfold zrW; decide +kernel
theorem dX6_form_63 : decode cX6_form 63 = .ok (.iload 4, 2) := zrD zrw_cX6_form_63 (i := 0) (by decide +kernel) rfl
theorem dX6_form_65 : decode cX6_form 65 = .ok (.iload_n 3, 1) := zrD zrw_cX6_form_63 (i := 2) (by decide +kernel) rfl
theorem dX6_form_66 : decode cX6_form 66 = .ok (.if_icmp .ge 109, 3) := zrD zrw_cX6_form_63 (i := 3) (by decide +kernel) rfl
theorem dX6_form_69 : decode cX6_form 69 = .ok (.aload_n 0, 1) := zrD zrw_cX6_form_63 (i := 6) (by decide +kernel) rfl
theorem dX6_form_70 : decode cX6_form 70 = .ok (.getfield 19, 3) := zrD zrw_cX6_form_63 (i := 7) (by decide +kernel) rfl
theorem dX6_form_73 : decode cX6_form 73 = .ok (.iload 4, 2) := zrD zrw_cX6_form_63 (i := 10) (by decide +kernel) rfl
theorem dX6_form_75 : decode cX6_form 75 = .ok (.iaload, 1) := zrD zrw_cX6_form_63 (i := 12) (by decide +kernel) rfl
theorem dX6_form_76 : decode cX6_form 76 = .ok (.istore 5, 2) := zrD zrw_cX6_form_63 (i := 13) (by decide +kernel) rfl
theorem dX6_form_78 : decode cX6_form 78 = .ok (.iconst 1, 1) := zrD zrw_cX6_form_63 (i := 15) (by decide +kernel) rfl
theorem dX6_form_79 : decode cX6_form 79 = .ok (.istore 6, 2) := zrD zrw_cX6_form_63 (i := 16) (by decide +kernel) rfl
theorem dX6_form_81 : decode cX6_form 81 = .ok (.iload 6, 2) := zrD zrw_cX6_form_63 (i := 18) (by decide +kernel) rfl
theorem dX6_form_83 : decode cX6_form 83 = .ok (.aload_n 0, 1) := zrD zrw_cX6_form_63 (i := 20) (by decide +kernel) rfl
theorem dX6_form_84 : decode cX6_form 84 = .ok (.getfield 9, 3) := zrD zrw_cX6_form_63 (i := 21) (by decide +kernel) rfl
theorem dX6_form_87 : decode cX6_form 87 = .ok (.if_icmp .ge 82, 3) := zrD zrw_cX6_form_63 (i := 24) (by decide +kernel) rfl
theorem dX6_form_90 : decode cX6_form 90 = .ok (.iload_n 3, 1) := zrD zrw_cX6_form_63 (i := 27) (by decide +kernel) rfl
theorem dX6_form_91 : decode cX6_form 91 = .ok (.aload_n 0, 1) := zrD zrw_cX6_form_63 (i := 28) (by decide +kernel) rfl
theorem dX6_form_92 : decode cX6_form 92 = .ok (.getfield 9, 3) := zrD zrw_cX6_form_63 (i := 29) (by decide +kernel) rfl
def zrk_cX6_form_95 : ByteArray := .mk #[162, 0, 74, 44, 180, 0, 48, 21, 6, 46, 21, 5, 160, 0, 56, 42, 180, 0, 22, 21, 6, 42, 180, 0, 22, 21, 5, 46, 42, 180, 0, 15]
theorem zrw_cX6_form_95 : zrW 95 cX6_form zrk_cX6_form_95 := by unfold zrW; decide +kernel
theorem dX6_form_95 : decode cX6_form 95 = .ok (.if_icmp .ge 74, 3) := zrD zrw_cX6_form_95 (i := 0) (by decide +kernel) rfl
theorem dX6_form_98 : decode cX6_form 98 = .ok (.aload_n 2, 1) := zrD zrw_cX6_form_95 (i := 3) (by decide +kernel) rfl
theorem dX6_form_99 : decode cX6_form 99 = .ok (.getfield 48, 3) := zrD zrw_cX6_form_95 (i := 4) (by decide +kernel) rfl
theorem dX6_form_102 : decode cX6_form 102 = .ok (.iload 6, 2) := zrD zrw_cX6_form_95 (i := 7) (by decide +kernel) rfl
theorem dX6_form_104 : decode cX6_form 104 = .ok (.iaload, 1) := zrD zrw_cX6_form_95 (i := 9) (by decide +kernel) rfl
theorem dX6_form_105 : decode cX6_form 105 = .ok (.iload 5, 2) := zrD zrw_cX6_form_95 (i := 10) (by decide +kernel) rfl
theorem dX6_form_107 : decode cX6_form 107 = .ok (.if_icmp .ne 56, 3) := zrD zrw_cX6_form_95 (i := 12) (by decide +kernel) rfl
theorem dX6_form_110 : decode cX6_form 110 = .ok (.aload_n 0, 1) := zrD zrw_cX6_form_95 (i := 15) (by decide +kernel) rfl
theorem dX6_form_111 : decode cX6_form 111 = .ok (.getfield 22, 3) := zrD zrw_cX6_form_95 (i := 16) (by decide +kernel) rfl
theorem dX6_form_114 : decode cX6_form 114 = .ok (.iload 6, 2) := zrD zrw_cX6_form_95 (i := 19) (by decide +kernel) rfl
theorem dX6_form_116 : decode cX6_form 116 = .ok (.aload_n 0, 1) := zrD zrw_cX6_form_95 (i := 21) (by decide +kernel) rfl
theorem dX6_form_117 : decode cX6_form 117 = .ok (.getfield 22, 3) := zrD zrw_cX6_form_95 (i := 22) (by decide +kernel) rfl
theorem dX6_form_120 : decode cX6_form 120 = .ok (.iload 5, 2) := zrD zrw_cX6_form_95 (i := 25) (by decide +kernel) rfl
theorem dX6_form_122 : decode cX6_form 122 = .ok (.iaload, 1) := zrD zrw_cX6_form_95 (i := 27) (by decide +kernel) rfl
theorem dX6_form_123 : decode cX6_form 123 = .ok (.aload_n 0, 1) := zrD zrw_cX6_form_95 (i := 28) (by decide +kernel) rfl
theorem dX6_form_124 : decode cX6_form 124 = .ok (.getfield 15, 3) := zrD zrw_cX6_form_95 (i := 29) (by decide +kernel) rfl
def zrk_cX6_form_127 : ByteArray := .mk #[21, 6, 46, 96, 79, 42, 180, 0, 31, 21, 6, 42, 180, 0, 31, 21, 5, 46, 21, 6, 184, 0, 44, 128, 79, 42, 180, 0, 19, 29, 21, 6]
theorem zrw_cX6_form_127 : zrW 127 cX6_form zrk_cX6_form_127 := by unfold zrW; decide +kernel
theorem dX6_form_127 : decode cX6_form 127 = .ok (.iload 6, 2) := zrD zrw_cX6_form_127 (i := 0) (by decide +kernel) rfl
theorem dX6_form_129 : decode cX6_form 129 = .ok (.iaload, 1) := zrD zrw_cX6_form_127 (i := 2) (by decide +kernel) rfl
theorem dX6_form_130 : decode cX6_form 130 = .ok (.iadd, 1) := zrD zrw_cX6_form_127 (i := 3) (by decide +kernel) rfl
theorem dX6_form_131 : decode cX6_form 131 = .ok (.iastore, 1) := zrD zrw_cX6_form_127 (i := 4) (by decide +kernel) rfl
theorem dX6_form_132 : decode cX6_form 132 = .ok (.aload_n 0, 1) := zrD zrw_cX6_form_127 (i := 5) (by decide +kernel) rfl
theorem dX6_form_133 : decode cX6_form 133 = .ok (.getfield 31, 3) := zrD zrw_cX6_form_127 (i := 6) (by decide +kernel) rfl
theorem dX6_form_136 : decode cX6_form 136 = .ok (.iload 6, 2) := zrD zrw_cX6_form_127 (i := 9) (by decide +kernel) rfl
theorem dX6_form_138 : decode cX6_form 138 = .ok (.aload_n 0, 1) := zrD zrw_cX6_form_127 (i := 11) (by decide +kernel) rfl
theorem dX6_form_139 : decode cX6_form 139 = .ok (.getfield 31, 3) := zrD zrw_cX6_form_127 (i := 12) (by decide +kernel) rfl
theorem dX6_form_142 : decode cX6_form 142 = .ok (.iload 5, 2) := zrD zrw_cX6_form_127 (i := 15) (by decide +kernel) rfl
theorem dX6_form_144 : decode cX6_form 144 = .ok (.iaload, 1) := zrD zrw_cX6_form_127 (i := 17) (by decide +kernel) rfl
theorem dX6_form_145 : decode cX6_form 145 = .ok (.iload 6, 2) := zrD zrw_cX6_form_127 (i := 18) (by decide +kernel) rfl
theorem dX6_form_147 : decode cX6_form 147 = .ok (.invokestatic 44, 3) := zrD zrw_cX6_form_127 (i := 20) (by decide +kernel) rfl
theorem dX6_form_150 : decode cX6_form 150 = .ok (.ior, 1) := zrD zrw_cX6_form_127 (i := 23) (by decide +kernel) rfl
theorem dX6_form_151 : decode cX6_form 151 = .ok (.iastore, 1) := zrD zrw_cX6_form_127 (i := 24) (by decide +kernel) rfl
theorem dX6_form_152 : decode cX6_form 152 = .ok (.aload_n 0, 1) := zrD zrw_cX6_form_127 (i := 25) (by decide +kernel) rfl
theorem dX6_form_153 : decode cX6_form 153 = .ok (.getfield 19, 3) := zrD zrw_cX6_form_127 (i := 26) (by decide +kernel) rfl
theorem dX6_form_156 : decode cX6_form 156 = .ok (.iload_n 3, 1) := zrD zrw_cX6_form_127 (i := 29) (by decide +kernel) rfl
theorem dX6_form_157 : decode cX6_form 157 = .ok (.iload 6, 2) := zrD zrw_cX6_form_127 (i := 30) (by decide +kernel) rfl
def zrk_cX6_form_159 : ByteArray := .mk #[79, 132, 3, 1, 132, 6, 1, 167, 255, 171, 132, 4, 1, 167, 255, 147, 42, 44, 182, 0, 53, 177]
theorem zrw_cX6_form_159 : zrW 159 cX6_form zrk_cX6_form_159 := by unfold zrW; decide +kernel
theorem dX6_form_159 : decode cX6_form 159 = .ok (.iastore, 1) := zrD zrw_cX6_form_159 (i := 0) (by decide +kernel) rfl
theorem dX6_form_160 : decode cX6_form 160 = .ok (.iinc 3 1, 3) := zrD zrw_cX6_form_159 (i := 1) (by decide +kernel) rfl
theorem dX6_form_163 : decode cX6_form 163 = .ok (.iinc 6 1, 3) := zrD zrw_cX6_form_159 (i := 4) (by decide +kernel) rfl
theorem dX6_form_166 : decode cX6_form 166 = .ok (.goto (-85), 3) := zrD zrw_cX6_form_159 (i := 7) (by decide +kernel) rfl
theorem dX6_form_169 : decode cX6_form 169 = .ok (.iinc 4 1, 3) := zrD zrw_cX6_form_159 (i := 10) (by decide +kernel) rfl
theorem dX6_form_172 : decode cX6_form 172 = .ok (.goto (-109), 3) := zrD zrw_cX6_form_159 (i := 13) (by decide +kernel) rfl
theorem dX6_form_175 : decode cX6_form 175 = .ok (.aload_n 0, 1) := zrD zrw_cX6_form_159 (i := 16) (by decide +kernel) rfl
theorem dX6_form_176 : decode cX6_form 176 = .ok (.aload_n 2, 1) := zrD zrw_cX6_form_159 (i := 17) (by decide +kernel) rfl
theorem dX6_form_177 : decode cX6_form 177 = .ok (.invokevirtual 53, 3) := zrD zrw_cX6_form_159 (i := 18) (by decide +kernel) rfl
theorem dX6_form_180 : decode cX6_form 180 = .ok (.return_, 1) := zrD zrw_cX6_form_159 (i := 21) (by decide +kernel) rfl
def zrk_cX6_countAbove_0 : ByteArray := .mk #[42, 180, 0, 25, 3, 184, 0, 57, 42, 180, 0, 9, 4, 100, 61, 28, 158, 0, 38, 42, 180, 0, 19, 28, 46, 62, 42, 180, 0, 25, 43]
theorem zrw_cX6_countAbove_0 : zrW 0 cX6_countAbove zrk_cX6_countAbove_0 := by unfold zrW; decide +kernel
theorem dX6_countAbove_0 : decode cX6_countAbove 0 = .ok (.aload_n 0, 1) := zrD zrw_cX6_countAbove_0 (i := 0) (by decide +kernel) rfl
theorem dX6_countAbove_1 : decode cX6_countAbove 1 = .ok (.getfield 25, 3) := zrD zrw_cX6_countAbove_0 (i := 1) (by decide +kernel) rfl
theorem dX6_countAbove_4 : decode cX6_countAbove 4 = .ok (.iconst 0, 1) := zrD zrw_cX6_countAbove_0 (i := 4) (by decide +kernel) rfl
theorem dX6_countAbove_5 : decode cX6_countAbove 5 = .ok (.invokestatic 57, 3) := zrD zrw_cX6_countAbove_0 (i := 5) (by decide +kernel) rfl
theorem dX6_countAbove_8 : decode cX6_countAbove 8 = .ok (.aload_n 0, 1) := zrD zrw_cX6_countAbove_0 (i := 8) (by decide +kernel) rfl
theorem dX6_countAbove_9 : decode cX6_countAbove 9 = .ok (.getfield 9, 3) := zrD zrw_cX6_countAbove_0 (i := 9) (by decide +kernel) rfl
theorem dX6_countAbove_12 : decode cX6_countAbove 12 = .ok (.iconst 1, 1) := zrD zrw_cX6_countAbove_0 (i := 12) (by decide +kernel) rfl
theorem dX6_countAbove_13 : decode cX6_countAbove 13 = .ok (.isub, 1) := zrD zrw_cX6_countAbove_0 (i := 13) (by decide +kernel) rfl
theorem dX6_countAbove_14 : decode cX6_countAbove 14 = .ok (.istore_n 2, 1) := zrD zrw_cX6_countAbove_0 (i := 14) (by decide +kernel) rfl
theorem dX6_countAbove_15 : decode cX6_countAbove 15 = .ok (.iload_n 2, 1) := zrD zrw_cX6_countAbove_0 (i := 15) (by decide +kernel) rfl
theorem dX6_countAbove_16 : decode cX6_countAbove 16 = .ok (.ifCond .le 38, 3) := zrD zrw_cX6_countAbove_0 (i := 16) (by decide +kernel) rfl
theorem dX6_countAbove_19 : decode cX6_countAbove 19 = .ok (.aload_n 0, 1) := zrD zrw_cX6_countAbove_0 (i := 19) (by decide +kernel) rfl
theorem dX6_countAbove_20 : decode cX6_countAbove 20 = .ok (.getfield 19, 3) := zrD zrw_cX6_countAbove_0 (i := 20) (by decide +kernel) rfl
theorem dX6_countAbove_23 : decode cX6_countAbove 23 = .ok (.iload_n 2, 1) := zrD zrw_cX6_countAbove_0 (i := 23) (by decide +kernel) rfl
theorem dX6_countAbove_24 : decode cX6_countAbove 24 = .ok (.iaload, 1) := zrD zrw_cX6_countAbove_0 (i := 24) (by decide +kernel) rfl
theorem dX6_countAbove_25 : decode cX6_countAbove 25 = .ok (.istore_n 3, 1) := zrD zrw_cX6_countAbove_0 (i := 25) (by decide +kernel) rfl
theorem dX6_countAbove_26 : decode cX6_countAbove 26 = .ok (.aload_n 0, 1) := zrD zrw_cX6_countAbove_0 (i := 26) (by decide +kernel) rfl
theorem dX6_countAbove_27 : decode cX6_countAbove 27 = .ok (.getfield 25, 3) := zrD zrw_cX6_countAbove_0 (i := 27) (by decide +kernel) rfl
theorem dX6_countAbove_30 : decode cX6_countAbove 30 = .ok (.aload_n 1, 1) := zrD zrw_cX6_countAbove_0 (i := 30) (by decide +kernel) rfl
def zrk_cX6_countAbove_31 : ByteArray := .mk #[180, 0, 48, 29, 46, 92, 46, 42, 180, 0, 25, 29, 46, 4, 96, 96, 79, 132, 2, 255, 167, 255, 220, 177]
theorem zrw_cX6_countAbove_31 : zrW 31 cX6_countAbove zrk_cX6_countAbove_31 := by unfold zrW; decide +kernel
theorem dX6_countAbove_31 : decode cX6_countAbove 31 = .ok (.getfield 48, 3) := zrD zrw_cX6_countAbove_31 (i := 0) (by decide +kernel) rfl
theorem dX6_countAbove_34 : decode cX6_countAbove 34 = .ok (.iload_n 3, 1) := zrD zrw_cX6_countAbove_31 (i := 3) (by decide +kernel) rfl
theorem dX6_countAbove_35 : decode cX6_countAbove 35 = .ok (.iaload, 1) := zrD zrw_cX6_countAbove_31 (i := 4) (by decide +kernel) rfl
theorem dX6_countAbove_36 : decode cX6_countAbove 36 = .ok (.dup2, 1) := zrD zrw_cX6_countAbove_31 (i := 5) (by decide +kernel) rfl
theorem dX6_countAbove_37 : decode cX6_countAbove 37 = .ok (.iaload, 1) := zrD zrw_cX6_countAbove_31 (i := 6) (by decide +kernel) rfl
theorem dX6_countAbove_38 : decode cX6_countAbove 38 = .ok (.aload_n 0, 1) := zrD zrw_cX6_countAbove_31 (i := 7) (by decide +kernel) rfl
theorem dX6_countAbove_39 : decode cX6_countAbove 39 = .ok (.getfield 25, 3) := zrD zrw_cX6_countAbove_31 (i := 8) (by decide +kernel) rfl
theorem dX6_countAbove_42 : decode cX6_countAbove 42 = .ok (.iload_n 3, 1) := zrD zrw_cX6_countAbove_31 (i := 11) (by decide +kernel) rfl
theorem dX6_countAbove_43 : decode cX6_countAbove 43 = .ok (.iaload, 1) := zrD zrw_cX6_countAbove_31 (i := 12) (by decide +kernel) rfl
theorem dX6_countAbove_44 : decode cX6_countAbove 44 = .ok (.iconst 1, 1) := zrD zrw_cX6_countAbove_31 (i := 13) (by decide +kernel) rfl
theorem dX6_countAbove_45 : decode cX6_countAbove 45 = .ok (.iadd, 1) := zrD zrw_cX6_countAbove_31 (i := 14) (by decide +kernel) rfl
theorem dX6_countAbove_46 : decode cX6_countAbove 46 = .ok (.iadd, 1) := zrD zrw_cX6_countAbove_31 (i := 15) (by decide +kernel) rfl
theorem dX6_countAbove_47 : decode cX6_countAbove 47 = .ok (.iastore, 1) := zrD zrw_cX6_countAbove_31 (i := 16) (by decide +kernel) rfl
theorem dX6_countAbove_48 : decode cX6_countAbove 48 = .ok (.iinc 2 (-1), 3) := zrD zrw_cX6_countAbove_31 (i := 17) (by decide +kernel) rfl
theorem dX6_countAbove_51 : decode cX6_countAbove 51 = .ok (.goto (-36), 3) := zrD zrw_cX6_countAbove_31 (i := 20) (by decide +kernel) rfl
theorem dX6_countAbove_54 : decode cX6_countAbove 54 = .ok (.return_, 1) := zrD zrw_cX6_countAbove_31 (i := 23) (by decide +kernel) rfl
def zrk_cX6_orderOf_0 : ByteArray := .mk #[42, 180, 0, 9, 4, 100, 62, 29, 155, 0, 118, 3, 54, 4, 3, 54, 5, 4, 54, 6, 21, 6, 42, 180, 0, 9, 162, 0, 68, 43]
theorem zrw_cX6_orderOf_0 : zrW 0 cX6_orderOf zrk_cX6_orderOf_0 := by unfold zrW; decide +kernel
theorem dX6_orderOf_0 : decode cX6_orderOf 0 = .ok (.aload_n 0, 1) := zrD zrw_cX6_orderOf_0 (i := 0) (by decide +kernel) rfl
theorem dX6_orderOf_1 : decode cX6_orderOf 1 = .ok (.getfield 9, 3) := zrD zrw_cX6_orderOf_0 (i := 1) (by decide +kernel) rfl
theorem dX6_orderOf_4 : decode cX6_orderOf 4 = .ok (.iconst 1, 1) := zrD zrw_cX6_orderOf_0 (i := 4) (by decide +kernel) rfl
theorem dX6_orderOf_5 : decode cX6_orderOf 5 = .ok (.isub, 1) := zrD zrw_cX6_orderOf_0 (i := 5) (by decide +kernel) rfl
theorem dX6_orderOf_6 : decode cX6_orderOf 6 = .ok (.istore_n 3, 1) := zrD zrw_cX6_orderOf_0 (i := 6) (by decide +kernel) rfl
theorem dX6_orderOf_7 : decode cX6_orderOf 7 = .ok (.iload_n 3, 1) := zrD zrw_cX6_orderOf_0 (i := 7) (by decide +kernel) rfl
theorem dX6_orderOf_8 : decode cX6_orderOf 8 = .ok (.ifCond .lt 118, 3) := zrD zrw_cX6_orderOf_0 (i := 8) (by decide +kernel) rfl
theorem dX6_orderOf_11 : decode cX6_orderOf 11 = .ok (.iconst 0, 1) := zrD zrw_cX6_orderOf_0 (i := 11) (by decide +kernel) rfl
theorem dX6_orderOf_12 : decode cX6_orderOf 12 = .ok (.istore 4, 2) := zrD zrw_cX6_orderOf_0 (i := 12) (by decide +kernel) rfl
theorem dX6_orderOf_14 : decode cX6_orderOf 14 = .ok (.iconst 0, 1) := zrD zrw_cX6_orderOf_0 (i := 14) (by decide +kernel) rfl
theorem dX6_orderOf_15 : decode cX6_orderOf 15 = .ok (.istore 5, 2) := zrD zrw_cX6_orderOf_0 (i := 15) (by decide +kernel) rfl
theorem dX6_orderOf_17 : decode cX6_orderOf 17 = .ok (.iconst 1, 1) := zrD zrw_cX6_orderOf_0 (i := 17) (by decide +kernel) rfl
theorem dX6_orderOf_18 : decode cX6_orderOf 18 = .ok (.istore 6, 2) := zrD zrw_cX6_orderOf_0 (i := 18) (by decide +kernel) rfl
theorem dX6_orderOf_20 : decode cX6_orderOf 20 = .ok (.iload 6, 2) := zrD zrw_cX6_orderOf_0 (i := 20) (by decide +kernel) rfl
theorem dX6_orderOf_22 : decode cX6_orderOf 22 = .ok (.aload_n 0, 1) := zrD zrw_cX6_orderOf_0 (i := 22) (by decide +kernel) rfl
theorem dX6_orderOf_23 : decode cX6_orderOf 23 = .ok (.getfield 9, 3) := zrD zrw_cX6_orderOf_0 (i := 23) (by decide +kernel) rfl
theorem dX6_orderOf_26 : decode cX6_orderOf 26 = .ok (.if_icmp .ge 68, 3) := zrD zrw_cX6_orderOf_0 (i := 26) (by decide +kernel) rfl
theorem dX6_orderOf_29 : decode cX6_orderOf 29 = .ok (.aload_n 1, 1) := zrD zrw_cX6_orderOf_0 (i := 29) (by decide +kernel) rfl
def zrk_cX6_orderOf_30 : ByteArray := .mk #[180, 0, 48, 21, 6, 46, 42, 180, 0, 19, 29, 46, 160, 0, 46, 42, 180, 0, 28, 21, 6, 46, 21, 4, 161, 0, 34, 42, 180, 0, 28]
theorem zrw_cX6_orderOf_30 : zrW 30 cX6_orderOf zrk_cX6_orderOf_30 := by unfold zrW; decide +kernel
theorem dX6_orderOf_30 : decode cX6_orderOf 30 = .ok (.getfield 48, 3) := zrD zrw_cX6_orderOf_30 (i := 0) (by decide +kernel) rfl
theorem dX6_orderOf_33 : decode cX6_orderOf 33 = .ok (.iload 6, 2) := zrD zrw_cX6_orderOf_30 (i := 3) (by decide +kernel) rfl
theorem dX6_orderOf_35 : decode cX6_orderOf 35 = .ok (.iaload, 1) := zrD zrw_cX6_orderOf_30 (i := 5) (by decide +kernel) rfl
theorem dX6_orderOf_36 : decode cX6_orderOf 36 = .ok (.aload_n 0, 1) := zrD zrw_cX6_orderOf_30 (i := 6) (by decide +kernel) rfl
theorem dX6_orderOf_37 : decode cX6_orderOf 37 = .ok (.getfield 19, 3) := zrD zrw_cX6_orderOf_30 (i := 7) (by decide +kernel) rfl
theorem dX6_orderOf_40 : decode cX6_orderOf 40 = .ok (.iload_n 3, 1) := zrD zrw_cX6_orderOf_30 (i := 10) (by decide +kernel) rfl
theorem dX6_orderOf_41 : decode cX6_orderOf 41 = .ok (.iaload, 1) := zrD zrw_cX6_orderOf_30 (i := 11) (by decide +kernel) rfl
theorem dX6_orderOf_42 : decode cX6_orderOf 42 = .ok (.if_icmp .ne 46, 3) := zrD zrw_cX6_orderOf_30 (i := 12) (by decide +kernel) rfl
theorem dX6_orderOf_45 : decode cX6_orderOf 45 = .ok (.aload_n 0, 1) := zrD zrw_cX6_orderOf_30 (i := 15) (by decide +kernel) rfl
theorem dX6_orderOf_46 : decode cX6_orderOf 46 = .ok (.getfield 28, 3) := zrD zrw_cX6_orderOf_30 (i := 16) (by decide +kernel) rfl
theorem dX6_orderOf_49 : decode cX6_orderOf 49 = .ok (.iload 6, 2) := zrD zrw_cX6_orderOf_30 (i := 19) (by decide +kernel) rfl
theorem dX6_orderOf_51 : decode cX6_orderOf 51 = .ok (.iaload, 1) := zrD zrw_cX6_orderOf_30 (i := 21) (by decide +kernel) rfl
theorem dX6_orderOf_52 : decode cX6_orderOf 52 = .ok (.iload 4, 2) := zrD zrw_cX6_orderOf_30 (i := 22) (by decide +kernel) rfl
theorem dX6_orderOf_54 : decode cX6_orderOf 54 = .ok (.if_icmp .lt 34, 3) := zrD zrw_cX6_orderOf_30 (i := 24) (by decide +kernel) rfl
theorem dX6_orderOf_57 : decode cX6_orderOf 57 = .ok (.aload_n 0, 1) := zrD zrw_cX6_orderOf_30 (i := 27) (by decide +kernel) rfl
theorem dX6_orderOf_58 : decode cX6_orderOf 58 = .ok (.getfield 28, 3) := zrD zrw_cX6_orderOf_30 (i := 28) (by decide +kernel) rfl
def zrk_cX6_orderOf_61 : ByteArray := .mk #[21, 6, 46, 21, 4, 160, 0, 10, 21, 5, 4, 96, 167, 0, 4, 4, 54, 5, 42, 180, 0, 28, 21, 6, 46, 54, 4, 132, 6, 1]
theorem zrw_cX6_orderOf_61 : zrW 61 cX6_orderOf zrk_cX6_orderOf_61 := by unfold zrW; decide +kernel
theorem dX6_orderOf_61 : decode cX6_orderOf 61 = .ok (.iload 6, 2) := zrD zrw_cX6_orderOf_61 (i := 0) (by decide +kernel) rfl
theorem dX6_orderOf_63 : decode cX6_orderOf 63 = .ok (.iaload, 1) := zrD zrw_cX6_orderOf_61 (i := 2) (by decide +kernel) rfl
theorem dX6_orderOf_64 : decode cX6_orderOf 64 = .ok (.iload 4, 2) := zrD zrw_cX6_orderOf_61 (i := 3) (by decide +kernel) rfl
theorem dX6_orderOf_66 : decode cX6_orderOf 66 = .ok (.if_icmp .ne 10, 3) := zrD zrw_cX6_orderOf_61 (i := 5) (by decide +kernel) rfl
theorem dX6_orderOf_69 : decode cX6_orderOf 69 = .ok (.iload 5, 2) := zrD zrw_cX6_orderOf_61 (i := 8) (by decide +kernel) rfl
theorem dX6_orderOf_71 : decode cX6_orderOf 71 = .ok (.iconst 1, 1) := zrD zrw_cX6_orderOf_61 (i := 10) (by decide +kernel) rfl
theorem dX6_orderOf_72 : decode cX6_orderOf 72 = .ok (.iadd, 1) := zrD zrw_cX6_orderOf_61 (i := 11) (by decide +kernel) rfl
theorem dX6_orderOf_73 : decode cX6_orderOf 73 = .ok (.goto 4, 3) := zrD zrw_cX6_orderOf_61 (i := 12) (by decide +kernel) rfl
theorem dX6_orderOf_76 : decode cX6_orderOf 76 = .ok (.iconst 1, 1) := zrD zrw_cX6_orderOf_61 (i := 15) (by decide +kernel) rfl
theorem dX6_orderOf_77 : decode cX6_orderOf 77 = .ok (.istore 5, 2) := zrD zrw_cX6_orderOf_61 (i := 16) (by decide +kernel) rfl
theorem dX6_orderOf_79 : decode cX6_orderOf 79 = .ok (.aload_n 0, 1) := zrD zrw_cX6_orderOf_61 (i := 18) (by decide +kernel) rfl
theorem dX6_orderOf_80 : decode cX6_orderOf 80 = .ok (.getfield 28, 3) := zrD zrw_cX6_orderOf_61 (i := 19) (by decide +kernel) rfl
theorem dX6_orderOf_83 : decode cX6_orderOf 83 = .ok (.iload 6, 2) := zrD zrw_cX6_orderOf_61 (i := 22) (by decide +kernel) rfl
theorem dX6_orderOf_85 : decode cX6_orderOf 85 = .ok (.iaload, 1) := zrD zrw_cX6_orderOf_61 (i := 24) (by decide +kernel) rfl
theorem dX6_orderOf_86 : decode cX6_orderOf 86 = .ok (.istore 4, 2) := zrD zrw_cX6_orderOf_61 (i := 25) (by decide +kernel) rfl
theorem dX6_orderOf_88 : decode cX6_orderOf 88 = .ok (.iinc 6 1, 3) := zrD zrw_cX6_orderOf_61 (i := 27) (by decide +kernel) rfl
def zrk_cX6_orderOf_91 : ByteArray := .mk #[167, 255, 185, 42, 180, 0, 28, 42, 180, 0, 19, 29, 46, 21, 5, 4, 160, 0, 8, 21, 4, 167, 0, 7, 21, 4, 4, 96, 79, 132, 3, 255]
theorem zrw_cX6_orderOf_91 : zrW 91 cX6_orderOf zrk_cX6_orderOf_91 := by unfold zrW; decide +kernel
theorem dX6_orderOf_91 : decode cX6_orderOf 91 = .ok (.goto (-71), 3) := zrD zrw_cX6_orderOf_91 (i := 0) (by decide +kernel) rfl
theorem dX6_orderOf_94 : decode cX6_orderOf 94 = .ok (.aload_n 0, 1) := zrD zrw_cX6_orderOf_91 (i := 3) (by decide +kernel) rfl
theorem dX6_orderOf_95 : decode cX6_orderOf 95 = .ok (.getfield 28, 3) := zrD zrw_cX6_orderOf_91 (i := 4) (by decide +kernel) rfl
theorem dX6_orderOf_98 : decode cX6_orderOf 98 = .ok (.aload_n 0, 1) := zrD zrw_cX6_orderOf_91 (i := 7) (by decide +kernel) rfl
theorem dX6_orderOf_99 : decode cX6_orderOf 99 = .ok (.getfield 19, 3) := zrD zrw_cX6_orderOf_91 (i := 8) (by decide +kernel) rfl
theorem dX6_orderOf_102 : decode cX6_orderOf 102 = .ok (.iload_n 3, 1) := zrD zrw_cX6_orderOf_91 (i := 11) (by decide +kernel) rfl
theorem dX6_orderOf_103 : decode cX6_orderOf 103 = .ok (.iaload, 1) := zrD zrw_cX6_orderOf_91 (i := 12) (by decide +kernel) rfl
theorem dX6_orderOf_104 : decode cX6_orderOf 104 = .ok (.iload 5, 2) := zrD zrw_cX6_orderOf_91 (i := 13) (by decide +kernel) rfl
theorem dX6_orderOf_106 : decode cX6_orderOf 106 = .ok (.iconst 1, 1) := zrD zrw_cX6_orderOf_91 (i := 15) (by decide +kernel) rfl
theorem dX6_orderOf_107 : decode cX6_orderOf 107 = .ok (.if_icmp .ne 8, 3) := zrD zrw_cX6_orderOf_91 (i := 16) (by decide +kernel) rfl
theorem dX6_orderOf_110 : decode cX6_orderOf 110 = .ok (.iload 4, 2) := zrD zrw_cX6_orderOf_91 (i := 19) (by decide +kernel) rfl
theorem dX6_orderOf_112 : decode cX6_orderOf 112 = .ok (.goto 7, 3) := zrD zrw_cX6_orderOf_91 (i := 21) (by decide +kernel) rfl
theorem dX6_orderOf_115 : decode cX6_orderOf 115 = .ok (.iload 4, 2) := zrD zrw_cX6_orderOf_91 (i := 24) (by decide +kernel) rfl
theorem dX6_orderOf_117 : decode cX6_orderOf 117 = .ok (.iconst 1, 1) := zrD zrw_cX6_orderOf_91 (i := 26) (by decide +kernel) rfl
theorem dX6_orderOf_118 : decode cX6_orderOf 118 = .ok (.iadd, 1) := zrD zrw_cX6_orderOf_91 (i := 27) (by decide +kernel) rfl
theorem dX6_orderOf_119 : decode cX6_orderOf 119 = .ok (.iastore, 1) := zrD zrw_cX6_orderOf_91 (i := 28) (by decide +kernel) rfl
theorem dX6_orderOf_120 : decode cX6_orderOf 120 = .ok (.iinc 3 (-1), 3) := zrD zrw_cX6_orderOf_91 (i := 29) (by decide +kernel) rfl
def zrk_cX6_orderOf_123 : ByteArray := .mk #[167, 255, 140, 42, 180, 0, 28, 28, 46, 172]
theorem zrw_cX6_orderOf_123 : zrW 123 cX6_orderOf zrk_cX6_orderOf_123 := by unfold zrW; decide +kernel
theorem dX6_orderOf_123 : decode cX6_orderOf 123 = .ok (.goto (-116), 3) := zrD zrw_cX6_orderOf_123 (i := 0) (by decide +kernel) rfl
theorem dX6_orderOf_126 : decode cX6_orderOf 126 = .ok (.aload_n 0, 1) := zrD zrw_cX6_orderOf_123 (i := 3) (by decide +kernel) rfl
theorem dX6_orderOf_127 : decode cX6_orderOf 127 = .ok (.getfield 28, 3) := zrD zrw_cX6_orderOf_123 (i := 4) (by decide +kernel) rfl
theorem dX6_orderOf_130 : decode cX6_orderOf 130 = .ok (.iload_n 2, 1) := zrD zrw_cX6_orderOf_123 (i := 7) (by decide +kernel) rfl
theorem dX6_orderOf_131 : decode cX6_orderOf 131 = .ok (.iaload, 1) := zrD zrw_cX6_orderOf_123 (i := 8) (by decide +kernel) rfl
theorem dX6_orderOf_132 : decode cX6_orderOf 132 = .ok (.ireturn, 1) := zrD zrw_cX6_orderOf_123 (i := 9) (by decide +kernel) rfl
def zrk_cX6_isSource_0 : ByteArray := .mk #[27, 158, 0, 24, 27, 42, 180, 0, 9, 162, 0, 16, 42, 180, 0, 25, 27, 46, 154, 0, 7, 4, 167, 0, 4, 3, 172]
theorem zrw_cX6_isSource_0 : zrW 0 cX6_isSource zrk_cX6_isSource_0 := by unfold zrW; decide +kernel
theorem dX6_isSource_0 : decode cX6_isSource 0 = .ok (.iload_n 1, 1) := zrD zrw_cX6_isSource_0 (i := 0) (by decide +kernel) rfl
theorem dX6_isSource_1 : decode cX6_isSource 1 = .ok (.ifCond .le 24, 3) := zrD zrw_cX6_isSource_0 (i := 1) (by decide +kernel) rfl
theorem dX6_isSource_4 : decode cX6_isSource 4 = .ok (.iload_n 1, 1) := zrD zrw_cX6_isSource_0 (i := 4) (by decide +kernel) rfl
theorem dX6_isSource_5 : decode cX6_isSource 5 = .ok (.aload_n 0, 1) := zrD zrw_cX6_isSource_0 (i := 5) (by decide +kernel) rfl
theorem dX6_isSource_6 : decode cX6_isSource 6 = .ok (.getfield 9, 3) := zrD zrw_cX6_isSource_0 (i := 6) (by decide +kernel) rfl
theorem dX6_isSource_9 : decode cX6_isSource 9 = .ok (.if_icmp .ge 16, 3) := zrD zrw_cX6_isSource_0 (i := 9) (by decide +kernel) rfl
theorem dX6_isSource_12 : decode cX6_isSource 12 = .ok (.aload_n 0, 1) := zrD zrw_cX6_isSource_0 (i := 12) (by decide +kernel) rfl
theorem dX6_isSource_13 : decode cX6_isSource 13 = .ok (.getfield 25, 3) := zrD zrw_cX6_isSource_0 (i := 13) (by decide +kernel) rfl
theorem dX6_isSource_16 : decode cX6_isSource 16 = .ok (.iload_n 1, 1) := zrD zrw_cX6_isSource_0 (i := 16) (by decide +kernel) rfl
theorem dX6_isSource_17 : decode cX6_isSource 17 = .ok (.iaload, 1) := zrD zrw_cX6_isSource_0 (i := 17) (by decide +kernel) rfl
theorem dX6_isSource_18 : decode cX6_isSource 18 = .ok (.ifCond .ne 7, 3) := zrD zrw_cX6_isSource_0 (i := 18) (by decide +kernel) rfl
theorem dX6_isSource_21 : decode cX6_isSource 21 = .ok (.iconst 1, 1) := zrD zrw_cX6_isSource_0 (i := 21) (by decide +kernel) rfl
theorem dX6_isSource_22 : decode cX6_isSource 22 = .ok (.goto 4, 3) := zrD zrw_cX6_isSource_0 (i := 22) (by decide +kernel) rfl
theorem dX6_isSource_25 : decode cX6_isSource 25 = .ok (.iconst 0, 1) := zrD zrw_cX6_isSource_0 (i := 25) (by decide +kernel) rfl
theorem dX6_isSource_26 : decode cX6_isSource 26 = .ok (.ireturn, 1) := zrD zrw_cX6_isSource_0 (i := 26) (by decide +kernel) rfl
def zrk_cX6_sources_0 : ByteArray := .mk #[3, 60, 4, 61, 28, 42, 180, 0, 9, 162, 0, 25, 42, 180, 0, 25, 28, 46, 154, 0, 10, 27, 28, 184, 0, 44, 128, 60, 132, 2, 1]
theorem zrw_cX6_sources_0 : zrW 0 cX6_sources zrk_cX6_sources_0 := by unfold zrW; decide +kernel
theorem dX6_sources_0 : decode cX6_sources 0 = .ok (.iconst 0, 1) := zrD zrw_cX6_sources_0 (i := 0) (by decide +kernel) rfl
theorem dX6_sources_1 : decode cX6_sources 1 = .ok (.istore_n 1, 1) := zrD zrw_cX6_sources_0 (i := 1) (by decide +kernel) rfl
theorem dX6_sources_2 : decode cX6_sources 2 = .ok (.iconst 1, 1) := zrD zrw_cX6_sources_0 (i := 2) (by decide +kernel) rfl
theorem dX6_sources_3 : decode cX6_sources 3 = .ok (.istore_n 2, 1) := zrD zrw_cX6_sources_0 (i := 3) (by decide +kernel) rfl
theorem dX6_sources_4 : decode cX6_sources 4 = .ok (.iload_n 2, 1) := zrD zrw_cX6_sources_0 (i := 4) (by decide +kernel) rfl
theorem dX6_sources_5 : decode cX6_sources 5 = .ok (.aload_n 0, 1) := zrD zrw_cX6_sources_0 (i := 5) (by decide +kernel) rfl
theorem dX6_sources_6 : decode cX6_sources 6 = .ok (.getfield 9, 3) := zrD zrw_cX6_sources_0 (i := 6) (by decide +kernel) rfl
theorem dX6_sources_9 : decode cX6_sources 9 = .ok (.if_icmp .ge 25, 3) := zrD zrw_cX6_sources_0 (i := 9) (by decide +kernel) rfl
theorem dX6_sources_12 : decode cX6_sources 12 = .ok (.aload_n 0, 1) := zrD zrw_cX6_sources_0 (i := 12) (by decide +kernel) rfl
theorem dX6_sources_13 : decode cX6_sources 13 = .ok (.getfield 25, 3) := zrD zrw_cX6_sources_0 (i := 13) (by decide +kernel) rfl
theorem dX6_sources_16 : decode cX6_sources 16 = .ok (.iload_n 2, 1) := zrD zrw_cX6_sources_0 (i := 16) (by decide +kernel) rfl
theorem dX6_sources_17 : decode cX6_sources 17 = .ok (.iaload, 1) := zrD zrw_cX6_sources_0 (i := 17) (by decide +kernel) rfl
theorem dX6_sources_18 : decode cX6_sources 18 = .ok (.ifCond .ne 10, 3) := zrD zrw_cX6_sources_0 (i := 18) (by decide +kernel) rfl
theorem dX6_sources_21 : decode cX6_sources 21 = .ok (.iload_n 1, 1) := zrD zrw_cX6_sources_0 (i := 21) (by decide +kernel) rfl
theorem dX6_sources_22 : decode cX6_sources 22 = .ok (.iload_n 2, 1) := zrD zrw_cX6_sources_0 (i := 22) (by decide +kernel) rfl
theorem dX6_sources_23 : decode cX6_sources 23 = .ok (.invokestatic 44, 3) := zrD zrw_cX6_sources_0 (i := 23) (by decide +kernel) rfl
theorem dX6_sources_26 : decode cX6_sources 26 = .ok (.ior, 1) := zrD zrw_cX6_sources_0 (i := 26) (by decide +kernel) rfl
theorem dX6_sources_27 : decode cX6_sources 27 = .ok (.istore_n 1, 1) := zrD zrw_cX6_sources_0 (i := 27) (by decide +kernel) rfl
theorem dX6_sources_28 : decode cX6_sources 28 = .ok (.iinc 2 1, 3) := zrD zrw_cX6_sources_0 (i := 28) (by decide +kernel) rfl
def zrk_cX6_sources_31 : ByteArray := .mk #[167, 255, 229, 27, 172]
theorem zrw_cX6_sources_31 : zrW 31 cX6_sources zrk_cX6_sources_31 := by unfold zrW; decide +kernel
theorem dX6_sources_31 : decode cX6_sources 31 = .ok (.goto (-27), 3) := zrD zrw_cX6_sources_31 (i := 0) (by decide +kernel) rfl
theorem dX6_sources_34 : decode cX6_sources 34 = .ok (.iload_n 1, 1) := zrD zrw_cX6_sources_31 (i := 3) (by decide +kernel) rfl
theorem dX6_sources_35 : decode cX6_sources 35 = .ok (.ireturn, 1) := zrD zrw_cX6_sources_31 (i := 4) (by decide +kernel) rfl
def zrk_cX6_comingBy_0 : ByteArray := .mk #[3, 61, 3, 62, 29, 42, 180, 0, 9, 162, 0, 29, 42, 180, 0, 31, 29, 46, 27, 184, 0, 63, 153, 0, 10, 28, 29, 184, 0, 44, 128, 61]
theorem zrw_cX6_comingBy_0 : zrW 0 cX6_comingBy zrk_cX6_comingBy_0 := by unfold zrW; decide +kernel
theorem dX6_comingBy_0 : decode cX6_comingBy 0 = .ok (.iconst 0, 1) := zrD zrw_cX6_comingBy_0 (i := 0) (by decide +kernel) rfl
theorem dX6_comingBy_1 : decode cX6_comingBy 1 = .ok (.istore_n 2, 1) := zrD zrw_cX6_comingBy_0 (i := 1) (by decide +kernel) rfl
theorem dX6_comingBy_2 : decode cX6_comingBy 2 = .ok (.iconst 0, 1) := zrD zrw_cX6_comingBy_0 (i := 2) (by decide +kernel) rfl
theorem dX6_comingBy_3 : decode cX6_comingBy 3 = .ok (.istore_n 3, 1) := zrD zrw_cX6_comingBy_0 (i := 3) (by decide +kernel) rfl
theorem dX6_comingBy_4 : decode cX6_comingBy 4 = .ok (.iload_n 3, 1) := zrD zrw_cX6_comingBy_0 (i := 4) (by decide +kernel) rfl
theorem dX6_comingBy_5 : decode cX6_comingBy 5 = .ok (.aload_n 0, 1) := zrD zrw_cX6_comingBy_0 (i := 5) (by decide +kernel) rfl
theorem dX6_comingBy_6 : decode cX6_comingBy 6 = .ok (.getfield 9, 3) := zrD zrw_cX6_comingBy_0 (i := 6) (by decide +kernel) rfl
theorem dX6_comingBy_9 : decode cX6_comingBy 9 = .ok (.if_icmp .ge 29, 3) := zrD zrw_cX6_comingBy_0 (i := 9) (by decide +kernel) rfl
theorem dX6_comingBy_12 : decode cX6_comingBy 12 = .ok (.aload_n 0, 1) := zrD zrw_cX6_comingBy_0 (i := 12) (by decide +kernel) rfl
theorem dX6_comingBy_13 : decode cX6_comingBy 13 = .ok (.getfield 31, 3) := zrD zrw_cX6_comingBy_0 (i := 13) (by decide +kernel) rfl
theorem dX6_comingBy_16 : decode cX6_comingBy 16 = .ok (.iload_n 3, 1) := zrD zrw_cX6_comingBy_0 (i := 16) (by decide +kernel) rfl
theorem dX6_comingBy_17 : decode cX6_comingBy 17 = .ok (.iaload, 1) := zrD zrw_cX6_comingBy_0 (i := 17) (by decide +kernel) rfl
theorem dX6_comingBy_18 : decode cX6_comingBy 18 = .ok (.iload_n 1, 1) := zrD zrw_cX6_comingBy_0 (i := 18) (by decide +kernel) rfl
theorem dX6_comingBy_19 : decode cX6_comingBy 19 = .ok (.invokestatic 63, 3) := zrD zrw_cX6_comingBy_0 (i := 19) (by decide +kernel) rfl
theorem dX6_comingBy_22 : decode cX6_comingBy 22 = .ok (.ifCond .eq 10, 3) := zrD zrw_cX6_comingBy_0 (i := 22) (by decide +kernel) rfl
theorem dX6_comingBy_25 : decode cX6_comingBy 25 = .ok (.iload_n 2, 1) := zrD zrw_cX6_comingBy_0 (i := 25) (by decide +kernel) rfl
theorem dX6_comingBy_26 : decode cX6_comingBy 26 = .ok (.iload_n 3, 1) := zrD zrw_cX6_comingBy_0 (i := 26) (by decide +kernel) rfl
theorem dX6_comingBy_27 : decode cX6_comingBy 27 = .ok (.invokestatic 44, 3) := zrD zrw_cX6_comingBy_0 (i := 27) (by decide +kernel) rfl
theorem dX6_comingBy_30 : decode cX6_comingBy 30 = .ok (.ior, 1) := zrD zrw_cX6_comingBy_0 (i := 30) (by decide +kernel) rfl
theorem dX6_comingBy_31 : decode cX6_comingBy 31 = .ok (.istore_n 2, 1) := zrD zrw_cX6_comingBy_0 (i := 31) (by decide +kernel) rfl
def zrk_cX6_comingBy_32 : ByteArray := .mk #[132, 3, 1, 167, 255, 225, 28, 172]
theorem zrw_cX6_comingBy_32 : zrW 32 cX6_comingBy zrk_cX6_comingBy_32 := by unfold zrW; decide +kernel
theorem dX6_comingBy_32 : decode cX6_comingBy 32 = .ok (.iinc 3 1, 3) := zrD zrw_cX6_comingBy_32 (i := 0) (by decide +kernel) rfl
theorem dX6_comingBy_35 : decode cX6_comingBy 35 = .ok (.goto (-31), 3) := zrD zrw_cX6_comingBy_32 (i := 3) (by decide +kernel) rfl
theorem dX6_comingBy_38 : decode cX6_comingBy 38 = .ok (.iload_n 2, 1) := zrD zrw_cX6_comingBy_32 (i := 6) (by decide +kernel) rfl
theorem dX6_comingBy_39 : decode cX6_comingBy 39 = .ok (.ireturn, 1) := zrD zrw_cX6_comingBy_32 (i := 7) (by decide +kernel) rfl
def zrk_cX6_greatestFar_0 : ByteArray := .mk #[3, 60, 3, 61, 28, 42, 180, 0, 9, 162, 0, 20, 27, 42, 180, 0, 22, 28, 46, 184, 0, 67, 60, 132, 2, 1, 167, 255, 234, 27, 172]
theorem zrw_cX6_greatestFar_0 : zrW 0 cX6_greatestFar zrk_cX6_greatestFar_0 := by unfold zrW; decide +kernel
theorem dX6_greatestFar_0 : decode cX6_greatestFar 0 = .ok (.iconst 0, 1) := zrD zrw_cX6_greatestFar_0 (i := 0) (by decide +kernel) rfl
theorem dX6_greatestFar_1 : decode cX6_greatestFar 1 = .ok (.istore_n 1, 1) := zrD zrw_cX6_greatestFar_0 (i := 1) (by decide +kernel) rfl
theorem dX6_greatestFar_2 : decode cX6_greatestFar 2 = .ok (.iconst 0, 1) := zrD zrw_cX6_greatestFar_0 (i := 2) (by decide +kernel) rfl
theorem dX6_greatestFar_3 : decode cX6_greatestFar 3 = .ok (.istore_n 2, 1) := zrD zrw_cX6_greatestFar_0 (i := 3) (by decide +kernel) rfl
theorem dX6_greatestFar_4 : decode cX6_greatestFar 4 = .ok (.iload_n 2, 1) := zrD zrw_cX6_greatestFar_0 (i := 4) (by decide +kernel) rfl
theorem dX6_greatestFar_5 : decode cX6_greatestFar 5 = .ok (.aload_n 0, 1) := zrD zrw_cX6_greatestFar_0 (i := 5) (by decide +kernel) rfl
theorem dX6_greatestFar_6 : decode cX6_greatestFar 6 = .ok (.getfield 9, 3) := zrD zrw_cX6_greatestFar_0 (i := 6) (by decide +kernel) rfl
theorem dX6_greatestFar_9 : decode cX6_greatestFar 9 = .ok (.if_icmp .ge 20, 3) := zrD zrw_cX6_greatestFar_0 (i := 9) (by decide +kernel) rfl
theorem dX6_greatestFar_12 : decode cX6_greatestFar 12 = .ok (.iload_n 1, 1) := zrD zrw_cX6_greatestFar_0 (i := 12) (by decide +kernel) rfl
theorem dX6_greatestFar_13 : decode cX6_greatestFar 13 = .ok (.aload_n 0, 1) := zrD zrw_cX6_greatestFar_0 (i := 13) (by decide +kernel) rfl
theorem dX6_greatestFar_14 : decode cX6_greatestFar 14 = .ok (.getfield 22, 3) := zrD zrw_cX6_greatestFar_0 (i := 14) (by decide +kernel) rfl
theorem dX6_greatestFar_17 : decode cX6_greatestFar 17 = .ok (.iload_n 2, 1) := zrD zrw_cX6_greatestFar_0 (i := 17) (by decide +kernel) rfl
theorem dX6_greatestFar_18 : decode cX6_greatestFar 18 = .ok (.iaload, 1) := zrD zrw_cX6_greatestFar_0 (i := 18) (by decide +kernel) rfl
theorem dX6_greatestFar_19 : decode cX6_greatestFar 19 = .ok (.invokestatic 67, 3) := zrD zrw_cX6_greatestFar_0 (i := 19) (by decide +kernel) rfl
theorem dX6_greatestFar_22 : decode cX6_greatestFar 22 = .ok (.istore_n 1, 1) := zrD zrw_cX6_greatestFar_0 (i := 22) (by decide +kernel) rfl
theorem dX6_greatestFar_23 : decode cX6_greatestFar 23 = .ok (.iinc 2 1, 3) := zrD zrw_cX6_greatestFar_0 (i := 23) (by decide +kernel) rfl
theorem dX6_greatestFar_26 : decode cX6_greatestFar 26 = .ok (.goto (-22), 3) := zrD zrw_cX6_greatestFar_0 (i := 26) (by decide +kernel) rfl
theorem dX6_greatestFar_29 : decode cX6_greatestFar 29 = .ok (.iload_n 1, 1) := zrD zrw_cX6_greatestFar_0 (i := 29) (by decide +kernel) rfl
theorem dX6_greatestFar_30 : decode cX6_greatestFar 30 = .ok (.ireturn, 1) := zrD zrw_cX6_greatestFar_0 (i := 30) (by decide +kernel) rfl
def zrk_cX6_deepest_0 : ByteArray := .mk #[3, 60, 4, 61, 28, 42, 180, 0, 9, 162, 0, 23, 27, 42, 180, 0, 31, 28, 46, 184, 0, 73, 184, 0, 67, 60, 132, 2, 1, 167, 255, 231]
theorem zrw_cX6_deepest_0 : zrW 0 cX6_deepest zrk_cX6_deepest_0 := by unfold zrW; decide +kernel
theorem dX6_deepest_0 : decode cX6_deepest 0 = .ok (.iconst 0, 1) := zrD zrw_cX6_deepest_0 (i := 0) (by decide +kernel) rfl
theorem dX6_deepest_1 : decode cX6_deepest 1 = .ok (.istore_n 1, 1) := zrD zrw_cX6_deepest_0 (i := 1) (by decide +kernel) rfl
theorem dX6_deepest_2 : decode cX6_deepest 2 = .ok (.iconst 1, 1) := zrD zrw_cX6_deepest_0 (i := 2) (by decide +kernel) rfl
theorem dX6_deepest_3 : decode cX6_deepest 3 = .ok (.istore_n 2, 1) := zrD zrw_cX6_deepest_0 (i := 3) (by decide +kernel) rfl
theorem dX6_deepest_4 : decode cX6_deepest 4 = .ok (.iload_n 2, 1) := zrD zrw_cX6_deepest_0 (i := 4) (by decide +kernel) rfl
theorem dX6_deepest_5 : decode cX6_deepest 5 = .ok (.aload_n 0, 1) := zrD zrw_cX6_deepest_0 (i := 5) (by decide +kernel) rfl
theorem dX6_deepest_6 : decode cX6_deepest 6 = .ok (.getfield 9, 3) := zrD zrw_cX6_deepest_0 (i := 6) (by decide +kernel) rfl
theorem dX6_deepest_9 : decode cX6_deepest 9 = .ok (.if_icmp .ge 23, 3) := zrD zrw_cX6_deepest_0 (i := 9) (by decide +kernel) rfl
theorem dX6_deepest_12 : decode cX6_deepest 12 = .ok (.iload_n 1, 1) := zrD zrw_cX6_deepest_0 (i := 12) (by decide +kernel) rfl
theorem dX6_deepest_13 : decode cX6_deepest 13 = .ok (.aload_n 0, 1) := zrD zrw_cX6_deepest_0 (i := 13) (by decide +kernel) rfl
theorem dX6_deepest_14 : decode cX6_deepest 14 = .ok (.getfield 31, 3) := zrD zrw_cX6_deepest_0 (i := 14) (by decide +kernel) rfl
theorem dX6_deepest_17 : decode cX6_deepest 17 = .ok (.iload_n 2, 1) := zrD zrw_cX6_deepest_0 (i := 17) (by decide +kernel) rfl
theorem dX6_deepest_18 : decode cX6_deepest 18 = .ok (.iaload, 1) := zrD zrw_cX6_deepest_0 (i := 18) (by decide +kernel) rfl
theorem dX6_deepest_19 : decode cX6_deepest 19 = .ok (.invokestatic 73, 3) := zrD zrw_cX6_deepest_0 (i := 19) (by decide +kernel) rfl
theorem dX6_deepest_22 : decode cX6_deepest 22 = .ok (.invokestatic 67, 3) := zrD zrw_cX6_deepest_0 (i := 22) (by decide +kernel) rfl
theorem dX6_deepest_25 : decode cX6_deepest 25 = .ok (.istore_n 1, 1) := zrD zrw_cX6_deepest_0 (i := 25) (by decide +kernel) rfl
theorem dX6_deepest_26 : decode cX6_deepest 26 = .ok (.iinc 2 1, 3) := zrD zrw_cX6_deepest_0 (i := 26) (by decide +kernel) rfl
theorem dX6_deepest_29 : decode cX6_deepest 29 = .ok (.goto (-25), 3) := zrD zrw_cX6_deepest_0 (i := 29) (by decide +kernel) rfl
def zrk_cX6_deepest_32 : ByteArray := .mk #[27, 172]
theorem zrw_cX6_deepest_32 : zrW 32 cX6_deepest zrk_cX6_deepest_32 := by unfold zrW; decide +kernel
theorem dX6_deepest_32 : decode cX6_deepest 32 = .ok (.iload_n 1, 1) := zrD zrw_cX6_deepest_32 (i := 0) (by decide +kernel) rfl
theorem dX6_deepest_33 : decode cX6_deepest 33 = .ok (.ireturn, 1) := zrD zrw_cX6_deepest_32 (i := 1) (by decide +kernel) rfl
def zrk_cX6_tourOf_0 : ByteArray := .mk #[3, 61, 3, 62, 4, 54, 4, 21, 4, 42, 180, 0, 9, 162, 0, 40, 27, 21, 4, 184, 0, 63, 153, 0, 25, 28, 42, 180, 0, 31, 21, 4]
theorem zrw_cX6_tourOf_0 : zrW 0 cX6_tourOf zrk_cX6_tourOf_0 := by unfold zrW; decide +kernel
theorem dX6_tourOf_0 : decode cX6_tourOf 0 = .ok (.iconst 0, 1) := zrD zrw_cX6_tourOf_0 (i := 0) (by decide +kernel) rfl
theorem dX6_tourOf_1 : decode cX6_tourOf 1 = .ok (.istore_n 2, 1) := zrD zrw_cX6_tourOf_0 (i := 1) (by decide +kernel) rfl
theorem dX6_tourOf_2 : decode cX6_tourOf 2 = .ok (.iconst 0, 1) := zrD zrw_cX6_tourOf_0 (i := 2) (by decide +kernel) rfl
theorem dX6_tourOf_3 : decode cX6_tourOf 3 = .ok (.istore_n 3, 1) := zrD zrw_cX6_tourOf_0 (i := 3) (by decide +kernel) rfl
theorem dX6_tourOf_4 : decode cX6_tourOf 4 = .ok (.iconst 1, 1) := zrD zrw_cX6_tourOf_0 (i := 4) (by decide +kernel) rfl
theorem dX6_tourOf_5 : decode cX6_tourOf 5 = .ok (.istore 4, 2) := zrD zrw_cX6_tourOf_0 (i := 5) (by decide +kernel) rfl
theorem dX6_tourOf_7 : decode cX6_tourOf 7 = .ok (.iload 4, 2) := zrD zrw_cX6_tourOf_0 (i := 7) (by decide +kernel) rfl
theorem dX6_tourOf_9 : decode cX6_tourOf 9 = .ok (.aload_n 0, 1) := zrD zrw_cX6_tourOf_0 (i := 9) (by decide +kernel) rfl
theorem dX6_tourOf_10 : decode cX6_tourOf 10 = .ok (.getfield 9, 3) := zrD zrw_cX6_tourOf_0 (i := 10) (by decide +kernel) rfl
theorem dX6_tourOf_13 : decode cX6_tourOf 13 = .ok (.if_icmp .ge 40, 3) := zrD zrw_cX6_tourOf_0 (i := 13) (by decide +kernel) rfl
theorem dX6_tourOf_16 : decode cX6_tourOf 16 = .ok (.iload_n 1, 1) := zrD zrw_cX6_tourOf_0 (i := 16) (by decide +kernel) rfl
theorem dX6_tourOf_17 : decode cX6_tourOf 17 = .ok (.iload 4, 2) := zrD zrw_cX6_tourOf_0 (i := 17) (by decide +kernel) rfl
theorem dX6_tourOf_19 : decode cX6_tourOf 19 = .ok (.invokestatic 63, 3) := zrD zrw_cX6_tourOf_0 (i := 19) (by decide +kernel) rfl
theorem dX6_tourOf_22 : decode cX6_tourOf 22 = .ok (.ifCond .eq 25, 3) := zrD zrw_cX6_tourOf_0 (i := 22) (by decide +kernel) rfl
theorem dX6_tourOf_25 : decode cX6_tourOf 25 = .ok (.iload_n 2, 1) := zrD zrw_cX6_tourOf_0 (i := 25) (by decide +kernel) rfl
theorem dX6_tourOf_26 : decode cX6_tourOf 26 = .ok (.aload_n 0, 1) := zrD zrw_cX6_tourOf_0 (i := 26) (by decide +kernel) rfl
theorem dX6_tourOf_27 : decode cX6_tourOf 27 = .ok (.getfield 31, 3) := zrD zrw_cX6_tourOf_0 (i := 27) (by decide +kernel) rfl
theorem dX6_tourOf_30 : decode cX6_tourOf 30 = .ok (.iload 4, 2) := zrD zrw_cX6_tourOf_0 (i := 30) (by decide +kernel) rfl
def zrk_cX6_tourOf_32 : ByteArray := .mk #[46, 128, 61, 29, 42, 180, 0, 22, 21, 4, 46, 184, 0, 67, 62, 132, 4, 1, 167, 255, 213, 3, 54, 4, 4, 54, 5, 21, 5, 42]
theorem zrw_cX6_tourOf_32 : zrW 32 cX6_tourOf zrk_cX6_tourOf_32 := by unfold zrW; decide +kernel
theorem dX6_tourOf_32 : decode cX6_tourOf 32 = .ok (.iaload, 1) := zrD zrw_cX6_tourOf_32 (i := 0) (by decide +kernel) rfl
theorem dX6_tourOf_33 : decode cX6_tourOf 33 = .ok (.ior, 1) := zrD zrw_cX6_tourOf_32 (i := 1) (by decide +kernel) rfl
theorem dX6_tourOf_34 : decode cX6_tourOf 34 = .ok (.istore_n 2, 1) := zrD zrw_cX6_tourOf_32 (i := 2) (by decide +kernel) rfl
theorem dX6_tourOf_35 : decode cX6_tourOf 35 = .ok (.iload_n 3, 1) := zrD zrw_cX6_tourOf_32 (i := 3) (by decide +kernel) rfl
theorem dX6_tourOf_36 : decode cX6_tourOf 36 = .ok (.aload_n 0, 1) := zrD zrw_cX6_tourOf_32 (i := 4) (by decide +kernel) rfl
theorem dX6_tourOf_37 : decode cX6_tourOf 37 = .ok (.getfield 22, 3) := zrD zrw_cX6_tourOf_32 (i := 5) (by decide +kernel) rfl
theorem dX6_tourOf_40 : decode cX6_tourOf 40 = .ok (.iload 4, 2) := zrD zrw_cX6_tourOf_32 (i := 8) (by decide +kernel) rfl
theorem dX6_tourOf_42 : decode cX6_tourOf 42 = .ok (.iaload, 1) := zrD zrw_cX6_tourOf_32 (i := 10) (by decide +kernel) rfl
theorem dX6_tourOf_43 : decode cX6_tourOf 43 = .ok (.invokestatic 67, 3) := zrD zrw_cX6_tourOf_32 (i := 11) (by decide +kernel) rfl
theorem dX6_tourOf_46 : decode cX6_tourOf 46 = .ok (.istore_n 3, 1) := zrD zrw_cX6_tourOf_32 (i := 14) (by decide +kernel) rfl
theorem dX6_tourOf_47 : decode cX6_tourOf 47 = .ok (.iinc 4 1, 3) := zrD zrw_cX6_tourOf_32 (i := 15) (by decide +kernel) rfl
theorem dX6_tourOf_50 : decode cX6_tourOf 50 = .ok (.goto (-43), 3) := zrD zrw_cX6_tourOf_32 (i := 18) (by decide +kernel) rfl
theorem dX6_tourOf_53 : decode cX6_tourOf 53 = .ok (.iconst 0, 1) := zrD zrw_cX6_tourOf_32 (i := 21) (by decide +kernel) rfl
theorem dX6_tourOf_54 : decode cX6_tourOf 54 = .ok (.istore 4, 2) := zrD zrw_cX6_tourOf_32 (i := 22) (by decide +kernel) rfl
theorem dX6_tourOf_56 : decode cX6_tourOf 56 = .ok (.iconst 1, 1) := zrD zrw_cX6_tourOf_32 (i := 24) (by decide +kernel) rfl
theorem dX6_tourOf_57 : decode cX6_tourOf 57 = .ok (.istore 5, 2) := zrD zrw_cX6_tourOf_32 (i := 25) (by decide +kernel) rfl
theorem dX6_tourOf_59 : decode cX6_tourOf 59 = .ok (.iload 5, 2) := zrD zrw_cX6_tourOf_32 (i := 27) (by decide +kernel) rfl
theorem dX6_tourOf_61 : decode cX6_tourOf 61 = .ok (.aload_n 0, 1) := zrD zrw_cX6_tourOf_32 (i := 29) (by decide +kernel) rfl
def zrk_cX6_tourOf_62 : ByteArray := .mk #[180, 0, 9, 162, 0, 30, 28, 21, 5, 184, 0, 63, 153, 0, 15, 21, 4, 42, 180, 0, 15, 21, 5, 46, 96, 54, 4, 132, 5, 1]
theorem zrw_cX6_tourOf_62 : zrW 62 cX6_tourOf zrk_cX6_tourOf_62 := by unfold zrW; decide +kernel
theorem dX6_tourOf_62 : decode cX6_tourOf 62 = .ok (.getfield 9, 3) := zrD zrw_cX6_tourOf_62 (i := 0) (by decide +kernel) rfl
theorem dX6_tourOf_65 : decode cX6_tourOf 65 = .ok (.if_icmp .ge 30, 3) := zrD zrw_cX6_tourOf_62 (i := 3) (by decide +kernel) rfl
theorem dX6_tourOf_68 : decode cX6_tourOf 68 = .ok (.iload_n 2, 1) := zrD zrw_cX6_tourOf_62 (i := 6) (by decide +kernel) rfl
theorem dX6_tourOf_69 : decode cX6_tourOf 69 = .ok (.iload 5, 2) := zrD zrw_cX6_tourOf_62 (i := 7) (by decide +kernel) rfl
theorem dX6_tourOf_71 : decode cX6_tourOf 71 = .ok (.invokestatic 63, 3) := zrD zrw_cX6_tourOf_62 (i := 9) (by decide +kernel) rfl
theorem dX6_tourOf_74 : decode cX6_tourOf 74 = .ok (.ifCond .eq 15, 3) := zrD zrw_cX6_tourOf_62 (i := 12) (by decide +kernel) rfl
theorem dX6_tourOf_77 : decode cX6_tourOf 77 = .ok (.iload 4, 2) := zrD zrw_cX6_tourOf_62 (i := 15) (by decide +kernel) rfl
theorem dX6_tourOf_79 : decode cX6_tourOf 79 = .ok (.aload_n 0, 1) := zrD zrw_cX6_tourOf_62 (i := 17) (by decide +kernel) rfl
theorem dX6_tourOf_80 : decode cX6_tourOf 80 = .ok (.getfield 15, 3) := zrD zrw_cX6_tourOf_62 (i := 18) (by decide +kernel) rfl
theorem dX6_tourOf_83 : decode cX6_tourOf 83 = .ok (.iload 5, 2) := zrD zrw_cX6_tourOf_62 (i := 21) (by decide +kernel) rfl
theorem dX6_tourOf_85 : decode cX6_tourOf 85 = .ok (.iaload, 1) := zrD zrw_cX6_tourOf_62 (i := 23) (by decide +kernel) rfl
theorem dX6_tourOf_86 : decode cX6_tourOf 86 = .ok (.iadd, 1) := zrD zrw_cX6_tourOf_62 (i := 24) (by decide +kernel) rfl
theorem dX6_tourOf_87 : decode cX6_tourOf 87 = .ok (.istore 4, 2) := zrD zrw_cX6_tourOf_62 (i := 25) (by decide +kernel) rfl
theorem dX6_tourOf_89 : decode cX6_tourOf 89 = .ok (.iinc 5 1, 3) := zrD zrw_cX6_tourOf_62 (i := 27) (by decide +kernel) rfl
def zrk_cX6_tourOf_92 : ByteArray := .mk #[167, 255, 223, 5, 21, 4, 104, 29, 100, 172]
theorem zrw_cX6_tourOf_92 : zrW 92 cX6_tourOf zrk_cX6_tourOf_92 := by unfold zrW; decide +kernel
theorem dX6_tourOf_92 : decode cX6_tourOf 92 = .ok (.goto (-33), 3) := zrD zrw_cX6_tourOf_92 (i := 0) (by decide +kernel) rfl
theorem dX6_tourOf_95 : decode cX6_tourOf 95 = .ok (.iconst 2, 1) := zrD zrw_cX6_tourOf_92 (i := 3) (by decide +kernel) rfl
theorem dX6_tourOf_96 : decode cX6_tourOf 96 = .ok (.iload 4, 2) := zrD zrw_cX6_tourOf_92 (i := 4) (by decide +kernel) rfl
theorem dX6_tourOf_98 : decode cX6_tourOf 98 = .ok (.imul, 1) := zrD zrw_cX6_tourOf_92 (i := 6) (by decide +kernel) rfl
theorem dX6_tourOf_99 : decode cX6_tourOf 99 = .ok (.iload_n 3, 1) := zrD zrw_cX6_tourOf_92 (i := 7) (by decide +kernel) rfl
theorem dX6_tourOf_100 : decode cX6_tourOf 100 = .ok (.isub, 1) := zrD zrw_cX6_tourOf_92 (i := 8) (by decide +kernel) rfl
theorem dX6_tourOf_101 : decode cX6_tourOf 101 = .ok (.ireturn, 1) := zrD zrw_cX6_tourOf_92 (i := 9) (by decide +kernel) rfl
def zrk_cX6_meeting_0 : ByteArray := .mk #[42, 180, 0, 31, 27, 46, 42, 180, 0, 31, 28, 46, 126, 62, 3, 54, 4, 4, 54, 5, 21, 5, 42, 180, 0, 9, 162, 0, 39, 29, 21, 5]
theorem zrw_cX6_meeting_0 : zrW 0 cX6_meeting zrk_cX6_meeting_0 := by unfold zrW; decide +kernel
theorem dX6_meeting_0 : decode cX6_meeting 0 = .ok (.aload_n 0, 1) := zrD zrw_cX6_meeting_0 (i := 0) (by decide +kernel) rfl
theorem dX6_meeting_1 : decode cX6_meeting 1 = .ok (.getfield 31, 3) := zrD zrw_cX6_meeting_0 (i := 1) (by decide +kernel) rfl
theorem dX6_meeting_4 : decode cX6_meeting 4 = .ok (.iload_n 1, 1) := zrD zrw_cX6_meeting_0 (i := 4) (by decide +kernel) rfl
theorem dX6_meeting_5 : decode cX6_meeting 5 = .ok (.iaload, 1) := zrD zrw_cX6_meeting_0 (i := 5) (by decide +kernel) rfl
theorem dX6_meeting_6 : decode cX6_meeting 6 = .ok (.aload_n 0, 1) := zrD zrw_cX6_meeting_0 (i := 6) (by decide +kernel) rfl
theorem dX6_meeting_7 : decode cX6_meeting 7 = .ok (.getfield 31, 3) := zrD zrw_cX6_meeting_0 (i := 7) (by decide +kernel) rfl
theorem dX6_meeting_10 : decode cX6_meeting 10 = .ok (.iload_n 2, 1) := zrD zrw_cX6_meeting_0 (i := 10) (by decide +kernel) rfl
theorem dX6_meeting_11 : decode cX6_meeting 11 = .ok (.iaload, 1) := zrD zrw_cX6_meeting_0 (i := 11) (by decide +kernel) rfl
theorem dX6_meeting_12 : decode cX6_meeting 12 = .ok (.iand, 1) := zrD zrw_cX6_meeting_0 (i := 12) (by decide +kernel) rfl
theorem dX6_meeting_13 : decode cX6_meeting 13 = .ok (.istore_n 3, 1) := zrD zrw_cX6_meeting_0 (i := 13) (by decide +kernel) rfl
theorem dX6_meeting_14 : decode cX6_meeting 14 = .ok (.iconst 0, 1) := zrD zrw_cX6_meeting_0 (i := 14) (by decide +kernel) rfl
theorem dX6_meeting_15 : decode cX6_meeting 15 = .ok (.istore 4, 2) := zrD zrw_cX6_meeting_0 (i := 15) (by decide +kernel) rfl
theorem dX6_meeting_17 : decode cX6_meeting 17 = .ok (.iconst 1, 1) := zrD zrw_cX6_meeting_0 (i := 17) (by decide +kernel) rfl
theorem dX6_meeting_18 : decode cX6_meeting 18 = .ok (.istore 5, 2) := zrD zrw_cX6_meeting_0 (i := 18) (by decide +kernel) rfl
theorem dX6_meeting_20 : decode cX6_meeting 20 = .ok (.iload 5, 2) := zrD zrw_cX6_meeting_0 (i := 20) (by decide +kernel) rfl
theorem dX6_meeting_22 : decode cX6_meeting 22 = .ok (.aload_n 0, 1) := zrD zrw_cX6_meeting_0 (i := 22) (by decide +kernel) rfl
theorem dX6_meeting_23 : decode cX6_meeting 23 = .ok (.getfield 9, 3) := zrD zrw_cX6_meeting_0 (i := 23) (by decide +kernel) rfl
theorem dX6_meeting_26 : decode cX6_meeting 26 = .ok (.if_icmp .ge 39, 3) := zrD zrw_cX6_meeting_0 (i := 26) (by decide +kernel) rfl
theorem dX6_meeting_29 : decode cX6_meeting 29 = .ok (.iload_n 3, 1) := zrD zrw_cX6_meeting_0 (i := 29) (by decide +kernel) rfl
theorem dX6_meeting_30 : decode cX6_meeting 30 = .ok (.iload 5, 2) := zrD zrw_cX6_meeting_0 (i := 30) (by decide +kernel) rfl
def zrk_cX6_meeting_32 : ByteArray := .mk #[184, 0, 63, 153, 0, 24, 42, 180, 0, 22, 21, 5, 46, 42, 180, 0, 22, 21, 4, 46, 164, 0, 7, 21, 5, 54, 4, 132, 5, 1]
theorem zrw_cX6_meeting_32 : zrW 32 cX6_meeting zrk_cX6_meeting_32 := by unfold zrW; decide +kernel
theorem dX6_meeting_32 : decode cX6_meeting 32 = .ok (.invokestatic 63, 3) := zrD zrw_cX6_meeting_32 (i := 0) (by decide +kernel) rfl
theorem dX6_meeting_35 : decode cX6_meeting 35 = .ok (.ifCond .eq 24, 3) := zrD zrw_cX6_meeting_32 (i := 3) (by decide +kernel) rfl
theorem dX6_meeting_38 : decode cX6_meeting 38 = .ok (.aload_n 0, 1) := zrD zrw_cX6_meeting_32 (i := 6) (by decide +kernel) rfl
theorem dX6_meeting_39 : decode cX6_meeting 39 = .ok (.getfield 22, 3) := zrD zrw_cX6_meeting_32 (i := 7) (by decide +kernel) rfl
theorem dX6_meeting_42 : decode cX6_meeting 42 = .ok (.iload 5, 2) := zrD zrw_cX6_meeting_32 (i := 10) (by decide +kernel) rfl
theorem dX6_meeting_44 : decode cX6_meeting 44 = .ok (.iaload, 1) := zrD zrw_cX6_meeting_32 (i := 12) (by decide +kernel) rfl
theorem dX6_meeting_45 : decode cX6_meeting 45 = .ok (.aload_n 0, 1) := zrD zrw_cX6_meeting_32 (i := 13) (by decide +kernel) rfl
theorem dX6_meeting_46 : decode cX6_meeting 46 = .ok (.getfield 22, 3) := zrD zrw_cX6_meeting_32 (i := 14) (by decide +kernel) rfl
theorem dX6_meeting_49 : decode cX6_meeting 49 = .ok (.iload 4, 2) := zrD zrw_cX6_meeting_32 (i := 17) (by decide +kernel) rfl
theorem dX6_meeting_51 : decode cX6_meeting 51 = .ok (.iaload, 1) := zrD zrw_cX6_meeting_32 (i := 19) (by decide +kernel) rfl
theorem dX6_meeting_52 : decode cX6_meeting 52 = .ok (.if_icmp .le 7, 3) := zrD zrw_cX6_meeting_32 (i := 20) (by decide +kernel) rfl
theorem dX6_meeting_55 : decode cX6_meeting 55 = .ok (.iload 5, 2) := zrD zrw_cX6_meeting_32 (i := 23) (by decide +kernel) rfl
theorem dX6_meeting_57 : decode cX6_meeting 57 = .ok (.istore 4, 2) := zrD zrw_cX6_meeting_32 (i := 25) (by decide +kernel) rfl
theorem dX6_meeting_59 : decode cX6_meeting 59 = .ok (.iinc 5 1, 3) := zrD zrw_cX6_meeting_32 (i := 27) (by decide +kernel) rfl
def zrk_cX6_meeting_62 : ByteArray := .mk #[167, 255, 214, 21, 4, 172]
theorem zrw_cX6_meeting_62 : zrW 62 cX6_meeting zrk_cX6_meeting_62 := by unfold zrW; decide +kernel
theorem dX6_meeting_62 : decode cX6_meeting 62 = .ok (.goto (-42), 3) := zrD zrw_cX6_meeting_62 (i := 0) (by decide +kernel) rfl
theorem dX6_meeting_65 : decode cX6_meeting 65 = .ok (.iload 4, 2) := zrD zrw_cX6_meeting_62 (i := 3) (by decide +kernel) rfl
theorem dX6_meeting_67 : decode cX6_meeting 67 = .ok (.ireturn, 1) := zrD zrw_cX6_meeting_62 (i := 5) (by decide +kernel) rfl
def zrk_cX7_init_0 : ByteArray := .mk #[42, 183, 0, 3, 42, 17, 7, 208]
theorem zrw_cX7_init_0 : zrW 0 cX7_init zrk_cX7_init_0 := by unfold zrW; decide +kernel
theorem dX7_init_0 : decode cX7_init 0 = .ok (.aload_n 0, 1) := zrD zrw_cX7_init_0 (i := 0) (by decide +kernel) rfl
theorem dX7_init_1 : decode cX7_init 1 = .ok (.invokespecial 3, 3) := zrD zrw_cX7_init_0 (i := 1) (by decide +kernel) rfl
theorem dX7_init_4 : decode cX7_init 4 = .ok (.aload_n 0, 1) := zrD zrw_cX7_init_0 (i := 4) (by decide +kernel) rfl
theorem dX7_init_5 : decode cX7_init 5 = .ok (.sipush 2000, 3) := zrD zrw_cX7_init_0 (i := 5) (by decide +kernel) rfl
theorem dX7_init_8 : decode cX7_init 8 = .ok (.newarray .byte, 2) := by decide +kernel
def zrk_cX7_init_10 : ByteArray := .mk #[181, 0, 9, 42, 3, 181, 0, 15, 177]
theorem zrw_cX7_init_10 : zrW 10 cX7_init zrk_cX7_init_10 := by unfold zrW; decide +kernel
theorem dX7_init_10 : decode cX7_init 10 = .ok (.putfield 9, 3) := zrD zrw_cX7_init_10 (i := 0) (by decide +kernel) rfl
theorem dX7_init_13 : decode cX7_init 13 = .ok (.aload_n 0, 1) := zrD zrw_cX7_init_10 (i := 3) (by decide +kernel) rfl
theorem dX7_init_14 : decode cX7_init 14 = .ok (.iconst 0, 1) := zrD zrw_cX7_init_10 (i := 4) (by decide +kernel) rfl
theorem dX7_init_15 : decode cX7_init 15 = .ok (.putfield 15, 3) := zrD zrw_cX7_init_10 (i := 5) (by decide +kernel) rfl
theorem dX7_init_18 : decode cX7_init 18 = .ok (.return_, 1) := zrD zrw_cX7_init_10 (i := 8) (by decide +kernel) rfl
def zrk_cX7_append_0 : ByteArray := .mk #[16, 24, 61, 28, 155, 0, 44, 42, 180, 0, 15, 42, 180, 0, 9, 190, 162, 0, 26, 42, 180, 0, 9, 42, 180, 0, 15, 27, 28, 124, 145, 84]
theorem zrw_cX7_append_0 : zrW 0 cX7_append zrk_cX7_append_0 := by unfold zrW; decide +kernel
theorem dX7_append_0 : decode cX7_append 0 = .ok (.bipush 24, 2) := zrD zrw_cX7_append_0 (i := 0) (by decide +kernel) rfl
theorem dX7_append_2 : decode cX7_append 2 = .ok (.istore_n 2, 1) := zrD zrw_cX7_append_0 (i := 2) (by decide +kernel) rfl
theorem dX7_append_3 : decode cX7_append 3 = .ok (.iload_n 2, 1) := zrD zrw_cX7_append_0 (i := 3) (by decide +kernel) rfl
theorem dX7_append_4 : decode cX7_append 4 = .ok (.ifCond .lt 44, 3) := zrD zrw_cX7_append_0 (i := 4) (by decide +kernel) rfl
theorem dX7_append_7 : decode cX7_append 7 = .ok (.aload_n 0, 1) := zrD zrw_cX7_append_0 (i := 7) (by decide +kernel) rfl
theorem dX7_append_8 : decode cX7_append 8 = .ok (.getfield 15, 3) := zrD zrw_cX7_append_0 (i := 8) (by decide +kernel) rfl
theorem dX7_append_11 : decode cX7_append 11 = .ok (.aload_n 0, 1) := zrD zrw_cX7_append_0 (i := 11) (by decide +kernel) rfl
theorem dX7_append_12 : decode cX7_append 12 = .ok (.getfield 9, 3) := zrD zrw_cX7_append_0 (i := 12) (by decide +kernel) rfl
theorem dX7_append_15 : decode cX7_append 15 = .ok (.arraylength, 1) := zrD zrw_cX7_append_0 (i := 15) (by decide +kernel) rfl
theorem dX7_append_16 : decode cX7_append 16 = .ok (.if_icmp .ge 26, 3) := zrD zrw_cX7_append_0 (i := 16) (by decide +kernel) rfl
theorem dX7_append_19 : decode cX7_append 19 = .ok (.aload_n 0, 1) := zrD zrw_cX7_append_0 (i := 19) (by decide +kernel) rfl
theorem dX7_append_20 : decode cX7_append 20 = .ok (.getfield 9, 3) := zrD zrw_cX7_append_0 (i := 20) (by decide +kernel) rfl
theorem dX7_append_23 : decode cX7_append 23 = .ok (.aload_n 0, 1) := zrD zrw_cX7_append_0 (i := 23) (by decide +kernel) rfl
theorem dX7_append_24 : decode cX7_append 24 = .ok (.getfield 15, 3) := zrD zrw_cX7_append_0 (i := 24) (by decide +kernel) rfl
theorem dX7_append_27 : decode cX7_append 27 = .ok (.iload_n 1, 1) := zrD zrw_cX7_append_0 (i := 27) (by decide +kernel) rfl
theorem dX7_append_28 : decode cX7_append 28 = .ok (.iload_n 2, 1) := zrD zrw_cX7_append_0 (i := 28) (by decide +kernel) rfl
theorem dX7_append_29 : decode cX7_append 29 = .ok (.iushr, 1) := zrD zrw_cX7_append_0 (i := 29) (by decide +kernel) rfl
theorem dX7_append_30 : decode cX7_append 30 = .ok (.i2b, 1) := zrD zrw_cX7_append_0 (i := 30) (by decide +kernel) rfl
theorem dX7_append_31 : decode cX7_append 31 = .ok (.bastore, 1) := zrD zrw_cX7_append_0 (i := 31) (by decide +kernel) rfl
def zrk_cX7_append_32 : ByteArray := .mk #[42, 89, 180, 0, 15, 4, 96, 181, 0, 15, 132, 2, 248, 167, 255, 214, 177]
theorem zrw_cX7_append_32 : zrW 32 cX7_append zrk_cX7_append_32 := by unfold zrW; decide +kernel
theorem dX7_append_32 : decode cX7_append 32 = .ok (.aload_n 0, 1) := zrD zrw_cX7_append_32 (i := 0) (by decide +kernel) rfl
theorem dX7_append_33 : decode cX7_append 33 = .ok (.dup, 1) := zrD zrw_cX7_append_32 (i := 1) (by decide +kernel) rfl
theorem dX7_append_34 : decode cX7_append 34 = .ok (.getfield 15, 3) := zrD zrw_cX7_append_32 (i := 2) (by decide +kernel) rfl
theorem dX7_append_37 : decode cX7_append 37 = .ok (.iconst 1, 1) := zrD zrw_cX7_append_32 (i := 5) (by decide +kernel) rfl
theorem dX7_append_38 : decode cX7_append 38 = .ok (.iadd, 1) := zrD zrw_cX7_append_32 (i := 6) (by decide +kernel) rfl
theorem dX7_append_39 : decode cX7_append 39 = .ok (.putfield 15, 3) := zrD zrw_cX7_append_32 (i := 7) (by decide +kernel) rfl
theorem dX7_append_42 : decode cX7_append 42 = .ok (.iinc 2 (-8), 3) := zrD zrw_cX7_append_32 (i := 10) (by decide +kernel) rfl
theorem dX7_append_45 : decode cX7_append 45 = .ok (.goto (-42), 3) := zrD zrw_cX7_append_32 (i := 13) (by decide +kernel) rfl
theorem dX7_append_48 : decode cX7_append 48 = .ok (.return_, 1) := zrD zrw_cX7_append_32 (i := 16) (by decide +kernel) rfl
def zrk_cX8_init_0 : ByteArray := .mk #[42, 183, 0, 1, 42, 16, 22]
theorem zrw_cX8_init_0 : zrW 0 cX8_init zrk_cX8_init_0 := by unfold zrW; decide +kernel
theorem dX8_init_0 : decode cX8_init 0 = .ok (.aload_n 0, 1) := zrD zrw_cX8_init_0 (i := 0) (by decide +kernel) rfl
theorem dX8_init_1 : decode cX8_init 1 = .ok (.invokespecial 1, 3) := zrD zrw_cX8_init_0 (i := 1) (by decide +kernel) rfl
theorem dX8_init_4 : decode cX8_init 4 = .ok (.aload_n 0, 1) := zrD zrw_cX8_init_0 (i := 4) (by decide +kernel) rfl
theorem dX8_init_5 : decode cX8_init 5 = .ok (.bipush 22, 2) := zrD zrw_cX8_init_0 (i := 5) (by decide +kernel) rfl
theorem dX8_init_7 : decode cX8_init 7 = .ok (.newarray .long, 2) := by decide +kernel
def zrk_cX8_init_9 : ByteArray := .mk #[181, 0, 9, 42, 17, 1, 146]
theorem zrw_cX8_init_9 : zrW 9 cX8_init zrk_cX8_init_9 := by unfold zrW; decide +kernel
theorem dX8_init_9 : decode cX8_init 9 = .ok (.putfield 9, 3) := zrD zrw_cX8_init_9 (i := 0) (by decide +kernel) rfl
theorem dX8_init_12 : decode cX8_init 12 = .ok (.aload_n 0, 1) := zrD zrw_cX8_init_9 (i := 3) (by decide +kernel) rfl
theorem dX8_init_13 : decode cX8_init 13 = .ok (.sipush 402, 3) := zrD zrw_cX8_init_9 (i := 4) (by decide +kernel) rfl
theorem dX8_init_16 : decode cX8_init 16 = .ok (.newarray .int, 2) := by decide +kernel
def zrk_cX8_init_18 : ByteArray := .mk #[181, 0, 13, 42, 17, 1, 146]
theorem zrw_cX8_init_18 : zrW 18 cX8_init zrk_cX8_init_18 := by unfold zrW; decide +kernel
theorem dX8_init_18 : decode cX8_init 18 = .ok (.putfield 13, 3) := zrD zrw_cX8_init_18 (i := 0) (by decide +kernel) rfl
theorem dX8_init_21 : decode cX8_init 21 = .ok (.aload_n 0, 1) := zrD zrw_cX8_init_18 (i := 3) (by decide +kernel) rfl
theorem dX8_init_22 : decode cX8_init 22 = .ok (.sipush 402, 3) := zrD zrw_cX8_init_18 (i := 4) (by decide +kernel) rfl
theorem dX8_init_25 : decode cX8_init 25 = .ok (.newarray .long, 2) := by decide +kernel
def zrk_cX8_init_27 : ByteArray := .mk #[181, 0, 17, 42, 17, 1, 146]
theorem zrw_cX8_init_27 : zrW 27 cX8_init zrk_cX8_init_27 := by unfold zrW; decide +kernel
theorem dX8_init_27 : decode cX8_init 27 = .ok (.putfield 17, 3) := zrD zrw_cX8_init_27 (i := 0) (by decide +kernel) rfl
theorem dX8_init_30 : decode cX8_init 30 = .ok (.aload_n 0, 1) := zrD zrw_cX8_init_27 (i := 3) (by decide +kernel) rfl
theorem dX8_init_31 : decode cX8_init 31 = .ok (.sipush 402, 3) := zrD zrw_cX8_init_27 (i := 4) (by decide +kernel) rfl
theorem dX8_init_34 : decode cX8_init 34 = .ok (.newarray .int, 2) := by decide +kernel
def zrk_cX8_init_36 : ByteArray := .mk #[181, 0, 20, 42, 3, 181, 0, 23, 3, 60, 3, 61, 28, 18, 27, 182, 0, 29, 162, 0, 50, 27, 16, 22, 162, 0, 44, 18, 27, 28]
theorem zrw_cX8_init_36 : zrW 36 cX8_init zrk_cX8_init_36 := by unfold zrW; decide +kernel
theorem dX8_init_36 : decode cX8_init 36 = .ok (.putfield 20, 3) := zrD zrw_cX8_init_36 (i := 0) (by decide +kernel) rfl
theorem dX8_init_39 : decode cX8_init 39 = .ok (.aload_n 0, 1) := zrD zrw_cX8_init_36 (i := 3) (by decide +kernel) rfl
theorem dX8_init_40 : decode cX8_init 40 = .ok (.iconst 0, 1) := zrD zrw_cX8_init_36 (i := 4) (by decide +kernel) rfl
theorem dX8_init_41 : decode cX8_init 41 = .ok (.putfield 23, 3) := zrD zrw_cX8_init_36 (i := 5) (by decide +kernel) rfl
theorem dX8_init_44 : decode cX8_init 44 = .ok (.iconst 0, 1) := zrD zrw_cX8_init_36 (i := 8) (by decide +kernel) rfl
theorem dX8_init_45 : decode cX8_init 45 = .ok (.istore_n 1, 1) := zrD zrw_cX8_init_36 (i := 9) (by decide +kernel) rfl
theorem dX8_init_46 : decode cX8_init 46 = .ok (.iconst 0, 1) := zrD zrw_cX8_init_36 (i := 10) (by decide +kernel) rfl
theorem dX8_init_47 : decode cX8_init 47 = .ok (.istore_n 2, 1) := zrD zrw_cX8_init_36 (i := 11) (by decide +kernel) rfl
theorem dX8_init_48 : decode cX8_init 48 = .ok (.iload_n 2, 1) := zrD zrw_cX8_init_36 (i := 12) (by decide +kernel) rfl
theorem dX8_init_49 : decode cX8_init 49 = .ok (.ldc 27, 2) := zrD zrw_cX8_init_36 (i := 13) (by decide +kernel) rfl
theorem dX8_init_51 : decode cX8_init 51 = .ok (.invokevirtual 29, 3) := zrD zrw_cX8_init_36 (i := 15) (by decide +kernel) rfl
theorem dX8_init_54 : decode cX8_init 54 = .ok (.if_icmp .ge 50, 3) := zrD zrw_cX8_init_36 (i := 18) (by decide +kernel) rfl
theorem dX8_init_57 : decode cX8_init 57 = .ok (.iload_n 1, 1) := zrD zrw_cX8_init_36 (i := 21) (by decide +kernel) rfl
theorem dX8_init_58 : decode cX8_init 58 = .ok (.bipush 22, 2) := zrD zrw_cX8_init_36 (i := 22) (by decide +kernel) rfl
theorem dX8_init_60 : decode cX8_init 60 = .ok (.if_icmp .ge 44, 3) := zrD zrw_cX8_init_36 (i := 24) (by decide +kernel) rfl
theorem dX8_init_63 : decode cX8_init 63 = .ok (.ldc 27, 2) := zrD zrw_cX8_init_36 (i := 27) (by decide +kernel) rfl
theorem dX8_init_65 : decode cX8_init 65 = .ok (.iload_n 2, 1) := zrD zrw_cX8_init_36 (i := 29) (by decide +kernel) rfl
def zrk_cX8_init_66 : ByteArray := .mk #[182, 0, 35, 62, 29, 16, 32, 160, 0, 9, 132, 1, 1, 167, 0, 19, 42, 180, 0, 9, 27, 42, 180, 0, 9, 27, 47, 29, 184, 0, 39, 80]
theorem zrw_cX8_init_66 : zrW 66 cX8_init zrk_cX8_init_66 := by unfold zrW; decide +kernel
theorem dX8_init_66 : decode cX8_init 66 = .ok (.invokevirtual 35, 3) := zrD zrw_cX8_init_66 (i := 0) (by decide +kernel) rfl
theorem dX8_init_69 : decode cX8_init 69 = .ok (.istore_n 3, 1) := zrD zrw_cX8_init_66 (i := 3) (by decide +kernel) rfl
theorem dX8_init_70 : decode cX8_init 70 = .ok (.iload_n 3, 1) := zrD zrw_cX8_init_66 (i := 4) (by decide +kernel) rfl
theorem dX8_init_71 : decode cX8_init 71 = .ok (.bipush 32, 2) := zrD zrw_cX8_init_66 (i := 5) (by decide +kernel) rfl
theorem dX8_init_73 : decode cX8_init 73 = .ok (.if_icmp .ne 9, 3) := zrD zrw_cX8_init_66 (i := 7) (by decide +kernel) rfl
theorem dX8_init_76 : decode cX8_init 76 = .ok (.iinc 1 1, 3) := zrD zrw_cX8_init_66 (i := 10) (by decide +kernel) rfl
theorem dX8_init_79 : decode cX8_init 79 = .ok (.goto 19, 3) := zrD zrw_cX8_init_66 (i := 13) (by decide +kernel) rfl
theorem dX8_init_82 : decode cX8_init 82 = .ok (.aload_n 0, 1) := zrD zrw_cX8_init_66 (i := 16) (by decide +kernel) rfl
theorem dX8_init_83 : decode cX8_init 83 = .ok (.getfield 9, 3) := zrD zrw_cX8_init_66 (i := 17) (by decide +kernel) rfl
theorem dX8_init_86 : decode cX8_init 86 = .ok (.iload_n 1, 1) := zrD zrw_cX8_init_66 (i := 20) (by decide +kernel) rfl
theorem dX8_init_87 : decode cX8_init 87 = .ok (.aload_n 0, 1) := zrD zrw_cX8_init_66 (i := 21) (by decide +kernel) rfl
theorem dX8_init_88 : decode cX8_init 88 = .ok (.getfield 9, 3) := zrD zrw_cX8_init_66 (i := 22) (by decide +kernel) rfl
theorem dX8_init_91 : decode cX8_init 91 = .ok (.iload_n 1, 1) := zrD zrw_cX8_init_66 (i := 25) (by decide +kernel) rfl
theorem dX8_init_92 : decode cX8_init 92 = .ok (.laload, 1) := zrD zrw_cX8_init_66 (i := 26) (by decide +kernel) rfl
theorem dX8_init_93 : decode cX8_init 93 = .ok (.iload_n 3, 1) := zrD zrw_cX8_init_66 (i := 27) (by decide +kernel) rfl
theorem dX8_init_94 : decode cX8_init 94 = .ok (.invokestatic 39, 3) := zrD zrw_cX8_init_66 (i := 28) (by decide +kernel) rfl
theorem dX8_init_97 : decode cX8_init 97 = .ok (.lastore, 1) := zrD zrw_cX8_init_66 (i := 31) (by decide +kernel) rfl
def zrk_cX8_init_98 : ByteArray := .mk #[132, 2, 1, 167, 255, 203, 177]
theorem zrw_cX8_init_98 : zrW 98 cX8_init zrk_cX8_init_98 := by unfold zrW; decide +kernel
theorem dX8_init_98 : decode cX8_init 98 = .ok (.iinc 2 1, 3) := zrD zrw_cX8_init_98 (i := 0) (by decide +kernel) rfl
theorem dX8_init_101 : decode cX8_init 101 = .ok (.goto (-53), 3) := zrD zrw_cX8_init_98 (i := 3) (by decide +kernel) rfl
theorem dX8_init_104 : decode cX8_init 104 = .ok (.return_, 1) := zrD zrw_cX8_init_98 (i := 6) (by decide +kernel) rfl
def zrk_cX8_withLetter_0 : ByteArray := .mk #[30, 20, 0, 43, 105, 28, 16, 97, 100, 4, 96, 133, 97, 173]
theorem zrw_cX8_withLetter_0 : zrW 0 cX8_withLetter zrk_cX8_withLetter_0 := by unfold zrW; decide +kernel
theorem dX8_withLetter_0 : decode cX8_withLetter 0 = .ok (.lload_n 0, 1) := zrD zrw_cX8_withLetter_0 (i := 0) (by decide +kernel) rfl
theorem dX8_withLetter_1 : decode cX8_withLetter 1 = .ok (.ldc2_w 43, 3) := zrD zrw_cX8_withLetter_0 (i := 1) (by decide +kernel) rfl
theorem dX8_withLetter_4 : decode cX8_withLetter 4 = .ok (.lmul, 1) := zrD zrw_cX8_withLetter_0 (i := 4) (by decide +kernel) rfl
theorem dX8_withLetter_5 : decode cX8_withLetter 5 = .ok (.iload_n 2, 1) := zrD zrw_cX8_withLetter_0 (i := 5) (by decide +kernel) rfl
theorem dX8_withLetter_6 : decode cX8_withLetter 6 = .ok (.bipush 97, 2) := zrD zrw_cX8_withLetter_0 (i := 6) (by decide +kernel) rfl
theorem dX8_withLetter_8 : decode cX8_withLetter 8 = .ok (.isub, 1) := zrD zrw_cX8_withLetter_0 (i := 8) (by decide +kernel) rfl
theorem dX8_withLetter_9 : decode cX8_withLetter 9 = .ok (.iconst 1, 1) := zrD zrw_cX8_withLetter_0 (i := 9) (by decide +kernel) rfl
theorem dX8_withLetter_10 : decode cX8_withLetter 10 = .ok (.iadd, 1) := zrD zrw_cX8_withLetter_0 (i := 10) (by decide +kernel) rfl
theorem dX8_withLetter_11 : decode cX8_withLetter 11 = .ok (.i2l, 1) := zrD zrw_cX8_withLetter_0 (i := 11) (by decide +kernel) rfl
theorem dX8_withLetter_12 : decode cX8_withLetter 12 = .ok (.ladd, 1) := zrD zrw_cX8_withLetter_0 (i := 12) (by decide +kernel) rfl
theorem dX8_withLetter_13 : decode cX8_withLetter 13 = .ok (.lreturn, 1) := zrD zrw_cX8_withLetter_0 (i := 13) (by decide +kernel) rfl
def zrk_cX8_scan_0 : ByteArray := .mk #[42, 3, 181, 0, 23, 3, 62, 4, 54, 4, 3, 54, 5, 21, 5, 17, 1, 144, 163, 0, 162, 21, 4, 153, 0, 157, 43, 28, 29, 184, 0, 45]
theorem zrw_cX8_scan_0 : zrW 0 cX8_scan zrk_cX8_scan_0 := by unfold zrW; decide +kernel
theorem dX8_scan_0 : decode cX8_scan 0 = .ok (.aload_n 0, 1) := zrD zrw_cX8_scan_0 (i := 0) (by decide +kernel) rfl
theorem dX8_scan_1 : decode cX8_scan 1 = .ok (.iconst 0, 1) := zrD zrw_cX8_scan_0 (i := 1) (by decide +kernel) rfl
theorem dX8_scan_2 : decode cX8_scan 2 = .ok (.putfield 23, 3) := zrD zrw_cX8_scan_0 (i := 2) (by decide +kernel) rfl
theorem dX8_scan_5 : decode cX8_scan 5 = .ok (.iconst 0, 1) := zrD zrw_cX8_scan_0 (i := 5) (by decide +kernel) rfl
theorem dX8_scan_6 : decode cX8_scan 6 = .ok (.istore_n 3, 1) := zrD zrw_cX8_scan_0 (i := 6) (by decide +kernel) rfl
theorem dX8_scan_7 : decode cX8_scan 7 = .ok (.iconst 1, 1) := zrD zrw_cX8_scan_0 (i := 7) (by decide +kernel) rfl
theorem dX8_scan_8 : decode cX8_scan 8 = .ok (.istore 4, 2) := zrD zrw_cX8_scan_0 (i := 8) (by decide +kernel) rfl
theorem dX8_scan_10 : decode cX8_scan 10 = .ok (.iconst 0, 1) := zrD zrw_cX8_scan_0 (i := 10) (by decide +kernel) rfl
theorem dX8_scan_11 : decode cX8_scan 11 = .ok (.istore 5, 2) := zrD zrw_cX8_scan_0 (i := 11) (by decide +kernel) rfl
theorem dX8_scan_13 : decode cX8_scan 13 = .ok (.iload 5, 2) := zrD zrw_cX8_scan_0 (i := 13) (by decide +kernel) rfl
theorem dX8_scan_15 : decode cX8_scan 15 = .ok (.sipush 400, 3) := zrD zrw_cX8_scan_0 (i := 15) (by decide +kernel) rfl
theorem dX8_scan_18 : decode cX8_scan 18 = .ok (.if_icmp .gt 162, 3) := zrD zrw_cX8_scan_0 (i := 18) (by decide +kernel) rfl
theorem dX8_scan_21 : decode cX8_scan 21 = .ok (.iload 4, 2) := zrD zrw_cX8_scan_0 (i := 21) (by decide +kernel) rfl
theorem dX8_scan_23 : decode cX8_scan 23 = .ok (.ifCond .eq 157, 3) := zrD zrw_cX8_scan_0 (i := 23) (by decide +kernel) rfl
theorem dX8_scan_26 : decode cX8_scan 26 = .ok (.aload_n 1, 1) := zrD zrw_cX8_scan_0 (i := 26) (by decide +kernel) rfl
theorem dX8_scan_27 : decode cX8_scan 27 = .ok (.iload_n 2, 1) := zrD zrw_cX8_scan_0 (i := 27) (by decide +kernel) rfl
theorem dX8_scan_28 : decode cX8_scan 28 = .ok (.iload_n 3, 1) := zrD zrw_cX8_scan_0 (i := 28) (by decide +kernel) rfl
theorem dX8_scan_29 : decode cX8_scan 29 = .ok (.invokestatic 45, 3) := zrD zrw_cX8_scan_0 (i := 29) (by decide +kernel) rfl
def zrk_cX8_scan_32 : ByteArray := .mk #[62, 29, 28, 162, 0, 9, 43, 29, 51, 167, 0, 4, 3, 54, 6, 29, 28, 161, 0, 14, 42, 16, 33, 9, 28, 182, 0, 49, 167, 0, 84]
theorem zrw_cX8_scan_32 : zrW 32 cX8_scan zrk_cX8_scan_32 := by unfold zrW; decide +kernel
theorem dX8_scan_32 : decode cX8_scan 32 = .ok (.istore_n 3, 1) := zrD zrw_cX8_scan_32 (i := 0) (by decide +kernel) rfl
theorem dX8_scan_33 : decode cX8_scan 33 = .ok (.iload_n 3, 1) := zrD zrw_cX8_scan_32 (i := 1) (by decide +kernel) rfl
theorem dX8_scan_34 : decode cX8_scan 34 = .ok (.iload_n 2, 1) := zrD zrw_cX8_scan_32 (i := 2) (by decide +kernel) rfl
theorem dX8_scan_35 : decode cX8_scan 35 = .ok (.if_icmp .ge 9, 3) := zrD zrw_cX8_scan_32 (i := 3) (by decide +kernel) rfl
theorem dX8_scan_38 : decode cX8_scan 38 = .ok (.aload_n 1, 1) := zrD zrw_cX8_scan_32 (i := 6) (by decide +kernel) rfl
theorem dX8_scan_39 : decode cX8_scan 39 = .ok (.iload_n 3, 1) := zrD zrw_cX8_scan_32 (i := 7) (by decide +kernel) rfl
theorem dX8_scan_40 : decode cX8_scan 40 = .ok (.baload, 1) := zrD zrw_cX8_scan_32 (i := 8) (by decide +kernel) rfl
theorem dX8_scan_41 : decode cX8_scan 41 = .ok (.goto 4, 3) := zrD zrw_cX8_scan_32 (i := 9) (by decide +kernel) rfl
theorem dX8_scan_44 : decode cX8_scan 44 = .ok (.iconst 0, 1) := zrD zrw_cX8_scan_32 (i := 12) (by decide +kernel) rfl
theorem dX8_scan_45 : decode cX8_scan 45 = .ok (.istore 6, 2) := zrD zrw_cX8_scan_32 (i := 13) (by decide +kernel) rfl
theorem dX8_scan_47 : decode cX8_scan 47 = .ok (.iload_n 3, 1) := zrD zrw_cX8_scan_32 (i := 15) (by decide +kernel) rfl
theorem dX8_scan_48 : decode cX8_scan 48 = .ok (.iload_n 2, 1) := zrD zrw_cX8_scan_32 (i := 16) (by decide +kernel) rfl
theorem dX8_scan_49 : decode cX8_scan 49 = .ok (.if_icmp .lt 14, 3) := zrD zrw_cX8_scan_32 (i := 17) (by decide +kernel) rfl
theorem dX8_scan_52 : decode cX8_scan 52 = .ok (.aload_n 0, 1) := zrD zrw_cX8_scan_32 (i := 20) (by decide +kernel) rfl
theorem dX8_scan_53 : decode cX8_scan 53 = .ok (.bipush 33, 2) := zrD zrw_cX8_scan_32 (i := 21) (by decide +kernel) rfl
theorem dX8_scan_55 : decode cX8_scan 55 = .ok (.lconst 0, 1) := zrD zrw_cX8_scan_32 (i := 23) (by decide +kernel) rfl
theorem dX8_scan_56 : decode cX8_scan 56 = .ok (.iload_n 2, 1) := zrD zrw_cX8_scan_32 (i := 24) (by decide +kernel) rfl
theorem dX8_scan_57 : decode cX8_scan 57 = .ok (.invokevirtual 49, 3) := zrD zrw_cX8_scan_32 (i := 25) (by decide +kernel) rfl
theorem dX8_scan_60 : decode cX8_scan 60 = .ok (.goto 84, 3) := zrD zrw_cX8_scan_32 (i := 28) (by decide +kernel) rfl
def zrk_cX8_scan_63 : ByteArray := .mk #[21, 6, 184, 0, 53, 153, 0, 14, 42, 43, 28, 29, 182, 0, 57, 62, 167, 0, 65, 21, 6, 184, 0, 60, 153, 0, 14, 42, 43, 28, 29]
theorem zrw_cX8_scan_63 : zrW 63 cX8_scan zrk_cX8_scan_63 := by unfold zrW; decide +kernel
theorem dX8_scan_63 : decode cX8_scan 63 = .ok (.iload 6, 2) := zrD zrw_cX8_scan_63 (i := 0) (by decide +kernel) rfl
theorem dX8_scan_65 : decode cX8_scan 65 = .ok (.invokestatic 53, 3) := zrD zrw_cX8_scan_63 (i := 2) (by decide +kernel) rfl
theorem dX8_scan_68 : decode cX8_scan 68 = .ok (.ifCond .eq 14, 3) := zrD zrw_cX8_scan_63 (i := 5) (by decide +kernel) rfl
theorem dX8_scan_71 : decode cX8_scan 71 = .ok (.aload_n 0, 1) := zrD zrw_cX8_scan_63 (i := 8) (by decide +kernel) rfl
theorem dX8_scan_72 : decode cX8_scan 72 = .ok (.aload_n 1, 1) := zrD zrw_cX8_scan_63 (i := 9) (by decide +kernel) rfl
theorem dX8_scan_73 : decode cX8_scan 73 = .ok (.iload_n 2, 1) := zrD zrw_cX8_scan_63 (i := 10) (by decide +kernel) rfl
theorem dX8_scan_74 : decode cX8_scan 74 = .ok (.iload_n 3, 1) := zrD zrw_cX8_scan_63 (i := 11) (by decide +kernel) rfl
theorem dX8_scan_75 : decode cX8_scan 75 = .ok (.invokevirtual 57, 3) := zrD zrw_cX8_scan_63 (i := 12) (by decide +kernel) rfl
theorem dX8_scan_78 : decode cX8_scan 78 = .ok (.istore_n 3, 1) := zrD zrw_cX8_scan_63 (i := 15) (by decide +kernel) rfl
theorem dX8_scan_79 : decode cX8_scan 79 = .ok (.goto 65, 3) := zrD zrw_cX8_scan_63 (i := 16) (by decide +kernel) rfl
theorem dX8_scan_82 : decode cX8_scan 82 = .ok (.iload 6, 2) := zrD zrw_cX8_scan_63 (i := 19) (by decide +kernel) rfl
theorem dX8_scan_84 : decode cX8_scan 84 = .ok (.invokestatic 60, 3) := zrD zrw_cX8_scan_63 (i := 21) (by decide +kernel) rfl
theorem dX8_scan_87 : decode cX8_scan 87 = .ok (.ifCond .eq 14, 3) := zrD zrw_cX8_scan_63 (i := 24) (by decide +kernel) rfl
theorem dX8_scan_90 : decode cX8_scan 90 = .ok (.aload_n 0, 1) := zrD zrw_cX8_scan_63 (i := 27) (by decide +kernel) rfl
theorem dX8_scan_91 : decode cX8_scan 91 = .ok (.aload_n 1, 1) := zrD zrw_cX8_scan_63 (i := 28) (by decide +kernel) rfl
theorem dX8_scan_92 : decode cX8_scan 92 = .ok (.iload_n 2, 1) := zrD zrw_cX8_scan_63 (i := 29) (by decide +kernel) rfl
theorem dX8_scan_93 : decode cX8_scan 93 = .ok (.iload_n 3, 1) := zrD zrw_cX8_scan_63 (i := 30) (by decide +kernel) rfl
def zrk_cX8_scan_94 : ByteArray := .mk #[182, 0, 63, 62, 167, 0, 46, 21, 6, 158, 0, 14, 18, 66, 21, 6, 146, 182, 0, 68, 167, 0, 4, 2, 54, 7, 42, 21, 7, 156, 0, 8]
theorem zrw_cX8_scan_94 : zrW 94 cX8_scan zrk_cX8_scan_94 := by unfold zrW; decide +kernel
theorem dX8_scan_94 : decode cX8_scan 94 = .ok (.invokevirtual 63, 3) := zrD zrw_cX8_scan_94 (i := 0) (by decide +kernel) rfl
theorem dX8_scan_97 : decode cX8_scan 97 = .ok (.istore_n 3, 1) := zrD zrw_cX8_scan_94 (i := 3) (by decide +kernel) rfl
theorem dX8_scan_98 : decode cX8_scan 98 = .ok (.goto 46, 3) := zrD zrw_cX8_scan_94 (i := 4) (by decide +kernel) rfl
theorem dX8_scan_101 : decode cX8_scan 101 = .ok (.iload 6, 2) := zrD zrw_cX8_scan_94 (i := 7) (by decide +kernel) rfl
theorem dX8_scan_103 : decode cX8_scan 103 = .ok (.ifCond .le 14, 3) := zrD zrw_cX8_scan_94 (i := 9) (by decide +kernel) rfl
theorem dX8_scan_106 : decode cX8_scan 106 = .ok (.ldc 66, 2) := zrD zrw_cX8_scan_94 (i := 12) (by decide +kernel) rfl
theorem dX8_scan_108 : decode cX8_scan 108 = .ok (.iload 6, 2) := zrD zrw_cX8_scan_94 (i := 14) (by decide +kernel) rfl
theorem dX8_scan_110 : decode cX8_scan 110 = .ok (.i2c, 1) := zrD zrw_cX8_scan_94 (i := 16) (by decide +kernel) rfl
theorem dX8_scan_111 : decode cX8_scan 111 = .ok (.invokevirtual 68, 3) := zrD zrw_cX8_scan_94 (i := 17) (by decide +kernel) rfl
theorem dX8_scan_114 : decode cX8_scan 114 = .ok (.goto 4, 3) := zrD zrw_cX8_scan_94 (i := 20) (by decide +kernel) rfl
theorem dX8_scan_117 : decode cX8_scan 117 = .ok (.iconst (-1), 1) := zrD zrw_cX8_scan_94 (i := 23) (by decide +kernel) rfl
theorem dX8_scan_118 : decode cX8_scan 118 = .ok (.istore 7, 2) := zrD zrw_cX8_scan_94 (i := 24) (by decide +kernel) rfl
theorem dX8_scan_120 : decode cX8_scan 120 = .ok (.aload_n 0, 1) := zrD zrw_cX8_scan_94 (i := 26) (by decide +kernel) rfl
theorem dX8_scan_121 : decode cX8_scan 121 = .ok (.iload 7, 2) := zrD zrw_cX8_scan_94 (i := 27) (by decide +kernel) rfl
theorem dX8_scan_123 : decode cX8_scan 123 = .ok (.ifCond .ge 8, 3) := zrD zrw_cX8_scan_94 (i := 29) (by decide +kernel) rfl
def zrk_cX8_scan_126 : ByteArray := .mk #[16, 34, 167, 0, 8, 16, 24, 21, 7, 96, 9, 29, 182, 0, 49, 132, 3, 1, 42, 180, 0, 23, 158, 0, 23, 42, 180, 0, 13, 42]
theorem zrw_cX8_scan_126 : zrW 126 cX8_scan zrk_cX8_scan_126 := by unfold zrW; decide +kernel
theorem dX8_scan_126 : decode cX8_scan 126 = .ok (.bipush 34, 2) := zrD zrw_cX8_scan_126 (i := 0) (by decide +kernel) rfl
theorem dX8_scan_128 : decode cX8_scan 128 = .ok (.goto 8, 3) := zrD zrw_cX8_scan_126 (i := 2) (by decide +kernel) rfl
theorem dX8_scan_131 : decode cX8_scan 131 = .ok (.bipush 24, 2) := zrD zrw_cX8_scan_126 (i := 5) (by decide +kernel) rfl
theorem dX8_scan_133 : decode cX8_scan 133 = .ok (.iload 7, 2) := zrD zrw_cX8_scan_126 (i := 7) (by decide +kernel) rfl
theorem dX8_scan_135 : decode cX8_scan 135 = .ok (.iadd, 1) := zrD zrw_cX8_scan_126 (i := 9) (by decide +kernel) rfl
theorem dX8_scan_136 : decode cX8_scan 136 = .ok (.lconst 0, 1) := zrD zrw_cX8_scan_126 (i := 10) (by decide +kernel) rfl
theorem dX8_scan_137 : decode cX8_scan 137 = .ok (.iload_n 3, 1) := zrD zrw_cX8_scan_126 (i := 11) (by decide +kernel) rfl
theorem dX8_scan_138 : decode cX8_scan 138 = .ok (.invokevirtual 49, 3) := zrD zrw_cX8_scan_126 (i := 12) (by decide +kernel) rfl
theorem dX8_scan_141 : decode cX8_scan 141 = .ok (.iinc 3 1, 3) := zrD zrw_cX8_scan_126 (i := 15) (by decide +kernel) rfl
theorem dX8_scan_144 : decode cX8_scan 144 = .ok (.aload_n 0, 1) := zrD zrw_cX8_scan_126 (i := 18) (by decide +kernel) rfl
theorem dX8_scan_145 : decode cX8_scan 145 = .ok (.getfield 23, 3) := zrD zrw_cX8_scan_126 (i := 19) (by decide +kernel) rfl
theorem dX8_scan_148 : decode cX8_scan 148 = .ok (.ifCond .le 23, 3) := zrD zrw_cX8_scan_126 (i := 22) (by decide +kernel) rfl
theorem dX8_scan_151 : decode cX8_scan 151 = .ok (.aload_n 0, 1) := zrD zrw_cX8_scan_126 (i := 25) (by decide +kernel) rfl
theorem dX8_scan_152 : decode cX8_scan 152 = .ok (.getfield 13, 3) := zrD zrw_cX8_scan_126 (i := 26) (by decide +kernel) rfl
theorem dX8_scan_155 : decode cX8_scan 155 = .ok (.aload_n 0, 1) := zrD zrw_cX8_scan_126 (i := 29) (by decide +kernel) rfl
def zrk_cX8_scan_156 : ByteArray := .mk #[180, 0, 23, 4, 100, 46, 16, 33, 162, 0, 7, 4, 167, 0, 4, 3, 54, 4, 132, 5, 1, 167, 255, 92, 177]
theorem zrw_cX8_scan_156 : zrW 156 cX8_scan zrk_cX8_scan_156 := by unfold zrW; decide +kernel
theorem dX8_scan_156 : decode cX8_scan 156 = .ok (.getfield 23, 3) := zrD zrw_cX8_scan_156 (i := 0) (by decide +kernel) rfl
theorem dX8_scan_159 : decode cX8_scan 159 = .ok (.iconst 1, 1) := zrD zrw_cX8_scan_156 (i := 3) (by decide +kernel) rfl
theorem dX8_scan_160 : decode cX8_scan 160 = .ok (.isub, 1) := zrD zrw_cX8_scan_156 (i := 4) (by decide +kernel) rfl
theorem dX8_scan_161 : decode cX8_scan 161 = .ok (.iaload, 1) := zrD zrw_cX8_scan_156 (i := 5) (by decide +kernel) rfl
theorem dX8_scan_162 : decode cX8_scan 162 = .ok (.bipush 33, 2) := zrD zrw_cX8_scan_156 (i := 6) (by decide +kernel) rfl
theorem dX8_scan_164 : decode cX8_scan 164 = .ok (.if_icmp .ge 7, 3) := zrD zrw_cX8_scan_156 (i := 8) (by decide +kernel) rfl
theorem dX8_scan_167 : decode cX8_scan 167 = .ok (.iconst 1, 1) := zrD zrw_cX8_scan_156 (i := 11) (by decide +kernel) rfl
theorem dX8_scan_168 : decode cX8_scan 168 = .ok (.goto 4, 3) := zrD zrw_cX8_scan_156 (i := 12) (by decide +kernel) rfl
theorem dX8_scan_171 : decode cX8_scan 171 = .ok (.iconst 0, 1) := zrD zrw_cX8_scan_156 (i := 15) (by decide +kernel) rfl
theorem dX8_scan_172 : decode cX8_scan 172 = .ok (.istore 4, 2) := zrD zrw_cX8_scan_156 (i := 16) (by decide +kernel) rfl
theorem dX8_scan_174 : decode cX8_scan 174 = .ok (.iinc 5 1, 3) := zrD zrw_cX8_scan_156 (i := 18) (by decide +kernel) rfl
theorem dX8_scan_177 : decode cX8_scan 177 = .ok (.goto (-164), 3) := zrD zrw_cX8_scan_156 (i := 21) (by decide +kernel) rfl
theorem dX8_scan_180 : decode cX8_scan 180 = .ok (.return_, 1) := zrD zrw_cX8_scan_156 (i := 24) (by decide +kernel) rfl
def zrk_cX8_addLetters_0 : ByteArray := .mk #[9, 55, 4, 29, 54, 6, 21, 6, 28, 162, 0, 43, 43, 21, 6, 51, 184, 0, 53, 153, 0, 33, 21, 6, 29, 100, 16, 8, 162, 0, 15]
theorem zrw_cX8_addLetters_0 : zrW 0 cX8_addLetters zrk_cX8_addLetters_0 := by unfold zrW; decide +kernel
theorem dX8_addLetters_0 : decode cX8_addLetters 0 = .ok (.lconst 0, 1) := zrD zrw_cX8_addLetters_0 (i := 0) (by decide +kernel) rfl
theorem dX8_addLetters_1 : decode cX8_addLetters 1 = .ok (.lstore 4, 2) := zrD zrw_cX8_addLetters_0 (i := 1) (by decide +kernel) rfl
theorem dX8_addLetters_3 : decode cX8_addLetters 3 = .ok (.iload_n 3, 1) := zrD zrw_cX8_addLetters_0 (i := 3) (by decide +kernel) rfl
theorem dX8_addLetters_4 : decode cX8_addLetters 4 = .ok (.istore 6, 2) := zrD zrw_cX8_addLetters_0 (i := 4) (by decide +kernel) rfl
theorem dX8_addLetters_6 : decode cX8_addLetters 6 = .ok (.iload 6, 2) := zrD zrw_cX8_addLetters_0 (i := 6) (by decide +kernel) rfl
theorem dX8_addLetters_8 : decode cX8_addLetters 8 = .ok (.iload_n 2, 1) := zrD zrw_cX8_addLetters_0 (i := 8) (by decide +kernel) rfl
theorem dX8_addLetters_9 : decode cX8_addLetters 9 = .ok (.if_icmp .ge 43, 3) := zrD zrw_cX8_addLetters_0 (i := 9) (by decide +kernel) rfl
theorem dX8_addLetters_12 : decode cX8_addLetters 12 = .ok (.aload_n 1, 1) := zrD zrw_cX8_addLetters_0 (i := 12) (by decide +kernel) rfl
theorem dX8_addLetters_13 : decode cX8_addLetters 13 = .ok (.iload 6, 2) := zrD zrw_cX8_addLetters_0 (i := 13) (by decide +kernel) rfl
theorem dX8_addLetters_15 : decode cX8_addLetters 15 = .ok (.baload, 1) := zrD zrw_cX8_addLetters_0 (i := 15) (by decide +kernel) rfl
theorem dX8_addLetters_16 : decode cX8_addLetters 16 = .ok (.invokestatic 53, 3) := zrD zrw_cX8_addLetters_0 (i := 16) (by decide +kernel) rfl
theorem dX8_addLetters_19 : decode cX8_addLetters 19 = .ok (.ifCond .eq 33, 3) := zrD zrw_cX8_addLetters_0 (i := 19) (by decide +kernel) rfl
theorem dX8_addLetters_22 : decode cX8_addLetters 22 = .ok (.iload 6, 2) := zrD zrw_cX8_addLetters_0 (i := 22) (by decide +kernel) rfl
theorem dX8_addLetters_24 : decode cX8_addLetters 24 = .ok (.iload_n 3, 1) := zrD zrw_cX8_addLetters_0 (i := 24) (by decide +kernel) rfl
theorem dX8_addLetters_25 : decode cX8_addLetters 25 = .ok (.isub, 1) := zrD zrw_cX8_addLetters_0 (i := 25) (by decide +kernel) rfl
theorem dX8_addLetters_26 : decode cX8_addLetters 26 = .ok (.bipush 8, 2) := zrD zrw_cX8_addLetters_0 (i := 26) (by decide +kernel) rfl
theorem dX8_addLetters_28 : decode cX8_addLetters 28 = .ok (.if_icmp .ge 15, 3) := zrD zrw_cX8_addLetters_0 (i := 28) (by decide +kernel) rfl
def zrk_cX8_addLetters_31 : ByteArray := .mk #[22, 4, 43, 21, 6, 51, 184, 0, 39, 167, 0, 4, 9, 55, 4, 132, 6, 1, 167, 255, 213, 42, 21, 6, 29, 100, 16, 8, 164, 0, 8]
theorem zrw_cX8_addLetters_31 : zrW 31 cX8_addLetters zrk_cX8_addLetters_31 := by unfold zrW; decide +kernel
theorem dX8_addLetters_31 : decode cX8_addLetters 31 = .ok (.lload 4, 2) := zrD zrw_cX8_addLetters_31 (i := 0) (by decide +kernel) rfl
theorem dX8_addLetters_33 : decode cX8_addLetters 33 = .ok (.aload_n 1, 1) := zrD zrw_cX8_addLetters_31 (i := 2) (by decide +kernel) rfl
theorem dX8_addLetters_34 : decode cX8_addLetters 34 = .ok (.iload 6, 2) := zrD zrw_cX8_addLetters_31 (i := 3) (by decide +kernel) rfl
theorem dX8_addLetters_36 : decode cX8_addLetters 36 = .ok (.baload, 1) := zrD zrw_cX8_addLetters_31 (i := 5) (by decide +kernel) rfl
theorem dX8_addLetters_37 : decode cX8_addLetters 37 = .ok (.invokestatic 39, 3) := zrD zrw_cX8_addLetters_31 (i := 6) (by decide +kernel) rfl
theorem dX8_addLetters_40 : decode cX8_addLetters 40 = .ok (.goto 4, 3) := zrD zrw_cX8_addLetters_31 (i := 9) (by decide +kernel) rfl
theorem dX8_addLetters_43 : decode cX8_addLetters 43 = .ok (.lconst 0, 1) := zrD zrw_cX8_addLetters_31 (i := 12) (by decide +kernel) rfl
theorem dX8_addLetters_44 : decode cX8_addLetters 44 = .ok (.lstore 4, 2) := zrD zrw_cX8_addLetters_31 (i := 13) (by decide +kernel) rfl
theorem dX8_addLetters_46 : decode cX8_addLetters 46 = .ok (.iinc 6 1, 3) := zrD zrw_cX8_addLetters_31 (i := 15) (by decide +kernel) rfl
theorem dX8_addLetters_49 : decode cX8_addLetters 49 = .ok (.goto (-43), 3) := zrD zrw_cX8_addLetters_31 (i := 18) (by decide +kernel) rfl
theorem dX8_addLetters_52 : decode cX8_addLetters 52 = .ok (.aload_n 0, 1) := zrD zrw_cX8_addLetters_31 (i := 21) (by decide +kernel) rfl
theorem dX8_addLetters_53 : decode cX8_addLetters 53 = .ok (.iload 6, 2) := zrD zrw_cX8_addLetters_31 (i := 22) (by decide +kernel) rfl
theorem dX8_addLetters_55 : decode cX8_addLetters 55 = .ok (.iload_n 3, 1) := zrD zrw_cX8_addLetters_31 (i := 24) (by decide +kernel) rfl
theorem dX8_addLetters_56 : decode cX8_addLetters 56 = .ok (.isub, 1) := zrD zrw_cX8_addLetters_31 (i := 25) (by decide +kernel) rfl
theorem dX8_addLetters_57 : decode cX8_addLetters 57 = .ok (.bipush 8, 2) := zrD zrw_cX8_addLetters_31 (i := 26) (by decide +kernel) rfl
theorem dX8_addLetters_59 : decode cX8_addLetters 59 = .ok (.if_icmp .le 8, 3) := zrD zrw_cX8_addLetters_31 (i := 28) (by decide +kernel) rfl
def zrk_cX8_addLetters_62 : ByteArray := .mk #[16, 34, 167, 0, 9, 42, 22, 4, 182, 0, 72, 22, 4, 29, 182, 0, 49, 21, 6, 172]
theorem zrw_cX8_addLetters_62 : zrW 62 cX8_addLetters zrk_cX8_addLetters_62 := by unfold zrW; decide +kernel
theorem dX8_addLetters_62 : decode cX8_addLetters 62 = .ok (.bipush 34, 2) := zrD zrw_cX8_addLetters_62 (i := 0) (by decide +kernel) rfl
theorem dX8_addLetters_64 : decode cX8_addLetters 64 = .ok (.goto 9, 3) := zrD zrw_cX8_addLetters_62 (i := 2) (by decide +kernel) rfl
theorem dX8_addLetters_67 : decode cX8_addLetters 67 = .ok (.aload_n 0, 1) := zrD zrw_cX8_addLetters_62 (i := 5) (by decide +kernel) rfl
theorem dX8_addLetters_68 : decode cX8_addLetters 68 = .ok (.lload 4, 2) := zrD zrw_cX8_addLetters_62 (i := 6) (by decide +kernel) rfl
theorem dX8_addLetters_70 : decode cX8_addLetters 70 = .ok (.invokevirtual 72, 3) := zrD zrw_cX8_addLetters_62 (i := 8) (by decide +kernel) rfl
theorem dX8_addLetters_73 : decode cX8_addLetters 73 = .ok (.lload 4, 2) := zrD zrw_cX8_addLetters_62 (i := 11) (by decide +kernel) rfl
theorem dX8_addLetters_75 : decode cX8_addLetters 75 = .ok (.iload_n 3, 1) := zrD zrw_cX8_addLetters_62 (i := 13) (by decide +kernel) rfl
theorem dX8_addLetters_76 : decode cX8_addLetters 76 = .ok (.invokevirtual 49, 3) := zrD zrw_cX8_addLetters_62 (i := 14) (by decide +kernel) rfl
theorem dX8_addLetters_79 : decode cX8_addLetters 79 = .ok (.iload 6, 2) := zrD zrw_cX8_addLetters_62 (i := 17) (by decide +kernel) rfl
theorem dX8_addLetters_81 : decode cX8_addLetters 81 = .ok (.ireturn, 1) := zrD zrw_cX8_addLetters_62 (i := 19) (by decide +kernel) rfl
def zrk_cX8_addDigits_0 : ByteArray := .mk #[3, 54, 4, 29, 54, 5, 21, 5, 28, 162, 0, 46, 43, 21, 5, 51, 184, 0, 60, 153, 0, 36, 21, 5, 29, 100, 7, 162, 0, 19, 21, 4]
theorem zrw_cX8_addDigits_0 : zrW 0 cX8_addDigits zrk_cX8_addDigits_0 := by unfold zrW; decide +kernel
theorem dX8_addDigits_0 : decode cX8_addDigits 0 = .ok (.iconst 0, 1) := zrD zrw_cX8_addDigits_0 (i := 0) (by decide +kernel) rfl
theorem dX8_addDigits_1 : decode cX8_addDigits 1 = .ok (.istore 4, 2) := zrD zrw_cX8_addDigits_0 (i := 1) (by decide +kernel) rfl
theorem dX8_addDigits_3 : decode cX8_addDigits 3 = .ok (.iload_n 3, 1) := zrD zrw_cX8_addDigits_0 (i := 3) (by decide +kernel) rfl
theorem dX8_addDigits_4 : decode cX8_addDigits 4 = .ok (.istore 5, 2) := zrD zrw_cX8_addDigits_0 (i := 4) (by decide +kernel) rfl
theorem dX8_addDigits_6 : decode cX8_addDigits 6 = .ok (.iload 5, 2) := zrD zrw_cX8_addDigits_0 (i := 6) (by decide +kernel) rfl
theorem dX8_addDigits_8 : decode cX8_addDigits 8 = .ok (.iload_n 2, 1) := zrD zrw_cX8_addDigits_0 (i := 8) (by decide +kernel) rfl
theorem dX8_addDigits_9 : decode cX8_addDigits 9 = .ok (.if_icmp .ge 46, 3) := zrD zrw_cX8_addDigits_0 (i := 9) (by decide +kernel) rfl
theorem dX8_addDigits_12 : decode cX8_addDigits 12 = .ok (.aload_n 1, 1) := zrD zrw_cX8_addDigits_0 (i := 12) (by decide +kernel) rfl
theorem dX8_addDigits_13 : decode cX8_addDigits 13 = .ok (.iload 5, 2) := zrD zrw_cX8_addDigits_0 (i := 13) (by decide +kernel) rfl
theorem dX8_addDigits_15 : decode cX8_addDigits 15 = .ok (.baload, 1) := zrD zrw_cX8_addDigits_0 (i := 15) (by decide +kernel) rfl
theorem dX8_addDigits_16 : decode cX8_addDigits 16 = .ok (.invokestatic 60, 3) := zrD zrw_cX8_addDigits_0 (i := 16) (by decide +kernel) rfl
theorem dX8_addDigits_19 : decode cX8_addDigits 19 = .ok (.ifCond .eq 36, 3) := zrD zrw_cX8_addDigits_0 (i := 19) (by decide +kernel) rfl
theorem dX8_addDigits_22 : decode cX8_addDigits 22 = .ok (.iload 5, 2) := zrD zrw_cX8_addDigits_0 (i := 22) (by decide +kernel) rfl
theorem dX8_addDigits_24 : decode cX8_addDigits 24 = .ok (.iload_n 3, 1) := zrD zrw_cX8_addDigits_0 (i := 24) (by decide +kernel) rfl
theorem dX8_addDigits_25 : decode cX8_addDigits 25 = .ok (.isub, 1) := zrD zrw_cX8_addDigits_0 (i := 25) (by decide +kernel) rfl
theorem dX8_addDigits_26 : decode cX8_addDigits 26 = .ok (.iconst 4, 1) := zrD zrw_cX8_addDigits_0 (i := 26) (by decide +kernel) rfl
theorem dX8_addDigits_27 : decode cX8_addDigits 27 = .ok (.if_icmp .ge 19, 3) := zrD zrw_cX8_addDigits_0 (i := 27) (by decide +kernel) rfl
theorem dX8_addDigits_30 : decode cX8_addDigits 30 = .ok (.iload 4, 2) := zrD zrw_cX8_addDigits_0 (i := 30) (by decide +kernel) rfl
def zrk_cX8_addDigits_32 : ByteArray := .mk #[16, 10, 104, 43, 21, 5, 51, 16, 48, 100, 96, 167, 0, 4, 3, 54, 4, 132, 5, 1, 167, 255, 210, 42, 21, 5, 29, 100, 7, 164, 0, 8]
theorem zrw_cX8_addDigits_32 : zrW 32 cX8_addDigits zrk_cX8_addDigits_32 := by unfold zrW; decide +kernel
theorem dX8_addDigits_32 : decode cX8_addDigits 32 = .ok (.bipush 10, 2) := zrD zrw_cX8_addDigits_32 (i := 0) (by decide +kernel) rfl
theorem dX8_addDigits_34 : decode cX8_addDigits 34 = .ok (.imul, 1) := zrD zrw_cX8_addDigits_32 (i := 2) (by decide +kernel) rfl
theorem dX8_addDigits_35 : decode cX8_addDigits 35 = .ok (.aload_n 1, 1) := zrD zrw_cX8_addDigits_32 (i := 3) (by decide +kernel) rfl
theorem dX8_addDigits_36 : decode cX8_addDigits 36 = .ok (.iload 5, 2) := zrD zrw_cX8_addDigits_32 (i := 4) (by decide +kernel) rfl
theorem dX8_addDigits_38 : decode cX8_addDigits 38 = .ok (.baload, 1) := zrD zrw_cX8_addDigits_32 (i := 6) (by decide +kernel) rfl
theorem dX8_addDigits_39 : decode cX8_addDigits 39 = .ok (.bipush 48, 2) := zrD zrw_cX8_addDigits_32 (i := 7) (by decide +kernel) rfl
theorem dX8_addDigits_41 : decode cX8_addDigits 41 = .ok (.isub, 1) := zrD zrw_cX8_addDigits_32 (i := 9) (by decide +kernel) rfl
theorem dX8_addDigits_42 : decode cX8_addDigits 42 = .ok (.iadd, 1) := zrD zrw_cX8_addDigits_32 (i := 10) (by decide +kernel) rfl
theorem dX8_addDigits_43 : decode cX8_addDigits 43 = .ok (.goto 4, 3) := zrD zrw_cX8_addDigits_32 (i := 11) (by decide +kernel) rfl
theorem dX8_addDigits_46 : decode cX8_addDigits 46 = .ok (.iconst 0, 1) := zrD zrw_cX8_addDigits_32 (i := 14) (by decide +kernel) rfl
theorem dX8_addDigits_47 : decode cX8_addDigits 47 = .ok (.istore 4, 2) := zrD zrw_cX8_addDigits_32 (i := 15) (by decide +kernel) rfl
theorem dX8_addDigits_49 : decode cX8_addDigits 49 = .ok (.iinc 5 1, 3) := zrD zrw_cX8_addDigits_32 (i := 17) (by decide +kernel) rfl
theorem dX8_addDigits_52 : decode cX8_addDigits 52 = .ok (.goto (-46), 3) := zrD zrw_cX8_addDigits_32 (i := 20) (by decide +kernel) rfl
theorem dX8_addDigits_55 : decode cX8_addDigits 55 = .ok (.aload_n 0, 1) := zrD zrw_cX8_addDigits_32 (i := 23) (by decide +kernel) rfl
theorem dX8_addDigits_56 : decode cX8_addDigits 56 = .ok (.iload 5, 2) := zrD zrw_cX8_addDigits_32 (i := 24) (by decide +kernel) rfl
theorem dX8_addDigits_58 : decode cX8_addDigits 58 = .ok (.iload_n 3, 1) := zrD zrw_cX8_addDigits_32 (i := 26) (by decide +kernel) rfl
theorem dX8_addDigits_59 : decode cX8_addDigits 59 = .ok (.isub, 1) := zrD zrw_cX8_addDigits_32 (i := 27) (by decide +kernel) rfl
theorem dX8_addDigits_60 : decode cX8_addDigits 60 = .ok (.iconst 4, 1) := zrD zrw_cX8_addDigits_32 (i := 28) (by decide +kernel) rfl
theorem dX8_addDigits_61 : decode cX8_addDigits 61 = .ok (.if_icmp .le 8, 3) := zrD zrw_cX8_addDigits_32 (i := 29) (by decide +kernel) rfl
def zrk_cX8_addDigits_64 : ByteArray := .mk #[16, 34, 167, 0, 5, 16, 23, 21, 4, 133, 29, 182, 0, 49, 21, 5, 172]
theorem zrw_cX8_addDigits_64 : zrW 64 cX8_addDigits zrk_cX8_addDigits_64 := by unfold zrW; decide +kernel
theorem dX8_addDigits_64 : decode cX8_addDigits 64 = .ok (.bipush 34, 2) := zrD zrw_cX8_addDigits_64 (i := 0) (by decide +kernel) rfl
theorem dX8_addDigits_66 : decode cX8_addDigits 66 = .ok (.goto 5, 3) := zrD zrw_cX8_addDigits_64 (i := 2) (by decide +kernel) rfl
theorem dX8_addDigits_69 : decode cX8_addDigits 69 = .ok (.bipush 23, 2) := zrD zrw_cX8_addDigits_64 (i := 5) (by decide +kernel) rfl
theorem dX8_addDigits_71 : decode cX8_addDigits 71 = .ok (.iload 4, 2) := zrD zrw_cX8_addDigits_64 (i := 7) (by decide +kernel) rfl
theorem dX8_addDigits_73 : decode cX8_addDigits 73 = .ok (.i2l, 1) := zrD zrw_cX8_addDigits_64 (i := 9) (by decide +kernel) rfl
theorem dX8_addDigits_74 : decode cX8_addDigits 74 = .ok (.iload_n 3, 1) := zrD zrw_cX8_addDigits_64 (i := 10) (by decide +kernel) rfl
theorem dX8_addDigits_75 : decode cX8_addDigits 75 = .ok (.invokevirtual 49, 3) := zrD zrw_cX8_addDigits_64 (i := 11) (by decide +kernel) rfl
theorem dX8_addDigits_78 : decode cX8_addDigits 78 = .ok (.iload 5, 2) := zrD zrw_cX8_addDigits_64 (i := 14) (by decide +kernel) rfl
theorem dX8_addDigits_80 : decode cX8_addDigits 80 = .ok (.ireturn, 1) := zrD zrw_cX8_addDigits_64 (i := 16) (by decide +kernel) rfl
def zrk_cX8_kindOf_0 : ByteArray := .mk #[16, 22, 62, 3, 54, 4, 21, 4, 16, 22, 162, 0, 24, 42, 180, 0, 9, 21, 4, 47, 31, 148, 154, 0, 6, 21, 4, 62, 132, 4, 1]
theorem zrw_cX8_kindOf_0 : zrW 0 cX8_kindOf zrk_cX8_kindOf_0 := by unfold zrW; decide +kernel
theorem dX8_kindOf_0 : decode cX8_kindOf 0 = .ok (.bipush 22, 2) := zrD zrw_cX8_kindOf_0 (i := 0) (by decide +kernel) rfl
theorem dX8_kindOf_2 : decode cX8_kindOf 2 = .ok (.istore_n 3, 1) := zrD zrw_cX8_kindOf_0 (i := 2) (by decide +kernel) rfl
theorem dX8_kindOf_3 : decode cX8_kindOf 3 = .ok (.iconst 0, 1) := zrD zrw_cX8_kindOf_0 (i := 3) (by decide +kernel) rfl
theorem dX8_kindOf_4 : decode cX8_kindOf 4 = .ok (.istore 4, 2) := zrD zrw_cX8_kindOf_0 (i := 4) (by decide +kernel) rfl
theorem dX8_kindOf_6 : decode cX8_kindOf 6 = .ok (.iload 4, 2) := zrD zrw_cX8_kindOf_0 (i := 6) (by decide +kernel) rfl
theorem dX8_kindOf_8 : decode cX8_kindOf 8 = .ok (.bipush 22, 2) := zrD zrw_cX8_kindOf_0 (i := 8) (by decide +kernel) rfl
theorem dX8_kindOf_10 : decode cX8_kindOf 10 = .ok (.if_icmp .ge 24, 3) := zrD zrw_cX8_kindOf_0 (i := 10) (by decide +kernel) rfl
theorem dX8_kindOf_13 : decode cX8_kindOf 13 = .ok (.aload_n 0, 1) := zrD zrw_cX8_kindOf_0 (i := 13) (by decide +kernel) rfl
theorem dX8_kindOf_14 : decode cX8_kindOf 14 = .ok (.getfield 9, 3) := zrD zrw_cX8_kindOf_0 (i := 14) (by decide +kernel) rfl
theorem dX8_kindOf_17 : decode cX8_kindOf 17 = .ok (.iload 4, 2) := zrD zrw_cX8_kindOf_0 (i := 17) (by decide +kernel) rfl
theorem dX8_kindOf_19 : decode cX8_kindOf 19 = .ok (.laload, 1) := zrD zrw_cX8_kindOf_0 (i := 19) (by decide +kernel) rfl
theorem dX8_kindOf_20 : decode cX8_kindOf 20 = .ok (.lload_n 1, 1) := zrD zrw_cX8_kindOf_0 (i := 20) (by decide +kernel) rfl
theorem dX8_kindOf_21 : decode cX8_kindOf 21 = .ok (.lcmp, 1) := zrD zrw_cX8_kindOf_0 (i := 21) (by decide +kernel) rfl
theorem dX8_kindOf_22 : decode cX8_kindOf 22 = .ok (.ifCond .ne 6, 3) := zrD zrw_cX8_kindOf_0 (i := 22) (by decide +kernel) rfl
theorem dX8_kindOf_25 : decode cX8_kindOf 25 = .ok (.iload 4, 2) := zrD zrw_cX8_kindOf_0 (i := 25) (by decide +kernel) rfl
theorem dX8_kindOf_27 : decode cX8_kindOf 27 = .ok (.istore_n 3, 1) := zrD zrw_cX8_kindOf_0 (i := 27) (by decide +kernel) rfl
theorem dX8_kindOf_28 : decode cX8_kindOf 28 = .ok (.iinc 4 1, 3) := zrD zrw_cX8_kindOf_0 (i := 28) (by decide +kernel) rfl
def zrk_cX8_kindOf_31 : ByteArray := .mk #[167, 255, 231, 29, 172]
theorem zrw_cX8_kindOf_31 : zrW 31 cX8_kindOf zrk_cX8_kindOf_31 := by unfold zrW; decide +kernel
theorem dX8_kindOf_31 : decode cX8_kindOf 31 = .ok (.goto (-25), 3) := zrD zrw_cX8_kindOf_31 (i := 0) (by decide +kernel) rfl
theorem dX8_kindOf_34 : decode cX8_kindOf 34 = .ok (.iload_n 3, 1) := zrD zrw_cX8_kindOf_31 (i := 3) (by decide +kernel) rfl
theorem dX8_kindOf_35 : decode cX8_kindOf 35 = .ok (.ireturn, 1) := zrD zrw_cX8_kindOf_31 (i := 4) (by decide +kernel) rfl
def zrk_cX8_add_0 : ByteArray := .mk #[42, 180, 0, 23, 42, 180, 0, 13, 190, 162, 0, 44, 42, 180, 0, 13, 42, 180, 0, 23, 27, 79, 42, 180, 0, 17, 42, 180, 0, 23, 32, 80]
theorem zrw_cX8_add_0 : zrW 0 cX8_add zrk_cX8_add_0 := by unfold zrW; decide +kernel
theorem dX8_add_0 : decode cX8_add 0 = .ok (.aload_n 0, 1) := zrD zrw_cX8_add_0 (i := 0) (by decide +kernel) rfl
theorem dX8_add_1 : decode cX8_add 1 = .ok (.getfield 23, 3) := zrD zrw_cX8_add_0 (i := 1) (by decide +kernel) rfl
theorem dX8_add_4 : decode cX8_add 4 = .ok (.aload_n 0, 1) := zrD zrw_cX8_add_0 (i := 4) (by decide +kernel) rfl
theorem dX8_add_5 : decode cX8_add 5 = .ok (.getfield 13, 3) := zrD zrw_cX8_add_0 (i := 5) (by decide +kernel) rfl
theorem dX8_add_8 : decode cX8_add 8 = .ok (.arraylength, 1) := zrD zrw_cX8_add_0 (i := 8) (by decide +kernel) rfl
theorem dX8_add_9 : decode cX8_add 9 = .ok (.if_icmp .ge 44, 3) := zrD zrw_cX8_add_0 (i := 9) (by decide +kernel) rfl
theorem dX8_add_12 : decode cX8_add 12 = .ok (.aload_n 0, 1) := zrD zrw_cX8_add_0 (i := 12) (by decide +kernel) rfl
theorem dX8_add_13 : decode cX8_add 13 = .ok (.getfield 13, 3) := zrD zrw_cX8_add_0 (i := 13) (by decide +kernel) rfl
theorem dX8_add_16 : decode cX8_add 16 = .ok (.aload_n 0, 1) := zrD zrw_cX8_add_0 (i := 16) (by decide +kernel) rfl
theorem dX8_add_17 : decode cX8_add 17 = .ok (.getfield 23, 3) := zrD zrw_cX8_add_0 (i := 17) (by decide +kernel) rfl
theorem dX8_add_20 : decode cX8_add 20 = .ok (.iload_n 1, 1) := zrD zrw_cX8_add_0 (i := 20) (by decide +kernel) rfl
theorem dX8_add_21 : decode cX8_add 21 = .ok (.iastore, 1) := zrD zrw_cX8_add_0 (i := 21) (by decide +kernel) rfl
theorem dX8_add_22 : decode cX8_add 22 = .ok (.aload_n 0, 1) := zrD zrw_cX8_add_0 (i := 22) (by decide +kernel) rfl
theorem dX8_add_23 : decode cX8_add 23 = .ok (.getfield 17, 3) := zrD zrw_cX8_add_0 (i := 23) (by decide +kernel) rfl
theorem dX8_add_26 : decode cX8_add 26 = .ok (.aload_n 0, 1) := zrD zrw_cX8_add_0 (i := 26) (by decide +kernel) rfl
theorem dX8_add_27 : decode cX8_add 27 = .ok (.getfield 23, 3) := zrD zrw_cX8_add_0 (i := 27) (by decide +kernel) rfl
theorem dX8_add_30 : decode cX8_add 30 = .ok (.lload_n 2, 1) := zrD zrw_cX8_add_0 (i := 30) (by decide +kernel) rfl
theorem dX8_add_31 : decode cX8_add 31 = .ok (.lastore, 1) := zrD zrw_cX8_add_0 (i := 31) (by decide +kernel) rfl
def zrk_cX8_add_32 : ByteArray := .mk #[42, 180, 0, 20, 42, 180, 0, 23, 21, 4, 79, 42, 89, 180, 0, 23, 4, 96, 181, 0, 23, 177]
theorem zrw_cX8_add_32 : zrW 32 cX8_add zrk_cX8_add_32 := by unfold zrW; decide +kernel
theorem dX8_add_32 : decode cX8_add 32 = .ok (.aload_n 0, 1) := zrD zrw_cX8_add_32 (i := 0) (by decide +kernel) rfl
theorem dX8_add_33 : decode cX8_add 33 = .ok (.getfield 20, 3) := zrD zrw_cX8_add_32 (i := 1) (by decide +kernel) rfl
theorem dX8_add_36 : decode cX8_add 36 = .ok (.aload_n 0, 1) := zrD zrw_cX8_add_32 (i := 4) (by decide +kernel) rfl
theorem dX8_add_37 : decode cX8_add 37 = .ok (.getfield 23, 3) := zrD zrw_cX8_add_32 (i := 5) (by decide +kernel) rfl
theorem dX8_add_40 : decode cX8_add 40 = .ok (.iload 4, 2) := zrD zrw_cX8_add_32 (i := 8) (by decide +kernel) rfl
theorem dX8_add_42 : decode cX8_add 42 = .ok (.iastore, 1) := zrD zrw_cX8_add_32 (i := 10) (by decide +kernel) rfl
theorem dX8_add_43 : decode cX8_add 43 = .ok (.aload_n 0, 1) := zrD zrw_cX8_add_32 (i := 11) (by decide +kernel) rfl
theorem dX8_add_44 : decode cX8_add 44 = .ok (.dup, 1) := zrD zrw_cX8_add_32 (i := 12) (by decide +kernel) rfl
theorem dX8_add_45 : decode cX8_add 45 = .ok (.getfield 23, 3) := zrD zrw_cX8_add_32 (i := 13) (by decide +kernel) rfl
theorem dX8_add_48 : decode cX8_add 48 = .ok (.iconst 1, 1) := zrD zrw_cX8_add_32 (i := 16) (by decide +kernel) rfl
theorem dX8_add_49 : decode cX8_add 49 = .ok (.iadd, 1) := zrD zrw_cX8_add_32 (i := 17) (by decide +kernel) rfl
theorem dX8_add_50 : decode cX8_add 50 = .ok (.putfield 23, 3) := zrD zrw_cX8_add_32 (i := 18) (by decide +kernel) rfl
theorem dX8_add_53 : decode cX8_add 53 = .ok (.return_, 1) := zrD zrw_cX8_add_32 (i := 21) (by decide +kernel) rfl
def zrk_cX8_pastBlanks_0 : ByteArray := .mk #[28, 62, 29, 27, 162, 0, 41, 42, 29, 51, 16, 32, 159, 0, 27, 42, 29, 51, 16, 9, 159, 0, 19, 42, 29, 51, 16, 10, 159, 0, 11, 42]
theorem zrw_cX8_pastBlanks_0 : zrW 0 cX8_pastBlanks zrk_cX8_pastBlanks_0 := by unfold zrW; decide +kernel
theorem dX8_pastBlanks_0 : decode cX8_pastBlanks 0 = .ok (.iload_n 2, 1) := zrD zrw_cX8_pastBlanks_0 (i := 0) (by decide +kernel) rfl
theorem dX8_pastBlanks_1 : decode cX8_pastBlanks 1 = .ok (.istore_n 3, 1) := zrD zrw_cX8_pastBlanks_0 (i := 1) (by decide +kernel) rfl
theorem dX8_pastBlanks_2 : decode cX8_pastBlanks 2 = .ok (.iload_n 3, 1) := zrD zrw_cX8_pastBlanks_0 (i := 2) (by decide +kernel) rfl
theorem dX8_pastBlanks_3 : decode cX8_pastBlanks 3 = .ok (.iload_n 1, 1) := zrD zrw_cX8_pastBlanks_0 (i := 3) (by decide +kernel) rfl
theorem dX8_pastBlanks_4 : decode cX8_pastBlanks 4 = .ok (.if_icmp .ge 41, 3) := zrD zrw_cX8_pastBlanks_0 (i := 4) (by decide +kernel) rfl
theorem dX8_pastBlanks_7 : decode cX8_pastBlanks 7 = .ok (.aload_n 0, 1) := zrD zrw_cX8_pastBlanks_0 (i := 7) (by decide +kernel) rfl
theorem dX8_pastBlanks_8 : decode cX8_pastBlanks 8 = .ok (.iload_n 3, 1) := zrD zrw_cX8_pastBlanks_0 (i := 8) (by decide +kernel) rfl
theorem dX8_pastBlanks_9 : decode cX8_pastBlanks 9 = .ok (.baload, 1) := zrD zrw_cX8_pastBlanks_0 (i := 9) (by decide +kernel) rfl
theorem dX8_pastBlanks_10 : decode cX8_pastBlanks 10 = .ok (.bipush 32, 2) := zrD zrw_cX8_pastBlanks_0 (i := 10) (by decide +kernel) rfl
theorem dX8_pastBlanks_12 : decode cX8_pastBlanks 12 = .ok (.if_icmp .eq 27, 3) := zrD zrw_cX8_pastBlanks_0 (i := 12) (by decide +kernel) rfl
theorem dX8_pastBlanks_15 : decode cX8_pastBlanks 15 = .ok (.aload_n 0, 1) := zrD zrw_cX8_pastBlanks_0 (i := 15) (by decide +kernel) rfl
theorem dX8_pastBlanks_16 : decode cX8_pastBlanks 16 = .ok (.iload_n 3, 1) := zrD zrw_cX8_pastBlanks_0 (i := 16) (by decide +kernel) rfl
theorem dX8_pastBlanks_17 : decode cX8_pastBlanks 17 = .ok (.baload, 1) := zrD zrw_cX8_pastBlanks_0 (i := 17) (by decide +kernel) rfl
theorem dX8_pastBlanks_18 : decode cX8_pastBlanks 18 = .ok (.bipush 9, 2) := zrD zrw_cX8_pastBlanks_0 (i := 18) (by decide +kernel) rfl
theorem dX8_pastBlanks_20 : decode cX8_pastBlanks 20 = .ok (.if_icmp .eq 19, 3) := zrD zrw_cX8_pastBlanks_0 (i := 20) (by decide +kernel) rfl
theorem dX8_pastBlanks_23 : decode cX8_pastBlanks 23 = .ok (.aload_n 0, 1) := zrD zrw_cX8_pastBlanks_0 (i := 23) (by decide +kernel) rfl
theorem dX8_pastBlanks_24 : decode cX8_pastBlanks 24 = .ok (.iload_n 3, 1) := zrD zrw_cX8_pastBlanks_0 (i := 24) (by decide +kernel) rfl
theorem dX8_pastBlanks_25 : decode cX8_pastBlanks 25 = .ok (.baload, 1) := zrD zrw_cX8_pastBlanks_0 (i := 25) (by decide +kernel) rfl
theorem dX8_pastBlanks_26 : decode cX8_pastBlanks 26 = .ok (.bipush 10, 2) := zrD zrw_cX8_pastBlanks_0 (i := 26) (by decide +kernel) rfl
theorem dX8_pastBlanks_28 : decode cX8_pastBlanks 28 = .ok (.if_icmp .eq 11, 3) := zrD zrw_cX8_pastBlanks_0 (i := 28) (by decide +kernel) rfl
theorem dX8_pastBlanks_31 : decode cX8_pastBlanks 31 = .ok (.aload_n 0, 1) := zrD zrw_cX8_pastBlanks_0 (i := 31) (by decide +kernel) rfl
def zrk_cX8_pastBlanks_32 : ByteArray := .mk #[29, 51, 16, 13, 160, 0, 9, 132, 3, 1, 167, 255, 216, 29, 172]
theorem zrw_cX8_pastBlanks_32 : zrW 32 cX8_pastBlanks zrk_cX8_pastBlanks_32 := by unfold zrW; decide +kernel
theorem dX8_pastBlanks_32 : decode cX8_pastBlanks 32 = .ok (.iload_n 3, 1) := zrD zrw_cX8_pastBlanks_32 (i := 0) (by decide +kernel) rfl
theorem dX8_pastBlanks_33 : decode cX8_pastBlanks 33 = .ok (.baload, 1) := zrD zrw_cX8_pastBlanks_32 (i := 1) (by decide +kernel) rfl
theorem dX8_pastBlanks_34 : decode cX8_pastBlanks 34 = .ok (.bipush 13, 2) := zrD zrw_cX8_pastBlanks_32 (i := 2) (by decide +kernel) rfl
theorem dX8_pastBlanks_36 : decode cX8_pastBlanks 36 = .ok (.if_icmp .ne 9, 3) := zrD zrw_cX8_pastBlanks_32 (i := 4) (by decide +kernel) rfl
theorem dX8_pastBlanks_39 : decode cX8_pastBlanks 39 = .ok (.iinc 3 1, 3) := zrD zrw_cX8_pastBlanks_32 (i := 7) (by decide +kernel) rfl
theorem dX8_pastBlanks_42 : decode cX8_pastBlanks 42 = .ok (.goto (-40), 3) := zrD zrw_cX8_pastBlanks_32 (i := 10) (by decide +kernel) rfl
theorem dX8_pastBlanks_45 : decode cX8_pastBlanks 45 = .ok (.iload_n 3, 1) := zrD zrw_cX8_pastBlanks_32 (i := 13) (by decide +kernel) rfl
theorem dX8_pastBlanks_46 : decode cX8_pastBlanks 46 = .ok (.ireturn, 1) := zrD zrw_cX8_pastBlanks_32 (i := 14) (by decide +kernel) rfl
def zrk_cX8_isLetter_0 : ByteArray := .mk #[26, 16, 97, 161, 0, 13, 26, 16, 122, 163, 0, 7, 4, 167, 0, 4, 3, 172]
theorem zrw_cX8_isLetter_0 : zrW 0 cX8_isLetter zrk_cX8_isLetter_0 := by unfold zrW; decide +kernel
theorem dX8_isLetter_0 : decode cX8_isLetter 0 = .ok (.iload_n 0, 1) := zrD zrw_cX8_isLetter_0 (i := 0) (by decide +kernel) rfl
theorem dX8_isLetter_1 : decode cX8_isLetter 1 = .ok (.bipush 97, 2) := zrD zrw_cX8_isLetter_0 (i := 1) (by decide +kernel) rfl
theorem dX8_isLetter_3 : decode cX8_isLetter 3 = .ok (.if_icmp .lt 13, 3) := zrD zrw_cX8_isLetter_0 (i := 3) (by decide +kernel) rfl
theorem dX8_isLetter_6 : decode cX8_isLetter 6 = .ok (.iload_n 0, 1) := zrD zrw_cX8_isLetter_0 (i := 6) (by decide +kernel) rfl
theorem dX8_isLetter_7 : decode cX8_isLetter 7 = .ok (.bipush 122, 2) := zrD zrw_cX8_isLetter_0 (i := 7) (by decide +kernel) rfl
theorem dX8_isLetter_9 : decode cX8_isLetter 9 = .ok (.if_icmp .gt 7, 3) := zrD zrw_cX8_isLetter_0 (i := 9) (by decide +kernel) rfl
theorem dX8_isLetter_12 : decode cX8_isLetter 12 = .ok (.iconst 1, 1) := zrD zrw_cX8_isLetter_0 (i := 12) (by decide +kernel) rfl
theorem dX8_isLetter_13 : decode cX8_isLetter 13 = .ok (.goto 4, 3) := zrD zrw_cX8_isLetter_0 (i := 13) (by decide +kernel) rfl
theorem dX8_isLetter_16 : decode cX8_isLetter 16 = .ok (.iconst 0, 1) := zrD zrw_cX8_isLetter_0 (i := 16) (by decide +kernel) rfl
theorem dX8_isLetter_17 : decode cX8_isLetter 17 = .ok (.ireturn, 1) := zrD zrw_cX8_isLetter_0 (i := 17) (by decide +kernel) rfl
def zrk_cX8_isDigit_0 : ByteArray := .mk #[26, 16, 48, 161, 0, 13, 26, 16, 57, 163, 0, 7, 4, 167, 0, 4, 3, 172]
theorem zrw_cX8_isDigit_0 : zrW 0 cX8_isDigit zrk_cX8_isDigit_0 := by unfold zrW; decide +kernel
theorem dX8_isDigit_0 : decode cX8_isDigit 0 = .ok (.iload_n 0, 1) := zrD zrw_cX8_isDigit_0 (i := 0) (by decide +kernel) rfl
theorem dX8_isDigit_1 : decode cX8_isDigit 1 = .ok (.bipush 48, 2) := zrD zrw_cX8_isDigit_0 (i := 1) (by decide +kernel) rfl
theorem dX8_isDigit_3 : decode cX8_isDigit 3 = .ok (.if_icmp .lt 13, 3) := zrD zrw_cX8_isDigit_0 (i := 3) (by decide +kernel) rfl
theorem dX8_isDigit_6 : decode cX8_isDigit 6 = .ok (.iload_n 0, 1) := zrD zrw_cX8_isDigit_0 (i := 6) (by decide +kernel) rfl
theorem dX8_isDigit_7 : decode cX8_isDigit 7 = .ok (.bipush 57, 2) := zrD zrw_cX8_isDigit_0 (i := 7) (by decide +kernel) rfl
theorem dX8_isDigit_9 : decode cX8_isDigit 9 = .ok (.if_icmp .gt 7, 3) := zrD zrw_cX8_isDigit_0 (i := 9) (by decide +kernel) rfl
theorem dX8_isDigit_12 : decode cX8_isDigit 12 = .ok (.iconst 1, 1) := zrD zrw_cX8_isDigit_0 (i := 12) (by decide +kernel) rfl
theorem dX8_isDigit_13 : decode cX8_isDigit 13 = .ok (.goto 4, 3) := zrD zrw_cX8_isDigit_0 (i := 13) (by decide +kernel) rfl
theorem dX8_isDigit_16 : decode cX8_isDigit 16 = .ok (.iconst 0, 1) := zrD zrw_cX8_isDigit_0 (i := 16) (by decide +kernel) rfl
theorem dX8_isDigit_17 : decode cX8_isDigit 17 = .ok (.ireturn, 1) := zrD zrw_cX8_isDigit_0 (i := 17) (by decide +kernel) rfl
def zrk_cX9_init_0 : ByteArray := .mk #[42, 183, 0, 3, 42, 16, 12]
theorem zrw_cX9_init_0 : zrW 0 cX9_init zrk_cX9_init_0 := by unfold zrW; decide +kernel
theorem dX9_init_0 : decode cX9_init 0 = .ok (.aload_n 0, 1) := zrD zrw_cX9_init_0 (i := 0) (by decide +kernel) rfl
theorem dX9_init_1 : decode cX9_init 1 = .ok (.invokespecial 3, 3) := zrD zrw_cX9_init_0 (i := 1) (by decide +kernel) rfl
theorem dX9_init_4 : decode cX9_init 4 = .ok (.aload_n 0, 1) := zrD zrw_cX9_init_0 (i := 4) (by decide +kernel) rfl
theorem dX9_init_5 : decode cX9_init 5 = .ok (.bipush 12, 2) := zrD zrw_cX9_init_0 (i := 5) (by decide +kernel) rfl
theorem dX9_init_7 : decode cX9_init 7 = .ok (.newarray .long, 2) := by decide +kernel
def zrk_cX9_init_9 : ByteArray := .mk #[181, 0, 9, 42, 16, 12]
theorem zrw_cX9_init_9 : zrW 9 cX9_init zrk_cX9_init_9 := by unfold zrW; decide +kernel
theorem dX9_init_9 : decode cX9_init 9 = .ok (.putfield 9, 3) := zrD zrw_cX9_init_9 (i := 0) (by decide +kernel) rfl
theorem dX9_init_12 : decode cX9_init 12 = .ok (.aload_n 0, 1) := zrD zrw_cX9_init_9 (i := 3) (by decide +kernel) rfl
theorem dX9_init_13 : decode cX9_init 13 = .ok (.bipush 12, 2) := zrD zrw_cX9_init_9 (i := 4) (by decide +kernel) rfl
theorem dX9_init_15 : decode cX9_init 15 = .ok (.newarray .int, 2) := by decide +kernel
def zrk_cX9_init_17 : ByteArray := .mk #[181, 0, 15, 42, 16, 12]
theorem zrw_cX9_init_17 : zrW 17 cX9_init zrk_cX9_init_17 := by unfold zrW; decide +kernel
theorem dX9_init_17 : decode cX9_init 17 = .ok (.putfield 15, 3) := zrD zrw_cX9_init_17 (i := 0) (by decide +kernel) rfl
theorem dX9_init_20 : decode cX9_init 20 = .ok (.aload_n 0, 1) := zrD zrw_cX9_init_17 (i := 3) (by decide +kernel) rfl
theorem dX9_init_21 : decode cX9_init 21 = .ok (.bipush 12, 2) := zrD zrw_cX9_init_17 (i := 4) (by decide +kernel) rfl
theorem dX9_init_23 : decode cX9_init 23 = .ok (.newarray .int, 2) := by decide +kernel
def zrk_cX9_init_25 : ByteArray := .mk #[181, 0, 19, 42, 16, 12]
theorem zrw_cX9_init_25 : zrW 25 cX9_init zrk_cX9_init_25 := by unfold zrW; decide +kernel
theorem dX9_init_25 : decode cX9_init 25 = .ok (.putfield 19, 3) := zrD zrw_cX9_init_25 (i := 0) (by decide +kernel) rfl
theorem dX9_init_28 : decode cX9_init 28 = .ok (.aload_n 0, 1) := zrD zrw_cX9_init_25 (i := 3) (by decide +kernel) rfl
theorem dX9_init_29 : decode cX9_init 29 = .ok (.bipush 12, 2) := zrD zrw_cX9_init_25 (i := 4) (by decide +kernel) rfl
theorem dX9_init_31 : decode cX9_init 31 = .ok (.newarray .int, 2) := by decide +kernel
def zrk_cX9_init_33 : ByteArray := .mk #[181, 0, 22, 42, 16, 12]
theorem zrw_cX9_init_33 : zrW 33 cX9_init zrk_cX9_init_33 := by unfold zrW; decide +kernel
theorem dX9_init_33 : decode cX9_init 33 = .ok (.putfield 22, 3) := zrD zrw_cX9_init_33 (i := 0) (by decide +kernel) rfl
theorem dX9_init_36 : decode cX9_init 36 = .ok (.aload_n 0, 1) := zrD zrw_cX9_init_33 (i := 3) (by decide +kernel) rfl
theorem dX9_init_37 : decode cX9_init 37 = .ok (.bipush 12, 2) := zrD zrw_cX9_init_33 (i := 4) (by decide +kernel) rfl
theorem dX9_init_39 : decode cX9_init 39 = .ok (.newarray .int, 2) := by decide +kernel
def zrk_cX9_init_41 : ByteArray := .mk #[181, 0, 25, 42, 17, 1, 164]
theorem zrw_cX9_init_41 : zrW 41 cX9_init zrk_cX9_init_41 := by unfold zrW; decide +kernel
theorem dX9_init_41 : decode cX9_init 41 = .ok (.putfield 25, 3) := zrD zrw_cX9_init_41 (i := 0) (by decide +kernel) rfl
theorem dX9_init_44 : decode cX9_init 44 = .ok (.aload_n 0, 1) := zrD zrw_cX9_init_41 (i := 3) (by decide +kernel) rfl
theorem dX9_init_45 : decode cX9_init 45 = .ok (.sipush 420, 3) := zrD zrw_cX9_init_41 (i := 4) (by decide +kernel) rfl
theorem dX9_init_48 : decode cX9_init 48 = .ok (.newarray .int, 2) := by decide +kernel
def zrk_cX9_init_50 : ByteArray := .mk #[181, 0, 28, 42, 17, 1, 164]
theorem zrw_cX9_init_50 : zrW 50 cX9_init zrk_cX9_init_50 := by unfold zrW; decide +kernel
theorem dX9_init_50 : decode cX9_init 50 = .ok (.putfield 28, 3) := zrD zrw_cX9_init_50 (i := 0) (by decide +kernel) rfl
theorem dX9_init_53 : decode cX9_init 53 = .ok (.aload_n 0, 1) := zrD zrw_cX9_init_50 (i := 3) (by decide +kernel) rfl
theorem dX9_init_54 : decode cX9_init 54 = .ok (.sipush 420, 3) := zrD zrw_cX9_init_50 (i := 4) (by decide +kernel) rfl
theorem dX9_init_57 : decode cX9_init 57 = .ok (.newarray .int, 2) := by decide +kernel
def zrk_cX9_init_59 : ByteArray := .mk #[181, 0, 31, 42, 8]
theorem zrw_cX9_init_59 : zrW 59 cX9_init zrk_cX9_init_59 := by unfold zrW; decide +kernel
theorem dX9_init_59 : decode cX9_init 59 = .ok (.putfield 31, 3) := zrD zrw_cX9_init_59 (i := 0) (by decide +kernel) rfl
theorem dX9_init_62 : decode cX9_init 62 = .ok (.aload_n 0, 1) := zrD zrw_cX9_init_59 (i := 3) (by decide +kernel) rfl
theorem dX9_init_63 : decode cX9_init 63 = .ok (.iconst 5, 1) := zrD zrw_cX9_init_59 (i := 4) (by decide +kernel) rfl
theorem dX9_init_64 : decode cX9_init 64 = .ok (.newarray .int, 2) := by decide +kernel
def zrk_cX9_init_66 : ByteArray := .mk #[181, 0, 34, 42, 182, 0, 37, 177]
theorem zrw_cX9_init_66 : zrW 66 cX9_init zrk_cX9_init_66 := by unfold zrW; decide +kernel
theorem dX9_init_66 : decode cX9_init 66 = .ok (.putfield 34, 3) := zrD zrw_cX9_init_66 (i := 0) (by decide +kernel) rfl
theorem dX9_init_69 : decode cX9_init 69 = .ok (.aload_n 0, 1) := zrD zrw_cX9_init_66 (i := 3) (by decide +kernel) rfl
theorem dX9_init_70 : decode cX9_init 70 = .ok (.invokevirtual 37, 3) := zrD zrw_cX9_init_66 (i := 4) (by decide +kernel) rfl
theorem dX9_init_73 : decode cX9_init 73 = .ok (.return_, 1) := zrD zrw_cX9_init_66 (i := 7) (by decide +kernel) rfl
def zrk_cX9_clear_0 : ByteArray := .mk #[42, 3, 181, 0, 40, 42, 3, 181, 0, 44, 3, 60, 27, 8, 162, 0, 56, 178, 0, 47, 27, 46, 61, 42, 180, 0, 34, 27, 42, 180, 0, 44]
theorem zrw_cX9_clear_0 : zrW 0 cX9_clear zrk_cX9_clear_0 := by unfold zrW; decide +kernel
theorem dX9_clear_0 : decode cX9_clear 0 = .ok (.aload_n 0, 1) := zrD zrw_cX9_clear_0 (i := 0) (by decide +kernel) rfl
theorem dX9_clear_1 : decode cX9_clear 1 = .ok (.iconst 0, 1) := zrD zrw_cX9_clear_0 (i := 1) (by decide +kernel) rfl
theorem dX9_clear_2 : decode cX9_clear 2 = .ok (.putfield 40, 3) := zrD zrw_cX9_clear_0 (i := 2) (by decide +kernel) rfl
theorem dX9_clear_5 : decode cX9_clear 5 = .ok (.aload_n 0, 1) := zrD zrw_cX9_clear_0 (i := 5) (by decide +kernel) rfl
theorem dX9_clear_6 : decode cX9_clear 6 = .ok (.iconst 0, 1) := zrD zrw_cX9_clear_0 (i := 6) (by decide +kernel) rfl
theorem dX9_clear_7 : decode cX9_clear 7 = .ok (.putfield 44, 3) := zrD zrw_cX9_clear_0 (i := 7) (by decide +kernel) rfl
theorem dX9_clear_10 : decode cX9_clear 10 = .ok (.iconst 0, 1) := zrD zrw_cX9_clear_0 (i := 10) (by decide +kernel) rfl
theorem dX9_clear_11 : decode cX9_clear 11 = .ok (.istore_n 1, 1) := zrD zrw_cX9_clear_0 (i := 11) (by decide +kernel) rfl
theorem dX9_clear_12 : decode cX9_clear 12 = .ok (.iload_n 1, 1) := zrD zrw_cX9_clear_0 (i := 12) (by decide +kernel) rfl
theorem dX9_clear_13 : decode cX9_clear 13 = .ok (.iconst 5, 1) := zrD zrw_cX9_clear_0 (i := 13) (by decide +kernel) rfl
theorem dX9_clear_14 : decode cX9_clear 14 = .ok (.if_icmp .ge 56, 3) := zrD zrw_cX9_clear_0 (i := 14) (by decide +kernel) rfl
theorem dX9_clear_17 : decode cX9_clear 17 = .ok (.getstatic 47, 3) := zrD zrw_cX9_clear_0 (i := 17) (by decide +kernel) rfl
theorem dX9_clear_20 : decode cX9_clear 20 = .ok (.iload_n 1, 1) := zrD zrw_cX9_clear_0 (i := 20) (by decide +kernel) rfl
theorem dX9_clear_21 : decode cX9_clear 21 = .ok (.iaload, 1) := zrD zrw_cX9_clear_0 (i := 21) (by decide +kernel) rfl
theorem dX9_clear_22 : decode cX9_clear 22 = .ok (.istore_n 2, 1) := zrD zrw_cX9_clear_0 (i := 22) (by decide +kernel) rfl
theorem dX9_clear_23 : decode cX9_clear 23 = .ok (.aload_n 0, 1) := zrD zrw_cX9_clear_0 (i := 23) (by decide +kernel) rfl
theorem dX9_clear_24 : decode cX9_clear 24 = .ok (.getfield 34, 3) := zrD zrw_cX9_clear_0 (i := 24) (by decide +kernel) rfl
theorem dX9_clear_27 : decode cX9_clear 27 = .ok (.iload_n 1, 1) := zrD zrw_cX9_clear_0 (i := 27) (by decide +kernel) rfl
theorem dX9_clear_28 : decode cX9_clear 28 = .ok (.aload_n 0, 1) := zrD zrw_cX9_clear_0 (i := 28) (by decide +kernel) rfl
theorem dX9_clear_29 : decode cX9_clear 29 = .ok (.getfield 44, 3) := zrD zrw_cX9_clear_0 (i := 29) (by decide +kernel) rfl
def zrk_cX9_clear_32 : ByteArray := .mk #[79, 42, 28, 2, 160, 0, 7, 3, 167, 0, 4, 4, 28, 2, 160, 0, 7, 3, 167, 0, 4, 28, 182, 0, 52, 42, 16, 7, 3, 182, 0, 52]
theorem zrw_cX9_clear_32 : zrW 32 cX9_clear zrk_cX9_clear_32 := by unfold zrW; decide +kernel
theorem dX9_clear_32 : decode cX9_clear 32 = .ok (.iastore, 1) := zrD zrw_cX9_clear_32 (i := 0) (by decide +kernel) rfl
theorem dX9_clear_33 : decode cX9_clear 33 = .ok (.aload_n 0, 1) := zrD zrw_cX9_clear_32 (i := 1) (by decide +kernel) rfl
theorem dX9_clear_34 : decode cX9_clear 34 = .ok (.iload_n 2, 1) := zrD zrw_cX9_clear_32 (i := 2) (by decide +kernel) rfl
theorem dX9_clear_35 : decode cX9_clear 35 = .ok (.iconst (-1), 1) := zrD zrw_cX9_clear_32 (i := 3) (by decide +kernel) rfl
theorem dX9_clear_36 : decode cX9_clear 36 = .ok (.if_icmp .ne 7, 3) := zrD zrw_cX9_clear_32 (i := 4) (by decide +kernel) rfl
theorem dX9_clear_39 : decode cX9_clear 39 = .ok (.iconst 0, 1) := zrD zrw_cX9_clear_32 (i := 7) (by decide +kernel) rfl
theorem dX9_clear_40 : decode cX9_clear 40 = .ok (.goto 4, 3) := zrD zrw_cX9_clear_32 (i := 8) (by decide +kernel) rfl
theorem dX9_clear_43 : decode cX9_clear 43 = .ok (.iconst 1, 1) := zrD zrw_cX9_clear_32 (i := 11) (by decide +kernel) rfl
theorem dX9_clear_44 : decode cX9_clear 44 = .ok (.iload_n 2, 1) := zrD zrw_cX9_clear_32 (i := 12) (by decide +kernel) rfl
theorem dX9_clear_45 : decode cX9_clear 45 = .ok (.iconst (-1), 1) := zrD zrw_cX9_clear_32 (i := 13) (by decide +kernel) rfl
theorem dX9_clear_46 : decode cX9_clear 46 = .ok (.if_icmp .ne 7, 3) := zrD zrw_cX9_clear_32 (i := 14) (by decide +kernel) rfl
theorem dX9_clear_49 : decode cX9_clear 49 = .ok (.iconst 0, 1) := zrD zrw_cX9_clear_32 (i := 17) (by decide +kernel) rfl
theorem dX9_clear_50 : decode cX9_clear 50 = .ok (.goto 4, 3) := zrD zrw_cX9_clear_32 (i := 18) (by decide +kernel) rfl
theorem dX9_clear_53 : decode cX9_clear 53 = .ok (.iload_n 2, 1) := zrD zrw_cX9_clear_32 (i := 21) (by decide +kernel) rfl
theorem dX9_clear_54 : decode cX9_clear 54 = .ok (.invokevirtual 52, 3) := zrD zrw_cX9_clear_32 (i := 22) (by decide +kernel) rfl
theorem dX9_clear_57 : decode cX9_clear 57 = .ok (.aload_n 0, 1) := zrD zrw_cX9_clear_32 (i := 25) (by decide +kernel) rfl
theorem dX9_clear_58 : decode cX9_clear 58 = .ok (.bipush 7, 2) := zrD zrw_cX9_clear_32 (i := 26) (by decide +kernel) rfl
theorem dX9_clear_60 : decode cX9_clear 60 = .ok (.iconst 0, 1) := zrD zrw_cX9_clear_32 (i := 28) (by decide +kernel) rfl
theorem dX9_clear_61 : decode cX9_clear 61 = .ok (.invokevirtual 52, 3) := zrD zrw_cX9_clear_32 (i := 29) (by decide +kernel) rfl
def zrk_cX9_clear_64 : ByteArray := .mk #[132, 1, 1, 167, 255, 201, 42, 3, 181, 0, 56, 42, 3, 181, 0, 59, 42, 4, 181, 0, 62, 42, 3, 181, 0, 65, 177]
theorem zrw_cX9_clear_64 : zrW 64 cX9_clear zrk_cX9_clear_64 := by unfold zrW; decide +kernel
theorem dX9_clear_64 : decode cX9_clear 64 = .ok (.iinc 1 1, 3) := zrD zrw_cX9_clear_64 (i := 0) (by decide +kernel) rfl
theorem dX9_clear_67 : decode cX9_clear 67 = .ok (.goto (-55), 3) := zrD zrw_cX9_clear_64 (i := 3) (by decide +kernel) rfl
theorem dX9_clear_70 : decode cX9_clear 70 = .ok (.aload_n 0, 1) := zrD zrw_cX9_clear_64 (i := 6) (by decide +kernel) rfl
theorem dX9_clear_71 : decode cX9_clear 71 = .ok (.iconst 0, 1) := zrD zrw_cX9_clear_64 (i := 7) (by decide +kernel) rfl
theorem dX9_clear_72 : decode cX9_clear 72 = .ok (.putfield 56, 3) := zrD zrw_cX9_clear_64 (i := 8) (by decide +kernel) rfl
theorem dX9_clear_75 : decode cX9_clear 75 = .ok (.aload_n 0, 1) := zrD zrw_cX9_clear_64 (i := 11) (by decide +kernel) rfl
theorem dX9_clear_76 : decode cX9_clear 76 = .ok (.iconst 0, 1) := zrD zrw_cX9_clear_64 (i := 12) (by decide +kernel) rfl
theorem dX9_clear_77 : decode cX9_clear 77 = .ok (.putfield 59, 3) := zrD zrw_cX9_clear_64 (i := 13) (by decide +kernel) rfl
theorem dX9_clear_80 : decode cX9_clear 80 = .ok (.aload_n 0, 1) := zrD zrw_cX9_clear_64 (i := 16) (by decide +kernel) rfl
theorem dX9_clear_81 : decode cX9_clear 81 = .ok (.iconst 1, 1) := zrD zrw_cX9_clear_64 (i := 17) (by decide +kernel) rfl
theorem dX9_clear_82 : decode cX9_clear 82 = .ok (.putfield 62, 3) := zrD zrw_cX9_clear_64 (i := 18) (by decide +kernel) rfl
theorem dX9_clear_85 : decode cX9_clear 85 = .ok (.aload_n 0, 1) := zrD zrw_cX9_clear_64 (i := 21) (by decide +kernel) rfl
theorem dX9_clear_86 : decode cX9_clear 86 = .ok (.iconst 0, 1) := zrD zrw_cX9_clear_64 (i := 22) (by decide +kernel) rfl
theorem dX9_clear_87 : decode cX9_clear 87 = .ok (.putfield 65, 3) := zrD zrw_cX9_clear_64 (i := 23) (by decide +kernel) rfl
theorem dX9_clear_90 : decode cX9_clear 90 = .ok (.return_, 1) := zrD zrw_cX9_clear_64 (i := 26) (by decide +kernel) rfl
def zrk_cX9_addStep_0 : ByteArray := .mk #[42, 180, 0, 44, 17, 1, 164, 162, 0, 33, 42, 180, 0, 28, 42, 180, 0, 44, 27, 79, 42, 180, 0, 31, 42, 180, 0, 44, 28, 79, 42, 89]
theorem zrw_cX9_addStep_0 : zrW 0 cX9_addStep zrk_cX9_addStep_0 := by unfold zrW; decide +kernel
theorem dX9_addStep_0 : decode cX9_addStep 0 = .ok (.aload_n 0, 1) := zrD zrw_cX9_addStep_0 (i := 0) (by decide +kernel) rfl
theorem dX9_addStep_1 : decode cX9_addStep 1 = .ok (.getfield 44, 3) := zrD zrw_cX9_addStep_0 (i := 1) (by decide +kernel) rfl
theorem dX9_addStep_4 : decode cX9_addStep 4 = .ok (.sipush 420, 3) := zrD zrw_cX9_addStep_0 (i := 4) (by decide +kernel) rfl
theorem dX9_addStep_7 : decode cX9_addStep 7 = .ok (.if_icmp .ge 33, 3) := zrD zrw_cX9_addStep_0 (i := 7) (by decide +kernel) rfl
theorem dX9_addStep_10 : decode cX9_addStep 10 = .ok (.aload_n 0, 1) := zrD zrw_cX9_addStep_0 (i := 10) (by decide +kernel) rfl
theorem dX9_addStep_11 : decode cX9_addStep 11 = .ok (.getfield 28, 3) := zrD zrw_cX9_addStep_0 (i := 11) (by decide +kernel) rfl
theorem dX9_addStep_14 : decode cX9_addStep 14 = .ok (.aload_n 0, 1) := zrD zrw_cX9_addStep_0 (i := 14) (by decide +kernel) rfl
theorem dX9_addStep_15 : decode cX9_addStep 15 = .ok (.getfield 44, 3) := zrD zrw_cX9_addStep_0 (i := 15) (by decide +kernel) rfl
theorem dX9_addStep_18 : decode cX9_addStep 18 = .ok (.iload_n 1, 1) := zrD zrw_cX9_addStep_0 (i := 18) (by decide +kernel) rfl
theorem dX9_addStep_19 : decode cX9_addStep 19 = .ok (.iastore, 1) := zrD zrw_cX9_addStep_0 (i := 19) (by decide +kernel) rfl
theorem dX9_addStep_20 : decode cX9_addStep 20 = .ok (.aload_n 0, 1) := zrD zrw_cX9_addStep_0 (i := 20) (by decide +kernel) rfl
theorem dX9_addStep_21 : decode cX9_addStep 21 = .ok (.getfield 31, 3) := zrD zrw_cX9_addStep_0 (i := 21) (by decide +kernel) rfl
theorem dX9_addStep_24 : decode cX9_addStep 24 = .ok (.aload_n 0, 1) := zrD zrw_cX9_addStep_0 (i := 24) (by decide +kernel) rfl
theorem dX9_addStep_25 : decode cX9_addStep 25 = .ok (.getfield 44, 3) := zrD zrw_cX9_addStep_0 (i := 25) (by decide +kernel) rfl
theorem dX9_addStep_28 : decode cX9_addStep 28 = .ok (.iload_n 2, 1) := zrD zrw_cX9_addStep_0 (i := 28) (by decide +kernel) rfl
theorem dX9_addStep_29 : decode cX9_addStep 29 = .ok (.iastore, 1) := zrD zrw_cX9_addStep_0 (i := 29) (by decide +kernel) rfl
theorem dX9_addStep_30 : decode cX9_addStep 30 = .ok (.aload_n 0, 1) := zrD zrw_cX9_addStep_0 (i := 30) (by decide +kernel) rfl
theorem dX9_addStep_31 : decode cX9_addStep 31 = .ok (.dup, 1) := zrD zrw_cX9_addStep_0 (i := 31) (by decide +kernel) rfl
def zrk_cX9_addStep_32 : ByteArray := .mk #[180, 0, 44, 4, 96, 181, 0, 44, 177]
theorem zrw_cX9_addStep_32 : zrW 32 cX9_addStep zrk_cX9_addStep_32 := by unfold zrW; decide +kernel
theorem dX9_addStep_32 : decode cX9_addStep 32 = .ok (.getfield 44, 3) := zrD zrw_cX9_addStep_32 (i := 0) (by decide +kernel) rfl
theorem dX9_addStep_35 : decode cX9_addStep 35 = .ok (.iconst 1, 1) := zrD zrw_cX9_addStep_32 (i := 3) (by decide +kernel) rfl
theorem dX9_addStep_36 : decode cX9_addStep 36 = .ok (.iadd, 1) := zrD zrw_cX9_addStep_32 (i := 4) (by decide +kernel) rfl
theorem dX9_addStep_37 : decode cX9_addStep 37 = .ok (.putfield 44, 3) := zrD zrw_cX9_addStep_32 (i := 5) (by decide +kernel) rfl
theorem dX9_addStep_40 : decode cX9_addStep 40 = .ok (.return_, 1) := zrD zrw_cX9_addStep_32 (i := 8) (by decide +kernel) rfl
def zrk_cX9_setValue_0 : ByteArray := .mk #[27, 155, 0, 18, 27, 42, 180, 0, 44, 162, 0, 10, 42, 180, 0, 31, 27, 28, 79, 177]
theorem zrw_cX9_setValue_0 : zrW 0 cX9_setValue zrk_cX9_setValue_0 := by unfold zrW; decide +kernel
theorem dX9_setValue_0 : decode cX9_setValue 0 = .ok (.iload_n 1, 1) := zrD zrw_cX9_setValue_0 (i := 0) (by decide +kernel) rfl
theorem dX9_setValue_1 : decode cX9_setValue 1 = .ok (.ifCond .lt 18, 3) := zrD zrw_cX9_setValue_0 (i := 1) (by decide +kernel) rfl
theorem dX9_setValue_4 : decode cX9_setValue 4 = .ok (.iload_n 1, 1) := zrD zrw_cX9_setValue_0 (i := 4) (by decide +kernel) rfl
theorem dX9_setValue_5 : decode cX9_setValue 5 = .ok (.aload_n 0, 1) := zrD zrw_cX9_setValue_0 (i := 5) (by decide +kernel) rfl
theorem dX9_setValue_6 : decode cX9_setValue 6 = .ok (.getfield 44, 3) := zrD zrw_cX9_setValue_0 (i := 6) (by decide +kernel) rfl
theorem dX9_setValue_9 : decode cX9_setValue 9 = .ok (.if_icmp .ge 10, 3) := zrD zrw_cX9_setValue_0 (i := 9) (by decide +kernel) rfl
theorem dX9_setValue_12 : decode cX9_setValue 12 = .ok (.aload_n 0, 1) := zrD zrw_cX9_setValue_0 (i := 12) (by decide +kernel) rfl
theorem dX9_setValue_13 : decode cX9_setValue 13 = .ok (.getfield 31, 3) := zrD zrw_cX9_setValue_0 (i := 13) (by decide +kernel) rfl
theorem dX9_setValue_16 : decode cX9_setValue 16 = .ok (.iload_n 1, 1) := zrD zrw_cX9_setValue_0 (i := 16) (by decide +kernel) rfl
theorem dX9_setValue_17 : decode cX9_setValue 17 = .ok (.iload_n 2, 1) := zrD zrw_cX9_setValue_0 (i := 17) (by decide +kernel) rfl
theorem dX9_setValue_18 : decode cX9_setValue 18 = .ok (.iastore, 1) := zrD zrw_cX9_setValue_0 (i := 18) (by decide +kernel) rfl
theorem dX9_setValue_19 : decode cX9_setValue 19 = .ok (.return_, 1) := zrD zrw_cX9_setValue_0 (i := 19) (by decide +kernel) rfl
def zrk_cX9_setPlace_0 : ByteArray := .mk #[27, 155, 0, 39, 27, 16, 12, 162, 0, 33, 42, 180, 0, 15, 27, 28, 79, 42, 180, 0, 19, 27, 29, 79, 42, 180, 0, 22, 27, 21, 4, 79]
theorem zrw_cX9_setPlace_0 : zrW 0 cX9_setPlace zrk_cX9_setPlace_0 := by unfold zrW; decide +kernel
theorem dX9_setPlace_0 : decode cX9_setPlace 0 = .ok (.iload_n 1, 1) := zrD zrw_cX9_setPlace_0 (i := 0) (by decide +kernel) rfl
theorem dX9_setPlace_1 : decode cX9_setPlace 1 = .ok (.ifCond .lt 39, 3) := zrD zrw_cX9_setPlace_0 (i := 1) (by decide +kernel) rfl
theorem dX9_setPlace_4 : decode cX9_setPlace 4 = .ok (.iload_n 1, 1) := zrD zrw_cX9_setPlace_0 (i := 4) (by decide +kernel) rfl
theorem dX9_setPlace_5 : decode cX9_setPlace 5 = .ok (.bipush 12, 2) := zrD zrw_cX9_setPlace_0 (i := 5) (by decide +kernel) rfl
theorem dX9_setPlace_7 : decode cX9_setPlace 7 = .ok (.if_icmp .ge 33, 3) := zrD zrw_cX9_setPlace_0 (i := 7) (by decide +kernel) rfl
theorem dX9_setPlace_10 : decode cX9_setPlace 10 = .ok (.aload_n 0, 1) := zrD zrw_cX9_setPlace_0 (i := 10) (by decide +kernel) rfl
theorem dX9_setPlace_11 : decode cX9_setPlace 11 = .ok (.getfield 15, 3) := zrD zrw_cX9_setPlace_0 (i := 11) (by decide +kernel) rfl
theorem dX9_setPlace_14 : decode cX9_setPlace 14 = .ok (.iload_n 1, 1) := zrD zrw_cX9_setPlace_0 (i := 14) (by decide +kernel) rfl
theorem dX9_setPlace_15 : decode cX9_setPlace 15 = .ok (.iload_n 2, 1) := zrD zrw_cX9_setPlace_0 (i := 15) (by decide +kernel) rfl
theorem dX9_setPlace_16 : decode cX9_setPlace 16 = .ok (.iastore, 1) := zrD zrw_cX9_setPlace_0 (i := 16) (by decide +kernel) rfl
theorem dX9_setPlace_17 : decode cX9_setPlace 17 = .ok (.aload_n 0, 1) := zrD zrw_cX9_setPlace_0 (i := 17) (by decide +kernel) rfl
theorem dX9_setPlace_18 : decode cX9_setPlace 18 = .ok (.getfield 19, 3) := zrD zrw_cX9_setPlace_0 (i := 18) (by decide +kernel) rfl
theorem dX9_setPlace_21 : decode cX9_setPlace 21 = .ok (.iload_n 1, 1) := zrD zrw_cX9_setPlace_0 (i := 21) (by decide +kernel) rfl
theorem dX9_setPlace_22 : decode cX9_setPlace 22 = .ok (.iload_n 3, 1) := zrD zrw_cX9_setPlace_0 (i := 22) (by decide +kernel) rfl
theorem dX9_setPlace_23 : decode cX9_setPlace 23 = .ok (.iastore, 1) := zrD zrw_cX9_setPlace_0 (i := 23) (by decide +kernel) rfl
theorem dX9_setPlace_24 : decode cX9_setPlace 24 = .ok (.aload_n 0, 1) := zrD zrw_cX9_setPlace_0 (i := 24) (by decide +kernel) rfl
theorem dX9_setPlace_25 : decode cX9_setPlace 25 = .ok (.getfield 22, 3) := zrD zrw_cX9_setPlace_0 (i := 25) (by decide +kernel) rfl
theorem dX9_setPlace_28 : decode cX9_setPlace 28 = .ok (.iload_n 1, 1) := zrD zrw_cX9_setPlace_0 (i := 28) (by decide +kernel) rfl
theorem dX9_setPlace_29 : decode cX9_setPlace 29 = .ok (.iload 4, 2) := zrD zrw_cX9_setPlace_0 (i := 29) (by decide +kernel) rfl
theorem dX9_setPlace_31 : decode cX9_setPlace 31 = .ok (.iastore, 1) := zrD zrw_cX9_setPlace_0 (i := 31) (by decide +kernel) rfl
def zrk_cX9_setPlace_32 : ByteArray := .mk #[42, 180, 0, 25, 27, 21, 5, 79, 177]
theorem zrw_cX9_setPlace_32 : zrW 32 cX9_setPlace zrk_cX9_setPlace_32 := by unfold zrW; decide +kernel
theorem dX9_setPlace_32 : decode cX9_setPlace 32 = .ok (.aload_n 0, 1) := zrD zrw_cX9_setPlace_32 (i := 0) (by decide +kernel) rfl
theorem dX9_setPlace_33 : decode cX9_setPlace 33 = .ok (.getfield 25, 3) := zrD zrw_cX9_setPlace_32 (i := 1) (by decide +kernel) rfl
theorem dX9_setPlace_36 : decode cX9_setPlace 36 = .ok (.iload_n 1, 1) := zrD zrw_cX9_setPlace_32 (i := 4) (by decide +kernel) rfl
theorem dX9_setPlace_37 : decode cX9_setPlace 37 = .ok (.iload 5, 2) := zrD zrw_cX9_setPlace_32 (i := 5) (by decide +kernel) rfl
theorem dX9_setPlace_39 : decode cX9_setPlace 39 = .ok (.iastore, 1) := zrD zrw_cX9_setPlace_32 (i := 7) (by decide +kernel) rfl
theorem dX9_setPlace_40 : decode cX9_setPlace 40 = .ok (.return_, 1) := zrD zrw_cX9_setPlace_32 (i := 8) (by decide +kernel) rfl
def zrk_cX9_isStorm_0 : ByteArray := .mk #[16, 100, 27, 7, 28, 104, 184, 0, 68, 42, 180, 0, 56, 162, 0, 7, 4, 167, 0, 4, 3, 172]
theorem zrw_cX9_isStorm_0 : zrW 0 cX9_isStorm zrk_cX9_isStorm_0 := by unfold zrW; decide +kernel
theorem dX9_isStorm_0 : decode cX9_isStorm 0 = .ok (.bipush 100, 2) := zrD zrw_cX9_isStorm_0 (i := 0) (by decide +kernel) rfl
theorem dX9_isStorm_2 : decode cX9_isStorm 2 = .ok (.iload_n 1, 1) := zrD zrw_cX9_isStorm_0 (i := 2) (by decide +kernel) rfl
theorem dX9_isStorm_3 : decode cX9_isStorm 3 = .ok (.iconst 4, 1) := zrD zrw_cX9_isStorm_0 (i := 3) (by decide +kernel) rfl
theorem dX9_isStorm_4 : decode cX9_isStorm 4 = .ok (.iload_n 2, 1) := zrD zrw_cX9_isStorm_0 (i := 4) (by decide +kernel) rfl
theorem dX9_isStorm_5 : decode cX9_isStorm 5 = .ok (.imul, 1) := zrD zrw_cX9_isStorm_0 (i := 5) (by decide +kernel) rfl
theorem dX9_isStorm_6 : decode cX9_isStorm 6 = .ok (.invokestatic 68, 3) := zrD zrw_cX9_isStorm_0 (i := 6) (by decide +kernel) rfl
theorem dX9_isStorm_9 : decode cX9_isStorm 9 = .ok (.aload_n 0, 1) := zrD zrw_cX9_isStorm_0 (i := 9) (by decide +kernel) rfl
theorem dX9_isStorm_10 : decode cX9_isStorm 10 = .ok (.getfield 56, 3) := zrD zrw_cX9_isStorm_0 (i := 10) (by decide +kernel) rfl
theorem dX9_isStorm_13 : decode cX9_isStorm 13 = .ok (.if_icmp .ge 7, 3) := zrD zrw_cX9_isStorm_0 (i := 13) (by decide +kernel) rfl
theorem dX9_isStorm_16 : decode cX9_isStorm 16 = .ok (.iconst 1, 1) := zrD zrw_cX9_isStorm_0 (i := 16) (by decide +kernel) rfl
theorem dX9_isStorm_17 : decode cX9_isStorm 17 = .ok (.goto 4, 3) := zrD zrw_cX9_isStorm_0 (i := 17) (by decide +kernel) rfl
theorem dX9_isStorm_20 : decode cX9_isStorm 20 = .ok (.iconst 0, 1) := zrD zrw_cX9_isStorm_0 (i := 20) (by decide +kernel) rfl
theorem dX9_isStorm_21 : decode cX9_isStorm 21 = .ok (.ireturn, 1) := zrD zrw_cX9_isStorm_0 (i := 21) (by decide +kernel) rfl
def zrk_cX9_lot_0 : ByteArray := .mk #[27, 17, 0, 147, 184, 0, 72, 28, 184, 0, 72, 4, 124, 4, 26, 184, 0, 76, 112, 172]
theorem zrw_cX9_lot_0 : zrW 0 cX9_lot zrk_cX9_lot_0 := by unfold zrW; decide +kernel
theorem dX9_lot_0 : decode cX9_lot 0 = .ok (.iload_n 1, 1) := zrD zrw_cX9_lot_0 (i := 0) (by decide +kernel) rfl
theorem dX9_lot_1 : decode cX9_lot 1 = .ok (.sipush 147, 3) := zrD zrw_cX9_lot_0 (i := 1) (by decide +kernel) rfl
theorem dX9_lot_4 : decode cX9_lot 4 = .ok (.invokestatic 72, 3) := zrD zrw_cX9_lot_0 (i := 4) (by decide +kernel) rfl
theorem dX9_lot_7 : decode cX9_lot 7 = .ok (.iload_n 2, 1) := zrD zrw_cX9_lot_0 (i := 7) (by decide +kernel) rfl
theorem dX9_lot_8 : decode cX9_lot 8 = .ok (.invokestatic 72, 3) := zrD zrw_cX9_lot_0 (i := 8) (by decide +kernel) rfl
theorem dX9_lot_11 : decode cX9_lot 11 = .ok (.iconst 1, 1) := zrD zrw_cX9_lot_0 (i := 11) (by decide +kernel) rfl
theorem dX9_lot_12 : decode cX9_lot 12 = .ok (.iushr, 1) := zrD zrw_cX9_lot_0 (i := 12) (by decide +kernel) rfl
theorem dX9_lot_13 : decode cX9_lot 13 = .ok (.iconst 1, 1) := zrD zrw_cX9_lot_0 (i := 13) (by decide +kernel) rfl
theorem dX9_lot_14 : decode cX9_lot 14 = .ok (.iload_n 0, 1) := zrD zrw_cX9_lot_0 (i := 14) (by decide +kernel) rfl
theorem dX9_lot_15 : decode cX9_lot 15 = .ok (.invokestatic 76, 3) := zrD zrw_cX9_lot_0 (i := 15) (by decide +kernel) rfl
theorem dX9_lot_18 : decode cX9_lot 18 = .ok (.irem, 1) := zrD zrw_cX9_lot_0 (i := 18) (by decide +kernel) rfl
theorem dX9_lot_19 : decode cX9_lot 19 = .ok (.ireturn, 1) := zrD zrw_cX9_lot_0 (i := 19) (by decide +kernel) rfl
def zrk_cX9_stirred_0 : ByteArray := .mk #[26, 27, 130, 18, 81, 104, 17, 48, 57, 96, 61, 28, 28, 16, 15, 124, 130, 172]
theorem zrw_cX9_stirred_0 : zrW 0 cX9_stirred zrk_cX9_stirred_0 := by unfold zrW; decide +kernel
theorem dX9_stirred_0 : decode cX9_stirred 0 = .ok (.iload_n 0, 1) := zrD zrw_cX9_stirred_0 (i := 0) (by decide +kernel) rfl
theorem dX9_stirred_1 : decode cX9_stirred 1 = .ok (.iload_n 1, 1) := zrD zrw_cX9_stirred_0 (i := 1) (by decide +kernel) rfl
theorem dX9_stirred_2 : decode cX9_stirred 2 = .ok (.ixor, 1) := zrD zrw_cX9_stirred_0 (i := 2) (by decide +kernel) rfl
theorem dX9_stirred_3 : decode cX9_stirred 3 = .ok (.ldc 81, 2) := zrD zrw_cX9_stirred_0 (i := 3) (by decide +kernel) rfl
theorem dX9_stirred_5 : decode cX9_stirred 5 = .ok (.imul, 1) := zrD zrw_cX9_stirred_0 (i := 5) (by decide +kernel) rfl
theorem dX9_stirred_6 : decode cX9_stirred 6 = .ok (.sipush 12345, 3) := zrD zrw_cX9_stirred_0 (i := 6) (by decide +kernel) rfl
theorem dX9_stirred_9 : decode cX9_stirred 9 = .ok (.iadd, 1) := zrD zrw_cX9_stirred_0 (i := 9) (by decide +kernel) rfl
theorem dX9_stirred_10 : decode cX9_stirred 10 = .ok (.istore_n 2, 1) := zrD zrw_cX9_stirred_0 (i := 10) (by decide +kernel) rfl
theorem dX9_stirred_11 : decode cX9_stirred 11 = .ok (.iload_n 2, 1) := zrD zrw_cX9_stirred_0 (i := 11) (by decide +kernel) rfl
theorem dX9_stirred_12 : decode cX9_stirred 12 = .ok (.iload_n 2, 1) := zrD zrw_cX9_stirred_0 (i := 12) (by decide +kernel) rfl
theorem dX9_stirred_13 : decode cX9_stirred 13 = .ok (.bipush 15, 2) := zrD zrw_cX9_stirred_0 (i := 13) (by decide +kernel) rfl
theorem dX9_stirred_15 : decode cX9_stirred 15 = .ok (.iushr, 1) := zrD zrw_cX9_stirred_0 (i := 15) (by decide +kernel) rfl
theorem dX9_stirred_16 : decode cX9_stirred 16 = .ok (.ixor, 1) := zrD zrw_cX9_stirred_0 (i := 16) (by decide +kernel) rfl
theorem dX9_stirred_17 : decode cX9_stirred 17 = .ok (.ireturn, 1) := zrD zrw_cX9_stirred_0 (i := 17) (by decide +kernel) rfl
end
