/-! A DECODER THAT THE KERNEL RUNS FAST: guided by the resolved instruction, over the bytes as numbers -/
def eg_by (bs : ByteArray) : List Nat := bs.data.toList.map UInt8.toNat
theorem eg_rd {bs : ByteArray} {p b : Nat} {r : List Nat} (h : (eg_by bs).drop p = b :: r) : (Reader.u1 (ε := DecodeError)) bs p = .ok (b, p + 1) ∧ (eg_by bs).drop (p + 1) = r := by
  have h0 : (eg_by bs)[p]? = some b := by
    have := congrArg (fun l => l[0]?) h
    simpa using this
  have h1 : p < bs.data.toList.length := by
    have := (List.getElem?_eq_some_iff.mp h0).1
    simpa [eg_by] using this
  have hs : p < bs.size := by
    have e : bs.data.toList.length = bs.size := Array.length_toList
    omega
  have h2 : (bs[p]).toNat = b := by
    simp only [eg_by, List.getElem?_map, List.getElem?_eq_getElem h1, Option.map_some, Option.some.injEq] at h0
    rw [← h0]
    rfl
  refine ⟨?_, ?_⟩
  · show (if h : p < bs.size then (do set (p + 1); pure (bs[p]).toNat : Reader DecodeError Nat) else throw (HasTruncated.truncated p)) bs p = _
    rw [dif_pos hs]
    show Except.ok ((bs[p]).toNat, p + 1) = _
    rw [h2]
  · have := congrArg (List.drop 1) h
    simpa [List.drop_drop] using this
theorem eg_bd {α β : Type} {x : Reader DecodeError α} {f : α → Reader DecodeError β} {bs : ByteArray} {p q : Nat} {a : α} {R : Except DecodeError (β × Nat)} (h : x bs p = .ok (a, q)) (k : f a bs q = R) : (x >>= f) bs p = R := by
  show Except.bind (x bs p) (fun y => f y.1 bs y.2) = R
  rw [h]
  exact k
theorem eg_mp {α β : Type} {x : Reader DecodeError α} {f : α → β} {bs : ByteArray} {p q : Nat} {a : α} (h : x bs p = .ok (a, q)) : (f <$> x) bs p = .ok (f a, q) := by
  show Except.bind (x bs p) _ = _
  rw [h]
  rfl
theorem eg_r2 {bs : ByteArray} {p a b : Nat} {r : List Nat} (h : (eg_by bs).drop p = a :: b :: r) : (Reader.u2 (ε := DecodeError)) bs p = .ok (a * 256 + b, p + 2) :=
  eg_bd (eg_rd h).1 (eg_bd (eg_rd (eg_rd h).2).1 rfl)
theorem eg_dc {bs : ByteArray} {p q n : Nat} {I : Instr} (h : Decoder.instr p bs p = .ok (I, q)) (hn : q - p = n) : decode bs p = .ok (I, n) := by
  show Except.bind (Decoder.instr p bs p) _ = _
  rw [h, ← hn]
  rfl
theorem eg_d_iadd {bs : ByteArray} {p : Nat} {r : List Nat} (h : (eg_by bs).drop p = 96 :: r) : decode bs p = .ok (.iadd, 1) := eg_dc (eg_bd (eg_rd h).1 (R := (Except.ok (.iadd, p + 1) : Except DecodeError (Instr × Nat))) rfl) (by omega)
theorem eg_d_isub {bs : ByteArray} {p : Nat} {r : List Nat} (h : (eg_by bs).drop p = 100 :: r) : decode bs p = .ok (.isub, 1) := eg_dc (eg_bd (eg_rd h).1 (R := (Except.ok (.isub, p + 1) : Except DecodeError (Instr × Nat))) rfl) (by omega)
theorem eg_d_imul {bs : ByteArray} {p : Nat} {r : List Nat} (h : (eg_by bs).drop p = 104 :: r) : decode bs p = .ok (.imul, 1) := eg_dc (eg_bd (eg_rd h).1 (R := (Except.ok (.imul, p + 1) : Except DecodeError (Instr × Nat))) rfl) (by omega)
theorem eg_d_idiv {bs : ByteArray} {p : Nat} {r : List Nat} (h : (eg_by bs).drop p = 108 :: r) : decode bs p = .ok (.idiv, 1) := eg_dc (eg_bd (eg_rd h).1 (R := (Except.ok (.idiv, p + 1) : Except DecodeError (Instr × Nat))) rfl) (by omega)
theorem eg_d_irem {bs : ByteArray} {p : Nat} {r : List Nat} (h : (eg_by bs).drop p = 112 :: r) : decode bs p = .ok (.irem, 1) := eg_dc (eg_bd (eg_rd h).1 (R := (Except.ok (.irem, p + 1) : Except DecodeError (Instr × Nat))) rfl) (by omega)
theorem eg_d_ineg {bs : ByteArray} {p : Nat} {r : List Nat} (h : (eg_by bs).drop p = 116 :: r) : decode bs p = .ok (.ineg, 1) := eg_dc (eg_bd (eg_rd h).1 (R := (Except.ok (.ineg, p + 1) : Except DecodeError (Instr × Nat))) rfl) (by omega)
theorem eg_d_iand {bs : ByteArray} {p : Nat} {r : List Nat} (h : (eg_by bs).drop p = 126 :: r) : decode bs p = .ok (.iand, 1) := eg_dc (eg_bd (eg_rd h).1 (R := (Except.ok (.iand, p + 1) : Except DecodeError (Instr × Nat))) rfl) (by omega)
theorem eg_d_ishr {bs : ByteArray} {p : Nat} {r : List Nat} (h : (eg_by bs).drop p = 122 :: r) : decode bs p = .ok (.ishr, 1) := eg_dc (eg_bd (eg_rd h).1 (R := (Except.ok (.ishr, p + 1) : Except DecodeError (Instr × Nat))) rfl) (by omega)
theorem eg_d_ladd {bs : ByteArray} {p : Nat} {r : List Nat} (h : (eg_by bs).drop p = 97 :: r) : decode bs p = .ok (.ladd, 1) := eg_dc (eg_bd (eg_rd h).1 (R := (Except.ok (.ladd, p + 1) : Except DecodeError (Instr × Nat))) rfl) (by omega)
theorem eg_d_lsub {bs : ByteArray} {p : Nat} {r : List Nat} (h : (eg_by bs).drop p = 101 :: r) : decode bs p = .ok (.lsub, 1) := eg_dc (eg_bd (eg_rd h).1 (R := (Except.ok (.lsub, p + 1) : Except DecodeError (Instr × Nat))) rfl) (by omega)
theorem eg_d_lmul {bs : ByteArray} {p : Nat} {r : List Nat} (h : (eg_by bs).drop p = 105 :: r) : decode bs p = .ok (.lmul, 1) := eg_dc (eg_bd (eg_rd h).1 (R := (Except.ok (.lmul, p + 1) : Except DecodeError (Instr × Nat))) rfl) (by omega)
theorem eg_d_ldiv {bs : ByteArray} {p : Nat} {r : List Nat} (h : (eg_by bs).drop p = 109 :: r) : decode bs p = .ok (.ldiv, 1) := eg_dc (eg_bd (eg_rd h).1 (R := (Except.ok (.ldiv, p + 1) : Except DecodeError (Instr × Nat))) rfl) (by omega)
theorem eg_d_lrem {bs : ByteArray} {p : Nat} {r : List Nat} (h : (eg_by bs).drop p = 113 :: r) : decode bs p = .ok (.lrem, 1) := eg_dc (eg_bd (eg_rd h).1 (R := (Except.ok (.lrem, p + 1) : Except DecodeError (Instr × Nat))) rfl) (by omega)
theorem eg_d_lneg {bs : ByteArray} {p : Nat} {r : List Nat} (h : (eg_by bs).drop p = 117 :: r) : decode bs p = .ok (.lneg, 1) := eg_dc (eg_bd (eg_rd h).1 (R := (Except.ok (.lneg, p + 1) : Except DecodeError (Instr × Nat))) rfl) (by omega)
theorem eg_d_land {bs : ByteArray} {p : Nat} {r : List Nat} (h : (eg_by bs).drop p = 127 :: r) : decode bs p = .ok (.land, 1) := eg_dc (eg_bd (eg_rd h).1 (R := (Except.ok (.land, p + 1) : Except DecodeError (Instr × Nat))) rfl) (by omega)
theorem eg_d_lor {bs : ByteArray} {p : Nat} {r : List Nat} (h : (eg_by bs).drop p = 129 :: r) : decode bs p = .ok (.lor, 1) := eg_dc (eg_bd (eg_rd h).1 (R := (Except.ok (.lor, p + 1) : Except DecodeError (Instr × Nat))) rfl) (by omega)
theorem eg_d_lshl {bs : ByteArray} {p : Nat} {r : List Nat} (h : (eg_by bs).drop p = 121 :: r) : decode bs p = .ok (.lshl, 1) := eg_dc (eg_bd (eg_rd h).1 (R := (Except.ok (.lshl, p + 1) : Except DecodeError (Instr × Nat))) rfl) (by omega)
theorem eg_d_lshr {bs : ByteArray} {p : Nat} {r : List Nat} (h : (eg_by bs).drop p = 123 :: r) : decode bs p = .ok (.lshr, 1) := eg_dc (eg_bd (eg_rd h).1 (R := (Except.ok (.lshr, p + 1) : Except DecodeError (Instr × Nat))) rfl) (by omega)
theorem eg_d_lcmp {bs : ByteArray} {p : Nat} {r : List Nat} (h : (eg_by bs).drop p = 148 :: r) : decode bs p = .ok (.lcmp, 1) := eg_dc (eg_bd (eg_rd h).1 (R := (Except.ok (.lcmp, p + 1) : Except DecodeError (Instr × Nat))) rfl) (by omega)
theorem eg_d_i2l {bs : ByteArray} {p : Nat} {r : List Nat} (h : (eg_by bs).drop p = 133 :: r) : decode bs p = .ok (.i2l, 1) := eg_dc (eg_bd (eg_rd h).1 (R := (Except.ok (.i2l, p + 1) : Except DecodeError (Instr × Nat))) rfl) (by omega)
theorem eg_d_l2i {bs : ByteArray} {p : Nat} {r : List Nat} (h : (eg_by bs).drop p = 136 :: r) : decode bs p = .ok (.l2i, 1) := eg_dc (eg_bd (eg_rd h).1 (R := (Except.ok (.l2i, p + 1) : Except DecodeError (Instr × Nat))) rfl) (by omega)
theorem eg_d_i2b {bs : ByteArray} {p : Nat} {r : List Nat} (h : (eg_by bs).drop p = 145 :: r) : decode bs p = .ok (.i2b, 1) := eg_dc (eg_bd (eg_rd h).1 (R := (Except.ok (.i2b, p + 1) : Except DecodeError (Instr × Nat))) rfl) (by omega)
theorem eg_d_i2s {bs : ByteArray} {p : Nat} {r : List Nat} (h : (eg_by bs).drop p = 147 :: r) : decode bs p = .ok (.i2s, 1) := eg_dc (eg_bd (eg_rd h).1 (R := (Except.ok (.i2s, p + 1) : Except DecodeError (Instr × Nat))) rfl) (by omega)
theorem eg_d_i2c {bs : ByteArray} {p : Nat} {r : List Nat} (h : (eg_by bs).drop p = 146 :: r) : decode bs p = .ok (.i2c, 1) := eg_dc (eg_bd (eg_rd h).1 (R := (Except.ok (.i2c, p + 1) : Except DecodeError (Instr × Nat))) rfl) (by omega)
theorem eg_d_dup {bs : ByteArray} {p : Nat} {r : List Nat} (h : (eg_by bs).drop p = 89 :: r) : decode bs p = .ok (.dup, 1) := eg_dc (eg_bd (eg_rd h).1 (R := (Except.ok (.dup, p + 1) : Except DecodeError (Instr × Nat))) rfl) (by omega)
theorem eg_d_dup2 {bs : ByteArray} {p : Nat} {r : List Nat} (h : (eg_by bs).drop p = 92 :: r) : decode bs p = .ok (.dup2, 1) := eg_dc (eg_bd (eg_rd h).1 (R := (Except.ok (.dup2, p + 1) : Except DecodeError (Instr × Nat))) rfl) (by omega)
theorem eg_d_pop {bs : ByteArray} {p : Nat} {r : List Nat} (h : (eg_by bs).drop p = 87 :: r) : decode bs p = .ok (.pop, 1) := eg_dc (eg_bd (eg_rd h).1 (R := (Except.ok (.pop, p + 1) : Except DecodeError (Instr × Nat))) rfl) (by omega)
theorem eg_d_arraylength {bs : ByteArray} {p : Nat} {r : List Nat} (h : (eg_by bs).drop p = 190 :: r) : decode bs p = .ok (.arraylength, 1) := eg_dc (eg_bd (eg_rd h).1 (R := (Except.ok (.arraylength, p + 1) : Except DecodeError (Instr × Nat))) rfl) (by omega)
theorem eg_d_iaload {bs : ByteArray} {p : Nat} {r : List Nat} (h : (eg_by bs).drop p = 46 :: r) : decode bs p = .ok (.iaload, 1) := eg_dc (eg_bd (eg_rd h).1 (R := (Except.ok (.iaload, p + 1) : Except DecodeError (Instr × Nat))) rfl) (by omega)
theorem eg_d_laload {bs : ByteArray} {p : Nat} {r : List Nat} (h : (eg_by bs).drop p = 47 :: r) : decode bs p = .ok (.laload, 1) := eg_dc (eg_bd (eg_rd h).1 (R := (Except.ok (.laload, p + 1) : Except DecodeError (Instr × Nat))) rfl) (by omega)
theorem eg_d_baload {bs : ByteArray} {p : Nat} {r : List Nat} (h : (eg_by bs).drop p = 51 :: r) : decode bs p = .ok (.baload, 1) := eg_dc (eg_bd (eg_rd h).1 (R := (Except.ok (.baload, p + 1) : Except DecodeError (Instr × Nat))) rfl) (by omega)
theorem eg_d_saload {bs : ByteArray} {p : Nat} {r : List Nat} (h : (eg_by bs).drop p = 53 :: r) : decode bs p = .ok (.saload, 1) := eg_dc (eg_bd (eg_rd h).1 (R := (Except.ok (.saload, p + 1) : Except DecodeError (Instr × Nat))) rfl) (by omega)
theorem eg_d_aaload {bs : ByteArray} {p : Nat} {r : List Nat} (h : (eg_by bs).drop p = 50 :: r) : decode bs p = .ok (.aaload, 1) := eg_dc (eg_bd (eg_rd h).1 (R := (Except.ok (.aaload, p + 1) : Except DecodeError (Instr × Nat))) rfl) (by omega)
theorem eg_d_iastore {bs : ByteArray} {p : Nat} {r : List Nat} (h : (eg_by bs).drop p = 79 :: r) : decode bs p = .ok (.iastore, 1) := eg_dc (eg_bd (eg_rd h).1 (R := (Except.ok (.iastore, p + 1) : Except DecodeError (Instr × Nat))) rfl) (by omega)
theorem eg_d_lastore {bs : ByteArray} {p : Nat} {r : List Nat} (h : (eg_by bs).drop p = 80 :: r) : decode bs p = .ok (.lastore, 1) := eg_dc (eg_bd (eg_rd h).1 (R := (Except.ok (.lastore, p + 1) : Except DecodeError (Instr × Nat))) rfl) (by omega)
theorem eg_d_bastore {bs : ByteArray} {p : Nat} {r : List Nat} (h : (eg_by bs).drop p = 84 :: r) : decode bs p = .ok (.bastore, 1) := eg_dc (eg_bd (eg_rd h).1 (R := (Except.ok (.bastore, p + 1) : Except DecodeError (Instr × Nat))) rfl) (by omega)
theorem eg_d_sastore {bs : ByteArray} {p : Nat} {r : List Nat} (h : (eg_by bs).drop p = 86 :: r) : decode bs p = .ok (.sastore, 1) := eg_dc (eg_bd (eg_rd h).1 (R := (Except.ok (.sastore, p + 1) : Except DecodeError (Instr × Nat))) rfl) (by omega)
theorem eg_d_ireturn {bs : ByteArray} {p : Nat} {r : List Nat} (h : (eg_by bs).drop p = 172 :: r) : decode bs p = .ok (.ireturn, 1) := eg_dc (eg_bd (eg_rd h).1 (R := (Except.ok (.ireturn, p + 1) : Except DecodeError (Instr × Nat))) rfl) (by omega)
theorem eg_d_lreturn {bs : ByteArray} {p : Nat} {r : List Nat} (h : (eg_by bs).drop p = 173 :: r) : decode bs p = .ok (.lreturn, 1) := eg_dc (eg_bd (eg_rd h).1 (R := (Except.ok (.lreturn, p + 1) : Except DecodeError (Instr × Nat))) rfl) (by omega)
theorem eg_d_areturn {bs : ByteArray} {p : Nat} {r : List Nat} (h : (eg_by bs).drop p = 176 :: r) : decode bs p = .ok (.areturn, 1) := eg_dc (eg_bd (eg_rd h).1 (R := (Except.ok (.areturn, p + 1) : Except DecodeError (Instr × Nat))) rfl) (by omega)
theorem eg_d_return_ {bs : ByteArray} {p : Nat} {r : List Nat} (h : (eg_by bs).drop p = 177 :: r) : decode bs p = .ok (.return_, 1) := eg_dc (eg_bd (eg_rd h).1 (R := (Except.ok (.return_, p + 1) : Except DecodeError (Instr × Nat))) rfl) (by omega)
theorem eg_d_iconst0 {bs : ByteArray} {p : Nat} {r : List Nat} (h : (eg_by bs).drop p = 2 :: r) : decode bs p = .ok (.iconst (-1), 1) := eg_dc (eg_bd (eg_rd h).1 (R := (Except.ok (.iconst (-1), p + 1) : Except DecodeError (Instr × Nat))) rfl) (by omega)
theorem eg_d_iconst1 {bs : ByteArray} {p : Nat} {r : List Nat} (h : (eg_by bs).drop p = 3 :: r) : decode bs p = .ok (.iconst (0), 1) := eg_dc (eg_bd (eg_rd h).1 (R := (Except.ok (.iconst (0), p + 1) : Except DecodeError (Instr × Nat))) rfl) (by omega)
theorem eg_d_iconst2 {bs : ByteArray} {p : Nat} {r : List Nat} (h : (eg_by bs).drop p = 4 :: r) : decode bs p = .ok (.iconst (1), 1) := eg_dc (eg_bd (eg_rd h).1 (R := (Except.ok (.iconst (1), p + 1) : Except DecodeError (Instr × Nat))) rfl) (by omega)
theorem eg_d_iconst3 {bs : ByteArray} {p : Nat} {r : List Nat} (h : (eg_by bs).drop p = 5 :: r) : decode bs p = .ok (.iconst (2), 1) := eg_dc (eg_bd (eg_rd h).1 (R := (Except.ok (.iconst (2), p + 1) : Except DecodeError (Instr × Nat))) rfl) (by omega)
theorem eg_d_iconst4 {bs : ByteArray} {p : Nat} {r : List Nat} (h : (eg_by bs).drop p = 6 :: r) : decode bs p = .ok (.iconst (3), 1) := eg_dc (eg_bd (eg_rd h).1 (R := (Except.ok (.iconst (3), p + 1) : Except DecodeError (Instr × Nat))) rfl) (by omega)
theorem eg_d_iconst5 {bs : ByteArray} {p : Nat} {r : List Nat} (h : (eg_by bs).drop p = 7 :: r) : decode bs p = .ok (.iconst (4), 1) := eg_dc (eg_bd (eg_rd h).1 (R := (Except.ok (.iconst (4), p + 1) : Except DecodeError (Instr × Nat))) rfl) (by omega)
theorem eg_d_iconst6 {bs : ByteArray} {p : Nat} {r : List Nat} (h : (eg_by bs).drop p = 8 :: r) : decode bs p = .ok (.iconst (5), 1) := eg_dc (eg_bd (eg_rd h).1 (R := (Except.ok (.iconst (5), p + 1) : Except DecodeError (Instr × Nat))) rfl) (by omega)
theorem eg_d_lconst0 {bs : ByteArray} {p : Nat} {r : List Nat} (h : (eg_by bs).drop p = 9 :: r) : decode bs p = .ok (.lconst 0, 1) := eg_dc (eg_bd (eg_rd h).1 (R := (Except.ok (.lconst 0, p + 1) : Except DecodeError (Instr × Nat))) rfl) (by omega)
theorem eg_d_lconst1 {bs : ByteArray} {p : Nat} {r : List Nat} (h : (eg_by bs).drop p = 10 :: r) : decode bs p = .ok (.lconst 1, 1) := eg_dc (eg_bd (eg_rd h).1 (R := (Except.ok (.lconst 1, p + 1) : Except DecodeError (Instr × Nat))) rfl) (by omega)
theorem eg_d_iload_0 {bs : ByteArray} {p : Nat} {r : List Nat} (h : (eg_by bs).drop p = 26 :: r) : decode bs p = .ok (.iload_n 0, 1) := eg_dc (eg_bd (eg_rd h).1 (R := (Except.ok (.iload_n 0, p + 1) : Except DecodeError (Instr × Nat))) rfl) (by omega)
theorem eg_d_iload_1 {bs : ByteArray} {p : Nat} {r : List Nat} (h : (eg_by bs).drop p = 27 :: r) : decode bs p = .ok (.iload_n 1, 1) := eg_dc (eg_bd (eg_rd h).1 (R := (Except.ok (.iload_n 1, p + 1) : Except DecodeError (Instr × Nat))) rfl) (by omega)
theorem eg_d_iload_2 {bs : ByteArray} {p : Nat} {r : List Nat} (h : (eg_by bs).drop p = 28 :: r) : decode bs p = .ok (.iload_n 2, 1) := eg_dc (eg_bd (eg_rd h).1 (R := (Except.ok (.iload_n 2, p + 1) : Except DecodeError (Instr × Nat))) rfl) (by omega)
theorem eg_d_iload_3 {bs : ByteArray} {p : Nat} {r : List Nat} (h : (eg_by bs).drop p = 29 :: r) : decode bs p = .ok (.iload_n 3, 1) := eg_dc (eg_bd (eg_rd h).1 (R := (Except.ok (.iload_n 3, p + 1) : Except DecodeError (Instr × Nat))) rfl) (by omega)
theorem eg_d_lload_0 {bs : ByteArray} {p : Nat} {r : List Nat} (h : (eg_by bs).drop p = 30 :: r) : decode bs p = .ok (.lload_n 0, 1) := eg_dc (eg_bd (eg_rd h).1 (R := (Except.ok (.lload_n 0, p + 1) : Except DecodeError (Instr × Nat))) rfl) (by omega)
theorem eg_d_lload_1 {bs : ByteArray} {p : Nat} {r : List Nat} (h : (eg_by bs).drop p = 31 :: r) : decode bs p = .ok (.lload_n 1, 1) := eg_dc (eg_bd (eg_rd h).1 (R := (Except.ok (.lload_n 1, p + 1) : Except DecodeError (Instr × Nat))) rfl) (by omega)
theorem eg_d_lload_2 {bs : ByteArray} {p : Nat} {r : List Nat} (h : (eg_by bs).drop p = 32 :: r) : decode bs p = .ok (.lload_n 2, 1) := eg_dc (eg_bd (eg_rd h).1 (R := (Except.ok (.lload_n 2, p + 1) : Except DecodeError (Instr × Nat))) rfl) (by omega)
theorem eg_d_lload_3 {bs : ByteArray} {p : Nat} {r : List Nat} (h : (eg_by bs).drop p = 33 :: r) : decode bs p = .ok (.lload_n 3, 1) := eg_dc (eg_bd (eg_rd h).1 (R := (Except.ok (.lload_n 3, p + 1) : Except DecodeError (Instr × Nat))) rfl) (by omega)
theorem eg_d_aload_0 {bs : ByteArray} {p : Nat} {r : List Nat} (h : (eg_by bs).drop p = 42 :: r) : decode bs p = .ok (.aload_n 0, 1) := eg_dc (eg_bd (eg_rd h).1 (R := (Except.ok (.aload_n 0, p + 1) : Except DecodeError (Instr × Nat))) rfl) (by omega)
theorem eg_d_aload_1 {bs : ByteArray} {p : Nat} {r : List Nat} (h : (eg_by bs).drop p = 43 :: r) : decode bs p = .ok (.aload_n 1, 1) := eg_dc (eg_bd (eg_rd h).1 (R := (Except.ok (.aload_n 1, p + 1) : Except DecodeError (Instr × Nat))) rfl) (by omega)
theorem eg_d_aload_2 {bs : ByteArray} {p : Nat} {r : List Nat} (h : (eg_by bs).drop p = 44 :: r) : decode bs p = .ok (.aload_n 2, 1) := eg_dc (eg_bd (eg_rd h).1 (R := (Except.ok (.aload_n 2, p + 1) : Except DecodeError (Instr × Nat))) rfl) (by omega)
theorem eg_d_aload_3 {bs : ByteArray} {p : Nat} {r : List Nat} (h : (eg_by bs).drop p = 45 :: r) : decode bs p = .ok (.aload_n 3, 1) := eg_dc (eg_bd (eg_rd h).1 (R := (Except.ok (.aload_n 3, p + 1) : Except DecodeError (Instr × Nat))) rfl) (by omega)
theorem eg_d_istore_0 {bs : ByteArray} {p : Nat} {r : List Nat} (h : (eg_by bs).drop p = 59 :: r) : decode bs p = .ok (.istore_n 0, 1) := eg_dc (eg_bd (eg_rd h).1 (R := (Except.ok (.istore_n 0, p + 1) : Except DecodeError (Instr × Nat))) rfl) (by omega)
theorem eg_d_istore_1 {bs : ByteArray} {p : Nat} {r : List Nat} (h : (eg_by bs).drop p = 60 :: r) : decode bs p = .ok (.istore_n 1, 1) := eg_dc (eg_bd (eg_rd h).1 (R := (Except.ok (.istore_n 1, p + 1) : Except DecodeError (Instr × Nat))) rfl) (by omega)
theorem eg_d_istore_2 {bs : ByteArray} {p : Nat} {r : List Nat} (h : (eg_by bs).drop p = 61 :: r) : decode bs p = .ok (.istore_n 2, 1) := eg_dc (eg_bd (eg_rd h).1 (R := (Except.ok (.istore_n 2, p + 1) : Except DecodeError (Instr × Nat))) rfl) (by omega)
theorem eg_d_istore_3 {bs : ByteArray} {p : Nat} {r : List Nat} (h : (eg_by bs).drop p = 62 :: r) : decode bs p = .ok (.istore_n 3, 1) := eg_dc (eg_bd (eg_rd h).1 (R := (Except.ok (.istore_n 3, p + 1) : Except DecodeError (Instr × Nat))) rfl) (by omega)
theorem eg_d_lstore_0 {bs : ByteArray} {p : Nat} {r : List Nat} (h : (eg_by bs).drop p = 63 :: r) : decode bs p = .ok (.lstore_n 0, 1) := eg_dc (eg_bd (eg_rd h).1 (R := (Except.ok (.lstore_n 0, p + 1) : Except DecodeError (Instr × Nat))) rfl) (by omega)
theorem eg_d_lstore_1 {bs : ByteArray} {p : Nat} {r : List Nat} (h : (eg_by bs).drop p = 64 :: r) : decode bs p = .ok (.lstore_n 1, 1) := eg_dc (eg_bd (eg_rd h).1 (R := (Except.ok (.lstore_n 1, p + 1) : Except DecodeError (Instr × Nat))) rfl) (by omega)
theorem eg_d_lstore_2 {bs : ByteArray} {p : Nat} {r : List Nat} (h : (eg_by bs).drop p = 65 :: r) : decode bs p = .ok (.lstore_n 2, 1) := eg_dc (eg_bd (eg_rd h).1 (R := (Except.ok (.lstore_n 2, p + 1) : Except DecodeError (Instr × Nat))) rfl) (by omega)
theorem eg_d_lstore_3 {bs : ByteArray} {p : Nat} {r : List Nat} (h : (eg_by bs).drop p = 66 :: r) : decode bs p = .ok (.lstore_n 3, 1) := eg_dc (eg_bd (eg_rd h).1 (R := (Except.ok (.lstore_n 3, p + 1) : Except DecodeError (Instr × Nat))) rfl) (by omega)
theorem eg_d_astore_0 {bs : ByteArray} {p : Nat} {r : List Nat} (h : (eg_by bs).drop p = 75 :: r) : decode bs p = .ok (.astore_n 0, 1) := eg_dc (eg_bd (eg_rd h).1 (R := (Except.ok (.astore_n 0, p + 1) : Except DecodeError (Instr × Nat))) rfl) (by omega)
theorem eg_d_astore_1 {bs : ByteArray} {p : Nat} {r : List Nat} (h : (eg_by bs).drop p = 76 :: r) : decode bs p = .ok (.astore_n 1, 1) := eg_dc (eg_bd (eg_rd h).1 (R := (Except.ok (.astore_n 1, p + 1) : Except DecodeError (Instr × Nat))) rfl) (by omega)
theorem eg_d_astore_2 {bs : ByteArray} {p : Nat} {r : List Nat} (h : (eg_by bs).drop p = 77 :: r) : decode bs p = .ok (.astore_n 2, 1) := eg_dc (eg_bd (eg_rd h).1 (R := (Except.ok (.astore_n 2, p + 1) : Except DecodeError (Instr × Nat))) rfl) (by omega)
theorem eg_d_astore_3 {bs : ByteArray} {p : Nat} {r : List Nat} (h : (eg_by bs).drop p = 78 :: r) : decode bs p = .ok (.astore_n 3, 1) := eg_dc (eg_bd (eg_rd h).1 (R := (Except.ok (.astore_n 3, p + 1) : Except DecodeError (Instr × Nat))) rfl) (by omega)
theorem eg_d_iload {bs : ByteArray} {p a : Nat} {r : List Nat} (h : (eg_by bs).drop p = 21 :: a :: r) : decode bs p = .ok (.iload a, 2) := eg_dc (eg_bd (eg_rd h).1 (R := (Except.ok (.iload a, p + 1 + 1) : Except DecodeError (Instr × Nat))) (eg_bd (eg_rd (eg_rd h).2).1 rfl)) (by omega)
theorem eg_d_lload {bs : ByteArray} {p a : Nat} {r : List Nat} (h : (eg_by bs).drop p = 22 :: a :: r) : decode bs p = .ok (.lload a, 2) := eg_dc (eg_bd (eg_rd h).1 (R := (Except.ok (.lload a, p + 1 + 1) : Except DecodeError (Instr × Nat))) (eg_bd (eg_rd (eg_rd h).2).1 rfl)) (by omega)
theorem eg_d_aload {bs : ByteArray} {p a : Nat} {r : List Nat} (h : (eg_by bs).drop p = 25 :: a :: r) : decode bs p = .ok (.aload a, 2) := eg_dc (eg_bd (eg_rd h).1 (R := (Except.ok (.aload a, p + 1 + 1) : Except DecodeError (Instr × Nat))) (eg_bd (eg_rd (eg_rd h).2).1 rfl)) (by omega)
theorem eg_d_istore {bs : ByteArray} {p a : Nat} {r : List Nat} (h : (eg_by bs).drop p = 54 :: a :: r) : decode bs p = .ok (.istore a, 2) := eg_dc (eg_bd (eg_rd h).1 (R := (Except.ok (.istore a, p + 1 + 1) : Except DecodeError (Instr × Nat))) (eg_bd (eg_rd (eg_rd h).2).1 rfl)) (by omega)
theorem eg_d_lstore {bs : ByteArray} {p a : Nat} {r : List Nat} (h : (eg_by bs).drop p = 55 :: a :: r) : decode bs p = .ok (.lstore a, 2) := eg_dc (eg_bd (eg_rd h).1 (R := (Except.ok (.lstore a, p + 1 + 1) : Except DecodeError (Instr × Nat))) (eg_bd (eg_rd (eg_rd h).2).1 rfl)) (by omega)
theorem eg_d_astore {bs : ByteArray} {p a : Nat} {r : List Nat} (h : (eg_by bs).drop p = 58 :: a :: r) : decode bs p = .ok (.astore a, 2) := eg_dc (eg_bd (eg_rd h).1 (R := (Except.ok (.astore a, p + 1 + 1) : Except DecodeError (Instr × Nat))) (eg_bd (eg_rd (eg_rd h).2).1 rfl)) (by omega)
theorem eg_d_bipush {bs : ByteArray} {p a : Nat} {r : List Nat} (h : (eg_by bs).drop p = 16 :: a :: r) : decode bs p = .ok (.bipush (Reader.signed 8 a), 2) := eg_dc (eg_bd (eg_rd h).1 (R := (Except.ok (.bipush (Reader.signed 8 a), p + 1 + 1) : Except DecodeError (Instr × Nat))) (eg_bd (eg_mp (eg_rd (eg_rd h).2).1) rfl)) (by omega)
theorem eg_d_sipush {bs : ByteArray} {p a b : Nat} {r : List Nat} (h : (eg_by bs).drop p = 17 :: a :: b :: r) : decode bs p = .ok (.sipush (Reader.signed 16 (a * 256 + b)), 3) := eg_dc (eg_bd (eg_rd h).1 (R := (Except.ok (.sipush (Reader.signed 16 (a * 256 + b)), p + 1 + 2) : Except DecodeError (Instr × Nat))) (eg_bd (eg_mp (eg_r2 (eg_rd h).2)) rfl)) (by omega)
theorem eg_d_ldc {bs : ByteArray} {p a : Nat} {r : List Nat} (h : (eg_by bs).drop p = 18 :: a :: r) : decode bs p = .ok (.ldc a, 2) := eg_dc (eg_bd (eg_rd h).1 (R := (Except.ok (.ldc a, p + 1 + 1) : Except DecodeError (Instr × Nat))) (eg_bd (eg_rd (eg_rd h).2).1 rfl)) (by omega)
theorem eg_d_ldc2_w {bs : ByteArray} {p a b : Nat} {r : List Nat} (h : (eg_by bs).drop p = 20 :: a :: b :: r) : decode bs p = .ok (.ldc2_w (a * 256 + b), 3) := eg_dc (eg_bd (eg_rd h).1 (R := (Except.ok (.ldc2_w (a * 256 + b), p + 1 + 2) : Except DecodeError (Instr × Nat))) (eg_bd (eg_r2 (eg_rd h).2) rfl)) (by omega)
theorem eg_d_if_eq {bs : ByteArray} {p a b : Nat} {r : List Nat} (h : (eg_by bs).drop p = 153 :: a :: b :: r) : decode bs p = .ok (.ifCond .eq (Reader.signed 16 (a * 256 + b)), 3) := eg_dc (eg_bd (eg_rd h).1 (R := (Except.ok (.ifCond .eq (Reader.signed 16 (a * 256 + b)), p + 1 + 2) : Except DecodeError (Instr × Nat))) (eg_bd (eg_mp (eg_r2 (eg_rd h).2)) rfl)) (by omega)
theorem eg_d_icmp_eq {bs : ByteArray} {p a b : Nat} {r : List Nat} (h : (eg_by bs).drop p = 159 :: a :: b :: r) : decode bs p = .ok (.if_icmp .eq (Reader.signed 16 (a * 256 + b)), 3) := eg_dc (eg_bd (eg_rd h).1 (R := (Except.ok (.if_icmp .eq (Reader.signed 16 (a * 256 + b)), p + 1 + 2) : Except DecodeError (Instr × Nat))) (eg_bd (eg_mp (eg_r2 (eg_rd h).2)) rfl)) (by omega)
theorem eg_d_if_ne {bs : ByteArray} {p a b : Nat} {r : List Nat} (h : (eg_by bs).drop p = 154 :: a :: b :: r) : decode bs p = .ok (.ifCond .ne (Reader.signed 16 (a * 256 + b)), 3) := eg_dc (eg_bd (eg_rd h).1 (R := (Except.ok (.ifCond .ne (Reader.signed 16 (a * 256 + b)), p + 1 + 2) : Except DecodeError (Instr × Nat))) (eg_bd (eg_mp (eg_r2 (eg_rd h).2)) rfl)) (by omega)
theorem eg_d_icmp_ne {bs : ByteArray} {p a b : Nat} {r : List Nat} (h : (eg_by bs).drop p = 160 :: a :: b :: r) : decode bs p = .ok (.if_icmp .ne (Reader.signed 16 (a * 256 + b)), 3) := eg_dc (eg_bd (eg_rd h).1 (R := (Except.ok (.if_icmp .ne (Reader.signed 16 (a * 256 + b)), p + 1 + 2) : Except DecodeError (Instr × Nat))) (eg_bd (eg_mp (eg_r2 (eg_rd h).2)) rfl)) (by omega)
theorem eg_d_if_lt {bs : ByteArray} {p a b : Nat} {r : List Nat} (h : (eg_by bs).drop p = 155 :: a :: b :: r) : decode bs p = .ok (.ifCond .lt (Reader.signed 16 (a * 256 + b)), 3) := eg_dc (eg_bd (eg_rd h).1 (R := (Except.ok (.ifCond .lt (Reader.signed 16 (a * 256 + b)), p + 1 + 2) : Except DecodeError (Instr × Nat))) (eg_bd (eg_mp (eg_r2 (eg_rd h).2)) rfl)) (by omega)
theorem eg_d_icmp_lt {bs : ByteArray} {p a b : Nat} {r : List Nat} (h : (eg_by bs).drop p = 161 :: a :: b :: r) : decode bs p = .ok (.if_icmp .lt (Reader.signed 16 (a * 256 + b)), 3) := eg_dc (eg_bd (eg_rd h).1 (R := (Except.ok (.if_icmp .lt (Reader.signed 16 (a * 256 + b)), p + 1 + 2) : Except DecodeError (Instr × Nat))) (eg_bd (eg_mp (eg_r2 (eg_rd h).2)) rfl)) (by omega)
theorem eg_d_if_ge {bs : ByteArray} {p a b : Nat} {r : List Nat} (h : (eg_by bs).drop p = 156 :: a :: b :: r) : decode bs p = .ok (.ifCond .ge (Reader.signed 16 (a * 256 + b)), 3) := eg_dc (eg_bd (eg_rd h).1 (R := (Except.ok (.ifCond .ge (Reader.signed 16 (a * 256 + b)), p + 1 + 2) : Except DecodeError (Instr × Nat))) (eg_bd (eg_mp (eg_r2 (eg_rd h).2)) rfl)) (by omega)
theorem eg_d_icmp_ge {bs : ByteArray} {p a b : Nat} {r : List Nat} (h : (eg_by bs).drop p = 162 :: a :: b :: r) : decode bs p = .ok (.if_icmp .ge (Reader.signed 16 (a * 256 + b)), 3) := eg_dc (eg_bd (eg_rd h).1 (R := (Except.ok (.if_icmp .ge (Reader.signed 16 (a * 256 + b)), p + 1 + 2) : Except DecodeError (Instr × Nat))) (eg_bd (eg_mp (eg_r2 (eg_rd h).2)) rfl)) (by omega)
theorem eg_d_if_gt {bs : ByteArray} {p a b : Nat} {r : List Nat} (h : (eg_by bs).drop p = 157 :: a :: b :: r) : decode bs p = .ok (.ifCond .gt (Reader.signed 16 (a * 256 + b)), 3) := eg_dc (eg_bd (eg_rd h).1 (R := (Except.ok (.ifCond .gt (Reader.signed 16 (a * 256 + b)), p + 1 + 2) : Except DecodeError (Instr × Nat))) (eg_bd (eg_mp (eg_r2 (eg_rd h).2)) rfl)) (by omega)
theorem eg_d_icmp_gt {bs : ByteArray} {p a b : Nat} {r : List Nat} (h : (eg_by bs).drop p = 163 :: a :: b :: r) : decode bs p = .ok (.if_icmp .gt (Reader.signed 16 (a * 256 + b)), 3) := eg_dc (eg_bd (eg_rd h).1 (R := (Except.ok (.if_icmp .gt (Reader.signed 16 (a * 256 + b)), p + 1 + 2) : Except DecodeError (Instr × Nat))) (eg_bd (eg_mp (eg_r2 (eg_rd h).2)) rfl)) (by omega)
theorem eg_d_if_le {bs : ByteArray} {p a b : Nat} {r : List Nat} (h : (eg_by bs).drop p = 158 :: a :: b :: r) : decode bs p = .ok (.ifCond .le (Reader.signed 16 (a * 256 + b)), 3) := eg_dc (eg_bd (eg_rd h).1 (R := (Except.ok (.ifCond .le (Reader.signed 16 (a * 256 + b)), p + 1 + 2) : Except DecodeError (Instr × Nat))) (eg_bd (eg_mp (eg_r2 (eg_rd h).2)) rfl)) (by omega)
theorem eg_d_icmp_le {bs : ByteArray} {p a b : Nat} {r : List Nat} (h : (eg_by bs).drop p = 164 :: a :: b :: r) : decode bs p = .ok (.if_icmp .le (Reader.signed 16 (a * 256 + b)), 3) := eg_dc (eg_bd (eg_rd h).1 (R := (Except.ok (.if_icmp .le (Reader.signed 16 (a * 256 + b)), p + 1 + 2) : Except DecodeError (Instr × Nat))) (eg_bd (eg_mp (eg_r2 (eg_rd h).2)) rfl)) (by omega)
theorem eg_d_acmp_eq {bs : ByteArray} {p a b : Nat} {r : List Nat} (h : (eg_by bs).drop p = 165 :: a :: b :: r) : decode bs p = .ok (.if_acmp .eq (Reader.signed 16 (a * 256 + b)), 3) := eg_dc (eg_bd (eg_rd h).1 (R := (Except.ok (.if_acmp .eq (Reader.signed 16 (a * 256 + b)), p + 1 + 2) : Except DecodeError (Instr × Nat))) (eg_bd (eg_mp (eg_r2 (eg_rd h).2)) rfl)) (by omega)
theorem eg_d_acmp_ne {bs : ByteArray} {p a b : Nat} {r : List Nat} (h : (eg_by bs).drop p = 166 :: a :: b :: r) : decode bs p = .ok (.if_acmp .ne (Reader.signed 16 (a * 256 + b)), 3) := eg_dc (eg_bd (eg_rd h).1 (R := (Except.ok (.if_acmp .ne (Reader.signed 16 (a * 256 + b)), p + 1 + 2) : Except DecodeError (Instr × Nat))) (eg_bd (eg_mp (eg_r2 (eg_rd h).2)) rfl)) (by omega)
theorem eg_d_goto {bs : ByteArray} {p a b : Nat} {r : List Nat} (h : (eg_by bs).drop p = 167 :: a :: b :: r) : decode bs p = .ok (.goto (Reader.signed 16 (a * 256 + b)), 3) := eg_dc (eg_bd (eg_rd h).1 (R := (Except.ok (.goto (Reader.signed 16 (a * 256 + b)), p + 1 + 2) : Except DecodeError (Instr × Nat))) (eg_bd (eg_mp (eg_r2 (eg_rd h).2)) rfl)) (by omega)
theorem eg_d_getstatic {bs : ByteArray} {p a b : Nat} {r : List Nat} (h : (eg_by bs).drop p = 178 :: a :: b :: r) : decode bs p = .ok (.getstatic (a * 256 + b), 3) := eg_dc (eg_bd (eg_rd h).1 (R := (Except.ok (.getstatic (a * 256 + b), p + 1 + 2) : Except DecodeError (Instr × Nat))) (eg_bd (eg_r2 (eg_rd h).2) rfl)) (by omega)
theorem eg_d_getfield {bs : ByteArray} {p a b : Nat} {r : List Nat} (h : (eg_by bs).drop p = 180 :: a :: b :: r) : decode bs p = .ok (.getfield (a * 256 + b), 3) := eg_dc (eg_bd (eg_rd h).1 (R := (Except.ok (.getfield (a * 256 + b), p + 1 + 2) : Except DecodeError (Instr × Nat))) (eg_bd (eg_r2 (eg_rd h).2) rfl)) (by omega)
theorem eg_d_putfield {bs : ByteArray} {p a b : Nat} {r : List Nat} (h : (eg_by bs).drop p = 181 :: a :: b :: r) : decode bs p = .ok (.putfield (a * 256 + b), 3) := eg_dc (eg_bd (eg_rd h).1 (R := (Except.ok (.putfield (a * 256 + b), p + 1 + 2) : Except DecodeError (Instr × Nat))) (eg_bd (eg_r2 (eg_rd h).2) rfl)) (by omega)
theorem eg_d_invokevirtual {bs : ByteArray} {p a b : Nat} {r : List Nat} (h : (eg_by bs).drop p = 182 :: a :: b :: r) : decode bs p = .ok (.invokevirtual (a * 256 + b), 3) := eg_dc (eg_bd (eg_rd h).1 (R := (Except.ok (.invokevirtual (a * 256 + b), p + 1 + 2) : Except DecodeError (Instr × Nat))) (eg_bd (eg_r2 (eg_rd h).2) rfl)) (by omega)
theorem eg_d_invokespecial {bs : ByteArray} {p a b : Nat} {r : List Nat} (h : (eg_by bs).drop p = 183 :: a :: b :: r) : decode bs p = .ok (.invokespecial (a * 256 + b), 3) := eg_dc (eg_bd (eg_rd h).1 (R := (Except.ok (.invokespecial (a * 256 + b), p + 1 + 2) : Except DecodeError (Instr × Nat))) (eg_bd (eg_r2 (eg_rd h).2) rfl)) (by omega)
theorem eg_d_invokestatic {bs : ByteArray} {p a b : Nat} {r : List Nat} (h : (eg_by bs).drop p = 184 :: a :: b :: r) : decode bs p = .ok (.invokestatic (a * 256 + b), 3) := eg_dc (eg_bd (eg_rd h).1 (R := (Except.ok (.invokestatic (a * 256 + b), p + 1 + 2) : Except DecodeError (Instr × Nat))) (eg_bd (eg_r2 (eg_rd h).2) rfl)) (by omega)
theorem eg_d_new {bs : ByteArray} {p a b : Nat} {r : List Nat} (h : (eg_by bs).drop p = 187 :: a :: b :: r) : decode bs p = .ok (.new (a * 256 + b), 3) := eg_dc (eg_bd (eg_rd h).1 (R := (Except.ok (.new (a * 256 + b), p + 1 + 2) : Except DecodeError (Instr × Nat))) (eg_bd (eg_r2 (eg_rd h).2) rfl)) (by omega)
theorem eg_d_iinc {bs : ByteArray} {p a b : Nat} {r : List Nat} (h : (eg_by bs).drop p = 132 :: a :: b :: r) : decode bs p = .ok (.iinc a (Reader.signed 8 b), 3) := eg_dc (eg_bd (eg_rd h).1 (R := (Except.ok (.iinc a (Reader.signed 8 b), p + 1 + 1 + 1) : Except DecodeError (Instr × Nat))) (eg_bd (eg_rd (eg_rd h).2).1 (eg_bd (eg_mp (eg_rd (eg_rd (eg_rd h).2).2).1) rfl))) (by omega)
theorem eg_d_newarray_boolean {bs : ByteArray} {p : Nat} {r : List Nat} (h : (eg_by bs).drop p = 188 :: 4 :: r) : decode bs p = .ok (.newarray .boolean, 2) := eg_dc (eg_bd (eg_rd h).1 (R := (Except.ok (.newarray .boolean, p + 1 + 1) : Except DecodeError (Instr × Nat))) (eg_bd (eg_rd (eg_rd h).2).1 rfl)) (by omega)
theorem eg_d_newarray_byte {bs : ByteArray} {p : Nat} {r : List Nat} (h : (eg_by bs).drop p = 188 :: 8 :: r) : decode bs p = .ok (.newarray .byte, 2) := eg_dc (eg_bd (eg_rd h).1 (R := (Except.ok (.newarray .byte, p + 1 + 1) : Except DecodeError (Instr × Nat))) (eg_bd (eg_rd (eg_rd h).2).1 rfl)) (by omega)
theorem eg_d_newarray_short {bs : ByteArray} {p : Nat} {r : List Nat} (h : (eg_by bs).drop p = 188 :: 9 :: r) : decode bs p = .ok (.newarray .short, 2) := eg_dc (eg_bd (eg_rd h).1 (R := (Except.ok (.newarray .short, p + 1 + 1) : Except DecodeError (Instr × Nat))) (eg_bd (eg_rd (eg_rd h).2).1 rfl)) (by omega)
theorem eg_d_newarray_int {bs : ByteArray} {p : Nat} {r : List Nat} (h : (eg_by bs).drop p = 188 :: 10 :: r) : decode bs p = .ok (.newarray .int, 2) := eg_dc (eg_bd (eg_rd h).1 (R := (Except.ok (.newarray .int, p + 1 + 1) : Except DecodeError (Instr × Nat))) (eg_bd (eg_rd (eg_rd h).2).1 rfl)) (by omega)
theorem eg_d_newarray_long {bs : ByteArray} {p : Nat} {r : List Nat} (h : (eg_by bs).drop p = 188 :: 11 :: r) : decode bs p = .ok (.newarray .long, 2) := eg_dc (eg_bd (eg_rd h).1 (R := (Except.ok (.newarray .long, p + 1 + 1) : Except DecodeError (Instr × Nat))) (eg_bd (eg_rd (eg_rd h).2).1 rfl)) (by omega)
def eg_g0 (L : List Nat) : Option (Instr × Nat) := match L with
  | op :: r => if op = 96 then some (.iadd, 1) else none
  | [] => none
theorem eg_g0_ok {bs : ByteArray} {p : Nat} {L : List Nat} {x : Instr × Nat} (h : (eg_by bs).drop p = L) (g : eg_g0 L = some x) : decode bs p = .ok x := by
  match L, h, g with
  | [], h, g => simp [eg_g0] at g
  | op :: r, h, g =>
    unfold eg_g0 at g
    dsimp only at g
    by_cases c_iadd : op = 96
    · rw [if_pos c_iadd] at g; subst c_iadd; cases g; exact eg_d_iadd h
    rw [if_neg c_iadd] at g
    cases g
def eg_g1 (L : List Nat) : Option (Instr × Nat) := match L with
  | op :: r => if op = 100 then some (.isub, 1) else none
  | [] => none
theorem eg_g1_ok {bs : ByteArray} {p : Nat} {L : List Nat} {x : Instr × Nat} (h : (eg_by bs).drop p = L) (g : eg_g1 L = some x) : decode bs p = .ok x := by
  match L, h, g with
  | [], h, g => simp [eg_g1] at g
  | op :: r, h, g =>
    unfold eg_g1 at g
    dsimp only at g
    by_cases c_isub : op = 100
    · rw [if_pos c_isub] at g; subst c_isub; cases g; exact eg_d_isub h
    rw [if_neg c_isub] at g
    cases g
def eg_g2 (L : List Nat) : Option (Instr × Nat) := match L with
  | op :: r => if op = 104 then some (.imul, 1) else none
  | [] => none
theorem eg_g2_ok {bs : ByteArray} {p : Nat} {L : List Nat} {x : Instr × Nat} (h : (eg_by bs).drop p = L) (g : eg_g2 L = some x) : decode bs p = .ok x := by
  match L, h, g with
  | [], h, g => simp [eg_g2] at g
  | op :: r, h, g =>
    unfold eg_g2 at g
    dsimp only at g
    by_cases c_imul : op = 104
    · rw [if_pos c_imul] at g; subst c_imul; cases g; exact eg_d_imul h
    rw [if_neg c_imul] at g
    cases g
def eg_g3 (L : List Nat) : Option (Instr × Nat) := match L with
  | op :: r => if op = 108 then some (.idiv, 1) else none
  | [] => none
theorem eg_g3_ok {bs : ByteArray} {p : Nat} {L : List Nat} {x : Instr × Nat} (h : (eg_by bs).drop p = L) (g : eg_g3 L = some x) : decode bs p = .ok x := by
  match L, h, g with
  | [], h, g => simp [eg_g3] at g
  | op :: r, h, g =>
    unfold eg_g3 at g
    dsimp only at g
    by_cases c_idiv : op = 108
    · rw [if_pos c_idiv] at g; subst c_idiv; cases g; exact eg_d_idiv h
    rw [if_neg c_idiv] at g
    cases g
def eg_g4 (L : List Nat) : Option (Instr × Nat) := match L with
  | op :: r => if op = 112 then some (.irem, 1) else none
  | [] => none
theorem eg_g4_ok {bs : ByteArray} {p : Nat} {L : List Nat} {x : Instr × Nat} (h : (eg_by bs).drop p = L) (g : eg_g4 L = some x) : decode bs p = .ok x := by
  match L, h, g with
  | [], h, g => simp [eg_g4] at g
  | op :: r, h, g =>
    unfold eg_g4 at g
    dsimp only at g
    by_cases c_irem : op = 112
    · rw [if_pos c_irem] at g; subst c_irem; cases g; exact eg_d_irem h
    rw [if_neg c_irem] at g
    cases g
def eg_g5 (L : List Nat) : Option (Instr × Nat) := match L with
  | op :: r => if op = 116 then some (.ineg, 1) else none
  | [] => none
theorem eg_g5_ok {bs : ByteArray} {p : Nat} {L : List Nat} {x : Instr × Nat} (h : (eg_by bs).drop p = L) (g : eg_g5 L = some x) : decode bs p = .ok x := by
  match L, h, g with
  | [], h, g => simp [eg_g5] at g
  | op :: r, h, g =>
    unfold eg_g5 at g
    dsimp only at g
    by_cases c_ineg : op = 116
    · rw [if_pos c_ineg] at g; subst c_ineg; cases g; exact eg_d_ineg h
    rw [if_neg c_ineg] at g
    cases g
def eg_g6 (L : List Nat) : Option (Instr × Nat) := match L with
  | op :: r => if op = 126 then some (.iand, 1) else none
  | [] => none
theorem eg_g6_ok {bs : ByteArray} {p : Nat} {L : List Nat} {x : Instr × Nat} (h : (eg_by bs).drop p = L) (g : eg_g6 L = some x) : decode bs p = .ok x := by
  match L, h, g with
  | [], h, g => simp [eg_g6] at g
  | op :: r, h, g =>
    unfold eg_g6 at g
    dsimp only at g
    by_cases c_iand : op = 126
    · rw [if_pos c_iand] at g; subst c_iand; cases g; exact eg_d_iand h
    rw [if_neg c_iand] at g
    cases g
def eg_g7 (L : List Nat) : Option (Instr × Nat) := match L with
  | op :: r => if op = 122 then some (.ishr, 1) else none
  | [] => none
theorem eg_g7_ok {bs : ByteArray} {p : Nat} {L : List Nat} {x : Instr × Nat} (h : (eg_by bs).drop p = L) (g : eg_g7 L = some x) : decode bs p = .ok x := by
  match L, h, g with
  | [], h, g => simp [eg_g7] at g
  | op :: r, h, g =>
    unfold eg_g7 at g
    dsimp only at g
    by_cases c_ishr : op = 122
    · rw [if_pos c_ishr] at g; subst c_ishr; cases g; exact eg_d_ishr h
    rw [if_neg c_ishr] at g
    cases g
def eg_g8 (L : List Nat) : Option (Instr × Nat) := match L with
  | op :: r => if op = 97 then some (.ladd, 1) else none
  | [] => none
theorem eg_g8_ok {bs : ByteArray} {p : Nat} {L : List Nat} {x : Instr × Nat} (h : (eg_by bs).drop p = L) (g : eg_g8 L = some x) : decode bs p = .ok x := by
  match L, h, g with
  | [], h, g => simp [eg_g8] at g
  | op :: r, h, g =>
    unfold eg_g8 at g
    dsimp only at g
    by_cases c_ladd : op = 97
    · rw [if_pos c_ladd] at g; subst c_ladd; cases g; exact eg_d_ladd h
    rw [if_neg c_ladd] at g
    cases g
def eg_g9 (L : List Nat) : Option (Instr × Nat) := match L with
  | op :: r => if op = 101 then some (.lsub, 1) else none
  | [] => none
theorem eg_g9_ok {bs : ByteArray} {p : Nat} {L : List Nat} {x : Instr × Nat} (h : (eg_by bs).drop p = L) (g : eg_g9 L = some x) : decode bs p = .ok x := by
  match L, h, g with
  | [], h, g => simp [eg_g9] at g
  | op :: r, h, g =>
    unfold eg_g9 at g
    dsimp only at g
    by_cases c_lsub : op = 101
    · rw [if_pos c_lsub] at g; subst c_lsub; cases g; exact eg_d_lsub h
    rw [if_neg c_lsub] at g
    cases g
def eg_g10 (L : List Nat) : Option (Instr × Nat) := match L with
  | op :: r => if op = 105 then some (.lmul, 1) else none
  | [] => none
theorem eg_g10_ok {bs : ByteArray} {p : Nat} {L : List Nat} {x : Instr × Nat} (h : (eg_by bs).drop p = L) (g : eg_g10 L = some x) : decode bs p = .ok x := by
  match L, h, g with
  | [], h, g => simp [eg_g10] at g
  | op :: r, h, g =>
    unfold eg_g10 at g
    dsimp only at g
    by_cases c_lmul : op = 105
    · rw [if_pos c_lmul] at g; subst c_lmul; cases g; exact eg_d_lmul h
    rw [if_neg c_lmul] at g
    cases g
def eg_g11 (L : List Nat) : Option (Instr × Nat) := match L with
  | op :: r => if op = 109 then some (.ldiv, 1) else none
  | [] => none
theorem eg_g11_ok {bs : ByteArray} {p : Nat} {L : List Nat} {x : Instr × Nat} (h : (eg_by bs).drop p = L) (g : eg_g11 L = some x) : decode bs p = .ok x := by
  match L, h, g with
  | [], h, g => simp [eg_g11] at g
  | op :: r, h, g =>
    unfold eg_g11 at g
    dsimp only at g
    by_cases c_ldiv : op = 109
    · rw [if_pos c_ldiv] at g; subst c_ldiv; cases g; exact eg_d_ldiv h
    rw [if_neg c_ldiv] at g
    cases g
def eg_g12 (L : List Nat) : Option (Instr × Nat) := match L with
  | op :: r => if op = 113 then some (.lrem, 1) else none
  | [] => none
theorem eg_g12_ok {bs : ByteArray} {p : Nat} {L : List Nat} {x : Instr × Nat} (h : (eg_by bs).drop p = L) (g : eg_g12 L = some x) : decode bs p = .ok x := by
  match L, h, g with
  | [], h, g => simp [eg_g12] at g
  | op :: r, h, g =>
    unfold eg_g12 at g
    dsimp only at g
    by_cases c_lrem : op = 113
    · rw [if_pos c_lrem] at g; subst c_lrem; cases g; exact eg_d_lrem h
    rw [if_neg c_lrem] at g
    cases g
def eg_g13 (L : List Nat) : Option (Instr × Nat) := match L with
  | op :: r => if op = 117 then some (.lneg, 1) else none
  | [] => none
theorem eg_g13_ok {bs : ByteArray} {p : Nat} {L : List Nat} {x : Instr × Nat} (h : (eg_by bs).drop p = L) (g : eg_g13 L = some x) : decode bs p = .ok x := by
  match L, h, g with
  | [], h, g => simp [eg_g13] at g
  | op :: r, h, g =>
    unfold eg_g13 at g
    dsimp only at g
    by_cases c_lneg : op = 117
    · rw [if_pos c_lneg] at g; subst c_lneg; cases g; exact eg_d_lneg h
    rw [if_neg c_lneg] at g
    cases g
def eg_g14 (L : List Nat) : Option (Instr × Nat) := match L with
  | op :: r => if op = 127 then some (.land, 1) else none
  | [] => none
theorem eg_g14_ok {bs : ByteArray} {p : Nat} {L : List Nat} {x : Instr × Nat} (h : (eg_by bs).drop p = L) (g : eg_g14 L = some x) : decode bs p = .ok x := by
  match L, h, g with
  | [], h, g => simp [eg_g14] at g
  | op :: r, h, g =>
    unfold eg_g14 at g
    dsimp only at g
    by_cases c_land : op = 127
    · rw [if_pos c_land] at g; subst c_land; cases g; exact eg_d_land h
    rw [if_neg c_land] at g
    cases g
def eg_g15 (L : List Nat) : Option (Instr × Nat) := match L with
  | op :: r => if op = 129 then some (.lor, 1) else none
  | [] => none
theorem eg_g15_ok {bs : ByteArray} {p : Nat} {L : List Nat} {x : Instr × Nat} (h : (eg_by bs).drop p = L) (g : eg_g15 L = some x) : decode bs p = .ok x := by
  match L, h, g with
  | [], h, g => simp [eg_g15] at g
  | op :: r, h, g =>
    unfold eg_g15 at g
    dsimp only at g
    by_cases c_lor : op = 129
    · rw [if_pos c_lor] at g; subst c_lor; cases g; exact eg_d_lor h
    rw [if_neg c_lor] at g
    cases g
def eg_g16 (L : List Nat) : Option (Instr × Nat) := match L with
  | op :: r => if op = 121 then some (.lshl, 1) else none
  | [] => none
theorem eg_g16_ok {bs : ByteArray} {p : Nat} {L : List Nat} {x : Instr × Nat} (h : (eg_by bs).drop p = L) (g : eg_g16 L = some x) : decode bs p = .ok x := by
  match L, h, g with
  | [], h, g => simp [eg_g16] at g
  | op :: r, h, g =>
    unfold eg_g16 at g
    dsimp only at g
    by_cases c_lshl : op = 121
    · rw [if_pos c_lshl] at g; subst c_lshl; cases g; exact eg_d_lshl h
    rw [if_neg c_lshl] at g
    cases g
def eg_g17 (L : List Nat) : Option (Instr × Nat) := match L with
  | op :: r => if op = 123 then some (.lshr, 1) else none
  | [] => none
theorem eg_g17_ok {bs : ByteArray} {p : Nat} {L : List Nat} {x : Instr × Nat} (h : (eg_by bs).drop p = L) (g : eg_g17 L = some x) : decode bs p = .ok x := by
  match L, h, g with
  | [], h, g => simp [eg_g17] at g
  | op :: r, h, g =>
    unfold eg_g17 at g
    dsimp only at g
    by_cases c_lshr : op = 123
    · rw [if_pos c_lshr] at g; subst c_lshr; cases g; exact eg_d_lshr h
    rw [if_neg c_lshr] at g
    cases g
def eg_g18 (L : List Nat) : Option (Instr × Nat) := match L with
  | op :: r => if op = 148 then some (.lcmp, 1) else none
  | [] => none
theorem eg_g18_ok {bs : ByteArray} {p : Nat} {L : List Nat} {x : Instr × Nat} (h : (eg_by bs).drop p = L) (g : eg_g18 L = some x) : decode bs p = .ok x := by
  match L, h, g with
  | [], h, g => simp [eg_g18] at g
  | op :: r, h, g =>
    unfold eg_g18 at g
    dsimp only at g
    by_cases c_lcmp : op = 148
    · rw [if_pos c_lcmp] at g; subst c_lcmp; cases g; exact eg_d_lcmp h
    rw [if_neg c_lcmp] at g
    cases g
def eg_g19 (L : List Nat) : Option (Instr × Nat) := match L with
  | op :: r => if op = 133 then some (.i2l, 1) else none
  | [] => none
theorem eg_g19_ok {bs : ByteArray} {p : Nat} {L : List Nat} {x : Instr × Nat} (h : (eg_by bs).drop p = L) (g : eg_g19 L = some x) : decode bs p = .ok x := by
  match L, h, g with
  | [], h, g => simp [eg_g19] at g
  | op :: r, h, g =>
    unfold eg_g19 at g
    dsimp only at g
    by_cases c_i2l : op = 133
    · rw [if_pos c_i2l] at g; subst c_i2l; cases g; exact eg_d_i2l h
    rw [if_neg c_i2l] at g
    cases g
def eg_g20 (L : List Nat) : Option (Instr × Nat) := match L with
  | op :: r => if op = 136 then some (.l2i, 1) else none
  | [] => none
theorem eg_g20_ok {bs : ByteArray} {p : Nat} {L : List Nat} {x : Instr × Nat} (h : (eg_by bs).drop p = L) (g : eg_g20 L = some x) : decode bs p = .ok x := by
  match L, h, g with
  | [], h, g => simp [eg_g20] at g
  | op :: r, h, g =>
    unfold eg_g20 at g
    dsimp only at g
    by_cases c_l2i : op = 136
    · rw [if_pos c_l2i] at g; subst c_l2i; cases g; exact eg_d_l2i h
    rw [if_neg c_l2i] at g
    cases g
def eg_g21 (L : List Nat) : Option (Instr × Nat) := match L with
  | op :: r => if op = 145 then some (.i2b, 1) else none
  | [] => none
theorem eg_g21_ok {bs : ByteArray} {p : Nat} {L : List Nat} {x : Instr × Nat} (h : (eg_by bs).drop p = L) (g : eg_g21 L = some x) : decode bs p = .ok x := by
  match L, h, g with
  | [], h, g => simp [eg_g21] at g
  | op :: r, h, g =>
    unfold eg_g21 at g
    dsimp only at g
    by_cases c_i2b : op = 145
    · rw [if_pos c_i2b] at g; subst c_i2b; cases g; exact eg_d_i2b h
    rw [if_neg c_i2b] at g
    cases g
def eg_g22 (L : List Nat) : Option (Instr × Nat) := match L with
  | op :: r => if op = 147 then some (.i2s, 1) else none
  | [] => none
theorem eg_g22_ok {bs : ByteArray} {p : Nat} {L : List Nat} {x : Instr × Nat} (h : (eg_by bs).drop p = L) (g : eg_g22 L = some x) : decode bs p = .ok x := by
  match L, h, g with
  | [], h, g => simp [eg_g22] at g
  | op :: r, h, g =>
    unfold eg_g22 at g
    dsimp only at g
    by_cases c_i2s : op = 147
    · rw [if_pos c_i2s] at g; subst c_i2s; cases g; exact eg_d_i2s h
    rw [if_neg c_i2s] at g
    cases g
def eg_g23 (L : List Nat) : Option (Instr × Nat) := match L with
  | op :: r => if op = 146 then some (.i2c, 1) else none
  | [] => none
theorem eg_g23_ok {bs : ByteArray} {p : Nat} {L : List Nat} {x : Instr × Nat} (h : (eg_by bs).drop p = L) (g : eg_g23 L = some x) : decode bs p = .ok x := by
  match L, h, g with
  | [], h, g => simp [eg_g23] at g
  | op :: r, h, g =>
    unfold eg_g23 at g
    dsimp only at g
    by_cases c_i2c : op = 146
    · rw [if_pos c_i2c] at g; subst c_i2c; cases g; exact eg_d_i2c h
    rw [if_neg c_i2c] at g
    cases g
def eg_g24 (L : List Nat) : Option (Instr × Nat) := match L with
  | op :: r => if op = 89 then some (.dup, 1) else none
  | [] => none
theorem eg_g24_ok {bs : ByteArray} {p : Nat} {L : List Nat} {x : Instr × Nat} (h : (eg_by bs).drop p = L) (g : eg_g24 L = some x) : decode bs p = .ok x := by
  match L, h, g with
  | [], h, g => simp [eg_g24] at g
  | op :: r, h, g =>
    unfold eg_g24 at g
    dsimp only at g
    by_cases c_dup : op = 89
    · rw [if_pos c_dup] at g; subst c_dup; cases g; exact eg_d_dup h
    rw [if_neg c_dup] at g
    cases g
def eg_g25 (L : List Nat) : Option (Instr × Nat) := match L with
  | op :: r => if op = 92 then some (.dup2, 1) else none
  | [] => none
theorem eg_g25_ok {bs : ByteArray} {p : Nat} {L : List Nat} {x : Instr × Nat} (h : (eg_by bs).drop p = L) (g : eg_g25 L = some x) : decode bs p = .ok x := by
  match L, h, g with
  | [], h, g => simp [eg_g25] at g
  | op :: r, h, g =>
    unfold eg_g25 at g
    dsimp only at g
    by_cases c_dup2 : op = 92
    · rw [if_pos c_dup2] at g; subst c_dup2; cases g; exact eg_d_dup2 h
    rw [if_neg c_dup2] at g
    cases g
def eg_g26 (L : List Nat) : Option (Instr × Nat) := match L with
  | op :: r => if op = 87 then some (.pop, 1) else none
  | [] => none
theorem eg_g26_ok {bs : ByteArray} {p : Nat} {L : List Nat} {x : Instr × Nat} (h : (eg_by bs).drop p = L) (g : eg_g26 L = some x) : decode bs p = .ok x := by
  match L, h, g with
  | [], h, g => simp [eg_g26] at g
  | op :: r, h, g =>
    unfold eg_g26 at g
    dsimp only at g
    by_cases c_pop : op = 87
    · rw [if_pos c_pop] at g; subst c_pop; cases g; exact eg_d_pop h
    rw [if_neg c_pop] at g
    cases g
def eg_g27 (L : List Nat) : Option (Instr × Nat) := match L with
  | op :: r => if op = 190 then some (.arraylength, 1) else none
  | [] => none
theorem eg_g27_ok {bs : ByteArray} {p : Nat} {L : List Nat} {x : Instr × Nat} (h : (eg_by bs).drop p = L) (g : eg_g27 L = some x) : decode bs p = .ok x := by
  match L, h, g with
  | [], h, g => simp [eg_g27] at g
  | op :: r, h, g =>
    unfold eg_g27 at g
    dsimp only at g
    by_cases c_arraylength : op = 190
    · rw [if_pos c_arraylength] at g; subst c_arraylength; cases g; exact eg_d_arraylength h
    rw [if_neg c_arraylength] at g
    cases g
def eg_g28 (L : List Nat) : Option (Instr × Nat) := match L with
  | op :: r => if op = 46 then some (.iaload, 1) else none
  | [] => none
theorem eg_g28_ok {bs : ByteArray} {p : Nat} {L : List Nat} {x : Instr × Nat} (h : (eg_by bs).drop p = L) (g : eg_g28 L = some x) : decode bs p = .ok x := by
  match L, h, g with
  | [], h, g => simp [eg_g28] at g
  | op :: r, h, g =>
    unfold eg_g28 at g
    dsimp only at g
    by_cases c_iaload : op = 46
    · rw [if_pos c_iaload] at g; subst c_iaload; cases g; exact eg_d_iaload h
    rw [if_neg c_iaload] at g
    cases g
def eg_g29 (L : List Nat) : Option (Instr × Nat) := match L with
  | op :: r => if op = 47 then some (.laload, 1) else none
  | [] => none
theorem eg_g29_ok {bs : ByteArray} {p : Nat} {L : List Nat} {x : Instr × Nat} (h : (eg_by bs).drop p = L) (g : eg_g29 L = some x) : decode bs p = .ok x := by
  match L, h, g with
  | [], h, g => simp [eg_g29] at g
  | op :: r, h, g =>
    unfold eg_g29 at g
    dsimp only at g
    by_cases c_laload : op = 47
    · rw [if_pos c_laload] at g; subst c_laload; cases g; exact eg_d_laload h
    rw [if_neg c_laload] at g
    cases g
def eg_g30 (L : List Nat) : Option (Instr × Nat) := match L with
  | op :: r => if op = 51 then some (.baload, 1) else none
  | [] => none
theorem eg_g30_ok {bs : ByteArray} {p : Nat} {L : List Nat} {x : Instr × Nat} (h : (eg_by bs).drop p = L) (g : eg_g30 L = some x) : decode bs p = .ok x := by
  match L, h, g with
  | [], h, g => simp [eg_g30] at g
  | op :: r, h, g =>
    unfold eg_g30 at g
    dsimp only at g
    by_cases c_baload : op = 51
    · rw [if_pos c_baload] at g; subst c_baload; cases g; exact eg_d_baload h
    rw [if_neg c_baload] at g
    cases g
def eg_g31 (L : List Nat) : Option (Instr × Nat) := match L with
  | op :: r => if op = 53 then some (.saload, 1) else none
  | [] => none
theorem eg_g31_ok {bs : ByteArray} {p : Nat} {L : List Nat} {x : Instr × Nat} (h : (eg_by bs).drop p = L) (g : eg_g31 L = some x) : decode bs p = .ok x := by
  match L, h, g with
  | [], h, g => simp [eg_g31] at g
  | op :: r, h, g =>
    unfold eg_g31 at g
    dsimp only at g
    by_cases c_saload : op = 53
    · rw [if_pos c_saload] at g; subst c_saload; cases g; exact eg_d_saload h
    rw [if_neg c_saload] at g
    cases g
def eg_g32 (L : List Nat) : Option (Instr × Nat) := match L with
  | op :: r => if op = 50 then some (.aaload, 1) else none
  | [] => none
theorem eg_g32_ok {bs : ByteArray} {p : Nat} {L : List Nat} {x : Instr × Nat} (h : (eg_by bs).drop p = L) (g : eg_g32 L = some x) : decode bs p = .ok x := by
  match L, h, g with
  | [], h, g => simp [eg_g32] at g
  | op :: r, h, g =>
    unfold eg_g32 at g
    dsimp only at g
    by_cases c_aaload : op = 50
    · rw [if_pos c_aaload] at g; subst c_aaload; cases g; exact eg_d_aaload h
    rw [if_neg c_aaload] at g
    cases g
def eg_g33 (L : List Nat) : Option (Instr × Nat) := match L with
  | op :: r => if op = 79 then some (.iastore, 1) else none
  | [] => none
theorem eg_g33_ok {bs : ByteArray} {p : Nat} {L : List Nat} {x : Instr × Nat} (h : (eg_by bs).drop p = L) (g : eg_g33 L = some x) : decode bs p = .ok x := by
  match L, h, g with
  | [], h, g => simp [eg_g33] at g
  | op :: r, h, g =>
    unfold eg_g33 at g
    dsimp only at g
    by_cases c_iastore : op = 79
    · rw [if_pos c_iastore] at g; subst c_iastore; cases g; exact eg_d_iastore h
    rw [if_neg c_iastore] at g
    cases g
def eg_g34 (L : List Nat) : Option (Instr × Nat) := match L with
  | op :: r => if op = 80 then some (.lastore, 1) else none
  | [] => none
theorem eg_g34_ok {bs : ByteArray} {p : Nat} {L : List Nat} {x : Instr × Nat} (h : (eg_by bs).drop p = L) (g : eg_g34 L = some x) : decode bs p = .ok x := by
  match L, h, g with
  | [], h, g => simp [eg_g34] at g
  | op :: r, h, g =>
    unfold eg_g34 at g
    dsimp only at g
    by_cases c_lastore : op = 80
    · rw [if_pos c_lastore] at g; subst c_lastore; cases g; exact eg_d_lastore h
    rw [if_neg c_lastore] at g
    cases g
def eg_g35 (L : List Nat) : Option (Instr × Nat) := match L with
  | op :: r => if op = 84 then some (.bastore, 1) else none
  | [] => none
theorem eg_g35_ok {bs : ByteArray} {p : Nat} {L : List Nat} {x : Instr × Nat} (h : (eg_by bs).drop p = L) (g : eg_g35 L = some x) : decode bs p = .ok x := by
  match L, h, g with
  | [], h, g => simp [eg_g35] at g
  | op :: r, h, g =>
    unfold eg_g35 at g
    dsimp only at g
    by_cases c_bastore : op = 84
    · rw [if_pos c_bastore] at g; subst c_bastore; cases g; exact eg_d_bastore h
    rw [if_neg c_bastore] at g
    cases g
def eg_g36 (L : List Nat) : Option (Instr × Nat) := match L with
  | op :: r => if op = 86 then some (.sastore, 1) else none
  | [] => none
theorem eg_g36_ok {bs : ByteArray} {p : Nat} {L : List Nat} {x : Instr × Nat} (h : (eg_by bs).drop p = L) (g : eg_g36 L = some x) : decode bs p = .ok x := by
  match L, h, g with
  | [], h, g => simp [eg_g36] at g
  | op :: r, h, g =>
    unfold eg_g36 at g
    dsimp only at g
    by_cases c_sastore : op = 86
    · rw [if_pos c_sastore] at g; subst c_sastore; cases g; exact eg_d_sastore h
    rw [if_neg c_sastore] at g
    cases g
def eg_g37 (L : List Nat) : Option (Instr × Nat) := match L with
  | op :: r => if op = 172 then some (.ireturn, 1) else none
  | [] => none
theorem eg_g37_ok {bs : ByteArray} {p : Nat} {L : List Nat} {x : Instr × Nat} (h : (eg_by bs).drop p = L) (g : eg_g37 L = some x) : decode bs p = .ok x := by
  match L, h, g with
  | [], h, g => simp [eg_g37] at g
  | op :: r, h, g =>
    unfold eg_g37 at g
    dsimp only at g
    by_cases c_ireturn : op = 172
    · rw [if_pos c_ireturn] at g; subst c_ireturn; cases g; exact eg_d_ireturn h
    rw [if_neg c_ireturn] at g
    cases g
def eg_g38 (L : List Nat) : Option (Instr × Nat) := match L with
  | op :: r => if op = 173 then some (.lreturn, 1) else none
  | [] => none
theorem eg_g38_ok {bs : ByteArray} {p : Nat} {L : List Nat} {x : Instr × Nat} (h : (eg_by bs).drop p = L) (g : eg_g38 L = some x) : decode bs p = .ok x := by
  match L, h, g with
  | [], h, g => simp [eg_g38] at g
  | op :: r, h, g =>
    unfold eg_g38 at g
    dsimp only at g
    by_cases c_lreturn : op = 173
    · rw [if_pos c_lreturn] at g; subst c_lreturn; cases g; exact eg_d_lreturn h
    rw [if_neg c_lreturn] at g
    cases g
def eg_g39 (L : List Nat) : Option (Instr × Nat) := match L with
  | op :: r => if op = 176 then some (.areturn, 1) else none
  | [] => none
theorem eg_g39_ok {bs : ByteArray} {p : Nat} {L : List Nat} {x : Instr × Nat} (h : (eg_by bs).drop p = L) (g : eg_g39 L = some x) : decode bs p = .ok x := by
  match L, h, g with
  | [], h, g => simp [eg_g39] at g
  | op :: r, h, g =>
    unfold eg_g39 at g
    dsimp only at g
    by_cases c_areturn : op = 176
    · rw [if_pos c_areturn] at g; subst c_areturn; cases g; exact eg_d_areturn h
    rw [if_neg c_areturn] at g
    cases g
def eg_g40 (L : List Nat) : Option (Instr × Nat) := match L with
  | op :: r => if op = 177 then some (.return_, 1) else none
  | [] => none
theorem eg_g40_ok {bs : ByteArray} {p : Nat} {L : List Nat} {x : Instr × Nat} (h : (eg_by bs).drop p = L) (g : eg_g40 L = some x) : decode bs p = .ok x := by
  match L, h, g with
  | [], h, g => simp [eg_g40] at g
  | op :: r, h, g =>
    unfold eg_g40 at g
    dsimp only at g
    by_cases c_return_ : op = 177
    · rw [if_pos c_return_] at g; subst c_return_; cases g; exact eg_d_return_ h
    rw [if_neg c_return_] at g
    cases g
def eg_g41 (L : List Nat) : Option (Instr × Nat) := match L with
  | op :: r => if op = 2 then some (.iconst (-1), 1) else if op = 3 then some (.iconst (0), 1) else if op = 4 then some (.iconst (1), 1) else if op = 5 then some (.iconst (2), 1) else if op = 6 then some (.iconst (3), 1) else if op = 7 then some (.iconst (4), 1) else if op = 8 then some (.iconst (5), 1) else if op = 16 then (match r with | a :: _ => some (.bipush (Reader.signed 8 a), 2) | _ => none) else if op = 17 then (match r with | a :: b :: _ => some (.sipush (Reader.signed 16 (a * 256 + b)), 3) | _ => none) else if op = 18 then (match r with | a :: _ => some (.ldc a, 2) | _ => none) else none
  | [] => none
theorem eg_g41_ok {bs : ByteArray} {p : Nat} {L : List Nat} {x : Instr × Nat} (h : (eg_by bs).drop p = L) (g : eg_g41 L = some x) : decode bs p = .ok x := by
  match L, h, g with
  | [], h, g => simp [eg_g41] at g
  | op :: r, h, g =>
    unfold eg_g41 at g
    dsimp only at g
    by_cases c_iconst0 : op = 2
    · rw [if_pos c_iconst0] at g; subst c_iconst0; cases g; exact eg_d_iconst0 h
    rw [if_neg c_iconst0] at g
    by_cases c_iconst1 : op = 3
    · rw [if_pos c_iconst1] at g; subst c_iconst1; cases g; exact eg_d_iconst1 h
    rw [if_neg c_iconst1] at g
    by_cases c_iconst2 : op = 4
    · rw [if_pos c_iconst2] at g; subst c_iconst2; cases g; exact eg_d_iconst2 h
    rw [if_neg c_iconst2] at g
    by_cases c_iconst3 : op = 5
    · rw [if_pos c_iconst3] at g; subst c_iconst3; cases g; exact eg_d_iconst3 h
    rw [if_neg c_iconst3] at g
    by_cases c_iconst4 : op = 6
    · rw [if_pos c_iconst4] at g; subst c_iconst4; cases g; exact eg_d_iconst4 h
    rw [if_neg c_iconst4] at g
    by_cases c_iconst5 : op = 7
    · rw [if_pos c_iconst5] at g; subst c_iconst5; cases g; exact eg_d_iconst5 h
    rw [if_neg c_iconst5] at g
    by_cases c_iconst6 : op = 8
    · rw [if_pos c_iconst6] at g; subst c_iconst6; cases g; exact eg_d_iconst6 h
    rw [if_neg c_iconst6] at g
    by_cases c_bipush : op = 16
    · rw [if_pos c_bipush] at g; subst c_bipush
      match r, h, g with
      | a :: r, h, g => cases g; exact eg_d_bipush h
    rw [if_neg c_bipush] at g
    by_cases c_sipush : op = 17
    · rw [if_pos c_sipush] at g; subst c_sipush
      match r, h, g with
      | a :: b :: r, h, g => cases g; exact eg_d_sipush h
    rw [if_neg c_sipush] at g
    by_cases c_ldc : op = 18
    · rw [if_pos c_ldc] at g; subst c_ldc
      match r, h, g with
      | a :: r, h, g => cases g; exact eg_d_ldc h
    rw [if_neg c_ldc] at g
    cases g
def eg_g42 (L : List Nat) : Option (Instr × Nat) := match L with
  | op :: r => if op = 18 then (match r with | a :: _ => some (.ldc a, 2) | _ => none) else none
  | [] => none
theorem eg_g42_ok {bs : ByteArray} {p : Nat} {L : List Nat} {x : Instr × Nat} (h : (eg_by bs).drop p = L) (g : eg_g42 L = some x) : decode bs p = .ok x := by
  match L, h, g with
  | [], h, g => simp [eg_g42] at g
  | op :: r, h, g =>
    unfold eg_g42 at g
    dsimp only at g
    by_cases c_ldc : op = 18
    · rw [if_pos c_ldc] at g; subst c_ldc
      match r, h, g with
      | a :: r, h, g => cases g; exact eg_d_ldc h
    rw [if_neg c_ldc] at g
    cases g
def eg_g43 (L : List Nat) : Option (Instr × Nat) := match L with
  | op :: r => if op = 9 then some (.lconst 0, 1) else if op = 10 then some (.lconst 1, 1) else if op = 20 then (match r with | a :: b :: _ => some (.ldc2_w (a * 256 + b), 3) | _ => none) else none
  | [] => none
theorem eg_g43_ok {bs : ByteArray} {p : Nat} {L : List Nat} {x : Instr × Nat} (h : (eg_by bs).drop p = L) (g : eg_g43 L = some x) : decode bs p = .ok x := by
  match L, h, g with
  | [], h, g => simp [eg_g43] at g
  | op :: r, h, g =>
    unfold eg_g43 at g
    dsimp only at g
    by_cases c_lconst0 : op = 9
    · rw [if_pos c_lconst0] at g; subst c_lconst0; cases g; exact eg_d_lconst0 h
    rw [if_neg c_lconst0] at g
    by_cases c_lconst1 : op = 10
    · rw [if_pos c_lconst1] at g; subst c_lconst1; cases g; exact eg_d_lconst1 h
    rw [if_neg c_lconst1] at g
    by_cases c_ldc2_w : op = 20
    · rw [if_pos c_ldc2_w] at g; subst c_ldc2_w
      match r, h, g with
      | a :: b :: r, h, g => cases g; exact eg_d_ldc2_w h
    rw [if_neg c_ldc2_w] at g
    cases g
def eg_g44 (L : List Nat) : Option (Instr × Nat) := match L with
  | op :: r => if op = 26 then some (.iload_n 0, 1) else if op = 27 then some (.iload_n 1, 1) else if op = 28 then some (.iload_n 2, 1) else if op = 29 then some (.iload_n 3, 1) else if op = 21 then (match r with | a :: _ => some (.iload a, 2) | _ => none) else none
  | [] => none
theorem eg_g44_ok {bs : ByteArray} {p : Nat} {L : List Nat} {x : Instr × Nat} (h : (eg_by bs).drop p = L) (g : eg_g44 L = some x) : decode bs p = .ok x := by
  match L, h, g with
  | [], h, g => simp [eg_g44] at g
  | op :: r, h, g =>
    unfold eg_g44 at g
    dsimp only at g
    by_cases c_iload_0 : op = 26
    · rw [if_pos c_iload_0] at g; subst c_iload_0; cases g; exact eg_d_iload_0 h
    rw [if_neg c_iload_0] at g
    by_cases c_iload_1 : op = 27
    · rw [if_pos c_iload_1] at g; subst c_iload_1; cases g; exact eg_d_iload_1 h
    rw [if_neg c_iload_1] at g
    by_cases c_iload_2 : op = 28
    · rw [if_pos c_iload_2] at g; subst c_iload_2; cases g; exact eg_d_iload_2 h
    rw [if_neg c_iload_2] at g
    by_cases c_iload_3 : op = 29
    · rw [if_pos c_iload_3] at g; subst c_iload_3; cases g; exact eg_d_iload_3 h
    rw [if_neg c_iload_3] at g
    by_cases c_iload : op = 21
    · rw [if_pos c_iload] at g; subst c_iload
      match r, h, g with
      | a :: r, h, g => cases g; exact eg_d_iload h
    rw [if_neg c_iload] at g
    cases g
def eg_g45 (L : List Nat) : Option (Instr × Nat) := match L with
  | op :: r => if op = 30 then some (.lload_n 0, 1) else if op = 31 then some (.lload_n 1, 1) else if op = 32 then some (.lload_n 2, 1) else if op = 33 then some (.lload_n 3, 1) else if op = 22 then (match r with | a :: _ => some (.lload a, 2) | _ => none) else none
  | [] => none
theorem eg_g45_ok {bs : ByteArray} {p : Nat} {L : List Nat} {x : Instr × Nat} (h : (eg_by bs).drop p = L) (g : eg_g45 L = some x) : decode bs p = .ok x := by
  match L, h, g with
  | [], h, g => simp [eg_g45] at g
  | op :: r, h, g =>
    unfold eg_g45 at g
    dsimp only at g
    by_cases c_lload_0 : op = 30
    · rw [if_pos c_lload_0] at g; subst c_lload_0; cases g; exact eg_d_lload_0 h
    rw [if_neg c_lload_0] at g
    by_cases c_lload_1 : op = 31
    · rw [if_pos c_lload_1] at g; subst c_lload_1; cases g; exact eg_d_lload_1 h
    rw [if_neg c_lload_1] at g
    by_cases c_lload_2 : op = 32
    · rw [if_pos c_lload_2] at g; subst c_lload_2; cases g; exact eg_d_lload_2 h
    rw [if_neg c_lload_2] at g
    by_cases c_lload_3 : op = 33
    · rw [if_pos c_lload_3] at g; subst c_lload_3; cases g; exact eg_d_lload_3 h
    rw [if_neg c_lload_3] at g
    by_cases c_lload : op = 22
    · rw [if_pos c_lload] at g; subst c_lload
      match r, h, g with
      | a :: r, h, g => cases g; exact eg_d_lload h
    rw [if_neg c_lload] at g
    cases g
def eg_g46 (L : List Nat) : Option (Instr × Nat) := match L with
  | op :: r => if op = 42 then some (.aload_n 0, 1) else if op = 43 then some (.aload_n 1, 1) else if op = 44 then some (.aload_n 2, 1) else if op = 45 then some (.aload_n 3, 1) else if op = 25 then (match r with | a :: _ => some (.aload a, 2) | _ => none) else none
  | [] => none
theorem eg_g46_ok {bs : ByteArray} {p : Nat} {L : List Nat} {x : Instr × Nat} (h : (eg_by bs).drop p = L) (g : eg_g46 L = some x) : decode bs p = .ok x := by
  match L, h, g with
  | [], h, g => simp [eg_g46] at g
  | op :: r, h, g =>
    unfold eg_g46 at g
    dsimp only at g
    by_cases c_aload_0 : op = 42
    · rw [if_pos c_aload_0] at g; subst c_aload_0; cases g; exact eg_d_aload_0 h
    rw [if_neg c_aload_0] at g
    by_cases c_aload_1 : op = 43
    · rw [if_pos c_aload_1] at g; subst c_aload_1; cases g; exact eg_d_aload_1 h
    rw [if_neg c_aload_1] at g
    by_cases c_aload_2 : op = 44
    · rw [if_pos c_aload_2] at g; subst c_aload_2; cases g; exact eg_d_aload_2 h
    rw [if_neg c_aload_2] at g
    by_cases c_aload_3 : op = 45
    · rw [if_pos c_aload_3] at g; subst c_aload_3; cases g; exact eg_d_aload_3 h
    rw [if_neg c_aload_3] at g
    by_cases c_aload : op = 25
    · rw [if_pos c_aload] at g; subst c_aload
      match r, h, g with
      | a :: r, h, g => cases g; exact eg_d_aload h
    rw [if_neg c_aload] at g
    cases g
def eg_g47 (L : List Nat) : Option (Instr × Nat) := match L with
  | op :: r => if op = 59 then some (.istore_n 0, 1) else if op = 60 then some (.istore_n 1, 1) else if op = 61 then some (.istore_n 2, 1) else if op = 62 then some (.istore_n 3, 1) else if op = 54 then (match r with | a :: _ => some (.istore a, 2) | _ => none) else none
  | [] => none
theorem eg_g47_ok {bs : ByteArray} {p : Nat} {L : List Nat} {x : Instr × Nat} (h : (eg_by bs).drop p = L) (g : eg_g47 L = some x) : decode bs p = .ok x := by
  match L, h, g with
  | [], h, g => simp [eg_g47] at g
  | op :: r, h, g =>
    unfold eg_g47 at g
    dsimp only at g
    by_cases c_istore_0 : op = 59
    · rw [if_pos c_istore_0] at g; subst c_istore_0; cases g; exact eg_d_istore_0 h
    rw [if_neg c_istore_0] at g
    by_cases c_istore_1 : op = 60
    · rw [if_pos c_istore_1] at g; subst c_istore_1; cases g; exact eg_d_istore_1 h
    rw [if_neg c_istore_1] at g
    by_cases c_istore_2 : op = 61
    · rw [if_pos c_istore_2] at g; subst c_istore_2; cases g; exact eg_d_istore_2 h
    rw [if_neg c_istore_2] at g
    by_cases c_istore_3 : op = 62
    · rw [if_pos c_istore_3] at g; subst c_istore_3; cases g; exact eg_d_istore_3 h
    rw [if_neg c_istore_3] at g
    by_cases c_istore : op = 54
    · rw [if_pos c_istore] at g; subst c_istore
      match r, h, g with
      | a :: r, h, g => cases g; exact eg_d_istore h
    rw [if_neg c_istore] at g
    cases g
def eg_g48 (L : List Nat) : Option (Instr × Nat) := match L with
  | op :: r => if op = 63 then some (.lstore_n 0, 1) else if op = 64 then some (.lstore_n 1, 1) else if op = 65 then some (.lstore_n 2, 1) else if op = 66 then some (.lstore_n 3, 1) else if op = 55 then (match r with | a :: _ => some (.lstore a, 2) | _ => none) else none
  | [] => none
theorem eg_g48_ok {bs : ByteArray} {p : Nat} {L : List Nat} {x : Instr × Nat} (h : (eg_by bs).drop p = L) (g : eg_g48 L = some x) : decode bs p = .ok x := by
  match L, h, g with
  | [], h, g => simp [eg_g48] at g
  | op :: r, h, g =>
    unfold eg_g48 at g
    dsimp only at g
    by_cases c_lstore_0 : op = 63
    · rw [if_pos c_lstore_0] at g; subst c_lstore_0; cases g; exact eg_d_lstore_0 h
    rw [if_neg c_lstore_0] at g
    by_cases c_lstore_1 : op = 64
    · rw [if_pos c_lstore_1] at g; subst c_lstore_1; cases g; exact eg_d_lstore_1 h
    rw [if_neg c_lstore_1] at g
    by_cases c_lstore_2 : op = 65
    · rw [if_pos c_lstore_2] at g; subst c_lstore_2; cases g; exact eg_d_lstore_2 h
    rw [if_neg c_lstore_2] at g
    by_cases c_lstore_3 : op = 66
    · rw [if_pos c_lstore_3] at g; subst c_lstore_3; cases g; exact eg_d_lstore_3 h
    rw [if_neg c_lstore_3] at g
    by_cases c_lstore : op = 55
    · rw [if_pos c_lstore] at g; subst c_lstore
      match r, h, g with
      | a :: r, h, g => cases g; exact eg_d_lstore h
    rw [if_neg c_lstore] at g
    cases g
def eg_g49 (L : List Nat) : Option (Instr × Nat) := match L with
  | op :: r => if op = 75 then some (.astore_n 0, 1) else if op = 76 then some (.astore_n 1, 1) else if op = 77 then some (.astore_n 2, 1) else if op = 78 then some (.astore_n 3, 1) else if op = 58 then (match r with | a :: _ => some (.astore a, 2) | _ => none) else none
  | [] => none
theorem eg_g49_ok {bs : ByteArray} {p : Nat} {L : List Nat} {x : Instr × Nat} (h : (eg_by bs).drop p = L) (g : eg_g49 L = some x) : decode bs p = .ok x := by
  match L, h, g with
  | [], h, g => simp [eg_g49] at g
  | op :: r, h, g =>
    unfold eg_g49 at g
    dsimp only at g
    by_cases c_astore_0 : op = 75
    · rw [if_pos c_astore_0] at g; subst c_astore_0; cases g; exact eg_d_astore_0 h
    rw [if_neg c_astore_0] at g
    by_cases c_astore_1 : op = 76
    · rw [if_pos c_astore_1] at g; subst c_astore_1; cases g; exact eg_d_astore_1 h
    rw [if_neg c_astore_1] at g
    by_cases c_astore_2 : op = 77
    · rw [if_pos c_astore_2] at g; subst c_astore_2; cases g; exact eg_d_astore_2 h
    rw [if_neg c_astore_2] at g
    by_cases c_astore_3 : op = 78
    · rw [if_pos c_astore_3] at g; subst c_astore_3; cases g; exact eg_d_astore_3 h
    rw [if_neg c_astore_3] at g
    by_cases c_astore : op = 58
    · rw [if_pos c_astore] at g; subst c_astore
      match r, h, g with
      | a :: r, h, g => cases g; exact eg_d_astore h
    rw [if_neg c_astore] at g
    cases g
def eg_g50 (L : List Nat) : Option (Instr × Nat) := match L with
  | op :: r => if op = 132 then (match r with | a :: b :: _ => some (.iinc a (Reader.signed 8 b), 3) | _ => none) else none
  | [] => none
theorem eg_g50_ok {bs : ByteArray} {p : Nat} {L : List Nat} {x : Instr × Nat} (h : (eg_by bs).drop p = L) (g : eg_g50 L = some x) : decode bs p = .ok x := by
  match L, h, g with
  | [], h, g => simp [eg_g50] at g
  | op :: r, h, g =>
    unfold eg_g50 at g
    dsimp only at g
    by_cases c_iinc : op = 132
    · rw [if_pos c_iinc] at g; subst c_iinc
      match r, h, g with
      | a :: b :: r, h, g => cases g; exact eg_d_iinc h
    rw [if_neg c_iinc] at g
    cases g
def eg_g51 (L : List Nat) : Option (Instr × Nat) := match L with
  | op :: r => if op = 167 then (match r with | a :: b :: _ => some (.goto (Reader.signed 16 (a * 256 + b)), 3) | _ => none) else none
  | [] => none
theorem eg_g51_ok {bs : ByteArray} {p : Nat} {L : List Nat} {x : Instr × Nat} (h : (eg_by bs).drop p = L) (g : eg_g51 L = some x) : decode bs p = .ok x := by
  match L, h, g with
  | [], h, g => simp [eg_g51] at g
  | op :: r, h, g =>
    unfold eg_g51 at g
    dsimp only at g
    by_cases c_goto : op = 167
    · rw [if_pos c_goto] at g; subst c_goto
      match r, h, g with
      | a :: b :: r, h, g => cases g; exact eg_d_goto h
    rw [if_neg c_goto] at g
    cases g
def eg_g52 (L : List Nat) : Option (Instr × Nat) := match L with
  | op :: r => if op = 153 then (match r with | a :: b :: _ => some (.ifCond .eq (Reader.signed 16 (a * 256 + b)), 3) | _ => none) else none
  | [] => none
theorem eg_g52_ok {bs : ByteArray} {p : Nat} {L : List Nat} {x : Instr × Nat} (h : (eg_by bs).drop p = L) (g : eg_g52 L = some x) : decode bs p = .ok x := by
  match L, h, g with
  | [], h, g => simp [eg_g52] at g
  | op :: r, h, g =>
    unfold eg_g52 at g
    dsimp only at g
    by_cases c_if_eq : op = 153
    · rw [if_pos c_if_eq] at g; subst c_if_eq
      match r, h, g with
      | a :: b :: r, h, g => cases g; exact eg_d_if_eq h
    rw [if_neg c_if_eq] at g
    cases g
def eg_g53 (L : List Nat) : Option (Instr × Nat) := match L with
  | op :: r => if op = 159 then (match r with | a :: b :: _ => some (.if_icmp .eq (Reader.signed 16 (a * 256 + b)), 3) | _ => none) else none
  | [] => none
theorem eg_g53_ok {bs : ByteArray} {p : Nat} {L : List Nat} {x : Instr × Nat} (h : (eg_by bs).drop p = L) (g : eg_g53 L = some x) : decode bs p = .ok x := by
  match L, h, g with
  | [], h, g => simp [eg_g53] at g
  | op :: r, h, g =>
    unfold eg_g53 at g
    dsimp only at g
    by_cases c_icmp_eq : op = 159
    · rw [if_pos c_icmp_eq] at g; subst c_icmp_eq
      match r, h, g with
      | a :: b :: r, h, g => cases g; exact eg_d_icmp_eq h
    rw [if_neg c_icmp_eq] at g
    cases g
def eg_g54 (L : List Nat) : Option (Instr × Nat) := match L with
  | op :: r => if op = 154 then (match r with | a :: b :: _ => some (.ifCond .ne (Reader.signed 16 (a * 256 + b)), 3) | _ => none) else none
  | [] => none
theorem eg_g54_ok {bs : ByteArray} {p : Nat} {L : List Nat} {x : Instr × Nat} (h : (eg_by bs).drop p = L) (g : eg_g54 L = some x) : decode bs p = .ok x := by
  match L, h, g with
  | [], h, g => simp [eg_g54] at g
  | op :: r, h, g =>
    unfold eg_g54 at g
    dsimp only at g
    by_cases c_if_ne : op = 154
    · rw [if_pos c_if_ne] at g; subst c_if_ne
      match r, h, g with
      | a :: b :: r, h, g => cases g; exact eg_d_if_ne h
    rw [if_neg c_if_ne] at g
    cases g
def eg_g55 (L : List Nat) : Option (Instr × Nat) := match L with
  | op :: r => if op = 160 then (match r with | a :: b :: _ => some (.if_icmp .ne (Reader.signed 16 (a * 256 + b)), 3) | _ => none) else none
  | [] => none
theorem eg_g55_ok {bs : ByteArray} {p : Nat} {L : List Nat} {x : Instr × Nat} (h : (eg_by bs).drop p = L) (g : eg_g55 L = some x) : decode bs p = .ok x := by
  match L, h, g with
  | [], h, g => simp [eg_g55] at g
  | op :: r, h, g =>
    unfold eg_g55 at g
    dsimp only at g
    by_cases c_icmp_ne : op = 160
    · rw [if_pos c_icmp_ne] at g; subst c_icmp_ne
      match r, h, g with
      | a :: b :: r, h, g => cases g; exact eg_d_icmp_ne h
    rw [if_neg c_icmp_ne] at g
    cases g
def eg_g56 (L : List Nat) : Option (Instr × Nat) := match L with
  | op :: r => if op = 155 then (match r with | a :: b :: _ => some (.ifCond .lt (Reader.signed 16 (a * 256 + b)), 3) | _ => none) else none
  | [] => none
theorem eg_g56_ok {bs : ByteArray} {p : Nat} {L : List Nat} {x : Instr × Nat} (h : (eg_by bs).drop p = L) (g : eg_g56 L = some x) : decode bs p = .ok x := by
  match L, h, g with
  | [], h, g => simp [eg_g56] at g
  | op :: r, h, g =>
    unfold eg_g56 at g
    dsimp only at g
    by_cases c_if_lt : op = 155
    · rw [if_pos c_if_lt] at g; subst c_if_lt
      match r, h, g with
      | a :: b :: r, h, g => cases g; exact eg_d_if_lt h
    rw [if_neg c_if_lt] at g
    cases g
def eg_g57 (L : List Nat) : Option (Instr × Nat) := match L with
  | op :: r => if op = 161 then (match r with | a :: b :: _ => some (.if_icmp .lt (Reader.signed 16 (a * 256 + b)), 3) | _ => none) else none
  | [] => none
theorem eg_g57_ok {bs : ByteArray} {p : Nat} {L : List Nat} {x : Instr × Nat} (h : (eg_by bs).drop p = L) (g : eg_g57 L = some x) : decode bs p = .ok x := by
  match L, h, g with
  | [], h, g => simp [eg_g57] at g
  | op :: r, h, g =>
    unfold eg_g57 at g
    dsimp only at g
    by_cases c_icmp_lt : op = 161
    · rw [if_pos c_icmp_lt] at g; subst c_icmp_lt
      match r, h, g with
      | a :: b :: r, h, g => cases g; exact eg_d_icmp_lt h
    rw [if_neg c_icmp_lt] at g
    cases g
def eg_g58 (L : List Nat) : Option (Instr × Nat) := match L with
  | op :: r => if op = 156 then (match r with | a :: b :: _ => some (.ifCond .ge (Reader.signed 16 (a * 256 + b)), 3) | _ => none) else none
  | [] => none
theorem eg_g58_ok {bs : ByteArray} {p : Nat} {L : List Nat} {x : Instr × Nat} (h : (eg_by bs).drop p = L) (g : eg_g58 L = some x) : decode bs p = .ok x := by
  match L, h, g with
  | [], h, g => simp [eg_g58] at g
  | op :: r, h, g =>
    unfold eg_g58 at g
    dsimp only at g
    by_cases c_if_ge : op = 156
    · rw [if_pos c_if_ge] at g; subst c_if_ge
      match r, h, g with
      | a :: b :: r, h, g => cases g; exact eg_d_if_ge h
    rw [if_neg c_if_ge] at g
    cases g
def eg_g59 (L : List Nat) : Option (Instr × Nat) := match L with
  | op :: r => if op = 162 then (match r with | a :: b :: _ => some (.if_icmp .ge (Reader.signed 16 (a * 256 + b)), 3) | _ => none) else none
  | [] => none
theorem eg_g59_ok {bs : ByteArray} {p : Nat} {L : List Nat} {x : Instr × Nat} (h : (eg_by bs).drop p = L) (g : eg_g59 L = some x) : decode bs p = .ok x := by
  match L, h, g with
  | [], h, g => simp [eg_g59] at g
  | op :: r, h, g =>
    unfold eg_g59 at g
    dsimp only at g
    by_cases c_icmp_ge : op = 162
    · rw [if_pos c_icmp_ge] at g; subst c_icmp_ge
      match r, h, g with
      | a :: b :: r, h, g => cases g; exact eg_d_icmp_ge h
    rw [if_neg c_icmp_ge] at g
    cases g
def eg_g60 (L : List Nat) : Option (Instr × Nat) := match L with
  | op :: r => if op = 157 then (match r with | a :: b :: _ => some (.ifCond .gt (Reader.signed 16 (a * 256 + b)), 3) | _ => none) else none
  | [] => none
theorem eg_g60_ok {bs : ByteArray} {p : Nat} {L : List Nat} {x : Instr × Nat} (h : (eg_by bs).drop p = L) (g : eg_g60 L = some x) : decode bs p = .ok x := by
  match L, h, g with
  | [], h, g => simp [eg_g60] at g
  | op :: r, h, g =>
    unfold eg_g60 at g
    dsimp only at g
    by_cases c_if_gt : op = 157
    · rw [if_pos c_if_gt] at g; subst c_if_gt
      match r, h, g with
      | a :: b :: r, h, g => cases g; exact eg_d_if_gt h
    rw [if_neg c_if_gt] at g
    cases g
def eg_g61 (L : List Nat) : Option (Instr × Nat) := match L with
  | op :: r => if op = 163 then (match r with | a :: b :: _ => some (.if_icmp .gt (Reader.signed 16 (a * 256 + b)), 3) | _ => none) else none
  | [] => none
theorem eg_g61_ok {bs : ByteArray} {p : Nat} {L : List Nat} {x : Instr × Nat} (h : (eg_by bs).drop p = L) (g : eg_g61 L = some x) : decode bs p = .ok x := by
  match L, h, g with
  | [], h, g => simp [eg_g61] at g
  | op :: r, h, g =>
    unfold eg_g61 at g
    dsimp only at g
    by_cases c_icmp_gt : op = 163
    · rw [if_pos c_icmp_gt] at g; subst c_icmp_gt
      match r, h, g with
      | a :: b :: r, h, g => cases g; exact eg_d_icmp_gt h
    rw [if_neg c_icmp_gt] at g
    cases g
def eg_g62 (L : List Nat) : Option (Instr × Nat) := match L with
  | op :: r => if op = 158 then (match r with | a :: b :: _ => some (.ifCond .le (Reader.signed 16 (a * 256 + b)), 3) | _ => none) else none
  | [] => none
theorem eg_g62_ok {bs : ByteArray} {p : Nat} {L : List Nat} {x : Instr × Nat} (h : (eg_by bs).drop p = L) (g : eg_g62 L = some x) : decode bs p = .ok x := by
  match L, h, g with
  | [], h, g => simp [eg_g62] at g
  | op :: r, h, g =>
    unfold eg_g62 at g
    dsimp only at g
    by_cases c_if_le : op = 158
    · rw [if_pos c_if_le] at g; subst c_if_le
      match r, h, g with
      | a :: b :: r, h, g => cases g; exact eg_d_if_le h
    rw [if_neg c_if_le] at g
    cases g
def eg_g63 (L : List Nat) : Option (Instr × Nat) := match L with
  | op :: r => if op = 164 then (match r with | a :: b :: _ => some (.if_icmp .le (Reader.signed 16 (a * 256 + b)), 3) | _ => none) else none
  | [] => none
theorem eg_g63_ok {bs : ByteArray} {p : Nat} {L : List Nat} {x : Instr × Nat} (h : (eg_by bs).drop p = L) (g : eg_g63 L = some x) : decode bs p = .ok x := by
  match L, h, g with
  | [], h, g => simp [eg_g63] at g
  | op :: r, h, g =>
    unfold eg_g63 at g
    dsimp only at g
    by_cases c_icmp_le : op = 164
    · rw [if_pos c_icmp_le] at g; subst c_icmp_le
      match r, h, g with
      | a :: b :: r, h, g => cases g; exact eg_d_icmp_le h
    rw [if_neg c_icmp_le] at g
    cases g
def eg_g64 (L : List Nat) : Option (Instr × Nat) := match L with
  | op :: r => if op = 165 then (match r with | a :: b :: _ => some (.if_acmp .eq (Reader.signed 16 (a * 256 + b)), 3) | _ => none) else none
  | [] => none
theorem eg_g64_ok {bs : ByteArray} {p : Nat} {L : List Nat} {x : Instr × Nat} (h : (eg_by bs).drop p = L) (g : eg_g64 L = some x) : decode bs p = .ok x := by
  match L, h, g with
  | [], h, g => simp [eg_g64] at g
  | op :: r, h, g =>
    unfold eg_g64 at g
    dsimp only at g
    by_cases c_acmp_eq : op = 165
    · rw [if_pos c_acmp_eq] at g; subst c_acmp_eq
      match r, h, g with
      | a :: b :: r, h, g => cases g; exact eg_d_acmp_eq h
    rw [if_neg c_acmp_eq] at g
    cases g
def eg_g65 (L : List Nat) : Option (Instr × Nat) := match L with
  | op :: r => if op = 166 then (match r with | a :: b :: _ => some (.if_acmp .ne (Reader.signed 16 (a * 256 + b)), 3) | _ => none) else none
  | [] => none
theorem eg_g65_ok {bs : ByteArray} {p : Nat} {L : List Nat} {x : Instr × Nat} (h : (eg_by bs).drop p = L) (g : eg_g65 L = some x) : decode bs p = .ok x := by
  match L, h, g with
  | [], h, g => simp [eg_g65] at g
  | op :: r, h, g =>
    unfold eg_g65 at g
    dsimp only at g
    by_cases c_acmp_ne : op = 166
    · rw [if_pos c_acmp_ne] at g; subst c_acmp_ne
      match r, h, g with
      | a :: b :: r, h, g => cases g; exact eg_d_acmp_ne h
    rw [if_neg c_acmp_ne] at g
    cases g
def eg_g66 (L : List Nat) : Option (Instr × Nat) := match L with
  | op :: r => if op = 180 then (match r with | a :: b :: _ => some (.getfield (a * 256 + b), 3) | _ => none) else none
  | [] => none
theorem eg_g66_ok {bs : ByteArray} {p : Nat} {L : List Nat} {x : Instr × Nat} (h : (eg_by bs).drop p = L) (g : eg_g66 L = some x) : decode bs p = .ok x := by
  match L, h, g with
  | [], h, g => simp [eg_g66] at g
  | op :: r, h, g =>
    unfold eg_g66 at g
    dsimp only at g
    by_cases c_getfield : op = 180
    · rw [if_pos c_getfield] at g; subst c_getfield
      match r, h, g with
      | a :: b :: r, h, g => cases g; exact eg_d_getfield h
    rw [if_neg c_getfield] at g
    cases g
def eg_g67 (L : List Nat) : Option (Instr × Nat) := match L with
  | op :: r => if op = 181 then (match r with | a :: b :: _ => some (.putfield (a * 256 + b), 3) | _ => none) else none
  | [] => none
theorem eg_g67_ok {bs : ByteArray} {p : Nat} {L : List Nat} {x : Instr × Nat} (h : (eg_by bs).drop p = L) (g : eg_g67 L = some x) : decode bs p = .ok x := by
  match L, h, g with
  | [], h, g => simp [eg_g67] at g
  | op :: r, h, g =>
    unfold eg_g67 at g
    dsimp only at g
    by_cases c_putfield : op = 181
    · rw [if_pos c_putfield] at g; subst c_putfield
      match r, h, g with
      | a :: b :: r, h, g => cases g; exact eg_d_putfield h
    rw [if_neg c_putfield] at g
    cases g
def eg_g68 (L : List Nat) : Option (Instr × Nat) := match L with
  | op :: r => if op = 178 then (match r with | a :: b :: _ => some (.getstatic (a * 256 + b), 3) | _ => none) else none
  | [] => none
theorem eg_g68_ok {bs : ByteArray} {p : Nat} {L : List Nat} {x : Instr × Nat} (h : (eg_by bs).drop p = L) (g : eg_g68 L = some x) : decode bs p = .ok x := by
  match L, h, g with
  | [], h, g => simp [eg_g68] at g
  | op :: r, h, g =>
    unfold eg_g68 at g
    dsimp only at g
    by_cases c_getstatic : op = 178
    · rw [if_pos c_getstatic] at g; subst c_getstatic
      match r, h, g with
      | a :: b :: r, h, g => cases g; exact eg_d_getstatic h
    rw [if_neg c_getstatic] at g
    cases g
def eg_g69 (L : List Nat) : Option (Instr × Nat) := match L with
  | op :: r => if op = 187 then (match r with | a :: b :: _ => some (.new (a * 256 + b), 3) | _ => none) else none
  | [] => none
theorem eg_g69_ok {bs : ByteArray} {p : Nat} {L : List Nat} {x : Instr × Nat} (h : (eg_by bs).drop p = L) (g : eg_g69 L = some x) : decode bs p = .ok x := by
  match L, h, g with
  | [], h, g => simp [eg_g69] at g
  | op :: r, h, g =>
    unfold eg_g69 at g
    dsimp only at g
    by_cases c_new : op = 187
    · rw [if_pos c_new] at g; subst c_new
      match r, h, g with
      | a :: b :: r, h, g => cases g; exact eg_d_new h
    rw [if_neg c_new] at g
    cases g
def eg_g70 (L : List Nat) : Option (Instr × Nat) := match L with
  | op :: r => if op = 188 then (match r with | a :: _ => if a = 4 then some (.newarray .boolean, 2) else none | _ => none) else none
  | [] => none
theorem eg_g70_ok {bs : ByteArray} {p : Nat} {L : List Nat} {x : Instr × Nat} (h : (eg_by bs).drop p = L) (g : eg_g70 L = some x) : decode bs p = .ok x := by
  match L, h, g with
  | [], h, g => simp [eg_g70] at g
  | op :: r, h, g =>
    unfold eg_g70 at g
    dsimp only at g
    by_cases c_newarray_boolean : op = 188
    · rw [if_pos c_newarray_boolean] at g; subst c_newarray_boolean
      match r, h, g with
      | a :: r, h, g =>
        by_cases e : a = 4
        · dsimp only at g; rw [if_pos e] at g; subst e; cases g; exact eg_d_newarray_boolean h
        · dsimp only at g; rw [if_neg e] at g; cases g
    rw [if_neg c_newarray_boolean] at g
    cases g
def eg_g71 (L : List Nat) : Option (Instr × Nat) := match L with
  | op :: r => if op = 188 then (match r with | a :: _ => if a = 8 then some (.newarray .byte, 2) else none | _ => none) else none
  | [] => none
theorem eg_g71_ok {bs : ByteArray} {p : Nat} {L : List Nat} {x : Instr × Nat} (h : (eg_by bs).drop p = L) (g : eg_g71 L = some x) : decode bs p = .ok x := by
  match L, h, g with
  | [], h, g => simp [eg_g71] at g
  | op :: r, h, g =>
    unfold eg_g71 at g
    dsimp only at g
    by_cases c_newarray_byte : op = 188
    · rw [if_pos c_newarray_byte] at g; subst c_newarray_byte
      match r, h, g with
      | a :: r, h, g =>
        by_cases e : a = 8
        · dsimp only at g; rw [if_pos e] at g; subst e; cases g; exact eg_d_newarray_byte h
        · dsimp only at g; rw [if_neg e] at g; cases g
    rw [if_neg c_newarray_byte] at g
    cases g
def eg_g72 (L : List Nat) : Option (Instr × Nat) := match L with
  | op :: r => if op = 188 then (match r with | a :: _ => if a = 9 then some (.newarray .short, 2) else none | _ => none) else none
  | [] => none
theorem eg_g72_ok {bs : ByteArray} {p : Nat} {L : List Nat} {x : Instr × Nat} (h : (eg_by bs).drop p = L) (g : eg_g72 L = some x) : decode bs p = .ok x := by
  match L, h, g with
  | [], h, g => simp [eg_g72] at g
  | op :: r, h, g =>
    unfold eg_g72 at g
    dsimp only at g
    by_cases c_newarray_short : op = 188
    · rw [if_pos c_newarray_short] at g; subst c_newarray_short
      match r, h, g with
      | a :: r, h, g =>
        by_cases e : a = 9
        · dsimp only at g; rw [if_pos e] at g; subst e; cases g; exact eg_d_newarray_short h
        · dsimp only at g; rw [if_neg e] at g; cases g
    rw [if_neg c_newarray_short] at g
    cases g
def eg_g73 (L : List Nat) : Option (Instr × Nat) := match L with
  | op :: r => if op = 188 then (match r with | a :: _ => if a = 10 then some (.newarray .int, 2) else none | _ => none) else none
  | [] => none
theorem eg_g73_ok {bs : ByteArray} {p : Nat} {L : List Nat} {x : Instr × Nat} (h : (eg_by bs).drop p = L) (g : eg_g73 L = some x) : decode bs p = .ok x := by
  match L, h, g with
  | [], h, g => simp [eg_g73] at g
  | op :: r, h, g =>
    unfold eg_g73 at g
    dsimp only at g
    by_cases c_newarray_int : op = 188
    · rw [if_pos c_newarray_int] at g; subst c_newarray_int
      match r, h, g with
      | a :: r, h, g =>
        by_cases e : a = 10
        · dsimp only at g; rw [if_pos e] at g; subst e; cases g; exact eg_d_newarray_int h
        · dsimp only at g; rw [if_neg e] at g; cases g
    rw [if_neg c_newarray_int] at g
    cases g
def eg_g74 (L : List Nat) : Option (Instr × Nat) := match L with
  | op :: r => if op = 188 then (match r with | a :: _ => if a = 11 then some (.newarray .long, 2) else none | _ => none) else none
  | [] => none
theorem eg_g74_ok {bs : ByteArray} {p : Nat} {L : List Nat} {x : Instr × Nat} (h : (eg_by bs).drop p = L) (g : eg_g74 L = some x) : decode bs p = .ok x := by
  match L, h, g with
  | [], h, g => simp [eg_g74] at g
  | op :: r, h, g =>
    unfold eg_g74 at g
    dsimp only at g
    by_cases c_newarray_long : op = 188
    · rw [if_pos c_newarray_long] at g; subst c_newarray_long
      match r, h, g with
      | a :: r, h, g =>
        by_cases e : a = 11
        · dsimp only at g; rw [if_pos e] at g; subst e; cases g; exact eg_d_newarray_long h
        · dsimp only at g; rw [if_neg e] at g; cases g
    rw [if_neg c_newarray_long] at g
    cases g
def eg_g75 (L : List Nat) : Option (Instr × Nat) := match L with
  | op :: r => if op = 182 then (match r with | a :: b :: _ => some (.invokevirtual (a * 256 + b), 3) | _ => none) else if op = 183 then (match r with | a :: b :: _ => some (.invokespecial (a * 256 + b), 3) | _ => none) else if op = 184 then (match r with | a :: b :: _ => some (.invokestatic (a * 256 + b), 3) | _ => none) else none
  | [] => none
theorem eg_g75_ok {bs : ByteArray} {p : Nat} {L : List Nat} {x : Instr × Nat} (h : (eg_by bs).drop p = L) (g : eg_g75 L = some x) : decode bs p = .ok x := by
  match L, h, g with
  | [], h, g => simp [eg_g75] at g
  | op :: r, h, g =>
    unfold eg_g75 at g
    dsimp only at g
    by_cases c_invokevirtual : op = 182
    · rw [if_pos c_invokevirtual] at g; subst c_invokevirtual
      match r, h, g with
      | a :: b :: r, h, g => cases g; exact eg_d_invokevirtual h
    rw [if_neg c_invokevirtual] at g
    by_cases c_invokespecial : op = 183
    · rw [if_pos c_invokespecial] at g; subst c_invokespecial
      match r, h, g with
      | a :: b :: r, h, g => cases g; exact eg_d_invokespecial h
    rw [if_neg c_invokespecial] at g
    by_cases c_invokestatic : op = 184
    · rw [if_pos c_invokestatic] at g; subst c_invokestatic
      match r, h, g with
      | a :: b :: r, h, g => cases g; exact eg_d_invokestatic h
    rw [if_neg c_invokestatic] at g
    cases g
def eg_g76 (L : List Nat) : Option (Instr × Nat) := match L with
  | op :: r => if op = 183 then (match r with | a :: b :: _ => some (.invokespecial (a * 256 + b), 3) | _ => none) else none
  | [] => none
theorem eg_g76_ok {bs : ByteArray} {p : Nat} {L : List Nat} {x : Instr × Nat} (h : (eg_by bs).drop p = L) (g : eg_g76 L = some x) : decode bs p = .ok x := by
  match L, h, g with
  | [], h, g => simp [eg_g76] at g
  | op :: r, h, g =>
    unfold eg_g76 at g
    dsimp only at g
    by_cases c_invokespecial : op = 183
    · rw [if_pos c_invokespecial] at g; subst c_invokespecial
      match r, h, g with
      | a :: b :: r, h, g => cases g; exact eg_d_invokespecial h
    rw [if_neg c_invokespecial] at g
    cases g
def eg_g77 (L : List Nat) : Option (Instr × Nat) := match L with
  | op :: r => if op = 184 then (match r with | a :: b :: _ => some (.invokestatic (a * 256 + b), 3) | _ => none) else none
  | [] => none
theorem eg_g77_ok {bs : ByteArray} {p : Nat} {L : List Nat} {x : Instr × Nat} (h : (eg_by bs).drop p = L) (g : eg_g77 L = some x) : decode bs p = .ok x := by
  match L, h, g with
  | [], h, g => simp [eg_g77] at g
  | op :: r, h, g =>
    unfold eg_g77 at g
    dsimp only at g
    by_cases c_invokestatic : op = 184
    · rw [if_pos c_invokestatic] at g; subst c_invokestatic
      match r, h, g with
      | a :: b :: r, h, g => cases g; exact eg_d_invokestatic h
    rw [if_neg c_invokestatic] at g
    cases g
def eg_fd (L : List Nat) (I : Instr) : Option (Instr × Nat) := match I with
  | .iadd => eg_g0 L
  | .isub => eg_g1 L
  | .imul => eg_g2 L
  | .idiv => eg_g3 L
  | .irem => eg_g4 L
  | .ineg => eg_g5 L
  | .iand => eg_g6 L
  | .ishr => eg_g7 L
  | .ladd => eg_g8 L
  | .lsub => eg_g9 L
  | .lmul => eg_g10 L
  | .ldiv => eg_g11 L
  | .lrem => eg_g12 L
  | .lneg => eg_g13 L
  | .land => eg_g14 L
  | .lor => eg_g15 L
  | .lshl => eg_g16 L
  | .lshr => eg_g17 L
  | .lcmp => eg_g18 L
  | .i2l => eg_g19 L
  | .l2i => eg_g20 L
  | .i2b => eg_g21 L
  | .i2s => eg_g22 L
  | .i2c => eg_g23 L
  | .dup => eg_g24 L
  | .dup2 => eg_g25 L
  | .pop => eg_g26 L
  | .arraylength => eg_g27 L
  | .iaload => eg_g28 L
  | .laload => eg_g29 L
  | .baload => eg_g30 L
  | .saload => eg_g31 L
  | .aaload => eg_g32 L
  | .iastore => eg_g33 L
  | .lastore => eg_g34 L
  | .bastore => eg_g35 L
  | .sastore => eg_g36 L
  | .ireturn => eg_g37 L
  | .lreturn => eg_g38 L
  | .areturn => eg_g39 L
  | .return_ => eg_g40 L
  | .sipush _ => eg_g41 L
  | .jsr _ => eg_g42 L
  | .jsr_w _ => eg_g43 L
  | .iload _ => eg_g44 L
  | .lload _ => eg_g45 L
  | .aload _ => eg_g46 L
  | .istore _ => eg_g47 L
  | .lstore _ => eg_g48 L
  | .astore _ => eg_g49 L
  | .iinc _ _ => eg_g50 L
  | .goto _ => eg_g51 L
  | .ifCond .eq _ => eg_g52 L
  | .if_icmp .eq _ => eg_g53 L
  | .ifCond .ne _ => eg_g54 L
  | .if_icmp .ne _ => eg_g55 L
  | .ifCond .lt _ => eg_g56 L
  | .if_icmp .lt _ => eg_g57 L
  | .ifCond .ge _ => eg_g58 L
  | .if_icmp .ge _ => eg_g59 L
  | .ifCond .gt _ => eg_g60 L
  | .if_icmp .gt _ => eg_g61 L
  | .ifCond .le _ => eg_g62 L
  | .if_icmp .le _ => eg_g63 L
  | .if_acmp .eq _ => eg_g64 L
  | .if_acmp .ne _ => eg_g65 L
  | .getfield _ => eg_g66 L
  | .instanceof _ => eg_g66 L
  | .putfield _ => eg_g67 L
  | .getstatic _ => eg_g68 L
  | .new _ => eg_g69 L
  | .newarray .boolean => eg_g70 L
  | .newarray .byte => eg_g71 L
  | .newarray .short => eg_g72 L
  | .newarray .int => eg_g73 L
  | .newarray .long => eg_g74 L
  | .invokestatic _ => eg_g75 L
  | .invokespecial _ => eg_g76 L
  | .invokeinterface _ _ => eg_g77 L
  | _ => none
theorem eg_fd_ok {bs : ByteArray} {p : Nat} {L : List Nat} {I : Instr} {x : Instr × Nat} (h : (eg_by bs).drop p = L) (g : eg_fd L I = some x) : decode bs p = .ok x := by
  unfold eg_fd at g
  split at g <;> first | exact eg_g0_ok h g | exact eg_g1_ok h g | exact eg_g2_ok h g | exact eg_g3_ok h g | exact eg_g4_ok h g | exact eg_g5_ok h g | exact eg_g6_ok h g | exact eg_g7_ok h g | exact eg_g8_ok h g | exact eg_g9_ok h g | exact eg_g10_ok h g | exact eg_g11_ok h g | exact eg_g12_ok h g | exact eg_g13_ok h g | exact eg_g14_ok h g | exact eg_g15_ok h g | exact eg_g16_ok h g | exact eg_g17_ok h g | exact eg_g18_ok h g | exact eg_g19_ok h g | exact eg_g20_ok h g | exact eg_g21_ok h g | exact eg_g22_ok h g | exact eg_g23_ok h g | exact eg_g24_ok h g | exact eg_g25_ok h g | exact eg_g26_ok h g | exact eg_g27_ok h g | exact eg_g28_ok h g | exact eg_g29_ok h g | exact eg_g30_ok h g | exact eg_g31_ok h g | exact eg_g32_ok h g | exact eg_g33_ok h g | exact eg_g34_ok h g | exact eg_g35_ok h g | exact eg_g36_ok h g | exact eg_g37_ok h g | exact eg_g38_ok h g | exact eg_g39_ok h g | exact eg_g40_ok h g | exact eg_g41_ok h g | exact eg_g42_ok h g | exact eg_g43_ok h g | exact eg_g44_ok h g | exact eg_g45_ok h g | exact eg_g46_ok h g | exact eg_g47_ok h g | exact eg_g48_ok h g | exact eg_g49_ok h g | exact eg_g50_ok h g | exact eg_g51_ok h g | exact eg_g52_ok h g | exact eg_g53_ok h g | exact eg_g54_ok h g | exact eg_g55_ok h g | exact eg_g56_ok h g | exact eg_g57_ok h g | exact eg_g58_ok h g | exact eg_g59_ok h g | exact eg_g60_ok h g | exact eg_g61_ok h g | exact eg_g62_ok h g | exact eg_g63_ok h g | exact eg_g64_ok h g | exact eg_g65_ok h g | exact eg_g66_ok h g | exact eg_g67_ok h g | exact eg_g68_ok h g | exact eg_g69_ok h g | exact eg_g70_ok h g | exact eg_g71_ok h g | exact eg_g72_ok h g | exact eg_g73_ok h g | exact eg_g74_ok h g | exact eg_g75_ok h g | exact eg_g76_ok h g | exact eg_g77_ok h g | cases g
