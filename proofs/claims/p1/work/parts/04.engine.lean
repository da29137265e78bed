/-! THE PURE MACHINE. Numbers are Int (kept in their type's range), cells are numbered in the order of their making.
A value: int, long, or a reference (some k: cell k, or from 1000000 on a static thing; none: an object of which nothing is known). -/
/-- a cell's shape: an array of a type and a length, or an object of a class -/
abbrev eg_C : Type := (FieldType × Nat) ⊕ Nat
/-- shapes, references in fields, numbers in fields and elements -/
abbrev eg_H : Type := List eg_C × ((Nat → Nat → Option Nat) × (Nat → Nat → Int))
abbrev eg_L : Type := List (Option eg_V)
abbrev eg_K : Type := Nat → eg_L → List eg_V → eg_H → Nat → Nat → Prop
def eg_wi (x : Int) : Int := (x + 2147483648) % 4294967296 - 2147483648
def eg_wl (x : Int) : Int := (x + 9223372036854775808) % 18446744073709551616 - 9223372036854775808
def eg_wb (x : Int) : Int := (x + 128) % 256 - 128
def eg_ws (x : Int) : Int := (x + 32768) % 65536 - 32768
def eg_u {α : Type} (m : Nat → Nat → α) (a i : Nat) (v : α) : Nat → Nat → α := fun b j => if b = a ∧ j = i then v else m b j
def eg_z {α : Type} (m : Nat → Nat → α) (a : Nat) (v : α) : Nat → Nat → α := fun b j => if b = a then v else m b j
def eg_cp (m : Nat → Nat → Int) (a b sp dp n : Nat) : Nat → Nat → Int := fun x j => if x = b ∧ dp ≤ j ∧ j < dp + n then m a (sp + (j - dp)) else m x j
def eg_pi (st : List eg_V) (K : Int → List eg_V → Prop) : Prop := match st with
  | .inl x :: st => K x st
  | _ => False
def eg_pl (st : List eg_V) (K : Int → List eg_V → Prop) : Prop := match st with
  | .inr (.inl x) :: st => K x st
  | _ => False
def eg_pr (st : List eg_V) (K : Nat → List eg_V → Prop) : Prop := match st with
  | .inr (.inr (some k)) :: st => K k st
  | _ => False
/-- any value of one word -/
def eg_po (st : List eg_V) (K : eg_V → List eg_V → Prop) : Prop := match st with
  | .inl x :: st => K (.inl x) st
  | .inr (.inr k) :: st => K (.inr (.inr k)) st
  | _ => False
def eg_li (lv : eg_L) (k : Nat) (K : Int → Prop) : Prop := match lv[k]? with
  | some (some (.inl x)) => K x
  | _ => False
def eg_ll (lv : eg_L) (k : Nat) (K : Int → Prop) : Prop := match lv[k]? with
  | some (some (.inr (.inl x))) => K x
  | _ => False
def eg_lr (lv : eg_L) (k : Nat) (K : Nat → Prop) : Prop := match lv[k]? with
  | some (some (.inr (.inr (some x)))) => K x
  | _ => False
/-- a store breaks the long that ends there -/
def eg_cb (lv : eg_L) (i : Nat) : eg_L := match i with
  | 0 => lv
  | i + 1 => match lv[i]? with
    | some (some (.inr (.inl _))) => lv.set i none
    | _ => lv
def eg_s1 (lv : eg_L) (i : Nat) (v : eg_V) : eg_L := (eg_cb lv i).set i (some v)
def eg_s2 (lv : eg_L) (i : Nat) (v : eg_V) : eg_L := ((eg_cb lv i).set i (some v)).set (i + 1) none
def eg_wd (v : eg_V) : Nat := match v with
  | .inr (.inl _) => 2
  | _ => 1
def eg_wds : List eg_V → Nat
  | [] => 0
  | v :: r => eg_wd v + eg_wds r
/-- the locals at a method's entry -/
def eg_en (n : Nat) : List eg_V → eg_L
  | [] => List.replicate n none
  | .inr (.inl x) :: r => some (.inr (.inl x)) :: none :: eg_en (n - 2) r
  | v :: r => some v :: eg_en (n - 1) r
def eg_fty (q : Nat) : FieldType := match q / 1000 with
  | 0 => t_0 (q % 1000)
  | 1 => t_1 (q % 1000)
  | 2 => t_2 (q % 1000)
  | 3 => t_3 (q % 1000)
  | 4 => t_4 (q % 1000)
  | 5 => t_5 (q % 1000)
  | 6 => t_6 (q % 1000)
  | 7 => t_7 (q % 1000)
  | 8 => t_8 (q % 1000)
  | 9 => t_9 (q % 1000)
  | 10 => t_10 (q % 1000)
  | _ => t_11 (q % 1000)
/-- how many fields a class has -/
def eg_nf (ci : Nat) : Nat := ((eg_cl[ci]?).map (fun q => q.2.2)).getD 0
/-- a field of own class number q / 1000 is read -/
def eg_gf (h : eg_H) (a q : Nat) (K : eg_V → Prop) : Prop := match h.1[a]? with
  | some (.inr ci) => ci = q / 1000 ∧ (match eg_fty q with
    | .long => K (.inr (.inl (h.2.2 a (q % 1000))))
    | .int => K (.inl (h.2.2 a (q % 1000)))
    | .boolean => K (.inl (h.2.2 a (q % 1000)))
    | .object _ => (match h.2.1 a (q % 1000) with
      | some b => K (.inr (.inr (some b)))
      | none => False)
    | .array _ => (match h.2.1 a (q % 1000) with
      | some b => K (.inr (.inr (some b)))
      | none => False)
    | _ => False)
  | _ => False
/-- a field is written -/
def eg_pf1 (h : eg_H) (a q : Nat) (v : eg_V) (K : eg_H → Prop) : Prop := match h.1[a]? with
  | some (.inr ci) => ci = q / 1000 ∧ (match eg_fty q, v with
    | .long, .inr (.inl x) => K (h.1, h.2.1, eg_u h.2.2 a (q % 1000) x)
    | .int, .inl x => K (h.1, h.2.1, eg_u h.2.2 a (q % 1000) x)
    | .boolean, .inl x => (x = 0 ∨ x = 1) ∧ K (h.1, h.2.1, eg_u h.2.2 a (q % 1000) x)
    | .object _, .inr (.inr (some b)) => K (h.1, eg_u h.2.1 a (q % 1000) (some b), h.2.2)
    | .array _, .inr (.inr (some b)) => K (h.1, eg_u h.2.1 a (q % 1000) (some b), h.2.2)
    | _, _ => False)
  | _ => False
/-- an element is read: its array's type and the value -/
def eg_al (sc : eg_Sc) (h : eg_H) (a : Nat) (x : Int) (K : FieldType → eg_V → Prop) : Prop := match h.1[a]? with
  | some (.inl (ty, n)) => 0 ≤ x ∧ x < (n : Int) ∧ K ty (match ty with
    | .long => .inr (.inl (h.2.2 a x.toNat))
    | _ => .inl (h.2.2 a x.toNat))
  | some (.inr _) => False
  | none => (match eg_sa sc a with
    | some (ty, n, f) => 0 ≤ x ∧ x < (n : Int) ∧ K ty (f x.toNat)
    | none => False)
/-- the place of an element that is written -/
def eg_as (h : eg_H) (a : Nat) (x : Int) (K : FieldType → Prop) : Prop := match h.1[a]? with
  | some (.inl (ty, n)) => 0 ≤ x ∧ x < (n : Int) ∧ K ty
  | _ => False
def eg_an (sc : eg_Sc) (h : eg_H) (a : Nat) (K : Nat → Prop) : Prop := match h.1[a]? with
  | some (.inl (_, n)) => K n
  | some (.inr _) => False
  | none => (match eg_sa sc a with
    | some (_, n, _) => K n
    | none => False)
def eg_aty : ArrayType → FieldType
  | .boolean => .boolean
  | .char => .char
  | .float => .float
  | .double => .double
  | .byte => .byte
  | .short => .short
  | .int => .int
  | .long => .long
def eg_aok : FieldType → Bool
  | .boolean => true
  | .byte => true
  | .short => true
  | .int => true
  | .long => true
  | _ => false
def eg_c (k : Jvm.ClassFile.Cond) (x y : Int) : Prop := match k with
  | .eq => x = y
  | .ne => ¬ x = y
  | .lt => x < y
  | .ge => y ≤ x
  | .gt => y < x
  | .le => x ≤ y
def eg_tb (d lo hi : Int) (ts : Array Int) (x : Int) : Nat := if x < lo ∨ hi < x then d.toNat else ((ts[(x - lo).toNat]?).getD d).toNat
def eg_lt (d : Int) : List (Int × Int) → Int → Nat
  | [], _ => d.toNat
  | (k, t) :: r, x => if x = k then t.toNat else eg_lt d r x
/-- what an int must be so that a method with this answer may return it -/
def eg_ri (ret : Option FieldType) (x : Int) : Prop := match ret with
  | some .int => True
  | some .boolean => x = 0 ∨ x = 1
  | some .byte => -128 ≤ x ∧ x < 128
  | some .char => 0 ≤ x ∧ x < 65536
  | _ => False
def eg_rr (ret : Option FieldType) : Prop := match ret with
  | some (.object _) => True
  | some (.array _) => True
  | _ => False
/-- the class (by its number in eg_on) of what a reference refers to -/
def eg_rc (h : eg_H) (k : Nat) : Option Nat := match h.1[k]? with
  | some (.inr ci) => some ci
  | some (.inl _) => none
  | none => eg_sc k
abbrev eg_T : Type := MethodName × ByteArray × Nat × Option FieldType × Nat × Nat × Nat × Nat × List (Nat × Instr)
/-- may method t be called with these operands? (an instance method: what is the first one?) -/
def eg_rcv (t : eg_T) (as : List eg_V) (h : eg_H) : Prop := match t.2.2.2.2.2.1 with
  | 1 => (match as with
    | .inr (.inr (some k)) :: _ => eg_rc h k = some t.2.2.2.2.2.2.2.1
    | _ => False)
  | 2 => (match as with
    | .inr (.inr (some _)) :: _ => True
    | _ => False)
  | _ => True
abbrev eg_Ca : Type := Nat → List eg_V → eg_H → Nat → Nat → (Option eg_V → eg_H → Prop) → Prop
/-- one instruction: what must hold so that it goes on (or returns) well. c and z: cells and slots made so far; mc and ms: how many there may be -/
def eg_i (sc : eg_Sc) (call : eg_Ca) (ret : Option FieldType) (mc ms : Nat) (Qr : Option eg_V → eg_H → Prop) (K : eg_K) (I : Instr) (i : Nat) (lv : eg_L) (st : List eg_V) (h : eg_H) (c z : Nat) : Prop := match I with
  | .sipush n => K (i + 1) lv (.inl n :: st) h c z
  | .jsr_w n => K (i + 1) lv (.inr (.inl n) :: st) h c z
  | .jsr n => K (i + 1) lv (.inr (.inr (some (1000200 + n.toNat))) :: st) h c z
  | .iload k => eg_li lv k fun x => K (i + 1) lv (.inl x :: st) h c z
  | .lload k => eg_ll lv k fun x => K (i + 1) lv (.inr (.inl x) :: st) h c z
  | .aload k => eg_lr lv k fun x => K (i + 1) lv (.inr (.inr (some x)) :: st) h c z
  | .istore k => eg_pi st fun x st => K (i + 1) (eg_s1 lv k (.inl x)) st h c z
  | .lstore k => eg_pl st fun x st => K (i + 1) (eg_s2 lv k (.inr (.inl x))) st h c z
  | .astore k => eg_pr st fun x st => K (i + 1) (eg_s1 lv k (.inr (.inr (some x)))) st h c z
  | .iinc k n => eg_li lv k fun x => K (i + 1) (eg_s1 lv k (.inl (eg_wi (x + n)))) st h c z
  | .iadd => eg_pi st fun y st => eg_pi st fun x st => K (i + 1) lv (.inl (eg_wi (x + y)) :: st) h c z
  | .isub => eg_pi st fun y st => eg_pi st fun x st => K (i + 1) lv (.inl (eg_wi (x - y)) :: st) h c z
  | .imul => eg_pi st fun y st => eg_pi st fun x st => K (i + 1) lv (.inl (eg_wi (x * y)) :: st) h c z
  | .idiv => eg_pi st fun y st => eg_pi st fun x st => ¬ y = 0 ∧ K (i + 1) lv (.inl (eg_wi (x.tdiv y)) :: st) h c z
  | .irem => eg_pi st fun y st => eg_pi st fun x st => ¬ y = 0 ∧ K (i + 1) lv (.inl (eg_wi (x - eg_wi (x.tdiv y) * y)) :: st) h c z
  | .ineg => eg_pi st fun x st => K (i + 1) lv (.inl (eg_wi (-x)) :: st) h c z
  | .iand => eg_pi st fun y st => eg_pi st fun x st => K (i + 1) lv (.inl (Int32.ofInt x &&& Int32.ofInt y).toInt :: st) h c z
  | .ishr => eg_pi st fun y st => eg_pi st fun x st => K (i + 1) lv (.inl (Int32.ofInt x >>> (Int32.ofInt y &&& 31)).toInt :: st) h c z
  | .ladd => eg_pl st fun y st => eg_pl st fun x st => K (i + 1) lv (.inr (.inl (eg_wl (x + y))) :: st) h c z
  | .lsub => eg_pl st fun y st => eg_pl st fun x st => K (i + 1) lv (.inr (.inl (eg_wl (x - y))) :: st) h c z
  | .lmul => eg_pl st fun y st => eg_pl st fun x st => K (i + 1) lv (.inr (.inl (eg_wl (x * y))) :: st) h c z
  | .ldiv => eg_pl st fun y st => eg_pl st fun x st => ¬ y = 0 ∧ K (i + 1) lv (.inr (.inl (eg_wl (x.tdiv y))) :: st) h c z
  | .lrem => eg_pl st fun y st => eg_pl st fun x st => ¬ y = 0 ∧ K (i + 1) lv (.inr (.inl (eg_wl (x - eg_wl (x.tdiv y) * y))) :: st) h c z
  | .lneg => eg_pl st fun x st => K (i + 1) lv (.inr (.inl (eg_wl (-x))) :: st) h c z
  | .land => eg_pl st fun y st => eg_pl st fun x st => K (i + 1) lv (.inr (.inl (Int64.ofInt x &&& Int64.ofInt y).toInt) :: st) h c z
  | .lor => eg_pl st fun y st => eg_pl st fun x st => K (i + 1) lv (.inr (.inl (Int64.ofInt x ||| Int64.ofInt y).toInt) :: st) h c z
  | .lshl => eg_pi st fun y st => eg_pl st fun x st => K (i + 1) lv (.inr (.inl (Int64.ofInt x <<< ((Int32.ofInt y).toInt64 &&& 63)).toInt) :: st) h c z
  | .lshr => eg_pi st fun y st => eg_pl st fun x st => K (i + 1) lv (.inr (.inl (Int64.ofInt x >>> ((Int32.ofInt y).toInt64 &&& 63)).toInt) :: st) h c z
  | .lcmp => eg_pl st fun y st => eg_pl st fun x st => K (i + 1) lv (.inl (if y < x then 1 else if x = y then 0 else -1) :: st) h c z
  | .i2l => eg_pi st fun x st => K (i + 1) lv (.inr (.inl x) :: st) h c z
  | .l2i => eg_pl st fun x st => K (i + 1) lv (.inl (eg_wi x) :: st) h c z
  | .i2b => eg_pi st fun x st => K (i + 1) lv (.inl (eg_wb x) :: st) h c z
  | .i2s => eg_pi st fun x st => K (i + 1) lv (.inl (eg_ws x) :: st) h c z
  | .i2c => eg_pi st fun x st => K (i + 1) lv (.inl (x % 65536) :: st) h c z
  | .dup => eg_po st fun v st => K (i + 1) lv (v :: v :: st) h c z
  | .dup2 => eg_po st fun v st => eg_po st fun w st => K (i + 1) lv (v :: w :: v :: w :: st) h c z
  | .pop => eg_po st fun _ st => K (i + 1) lv st h c z
  | .goto t => K t.toNat lv st h c z
  | .ifCond k t => eg_pi st fun x st => (eg_c k x 0 → K t.toNat lv st h c z) ∧ (¬ eg_c k x 0 → K (i + 1) lv st h c z)
  | .if_icmp k t => eg_pi st fun y st => eg_pi st fun x st => (eg_c k x y → K t.toNat lv st h c z) ∧ (¬ eg_c k x y → K (i + 1) lv st h c z)
  | .if_acmp k t => eg_pr st fun y st => eg_pr st fun x st => eg_sc x = some 21 ∧ eg_sc y = some 21 ∧ (match k with
      | .eq => (x = y → K t.toNat lv st h c z) ∧ (¬ x = y → K (i + 1) lv st h c z)
      | .ne => (¬ x = y → K t.toNat lv st h c z) ∧ (x = y → K (i + 1) lv st h c z))
  | .tableswitch d lo hi ts => eg_pi st fun x st => K (eg_tb d lo hi ts x) lv st h c z
  | .lookupswitch d ps => eg_pi st fun x st => K (eg_lt d ps.toList x) lv st h c z
  | .getfield q => eg_pr st fun a st => eg_gf h a q fun v => K (i + 1) lv (v :: st) h c z
  | .putfield q => (match st with
      | v :: st => eg_pr st fun a st => eg_pf1 h a q v fun h' => K (i + 1) lv st h' c z
      | [] => False)
  | .getstatic n => (match eg_ss n with
      | some v => K (i + 1) lv (v :: st) h c z
      | none => False)
  | .instanceof f => eg_pr st fun a st => (match eg_sf a f with
      | some v => K (i + 1) lv (v :: st) h c z
      | none => False)
  | .arraylength => eg_pr st fun a st => eg_an sc h a fun n => K (i + 1) lv (.inl n :: st) h c z
  | .iaload => eg_pi st fun x st => eg_pr st fun a st => eg_al sc h a x fun ty v => (match ty with
      | .int => K (i + 1) lv (v :: st) h c z
      | _ => False)
  | .laload => eg_pi st fun x st => eg_pr st fun a st => eg_al sc h a x fun ty v => (match ty with
      | .long => K (i + 1) lv (v :: st) h c z
      | _ => False)
  | .baload => eg_pi st fun x st => eg_pr st fun a st => eg_al sc h a x fun ty v => (match ty with
      | .byte => K (i + 1) lv (v :: st) h c z
      | .boolean => K (i + 1) lv (v :: st) h c z
      | _ => False)
  | .saload => eg_pi st fun x st => eg_pr st fun a st => eg_al sc h a x fun ty v => (match ty with
      | .short => K (i + 1) lv (v :: st) h c z
      | _ => False)
  | .aaload => eg_pi st fun x st => eg_pr st fun a st => eg_al sc h a x fun ty v => (match ty with
      | .object _ => K (i + 1) lv (v :: st) h c z
      | _ => False)
  | .iastore => eg_pi st fun v st => eg_pi st fun x st => eg_pr st fun a st => eg_as h a x fun ty => (match ty with
      | .int => K (i + 1) lv st (h.1, h.2.1, eg_u h.2.2 a x.toNat v) c z
      | _ => False)
  | .lastore => eg_pl st fun v st => eg_pi st fun x st => eg_pr st fun a st => eg_as h a x fun ty => (match ty with
      | .long => K (i + 1) lv st (h.1, h.2.1, eg_u h.2.2 a x.toNat v) c z
      | _ => False)
  | .bastore => eg_pi st fun v st => eg_pi st fun x st => eg_pr st fun a st => eg_as h a x fun ty => (match ty with
      | .byte => K (i + 1) lv st (h.1, h.2.1, eg_u h.2.2 a x.toNat (eg_wb v)) c z
      | .boolean => (v = 0 ∨ v = 1) ∧ K (i + 1) lv st (h.1, h.2.1, eg_u h.2.2 a x.toNat v) c z
      | _ => False)
  | .sastore => eg_pi st fun v st => eg_pi st fun x st => eg_pr st fun a st => eg_as h a x fun ty => (match ty with
      | .short => K (i + 1) lv st (h.1, h.2.1, eg_u h.2.2 a x.toNat (eg_ws v)) c z
      | _ => False)
  | .new ci => h.1.length < 1000000 ∧ c + 1 ≤ mc ∧ z + eg_nf ci ≤ ms ∧ K (i + 1) lv (.inr (.inr (some h.1.length)) :: st) (h.1 ++ [.inr ci], eg_z h.2.1 h.1.length none, eg_z h.2.2 h.1.length 0) (c + 1) (z + eg_nf ci)
  | .newarray at' => eg_pi st fun n st => h.1.length < 1000000 ∧ 0 ≤ n ∧ n ≤ 60000000 ∧ c + 1 ≤ mc ∧ z + n.toNat ≤ ms ∧ K (i + 1) lv (.inr (.inr (some h.1.length)) :: st) (h.1 ++ [.inl (eg_aty at', n.toNat)], eg_z h.2.1 h.1.length none, eg_z h.2.2 h.1.length 0) (c + 1) (z + n.toNat)
  | .invokespecial _ => eg_pr st fun _ st => eg_wds st ≤ 8 ∧ K (i + 1) lv st h c z
  | .invokeinterface 4 _ => eg_pi st fun y st => eg_pi st fun x st => eg_wds st ≤ 8 ∧ c ≤ mc ∧ z ≤ ms ∧ K (i + 1) lv (.inl (if y < x then y else x) :: st) h c z
  | .invokeinterface _ _ => eg_pi st fun n st => eg_pi st fun dp st => eg_pr st fun b st => eg_pi st fun sp st => eg_pr st fun a st => (match h.1[a]?, h.1[b]? with
      | some (.inl (ty, n0)), some (.inl (ty', n1)) => (ty = .long ∨ ty = .byte) ∧ ty' = ty ∧ 0 ≤ sp ∧ 0 ≤ dp ∧ 0 ≤ n ∧ sp + n ≤ (n0 : Int) ∧ dp + n ≤ (n1 : Int) ∧ eg_wds st ≤ 8 ∧ K (i + 1) lv st (h.1, h.2.1, eg_cp h.2.2 a b sp.toNat dp.toNat n.toNat) c z
      | _, _ => False)
  | .invokestatic j => (match eg_tab[j]? with
      | some t => t.2.2.2.2.2.2.1 ≤ st.length ∧ eg_rcv t (st.take t.2.2.2.2.2.2.1).reverse h ∧ eg_wds (st.drop t.2.2.2.2.2.2.1) ≤ 8 ∧ ∃ c1 z1 : Nat, c + c1 ≤ mc ∧ z + z1 ≤ ms ∧
          call j (st.take t.2.2.2.2.2.2.1).reverse h c1 z1 (fun r h1 => K (i + 1) lv (r.toList ++ st.drop t.2.2.2.2.2.2.1) h1 (c + c1) (z + z1))
      | none => False)
  | .ireturn => (match st with
      | [.inl x] => eg_ri ret x ∧ c ≤ mc ∧ z ≤ ms ∧ Qr (some (.inl x)) h
      | _ => False)
  | .lreturn => (match st with
      | [.inr (.inl x)] => ret = some .long ∧ c ≤ mc ∧ z ≤ ms ∧ Qr (some (.inr (.inl x))) h
      | _ => False)
  | .areturn => (match st with
      | [.inr (.inr (some x))] => eg_rr ret ∧ c ≤ mc ∧ z ≤ ms ∧ Qr (some (.inr (.inr (some x)))) h
      | _ => False)
  | .return_ => (match st with
      | [] => ret = none ∧ c ≤ mc ∧ z ≤ ms ∧ Qr none h
      | _ => False)
  | _ => False
/-- inside a frame: n instructions at most -/
def eg_x (sc : eg_Sc) (call : eg_Ca) (cd : List (Nat × Instr)) (ret : Option FieldType) (mc ms : Nat) (Qr : Option eg_V → eg_H → Prop) : Nat → eg_K
  | 0 => fun _ _ _ _ _ _ => False
  | n + 1 => fun i lv st h c z => match cd[i]? with
    | some q => eg_i sc call ret mc ms Qr (eg_x sc call cd ret mc ms Qr n) q.2 i lv st h c z
    | none => False
/-- a call of method j, with at most d frames and mc new cells of ms slots -/
def eg_wp (sc : eg_Sc) : Nat → eg_Ca
  | 0 => fun _ _ _ _ _ _ => False
  | d + 1 => fun j as h mc ms Q => match eg_tab[j]? with
    | some t => eg_wds as ≤ t.2.2.1 ∧ ∃ n, eg_x sc (eg_wp sc d) t.2.2.2.2.2.2.2.2 t.2.2.2.1 mc ms Q n 0 (eg_en t.2.2.1 as) [] h 0 0
    | none => False
