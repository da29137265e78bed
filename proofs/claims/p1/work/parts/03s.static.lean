/-! STATIC THINGS, by number: 1000000 the script, 1000001 LEAST, 1000002 MOST, 1000003 the switch map, 1000004 PRIMITIVES; 1000100 + i: enum constant i; 1000200 + i: String constant i; 1000300 + i: its bytes -/
abbrev eg_V : Type := Int ⊕ (Int ⊕ Option Nat)
abbrev eg_Sc : Type := Nat × (Nat → Int)
def eg_str : List (List Int) := [[113, 117, 111, 116, 101, 32, 105, 102, 32, 115, 101, 116, 33, 32, 100, 101, 102, 105, 110, 101, 32, 108, 97, 109, 98, 100, 97, 32, 108, 101, 116, 32, 98, 101, 103, 105, 110, 32, 119, 104, 105, 108, 101, 32, 97, 110, 100, 32, 111, 114, 32],
  [32, 46, 32],
  [46, 46, 46],
  [35, 116],
  [35, 102],
  [40, 41],
  [35, 60, 118, 101, 99, 116, 111, 114, 62],
  [35, 60, 119, 101, 97, 107, 62],
  [35, 60, 101, 112, 104, 101, 109, 101, 114, 111, 110, 62],
  [35, 60, 116, 97, 98, 108, 101, 62],
  [35, 60, 112, 114, 111, 99, 101, 100, 117, 114, 101, 62],
  [113, 117, 111, 116, 101, 32, 105, 102, 32, 115, 101, 116, 33, 32, 100, 101, 102, 105, 110, 101, 32, 108, 97, 109, 98, 100, 97, 32, 108, 101, 116, 32, 98, 101, 103, 105, 110, 32, 119, 104, 105, 108, 101, 32, 97, 110, 100, 32, 111, 114, 32, 43, 32, 45, 32, 42, 32, 113, 117, 111, 116, 105, 101, 110, 116, 32, 114, 101, 109, 97, 105, 110, 100, 101, 114, 32, 61, 32, 60, 32, 101, 113, 63, 32, 110, 111, 116, 32, 110, 117, 108, 108, 63, 32, 112, 97, 105, 114, 63, 32, 99, 111, 110, 115, 32, 99, 97, 114, 32, 99, 100, 114, 32, 115, 101, 116, 45, 99, 97, 114, 33, 32, 115, 101, 116, 45, 99, 100, 114, 33, 32, 118, 101, 99, 116, 111, 114, 32, 118, 101, 99, 116, 111, 114, 45, 103, 101, 116, 32, 118, 101, 99, 116, 111, 114, 45, 112, 117, 116, 33, 32, 118, 101, 99, 116, 111, 114, 45, 115, 105, 122, 101, 32, 119, 101, 97, 107, 32, 119, 101, 97, 107, 45, 103, 101, 116, 32, 101, 112, 104, 101, 109, 101, 114, 111, 110, 32, 101, 112, 104, 101, 109, 101, 114, 111, 110, 45, 107, 101, 121, 32, 101, 112, 104, 101, 109, 101, 114, 111, 110, 45, 118, 97, 108, 117, 101, 32, 116, 97, 98, 108, 101, 32, 116, 97, 98, 108, 101, 45, 112, 117, 116, 33, 32, 116, 97, 98, 108, 101, 45, 103, 101, 116, 32, 116, 97, 98, 108, 101, 45, 115, 105, 122, 101, 32, 102, 105, 110, 97, 108, 105, 122, 101, 33, 32, 104, 97, 115, 104, 32, 103, 99, 32, 99, 101, 108, 108, 115, 32, 112, 114, 105, 110, 116, 32],
  [113, 117, 111, 116, 105, 101, 110, 116],
  [110, 110],
  [43],
  [45],
  [42],
  [114, 101, 109, 97, 105, 110, 100, 101, 114],
  [61],
  [60],
  [101, 113, 63],
  [120, 120],
  [110, 111, 116],
  [120],
  [110, 117, 108, 108, 63],
  [112, 97, 105, 114, 63],
  [99, 111, 110, 115],
  [99, 97, 114],
  [112],
  [99, 100, 114],
  [115, 101, 116, 45, 99, 97, 114, 33],
  [112, 120],
  [115, 101, 116, 45, 99, 100, 114, 33],
  [118, 101, 99, 116, 111, 114],
  [110, 120],
  [118, 101, 99, 116, 111, 114, 45, 103, 101, 116],
  [118, 110],
  [118, 101, 99, 116, 111, 114, 45, 112, 117, 116, 33],
  [118, 110, 120],
  [118, 101, 99, 116, 111, 114, 45, 115, 105, 122, 101],
  [118],
  [119, 101, 97, 107],
  [119, 101, 97, 107, 45, 103, 101, 116],
  [119],
  [101, 112, 104, 101, 109, 101, 114, 111, 110],
  [101, 112, 104, 101, 109, 101, 114, 111, 110, 45, 107, 101, 121],
  [101],
  [101, 112, 104, 101, 109, 101, 114, 111, 110, 45, 118, 97, 108, 117, 101],
  [116, 97, 98, 108, 101],
  [],
  [116, 97, 98, 108, 101, 45, 112, 117, 116, 33],
  [116, 120, 120],
  [116, 97, 98, 108, 101, 45, 103, 101, 116],
  [116, 120],
  [116, 97, 98, 108, 101, 45, 115, 105, 122, 101],
  [116],
  [102, 105, 110, 97, 108, 105, 122, 101, 33],
  [111, 102],
  [104, 97, 115, 104],
  [103, 99],
  [99, 101, 108, 108, 115],
  [112, 114, 105, 110, 116]]
def eg_least : List Int := [2, 3, 3, 3, 3, 3, 2, 2, 1, 1, 1]
def eg_most : List Int := [2, 4, 3, 3, 2000, 2000, 2000, 2000, 2000, 2000, 9]
def eg_swm : List Int := [1, 2, 3, 4, 5, 6, 8, 7, 9, 10, 11, 17, 18, 19, 20, 21, 22, 23, 24, 25, 26, 27, 28, 29, 30, 31, 32, 33, 34, 16, 12, 14, 13, 15]
/-- of each enum constant: its name, the numbers of its word and its sorts among the String constants -/
def eg_enm : List (String × Nat × Nat) := [("ADD", 14, 13), ("SUBTRACT", 15, 13), ("MULTIPLY", 16, 13), ("QUOTIENT", 12, 13), ("REMAINDER", 17, 13), ("EQUAL", 18, 13), ("LESS", 19, 13), ("SAME", 20, 21), ("NOT", 22, 23), ("IS_NULL", 24, 23), ("IS_PAIR", 25, 23), ("CONS", 26, 21), ("GET_CAR", 27, 28), ("GET_CDR", 29, 28), ("SET_CAR", 30, 31), ("SET_CDR", 32, 31), ("MAKE_VECTOR", 33, 34), ("VECTOR_GET", 35, 36), ("VECTOR_PUT", 37, 38), ("VECTOR_SIZE", 39, 40), ("MAKE_WEAK", 41, 23), ("WEAK_GET", 42, 43), ("MAKE_EPHEMERON", 44, 21), ("EPHEMERON_KEY", 45, 46), ("EPHEMERON_VALUE", 47, 46), ("MAKE_TABLE", 48, 49), ("TABLE_PUT", 50, 51), ("TABLE_GET", 52, 53), ("TABLE_SIZE", 54, 55), ("FINALIZE", 56, 57), ("HASH", 58, 23), ("GC", 59, 49), ("CELLS", 60, 49), ("PRINT", 61, 23)]
/-- the String constants: class, place in its pool; the texts of those that code loads -/
def eg_sn : List (String × Nat) := [("WeakScheme$Source", 29), ("WeakScheme$Output", 66), ("WeakScheme$Output", 72), ("WeakScheme$Output", 107), ("WeakScheme$Output", 111), ("WeakScheme$Output", 113), ("WeakScheme$Output", 120), ("WeakScheme$Output", 122), ("WeakScheme$Output", 124), ("WeakScheme$Output", 126), ("WeakScheme$Output", 128), ("WeakSchemeModel", 156), ("WeakScheme$Primitive", 147), ("WeakScheme$Primitive", 135), ("WeakScheme$Primitive", 133), ("WeakScheme$Primitive", 141), ("WeakScheme$Primitive", 144), ("WeakScheme$Primitive", 150), ("WeakScheme$Primitive", 153), ("WeakScheme$Primitive", 156), ("WeakScheme$Primitive", 159), ("WeakScheme$Primitive", 161), ("WeakScheme$Primitive", 164), ("WeakScheme$Primitive", 166), ("WeakScheme$Primitive", 169), ("WeakScheme$Primitive", 172), ("WeakScheme$Primitive", 175), ("WeakScheme$Primitive", 178), ("WeakScheme$Primitive", 180), ("WeakScheme$Primitive", 183), ("WeakScheme$Primitive", 186), ("WeakScheme$Primitive", 188), ("WeakScheme$Primitive", 191), ("WeakScheme$Primitive", 194), ("WeakScheme$Primitive", 196), ("WeakScheme$Primitive", 199), ("WeakScheme$Primitive", 201), ("WeakScheme$Primitive", 204), ("WeakScheme$Primitive", 206), ("WeakScheme$Primitive", 209), ("WeakScheme$Primitive", 211), ("WeakScheme$Primitive", 214), ("WeakScheme$Primitive", 217), ("WeakScheme$Primitive", 219), ("WeakScheme$Primitive", 222), ("WeakScheme$Primitive", 225), ("WeakScheme$Primitive", 227), ("WeakScheme$Primitive", 230), ("WeakScheme$Primitive", 233), ("WeakScheme$Primitive", 235), ("WeakScheme$Primitive", 238), ("WeakScheme$Primitive", 240), ("WeakScheme$Primitive", 243), ("WeakScheme$Primitive", 245), ("WeakScheme$Primitive", 248), ("WeakScheme$Primitive", 250), ("WeakScheme$Primitive", 253), ("WeakScheme$Primitive", 255), ("WeakScheme$Primitive", 258), ("WeakScheme$Primitive", 261), ("WeakScheme$Primitive", 264), ("WeakScheme$Primitive", 267)]
def eg_stx : List String := ["quote if set! define lambda let begin while and or ", " . ", "...", "#t", "#f", "()", "#<vector>", "#<weak>", "#<ephemeron>", "#<table>", "#<procedure>", "quote if set! define lambda let begin while and or + - * quotient remainder = < eq? not null? pair? cons car cdr set-car! set-cdr! vector vector-get vector-put! vector-size weak weak-get ephemeron ephemeron-key ephemeron-value table table-put! table-get table-size finalize! hash gc cells print "]
/-- static fields by number -/
def eg_stn : List (String × String × String) := [("java/lang/String", "COMPACT_STRINGS", "Z"), ("jdk/internal/util/Preconditions", "SIOOBE_FORMATTER", "Ljava/util/function/BiFunction;"), ("java/lang/StringUTF16", "$assertionsDisabled", "Z"), ("java/lang/StringUTF16", "HI_BYTE_SHIFT", "I"), ("java/lang/StringUTF16", "LO_BYTE_SHIFT", "I"), ("WeakScheme", "PRIMITIVES", "[LWeakScheme$Primitive;"), ("WeakScheme$Shape", "LEAST", "[I"), ("WeakScheme$Shape", "MOST", "[I"), ("WeakScheme$1", "$SwitchMap$WeakScheme$Primitive", "[I"), ("WeakScheme$Primitive", "QUOTIENT", "LWeakScheme$Primitive;"), ("WeakScheme$Primitive", "ADD", "LWeakScheme$Primitive;"), ("WeakScheme$Primitive", "SUBTRACT", "LWeakScheme$Primitive;"), ("WeakScheme$Primitive", "MULTIPLY", "LWeakScheme$Primitive;"), ("WeakScheme$Primitive", "REMAINDER", "LWeakScheme$Primitive;"), ("WeakScheme$Primitive", "EQUAL", "LWeakScheme$Primitive;"), ("WeakScheme$Primitive", "LESS", "LWeakScheme$Primitive;"), ("WeakScheme$Primitive", "SAME", "LWeakScheme$Primitive;"), ("WeakScheme$Primitive", "NOT", "LWeakScheme$Primitive;"), ("WeakScheme$Primitive", "IS_NULL", "LWeakScheme$Primitive;"), ("WeakScheme$Primitive", "IS_PAIR", "LWeakScheme$Primitive;"), ("WeakScheme$Primitive", "CONS", "LWeakScheme$Primitive;"), ("WeakScheme$Primitive", "GET_CAR", "LWeakScheme$Primitive;"), ("WeakScheme$Primitive", "GET_CDR", "LWeakScheme$Primitive;"), ("WeakScheme$Primitive", "SET_CAR", "LWeakScheme$Primitive;"), ("WeakScheme$Primitive", "SET_CDR", "LWeakScheme$Primitive;"), ("WeakScheme$Primitive", "MAKE_VECTOR", "LWeakScheme$Primitive;"), ("WeakScheme$Primitive", "VECTOR_GET", "LWeakScheme$Primitive;"), ("WeakScheme$Primitive", "VECTOR_PUT", "LWeakScheme$Primitive;"), ("WeakScheme$Primitive", "VECTOR_SIZE", "LWeakScheme$Primitive;"), ("WeakScheme$Primitive", "MAKE_WEAK", "LWeakScheme$Primitive;"), ("WeakScheme$Primitive", "WEAK_GET", "LWeakScheme$Primitive;"), ("WeakScheme$Primitive", "MAKE_EPHEMERON", "LWeakScheme$Primitive;"), ("WeakScheme$Primitive", "EPHEMERON_KEY", "LWeakScheme$Primitive;"), ("WeakScheme$Primitive", "EPHEMERON_VALUE", "LWeakScheme$Primitive;"), ("WeakScheme$Primitive", "MAKE_TABLE", "LWeakScheme$Primitive;"), ("WeakScheme$Primitive", "TABLE_PUT", "LWeakScheme$Primitive;"), ("WeakScheme$Primitive", "TABLE_GET", "LWeakScheme$Primitive;"), ("WeakScheme$Primitive", "TABLE_SIZE", "LWeakScheme$Primitive;"), ("WeakScheme$Primitive", "FINALIZE", "LWeakScheme$Primitive;"), ("WeakScheme$Primitive", "HASH", "LWeakScheme$Primitive;"), ("WeakScheme$Primitive", "GC", "LWeakScheme$Primitive;"), ("WeakScheme$Primitive", "CELLS", "LWeakScheme$Primitive;"), ("WeakScheme$Primitive", "PRINT", "LWeakScheme$Primitive;")]
def eg_sa (sc : eg_Sc) (k : Nat) : Option (FieldType × Nat × (Nat → eg_V)) :=
  if k < 1000000 then none
  else if 1000300 ≤ k then (if k < 1000362 then some (.byte, (eg_str.getD (k - 1000300) []).length, fun j => .inl ((eg_str.getD (k - 1000300) []).getD j 0)) else none)
  else match k - 1000000 with
    | 0 => some (.int, sc.1, fun j => .inl (sc.2 j))
    | 1 => some (.int, 11, fun j => .inl (eg_least.getD j 0))
    | 2 => some (.int, 11, fun j => .inl (eg_most.getD j 0))
    | 3 => some (.int, 34, fun j => .inl (eg_swm.getD j 0))
    | 4 => some (.object "WeakScheme$Primitive", 34, fun j => .inr (.inr (some (1000100 + j))))
    | _ => none
/-- the class of a static object, by its number in eg_on -/
def eg_sc (k : Nat) : Option Nat :=
  if 1000100 ≤ k ∧ k < 1000134 then some 21 else if 1000200 ≤ k ∧ k < 1000262 then some 16 else none
/-- its fields: 0 word, 1 sorts, 2 value, 3 coder, 4 ordinal -/
def eg_sf (k f : Nat) : Option eg_V :=
  if 1000100 ≤ k ∧ k < 1000134 then (match f with
    | 0 => some (.inr (.inr (some (1000200 + (eg_enm.getD (k - 1000100) ("", 0, 0)).2.1))))
    | 1 => some (.inr (.inr (some (1000200 + (eg_enm.getD (k - 1000100) ("", 0, 0)).2.2))))
    | 4 => some (.inl ((k - 1000100 : Nat) : Int))
    | _ => none)
  else if 1000200 ≤ k ∧ k < 1000262 then (match f with
    | 2 => some (.inr (.inr (some (k + 100))))
    | 3 => some (.inl 0)
    | _ => none)
  else none
/-- declaring class, name, type of these fields -/
def eg_fn : List (String × String × String) := [("WeakScheme$Primitive", "word", "Ljava/lang/String;"), ("WeakScheme$Primitive", "sorts", "Ljava/lang/String;"), ("java/lang/String", "value", "[B"), ("java/lang/String", "coder", "B"), ("java/lang/Enum", "ordinal", "I")]
/-- static fields -/
def eg_ss (n : Nat) : Option eg_V := match n with
  | 0 => some (.inl 1)
  | 1 => some (.inr (.inr none))
  | 5 => some (.inr (.inr (some 1000004)))
  | 6 => some (.inr (.inr (some 1000001)))
  | 7 => some (.inr (.inr (some 1000002)))
  | 8 => some (.inr (.inr (some 1000003)))
  | 9 => some (.inr (.inr (some 1000103)))
  | _ => none
