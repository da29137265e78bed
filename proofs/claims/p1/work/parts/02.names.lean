def R_0 : String := "WeakScheme"
def F_0 : u_T := fun k => match k with
  | 0 => ("WeakScheme", "source", "LWeakScheme$Source;", true)
  | 1 => ("WeakScheme", "reader", "LWeakScheme$Reader;", true)
  | 2 => ("WeakScheme", "shape", "LWeakScheme$Shape;", true)
  | 3 => ("WeakScheme", "heap", "LWeakScheme$Heap;", true)
  | 4 => ("WeakScheme", "finalizers", "LWeakScheme$Finalizers;", true)
  | 5 => ("WeakScheme", "output", "LWeakScheme$Output;", true)
  | 6 => ("WeakScheme", "collector", "LWeakScheme$Collector;", true)
  | 7 => ("WeakScheme", "machine", "LWeakScheme$Machine;", true)
  | 8 => ("WeakScheme", "faultPlace", "I", false)
  | _ => ("WeakScheme", "fuelLeft", "I", false)
def t_0 : Nat → FieldType := fun k => match k with
  | 0 => .object "WeakScheme$Source"
  | 1 => .object "WeakScheme$Reader"
  | 2 => .object "WeakScheme$Shape"
  | 3 => .object "WeakScheme$Heap"
  | 4 => .object "WeakScheme$Finalizers"
  | 5 => .object "WeakScheme$Output"
  | 6 => .object "WeakScheme$Collector"
  | 7 => .object "WeakScheme$Machine"
  | 8 => .int
  | _ => .int
set_option maxRecDepth 100000 in
theorem n_0 : ∀ a, a < 10 → ∀ b, b < 10 → a ≠ b → (F_0 a).2.1 ≠ (F_0 b).2.1 := by decide +kernel
set_option maxRecDepth 100000 in
theorem t_0_ok : ∀ k, k < 10 → parseFieldDescriptor (F_0 k).2.2.1 = some (t_0 k) := by decide +kernel
set_option maxRecDepth 100000 in
theorem i_0 : ∀ w ∈ u_ws R_0 F_0 10, w ∈ lw_tbl := by decide +kernel
def R_1 : String := "WeakScheme$Source"
def F_1 : u_T := fun k => match k with
  | 0 => ("WeakScheme$Source", "letters", "[B", true)
  | 1 => ("WeakScheme$Source", "lengths", "[I", true)
  | 2 => ("WeakScheme$Source", "names", "I", false)
  | 3 => ("WeakScheme$Source", "value", "[J", true)
  | 4 => ("WeakScheme$Source", "end", "[I", true)
  | 5 => ("WeakScheme$Source", "depth", "[B", true)
  | _ => ("WeakScheme$Source", "size", "I", false)
def t_1 : Nat → FieldType := fun k => match k with
  | 0 => .array .byte
  | 1 => .array .int
  | 2 => .int
  | 3 => .array .long
  | 4 => .array .int
  | 5 => .array .byte
  | _ => .int
set_option maxRecDepth 100000 in
theorem n_1 : ∀ a, a < 7 → ∀ b, b < 7 → a ≠ b → (F_1 a).2.1 ≠ (F_1 b).2.1 := by decide +kernel
set_option maxRecDepth 100000 in
theorem t_1_ok : ∀ k, k < 7 → parseFieldDescriptor (F_1 k).2.2.1 = some (t_1 k) := by decide +kernel
set_option maxRecDepth 100000 in
theorem i_1 : ∀ w ∈ u_ws R_1 F_1 7, w ∈ lw_tbl := by decide +kernel
def R_2 : String := "WeakScheme$Reader"
def F_2 : u_T := fun k => match k with
  | 0 => ("WeakScheme$Reader", "source", "LWeakScheme$Source;", true)
  | 1 => ("WeakScheme$Reader", "text", "[B", true)
  | 2 => ("WeakScheme$Reader", "length", "I", false)
  | 3 => ("WeakScheme$Reader", "places", "[I", true)
  | 4 => ("WeakScheme$Reader", "fault", "I", false)
  | 5 => ("WeakScheme$Reader", "faultPlace", "I", false)
  | 6 => ("WeakScheme$Reader", "stop", "I", false)
  | 7 => ("WeakScheme$Reader", "at", "I", false)
  | 8 => ("WeakScheme$Reader", "first", "I", false)
  | 9 => ("WeakScheme$Reader", "level", "I", false)
  | 10 => ("WeakScheme$Reader", "open", "[I", true)
  | _ => ("WeakScheme$Reader", "ticked", "[Z", true)
def t_2 : Nat → FieldType := fun k => match k with
  | 0 => .object "WeakScheme$Source"
  | 1 => .array .byte
  | 2 => .int
  | 3 => .array .int
  | 4 => .int
  | 5 => .int
  | 6 => .int
  | 7 => .int
  | 8 => .int
  | 9 => .int
  | 10 => .array .int
  | _ => .array .boolean
set_option maxRecDepth 100000 in
theorem n_2 : ∀ a, a < 12 → ∀ b, b < 12 → a ≠ b → (F_2 a).2.1 ≠ (F_2 b).2.1 := by decide +kernel
set_option maxRecDepth 100000 in
theorem t_2_ok : ∀ k, k < 12 → parseFieldDescriptor (F_2 k).2.2.1 = some (t_2 k) := by decide +kernel
set_option maxRecDepth 100000 in
theorem i_2 : ∀ w ∈ u_ws R_2 F_2 12, w ∈ lw_tbl := by decide +kernel
def R_3 : String := "WeakScheme$Shape"
def F_3 : u_T := fun k => match k with
  | 0 => ("WeakScheme$Shape", "source", "LWeakScheme$Source;", true)
  | 1 => ("WeakScheme$Shape", "role", "[I", true)
  | 2 => ("WeakScheme$Shape", "brackets", "[I", true)
  | _ => ("WeakScheme$Shape", "first", "I", false)
def t_3 : Nat → FieldType := fun k => match k with
  | 0 => .object "WeakScheme$Source"
  | 1 => .array .int
  | 2 => .array .int
  | _ => .int
set_option maxRecDepth 100000 in
theorem n_3 : ∀ a, a < 4 → ∀ b, b < 4 → a ≠ b → (F_3 a).2.1 ≠ (F_3 b).2.1 := by decide +kernel
set_option maxRecDepth 100000 in
theorem t_3_ok : ∀ k, k < 4 → parseFieldDescriptor (F_3 k).2.2.1 = some (t_3 k) := by decide +kernel
set_option maxRecDepth 100000 in
theorem i_3 : ∀ w ∈ u_ws R_3 F_3 4, w ∈ lw_tbl := by decide +kernel
def R_4 : String := "WeakScheme$Heap"
def F_4 : u_T := fun k => match k with
  | 0 => ("WeakScheme$Heap", "limit", "I", true)
  | 1 => ("WeakScheme$Heap", "cell", "[J", true)
  | 2 => ("WeakScheme$Heap", "start", "[I", true)
  | 3 => ("WeakScheme$Heap", "kind", "[I", true)
  | 4 => ("WeakScheme$Heap", "size", "[I", true)
  | 5 => ("WeakScheme$Heap", "identity", "[I", true)
  | 6 => ("WeakScheme$Heap", "used", "I", false)
  | 7 => ("WeakScheme$Heap", "objects", "I", false)
  | 8 => ("WeakScheme$Heap", "handles", "I", false)
  | 9 => ("WeakScheme$Heap", "free", "I", false)
  | 10 => ("WeakScheme$Heap", "numbersGiven", "I", false)
  | 11 => ("WeakScheme$Heap", "lacking", "Z", false)
  | _ => ("WeakScheme$Heap", "collectedFor", "Z", false)
def t_4 : Nat → FieldType := fun k => match k with
  | 0 => .int
  | 1 => .array .long
  | 2 => .array .int
  | 3 => .array .int
  | 4 => .array .int
  | 5 => .array .int
  | 6 => .int
  | 7 => .int
  | 8 => .int
  | 9 => .int
  | 10 => .int
  | 11 => .boolean
  | _ => .boolean
set_option maxRecDepth 100000 in
theorem n_4 : ∀ a, a < 13 → ∀ b, b < 13 → a ≠ b → (F_4 a).2.1 ≠ (F_4 b).2.1 := by decide +kernel
set_option maxRecDepth 100000 in
theorem t_4_ok : ∀ k, k < 13 → parseFieldDescriptor (F_4 k).2.2.1 = some (t_4 k) := by decide +kernel
set_option maxRecDepth 100000 in
theorem i_4 : ∀ w ∈ u_ws R_4 F_4 13, w ∈ lw_tbl := by decide +kernel
def R_5 : String := "WeakScheme$Finalizers"
def F_5 : u_T := fun k => match k with
  | 0 => ("WeakScheme$Finalizers", "object", "[J", true)
  | 1 => ("WeakScheme$Finalizers", "procedure", "[J", true)
  | 2 => ("WeakScheme$Finalizers", "registered", "I", false)
  | 3 => ("WeakScheme$Finalizers", "deadObject", "[J", true)
  | 4 => ("WeakScheme$Finalizers", "deadProcedure", "[J", true)
  | 5 => ("WeakScheme$Finalizers", "firstDead", "I", false)
  | _ => ("WeakScheme$Finalizers", "queued", "I", false)
def t_5 : Nat → FieldType := fun k => match k with
  | 0 => .array .long
  | 1 => .array .long
  | 2 => .int
  | 3 => .array .long
  | 4 => .array .long
  | 5 => .int
  | _ => .int
set_option maxRecDepth 100000 in
theorem n_5 : ∀ a, a < 7 → ∀ b, b < 7 → a ≠ b → (F_5 a).2.1 ≠ (F_5 b).2.1 := by decide +kernel
set_option maxRecDepth 100000 in
theorem t_5_ok : ∀ k, k < 7 → parseFieldDescriptor (F_5 k).2.2.1 = some (t_5 k) := by decide +kernel
set_option maxRecDepth 100000 in
theorem i_5 : ∀ w ∈ u_ws R_5 F_5 7, w ∈ lw_tbl := by decide +kernel
def R_6 : String := "WeakScheme$Output"
def F_6 : u_T := fun k => match k with
  | 0 => ("WeakScheme$Output", "source", "LWeakScheme$Source;", true)
  | 1 => ("WeakScheme$Output", "heap", "LWeakScheme$Heap;", true)
  | 2 => ("WeakScheme$Output", "bytes", "[B", true)
  | 3 => ("WeakScheme$Output", "firstByte", "I", false)
  | 4 => ("WeakScheme$Output", "waiting", "I", false)
  | 5 => ("WeakScheme$Output", "parts", "I", false)
  | 6 => ("WeakScheme$Output", "isCut", "Z", false)
  | _ => ("WeakScheme$Output", "digits", "[B", true)
def t_6 : Nat → FieldType := fun k => match k with
  | 0 => .object "WeakScheme$Source"
  | 1 => .object "WeakScheme$Heap"
  | 2 => .array .byte
  | 3 => .int
  | 4 => .int
  | 5 => .int
  | 6 => .boolean
  | _ => .array .byte
set_option maxRecDepth 100000 in
theorem n_6 : ∀ a, a < 8 → ∀ b, b < 8 → a ≠ b → (F_6 a).2.1 ≠ (F_6 b).2.1 := by decide +kernel
set_option maxRecDepth 100000 in
theorem t_6_ok : ∀ k, k < 8 → parseFieldDescriptor (F_6 k).2.2.1 = some (t_6 k) := by decide +kernel
set_option maxRecDepth 100000 in
theorem i_6 : ∀ w ∈ u_ws R_6 F_6 8, w ∈ lw_tbl := by decide +kernel
def R_7 : String := "WeakScheme$Held"
def F_7 : u_T := fun k => match k with
  | 0 => ("WeakScheme$Held", "top", "I", false)
  | 1 => ("WeakScheme$Held", "form", "[I", true)
  | 2 => ("WeakScheme$Held", "datum", "[I", true)
  | 3 => ("WeakScheme$Held", "at", "[I", true)
  | 4 => ("WeakScheme$Held", "frame", "[I", true)
  | 5 => ("WeakScheme$Held", "filled", "[I", true)
  | 6 => ("WeakScheme$Held", "values", "[J", true)
  | _ => ("WeakScheme$Held", "quoted", "[J", true)
def t_7 : Nat → FieldType := fun k => match k with
  | 0 => .int
  | 1 => .array .int
  | 2 => .array .int
  | 3 => .array .int
  | 4 => .array .int
  | 5 => .array .int
  | 6 => .array .long
  | _ => .array .long
set_option maxRecDepth 100000 in
theorem n_7 : ∀ a, a < 8 → ∀ b, b < 8 → a ≠ b → (F_7 a).2.1 ≠ (F_7 b).2.1 := by decide +kernel
set_option maxRecDepth 100000 in
theorem t_7_ok : ∀ k, k < 8 → parseFieldDescriptor (F_7 k).2.2.1 = some (t_7 k) := by decide +kernel
set_option maxRecDepth 100000 in
theorem i_7 : ∀ w ∈ u_ws R_7 F_7 8, w ∈ lw_tbl := by decide +kernel
def R_8 : String := "WeakScheme$Collector"
def F_8 : u_T := fun k => match k with
  | 0 => ("WeakScheme$Collector", "source", "LWeakScheme$Source;", true)
  | 1 => ("WeakScheme$Collector", "heap", "LWeakScheme$Heap;", true)
  | 2 => ("WeakScheme$Collector", "finalizers", "LWeakScheme$Finalizers;", true)
  | 3 => ("WeakScheme$Collector", "held", "LWeakScheme$Held;", true)
  | 4 => ("WeakScheme$Collector", "globals", "[J", true)
  | 5 => ("WeakScheme$Collector", "collections", "I", false)
  | 6 => ("WeakScheme$Collector", "live", "[B", true)
  | 7 => ("WeakScheme$Collector", "found", "[I", true)
  | 8 => ("WeakScheme$Collector", "founds", "I", false)
  | 9 => ("WeakScheme$Collector", "firstWaiting", "[I", true)
  | 10 => ("WeakScheme$Collector", "nextWaiting", "[I", true)
  | _ => ("WeakScheme$Collector", "registrations", "I", true)
def t_8 : Nat → FieldType := fun k => match k with
  | 0 => .object "WeakScheme$Source"
  | 1 => .object "WeakScheme$Heap"
  | 2 => .object "WeakScheme$Finalizers"
  | 3 => .object "WeakScheme$Held"
  | 4 => .array .long
  | 5 => .int
  | 6 => .array .byte
  | 7 => .array .int
  | 8 => .int
  | 9 => .array .int
  | 10 => .array .int
  | _ => .int
set_option maxRecDepth 100000 in
theorem n_8 : ∀ a, a < 12 → ∀ b, b < 12 → a ≠ b → (F_8 a).2.1 ≠ (F_8 b).2.1 := by decide +kernel
set_option maxRecDepth 100000 in
theorem t_8_ok : ∀ k, k < 12 → parseFieldDescriptor (F_8 k).2.2.1 = some (t_8 k) := by decide +kernel
set_option maxRecDepth 100000 in
theorem i_8 : ∀ w ∈ u_ws R_8 F_8 12, w ∈ lw_tbl := by decide +kernel
def R_9 : String := "WeakScheme$Operations"
def F_9 : u_T := fun k => match k with
  | 0 => ("WeakScheme$Operations", "source", "LWeakScheme$Source;", true)
  | 1 => ("WeakScheme$Operations", "heap", "LWeakScheme$Heap;", true)
  | 2 => ("WeakScheme$Operations", "finalizers", "LWeakScheme$Finalizers;", true)
  | 3 => ("WeakScheme$Operations", "output", "LWeakScheme$Output;", true)
  | 4 => ("WeakScheme$Operations", "fault", "I", false)
  | _ => ("WeakScheme$Operations", "gcAsked", "Z", false)
def t_9 : Nat → FieldType := fun k => match k with
  | 0 => .object "WeakScheme$Source"
  | 1 => .object "WeakScheme$Heap"
  | 2 => .object "WeakScheme$Finalizers"
  | 3 => .object "WeakScheme$Output"
  | 4 => .int
  | _ => .boolean
set_option maxRecDepth 100000 in
theorem n_9 : ∀ a, a < 6 → ∀ b, b < 6 → a ≠ b → (F_9 a).2.1 ≠ (F_9 b).2.1 := by decide +kernel
set_option maxRecDepth 100000 in
theorem t_9_ok : ∀ k, k < 6 → parseFieldDescriptor (F_9 k).2.2.1 = some (t_9 k) := by decide +kernel
set_option maxRecDepth 100000 in
theorem i_9 : ∀ w ∈ u_ws R_9 F_9 6, w ∈ lw_tbl := by decide +kernel
def R_10 : String := "WeakScheme$Machine"
def F_10 : u_T := fun k => match k with
  | 0 => ("WeakScheme$Machine", "source", "LWeakScheme$Source;", true)
  | 1 => ("WeakScheme$Machine", "heap", "LWeakScheme$Heap;", true)
  | 2 => ("WeakScheme$Machine", "finalizers", "LWeakScheme$Finalizers;", true)
  | 3 => ("WeakScheme$Machine", "held", "LWeakScheme$Held;", true)
  | 4 => ("WeakScheme$Machine", "globals", "[J", true)
  | 5 => ("WeakScheme$Machine", "operations", "LWeakScheme$Operations;", true)
  | 6 => ("WeakScheme$Machine", "collector", "LWeakScheme$Collector;", true)
  | 7 => ("WeakScheme$Machine", "fuel", "I", false)
  | 8 => ("WeakScheme$Machine", "fault", "I", false)
  | 9 => ("WeakScheme$Machine", "value", "J", false)
  | _ => ("WeakScheme$Machine", "calls", "I", false)
def t_10 : Nat → FieldType := fun k => match k with
  | 0 => .object "WeakScheme$Source"
  | 1 => .object "WeakScheme$Heap"
  | 2 => .object "WeakScheme$Finalizers"
  | 3 => .object "WeakScheme$Held"
  | 4 => .array .long
  | 5 => .object "WeakScheme$Operations"
  | 6 => .object "WeakScheme$Collector"
  | 7 => .int
  | 8 => .int
  | 9 => .long
  | _ => .int
set_option maxRecDepth 100000 in
theorem n_10 : ∀ a, a < 11 → ∀ b, b < 11 → a ≠ b → (F_10 a).2.1 ≠ (F_10 b).2.1 := by decide +kernel
set_option maxRecDepth 100000 in
theorem t_10_ok : ∀ k, k < 11 → parseFieldDescriptor (F_10 k).2.2.1 = some (t_10 k) := by decide +kernel
set_option maxRecDepth 100000 in
theorem i_10 : ∀ w ∈ u_ws R_10 F_10 11, w ∈ lw_tbl := by decide +kernel
def R_11 : String := "WeakSchemeModel"
def F_11 : u_T := fun k => match k with
  | 0 => ("WeakSchemeModel", "text", "[I", true)
  | 1 => ("WeakSchemeModel", "fed", "I", false)
  | 2 => ("WeakSchemeModel", "place", "I", false)
  | 3 => ("WeakSchemeModel", "at", "I", false)
  | 4 => ("WeakSchemeModel", "end", "I", false)
  | 5 => ("WeakSchemeModel", "letters", "[I", true)
  | 6 => ("WeakSchemeModel", "begins", "[I", true)
  | 7 => ("WeakSchemeModel", "names", "I", false)
  | 8 => ("WeakSchemeModel", "kinds", "[B", true)
  | 9 => ("WeakSchemeModel", "values", "[I", true)
  | 10 => ("WeakSchemeModel", "firsts", "[I", true)
  | 11 => ("WeakSchemeModel", "lasts", "[I", true)
  | 12 => ("WeakSchemeModel", "nexts", "[I", true)
  | 13 => ("WeakSchemeModel", "befores", "[I", true)
  | 14 => ("WeakSchemeModel", "sizes", "[S", true)
  | 15 => ("WeakSchemeModel", "places", "[S", true)
  | 16 => ("WeakSchemeModel", "data", "I", false)
  | 17 => ("WeakSchemeModel", "kept", "I", false)
  | 18 => ("WeakSchemeModel", "depth", "I", false)
  | 19 => ("WeakSchemeModel", "open", "[I", true)
  | 20 => ("WeakSchemeModel", "byQuote", "[Z", true)
  | 21 => ("WeakSchemeModel", "first", "I", false)
  | 22 => ("WeakSchemeModel", "last", "I", false)
  | 23 => ("WeakSchemeModel", "looks", "I", false)
  | 24 => ("WeakSchemeModel", "look", "[I", true)
  | 25 => ("WeakSchemeModel", "lookNumber", "[I", true)
  | 26 => ("WeakSchemeModel", "lookList", "[I", true)
  | 27 => ("WeakSchemeModel", "heap", "I", true)
  | 28 => ("WeakSchemeModel", "used", "I", false)
  | 29 => ("WeakSchemeModel", "objects", "I", false)
  | 30 => ("WeakSchemeModel", "sort", "[B", true)
  | 31 => ("WeakSchemeModel", "many", "[S", true)
  | 32 => ("WeakSchemeModel", "owner", "[I", true)
  | 33 => ("WeakSchemeModel", "cell", "[I", true)
  | 34 => ("WeakSchemeModel", "number", "[I", true)
  | 35 => ("WeakSchemeModel", "live", "[Z", true)
  | 36 => ("WeakSchemeModel", "there", "[Z", true)
  | 37 => ("WeakSchemeModel", "free", "[I", true)
  | 38 => ("WeakSchemeModel", "freeCount", "I", false)
  | 39 => ("WeakSchemeModel", "cells", "[J", true)
  | 40 => ("WeakSchemeModel", "behind", "[I", true)
  | 41 => ("WeakSchemeModel", "freeCell", "I", false)
  | 42 => ("WeakSchemeModel", "numbers", "I", false)
  | 43 => ("WeakSchemeModel", "collections", "I", false)
  | 44 => ("WeakSchemeModel", "globals", "[J", true)
  | 45 => ("WeakSchemeModel", "registered", "I", false)
  | 46 => ("WeakSchemeModel", "regObject", "[J", true)
  | 47 => ("WeakSchemeModel", "regProcedure", "[J", true)
  | 48 => ("WeakSchemeModel", "queued", "I", false)
  | 49 => ("WeakSchemeModel", "queueObject", "[J", true)
  | 50 => ("WeakSchemeModel", "queueProcedure", "[J", true)
  | 51 => ("WeakSchemeModel", "stack", "I", false)
  | 52 => ("WeakSchemeModel", "held", "[J", true)
  | 53 => ("WeakSchemeModel", "forms", "I", false)
  | 54 => ("WeakSchemeModel", "formKind", "[B", true)
  | 55 => ("WeakSchemeModel", "formDatum", "[I", true)
  | 56 => ("WeakSchemeModel", "formNext", "[I", true)
  | 57 => ("WeakSchemeModel", "formBase", "[I", true)
  | 58 => ("WeakSchemeModel", "formFrame", "[J", true)
  | 59 => ("WeakSchemeModel", "builds", "I", false)
  | 60 => ("WeakSchemeModel", "buildNext", "[I", true)
  | 61 => ("WeakSchemeModel", "buildValue", "[J", true)
  | 62 => ("WeakSchemeModel", "now", "J", false)
  | 63 => ("WeakSchemeModel", "extra", "J", false)
  | 64 => ("WeakSchemeModel", "marked", "I", false)
  | 65 => ("WeakSchemeModel", "marks", "[I", true)
  | 66 => ("WeakSchemeModel", "lack", "I", false)
  | 67 => ("WeakSchemeModel", "fuel", "I", false)
  | 68 => ("WeakSchemeModel", "calls", "I", false)
  | 69 => ("WeakSchemeModel", "fault", "I", false)
  | 70 => ("WeakSchemeModel", "result", "J", false)
  | 71 => ("WeakSchemeModel", "out", "[I", true)
  | 72 => ("WeakSchemeModel", "outSize", "I", false)
  | 73 => ("WeakSchemeModel", "parts", "I", false)
  | 74 => ("WeakSchemeModel", "brackets", "I", false)
  | _ => ("WeakSchemeModel", "bracket", "[J", true)
def t_11 : Nat → FieldType := fun k => match k with
  | 0 => .array .int
  | 1 => .int
  | 2 => .int
  | 3 => .int
  | 4 => .int
  | 5 => .array .int
  | 6 => .array .int
  | 7 => .int
  | 8 => .array .byte
  | 9 => .array .int
  | 10 => .array .int
  | 11 => .array .int
  | 12 => .array .int
  | 13 => .array .int
  | 14 => .array .short
  | 15 => .array .short
  | 16 => .int
  | 17 => .int
  | 18 => .int
  | 19 => .array .int
  | 20 => .array .boolean
  | 21 => .int
  | 22 => .int
  | 23 => .int
  | 24 => .array .int
  | 25 => .array .int
  | 26 => .array .int
  | 27 => .int
  | 28 => .int
  | 29 => .int
  | 30 => .array .byte
  | 31 => .array .short
  | 32 => .array .int
  | 33 => .array .int
  | 34 => .array .int
  | 35 => .array .boolean
  | 36 => .array .boolean
  | 37 => .array .int
  | 38 => .int
  | 39 => .array .long
  | 40 => .array .int
  | 41 => .int
  | 42 => .int
  | 43 => .int
  | 44 => .array .long
  | 45 => .int
  | 46 => .array .long
  | 47 => .array .long
  | 48 => .int
  | 49 => .array .long
  | 50 => .array .long
  | 51 => .int
  | 52 => .array .long
  | 53 => .int
  | 54 => .array .byte
  | 55 => .array .int
  | 56 => .array .int
  | 57 => .array .int
  | 58 => .array .long
  | 59 => .int
  | 60 => .array .int
  | 61 => .array .long
  | 62 => .long
  | 63 => .long
  | 64 => .int
  | 65 => .array .int
  | 66 => .int
  | 67 => .int
  | 68 => .int
  | 69 => .int
  | 70 => .long
  | 71 => .array .int
  | 72 => .int
  | 73 => .int
  | 74 => .int
  | _ => .array .long
set_option maxRecDepth 100000 in
theorem n_11 : ∀ a, a < 76 → ∀ b, b < 76 → a ≠ b → (F_11 a).2.1 ≠ (F_11 b).2.1 := by decide +kernel
set_option maxRecDepth 100000 in
theorem t_11_ok : ∀ k, k < 76 → parseFieldDescriptor (F_11 k).2.2.1 = some (t_11 k) := by decide +kernel
set_option maxRecDepth 100000 in
theorem i_11 : ∀ w ∈ u_ws R_11 F_11 76, w ∈ lw_tbl := by decide +kernel
abbrev eg_cl : List vw_C := [(R_0, F_0, 10), (R_1, F_1, 7), (R_2, F_2, 12), (R_3, F_3, 4), (R_4, F_4, 13), (R_5, F_5, 7), (R_6, F_6, 8), (R_7, F_7, 8), (R_8, F_8, 12), (R_9, F_9, 6), (R_10, F_10, 11), (R_11, F_11, 76)]
def eg_on : List String := ["WeakScheme", "WeakScheme$Source", "WeakScheme$Reader", "WeakScheme$Shape", "WeakScheme$Heap", "WeakScheme$Finalizers", "WeakScheme$Output", "WeakScheme$Held", "WeakScheme$Collector", "WeakScheme$Operations", "WeakScheme$Machine", "WeakSchemeModel", "WeakSchemeLaw", "java/lang/Enum", "java/lang/Math", "java/lang/Object", "java/lang/String", "java/lang/StringLatin1", "java/lang/StringUTF16", "java/util/Arrays", "jdk/internal/util/Preconditions", "WeakScheme$Primitive"]
