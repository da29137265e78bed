/-! STATIC THINGS OUT OF THE STATEMENT: their terms, what is said of them, the relation eg_ST at the law's start -/
def eg_tS (i : Nat) : Term := .string (eg_sn.getD i ("", 0)).1 (eg_sn.getD i ("", 0)).2
def eg_tB (i : Nat) : Term := .field (eg_tS i) "java/lang/String" "value" "[B"
def eg_tE (i : Nat) : Term := .static "WeakScheme$Primitive" (eg_enm.getD i ("", 0, 0)).1 "LWeakScheme$Primitive;"
def eg_tP : Term := .static "WeakScheme" "PRIMITIVES" "[LWeakScheme$Primitive;"
def eg_tL : Term := .static "WeakScheme$Shape" "LEAST" "[I"
def eg_tM : Term := .static "WeakScheme$Shape" "MOST" "[I"
def eg_tW : Term := .static "WeakScheme$1" "$SwitchMap$WeakScheme$Primitive" "[I"
def eg_xS (i : Nat) : List Cond := [.exactly (eg_tS i) "java/lang/String", .eq (.field (eg_tS i) "java/lang/String" "coder" "B") (.int 0), .arrayOf (eg_tB i) .byte, .eq (.length (eg_tB i)) (.int (Int32.ofNat (eg_str.getD i []).length))] ++ (List.range (eg_str.getD i []).length).map (fun j => .eq (.elem (eg_tB i) (.int (Int32.ofNat j))) (.int (Int32.ofInt ((eg_str.getD i []).getD j 0))))
def eg_xE (i : Nat) : List Cond := [.exactly (eg_tE i) "WeakScheme$Primitive", .eq (.field (eg_tE i) "java/lang/Enum" "ordinal" "I") (.int (Int32.ofNat i)), .eq (.field (eg_tE i) "WeakScheme$Primitive" "word" "Ljava/lang/String;") (eg_tS (eg_enm.getD i ("", 0, 0)).2.1), .eq (.field (eg_tE i) "WeakScheme$Primitive" "sorts" "Ljava/lang/String;") (eg_tS (eg_enm.getD i ("", 0, 0)).2.2)]
def eg_xA (tm : Term) (ty : FieldType) (n : Nat) (f : Nat → Term) : List Cond := [.arrayOf tm ty, .eq (.length tm) (.int (Int32.ofNat n))] ++ (List.range n).map (fun j => .eq (.elem tm (.int (Int32.ofNat j))) (f j))
def eg_x0 : List Cond := [.eq (.static "java/lang/String" "COMPACT_STRINGS" "Z") (.int 1), .isRef (.static "jdk/internal/util/Preconditions" "SIOOBE_FORMATTER" "Ljava/util/function/BiFunction;")]
def eg_oE : List Nat := [3, 0, 1, 2, 4, 5, 6, 7, 8, 9, 10, 11, 12, 13, 14, 15, 16, 17, 18, 19, 20, 21, 22, 23, 24, 25, 26, 27, 28, 29, 30, 31, 32, 33]
def eg_exp : List Cond := eg_x0 ++ (eg_xA eg_tP (.object "WeakScheme$Primitive") 34 eg_tE ++ (eg_xA eg_tL .int 11 (fun j => .int (Int32.ofInt (eg_least.getD j 0))) ++ (eg_xA eg_tM .int 11 (fun j => .int (Int32.ofInt (eg_most.getD j 0))) ++ (eg_xA eg_tW .int 34 (fun j => .int (Int32.ofInt (eg_swm.getD j 0))) ++ (eg_oE.flatMap eg_xE ++ (List.range 62).flatMap eg_xS)))))
set_option maxRecDepth 1000000 in
theorem eg_flat : eg_sub eg_exp (flatC narrow_1) = true := by decide +kernel
set_option maxRecDepth 100000 in
theorem eg_oE_all : (List.range 34).all (fun i => decide (i ∈ eg_oE)) = true := by decide +kernel
set_option maxRecDepth 100000 in
theorem eg_enm_lt : (List.range 34).all (fun i => decide ((eg_enm.getD i ("", 0, 0)).2.1 < 62 ∧ (eg_enm.getD i ("", 0, 0)).2.2 < 62)) = true := by decide +kernel
set_option maxRecDepth 100000 in
theorem eg_str_rg : (List.range 62).all (fun i => decide ((eg_str.getD i []).length < 2147483648) && (eg_str.getD i []).all (fun x => decide (-2147483648 ≤ x ∧ x < 2147483648))) = true := by decide +kernel
set_option maxRecDepth 100000 in
theorem eg_lms_rg : (eg_least ++ eg_most ++ eg_swm).all (fun x => decide (-2147483648 ≤ x ∧ x < 2147483648)) = true := by decide +kernel
set_option maxRecDepth 100000 in
theorem eg_lay : ([0, 1, 5, 6, 7, 8, 9].all (fun n => decide (Cond.laysStatic (eg_stn.getD n ("", "", "")).1 (eg_stn.getD n ("", "", "")).2.1 (eg_stn.getD n ("", "", "")).2.2 ∈ tables_1) && decide (Cond.initialized (eg_stn.getD n ("", "", "")).1 ∈ tables_1))) = true := by decide +kernel
set_option maxRecDepth 100000 in
theorem eg_srw : ((List.range 12).all (fun i => decide (Cond.stringRef (eg_sn.getD i ("", 0)).1 (eg_sn.getD i ("", 0)).2 (eg_stx.getD i "") ∈ tables_1))) = true := by decide +kernel
def eg_tm (k : Nat) : Term := if 1000300 ≤ k then eg_tB (k - 1000300) else if 1000200 ≤ k then eg_tS (k - 1000200) else if 1000100 ≤ k then eg_tE (k - 1000100) else if k = 1000001 then eg_tL else if k = 1000002 then eg_tM else if k = 1000003 then eg_tW else eg_tP
/-- the addresses of static things -/
def eg_ad0 (args : Array Value) (s : State) (b k : Nat) : Nat := if k = 1000000 then b else match (eg_tm k).eval args s none [] s with
  | some (.ref a) => a
  | _ => 0
theorem eg_ad0_of {args : Array Value} {s : State} {b k a : Nat} (hk : k ≠ 1000000) (h : (eg_tm k).eval args s none [] s = some (.ref a)) : eg_ad0 args s b k = a := by
  unfold eg_ad0
  rw [if_neg hk, h]
theorem eg_tm_B {i : Nat} : eg_tm (1000300 + i) = eg_tB i := by unfold eg_tm; rw [if_pos (by omega), show 1000300 + i - 1000300 = i by omega]
theorem eg_tm_S {i : Nat} (h : i < 100) : eg_tm (1000200 + i) = eg_tS i := by unfold eg_tm; rw [if_neg (by omega), if_pos (by omega), show 1000200 + i - 1000200 = i by omega]
theorem eg_tm_E {i : Nat} (h : i < 100) : eg_tm (1000100 + i) = eg_tE i := by unfold eg_tm; rw [if_neg (by omega), if_neg (by omega), if_pos (by omega), show 1000100 + i - 1000100 = i by omega]
section EGT
variable {args : Array Value} {s : State} {b : Nat} {vq : Value} {A : Nat → Prop}
theorem eg_S_of (hf : ∀ c ∈ eg_exp, c.before args s = true) (hA : ∀ a : Nat, a < s.heap.size → ¬ A a) {i : Nat} (hi : i < 62) : (eg_tS i).eval args s none [] s = some (.ref (eg_ad0 args s b (1000200 + i))) ∧ va_O "java/lang/String" (eg_ad0 args s b (1000200 + i)) A s s.heap ∧ va_OF "java/lang/String" "coder" "B" (.int (Int32.ofInt 0)) (eg_ad0 args s b (1000200 + i)) A s s.heap ∧
    va_OF "java/lang/String" "value" "[B" (.ref (eg_ad0 args s b (1000300 + i))) (eg_ad0 args s b (1000200 + i)) A s s.heap ∧ va_T .byte (eg_ad0 args s b (1000300 + i)) (eg_str.getD i []).length (fun j => .int (Int32.ofInt ((eg_str.getD i []).getD j 0))) A s s.heap := by
  have hc : ∀ c ∈ eg_xS i, c.before args s = true := fun c hc => hf c (by
    unfold eg_exp
    simp only [List.mem_append]
    exact Or.inr (Or.inr (Or.inr (Or.inr (Or.inr (Or.inr (List.mem_flatMap.mpr ⟨i, List.mem_range.mpr hi, hc⟩)))))))
  have hrg := eg_an2 (List.all_eq_true.mp eg_str_rg i (List.mem_range.mpr hi))
  have h1 := hc (.exactly (eg_tS i) "java/lang/String") (by simp [eg_xS])
  have h2 := hc (.eq (.field (eg_tS i) "java/lang/String" "coder" "B") (.int 0)) (by simp [eg_xS])
  have h3 := hc (.arrayOf (eg_tB i) .byte) (by simp [eg_xS])
  have h4 := hc (.eq (.length (eg_tB i)) (.int (Int32.ofNat (eg_str.getD i []).length))) (by simp [eg_xS])
  have h5 : ∀ j, j < (eg_str.getD i []).length → (Cond.eq (.elem (eg_tB i) (.int (Int32.ofNat j))) (.int (Int32.ofInt ((eg_str.getD i []).getD j 0)))).before args s = true := fun j hj => hc _ (by
    unfold eg_xS
    exact List.mem_append_right _ (List.mem_map.mpr ⟨j, List.mem_range.mpr hj, rfl⟩))
  obtain ⟨a, c, cA, kA, q1, q2, q3, q4, q5, q6, -⟩ := Cond.exactly_spec (args := args) (first := s) (o := none) (s := s) (idx := []) (t := eg_tS i) (cls := "java/lang/String") h1
  obtain ⟨t, ht, hT⟩ := va_Tof (f := fun j => .int (Int32.ofInt ((eg_str.getD i []).getD j 0))) (A := A) (Nat.lt_of_lt_of_le (eg_dd hrg.1) (by decide)) h3 (va_eqt h4) (fun j hj => va_eqt (h5 j hj)) hA
  have ea : eg_ad0 args s b (1000200 + i) = a := eg_ad0_of (by omega) (by rw [eg_tm_S (by omega)]; exact q1)
  have et : eg_ad0 args s b (1000300 + i) = t := eg_ad0_of (by omega) (by rw [eg_tm_B]; exact ht)
  rw [ea, et]
  exact ⟨q1, va_Oof h1 q1 hA, vk_OFof q1 (va_eqt h2) hA, vk_OFof q1 ht hA, hT⟩
theorem eg_E_of (hf : ∀ c ∈ eg_exp, c.before args s = true) (hA : ∀ a : Nat, a < s.heap.size → ¬ A a) {i : Nat} (hi : i < 34) : (eg_tE i).eval args s none [] s = some (.ref (eg_ad0 args s b (1000100 + i))) ∧ va_O "WeakScheme$Primitive" (eg_ad0 args s b (1000100 + i)) A s s.heap ∧ va_OF "java/lang/Enum" "ordinal" "I" (.int (Int32.ofNat i)) (eg_ad0 args s b (1000100 + i)) A s s.heap ∧
    va_OF "WeakScheme$Primitive" "word" "Ljava/lang/String;" (.ref (eg_ad0 args s b (1000200 + (eg_enm.getD i ("", 0, 0)).2.1))) (eg_ad0 args s b (1000100 + i)) A s s.heap ∧ va_OF "WeakScheme$Primitive" "sorts" "Ljava/lang/String;" (.ref (eg_ad0 args s b (1000200 + (eg_enm.getD i ("", 0, 0)).2.2))) (eg_ad0 args s b (1000100 + i)) A s s.heap := by
  have hc : ∀ c ∈ eg_xE i, c.before args s = true := fun c hc => hf c (by
    unfold eg_exp
    simp only [List.mem_append]
    exact Or.inr (Or.inr (Or.inr (Or.inr (Or.inr (Or.inl (List.mem_flatMap.mpr ⟨i, eg_dd (List.all_eq_true.mp eg_oE_all i (List.mem_range.mpr hi)), hc⟩)))))))
  have hlt := eg_dd (List.all_eq_true.mp eg_enm_lt i (List.mem_range.mpr hi))
  have h1 := hc (.exactly (eg_tE i) "WeakScheme$Primitive") (by simp [eg_xE])
  have h2 := hc (.eq (.field (eg_tE i) "java/lang/Enum" "ordinal" "I") (.int (Int32.ofNat i))) (by simp [eg_xE])
  have h3 := hc (.eq (.field (eg_tE i) "WeakScheme$Primitive" "word" "Ljava/lang/String;") (eg_tS (eg_enm.getD i ("", 0, 0)).2.1)) (by simp [eg_xE])
  have h4 := hc (.eq (.field (eg_tE i) "WeakScheme$Primitive" "sorts" "Ljava/lang/String;") (eg_tS (eg_enm.getD i ("", 0, 0)).2.2)) (by simp [eg_xE])
  obtain ⟨a, c, cA, kA, q1, q2, q3, q4, q5, q6, -⟩ := Cond.exactly_spec (args := args) (first := s) (o := none) (s := s) (idx := []) (t := eg_tE i) (cls := "WeakScheme$Primitive") h1
  have ea : eg_ad0 args s b (1000100 + i) = a := eg_ad0_of (by omega) (by rw [eg_tm_E (by omega)]; exact q1)
  obtain ⟨y3, e3, e3'⟩ := Cond.eq_one (show (Cond.eq _ _).holds args s none s [] = true from h3)
  obtain ⟨y4, e4, e4'⟩ := Cond.eq_one (show (Cond.eq _ _).holds args s none s [] = true from h4)
  rw [(eg_S_of (b := b) (A := A) hf hA hlt.1).1] at e3'
  rw [(eg_S_of (b := b) (A := A) hf hA hlt.2).1] at e4'
  cases e3'
  cases e4'
  rw [ea]
  exact ⟨q1, va_Oof h1 q1 hA, vk_OFof q1 (va_eqt h2) hA, vk_OFof q1 e3 hA, vk_OFof q1 e4 hA⟩
theorem eg_A_of {tm : Term} {ty : FieldType} {n k : Nat} {f : Nat → Term} {g : Nat → Value} (hc : ∀ c ∈ eg_xA tm ty n f, c.before args s = true) (hA : ∀ a : Nat, a < s.heap.size → ¬ A a) (hn : n < 2 ^ 31) (hk : k ≠ 1000000) (htm : eg_tm k = tm) (hg : ∀ j, j < n → (f j).eval args s none [] s = some (g j)) : tm.eval args s none [] s = some (.ref (eg_ad0 args s b k)) ∧ va_T ty (eg_ad0 args s b k) n g A s s.heap := by
  have h3 := hc (.arrayOf tm ty) (by simp [eg_xA])
  have h4 := hc (.eq (.length tm) (.int (Int32.ofNat n))) (by simp [eg_xA])
  have h5 : ∀ j, j < n → (Cond.eq (.elem tm (.int (Int32.ofNat j))) (f j)).before args s = true := fun j hj => hc _ (by
    unfold eg_xA
    exact List.mem_append_right _ (List.mem_map.mpr ⟨j, List.mem_range.mpr hj, rfl⟩))
  obtain ⟨t, ht, hT⟩ := va_Tof (f := g) (A := A) hn h3 (va_eqt h4) (fun j hj => by
    obtain ⟨y, e1, e2⟩ := Cond.eq_one (show (Cond.eq _ _).holds args s none s [] = true from h5 j hj)
    rw [hg j hj] at e2
    cases e2
    exact e1) hA
  have et : eg_ad0 args s b k = t := eg_ad0_of hk (by rw [htm]; exact ht)
  rw [et]
  exact ⟨ht, hT⟩
theorem eg_OF_one {o n d : String} {v w : Value} {t : Nat} {U : State} {H : Heap} (h1 : va_OF o n d v t A U H) (h2 : va_OF o n d w t A U H) : v = w := by
  obtain ⟨cf, k, i, f, cell, a1, a2, a3, a4, a5, a6⟩ := h1
  obtain ⟨cf', k', i', f', cell', b1, b2, b3, b4, b5, b6⟩ := h2
  cases a1.symm.trans b1
  cases a3.symm.trans b3
  exact Option.some.inj (a5.symm.trans b5)
end EGT
