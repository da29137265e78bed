/-! WHAT THE TABLES SAY of methods and links: the words of each list stand in lw_tbl in the list's order; one pass finds them -/
def eg_sub : List Cond → List Cond → Bool
  | [], _ => true
  | _ :: _, [] => false
  | a :: r, b :: s => match decide (a = b) with
    | true => eg_sub r s
    | false => eg_sub (a :: r) s
theorem eg_sub_in : ∀ (s r : List Cond), eg_sub r s = true → ∀ w ∈ r, w ∈ s := by
  intro s
  induction s with
  | nil =>
    intro r h w hw
    cases r with
    | nil => cases hw
    | cons a r => simp [eg_sub] at h
  | cons b s ih =>
    intro r h w hw
    cases r with
    | nil => cases hw
    | cons a r =>
      unfold eg_sub at h
      cases e : decide (a = b) with
      | true =>
        rw [e] at h
        have e' := of_decide_eq_true e
        subst e'
        rcases List.mem_cons.mp hw with rfl | h1
        · exact List.mem_cons_self
        · exact List.mem_cons_of_mem _ (ih r h w h1)
      | false =>
        rw [e] at h
        exact List.mem_cons_of_mem _ (ih (a :: r) h w hw)
/-- the words of a row of methods: static or instance, how it is found, code -/
def eg_mw (t : eg_T) : Cond := match t.2.2.2.2.2.1 with
  | 0 => .static t.1
  | _ => .instanceMethod t.1
def eg_sel (t : eg_T) : Bool := t.2.2.2.2.2.1 == 1 && t.2.2.2.2.2.2.2.1 != 21
set_option maxRecDepth 100000 in
theorem eg_mw_0 : eg_sub (eg_tab_0.map eg_mw) lw_tbl = true := by decide +kernel
set_option maxRecDepth 100000 in
theorem eg_mw_1 : eg_sub (eg_tab_1.map eg_mw) lw_tbl = true := by decide +kernel
set_option maxRecDepth 100000 in
theorem eg_mw_2 : eg_sub (eg_tab_2.map eg_mw) lw_tbl = true := by decide +kernel
set_option maxRecDepth 100000 in
theorem eg_mw_3 : eg_sub (eg_tab_3.map eg_mw) lw_tbl = true := by decide +kernel
set_option maxRecDepth 100000 in
theorem eg_mw_4 : eg_sub (eg_tab_4.map eg_mw) lw_tbl = true := by decide +kernel
set_option maxRecDepth 100000 in
theorem eg_mw_5 : eg_sub (eg_tab_5.map eg_mw) lw_tbl = true := by decide +kernel
set_option maxRecDepth 100000 in
theorem eg_mw_6 : eg_sub (eg_tab_6.map eg_mw) lw_tbl = true := by decide +kernel
def eg_ceq (a b : Cond) : Bool := match a, b with
  | .code y c n r, .code y' c' n' r' => decide (y = y') && decide (c.data.toList = c'.data.toList) && decide (n = n') && decide (r = r')
  | _, _ => false
theorem eg_ceq_ok {a b : Cond} (h : eg_ceq a b = true) : a = b := by
  unfold eg_ceq at h
  split at h
  · simp only [Bool.and_eq_true, decide_eq_true_eq] at h
    obtain ⟨⟨⟨h1, h2⟩, h3⟩, h4⟩ := h
    rename_i y c n r y' c' n' r'
    have hc : c = c' := by
      cases c with
      | mk d => cases c' with
        | mk d' => exact congrArg ByteArray.mk (Array.toList_inj.mp h2)
    rw [h1, hc, h3, h4]
  · cases h
def eg_cz : List Cond → List Cond → Bool
  | [], [] => true
  | a :: r, b :: s => eg_ceq a b && eg_cz r s
  | _, _ => false
theorem eg_cz_ok : ∀ (r s : List Cond), eg_cz r s = true → r = s
  | [], [], _ => rfl
  | a :: r, b :: s, h => by
    unfold eg_cz at h
    rw [Bool.and_eq_true] at h
    rw [eg_ceq_ok h.1, eg_cz_ok r s h.2]
  | [], b :: s, h => by simp [eg_cz] at h
  | a :: r, [], h => by simp [eg_cz] at h
set_option maxRecDepth 100000 in
theorem eg_cod : eg_cz (eg_tab.map (fun t => Cond.code t.1 t.2.1 t.2.2.1 t.2.2.2.1)) (lw_tbl.filter k2_isCode) = true := by decide +kernel
def eg_pj : List Nat := [14, 32, 33, 34, 35, 36, 37, 39, 40, 41, 42, 43, 45, 46, 47, 48, 50, 52, 56, 57, 61, 62, 63, 65, 66, 68, 70, 72, 74, 81, 84, 85, 86, 87, 88, 89, 91, 92, 96, 97, 99, 100, 101, 102, 103, 104, 105, 106, 107, 108, 109, 110, 111, 112, 113, 115, 116, 117, 118, 120, 121, 122, 123, 124, 125, 126, 130, 131, 133, 135, 136, 137, 138, 139, 140, 141, 142, 143, 144, 145, 154, 156, 158, 159, 161, 162, 163, 164, 165, 167, 168, 169, 170, 171, 172, 173, 174, 175, 176, 177, 178, 179, 180, 181, 182, 183, 184, 185, 186, 188, 189, 190, 191, 192, 193, 194, 195, 197, 198, 199, 200, 202, 203, 204, 205, 206, 207, 208, 209, 210, 211, 212, 213, 214, 215, 216, 217, 218, 219, 220, 221, 222, 223, 224, 226, 227, 229, 230, 231, 232, 233, 234, 235, 236, 237, 238, 239, 240, 241, 242, 243, 244, 245, 246]
def eg_oj : List Nat := [3, 4, 5, 6, 26, 27, 28, 29, 30, 51, 53, 54, 58, 59, 60, 64, 67, 69, 71, 73, 75, 76, 77, 78, 79, 82, 83, 90, 93, 94, 98, 114, 119, 127, 128, 129, 132, 146, 147, 148, 149, 150, 151, 155, 157, 247, 248, 249]
def eg_sw (j : Nat) : Cond := match eg_tab[j]? with | some t => .selects t.1.cls t.1 t.1 | none => .initialized ""
set_option maxRecDepth 100000 in
theorem eg_pj_ok : eg_sub (eg_pj.map eg_sw) (k2_sels lw_privs) = true := by decide +kernel
set_option maxRecDepth 100000 in
theorem eg_oj_ok : eg_sub (eg_oj.map eg_sw) tables_1 = true := by decide +kernel
set_option maxRecDepth 100000 in
theorem eg_sj_ok : (List.range eg_tab.length).all (fun j => match eg_tab[j]? with | some t => !eg_sel t || decide (j ∈ eg_pj) || decide (j ∈ eg_oj) | none => true) = true := by decide +kernel
set_option maxRecDepth 100000 in
theorem eg_fp_0 : eg_tab_0.all (fun t => (Jvm.plainName t.1.cls || t.1.cls == "java/lang/Object" || t.1.cls == "java/lang/Math") && decide (t.1.cls ≠ "java/lang/invoke/MethodHandle" ∧ t.1.cls ≠ "java/lang/invoke/VarHandle")) = true := by decide +kernel
set_option maxRecDepth 100000 in
theorem eg_fq_0 : eg_tab_0.all (fun t => decide ((parseMethodDescriptor t.1.desc).map (fun d => d.parameters.length) = some (t.2.2.2.2.2.2.1 - (if t.2.2.2.2.2.1 = 0 then 0 else 1)))) = true := by decide +kernel
set_option maxRecDepth 100000 in
theorem eg_fr_0 : eg_tab_0.all (fun t => decide (eg_on[t.2.2.2.2.1]? = some t.1.cls) && decide (t.2.2.1 ≤ 20) && (t.2.2.2.2.2.1 == 0 || decide (1 ≤ t.2.2.2.2.2.2.1)) && (match t.2.2.2.2.2.1 with | 0 => true | 1 => t.2.2.2.2.2.2.2.1 == 21 || t.2.2.2.2.2.2.2.1 == t.2.2.2.2.1 | 2 => decide (t.1.name = "<init>") && decide (t.2.2.2.1 = none) | _ => false)) = true := by decide +kernel
set_option maxRecDepth 100000 in
theorem eg_fp_1 : eg_tab_1.all (fun t => (Jvm.plainName t.1.cls || t.1.cls == "java/lang/Object" || t.1.cls == "java/lang/Math") && decide (t.1.cls ≠ "java/lang/invoke/MethodHandle" ∧ t.1.cls ≠ "java/lang/invoke/VarHandle")) = true := by decide +kernel
set_option maxRecDepth 100000 in
theorem eg_fq_1 : eg_tab_1.all (fun t => decide ((parseMethodDescriptor t.1.desc).map (fun d => d.parameters.length) = some (t.2.2.2.2.2.2.1 - (if t.2.2.2.2.2.1 = 0 then 0 else 1)))) = true := by decide +kernel
set_option maxRecDepth 100000 in
theorem eg_fr_1 : eg_tab_1.all (fun t => decide (eg_on[t.2.2.2.2.1]? = some t.1.cls) && decide (t.2.2.1 ≤ 20) && (t.2.2.2.2.2.1 == 0 || decide (1 ≤ t.2.2.2.2.2.2.1)) && (match t.2.2.2.2.2.1 with | 0 => true | 1 => t.2.2.2.2.2.2.2.1 == 21 || t.2.2.2.2.2.2.2.1 == t.2.2.2.2.1 | 2 => decide (t.1.name = "<init>") && decide (t.2.2.2.1 = none) | _ => false)) = true := by decide +kernel
set_option maxRecDepth 100000 in
theorem eg_fp_2 : eg_tab_2.all (fun t => (Jvm.plainName t.1.cls || t.1.cls == "java/lang/Object" || t.1.cls == "java/lang/Math") && decide (t.1.cls ≠ "java/lang/invoke/MethodHandle" ∧ t.1.cls ≠ "java/lang/invoke/VarHandle")) = true := by decide +kernel
set_option maxRecDepth 100000 in
theorem eg_fq_2 : eg_tab_2.all (fun t => decide ((parseMethodDescriptor t.1.desc).map (fun d => d.parameters.length) = some (t.2.2.2.2.2.2.1 - (if t.2.2.2.2.2.1 = 0 then 0 else 1)))) = true := by decide +kernel
set_option maxRecDepth 100000 in
theorem eg_fr_2 : eg_tab_2.all (fun t => decide (eg_on[t.2.2.2.2.1]? = some t.1.cls) && decide (t.2.2.1 ≤ 20) && (t.2.2.2.2.2.1 == 0 || decide (1 ≤ t.2.2.2.2.2.2.1)) && (match t.2.2.2.2.2.1 with | 0 => true | 1 => t.2.2.2.2.2.2.2.1 == 21 || t.2.2.2.2.2.2.2.1 == t.2.2.2.2.1 | 2 => decide (t.1.name = "<init>") && decide (t.2.2.2.1 = none) | _ => false)) = true := by decide +kernel
set_option maxRecDepth 100000 in
theorem eg_fp_3 : eg_tab_3.all (fun t => (Jvm.plainName t.1.cls || t.1.cls == "java/lang/Object" || t.1.cls == "java/lang/Math") && decide (t.1.cls ≠ "java/lang/invoke/MethodHandle" ∧ t.1.cls ≠ "java/lang/invoke/VarHandle")) = true := by decide +kernel
set_option maxRecDepth 100000 in
theorem eg_fq_3 : eg_tab_3.all (fun t => decide ((parseMethodDescriptor t.1.desc).map (fun d => d.parameters.length) = some (t.2.2.2.2.2.2.1 - (if t.2.2.2.2.2.1 = 0 then 0 else 1)))) = true := by decide +kernel
set_option maxRecDepth 100000 in
theorem eg_fr_3 : eg_tab_3.all (fun t => decide (eg_on[t.2.2.2.2.1]? = some t.1.cls) && decide (t.2.2.1 ≤ 20) && (t.2.2.2.2.2.1 == 0 || decide (1 ≤ t.2.2.2.2.2.2.1)) && (match t.2.2.2.2.2.1 with | 0 => true | 1 => t.2.2.2.2.2.2.2.1 == 21 || t.2.2.2.2.2.2.2.1 == t.2.2.2.2.1 | 2 => decide (t.1.name = "<init>") && decide (t.2.2.2.1 = none) | _ => false)) = true := by decide +kernel
set_option maxRecDepth 100000 in
theorem eg_fp_4 : eg_tab_4.all (fun t => (Jvm.plainName t.1.cls || t.1.cls == "java/lang/Object" || t.1.cls == "java/lang/Math") && decide (t.1.cls ≠ "java/lang/invoke/MethodHandle" ∧ t.1.cls ≠ "java/lang/invoke/VarHandle")) = true := by decide +kernel
set_option maxRecDepth 100000 in
theorem eg_fq_4 : eg_tab_4.all (fun t => decide ((parseMethodDescriptor t.1.desc).map (fun d => d.parameters.length) = some (t.2.2.2.2.2.2.1 - (if t.2.2.2.2.2.1 = 0 then 0 else 1)))) = true := by decide +kernel
set_option maxRecDepth 100000 in
theorem eg_fr_4 : eg_tab_4.all (fun t => decide (eg_on[t.2.2.2.2.1]? = some t.1.cls) && decide (t.2.2.1 ≤ 20) && (t.2.2.2.2.2.1 == 0 || decide (1 ≤ t.2.2.2.2.2.2.1)) && (match t.2.2.2.2.2.1 with | 0 => true | 1 => t.2.2.2.2.2.2.2.1 == 21 || t.2.2.2.2.2.2.2.1 == t.2.2.2.2.1 | 2 => decide (t.1.name = "<init>") && decide (t.2.2.2.1 = none) | _ => false)) = true := by decide +kernel
set_option maxRecDepth 100000 in
theorem eg_fp_5 : eg_tab_5.all (fun t => (Jvm.plainName t.1.cls || t.1.cls == "java/lang/Object" || t.1.cls == "java/lang/Math") && decide (t.1.cls ≠ "java/lang/invoke/MethodHandle" ∧ t.1.cls ≠ "java/lang/invoke/VarHandle")) = true := by decide +kernel
set_option maxRecDepth 100000 in
theorem eg_fq_5 : eg_tab_5.all (fun t => decide ((parseMethodDescriptor t.1.desc).map (fun d => d.parameters.length) = some (t.2.2.2.2.2.2.1 - (if t.2.2.2.2.2.1 = 0 then 0 else 1)))) = true := by decide +kernel
set_option maxRecDepth 100000 in
theorem eg_fr_5 : eg_tab_5.all (fun t => decide (eg_on[t.2.2.2.2.1]? = some t.1.cls) && decide (t.2.2.1 ≤ 20) && (t.2.2.2.2.2.1 == 0 || decide (1 ≤ t.2.2.2.2.2.2.1)) && (match t.2.2.2.2.2.1 with | 0 => true | 1 => t.2.2.2.2.2.2.2.1 == 21 || t.2.2.2.2.2.2.2.1 == t.2.2.2.2.1 | 2 => decide (t.1.name = "<init>") && decide (t.2.2.2.1 = none) | _ => false)) = true := by decide +kernel
set_option maxRecDepth 100000 in
theorem eg_fp_6 : eg_tab_6.all (fun t => (Jvm.plainName t.1.cls || t.1.cls == "java/lang/Object" || t.1.cls == "java/lang/Math") && decide (t.1.cls ≠ "java/lang/invoke/MethodHandle" ∧ t.1.cls ≠ "java/lang/invoke/VarHandle")) = true := by decide +kernel
set_option maxRecDepth 100000 in
theorem eg_fq_6 : eg_tab_6.all (fun t => decide ((parseMethodDescriptor t.1.desc).map (fun d => d.parameters.length) = some (t.2.2.2.2.2.2.1 - (if t.2.2.2.2.2.1 = 0 then 0 else 1)))) = true := by decide +kernel
set_option maxRecDepth 100000 in
theorem eg_fr_6 : eg_tab_6.all (fun t => decide (eg_on[t.2.2.2.2.1]? = some t.1.cls) && decide (t.2.2.1 ≤ 20) && (t.2.2.2.2.2.1 == 0 || decide (1 ≤ t.2.2.2.2.2.2.1)) && (match t.2.2.2.2.2.1 with | 0 => true | 1 => t.2.2.2.2.2.2.2.1 == 21 || t.2.2.2.2.2.2.2.1 == t.2.2.2.2.1 | 2 => decide (t.1.name = "<init>") && decide (t.2.2.2.1 = none) | _ => false)) = true := by decide +kernel
set_option maxRecDepth 100000 in
theorem eg_ini : eg_on.all (fun k => k == "java/lang/Object" || decide (Cond.initialized k ∈ tables_1)) = true := by decide +kernel
set_option maxRecDepth 100000 in
theorem eg_fl_ok : eg_sub (eg_fl.map (fun q => (Cond.fieldLink (eg_on.getD q.1 "") q.2.1 (eg_Tof (q.2.2 / 1000) (q.2.2 % 1000)).1 (eg_Tof (q.2.2 / 1000) (q.2.2 % 1000)).2.1 (eg_Tof (q.2.2 / 1000) (q.2.2 % 1000)).2.2.1))) tables_1 = true := by decide +kernel
set_option maxRecDepth 100000 in
theorem eg_pf_ok : eg_sub (eg_pf.map (fun q => (Cond.fieldLink (eg_on.getD q.1 "") q.2.1 (eg_Tof (q.2.2 / 1000) (q.2.2 % 1000)).1 (eg_Tof (q.2.2 / 1000) (q.2.2 % 1000)).2.1 (eg_Tof (q.2.2 / 1000) (q.2.2 % 1000)).2.2.1))) tables_1 = true := by decide +kernel
set_option maxRecDepth 100000 in
theorem eg_mv_ok : eg_sub (eg_mv.map (fun q => (match eg_tab[q.2.2.1]? with | some t => if q.2.2.2 = 0 then Cond.methodLink (eg_on.getD q.1 "") q.2.1 t.1 else Cond.methodLinkNest (eg_on.getD q.1 "") q.2.1 t.1 "WeakScheme" | none => Cond.initialized ""))) tables_1 = true := by decide +kernel
set_option maxRecDepth 100000 in
theorem eg_mi_ok : eg_sub (eg_mi.map (fun q => (match eg_tab[q.2.2.1]? with | some t => if q.2.2.2 = 0 then Cond.methodLink (eg_on.getD q.1 "") q.2.1 t.1 else Cond.methodLinkNest (eg_on.getD q.1 "") q.2.1 t.1 "WeakScheme" | none => Cond.initialized ""))) tables_1 = true := by decide +kernel
set_option maxRecDepth 100000 in
theorem eg_ms_ok : eg_sub (eg_ms.map (fun q => (match eg_tab[q.2.2.1]? with | some t => if q.2.2.2 = 0 then Cond.methodLink (eg_on.getD q.1 "") q.2.1 t.1 else Cond.methodLinkNest (eg_on.getD q.1 "") q.2.1 t.1 "WeakScheme" | none => Cond.initialized ""))) tables_1 = true := by decide +kernel
set_option maxRecDepth 100000 in
theorem eg_mo_ok : eg_sub (eg_mo.map (fun q => Cond.methodLink (eg_on.getD q.1 "") q.2 objectInit)) tables_1 = true := by decide +kernel
set_option maxRecDepth 100000 in
theorem eg_nw_ok : eg_sub (eg_nw.map (fun q => match eg_cl[q.2.2]? with | some r => Cond.classLink (eg_on.getD q.1 "") q.2.1 r.1 | none => Cond.initialized "")) tables_1 = true := by decide +kernel
set_option maxRecDepth 100000 in
theorem eg_lki_ok : eg_sub (eg_lki.map (fun q => Cond.constant (eg_on.getD q.1 "") q.2.1 (Int32.ofInt q.2.2))) tables_1 = true := by decide +kernel
set_option maxRecDepth 100000 in
theorem eg_lki_rg : eg_lki.all (fun q => decide (-2147483648 ≤ q.2.2 ∧ q.2.2 < 2147483648)) = true := by decide +kernel
set_option maxRecDepth 100000 in
theorem eg_lkl_ok : eg_sub (eg_lkl.map (fun q => Cond.constantLong (eg_on.getD q.1 "") q.2.1 (Int64.ofInt q.2.2))) tables_1 = true := by decide +kernel
set_option maxRecDepth 100000 in
theorem eg_lkl_rg : eg_lkl.all (fun q => decide (-9223372036854775808 ≤ q.2.2 ∧ q.2.2 < 9223372036854775808)) = true := by decide +kernel
set_option maxRecDepth 100000 in
theorem eg_gs_ok : eg_sub (eg_gs.map (fun q => match eg_stn[q.2.2.1]? with | some r => if q.2.2.2 = 0 then Cond.fieldLink (eg_on.getD q.1 "") q.2.1 r.1 r.2.1 r.2.2 else Cond.fieldLinkNest (eg_on.getD q.1 "") q.2.1 r.1 r.2.1 r.2.2 "WeakScheme" | none => Cond.initialized "")) tables_1 = true := by decide +kernel
set_option maxRecDepth 100000 in
theorem eg_gx_ok : eg_sub (eg_gx.map (fun q => match eg_fn[q.2.2]? with | some r => Cond.fieldLink (eg_on.getD q.1 "") q.2.1 r.1 r.2.1 r.2.2 | none => Cond.initialized "")) tables_1 = true := by decide +kernel
set_option maxRecDepth 100000 in
theorem eg_bi_ok : eg_sub (eg_bi.map (fun q => Cond.methodLink (eg_on.getD q.1 "") q.2.1 (if q.2.2.1 = 3 then arraycopyName else ⟨"java/lang/Math", "min", "(II)I"⟩))) tables_1 = true := by decide +kernel
set_option maxRecDepth 100000 in
theorem eg_one : eg_sub [.instanceMethod objectInit, .code objectInit ⟨#[0xb1]⟩ 1 none] tables_1 = true := by decide +kernel
set_option maxRecDepth 100000 in
theorem eg_sys : (decide (Cond.native arraycopyName ∈ tables_1) && decide (Cond.static arraycopyName ∈ tables_1) && decide (Cond.initialized "java/lang/System" ∈ tables_1)) = true := by decide +kernel
set_option maxRecDepth 100000 in
theorem eg_ord : ([Cond.methodLink "WeakScheme$Operations" 54 ⟨"WeakScheme$Primitive", "ordinal", "()I"⟩, .sameMethod "WeakScheme$Primitive" "java/lang/Enum" "ordinal" "()I", .selects "WeakScheme$Primitive" ⟨"WeakScheme$Primitive", "ordinal", "()I"⟩ ⟨"java/lang/Enum", "ordinal", "()I"⟩, .instanceMethod ⟨"java/lang/Enum", "ordinal", "()I"⟩, .initialized "java/lang/Enum"].all (fun w => decide (w ∈ tables_1))) = true := by decide +kernel
set_option maxRecDepth 100000 in
theorem eg_cx : eg_cl.all (fun q => decide (Cond.instantiable q.1 q.2.2 ∈ tables_1)) = true := by decide +kernel
set_option maxRecDepth 100000 in
theorem eg_arr : ([FieldType.byte, .int, .long, .boolean, .short].all (fun w => decide (Cond.arrayClass w ∈ tables_1))) = true := by decide +kernel
/-- words that a call does not hand on by itself -/
def eg_isn : Cond → Bool
  | .fieldLinkNest _ _ _ _ _ _ => true
  | .methodLinkNest _ _ _ _ => true
  | .stringRef _ _ _ => true
  | .declares _ => true
  | .laysStatic _ _ _ => true
  | .privateMethod _ => true
  | _ => false
set_option maxRecDepth 100000 in
theorem eg_good : lw_tbl.all (fun w => eg_isn w || k2_isCode w || goodWord w) = true := by decide +kernel
set_option maxRecDepth 100000 in
theorem eg_dcl : eg_cl.all (fun q => (List.range q.2.2).all (fun k => decide ((q.2.1 k).1 = q.1))) = true := by decide +kernel
