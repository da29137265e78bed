/-! THE BRIDGE: every instruction, a frame, a method -/
set_option maxRecDepth 100000 in
theorem eg_nw12 : eg_nw.all (fun q => decide (q.2.2 < 12)) = true := by decide +kernel
set_option maxRecDepth 100000 in
theorem eg_gs43 : eg_gs.all (fun q => decide (q.2.2.1 < eg_stn.length) && (decide (q.2.2.2 = 0) || decide (q.2.2.2 = 1))) = true := by decide +kernel
set_option maxRecDepth 100000 in
theorem eg_gx5 : eg_gx.all (fun q => decide (q.2.2 < eg_fn.length)) = true := by decide +kernel
set_option maxRecDepth 100000 in
theorem eg_mv21 : eg_mv.all (fun q => match eg_tab[q.2.2.1]? with | some t => t.2.2.2.2.2.2.2.1 != 21 | none => false) = true := by decide +kernel
set_option maxRecDepth 100000 in
theorem eg_mu21 : eg_mu.all (fun q => decide (q.1 = 9 ∧ q.2.1 = 54) && (match eg_tab[q.2.2.1]? with | some t => t.2.2.2.2.2.2.2.1 == 21 && decide (t.1 = ⟨"java/lang/Enum", "ordinal", "()I"⟩) | none => false)) = true := by decide +kernel
set_option maxRecDepth 100000 in
theorem eg_st12 : eg_st.all (fun q => decide (q.2.2 < 12) && decide (eg_sn.getD q.2.2 ("", 0) = (eg_on.getD q.1 "", q.2.1))) = true := by decide +kernel
theorem eg_nx_of {P : List (Nat × Instr)} {i pc len n : Nat} (h : eg_nx P i pc len n = true) : len = n ∧ eg_pc P (i + 1) = some (pc + n) := by
  unfold eg_nx at h
  rw [Bool.and_eq_true] at h
  exact ⟨by simpa using h.1, of_decide_eq_true h.2⟩
theorem eg_an2 {a b : Bool} (h : (a && b) = true) : a = true ∧ b = true := by rwa [Bool.and_eq_true] at h
theorem eg_dd {P : Prop} {hd : Decidable P} (h : @decide P hd = true) : P := of_decide_eq_true h
def eg_Rets (raw : Instr) (ret : Option FieldType) (v : Option eg_V) (stk : List eg_V) : Prop := match raw with
  | .ireturn => ∃ x, v = some (.inl x) ∧ stk = [.inl x] ∧ eg_ri ret x
  | .lreturn => ∃ x, v = some (.inr (.inl x)) ∧ stk = [.inr (.inl x)] ∧ ret = some .long
  | .areturn => ∃ x, v = some (.inr (.inr (some x))) ∧ stk = [.inr (.inr (some x))] ∧ eg_rr ret
  | .return_ => v = none ∧ stk = [] ∧ ret = none
  | _ => False
section EGD
variable {sc : eg_Sc} {vq : Value} {p : Program} {l : Launch} {e : Env} {R : Room} {s : State} {m : MethodId} {args : Array Value} {below : List Frame} {meth : Method} {c : Code} {Q : State → Prop} {A : Nat → Prop} {D : va_G} {cc : ByteArray} {nL o n0 : Nat} {ini : Bool} {ad0 ad : Nat → Nat} {cA : Nat → ClassId} {h : eg_H} {lv : eg_L} {st : List eg_V} {H : Heap} {locs : List Loc} {ls : Array Slot} {K : eg_K} {P : List (Nat × Instr)} {pc i cz sz mc ms d : Nat} {call : eg_Ca} {ret : Option FieldType} {Qr : Option eg_V → eg_H → Prop}
/-- what is known of the returns -/
def eg_Ret (sc : eg_Sc) (vq : Value) (s : State) (A : Nat → Prop) (D : va_G) (nL : Nat) (ad0 : Nat → Nat) (n0 : Nat) (p : Program) (l : Launch) (e : Env) (R : Room) (m : MethodId) (args : Array Value) (below : List Frame) (meth : Method) (c : Code) (Q : State → Prop) (cc : ByteArray) (ret : Option FieldType) (mc ms : Nat) (Qr : Option eg_V → eg_H → Prop) : Prop :=
  ∀ (raw : Instr) (v : Option eg_V) (stk : List eg_V) (h : eg_H) (cz sz pc : Nat) (ad : Nat → Nat) (cA : Nat → ClassId) (H : Heap) (locs : List Loc) (ls : Array Slot) (lv : eg_L), eg_Rets raw ret v stk → decode cc pc = .ok (raw, 1) → cz ≤ mc → sz ≤ ms → Qr v h → eg_St sc vq s A D nL ad0 n0 ad cA h lv stk H locs ls → W p l e R s m args below meth c H locs cz sz Q (F0 m pc ls (stk.map (eg_ev ad vq)))
theorem eg_flw {k q : Nat} (hm : (o, k, q) ∈ eg_fl ∨ (o, k, q) ∈ eg_pf) : Cond.fieldLink (eg_on.getD o "") k (eg_Tof (q / 1000) (q % 1000)).1 (eg_Tof (q / 1000) (q % 1000)).2.1 (eg_Tof (q / 1000) (q % 1000)).2.2.1 ∈ eg_gw := by
  rcases hm with hm | hm
  · exact eg_gw_in (eg_tb_in (eg_sub_in _ _ eg_fl_ok _ (List.mem_map.mpr ⟨(o, k, q), hm, rfl⟩))) rfl
  · exact eg_gw_in (eg_tb_in (eg_sub_in _ _ eg_pf_ok _ (List.mem_map.mpr ⟨(o, k, q), hm, rfl⟩))) rfl
theorem eg_lnk {k j f : Nat} {t : eg_T} (ht : eg_tab[j]? = some t) (hf : f = 0 ∨ f = 1) (hm : (o, k, j, f) ∈ eg_mv ∨ (o, k, j, f) ∈ eg_mi ∨ (o, k, j, f) ∈ eg_ms) : (f = 0 ∧ Cond.methodLink (eg_on.getD o "") k t.1 ∈ eg_gw) ∨ (f = 1 ∧ Cond.methodLinkNest (eg_on.getD o "") k t.1 "WeakScheme" ∈ lw_tbl) := by
  have hw : (match eg_tab[j]? with | some t => if f = 0 then Cond.methodLink (eg_on.getD o "") k t.1 else Cond.methodLinkNest (eg_on.getD o "") k t.1 "WeakScheme" | none => Cond.initialized "") ∈ tables_1 := by
    rcases hm with hm | hm | hm
    · exact eg_sub_in _ _ eg_mv_ok _ (List.mem_map.mpr ⟨(o, k, j, f), hm, rfl⟩)
    · exact eg_sub_in _ _ eg_mi_ok _ (List.mem_map.mpr ⟨(o, k, j, f), hm, rfl⟩)
    · exact eg_sub_in _ _ eg_ms_ok _ (List.mem_map.mpr ⟨(o, k, j, f), hm, rfl⟩)
  rw [ht] at hw
  dsimp only at hw
  rcases hf with rfl | rfl
  · rw [if_pos rfl] at hw; exact Or.inl ⟨rfl, eg_gw_in (eg_tb_in hw) rfl⟩
  · rw [if_neg (by decide)] at hw; exact Or.inr ⟨rfl, eg_tb_in hw⟩
theorem eg_plj {k j f : Nat} {t : eg_T} (ht : eg_tab[j]? = some t) (hm : (o, k, j, f) ∈ eg_mv ∨ (o, k, j, f) ∈ eg_mi ∨ (o, k, j, f) ∈ eg_ms ∨ (o, k, j, f) ∈ eg_mu) : Jvm.plainName t.1.cls = true := by
  have hp := List.all_eq_true.mp eg_pln (o, k, j, f) (by
    simp only [List.mem_append]
    rcases hm with h | h | h | h
    · exact Or.inl (Or.inl (Or.inl h))
    · exact Or.inl (Or.inl (Or.inr h))
    · exact Or.inl (Or.inr h)
    · exact Or.inr h)
  dsimp only at hp
  rw [ht] at hp
  exact hp
theorem eg_kdt {j : Nat} {t : eg_T} {x : Nat} (ht : eg_tab[j]? = some t) (hk : eg_kd j = x) : t.2.2.2.2.2.1 = x := by
  unfold eg_kd at hk
  rw [ht] at hk
  exact hk
set_option maxHeartbeats 4000000 in
set_option maxRecDepth 100000 in
theorem eg_disp (F : eg_Fr p R s m args meth c A D cc nL o ini) (S : eg_St sc vq s A D nL ad0 n0 ad cA h lv st H locs ls) (k : eg_Kt K P sc vq s A D nL ad0 n0 p l e R m args below meth c Q) (hR : eg_Ret sc vq s A D nL ad0 n0 p l e R m args below meth c Q cc ret mc ms Qr) (hmc : mc ≤ R.cells) (hms : ms ≤ R.slots) (hRf : d + 1 ≤ R.frames) (hRl : 64 * d + 64 ≤ R.locals)
    (IH : ∀ (j : Nat) (t : eg_T) (as : List eg_V) (h : eg_H) (mc ms : Nat) (Q : Option eg_V → eg_H → Prop), eg_tab[j]? = some t → Jvm.plainName t.1.cls = true → call j as h mc ms Q → eg_Met l sc vq D d t as h mc ms Q)
    {raw I : Instr} {len : Nat} (hd : decode cc pc = .ok (raw, len)) (hm : eg_mt o nL ini P pc i raw len I = true) (hi : eg_i sc call ret mc ms Qr K I i lv st h cz sz) : W p l e R s m args below meth c H locs cz sz Q (F0 m pc ls (st.map (eg_ev ad vq))) := by
  unfold eg_mt at hm
  split at hm
  · exact hi.elim
  · obtain ⟨m1, hx⟩ := eg_an2 hm
    obtain ⟨m2, hr⟩ := eg_an2 m1
    obtain ⟨rfl, hn⟩ := eg_nx_of hx
    cases eg_dd m2
    exact eg_c_iconst F S k (eg_dd hr) hd hn hi
  · obtain ⟨m1, hx⟩ := eg_an2 hm
    obtain ⟨m2, hr⟩ := eg_an2 m1
    obtain ⟨rfl, hn⟩ := eg_nx_of hx
    cases eg_dd m2
    exact eg_c_bipush F S k (eg_dd hr) hd hn hi
  · obtain ⟨m1, hx⟩ := eg_an2 hm
    obtain ⟨m2, hr⟩ := eg_an2 m1
    obtain ⟨rfl, hn⟩ := eg_nx_of hx
    cases eg_dd m2
    exact eg_c_sipush F S k (eg_dd hr) hd hn hi
  · obtain ⟨m1, hx⟩ := eg_an2 hm
    obtain ⟨rfl, hn⟩ := eg_nx_of hx
    have hmem := eg_dd m1
    exact eg_c_ldc F S k (eg_dd (List.all_eq_true.mp eg_lki_rg _ hmem)) (eg_gw_in (eg_tb_in (eg_sub_in _ _ eg_lki_ok _ (List.mem_map.mpr ⟨_, hmem, rfl⟩))) rfl) hd hn hi
  · obtain ⟨m1, hx⟩ := eg_an2 hm
    obtain ⟨rfl, hn⟩ := eg_nx_of hx
    have hmem := List.all_eq_true.mp eg_st12 _ (eg_dd m1)
    obtain ⟨h12, hsn⟩ := eg_an2 hmem
    have hZ := S.2.2.2.2.2.2.2.2.1.2.2.2.2.1 _ (eg_dd h12)
    rw [eg_dd hsn] at hZ
    exact eg_c_ldcS F S k hZ hd hn hi
  · obtain ⟨m1, hx⟩ := eg_an2 hm
    obtain ⟨rfl, hn⟩ := eg_nx_of hx
    cases eg_dd m1
    exact eg_c_lconst F S k hd hn hi
  · obtain ⟨m1, hx⟩ := eg_an2 hm
    obtain ⟨rfl, hn⟩ := eg_nx_of hx
    have hmem := eg_dd m1
    exact eg_c_ldc2 F S k (eg_dd (List.all_eq_true.mp eg_lkl_rg _ hmem)) (eg_gw_in (eg_tb_in (eg_sub_in _ _ eg_lkl_ok _ (List.mem_map.mpr ⟨_, hmem, rfl⟩))) rfl) hd hn hi
  · obtain ⟨m1, hx⟩ := eg_an2 hm
    obtain ⟨rfl, hn⟩ := eg_nx_of hx
    exact eg_c_iload_n F S k (eg_dd m1) hd hn hi
  · obtain ⟨m1, hx⟩ := eg_an2 hm
    obtain ⟨rfl, hn⟩ := eg_nx_of hx
    cases eg_dd m1
    exact eg_c_iload F S k hd hn hi
  · obtain ⟨m1, hx⟩ := eg_an2 hm
    obtain ⟨rfl, hn⟩ := eg_nx_of hx
    exact eg_c_lload_n F S k (eg_dd m1) hd hn hi
  · obtain ⟨m1, hx⟩ := eg_an2 hm
    obtain ⟨rfl, hn⟩ := eg_nx_of hx
    cases eg_dd m1
    exact eg_c_lload F S k hd hn hi
  · obtain ⟨m1, hx⟩ := eg_an2 hm
    obtain ⟨rfl, hn⟩ := eg_nx_of hx
    exact eg_c_aload_n F S k (eg_dd m1) hd hn hi
  · obtain ⟨m1, hx⟩ := eg_an2 hm
    obtain ⟨rfl, hn⟩ := eg_nx_of hx
    cases eg_dd m1
    exact eg_c_aload F S k hd hn hi
  · obtain ⟨m1, hx⟩ := eg_an2 hm
    obtain ⟨rfl, hn⟩ := eg_nx_of hx
    obtain ⟨h1, h2⟩ := eg_dd m1
    exact eg_c_istore_n F S k h1 h2 hd hn hi
  · obtain ⟨m1, hx⟩ := eg_an2 hm
    obtain ⟨rfl, hn⟩ := eg_nx_of hx
    obtain ⟨h1, h2⟩ := eg_dd m1
    cases h1
    exact eg_c_istore F S k h2 hd hn hi
  · obtain ⟨m1, hx⟩ := eg_an2 hm
    obtain ⟨rfl, hn⟩ := eg_nx_of hx
    obtain ⟨h1, h2⟩ := eg_dd m1
    exact eg_c_lstore_n F S k h1 h2 hd hn hi
  · obtain ⟨m1, hx⟩ := eg_an2 hm
    obtain ⟨rfl, hn⟩ := eg_nx_of hx
    obtain ⟨h1, h2⟩ := eg_dd m1
    cases h1
    exact eg_c_lstore F S k h2 hd hn hi
  · obtain ⟨m1, hx⟩ := eg_an2 hm
    obtain ⟨rfl, hn⟩ := eg_nx_of hx
    obtain ⟨h1, h2⟩ := eg_dd m1
    exact eg_c_astore_n F S k h1 h2 hd hn hi
  · obtain ⟨m1, hx⟩ := eg_an2 hm
    obtain ⟨rfl, hn⟩ := eg_nx_of hx
    obtain ⟨h1, h2⟩ := eg_dd m1
    cases h1
    exact eg_c_astore F S k h2 hd hn hi
  · obtain ⟨m1, hx⟩ := eg_an2 hm
    obtain ⟨rfl, hn⟩ := eg_nx_of hx
    obtain ⟨h1, h2, h3⟩ := eg_dd m1
    cases h1
    cases h2
    exact eg_c_iinc F S k h3 hd hn hi
  · obtain ⟨rfl, hn⟩ := eg_nx_of hm
    exact eg_c_iadd F S k hd hn hi
  · obtain ⟨rfl, hn⟩ := eg_nx_of hm
    exact eg_c_isub F S k hd hn hi
  · obtain ⟨rfl, hn⟩ := eg_nx_of hm
    exact eg_c_imul F S k hd hn hi
  · obtain ⟨rfl, hn⟩ := eg_nx_of hm
    exact eg_c_idiv F S k hd hn hi
  · obtain ⟨rfl, hn⟩ := eg_nx_of hm
    exact eg_c_irem F S k hd hn hi
  · obtain ⟨rfl, hn⟩ := eg_nx_of hm
    exact eg_c_ineg F S k hd hn hi
  · obtain ⟨rfl, hn⟩ := eg_nx_of hm
    exact eg_c_iand F S k hd hn hi
  · obtain ⟨rfl, hn⟩ := eg_nx_of hm
    exact eg_c_ishr F S k hd hn hi
  · obtain ⟨rfl, hn⟩ := eg_nx_of hm
    exact eg_c_ladd F S k hd hn hi
  · obtain ⟨rfl, hn⟩ := eg_nx_of hm
    exact eg_c_lsub F S k hd hn hi
  · obtain ⟨rfl, hn⟩ := eg_nx_of hm
    exact eg_c_lmul F S k hd hn hi
  · obtain ⟨rfl, hn⟩ := eg_nx_of hm
    exact eg_c_ldiv F S k hd hn hi
  · obtain ⟨rfl, hn⟩ := eg_nx_of hm
    exact eg_c_lrem F S k hd hn hi
  · obtain ⟨rfl, hn⟩ := eg_nx_of hm
    exact eg_c_lneg F S k hd hn hi
  · obtain ⟨rfl, hn⟩ := eg_nx_of hm
    exact eg_c_land F S k hd hn hi
  · obtain ⟨rfl, hn⟩ := eg_nx_of hm
    exact eg_c_lor F S k hd hn hi
  · obtain ⟨rfl, hn⟩ := eg_nx_of hm
    exact eg_c_lshl F S k hd hn hi
  · obtain ⟨rfl, hn⟩ := eg_nx_of hm
    exact eg_c_lshr F S k hd hn hi
  · obtain ⟨rfl, hn⟩ := eg_nx_of hm
    exact eg_c_lcmp F S k hd hn hi
  · obtain ⟨rfl, hn⟩ := eg_nx_of hm
    exact eg_c_i2l F S k hd hn hi
  · obtain ⟨rfl, hn⟩ := eg_nx_of hm
    exact eg_c_l2i F S k hd hn hi
  · obtain ⟨rfl, hn⟩ := eg_nx_of hm
    exact eg_c_i2b F S k hd hn hi
  · obtain ⟨rfl, hn⟩ := eg_nx_of hm
    exact eg_c_i2s F S k hd hn hi
  · obtain ⟨rfl, hn⟩ := eg_nx_of hm
    exact eg_c_i2c F S k hd hn hi
  · obtain ⟨rfl, hn⟩ := eg_nx_of hm
    exact eg_c_dup F S k hd hn hi
  · obtain ⟨rfl, hn⟩ := eg_nx_of hm
    exact eg_c_dup2 F S k hd hn hi
  · obtain ⟨rfl, hn⟩ := eg_nx_of hm
    exact eg_c_pop F S k hd hn hi
  · obtain ⟨m1, hx⟩ := eg_an2 hm
    obtain ⟨tgt, ht, hj⟩ := eg_jp_of m1
    have hx2 : len = 3 := by simpa using hx
    subst hx2
    exact eg_c_goto F S k ht hj hd hi
  · obtain ⟨m1, hx⟩ := eg_an2 hm
    obtain ⟨m2, hjj⟩ := eg_an2 m1
    obtain ⟨tgt, ht, hj⟩ := eg_jp_of hjj
    obtain ⟨rfl, hn⟩ := eg_nx_of hx
    cases eg_dd m2
    rename_i kc _ _
    cases kc <;> first | exact eg_c_if_eq F S k ht hj hd hn hi | exact eg_c_if_ne F S k ht hj hd hn hi | exact eg_c_if_lt F S k ht hj hd hn hi | exact eg_c_if_ge F S k ht hj hd hn hi | exact eg_c_if_gt F S k ht hj hd hn hi | exact eg_c_if_le F S k ht hj hd hn hi
  · obtain ⟨m1, hx⟩ := eg_an2 hm
    obtain ⟨m2, hjj⟩ := eg_an2 m1
    obtain ⟨tgt, ht, hj⟩ := eg_jp_of hjj
    obtain ⟨rfl, hn⟩ := eg_nx_of hx
    cases eg_dd m2
    rename_i kc _ _
    cases kc <;> first | exact eg_c_icmp_eq F S k ht hj hd hn hi | exact eg_c_icmp_ne F S k ht hj hd hn hi | exact eg_c_icmp_lt F S k ht hj hd hn hi | exact eg_c_icmp_ge F S k ht hj hd hn hi | exact eg_c_icmp_gt F S k ht hj hd hn hi | exact eg_c_icmp_le F S k ht hj hd hn hi
  · obtain ⟨m1, hx⟩ := eg_an2 hm
    obtain ⟨m2, hjj⟩ := eg_an2 m1
    obtain ⟨tgt, ht, hj⟩ := eg_jp_of hjj
    obtain ⟨rfl, hn⟩ := eg_nx_of hx
    cases eg_dd m2
    exact eg_c_acmp F S k ht hj hd hn hi
  · obtain ⟨m1, hx⟩ := eg_an2 hm
    obtain ⟨m2, hjd⟩ := eg_an2 m1
    obtain ⟨h1, h2, h3⟩ := eg_dd m2
    cases h1
    cases h2
    exact eg_c_table F S k h3 hjd hx hd hi
  · obtain ⟨m1, hx⟩ := eg_an2 hm
    obtain ⟨m2, hjd⟩ := eg_an2 m1
    exact eg_c_lookup F S k m2 hjd hx hd hi
  · obtain ⟨m1, hx⟩ := eg_an2 hm
    obtain ⟨m2, hk⟩ := eg_an2 m1
    obtain ⟨rfl, hn⟩ := eg_nx_of hx
    exact eg_c_getfield F S k (eg_dd hk) (eg_flw (Or.inl (eg_dd m2))) hd hn hi
  · obtain ⟨m1, hx⟩ := eg_an2 hm
    obtain ⟨rfl, hn⟩ := eg_nx_of hx
    rename_i kf f
    have hmem := eg_dd m1
    have hl := eg_dd (List.all_eq_true.mp eg_gx5 _ hmem)
    have hw := eg_sub_in _ _ eg_gx_ok _ (List.mem_map.mpr ⟨(o, kf, f), hmem, rfl⟩)
    dsimp only at hw hl
    rw [List.getElem?_eq_getElem hl] at hw
    refine eg_c_getx F S k ?_ hd hn hi
    have hg9 : eg_fn.getD f ("", "", "") = eg_fn[f] := by rw [List.getD_eq_getElem?_getD, List.getElem?_eq_getElem hl]; rfl
    rw [hg9]
    exact eg_gw_in (eg_tb_in hw) rfl
  · obtain ⟨m1, hx⟩ := eg_an2 hm
    obtain ⟨m2, hf⟩ := eg_an2 m1
    obtain ⟨m3, hk⟩ := eg_an2 m2
    obtain ⟨rfl, hn⟩ := eg_nx_of hx
    rename_i kf q
    refine eg_c_putfield F S k (eg_dd hk) (eg_flw (Or.inr (eg_dd m3))) ?_ hd hn hi
    rw [Bool.or_eq_true] at hf
    rcases hf with hf | hf
    · exact Or.inl (by simpa using hf)
    · obtain ⟨h1, h2⟩ := eg_an2 hf
      have h3 := eg_dd h2
      refine Or.inr ⟨h1, ?_⟩
      obtain ⟨⟨C, T, N⟩, hq, hN, hT⟩ := eg_cl_of (eg_nf_lt (eg_dd hk))
      have hdc := List.all_eq_true.mp (List.all_eq_true.mp eg_dcl _ (List.mem_of_getElem? hq)) (q % 1000) (List.mem_range.mpr (by rw [hN]; exact eg_dd hk))
      have hon := List.all_eq_true.mp eg_on_cl (q / 1000) (List.mem_range.mpr (eg_nf_lt (eg_dd hk)))
      rw [hq] at hon
      rw [hT, h3, eg_dd hon]
      exact eg_dd hdc
  · obtain ⟨m1, hx⟩ := eg_an2 hm
    obtain ⟨rfl, hn⟩ := eg_nx_of hx
    rename_i kf n9
    rw [Bool.or_eq_true] at m1
    have hi2 : (match eg_ss n9 with | some v => K (i + 1) lv (v :: st) h cz sz | none => False) := hi
    cases hv : eg_ss n9 with
    | none => rw [hv] at hi2; exact hi2.elim
    | some v =>
      rw [hv] at hi2
      refine eg_c_getstatic F S k hv ?_ hd hn hi2
      rcases m1 with m1 | m1
      · have hmem := eg_dd m1
        have hl := eg_dd (eg_an2 (List.all_eq_true.mp eg_gs43 _ hmem)).1
        have hw := eg_sub_in _ _ eg_gs_ok _ (List.mem_map.mpr ⟨_, hmem, rfl⟩)
        dsimp only at hw hl
        rw [List.getElem?_eq_getElem hl] at hw
        dsimp only at hw
        rw [if_pos rfl] at hw
        have hg9 : eg_stn.getD n9 ("", "", "") = eg_stn[n9] := by rw [List.getD_eq_getElem?_getD, List.getElem?_eq_getElem hl]; rfl
        rw [hg9]
        exact Or.inl (eg_gw_in (eg_tb_in hw) rfl)
      · have hmem := eg_dd m1
        have hl := eg_dd (eg_an2 (List.all_eq_true.mp eg_gs43 _ hmem)).1
        have hw := eg_sub_in _ _ eg_gs_ok _ (List.mem_map.mpr ⟨_, hmem, rfl⟩)
        dsimp only at hw hl
        rw [List.getElem?_eq_getElem hl] at hw
        dsimp only at hw
        rw [if_neg (by decide)] at hw
        have hg9 : eg_stn.getD n9 ("", "", "") = eg_stn[n9] := by rw [List.getD_eq_getElem?_getD, List.getElem?_eq_getElem hl]; rfl
        rw [hg9]
        exact Or.inr (eg_tb_in hw)
  · obtain ⟨rfl, hn⟩ := eg_nx_of hm
    exact eg_c_arraylength F S k hd hn hi
  · obtain ⟨rfl, hn⟩ := eg_nx_of hm
    exact eg_c_iaload F S k hd hn hi
  · obtain ⟨rfl, hn⟩ := eg_nx_of hm
    exact eg_c_laload F S k hd hn hi
  · obtain ⟨rfl, hn⟩ := eg_nx_of hm
    exact eg_c_baload F S k hd hn hi
  · obtain ⟨rfl, hn⟩ := eg_nx_of hm
    exact eg_c_saload F S k hd hn hi
  · obtain ⟨rfl, hn⟩ := eg_nx_of hm
    exact eg_c_aaload F S k hd hn hi
  · obtain ⟨rfl, hn⟩ := eg_nx_of hm
    exact eg_c_iastore F S k hd hn hi
  · obtain ⟨rfl, hn⟩ := eg_nx_of hm
    exact eg_c_lastore F S k hd hn hi
  · obtain ⟨rfl, hn⟩ := eg_nx_of hm
    exact eg_c_bastore F S k hd hn hi
  · obtain ⟨rfl, hn⟩ := eg_nx_of hm
    exact eg_c_sastore F S k hd hn hi
  · obtain ⟨m1, hx⟩ := eg_an2 hm
    obtain ⟨rfl, hn⟩ := eg_nx_of hx
    rename_i kf ci
    have hmem := eg_dd m1
    have hl := eg_dd (List.all_eq_true.mp eg_nw12 _ hmem)
    have hw := eg_sub_in _ _ eg_nw_ok _ (List.mem_map.mpr ⟨(o, kf, ci), hmem, rfl⟩)
    dsimp only at hw hl
    obtain ⟨⟨C, T, N⟩, hq, -, -⟩ := eg_cl_of hl
    rw [hq] at hw
    have hcx := eg_dd (List.all_eq_true.mp eg_cx _ (List.mem_of_getElem? hq))
    have hon := List.all_eq_true.mp eg_on_cl ci (List.mem_range.mpr hl)
    rw [hq] at hon
    have hon2 := eg_dd hon
    have hlo : ci < eg_on.length := Nat.lt_of_lt_of_le hl (by decide)
    rw [List.getD_eq_getElem?_getD, List.getElem?_eq_getElem hlo] at hon2
    have hoo : eg_on[ci]? = some C := by rw [List.getElem?_eq_getElem hlo]; exact congrArg some hon2
    refine eg_c_new F S k hmc hms hq (eg_gw_in (eg_tb_in hw) rfl) (eg_gw_in (eg_tb_in hcx) rfl) (eg_inin hoo ?_) hd hn hi
    intro z
    have hno : ((List.range 12).all (fun c9 => decide (eg_on[c9]? ≠ some "java/lang/Object"))) = true := by decide
    exact eg_dd (List.all_eq_true.mp hno ci (List.mem_range.mpr hl)) (by rw [hoo, z])
  · obtain ⟨m1, hx⟩ := eg_an2 hm
    obtain ⟨m2, hok⟩ := eg_an2 m1
    obtain ⟨rfl, hn⟩ := eg_nx_of hx
    cases eg_dd m2
    exact eg_c_newarray F S k hmc hms hok hd hn hi
  · obtain ⟨m1, hx⟩ := eg_an2 hm
    obtain ⟨m2, hkd⟩ := eg_an2 m1
    obtain ⟨rfl, hn⟩ := eg_nx_of hx
    rename_i kf j
    have hi2 : (match eg_tab[j]? with | some t => t.2.2.2.2.2.2.1 ≤ st.length ∧ eg_rcv t (st.take t.2.2.2.2.2.2.1).reverse h ∧ eg_wds (st.drop t.2.2.2.2.2.2.1) ≤ 8 ∧ ∃ c1 z1 : Nat, cz + c1 ≤ mc ∧ sz + z1 ≤ ms ∧ call j (st.take t.2.2.2.2.2.2.1).reverse h c1 z1 (fun r h1 => K (i + 1) lv (r.toList ++ st.drop t.2.2.2.2.2.2.1) h1 (cz + c1) (sz + z1)) | none => False) := hi
    cases ht : eg_tab[j]? with
    | none => rw [ht] at hi2; exact hi2.elim
    | some t =>
      rw [ht] at hi2
      dsimp only at hi2
      rw [Bool.or_eq_true] at m2
      rcases m2 with m2 | m2
      · have hmem := eg_dd m2
        have h21 := List.all_eq_true.mp eg_mv21 _ hmem
        dsimp only at h21
        rw [ht] at h21
        rcases eg_lnk ht (Or.inl rfl) (Or.inl hmem) with ⟨-, hw⟩ | ⟨z, -⟩
        · exact eg_c_virtual F S k hmc hms hRf hRl ht (eg_plj ht (Or.inl hmem)) (fun as h mc ms Q q => IH j t as h mc ms Q ht (eg_plj ht (Or.inl hmem)) q) (eg_kdt ht (eg_dd hkd)) (by simpa using h21) hw hd hn hi2
        · cases z
      · have hmem := eg_dd m2
        obtain ⟨h9, h21⟩ := eg_an2 (List.all_eq_true.mp eg_mu21 _ hmem)
        obtain ⟨z1, z2⟩ := eg_dd h9
        dsimp only at h21 z1 z2
        rw [ht] at h21
        obtain ⟨h22, h23⟩ := eg_an2 h21
        subst z1
        exact eg_c_ordinal F S k hmc hms hRf hRl ht (eg_plj ht (Or.inr (Or.inr (Or.inr hmem)))) (fun as h mc ms Q q => IH j t as h mc ms Q ht (eg_plj ht (Or.inr (Or.inr (Or.inr hmem)))) q) (eg_kdt ht (eg_dd hkd)) (by simpa using h22) (eg_dd h23) (by decide) z2 hd hn hi2
  · obtain ⟨m1, hx⟩ := eg_an2 hm
    obtain ⟨m2, hkd⟩ := eg_an2 m1
    obtain ⟨rfl, hn⟩ := eg_nx_of hx
    rename_i kf j
    have hi2 : (match eg_tab[j]? with | some t => t.2.2.2.2.2.2.1 ≤ st.length ∧ eg_rcv t (st.take t.2.2.2.2.2.2.1).reverse h ∧ eg_wds (st.drop t.2.2.2.2.2.2.1) ≤ 8 ∧ ∃ c1 z1 : Nat, cz + c1 ≤ mc ∧ sz + z1 ≤ ms ∧ call j (st.take t.2.2.2.2.2.2.1).reverse h c1 z1 (fun r h1 => K (i + 1) lv (r.toList ++ st.drop t.2.2.2.2.2.2.1) h1 (cz + c1) (sz + z1)) | none => False) := hi
    cases ht : eg_tab[j]? with
    | none => rw [ht] at hi2; exact hi2.elim
    | some t =>
      rw [ht] at hi2
      dsimp only at hi2
      rw [Bool.or_eq_true] at m2
      have hor : Cond.methodLink (eg_on.getD o "") kf t.1 ∈ eg_gw ∨ Cond.methodLinkNest (eg_on.getD o "") kf t.1 "WeakScheme" ∈ lw_tbl := by
        rcases m2 with m2 | m2
        · exact (eg_lnk ht (Or.inl rfl) (Or.inr (Or.inl (eg_dd m2)))).imp (fun z => z.2) (fun z => z.2)
        · exact (eg_lnk ht (Or.inr rfl) (Or.inr (Or.inl (eg_dd m2)))).imp (fun z => z.2) (fun z => z.2)
      have hpl : Jvm.plainName t.1.cls = true := by
        rcases m2 with m2 | m2
        · exact eg_plj ht (Or.inr (Or.inl (eg_dd m2)))
        · exact eg_plj ht (Or.inr (Or.inl (eg_dd m2)))
      exact eg_c_special F S k hmc hms hRf hRl ht hpl (fun as h mc ms Q q => IH j t as h mc ms Q ht hpl q) (eg_kdt ht (eg_dd hkd)) hor hd hn hi2
  · obtain ⟨m1, hx⟩ := eg_an2 hm
    obtain ⟨rfl, hn⟩ := eg_nx_of hx
    exact eg_c_objinit F S k (eg_gw_in (eg_tb_in (eg_sub_in _ _ eg_mo_ok _ (List.mem_map.mpr ⟨_, eg_dd m1, rfl⟩))) rfl) hd hn hi
  · obtain ⟨m1, hx⟩ := eg_an2 hm
    obtain ⟨m2, hkd⟩ := eg_an2 m1
    obtain ⟨rfl, hn⟩ := eg_nx_of hx
    rename_i kf j
    have hi2 : (match eg_tab[j]? with | some t => t.2.2.2.2.2.2.1 ≤ st.length ∧ eg_rcv t (st.take t.2.2.2.2.2.2.1).reverse h ∧ eg_wds (st.drop t.2.2.2.2.2.2.1) ≤ 8 ∧ ∃ c1 z1 : Nat, cz + c1 ≤ mc ∧ sz + z1 ≤ ms ∧ call j (st.take t.2.2.2.2.2.2.1).reverse h c1 z1 (fun r h1 => K (i + 1) lv (r.toList ++ st.drop t.2.2.2.2.2.2.1) h1 (cz + c1) (sz + z1)) | none => False) := hi
    cases ht : eg_tab[j]? with
    | none => rw [ht] at hi2; exact hi2.elim
    | some t =>
      rw [ht] at hi2
      dsimp only at hi2
      rw [Bool.or_eq_true] at m2
      have hor : Cond.methodLink (eg_on.getD o "") kf t.1 ∈ eg_gw ∨ Cond.methodLinkNest (eg_on.getD o "") kf t.1 "WeakScheme" ∈ lw_tbl := by
        rcases m2 with m2 | m2
        · exact (eg_lnk ht (Or.inl rfl) (Or.inr (Or.inr (eg_dd m2)))).imp (fun z => z.2) (fun z => z.2)
        · exact (eg_lnk ht (Or.inr rfl) (Or.inr (Or.inr (eg_dd m2)))).imp (fun z => z.2) (fun z => z.2)
      have hpl : Jvm.plainName t.1.cls = true := by
        rcases m2 with m2 | m2
        · exact eg_plj ht (Or.inr (Or.inr (Or.inl (eg_dd m2))))
        · exact eg_plj ht (Or.inr (Or.inr (Or.inl (eg_dd m2))))
      exact eg_c_static F S k hmc hms hRf hRl ht hpl (fun as h mc ms Q q => IH j t as h mc ms Q ht hpl q) (eg_kdt ht (eg_dd hkd)) hor hd hn hi2
  · obtain ⟨m1, hx⟩ := eg_an2 hm
    obtain ⟨m2, hmem⟩ := eg_an2 m1
    obtain ⟨rfl, hn⟩ := eg_nx_of hx
    rename_i kf b9 c9
    have hw := eg_sub_in _ _ eg_bi_ok _ (List.mem_map.mpr ⟨_, eg_dd hmem, rfl⟩)
    dsimp only at hw
    rcases eg_dd m2 with rfl | rfl
    · rw [if_pos rfl] at hw
      exact eg_c_copy F S k (eg_gw_in (eg_tb_in hw) rfl) hd hn hi
    · rw [if_neg (by decide)] at hw
      exact eg_c_min F S k hmc hms (eg_gw_in (eg_tb_in hw) rfl) hd hn hi
  · have hx2 : len = 1 := by simpa using hm
    subst hx2
    have hi2 : (match (generalizing := false) st with | [.inl x] => eg_ri ret x ∧ cz ≤ mc ∧ sz ≤ ms ∧ Qr (some (.inl x)) h | _ => False) := hi
    split at hi2
    · exact hR .ireturn _ _ _ _ _ _ _ _ _ _ _ _ ⟨_, rfl, rfl, hi2.1⟩ hd hi2.2.1 hi2.2.2.1 hi2.2.2.2 S
    · exact hi2.elim
  · have hx2 : len = 1 := by simpa using hm
    subst hx2
    have hi2 : (match (generalizing := false) st with | [.inr (.inl x)] => ret = some .long ∧ cz ≤ mc ∧ sz ≤ ms ∧ Qr (some (.inr (.inl x))) h | _ => False) := hi
    split at hi2
    · exact hR .lreturn _ _ _ _ _ _ _ _ _ _ _ _ ⟨_, rfl, rfl, hi2.1⟩ hd hi2.2.1 hi2.2.2.1 hi2.2.2.2 S
    · exact hi2.elim
  · have hx2 : len = 1 := by simpa using hm
    subst hx2
    have hi2 : (match (generalizing := false) st with | [.inr (.inr (some x))] => eg_rr ret ∧ cz ≤ mc ∧ sz ≤ ms ∧ Qr (some (.inr (.inr (some x)))) h | _ => False) := hi
    split at hi2
    · exact hR .areturn _ _ _ _ _ _ _ _ _ _ _ _ ⟨_, rfl, rfl, hi2.1⟩ hd hi2.2.1 hi2.2.2.1 hi2.2.2.2 S
    · exact hi2.elim
  · have hx2 : len = 1 := by simpa using hm
    subst hx2
    have hi2 : (match (generalizing := false) st with | [] => ret = none ∧ cz ≤ mc ∧ sz ≤ ms ∧ Qr none h | _ => False) := hi
    split at hi2
    · exact hR .return_ _ _ _ _ _ _ _ _ _ _ _ _ ⟨rfl, rfl, hi2.1⟩ hd hi2.2.1 hi2.2.2.1 hi2.2.2.2 S
    · exact hi2.elim
  · cases hm
end EGD
