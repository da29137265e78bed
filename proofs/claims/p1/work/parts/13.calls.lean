/-! THE BRIDGE: contracts, calls, returns -/
theorem eg_tab_all {f : eg_T → Bool} (h0 : eg_tab_0.all f = true) (h1 : eg_tab_1.all f = true) (h2 : eg_tab_2.all f = true) (h3 : eg_tab_3.all f = true) (h4 : eg_tab_4.all f = true) (h5 : eg_tab_5.all f = true) (h6 : eg_tab_6.all f = true) {j : Nat} {t : eg_T} (h : eg_tab[j]? = some t) : f t = true := by
  have hm : t ∈ eg_tab_0 ++ eg_tab_1 ++ eg_tab_2 ++ eg_tab_3 ++ eg_tab_4 ++ eg_tab_5 ++ eg_tab_6 := List.mem_of_getElem? h
  simp only [List.mem_append] at hm
  rcases hm with (((((h | h) | h) | h) | h) | h) | h
  · exact List.all_eq_true.mp h0 t h
  · exact List.all_eq_true.mp h1 t h
  · exact List.all_eq_true.mp h2 t h
  · exact List.all_eq_true.mp h3 t h
  · exact List.all_eq_true.mp h4 t h
  · exact List.all_eq_true.mp h5 t h
  · exact List.all_eq_true.mp h6 t h
theorem eg_mwall {j : Nat} {t : eg_T} (h : eg_tab[j]? = some t) : eg_mw t ∈ lw_tbl := by
  have hm : t ∈ eg_tab_0 ++ eg_tab_1 ++ eg_tab_2 ++ eg_tab_3 ++ eg_tab_4 ++ eg_tab_5 ++ eg_tab_6 := List.mem_of_getElem? h
  simp only [List.mem_append] at hm
  rcases hm with (((((h | h) | h) | h) | h) | h) | h
  · exact eg_sub_in _ _ eg_mw_0 _ (List.mem_map.mpr ⟨t, h, rfl⟩)
  · exact eg_sub_in _ _ eg_mw_1 _ (List.mem_map.mpr ⟨t, h, rfl⟩)
  · exact eg_sub_in _ _ eg_mw_2 _ (List.mem_map.mpr ⟨t, h, rfl⟩)
  · exact eg_sub_in _ _ eg_mw_3 _ (List.mem_map.mpr ⟨t, h, rfl⟩)
  · exact eg_sub_in _ _ eg_mw_4 _ (List.mem_map.mpr ⟨t, h, rfl⟩)
  · exact eg_sub_in _ _ eg_mw_5 _ (List.mem_map.mpr ⟨t, h, rfl⟩)
  · exact eg_sub_in _ _ eg_mw_6 _ (List.mem_map.mpr ⟨t, h, rfl⟩)
/-- a method's code word -/
abbrev eg_cwd (t : eg_T) : Cond := .code t.1 t.2.1 t.2.2.1 t.2.2.2.1
theorem eg_codin {j : Nat} {t : eg_T} (h : eg_tab[j]? = some t) : eg_cwd t ∈ eg_gw := by
  have h1 : eg_cwd t ∈ eg_tab.map (fun t => Cond.code t.1 t.2.1 t.2.2.1 t.2.2.2.1) := List.mem_map.mpr ⟨t, List.mem_of_getElem? h, rfl⟩
  rw [eg_cz_ok _ _ eg_cod] at h1
  exact eg_gw_in (List.mem_filter.mp h1).1 rfl
/-- what holds of a method of the table -/
theorem eg_tf {j : Nat} {t : eg_T} (h : eg_tab[j]? = some t) : eg_ck t = true ∧ (t.1.cls ≠ "java/lang/invoke/MethodHandle" ∧ t.1.cls ≠ "java/lang/invoke/VarHandle") ∧ (parseMethodDescriptor t.1.desc).map (fun d => d.parameters.length) = some (t.2.2.2.2.2.2.1 - (if t.2.2.2.2.2.1 = 0 then 0 else 1)) ∧
    eg_on[t.2.2.2.2.1]? = some t.1.cls ∧ t.2.2.1 ≤ 20 ∧ (t.2.2.2.2.2.1 = 0 ∨ 1 ≤ t.2.2.2.2.2.2.1) ∧ (t.2.2.2.2.2.1 = 1 → t.2.2.2.2.2.2.2.1 = 21 ∨ t.2.2.2.2.2.2.2.1 = t.2.2.2.2.1) ∧ (t.2.2.2.2.2.1 = 2 → t.1.name = "<init>" ∧ t.2.2.2.1 = none) := by
  have hp := eg_tab_all eg_fp_0 eg_fp_1 eg_fp_2 eg_fp_3 eg_fp_4 eg_fp_5 eg_fp_6 h
  have hq := eg_tab_all eg_fq_0 eg_fq_1 eg_fq_2 eg_fq_3 eg_fq_4 eg_fq_5 eg_fq_6 h
  have hr := eg_tab_all eg_fr_0 eg_fr_1 eg_fr_2 eg_fr_3 eg_fr_4 eg_fr_5 eg_fr_6 h
  rw [Bool.and_eq_true] at hp
  simp only [Bool.and_eq_true, Bool.or_eq_true, decide_eq_true_eq, beq_iff_eq] at hr
  obtain ⟨⟨⟨r1, r2⟩, r3⟩, r4⟩ := hr
  refine ⟨eg_tab_all eg_ck_0 eg_ck_1 eg_ck_2 eg_ck_3 eg_ck_4 eg_ck_5 eg_ck_6 h, of_decide_eq_true hp.2, of_decide_eq_true hq, r1, r2, r3, fun e => ?_, fun e => ?_⟩
  · rw [e] at r4
    simpa using r4
  · rw [e] at r4
    simpa using r4
theorem eg_inin {o : Nat} {k : String} (h : eg_on[o]? = some k) (hk : k ≠ "java/lang/Object") : Cond.initialized k ∈ eg_gw := by
  have h1 := List.all_eq_true.mp eg_ini k (List.mem_of_getElem? h)
  rw [Bool.or_eq_true] at h1
  rcases h1 with h1 | h1
  · exact absurd (by simpa using h1) hk
  · exact eg_gw_in (eg_tb_in (of_decide_eq_true h1)) rfl
theorem eg_selin {j : Nat} {t : eg_T} (h : eg_tab[j]? = some t) (h1 : t.2.2.2.2.2.1 = 1) (h2 : t.2.2.2.2.2.2.2.1 ≠ 21) : Cond.selects t.1.cls t.1 t.1 ∈ eg_gw := by
  have hs := List.all_eq_true.mp eg_sj_ok j (List.mem_range.mpr (List.getElem?_eq_some_iff.mp h).1)
  rw [h] at hs
  have he : eg_sel t = true := by
    unfold eg_sel
    rw [h1]
    simpa using h2
  simp only [he, Bool.not_true, Bool.false_or, Bool.or_eq_true, decide_eq_true_eq] at hs
  have hw : eg_sw j = Cond.selects t.1.cls t.1 t.1 := by unfold eg_sw; rw [h]
  rcases hs with hs | hs
  · exact eg_gw_in (List.mem_append_left _ (eg_sub_in _ _ eg_pj_ok _ (hw ▸ List.mem_map.mpr ⟨j, hs, rfl⟩))) rfl
  · exact eg_gw_in (eg_tb_in (eg_sub_in _ _ eg_oj_ok _ (hw ▸ List.mem_map.mpr ⟨j, hs, rfl⟩))) rfl
theorem eg_goodin {ws : List Cond} (h : ∀ w ∈ ws, w ∈ eg_gw) : GoodIn eg_gw ws := fun w hw => ⟨h w hw, eg_gw_good w (h w hw)⟩
/-- a method's words -/
abbrev eg_ws' (t : eg_T) : List Cond := eg_cwd t :: eg_gw
theorem eg_ws_in {j : Nat} {t : eg_T} (h : eg_tab[j]? = some t) : ∀ w ∈ eg_ws' t, w ∈ eg_gw := fun w hw => by
  rcases List.mem_cons.mp hw with rfl | h1
  · exact eg_codin h
  · exact h1
/-- the world at a method's entry -/
def eg_Pre (sc : eg_Sc) (vq : Value) (D : va_G) (ad : Nat → Nat) (cA : Nat → ClassId) (h : eg_H) (sz : Nat) (U : State) : Prop :=
  U.heap.size = sz ∧ va_P D eg_cl (eg_w ad cA h) U.heap ∧ va_D (fun _ => True) (eg_w ad cA h) ∧ (∀ (ci : Nat) (q : vw_C), eg_cl[ci]? = some q → u_Kn U q.1 q.2.1 q.2.2 (D.1 ci) (D.2 ci)) ∧ eg_Ka cA h U ∧ eg_ST sc ad vq (va_A (eg_w ad cA h) sz) U U.heap ∧ eg_NW U
/-- and at its end -/
def eg_Post (vq : Value) (D : va_G) (ad : Nat → Nat) (cA : Nat → ClassId) (h : eg_H) (sz : Nat) (Q : Option eg_V → eg_H → Prop) (st : State) (oc : Outcome) (t : State) : Prop :=
  ∃ (r : Option eg_V) (h' : eg_H) (ad' : Nat → Nat) (cA' : Nat → ClassId), oc = .returned (r.map (eg_ev ad' vq)) ∧ Q r h' ∧ (∀ v, r = some v → eg_okV h'.1.length v) ∧ eg_okH h' ∧ va_P D eg_cl (eg_w ad' cA' h') t.heap ∧ va_D (va_A (eg_w ad cA h) sz) (eg_w ad' cA' h') ∧ eg_Ka cA' h' t ∧ (∀ k, k < h.1.length ∨ 1000000 ≤ k → ad' k = ad k) ∧ h.1.length ≤ h'.1.length ∧ va_F (va_A (eg_w ad cA h) sz) st t
/-- the contract of method t, in the pure machine's words -/
def eg_Met (l : Launch) (sc : eg_Sc) (vq : Value) (D : va_G) (d : Nat) (t : eg_T) (as : List eg_V) (h : eg_H) (mc ms : Nat) (Q : Option eg_V → eg_H → Prop) : Prop :=
  ∀ (ad : Nat → Nat) (cA : Nat → ClassId) (sz : Nat), eg_okH h → (∀ v ∈ as, eg_okV h.1.length v) → Met l t.1 (eg_ws' t) { frames := d, cells := mc, slots := ms, locals := 64 * d } (va_Pc (as.map (eg_ev ad vq)) (eg_Pre sc vq D ad cA h sz)) (fun _ => eg_Post vq D ad cA h sz Q) mc ms (va_A (eg_w ad cA h) sz)
theorem eg_Ka.moved {cA : Nat → ClassId} {h : eg_H} {u U : State} (hvm : u.vm.Alike U.vm) (hk : eg_Ka cA h u) : eg_Ka cA h U := fun a ty n ha => ⟨arrOfT_moved hvm (hk a ty n ha).1, (hk a ty n ha).2.moved hvm⟩
theorem eg_blind {sc : eg_Sc} {vq : Value} {D : va_G} {ad : Nat → Nat} {cA : Nat → ClassId} {h : eg_H} {sz : Nat} {av : List Value} : FrameBlind (va_Pc av (eg_Pre sc vq D ad cA h sz)) := by
  intro a U g mk hp
  obtain ⟨q0, q1, q2, q3, q4, q5, q6, q7⟩ := hp
  exact ⟨q0, q1, q2, q3, fun ci q hq => u_Kn_moved (u := U) (U := U.calling g mk a) (Vm.Alike.refl U.vm) (q4 ci q hq), eg_Ka.moved (u := U) (U := U.calling g mk a) (Vm.Alike.refl U.vm) q5, eg_ST.same (s := U) (U := U.calling g mk a) rfl q6, eg_NW.same (s := U) (U := U.calling g mk a) rfl q7⟩
section EGK
variable {sc : eg_Sc} {vq : Value} {p : Program} {l : Launch} {e : Env} {R : Room} {s : State} {m : MethodId} {args : Array Value} {below : List Frame} {meth : Method} {c : Code} {Q : State → Prop} {A : Nat → Prop} {D : va_G} {cc : ByteArray} {nL o n0 : Nat} {ini : Bool} {ad0 ad : Nat → Nat} {cA : Nat → ClassId} {h : eg_H} {lv : eg_L} {st : List eg_V} {H : Heap} {locs : List Loc} {ls : Array Slot} {K : eg_K} {P : List (Nat × Instr)} {pc i cz sz mc ms d : Nat}
theorem eg_St.free (F : eg_Fr p R s m args meth c A D cc nL o ini) (S : eg_St sc vq s A D nL ad0 n0 ad cA h lv st H locs ls) : ∀ q, va_A (eg_w ad cA h) H.size q → A q := by
  intro q hq
  rcases hq with ⟨k, x, hk⟩ | hq
  · exact S.2.1.2 k _ hk
  · exact F.2.2.2.2.2.1 q (Nat.le_trans S.2.2.1.1 hq)
/-- what a callee is given -/
theorem eg_St.pre (F : eg_Fr p R s m args meth c A D cc nL o ini) (S : eg_St sc vq s A D nL ad0 n0 ad cA h lv st H locs ls) {av : List Value} : ∀ U : State, U.heap = H → s.WarmedH U.vm → va_Pc av (eg_Pre sc vq D ad cA h H.size) av.toArray U := by
  intro U hU hW
  refine ⟨rfl, by rw [hU], by rw [hU]; exact S.1, S.2.1.weaken (fun _ _ _ _ => trivial), fun ci q hq => u_Kn_moved hW.alike (F.2.2.2.2.2.2.1 ci q hq), S.2.2.2.2.1.moved hW.alike, ?_, F.2.2.2.2.2.2.2.2.2.2.warm hW⟩
  rw [hU]
  exact eg_ST.warm hW ((S.2.2.2.2.2.2.2.2.1.kept S.2.2.1.2.1).narrow (S.free F))
/-- a call goes on -/
theorem eg_called {c1 z1 : Nat} {rest st0 : List eg_V} {Q1 : Option eg_V → eg_H → Prop} {stV : List Value} (F : eg_Fr p R s m args meth c A D cc nL o ini) (S : eg_St sc vq s A D nL ad0 n0 ad cA h lv st H locs ls) (k : eg_Kt K P sc vq s A D nL ad0 n0 p l e R m args below meth c Q) (hn : eg_pc P (i + 1) = some (pc + 3)) (hs : ∀ v ∈ rest, eg_okV h.1.length v)
    (hQ : ∀ r h1, Q1 r h1 → K (i + 1) lv (r.toList ++ rest) h1 (cz + c1) (sz + z1))
    (hr : va_Run p l e R s m args below meth c H locs cz sz c1 z1 (F0 m pc ls stV) (rest.map (eg_ev ad vq)) (eg_Post vq D ad cA h H.size Q1) (va_A (eg_w ad cA h) H.size)) : W p l e R s m args below meth c H locs cz sz Q (F0 m pc ls stV) := by
  intro T hT X
  obtain ⟨v, st₀, t, T', L, h0, X', hL, e1, e2, ⟨r, h', ad', cA', q1, q2, q3, q4, q5, q6, q7, q8, q9, q10⟩, stp⟩ := hr T hT X
  obtain ⟨hz, hk⟩ := q10
  rw [h0] at hz hk
  cases q1
  have hal : s.vm.Alike t.vm := by rw [← e2]; exact X'.warmed.alike
  obtain ⟨g1, g2, g3, ⟨k1, k2, k3, k4⟩, g5, g6, g7, g8, g9, g10, g11⟩ := S
  have S' : eg_St sc vq s A D nL ad0 n0 ad' cA' h' lv (r.toList ++ rest) t.heap (locs ++ L) ls := by
    refine ⟨q5, q6.weaken (fun _ q _ hq => eg_St.free F ⟨g1, g2, g3, ⟨k1, k2, k3, k4⟩, g5, g6, g7, g8, g9, g10, g11⟩ q.1 hq), ?_, ⟨k1, k2, fun j w hj => ?_, k4⟩, q7.moved hal.symm, q4, fun j w hj => eg_okV_le (g7 j w hj) q9, fun w hw => ?_, g9.ad (fun k hk => q8 k (Or.inr hk)), fun k hk => ?_, Nat.le_trans g11 q9⟩
    · refine ⟨Nat.le_trans g3.1 hz, fun q h1 h2 => ?_, fun q hq => ?_⟩
      · rw [hk q (Nat.lt_of_lt_of_le h1 g3.1) (fun z => h2 (eg_St.free F ⟨g1, g2, g3, ⟨k1, k2, k3, k4⟩, g5, g6, g7, g8, g9, g10, g11⟩ q z))]
        exact g3.2.1 q h1 h2
      · rcases List.mem_append.mp hq with h9 | h9
        · exact g3.2.2 q h9
        · exact eg_St.free F ⟨g1, g2, g3, ⟨k1, k2, k3, k4⟩, g5, g6, g7, g8, g9, g10, g11⟩ _ (hL q h9)
    · rw [eg_ev_ad (g7 j w hj) q8]; exact k3 j w hj
    · rcases List.mem_append.mp hw with h9 | h9
      · cases r with
        | none => cases h9
        | some x =>
          have : w = x := by simpa using h9
          rw [this]
          exact q3 x rfl
      · exact eg_okV_le (hs w h9) q9
    · rw [q8 k (by omega), g10 k hk]
  have hW := k _ _ _ _ _ _ _ (hQ r h' q2) hn _ _ _ _ _ S' T' (by rw [e1]) X'
  obtain ⟨t2, a1, b1⟩ := hW
  refine ⟨t2, stp t2 ?_, b1⟩
  have es : (Option.map (eg_ev ad' vq) r).toList ++ rest.map (eg_ev ad vq) = (r.toList ++ rest).map (eg_ev ad' vq) := by
    rw [List.map_append]
    congr 1
    · cases r <;> rfl
    · exact List.map_congr_left (fun w hw => (eg_ev_ad (hs w hw) q8).symm)
  rw [es]
  exact a1
end EGK
