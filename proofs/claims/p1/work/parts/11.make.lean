/-! THE BRIDGE: making, copying, static things, switches -/
section EGN
variable {sc : eg_Sc} {vq : Value} {p : Program} {l : Launch} {e : Env} {R : Room} {s : State} {m : MethodId} {args : Array Value} {below : List Frame} {meth : Method} {c : Code} {Q : State → Prop} {A : Nat → Prop} {D : va_G} {cc : ByteArray} {nL o n0 : Nat} {ini : Bool} {ad0 ad : Nat → Nat} {cA : Nat → ClassId} {h : eg_H} {lv : eg_L} {st : List eg_V} {H : Heap} {locs : List Loc} {ls : Array Slot} {K : eg_K} {P : List (Nat × Instr)} {pc i cz sz mc ms : Nat}
def eg_df : FieldType → Value
  | .long => .long (Int64.ofInt 0)
  | .object _ => .null
  | .array _ => .null
  | _ => .int (Int32.ofInt 0)
theorem eg_fv_0 (ad : Nat → Nat) (ty : FieldType) : eg_fv ad ty none 0 = eg_df ty := by cases ty <;> rfl
set_option maxRecDepth 100000 in
theorem eg_dfok : ∀ ci, ci < 12 → ∀ k, k < eg_nf ci → defaultValue (eg_fty (1000 * ci + k)) = eg_df (eg_fty (1000 * ci + k)) := by decide +kernel
theorem eg_rg_0 (ty : FieldType) : eg_rg ty 0 := by cases ty <;> first | exact True.intro | exact ⟨by omega, by omega⟩
theorem eg_St.new {sh : eg_C} {q : Nat} {cq : ClassId} {r : List eg_V} {H1 : Heap} (S : eg_St sc vq s A D nL ad0 n0 ad cA h lv st H locs ls) (hr : ∀ v ∈ r, eg_okV h.1.length v) (hlt : h.1.length < 1000000)
    (hsh : ∀ (ty : FieldType) (n : Nat), sh = .inl (ty, n) → eg_aok ty = true ∧ n < 2147483648 ∧ ArrOfT s cq ty ∧ va_RA s cq ty)
    (hP : va_P D eg_cl (eg_w (fun k => if k = h.1.length then q else ad k) (fun k => if k = h.1.length then cq else cA k) (h.1 ++ [sh], eg_z h.2.1 h.1.length none, eg_z h.2.2 h.1.length 0)) H1)
    (hD : va_D A (eg_w (fun k => if k = h.1.length then q else ad k) (fun k => if k = h.1.length then cq else cA k) (h.1 ++ [sh], eg_z h.2.1 h.1.length none, eg_z h.2.2 h.1.length 0))) (hS : va_S A s.heap H1 locs) :
    eg_St sc vq s A D nL ad0 n0 (fun k => if k = h.1.length then q else ad k) (fun k => if k = h.1.length then cq else cA k) (h.1 ++ [sh], eg_z h.2.1 h.1.length none, eg_z h.2.2 h.1.length 0) lv (.inr (.inr (some h.1.length)) :: r) H1 locs ls := by
  obtain ⟨g1, g2, g3, ⟨k1, k2, k3, k4⟩, g5, g6, g7, g8, g9, g10, g11⟩ := S
  have hl : (h.1 ++ [sh]).length = h.1.length + 1 := by simp
  have key : ∀ (a : Nat) (x : eg_C), (h.1 ++ [sh])[a]? = some x → (a ≠ h.1.length ∧ h.1[a]? = some x) ∨ (a = h.1.length ∧ x = sh) := by
    intro a x hx
    by_cases ha : a < h.1.length
    · rw [List.getElem?_append_left ha] at hx
      exact Or.inl ⟨by omega, hx⟩
    · rw [List.getElem?_append_right (by omega)] at hx
      have hz : a - h.1.length < 1 := (List.getElem?_eq_some_iff.mp hx).1
      have e : a = h.1.length := by omega
      subst e
      rw [Nat.sub_self] at hx
      cases hx
      exact Or.inr ⟨rfl, rfl⟩
  have hev : ∀ v, eg_okV h.1.length v → eg_ev (fun k => if k = h.1.length then q else ad k) vq v = eg_ev ad vq v := fun v hv => eg_ev_ad hv (fun k hk => if_neg (by omega))
  refine ⟨hP, hD, hS, ⟨k1, k2, fun j v hj => ?_, k4⟩, fun a ty n ha => ?_, ⟨fun a ty n ha => ?_, fun a ci ha k hk => ?_, fun a k b hb => ?_, by show (h.1 ++ [sh]).length ≤ 1000000; omega⟩, fun j v hj => ?_, ?_, g9.ad (fun k hk => if_neg (by omega)), fun k hk => ?_, by show n0 ≤ (h.1 ++ [sh]).length; omega⟩
  · rw [hev v (g7 j v hj)]; exact k3 j v hj
  · rcases key a _ ha with ⟨e1, e2⟩ | ⟨e1, e2⟩
    · dsimp only; rw [if_neg e1]; exact g5 a ty n e2
    · dsimp only; rw [if_pos e1]; exact (hsh ty n e2.symm).2.2
  · rcases key a _ ha with ⟨e1, e2⟩ | ⟨e1, e2⟩
    · refine ⟨(g6.1 a ty n e2).1, (g6.1 a ty n e2).2.1, fun k => ?_⟩
      show eg_rg ty (eg_z h.2.2 h.1.length 0 a k)
      rw [eg_z_ne e1]; exact (g6.1 a ty n e2).2.2 k
    · refine ⟨(hsh ty n e2.symm).1, (hsh ty n e2.symm).2.1, fun k => ?_⟩
      show eg_rg ty (eg_z h.2.2 h.1.length 0 a k)
      rw [e1, eg_z_at]; exact eg_rg_0 ty
  · show eg_rg _ (eg_z h.2.2 h.1.length 0 a k)
    rcases key a _ ha with ⟨e1, e2⟩ | ⟨e1, e2⟩
    · rw [eg_z_ne e1]; exact g6.2.1 a ci e2 k hk
    · rw [e1, eg_z_at]; exact eg_rg_0 _
  · have hb' : eg_z h.2.1 h.1.length none a k = some b := hb
    show b < (h.1 ++ [sh]).length ∨ 1000000 ≤ b
    unfold eg_z at hb'
    split at hb'
    · cases hb'
    · have := g6.2.2.1 a k b hb'; omega
  · exact eg_okV_le (g7 j v hj) (by show h.1.length ≤ (h.1 ++ [sh]).length; omega)
  · refine List.forall_mem_cons.mpr ⟨Or.inl (by show h.1.length < (h.1 ++ [sh]).length; omega), fun v hv => eg_okV_le (hr v hv) (by show h.1.length ≤ (h.1 ++ [sh]).length; omega)⟩
  · rw [← g10 k hk]; exact if_neg (by omega)
theorem eg_map_new {q n : Nat} {r : List eg_V} (hr : ∀ v ∈ r, eg_okV n v) (hlt : n < 1000000) : (Sum.inr (Sum.inr (some n)) :: r : List eg_V).map (eg_ev (fun k => if k = n then q else ad k) vq) = .ref q :: r.map (eg_ev ad vq) := by
  rw [List.map_cons]
  congr 1
  · show Value.ref (if n = n then q else ad n) = _
    rw [if_pos rfl]
  · exact List.map_congr_left (fun v hv => eg_ev_ad (hr v hv) (fun k hk => if_neg (by omega)))
theorem eg_c_new (F : eg_Fr p R s m args meth c A D cc nL o ini) (S : eg_St sc vq s A D nL ad0 n0 ad cA h lv st H locs ls) (k : eg_Kt K P sc vq s A D nL ad0 n0 p l e R m args below meth c Q) (hmc : mc ≤ R.cells) (hms : ms ≤ R.slots) {n ci : Nat} {C : String} {T : u_T} {N : Nat} (hq : eg_cl[ci]? = some (C, T, N)) (hw : Cond.classLink (eg_on.getD o "") n C ∈ eg_gw) (hw2 : Cond.instantiable C N ∈ eg_gw) (hw3 : Cond.initialized C ∈ eg_gw) (hd : decode cc pc = .ok (.new n, 3)) (hn : eg_pc P (i + 1) = some (pc + 3))
    (hi : h.1.length < 1000000 ∧ cz + 1 ≤ mc ∧ sz + eg_nf ci ≤ ms ∧ K (i + 1) lv (.inr (.inr (some h.1.length)) :: st) (h.1 ++ [.inr ci], eg_z h.2.1 h.1.length none, eg_z h.2.2 h.1.length 0) (cz + 1) (sz + eg_nf ci)) : W p l e R s m args below meth c H locs cz sz Q (F0 m pc ls (st.map (eg_ev ad vq))) := by
  obtain ⟨hlt, h1, h2, hi⟩ := hi
  have hN : eg_nf ci = N := by unfold eg_nf; rw [hq]; rfl
  have hci : ci < 12 := (List.getElem?_eq_some_iff.mp hq).1
  refine va_new (D := D) (cl := eg_cl) (ci := ci) (C := C) (T := T) (N := N) (fs := (List.range (eg_nf ci)).map (fun k => eg_df (eg_fty (1000 * ci + k)))) F.1 F.2.1 F.2.2.2.2.1 (eg_cls hq).1 (fun k => eg_fty (1000 * ci + k)) (eg_cls hq).2.1 F.2.2.2.1 (F.2.2.2.2.1 _ hw) (F.2.2.2.2.1 _ hw2) (F.2.2.2.2.1 _ hw3) (eg_K0 F) S.1 S.2.1 S.2.2.1 F.2.2.2.2.2.1 hq (fun j hj => ?_) (by omega) (by omega) hd (fun q H1 hP hD hS => ?_)
  · show defaultValue (eg_fty (1000 * ci + j)) = vp_V _ j
    unfold vp_V
    rw [List.getD_eq_getElem?_getD, eg_rget (by omega), eg_dfok ci hci j (by omega)]
    rfl
  · have e := eg_w_new (ad := ad) (cA := cA) (sh := .inr ci) (q := q) (cq := cA 0) S.2.2.2.2.2.1 hlt
    have e2 : eg_e (fun k => if k = h.1.length then q else ad k) (fun k => if k = h.1.length then cA 0 else cA k) (h.1 ++ [.inr ci], eg_z h.2.1 h.1.length none, eg_z h.2.2 h.1.length 0) h.1.length (.inr ci) = .inr (ci, (List.range (eg_nf ci)).map (fun k => eg_df (eg_fty (1000 * ci + k)))) := by
      show (Sum.inr (ci, (List.range (eg_nf ci)).map (fun k' => eg_fv (fun k => if k = h.1.length then q else ad k) (eg_fty (1000 * ci + k')) (eg_z h.2.1 h.1.length none h.1.length k') (eg_z h.2.2 h.1.length 0 h.1.length k'))) : va_E) = _
      congr 2
      refine List.map_congr_left (fun k _ => ?_)
      rw [eg_z_at, eg_z_at, eg_fv_0]
    rw [e2] at e
    rw [← e] at hP hD
    rw [← hN, ← eg_map_new S.sok hlt]
    exact k _ _ _ _ _ _ _ hi hn _ _ _ _ _ (S.new S.sok hlt (fun ty n z => by cases z) hP hD hS)
theorem eg_arr_in {ty : FieldType} (hty : eg_aok ty = true) : Cond.arrayClass ty ∈ eg_gw := by
  have h := List.all_eq_true.mp eg_arr
  cases ty <;> first | cases hty; done | exact eg_gw_in (eg_tb_in (of_decide_eq_true (h _ (by simp)))) rfl
theorem eg_aty_of (a : ArrayType) : newarray.typeOf a = eg_aty a := by cases a <;> rfl
theorem eg_c_newarray (F : eg_Fr p R s m args meth c A D cc nL o ini) (S : eg_St sc vq s A D nL ad0 n0 ad cA h lv st H locs ls) (k : eg_Kt K P sc vq s A D nL ad0 n0 p l e R m args below meth c Q) (hmc : mc ≤ R.cells) (hms : ms ≤ R.slots) {at' : ArrayType} (hok : eg_aok (eg_aty at') = true) (hd : decode cc pc = .ok (.newarray at', 2)) (hn : eg_pc P (i + 1) = some (pc + 2))
    (hi : eg_pi st fun n st => h.1.length < 1000000 ∧ 0 ≤ n ∧ n ≤ 60000000 ∧ cz + 1 ≤ mc ∧ sz + n.toNat ≤ ms ∧ K (i + 1) lv (.inr (.inr (some h.1.length)) :: st) (h.1 ++ [.inl (eg_aty at', n.toNat)], eg_z h.2.1 h.1.length none, eg_z h.2.2 h.1.length 0) (cz + 1) (sz + n.toNat)) : W p l e R s m args below meth c H locs cz sz Q (F0 m pc ls (st.map (eg_ev ad vq))) := by
  obtain ⟨n, r, rfl, g0⟩ := eg_pi_of hi
  obtain ⟨hlt, h0, h3, h1, h2, hi⟩ := g0
  obtain ⟨hx, hs⟩ := List.forall_mem_cons.mp S.sok
  have hcb : n.toNat * componentBytes (eg_aty at') ≤ 536870912 := by
    have : componentBytes (eg_aty at') ≤ 8 := by cases at' <;> decide
    have h4 : n.toNat ≤ 60000000 := by omega
    calc n.toNat * componentBytes (eg_aty at') ≤ 60000000 * 8 := Nat.mul_le_mul h4 this
      _ ≤ 536870912 := by decide
  refine va_newa (D := D) (cl := eg_cl) (N' := n.toNat) (a0 := eg_ar (eg_aty at') n.toNat (fun _ => 0)) F.1 F.2.1 (F.2.2.2.2.1 _ (by rw [eg_aty_of]; exact eg_arr_in hok)) (eg_aty_of at') (eg_K0 F) S.1 S.2.1 S.2.2.1 F.2.2.2.2.2.1 (fun c9 => ?_) (fun z => ?_) (eg_cl32 hx) hcb (by omega) (by omega) hd (fun q c9 H1 hK hP hD hS => ?_)
  · cases at' <;> first | rfl | cases hok
  · have z2 : Int32.ofInt n < Int32.ofInt 0 := z
    rw [eg_lt32 hx ⟨by omega, by omega⟩] at z2
    omega
  · have e := eg_w_new (ad := ad) (cA := cA) (sh := .inl (eg_aty at', n.toNat)) (q := q) (cq := c9) S.2.2.2.2.2.1 hlt
    have e2 : eg_e (fun k => if k = h.1.length then q else ad k) (fun k => if k = h.1.length then c9 else cA k) (h.1 ++ [.inl (eg_aty at', n.toNat)], eg_z h.2.1 h.1.length none, eg_z h.2.2 h.1.length 0) h.1.length (.inl (eg_aty at', n.toNat)) = .inl (c9, eg_ar (eg_aty at') n.toNat (fun _ => 0)) := by
      show (Sum.inl ((if h.1.length = h.1.length then c9 else cA h.1.length), eg_ar (eg_aty at') n.toNat (eg_z h.2.2 h.1.length 0 h.1.length)) : va_E) = _
      rw [if_pos rfl, show eg_z h.2.2 h.1.length 0 h.1.length = (fun _ => 0) from funext (fun j => eg_z_at)]
    rw [e2] at e
    rw [← e] at hP hD
    rw [← eg_map_new hs hlt]
    refine k _ _ _ _ _ _ _ hi hn _ _ _ _ _ (S.new hs hlt (fun ty n' z => ?_) hP hD hS)
    cases z
    exact ⟨hok, by omega, hK.2 0 _ rfl⟩
theorem eg_c_objinit (F : eg_Fr p R s m args meth c A D cc nL o ini) (S : eg_St sc vq s A D nL ad0 n0 ad cA h lv st H locs ls) (k : eg_Kt K P sc vq s A D nL ad0 n0 p l e R m args below meth c Q) {n : Nat} (hw : Cond.methodLink (eg_on.getD o "") n objectInit ∈ eg_gw) (hd : decode cc pc = .ok (.invokespecial n, 3)) (hn : eg_pc P (i + 1) = some (pc + 3)) (hi : eg_pr st fun _ st => eg_wds st ≤ 8 ∧ K (i + 1) lv st h cz sz) : W p l e R s m args below meth c H locs cz sz Q (F0 m pc ls (st.map (eg_ev ad vq))) := by
  obtain ⟨a, r, rfl, g0⟩ := eg_pr_of hi
  obtain ⟨-, hs⟩ := List.forall_mem_cons.mp S.sok
  have ho := eg_sub_in _ _ eg_one
  have hc := eg_cats ad S.qv r
  refine W.objInit F.1 F.2.1 F.2.2.2.1 (F.2.2.2.2.1 _ hw) (F.2.2.2.2.1 _ (eg_gw_in (eg_tb_in (ho _ (by simp))) rfl)) (F.2.2.2.2.1 _ (eg_gw_in (eg_tb_in (ho _ (by simp))) rfl)) rfl (by rw [F.2.2.1]; exact S.2.2.2.1.1) rfl hd F.2.2.2.2.2.2.2.1 (by
    show 2 * 0 + ((r.map (eg_ev ad vq)).map fun v => v.category).sum + 12 ≤ R.locals
    have := F.2.2.2.2.2.2.2.2.1
    omega) ?_
  exact eg_go (lv' := lv) k g0.2 hn S hs
theorem eg_c_getstatic (F : eg_Fr p R s m args meth c A D cc nL o ini) (S : eg_St sc vq s A D nL ad0 n0 ad cA h lv st H locs ls) (k : eg_Kt K P sc vq s A D nL ad0 n0 p l e R m args below meth c Q) {n j : Nat} {v : eg_V} (hv : eg_ss j = some v) (hw : Cond.fieldLink (eg_on.getD o "") n (eg_stn.getD j ("", "", "")).1 (eg_stn.getD j ("", "", "")).2.1 (eg_stn.getD j ("", "", "")).2.2 ∈ eg_gw ∨ Cond.fieldLinkNest (eg_on.getD o "") n (eg_stn.getD j ("", "", "")).1 (eg_stn.getD j ("", "", "")).2.1 (eg_stn.getD j ("", "", "")).2.2 "WeakScheme" ∈ lw_tbl) (hd : decode cc pc = .ok (.getstatic n, 3)) (hn : eg_pc P (i + 1) = some (pc + 3)) (hi : K (i + 1) lv (v :: st) h cz sz) : W p l e R s m args below meth c H locs cz sz Q (F0 m pc ls (st.map (eg_ev ad vq))) := by
  have hZ := S.2.2.2.2.2.2.2.2.1.2.2.2.1 j v hv
  have hgo := eg_go (lv' := lv) k hi hn S (List.forall_mem_cons.mpr ⟨eg_okV_le (eg_ss_v hv) (Nat.zero_le _), S.sok⟩)
  rcases hw with hw | hw
  · exact va_gets F.1 F.2.1 hZ S.2.2.1 F.2.2.2.1 (F.2.2.2.2.1 _ hw) (fun _ h9 => h9) hd hgo
  · exact va_getsN F.1 F.2.1 hZ S.2.2.1 F.2.2.2.1 (va_Nw.use rfl (F.2.2.2.2.2.2.2.2.2.2 _ hw rfl)) (fun _ h9 => h9) hd hgo
theorem eg_c_getx (F : eg_Fr p R s m args meth c A D cc nL o ini) (S : eg_St sc vq s A D nL ad0 n0 ad cA h lv st H locs ls) (k : eg_Kt K P sc vq s A D nL ad0 n0 p l e R m args below meth c Q) {n f : Nat} (hw : Cond.fieldLink (eg_on.getD o "") n (eg_fn.getD f ("", "", "")).1 (eg_fn.getD f ("", "", "")).2.1 (eg_fn.getD f ("", "", "")).2.2 ∈ eg_gw) (hd : decode cc pc = .ok (.getfield n, 3)) (hn : eg_pc P (i + 1) = some (pc + 3)) (hi : eg_pr st fun a st => (match eg_sf a f with
      | some v => K (i + 1) lv (v :: st) h cz sz
      | none => False)) : W p l e R s m args below meth c H locs cz sz Q (F0 m pc ls (st.map (eg_ev ad vq))) := by
  obtain ⟨a, r, rfl, g0⟩ := eg_pr_of hi
  obtain ⟨-, hs⟩ := List.forall_mem_cons.mp S.sok
  split at g0
  · rename_i v hv
    exact vk_getf F.1 F.2.1 (S.2.2.2.2.2.2.2.2.1.2.2.1 a f v hv) S.2.2.1 F.2.2.2.1 (F.2.2.2.2.1 _ hw) (fun _ h9 => h9) hd (eg_go (lv' := lv) k g0 hn S (List.forall_mem_cons.mpr ⟨eg_okV_le (eg_sf_k hv).2 (Nat.zero_le _), hs⟩))
  · exact g0.elim
theorem eg_c_acmp (F : eg_Fr p R s m args meth c A D cc nL o ini) (S : eg_St sc vq s A D nL ad0 n0 ad cA h lv st H locs ls) (k : eg_Kt K P sc vq s A D nL ad0 n0 p l e R m args below meth c Q) {k' : Jvm.ClassFile.ACond} {off : Int} {t tgt : Nat} (ht : eg_pc P t = some tgt) (hj : (pc : Int) + off = (tgt : Int)) (hd : decode cc pc = .ok (.if_acmp k' off, 3)) (hn : eg_pc P (i + 1) = some (pc + 3)) (hi : eg_pr st fun y st => eg_pr st fun x st => eg_sc x = some 21 ∧ eg_sc y = some 21 ∧ (match (generalizing := false) k' with
      | .eq => (x = y → K t lv st h cz sz) ∧ (¬ x = y → K (i + 1) lv st h cz sz)
      | .ne => (¬ x = y → K t lv st h cz sz) ∧ (x = y → K (i + 1) lv st h cz sz))) : W p l e R s m args below meth c H locs cz sz Q (F0 m pc ls (st.map (eg_ev ad vq))) := by
  obtain ⟨y, r0, rfl, g0⟩ := eg_pr_of hi
  obtain ⟨x, r1, rfl, g1⟩ := eg_pr_of g0
  obtain ⟨hx, hy, g2⟩ := g1
  obtain ⟨-, hs⟩ := List.forall_mem_cons.mp S.sok
  obtain ⟨-, hs⟩ := List.forall_mem_cons.mp hs
  have he : some (ad x) = some (ad y) ↔ x = y := ⟨fun z => S.2.2.2.2.2.2.2.2.1.2.2.2.2.2.1 x y hx hy (Option.some.inj z), fun z => by rw [z]⟩
  cases k' with
  | eq => exact lv_acmp_eq (rx := some (ad x)) (ry := some (ad y)) F.1 F.2.1 hd hj (fun z => k _ _ _ _ _ _ _ (g2.1 (he.mp z)) ht _ _ _ _ _ (S.stk hs)) (fun z => k _ _ _ _ _ _ _ (g2.2 (fun w => z (he.mpr w))) hn _ _ _ _ _ (S.stk hs))
  | ne => exact lv_acmp_ne (rx := some (ad x)) (ry := some (ad y)) F.1 F.2.1 hd hj (fun z => k _ _ _ _ _ _ _ (g2.1 (fun w => z (he.mpr w))) ht _ _ _ _ _ (S.stk hs)) (fun z => k _ _ _ _ _ _ _ (g2.2 (he.mp z)) hn _ _ _ _ _ (S.stk hs))
theorem eg_jp_of {off t : Int} (hj : eg_jp P pc off t = true) : ∃ tgt, eg_pc P t.toNat = some tgt ∧ (pc : Int) + off = (tgt : Int) := by
  unfold eg_jp at hj
  split at hj
  · exact ⟨_, by assumption, of_decide_eq_true hj⟩
  · cases hj
theorem eg_jps_of : ∀ (os ts : List Int), eg_jps P pc os ts = true → ∀ (j : Nat), j < os.length → ∃ off t : Int, os[j]? = some off ∧ ts[j]? = some t ∧ eg_jp P pc off t = true
  | [], _, _, j, hj => absurd hj (Nat.not_lt_zero _)
  | x :: os, [], h, j, hj => by simp [eg_jps] at h
  | x :: os, t :: ts, h, j, hj => by
    unfold eg_jps at h
    rw [Bool.and_eq_true] at h
    cases j with
    | zero => exact ⟨x, t, rfl, rfl, h.1⟩
    | succ j => exact eg_jps_of os ts h.2 j (by simpa using hj)
theorem eg_c_table (F : eg_Fr p R s m args meth c A D cc nL o ini) (S : eg_St sc vq s A D nL ad0 n0 ad cA h lv st H locs ls) (k : eg_Kt K P sc vq s A D nL ad0 n0 p l e R m args below meth c Q) {d lo hi' : Int} {os : Array Int} {d' : Int} {ts : Array Int} {len : Nat} (hsz : (os.size : Int) = hi' - lo + 1) (hjd : eg_jp P pc d d' = true) (hjs : eg_jps P pc os.toList ts.toList = true) (hd : decode cc pc = .ok (.tableswitch d lo hi' os, len)) (hi : eg_pi st fun x st => K (eg_tb d' lo hi' ts x) lv st h cz sz) : W p l e R s m args below meth c H locs cz sz Q (F0 m pc ls (st.map (eg_ev ad vq))) := by
  obtain ⟨x, r0, rfl, g0⟩ := eg_pi_of hi
  obtain ⟨hx, hs⟩ := List.forall_mem_cons.mp S.sok
  unfold eg_tb at g0
  by_cases hc : x < lo ∨ hi' < x
  · rw [if_pos hc] at g0
    obtain ⟨tgt, ht, hj⟩ := eg_jp_of hjd
    exact lv_tableOut F.1 F.2.1 hd (by rw [eg_t32c hx]; exact hc) hj (k _ _ _ _ _ _ _ g0 ht _ _ _ _ _ (S.stk hs))
  · rw [if_neg hc] at g0
    have hlen : (x - lo).toNat < os.toList.length := by rw [Array.length_toList]; omega
    obtain ⟨off, t, h1, h2, h3⟩ := eg_jps_of _ _ hjs _ hlen
    obtain ⟨tgt, ht, hj⟩ := eg_jp_of h3
    rw [← Array.getElem?_toList, h2] at g0
    exact lv_tableIn F.1 F.2.1 hd (by rw [eg_t32c hx]; omega) (by rw [eg_t32c hx]; omega) (by rw [eg_t32c hx, ← Array.getElem?_toList]; exact h1) hj (k _ _ _ _ _ _ _ g0 ht _ _ _ _ _ (S.stk hs))
theorem eg_jpl_of {d d' x : Int} (hjd : eg_jp P pc d d' = true) : ∀ (os ts : List (Int × Int)), eg_jpl P pc os ts = true → ∃ tgt, eg_pc P (eg_lt d' ts x) = some tgt ∧ (pc : Int) + Op.lookupswitch.offset os d x = (tgt : Int)
  | [], [], _ => eg_jp_of hjd
  | [], t :: ts, h => by simp [eg_jpl] at h
  | q :: os, [], h => by simp [eg_jpl] at h
  | (a, off) :: os, (b, t) :: ts, h => by
    unfold eg_jpl at h
    rw [Bool.and_eq_true, Bool.and_eq_true] at h
    have hab : a = b := of_decide_eq_true h.1.1
    subst hab
    unfold eg_lt
    rw [Op.lookupswitch.offset_cons]
    by_cases hx : x = a
    · rw [if_pos hx, if_pos hx.symm]; exact eg_jp_of h.1.2
    · rw [if_neg hx, if_neg (Ne.symm hx)]; exact eg_jpl_of hjd os ts h.2
theorem eg_c_lookup (F : eg_Fr p R s m args meth c A D cc nL o ini) (S : eg_St sc vq s A D nL ad0 n0 ad cA h lv st H locs ls) (k : eg_Kt K P sc vq s A D nL ad0 n0 p l e R m args below meth c Q) {d : Int} {os : Array (Int × Int)} {d' : Int} {ts : Array (Int × Int)} {len : Nat} (hp : (os.toList.zip (os.toList.drop 1)).all (fun (a, next) => a.1 < next.1) = true) (hjd : eg_jp P pc d d' = true) (hjs : eg_jpl P pc os.toList ts.toList = true) (hd : decode cc pc = .ok (.lookupswitch d os, len)) (hi : eg_pi st fun x st => K (eg_lt d' ts.toList x) lv st h cz sz) : W p l e R s m args below meth c H locs cz sz Q (F0 m pc ls (st.map (eg_ev ad vq))) := by
  obtain ⟨x, r0, rfl, g0⟩ := eg_pi_of hi
  obtain ⟨hx, hs⟩ := List.forall_mem_cons.mp S.sok
  obtain ⟨tgt, ht, hj⟩ := eg_jpl_of (x := x) hjd _ _ hjs
  exact lv_lookup F.1 F.2.1 hd hp (by rw [eg_t32c hx]) hj (k _ _ _ _ _ _ _ g0 ht _ _ _ _ _ (S.stk hs))
end EGN
