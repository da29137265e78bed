/-! STATIC THINGS, and the relation between a pure state and a frame -/
def eg_ST (sc : eg_Sc) (ad : Nat → Nat) (vq : Value) (A : Nat → Prop) (U : State) (H : Heap) : Prop :=
  (∀ (k : Nat) (ty : FieldType) (N : Nat) (f : Nat → eg_V), eg_sa sc k = some (ty, N, f) → va_T ty (ad k) N (fun j => eg_ev ad vq (f j)) A U H ∧ N < 2147483648 ∧ ∀ j, eg_okV 0 (f j)) ∧
  (∀ (k o : Nat), eg_sc k = some o → va_O (eg_on.getD o "") (ad k) A U H) ∧
  (∀ (k f : Nat) (v : eg_V), eg_sf k f = some v → va_OF (eg_fn.getD f ("", "", "")).1 (eg_fn.getD f ("", "", "")).2.1 (eg_fn.getD f ("", "", "")).2.2 (eg_ev ad vq v) (ad k) A U H) ∧
  (∀ (n : Nat) (v : eg_V), eg_ss n = some v → va_Z (eg_stn.getD n ("", "", "")).1 (eg_stn.getD n ("", "", "")).2.1 (eg_stn.getD n ("", "", "")).2.2 (eg_ev ad vq v) A U H) ∧
  (∀ (i : Nat), i < 12 → vk_R (eg_sn.getD i ("", 0)).1 (eg_sn.getD i ("", 0)).2 (eg_stx.getD i "") (ad (1000200 + i)) U) ∧
  (∀ x y : Nat, eg_sc x = some 21 → eg_sc y = some 21 → ad x = ad y → x = y) ∧ (vq = .null ∨ ∃ a, vq = .ref a)
theorem eg_sa_k {sc : eg_Sc} {k : Nat} {q : FieldType × Nat × (Nat → eg_V)} (h : eg_sa sc k = some q) : 1000000 ≤ k := by
  unfold eg_sa at h
  by_cases hk : k < 1000000
  · rw [if_pos hk] at h; cases h
  · omega
theorem eg_sc_k {k o : Nat} (h : eg_sc k = some o) : 1000000 ≤ k := by
  unfold eg_sc at h
  split at h
  · omega
  · split at h
    · omega
    · cases h
theorem eg_sf_k {k f : Nat} {v : eg_V} (h : eg_sf k f = some v) : 1000000 ≤ k ∧ eg_okV 0 v := by
  unfold eg_sf at h
  split at h
  · refine ⟨by omega, ?_⟩
    split at h <;> first | (cases h; exact Or.inr (by show 1000000 ≤ 1000200 + _; omega)) | (cases h; exact ⟨by omega, by omega⟩) | cases h
  · split at h
    · refine ⟨by omega, ?_⟩
      split at h <;> first | (cases h; exact Or.inr (by show 1000000 ≤ k + 100; omega)) | (cases h; exact ⟨by omega, by omega⟩) | cases h
    · cases h
theorem eg_ss_v {n : Nat} {v : eg_V} (h : eg_ss n = some v) : eg_okV 0 v := by
  unfold eg_ss at h
  split at h <;> first | (cases h; exact ⟨by omega, by omega⟩) | (cases h; exact True.intro) | (cases h; exact Or.inr (by show 1000000 ≤ _; omega)) | cases h
theorem eg_okV_le {n m : Nat} {v : eg_V} (h : eg_okV n v) (hm : n ≤ m) : eg_okV m v := by
  match v, h with
  | .inl x, h => exact h
  | .inr (.inl x), h => exact h
  | .inr (.inr (some k)), h => exact h.elim (fun h => Or.inl (by omega)) Or.inr
  | .inr (.inr none), h => exact h
theorem eg_ev_ad {ad ad' : Nat → Nat} {vq : Value} {n : Nat} {v : eg_V} (h : eg_okV n v) (he : ∀ k, k < n ∨ 1000000 ≤ k → ad' k = ad k) : eg_ev ad' vq v = eg_ev ad vq v := by
  match v, h with
  | .inl x, h => rfl
  | .inr (.inl x), h => rfl
  | .inr (.inr (some k)), h => show Value.ref (ad' k) = Value.ref (ad k); rw [he k h]
  | .inr (.inr none), h => rfl
theorem eg_ST.ad {sc : eg_Sc} {ad ad' : Nat → Nat} {vq : Value} {A : Nat → Prop} {U : State} {H : Heap} (h : eg_ST sc ad vq A U H) (he : ∀ k, 1000000 ≤ k → ad' k = ad k) : eg_ST sc ad' vq A U H := by
  obtain ⟨h1, h2, h3, h4, h5, h6, h7⟩ := h
  have he0 : ∀ k, k < 0 ∨ 1000000 ≤ k → ad' k = ad k := fun k hk => he k (by omega)
  refine ⟨fun k ty N f hk => ?_, fun k o hk => ?_, fun k f v hk => ?_, fun n v hk => ?_, fun i hi => ?_, fun x y hx hy e => ?_, h7⟩
  · obtain ⟨a, b, c⟩ := h1 k ty N f hk
    refine ⟨?_, b, c⟩
    rw [he k (eg_sa_k hk), show (fun j => eg_ev ad' vq (f j)) = (fun j => eg_ev ad vq (f j)) from funext (fun j => eg_ev_ad (c j) he0)]
    exact a
  · rw [he k (eg_sc_k hk)]; exact h2 k o hk
  · rw [he k (eg_sf_k hk).1, eg_ev_ad (eg_sf_k hk).2 he0]; exact h3 k f v hk
  · rw [eg_ev_ad (eg_ss_v hk) he0]; exact h4 n v hk
  · rw [he _ (by omega)]; exact h5 i hi
  · exact h6 x y hx hy (by rw [← he x (eg_sc_k hx), ← he y (eg_sc_k hy)]; exact e)
theorem eg_ST.kept {sc : eg_Sc} {ad : Nat → Nat} {vq : Value} {A : Nat → Prop} {U : State} {H H1 : Heap} (h : eg_ST sc ad vq A U H) (hq : ∀ a : Nat, a < H.size → ¬ A a → H1[a]? = H[a]?) : eg_ST sc ad vq A U H1 := by
  obtain ⟨h1, h2, h3, h4, h5, h6, h7⟩ := h
  exact ⟨fun k ty N f hk => ⟨(h1 k ty N f hk).1.kept hq, (h1 k ty N f hk).2⟩, fun k o hk => (h2 k o hk).kept hq, fun k f v hk => (h3 k f v hk).kept hq, fun n v hk => (h4 n v hk).kept hq, h5, h6, h7⟩
theorem eg_ST.narrow {sc : eg_Sc} {ad : Nat → Nat} {vq : Value} {A B : Nat → Prop} {U : State} {H : Heap} (h : eg_ST sc ad vq A U H) (hAB : ∀ q, B q → A q) : eg_ST sc ad vq B U H := by
  obtain ⟨h1, h2, h3, h4, h5, h6, h7⟩ := h
  exact ⟨fun k ty N f hk => ⟨(h1 k ty N f hk).1.narrow hAB, (h1 k ty N f hk).2⟩, fun k o hk => (h2 k o hk).narrow hAB, fun k f v hk => (h3 k f v hk).narrow hAB, fun n v hk => (h4 n v hk).narrow hAB, h5, h6, h7⟩
theorem eg_ST.warm {sc : eg_Sc} {ad : Nat → Nat} {vq : Value} {A : Nat → Prop} {s U : State} {H : Heap} (hW : s.WarmedH U.vm) (h : eg_ST sc ad vq A s H) : eg_ST sc ad vq A U H := by
  obtain ⟨h1, h2, h3, h4, h5, h6, h7⟩ := h
  exact ⟨fun k ty N f hk => ⟨va_T.moved hW.alike (h1 k ty N f hk).1, (h1 k ty N f hk).2⟩, fun k o hk => va_O.moved hW.alike (h2 k o hk), fun k f v hk => va_OF.moved hW.alike (h3 k f v hk), fun n v hk => va_Z.moved hW.alike (h4 n v hk), fun i hi => vk_R.warm hW (h5 i hi), h6, h7⟩
theorem eg_ST.same {sc : eg_Sc} {ad : Nat → Nat} {vq : Value} {A : Nat → Prop} {s U : State} {H : Heap} (hv : U.vm = s.vm) (h : eg_ST sc ad vq A s H) : eg_ST sc ad vq A U H := by
  obtain ⟨h1, h2, h3, h4, h5, h6, h7⟩ := h
  have ha : s.vm.Alike U.vm := by rw [hv]; exact Vm.Alike.refl s.vm
  exact ⟨fun k ty N f hk => ⟨va_T.moved ha (h1 k ty N f hk).1, (h1 k ty N f hk).2⟩, fun k o hk => va_O.moved ha (h2 k o hk), fun k f v hk => va_OF.moved ha (h3 k f v hk), fun n v hk => va_Z.moved ha (h4 n v hk), fun i hi => vk_R.same hv (h5 i hi), h6, h7⟩
/-- the words that a call hands on; those of nest mates go by themselves -/
def eg_gw : List Cond := lw_tbl.filter (fun w => !eg_isn w)
def eg_isnst : Cond → Bool
  | .fieldLinkNest _ _ _ _ _ _ => true
  | .methodLinkNest _ _ _ _ => true
  | _ => false
def eg_NW (U : State) : Prop := ∀ w ∈ lw_tbl, eg_isnst w = true → va_Nw w U
theorem eg_NW.warm {s U : State} (hW : s.WarmedH U.vm) (h : eg_NW s) : eg_NW U := by
  intro w hw hn
  have h1 := h w hw hn
  cases w <;> first | exact va_Nw.warmF hW h1 | exact va_Nw.warmM hW h1 | (exact absurd hn (by simp [eg_isnst]))
theorem eg_NW.same {s U : State} (hv : s.vm = U.vm) (h : eg_NW s) : eg_NW U := by
  intro w hw hn
  have h1 := h w hw hn
  refine va_Nw.same ?_ hv h1
  cases w <;> first | rfl | (exact absurd hn (by simp [eg_isnst]))
theorem eg_gw_in {w : Cond} (hw : w ∈ lw_tbl) (hn : eg_isn w = false) : w ∈ eg_gw := List.mem_filter.mpr ⟨hw, by rw [hn]; rfl⟩
theorem eg_tb_in {w : Cond} (hw : w ∈ tables_1) : w ∈ lw_tbl := List.mem_append_right _ hw
theorem eg_gw_good : ∀ w ∈ eg_gw, (w.onTables && w.keeps) = true ∨ ∃ ty, w = .arrayClass ty := by
  intro w hw
  obtain ⟨h1, h2⟩ := List.mem_filter.mp hw
  have h3 := List.all_eq_true.mp eg_good w h1
  rw [Bool.or_eq_true, Bool.or_eq_true] at h3
  rcases h3 with (h3 | h3) | h3
  · rw [h3] at h2; cases h2
  · cases w <;> first | exact Or.inl rfl | (exact absurd h3 (by simp [k2_isCode]))
  · exact good_of_word h3
/-- what stays the same in a frame -/
def eg_Fr (p : Program) (R : Room) (s : State) (m : MethodId) (args : Array Value) (meth : Method) (c : Code) (A : Nat → Prop) (D : va_G) (cc : ByteArray) (nL o : Nat) (ini : Bool) : Prop :=
  p.tables.exec = Jvm.exec ∧ c.code = cc ∧ c.maxLocals = nL ∧ s.vm.findClass (eg_on.getD o "") = some m.cls ∧ (∀ w ∈ eg_gw, w.before args s = true) ∧ (∀ q, s.heap.size ≤ q → A q) ∧
  (∀ (ci : Nat) (q : vw_C), eg_cl[ci]? = some q → u_Kn s q.1 q.2.1 q.2.2 (D.1 ci) (D.2 ci)) ∧ 1 ≤ R.frames ∧ 64 ≤ R.locals ∧ (ini = true → meth.name = "<init>") ∧ eg_NW s
/-- the arrays' classes -/
def eg_Ka (cA : Nat → ClassId) (h : eg_H) (U : State) : Prop := ∀ (a : Nat) (ty : FieldType) (n : Nat), h.1[a]? = some (.inl (ty, n)) → ArrOfT U (cA a) ty ∧ va_RA U (cA a) ty
/-- the pure state beside the frame's -/
def eg_St (sc : eg_Sc) (vq : Value) (s : State) (A : Nat → Prop) (D : va_G) (nL : Nat) (ad0 : Nat → Nat) (n0 : Nat) (ad : Nat → Nat) (cA : Nat → ClassId) (h : eg_H) (lv : eg_L) (st : List eg_V) (H : Heap) (locs : List Loc) (ls : Array Slot) : Prop :=
  va_P D eg_cl (eg_w ad cA h) H ∧ va_D A (eg_w ad cA h) ∧ va_S A s.heap H locs ∧ (ls.size = nL ∧ lv_wf ls ∧ (∀ (i : Nat) (v : eg_V), lv[i]? = some (some v) → ls[i]? = some (.val (eg_ev ad vq v))) ∧ lv.length = nL) ∧
  eg_Ka cA h s ∧ eg_okH h ∧ (∀ (i : Nat) (v : eg_V), lv[i]? = some (some v) → eg_okV h.1.length v) ∧ (∀ v ∈ st, eg_okV h.1.length v) ∧ eg_ST sc ad vq A s s.heap ∧ (∀ k, k < n0 ∨ 1000000 ≤ k → ad k = ad0 k) ∧ n0 ≤ h.1.length
theorem eg_K1 {p : Program} {R : Room} {s : State} {m : MethodId} {args : Array Value} {meth : Method} {c : Code} {A : Nat → Prop} {D : va_G} {cc : ByteArray} {nL o : Nat} {ini : Bool} {cA : Nat → ClassId} {h : eg_H} (F : eg_Fr p R s m args meth c A D cc nL o ini) (hKa : eg_Ka cA h s) {a n : Nat} {ty : FieldType} (ha : h.1[a]? = some (.inl (ty, n))) : va_K D eg_cl [(cA a, ty)] s := by
  refine ⟨F.2.2.2.2.2.2.1, fun k q hk => ?_⟩
  cases k with
  | zero => cases hk; exact hKa a ty n ha
  | succ k => simp at hk
theorem eg_K0 {p : Program} {R : Room} {s : State} {m : MethodId} {args : Array Value} {meth : Method} {c : Code} {A : Nat → Prop} {D : va_G} {cc : ByteArray} {nL o : Nat} {ini : Bool} (F : eg_Fr p R s m args meth c A D cc nL o ini) : va_K D eg_cl [] s := ⟨F.2.2.2.2.2.2.1, fun k q hk => by simp at hk⟩
/-- what is known of going on -/
def eg_Kt (K : eg_K) (P : List (Nat × Instr)) (sc : eg_Sc) (vq : Value) (s : State) (A : Nat → Prop) (D : va_G) (nL : Nat) (ad0 : Nat → Nat) (n0 : Nat) (p : Program) (l : Launch) (e : Env) (R : Room) (m : MethodId) (args : Array Value) (below : List Frame) (meth : Method) (c : Code) (Q : State → Prop) : Prop :=
  ∀ (i : Nat) (lv : eg_L) (st : List eg_V) (h : eg_H) (cz sz pc : Nat), K i lv st h cz sz → eg_pc P i = some pc → ∀ (ad : Nat → Nat) (cA : Nat → ClassId) (H : Heap) (locs : List Loc) (ls : Array Slot), eg_St sc vq s A D nL ad0 n0 ad cA h lv st H locs ls → W p l e R s m args below meth c H locs cz sz Q (F0 m pc ls (st.map (eg_ev ad vq)))
section EGS
variable {sc : eg_Sc} {vq : Value} {p : Program} {l : Launch} {e : Env} {R : Room} {s : State} {m : MethodId} {args : Array Value} {below : List Frame} {meth : Method} {c : Code} {Q : State → Prop} {A : Nat → Prop} {D : va_G} {nL n0 : Nat} {ad0 ad : Nat → Nat} {cA : Nat → ClassId} {h : eg_H} {lv : eg_L} {st : List eg_V} {H : Heap} {locs : List Loc} {ls : Array Slot} {K : eg_K} {P : List (Nat × Instr)} {i cz sz : Nat}
theorem eg_St.stk {st' : List eg_V} (S : eg_St sc vq s A D nL ad0 n0 ad cA h lv st H locs ls) (hs : ∀ v ∈ st', eg_okV h.1.length v) : eg_St sc vq s A D nL ad0 n0 ad cA h lv st' H locs ls := by
  obtain ⟨h1, h2, h3, h4, h5, h6, h7, h8, h9⟩ := S
  exact ⟨h1, h2, h3, h4, h5, h6, h7, hs, h9⟩
/-- only the stack has changed -/
theorem eg_go {lv' : eg_L} {st' : List eg_V} {pc' : Nat} (k : eg_Kt K P sc vq s A D nL ad0 n0 p l e R m args below meth c Q) (hi : K i lv st' h cz sz) (hn : eg_pc P i = some pc') (S : eg_St sc vq s A D nL ad0 n0 ad cA h lv st H locs ls) (hs : ∀ v ∈ st', eg_okV h.1.length v) : W p l e R s m args below meth c H locs cz sz Q (F0 m pc' ls (st'.map (eg_ev ad vq))) :=
  k i lv st' h cz sz pc' hi hn ad cA H locs ls (S.stk hs)
theorem eg_pi_of {st : List eg_V} {K : Int → List eg_V → Prop} (h : eg_pi st K) : ∃ (x : Int) (r : List eg_V), st = .inl x :: r ∧ K x r := by
  unfold eg_pi at h
  split at h
  · exact ⟨_, _, rfl, h⟩
  · exact h.elim
theorem eg_pl_of {st : List eg_V} {K : Int → List eg_V → Prop} (h : eg_pl st K) : ∃ (x : Int) (r : List eg_V), st = .inr (.inl x) :: r ∧ K x r := by
  unfold eg_pl at h
  split at h
  · exact ⟨_, _, rfl, h⟩
  · exact h.elim
theorem eg_pr_of {st : List eg_V} {K : Nat → List eg_V → Prop} (h : eg_pr st K) : ∃ (x : Nat) (r : List eg_V), st = .inr (.inr (some x)) :: r ∧ K x r := by
  unfold eg_pr at h
  split at h
  · exact ⟨_, _, rfl, h⟩
  · exact h.elim
theorem eg_po_of {st : List eg_V} {K : eg_V → List eg_V → Prop} (h : eg_po st K) : ∃ (v : eg_V) (r : List eg_V), st = v :: r ∧ eg_wd v = 1 ∧ K v r := by
  unfold eg_po at h
  split at h
  · exact ⟨_, _, rfl, rfl, h⟩
  · exact ⟨_, _, rfl, rfl, h⟩
  · exact h.elim
theorem eg_li_of {lv : eg_L} {k : Nat} {K : Int → Prop} (h : eg_li lv k K) : ∃ x : Int, lv[k]? = some (some (.inl x)) ∧ K x := by
  unfold eg_li at h
  split at h
  · exact ⟨_, by assumption, h⟩
  · exact h.elim
theorem eg_ll_of {lv : eg_L} {k : Nat} {K : Int → Prop} (h : eg_ll lv k K) : ∃ x : Int, lv[k]? = some (some (.inr (.inl x))) ∧ K x := by
  unfold eg_ll at h
  split at h
  · exact ⟨_, by assumption, h⟩
  · exact h.elim
theorem eg_lr_of {lv : eg_L} {k : Nat} {K : Nat → Prop} (h : eg_lr lv k K) : ∃ x : Nat, lv[k]? = some (some (.inr (.inr (some x)))) ∧ K x := by
  unfold eg_lr at h
  split at h
  · exact ⟨_, by assumption, h⟩
  · exact h.elim
theorem eg_cat (v : eg_V) (ad : Nat → Nat) (hq : vq = .null ∨ ∃ a, vq = .ref a) : (eg_ev ad vq v).category = eg_wd v := by
  match v with
  | .inl x => rfl
  | .inr (.inl x) => rfl
  | .inr (.inr (some k)) => rfl
  | .inr (.inr none) => rcases hq with rfl | ⟨a, rfl⟩ <;> rfl
theorem eg_cats (ad : Nat → Nat) (hq : vq = .null ∨ ∃ a, vq = .ref a) : ∀ st : List eg_V, ((st.map (eg_ev ad vq)).map fun v => v.category).sum = eg_wds st
  | [] => rfl
  | v :: r => by
    simp only [List.map_cons, List.sum_cons, eg_wds]
    rw [eg_cat v ad hq, ← eg_cats ad hq r]
/-- the locals as the kit's list -/
def eg_lst (ad : Nat → Nat) (vq : Value) (lv : eg_L) : List (Nat × Value) := (List.range lv.length).filterMap (fun i => match lv[i]? with | some (some v) => some (i, eg_ev ad vq v) | _ => none)
theorem eg_lst_in {lv : eg_L} {i : Nat} {v : eg_V} (hl : lv[i]? = some (some v)) : (i, eg_ev ad vq v) ∈ eg_lst ad vq lv := by
  unfold eg_lst
  refine List.mem_filterMap.mpr ⟨i, List.mem_range.mpr (List.getElem?_eq_some_iff.mp hl).1, ?_⟩
  rw [hl]
theorem eg_lst_of {lv : eg_L} {q : Nat × Value} (hq : q ∈ eg_lst ad vq lv) : ∃ v, lv[q.1]? = some (some v) ∧ q.2 = eg_ev ad vq v := by
  unfold eg_lst at hq
  obtain ⟨i, -, hi⟩ := List.mem_filterMap.mp hq
  split at hi
  · cases hi; exact ⟨_, by assumption, rfl⟩
  · cases hi
theorem eg_St.has (S : eg_St sc vq s A D nL ad0 n0 ad cA h lv st H locs ls) : lv_has ls nL (eg_lst ad vq lv) := by
  obtain ⟨-, -, -, ⟨h1, h2, h3, -⟩, -⟩ := S
  refine ⟨h1, h2, fun q hq => ?_⟩
  obtain ⟨v, e1, e2⟩ := eg_lst_of hq
  rw [e2]
  exact h3 q.1 v e1
theorem eg_cb_at {lv : eg_L} {i j : Nat} {v : eg_V} (hj : (eg_cb lv i)[j]? = some (some v)) : lv[j]? = some (some v) ∧ ¬ (j + 1 = i ∧ eg_wd v = 2) := by
  unfold eg_cb at hj
  split at hj
  · exact ⟨hj, by omega⟩
  · rename_i i'
    split at hj
    · by_cases e : i' = j
      · subst e
        rw [List.getElem?_set_self (by
          have := (List.getElem?_eq_some_iff.mp hj).1
          simpa using this)] at hj
        cases hj
      · rw [List.getElem?_set_ne e] at hj
        exact ⟨hj, fun z => e (by omega)⟩
    · rename_i hne
      refine ⟨hj, fun z => ?_⟩
      obtain ⟨z1, z2⟩ := z
      have : j = i' := by omega
      subst this
      match v, hj, z2 with
      | .inr (.inl x), hj, _ => exact hne x hj
      | .inl x, _, z2 => cases z2
      | .inr (.inr k), _, z2 => cases z2
theorem eg_cb_len (lv : eg_L) (i : Nat) : (eg_cb lv i).length = lv.length := by
  unfold eg_cb
  split
  · rfl
  · split
    · rw [List.length_set]
    · rfl
theorem eg_St.s1 {i : Nat} {v : eg_V} {ls' : Array Slot} (S : eg_St sc vq s A D nL ad0 n0 ad cA h lv st H locs ls) (hi : i < nL) (hv : eg_okV h.1.length v) (hc : eg_wd v = 1)
    (h' : lv_has ls' nL ((i, eg_ev ad vq v) :: (eg_lst ad vq lv).filter (fun q => !(q.1 == i) && !(q.1 + 1 == i && q.2.category == 2)))) : eg_St sc vq s A D nL ad0 n0 ad cA h (eg_s1 lv i v) st H locs ls' := by
  obtain ⟨g1, g2, g3, ⟨k1, k2, k3, k4⟩, g5, g6, g7, g8, g9, g10⟩ := S
  have hq := g9.2.2.2.2.2.2
  have key : ∀ (j : Nat) (w : eg_V), (eg_s1 lv i v)[j]? = some (some w) → (j = i ∧ w = v) ∨ (j ≠ i ∧ lv[j]? = some (some w) ∧ ¬ (j + 1 = i ∧ eg_wd w = 2)) := by
    intro j w hj
    unfold eg_s1 at hj
    by_cases e : j = i
    · subst e
      rw [List.getElem?_set_self (by rw [eg_cb_len, k4]; exact hi)] at hj
      cases hj
      exact Or.inl ⟨rfl, rfl⟩
    · rw [List.getElem?_set_ne (Ne.symm e)] at hj
      exact Or.inr ⟨e, eg_cb_at hj⟩
  refine ⟨g1, g2, g3, ⟨h'.1, h'.2.1, fun j w hj => ?_, by unfold eg_s1; rw [List.length_set, eg_cb_len, k4]⟩, g5, g6, fun j w hj => ?_, g8, g9, g10⟩
  · rcases key j w hj with ⟨rfl, rfl⟩ | ⟨e1, e2, e3⟩
    · exact h'.2.2 _ List.mem_cons_self
    · refine h'.2.2 (j, eg_ev ad vq w) (List.mem_cons_of_mem _ (List.mem_filter.mpr ⟨eg_lst_in e2, ?_⟩))
      have hw := eg_cat w ad hq
      simp only [Bool.and_eq_true, Bool.not_eq_true', beq_eq_false_iff_ne, ne_eq, Bool.and_eq_false_imp, beq_iff_eq]
      refine ⟨e1, fun z => ?_⟩
      rw [hw]
      exact fun z2 => e3 ⟨z, z2⟩
  · rcases key j w hj with ⟨rfl, rfl⟩ | ⟨e1, e2, e3⟩
    · exact hv
    · exact g7 j w e2
theorem eg_St.s2 {i : Nat} {v : eg_V} {ls' : Array Slot} (S : eg_St sc vq s A D nL ad0 n0 ad cA h lv st H locs ls) (hi : i + 1 < nL) (hv : eg_okV h.1.length v)
    (h' : lv_has ls' nL ((i, eg_ev ad vq v) :: (eg_lst ad vq lv).filter (fun q => !(q.1 == i) && (!(q.1 == i + 1) && !(q.1 + 1 == i && q.2.category == 2))))) : eg_St sc vq s A D nL ad0 n0 ad cA h (eg_s2 lv i v) st H locs ls' := by
  obtain ⟨g1, g2, g3, ⟨k1, k2, k3, k4⟩, g5, g6, g7, g8, g9, g10⟩ := S
  have hq := g9.2.2.2.2.2.2
  have key : ∀ (j : Nat) (w : eg_V), (eg_s2 lv i v)[j]? = some (some w) → (j = i ∧ w = v) ∨ (j ≠ i ∧ j ≠ i + 1 ∧ lv[j]? = some (some w) ∧ ¬ (j + 1 = i ∧ eg_wd w = 2)) := by
    intro j w hj
    unfold eg_s2 at hj
    by_cases e1 : j = i + 1
    · subst e1
      rw [List.getElem?_set_self (by rw [List.length_set, eg_cb_len, k4]; exact hi)] at hj
      cases hj
    · rw [List.getElem?_set_ne (Ne.symm e1)] at hj
      by_cases e : j = i
      · subst e
        rw [List.getElem?_set_self (by rw [eg_cb_len, k4]; omega)] at hj
        cases hj
        exact Or.inl ⟨rfl, rfl⟩
      · rw [List.getElem?_set_ne (Ne.symm e)] at hj
        exact Or.inr ⟨e, e1, eg_cb_at hj⟩
  refine ⟨g1, g2, g3, ⟨h'.1, h'.2.1, fun j w hj => ?_, by unfold eg_s2; rw [List.length_set, List.length_set, eg_cb_len, k4]⟩, g5, g6, fun j w hj => ?_, g8, g9, g10⟩
  · rcases key j w hj with ⟨rfl, rfl⟩ | ⟨e1, e4, e2, e3⟩
    · exact h'.2.2 _ List.mem_cons_self
    · refine h'.2.2 (j, eg_ev ad vq w) (List.mem_cons_of_mem _ (List.mem_filter.mpr ⟨eg_lst_in e2, ?_⟩))
      have hw := eg_cat w ad hq
      simp only [Bool.and_eq_true, Bool.not_eq_true', beq_eq_false_iff_ne, ne_eq, Bool.and_eq_false_imp, beq_iff_eq]
      refine ⟨e1, e4, fun z => ?_⟩
      rw [hw]
      exact fun z2 => e3 ⟨z, z2⟩
  · rcases key j w hj with ⟨rfl, rfl⟩ | ⟨e1, e4, e2, e3⟩
    · exact hv
    · exact g7 j w e2
end EGS
