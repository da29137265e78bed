/-! THE BRIDGE: a frame, and every method by the depth of its calls -/
section EGF
variable {sc : eg_Sc} {vq : Value} {p : Program} {l : Launch} {e : Env} {R : Room} {s : State} {m : MethodId} {args : Array Value} {below : List Frame} {meth : Method} {c : Code} {Q : State → Prop} {A : Nat → Prop} {D : va_G} {cc : ByteArray} {nL o n0 : Nat} {ini : Bool} {ad0 : Nat → Nat} {P : List (Nat × Instr)} {mc ms d : Nat} {call : eg_Ca} {ret : Option FieldType} {Qr : Option eg_V → eg_H → Prop}
theorem eg_frame (F : eg_Fr p R s m args meth c A D cc nL o ini) (hck : ∀ (i : Nat) (q : Nat × Instr), P[i]? = some q → q.2 = .athrow ∨ ∃ x : Instr × Nat, decode cc q.1 = .ok x ∧ eg_mt o nL ini P q.1 i x.1 x.2 q.2 = true)
    (hR : eg_Ret sc vq s A D nL ad0 n0 p l e R m args below meth c Q cc ret mc ms Qr) (hmc : mc ≤ R.cells) (hms : ms ≤ R.slots) (hRf : d + 1 ≤ R.frames) (hRl : 64 * d + 64 ≤ R.locals)
    (IH : ∀ (j : Nat) (t : eg_T) (as : List eg_V) (h : eg_H) (mc ms : Nat) (Q : Option eg_V → eg_H → Prop), eg_tab[j]? = some t → Jvm.plainName t.1.cls = true → call j as h mc ms Q → eg_Met l sc vq D d t as h mc ms Q) :
    ∀ n, eg_Kt (eg_x sc call P ret mc ms Qr n) P sc vq s A D nL ad0 n0 p l e R m args below meth c Q := by
  intro n
  induction n with
  | zero => intro i lv st h cz sz pc hx; exact hx.elim
  | succ n ih =>
    intro i lv st h cz sz pc hx hpc ad cA H locs ls S
    have hx2 : (match P[i]? with | some q => eg_i sc call ret mc ms Qr (eg_x sc call P ret mc ms Qr n) q.2 i lv st h cz sz | none => False) := hx
    cases hq : P[i]? with
    | none => rw [hq] at hx2; exact hx2.elim
    | some q =>
      rw [hq] at hx2
      dsimp only at hx2
      have hpq : q.1 = pc := by
        unfold eg_pc at hpc
        rw [hq] at hpc
        exact Option.some.inj hpc
      subst hpq
      rcases hck i q hq with hth | ⟨x, hd, hm⟩
      · rw [hth] at hx2; exact hx2.elim
      · exact eg_disp F S ih hR hmc hms hRf hRl IH hd hm hx2
end EGF
theorem eg_en_at (ad : Nat → Nat) (vq : Value) (hq : vq = .null ∨ ∃ a, vq = .ref a) : ∀ (as : List eg_V) (n off i : Nat) (v : eg_V), (eg_en n as)[i]? = some (some v) → (off + i, eg_ev ad vq v) ∈ lv_args off (as.map (eg_ev ad vq)) ∧ v ∈ as := by
  intro as
  induction as with
  | nil =>
    intro n off i v h
    unfold eg_en at h
    have := List.mem_of_getElem? h
    simp at this
  | cons a r ih =>
    intro n off i v h
    have hc := eg_cat (vq := vq) a ad hq
    match a, h, hc with
    | .inr (.inl x), h, hc =>
      unfold eg_en at h
      rw [List.map_cons]
      unfold lv_args
      have hc2 : (eg_ev ad vq (.inr (.inl x))).category = 2 := hc
      rw [if_pos hc2]
      match i, h with
      | 0, h => cases h; exact ⟨List.mem_cons_self, List.mem_cons_self⟩
      | 1, h => cases h
      | i + 2, h =>
        have := ih (n - 2) (off + 2) i v (by simpa using h)
        refine ⟨List.mem_cons_of_mem _ ?_, List.mem_cons_of_mem _ this.2⟩
        have e : off + (i + 2) = off + 2 + i := by omega
        rw [e]
        exact this.1
    | .inl x, h, hc =>
      unfold eg_en at h
      rw [List.map_cons]
      unfold lv_args
      rw [if_neg (fun z => by rw [hc] at z; cases z)]
      match i, h with
      | 0, h => cases h; exact ⟨List.mem_cons_self, List.mem_cons_self⟩
      | i + 1, h =>
        have := ih (n - 1) (off + 1) i v (by simpa using h)
        refine ⟨List.mem_cons_of_mem _ ?_, List.mem_cons_of_mem _ this.2⟩
        have e : off + (i + 1) = off + 1 + i := by omega
        rw [e]
        exact this.1
    | .inr (.inr x), h, hc =>
      unfold eg_en at h
      rw [List.map_cons]
      unfold lv_args
      rw [if_neg (fun z => by rw [hc] at z; cases z)]
      match i, h with
      | 0, h => cases h; exact ⟨List.mem_cons_self, List.mem_cons_self⟩
      | i + 1, h =>
        have := ih (n - 1) (off + 1) i v (by simpa using h)
        refine ⟨List.mem_cons_of_mem _ ?_, List.mem_cons_of_mem _ this.2⟩
        have e : off + (i + 1) = off + 1 + i := by omega
        rw [e]
        exact this.1
theorem eg_en_len : ∀ (as : List eg_V) (n : Nat), eg_wds as ≤ n → (eg_en n as).length = n := by
  intro as
  induction as with
  | nil => intro n _; unfold eg_en; simp
  | cons a r ih =>
    intro n h
    unfold eg_wds at h
    match a, h with
    | .inr (.inl x), h =>
      have h2 : 2 + eg_wds r ≤ n := h
      unfold eg_en
      simp only [List.length_cons]
      rw [ih (n - 2) (by omega)]
      omega
    | .inl x, h =>
      have h2 : 1 + eg_wds r ≤ n := h
      unfold eg_en
      simp only [List.length_cons]
      rw [ih (n - 1) (by omega)]
      omega
    | .inr (.inr x), h =>
      have h2 : 1 + eg_wds r ≤ n := h
      unfold eg_en
      simp only [List.length_cons]
      rw [ih (n - 1) (by omega)]
      omega
theorem eg_sl_len (ad : Nat → Nat) (vq : Value) (hq : vq = .null ∨ ∃ a, vq = .ref a) : ∀ as : List eg_V, (lg_sl (as.map (eg_ev ad vq))).length = eg_wds as
  | [] => rfl
  | a :: r => by
    have ih := eg_sl_len ad vq hq r
    unfold lg_sl at ih ⊢
    rw [List.map_cons, List.flatMap_cons, List.length_append, ih]
    have hc := eg_cat (vq := vq) a ad hq
    show _ = eg_wd a + eg_wds r
    congr 1
    match a, hc with
    | .inr (.inl x), hc => have hc2 : (eg_ev ad vq (.inr (.inl x))).category = 2 := hc; rw [if_pos hc2]; rfl
    | .inl x, hc => rw [if_neg (fun z => by rw [hc] at z; cases z)]; rfl
    | .inr (.inr x), hc => rw [if_neg (fun z => by rw [hc] at z; cases z)]; rfl
theorem eg_lv0 {ls : Array Slot} {n : Nat} {l : List (Nat × Value)} (h : lv_has ls n l) {i : Nat} {v : Value} (hm : (0 + i, v) ∈ l) : ls[i]? = some (.val v) := by
  have := h.2.2 _ hm
  rwa [Nat.zero_add] at this
set_option maxHeartbeats 4000000 in
/-- EVERY METHOD KEEPS THE PURE MACHINE'S WORD -/
theorem eg_bridge (l : Launch) (sc : eg_Sc) (vq : Value) (D : va_G) : ∀ (d j : Nat) (t : eg_T) (as : List eg_V) (h : eg_H) (mc ms : Nat) (Q : Option eg_V → eg_H → Prop), eg_tab[j]? = some t → Jvm.plainName t.1.cls = true → eg_wp sc d j as h mc ms Q → eg_Met l sc vq D d t as h mc ms Q := by
  intro d
  induction d with
  | zero => intro j t as h mc ms Q _ _ hw; exact hw.elim
  | succ d ih =>
    intro j t as h mc ms Q ht hpl hw ad cA sz hok has
    have hw2 : (match eg_tab[j]? with | some t => eg_wds as ≤ t.2.2.1 ∧ ∃ n, eg_x sc (eg_wp sc d) t.2.2.2.2.2.2.2.2 t.2.2.2.1 mc ms Q n 0 (eg_en t.2.2.1 as) [] h 0 0 | none => False) := hw
    rw [ht] at hw2
    dsimp only at hw2
    obtain ⟨hwd, n, hx0⟩ := hw2
    obtain ⟨tk, -, -, to, -, -, -, ti⟩ := eg_tf ht
    unfold eg_ck at tk
    obtain ⟨tk0, tk1⟩ := eg_an2 tk
    refine Met.ofW (cc := t.2.1) (maxL := t.2.2.1) (ret := t.2.2.2.1) hpl rfl ?_
    intro p e s m args below meth c s₁ B hml hv
    obtain ⟨rfl, hsz, hP, hD0, hKn, hKa, hST, hNW⟩ := hv
    have hts := atoms_spec (ws := eg_ws' t) B.pre
    have hown : s.vm.findClass t.1.cls = some m.cls := findClass_of_methodNamed B.named
    have hname : meth.name = t.1.name := (name_of_methodNamed B.named B.method).1
    have hlocks := B.notSynchronized
    have hret := B.returns
    subst hsz
    have hqv := hST.2.2.2.2.2.2
    have hl := lv_entry (as.map (eg_ev ad vq)) (n := t.2.2.1) (by rw [eg_sl_len ad vq hqv]; exact hwd)
    rw [lg_entry_eq]
    generalize (lg_sl (as.map (eg_ev ad vq)) ++ List.replicate (t.2.2.1 - (lg_sl (as.map (eg_ev ad vq))).length) Slot.unset).toArray = ls at hl ⊢
    have F : eg_Fr p (headSpec (eg_ws' t) { frames := d + 1, cells := mc, slots := ms, locals := 64 * (d + 1) }).room s m (as.map (eg_ev ad vq)).toArray meth c (va_A (eg_w ad cA h) s.heap.size) D t.2.1 t.2.2.1 t.2.2.2.2.1 (t.2.2.2.2.2.1 == 2) := by
      refine ⟨B.exec, B.bytes, hml, ?_, fun w hw => hts w (List.mem_cons_of_mem _ hw), fun q hq => Or.inr hq, hKn, ?_, ?_, fun hi => ?_, hNW⟩
      · rw [List.getD_eq_getElem?_getD, to]; exact hown
      · show 1 ≤ d + 1; omega
      · show 64 ≤ 64 * (d + 1); omega
      · rw [hname]; exact (ti (by simpa using hi)).1
    have S : eg_St sc vq s (va_A (eg_w ad cA h) s.heap.size) D t.2.2.1 ad h.1.length ad cA h (eg_en t.2.2.1 as) [] s.heap [] ls :=
      ⟨hP, hD0.self, va_S.rf, ⟨hl.1, hl.2.1, fun i v hi => eg_lv0 hl (eg_en_at ad vq hqv as t.2.2.1 0 i v hi).1, eg_en_len as t.2.2.1 hwd⟩, hKa, hok, fun i v hi => has v (eg_en_at ad vq hqv as t.2.2.1 0 i v hi).2, (fun v hv => by cases hv), hST, fun _ _ => rfl, Nat.le_refl _⟩
    have hR : eg_Ret sc vq s (va_A (eg_w ad cA h) s.heap.size) D t.2.2.1 ad h.1.length p l e (headSpec (eg_ws' t) { frames := d + 1, cells := mc, slots := ms, locals := 64 * (d + 1) }).room m (as.map (eg_ev ad vq)).toArray below meth c (MQ below (fun _ => eg_Post vq D ad cA h s.heap.size Q) (as.map (eg_ev ad vq)).toArray s mc ms (va_A (eg_w ad cA h) s.heap.size)) t.2.1 t.2.2.2.1 mc ms Q := by
      intro raw v stk h' cz sz' pc ad' cA' H locs ls' lv hrt hd hc1 hc2 hQ S'
      refine W.widen hc1 hc2 ?_
      have post : ∀ t' : State, t'.heap = H → s.WarmedH t'.vm → (∀ w, v = some w → eg_okV h'.1.length w) → eg_Post vq D ad cA h s.heap.size Q s (.returned (v.map (eg_ev ad' vq))) t' := by
        intro t' ht' hW hvk
        exact ⟨v, h', ad', cA', rfl, hQ, hvk, S'.2.2.2.2.2.1, by rw [ht']; exact S'.1, S'.2.1, S'.2.2.2.2.1.moved hW.alike, S'.2.2.2.2.2.2.2.2.2.1, S'.2.2.2.2.2.2.2.2.2.2, S'.2.2.1.F ht'⟩
      unfold eg_Rets at hrt
      split at hrt
      · obtain ⟨x, rfl, rfl, hri⟩ := hrt
        have hx := (List.forall_mem_cons.mp S'.sok).1
        have hnar : ∃ ty, t.2.2.2.1 = some ty ∧ narrow ty (.int (Int32.ofInt x)) = .int (Int32.ofInt x) := by
          unfold eg_ri at hri
          split at hri
          · exact ⟨.int, by assumption, rfl⟩
          · exact ⟨.boolean, by assumption, eg_narZ hri⟩
          · exact ⟨.byte, by assumption, eg_narBr hri⟩
          · exact ⟨.char, by assumption, eg_narCr hri⟩
          · exact hri.elim
        obtain ⟨ty, hty, hnar⟩ := hnar
        exact W.zret B.exec B.bytes (hret.trans hty) hnar (fun t' ht' hW => post t' ht' hW (fun w hw => by cases hw; exact hx)) S'.2.2.1.2.2 hd
      · obtain ⟨x, rfl, rfl, hri⟩ := hrt
        have hx := (List.forall_mem_cons.mp S'.sok).1
        exact W.lret B.exec B.bytes (hret.trans hri) (fun t' ht' hW => post t' ht' hW (fun w hw => by cases hw; exact hx)) S'.2.2.1.2.2 hd
      · obtain ⟨x, rfl, rfl, hri⟩ := hrt
        have hx := (List.forall_mem_cons.mp S'.sok).1
        have hrr : ∃ ty, t.2.2.2.1 = some ty ∧ ((∃ n, ty = .object n) ∨ ∃ u, ty = .array u) := by
          unfold eg_rr at hri
          split at hri
          · exact ⟨_, by assumption, Or.inl ⟨_, rfl⟩⟩
          · exact ⟨_, by assumption, Or.inr ⟨_, rfl⟩⟩
          · exact hri.elim
        obtain ⟨ty, hty, hrr⟩ := hrr
        exact W.aret B.exec B.bytes (hret.trans hty) hrr (Or.inr ⟨_, rfl⟩) (fun t' ht' hW => post t' ht' hW (fun w hw => by cases hw; exact hx)) S'.2.2.1.2.2 hd
      · obtain ⟨rfl, rfl, hri⟩ := hrt
        exact W.vret B.exec B.bytes (hret.trans hri) (fun t' ht' hW => post t' ht' hW (fun w hw => by cases hw)) S'.2.2.1.2.2 hd
      · exact hrt.elim
    exact eg_frame F (fun i q hq => by
      have := eg_wk_ok _ 0 0 _ rfl tk1 i q hq
      rwa [Nat.zero_add] at this) hR (Nat.le_refl _) (Nat.le_refl _) (Nat.le_refl _) (by show 64 * d + 64 ≤ 64 * (d + 1); omega) ih n 0 _ [] h 0 0 0 hx0 (eg_dd tk0) ad cA s.heap [] ls S
