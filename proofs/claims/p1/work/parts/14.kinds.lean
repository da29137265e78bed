/-! THE BRIDGE: the calls by kind, the returns -/
section EGL
variable {sc : eg_Sc} {vq : Value} {p : Program} {l : Launch} {e : Env} {R : Room} {s : State} {m : MethodId} {args : Array Value} {below : List Frame} {meth : Method} {c : Code} {Q : State → Prop} {A : Nat → Prop} {D : va_G} {cc : ByteArray} {nL o n0 : Nat} {ini : Bool} {ad0 ad : Nat → Nat} {cA : Nat → ClassId} {h : eg_H} {lv : eg_L} {st : List eg_V} {H : Heap} {locs : List Loc} {ls : Array Slot} {K : eg_K} {P : List (Nat × Instr)} {pc i cz sz mc ms d : Nat} {call : eg_Ca}
set_option maxRecDepth 100000 in
theorem eg_on_cl : (List.range 12).all (fun ci => match eg_cl[ci]? with | some q => decide (eg_on.getD ci "" = q.1) | none => false) = true := by decide +kernel
theorem eg_recv (F : eg_Fr p R s m args meth c A D cc nL o ini) (S : eg_St sc vq s A D nL ad0 n0 ad cA h lv st H locs ls) {b ro : Nat} (hb : eg_rc h b = some ro) : ∃ cell : Cell, H[ad b]? = some cell ∧ cell.vm.isStatics = false ∧ s.vm.findClass (eg_on.getD ro "") = some cell.cls := by
  unfold eg_rc at hb
  split at hb
  · rename_i ci hci
    cases hb
    obtain ⟨r, h1, -⟩ := S.1 b _ (eg_w_at hci)
    have hlt : ro < 12 := (List.getElem?_eq_some_iff.mp h1).1
    have hn := List.all_eq_true.mp eg_on_cl ro (List.mem_range.mpr hlt)
    rw [h1] at hn
    rw [of_decide_eq_true hn]
    exact va_recv (eg_K0 F) S.1 h1 (eg_w_at hci)
  · cases hb
  · exact va_Orecv (S.2.2.2.2.2.2.2.2.1.2.1 b ro hb) S.2.2.1
theorem eg_spl {N : Nat} (st : List eg_V) : st.map (eg_ev ad vq) = ((st.take N).reverse.map (eg_ev ad vq)).reverse ++ (st.drop N).map (eg_ev ad vq) := by
  rw [← List.map_reverse, List.reverse_reverse, ← List.map_append, List.take_append_drop]
theorem eg_nobj {k : String} (h : Jvm.plainName k = true) : k ≠ "java/lang/Object" := by
  intro z
  rw [z] at h
  exact absurd h (by decide)
theorem eg_c_virtual (F : eg_Fr p R s m args meth c A D cc nL o ini) (S : eg_St sc vq s A D nL ad0 n0 ad cA h lv st H locs ls) (k : eg_Kt K P sc vq s A D nL ad0 n0 p l e R m args below meth c Q) (hmc : mc ≤ R.cells) (hms : ms ≤ R.slots) (hRf : d + 1 ≤ R.frames) (hRl : 64 * d + 64 ≤ R.locals) {n j : Nat} {t : eg_T} (ht : eg_tab[j]? = some t) (hpl : Jvm.plainName t.1.cls = true) (IH : ∀ (as : List eg_V) (h : eg_H) (mc ms : Nat) (Q : Option eg_V → eg_H → Prop), call j as h mc ms Q → eg_Met l sc vq D d t as h mc ms Q) (hkd : t.2.2.2.2.2.1 = 1) (hro : t.2.2.2.2.2.2.2.1 ≠ 21) (hw : Cond.methodLink (eg_on.getD o "") n t.1 ∈ eg_gw) (hd : decode cc pc = .ok (.invokevirtual n, 3)) (hn : eg_pc P (i + 1) = some (pc + 3)) (hi : t.2.2.2.2.2.2.1 ≤ st.length ∧ eg_rcv t (st.take t.2.2.2.2.2.2.1).reverse h ∧ eg_wds (st.drop t.2.2.2.2.2.2.1) ≤ 8 ∧ ∃ c1 z1 : Nat, cz + c1 ≤ mc ∧ sz + z1 ≤ ms ∧ call j (st.take t.2.2.2.2.2.2.1).reverse h c1 z1 (fun r h1 => K (i + 1) lv (r.toList ++ st.drop t.2.2.2.2.2.2.1) h1 (cz + c1) (sz + z1))) : W p l e R s m args below meth c H locs cz sz Q (F0 m pc ls (st.map (eg_ev ad vq))) := by
  obtain ⟨h1, h2, h3, c1, z1, h4, h5, hc⟩ := hi
  obtain ⟨tk, td, tp, to, tm, tn, tv, ti⟩ := eg_tf ht
  have hon : eg_on.getD t.2.2.2.2.1 "" = t.1.cls := by rw [List.getD_eq_getElem?_getD, to]; rfl
  have hsa : ∀ v ∈ (st.take t.2.2.2.2.2.2.1).reverse, eg_okV h.1.length v := fun v hv => S.sok v (List.mem_of_mem_take (List.mem_reverse.mp hv))
  have hsr : ∀ v ∈ st.drop t.2.2.2.2.2.2.1, eg_okV h.1.length v := fun v hv => S.sok v (List.mem_of_mem_drop hv)
  have hM := IH _ _ _ _ _ hc ad cA H.size S.2.2.2.2.2.1 hsa
  have hlen : (st.take t.2.2.2.2.2.2.1).reverse.length = t.2.2.2.2.2.2.1 := by rw [List.length_reverse, List.length_take]; omega
  have hcat : 2 * (F0 m pc ls (st.map (eg_ev ad vq))).monitorRoom + (((st.drop t.2.2.2.2.2.2.1).map (eg_ev ad vq)).map fun v => v.category).sum ≤ 8 := lv_room (by rw [eg_cats ad S.qv]; exact h3)
  refine eg_called (c1 := c1) (z1 := z1) (st0 := []) (Q1 := fun r h1 => K (i + 1) lv (r.toList ++ st.drop t.2.2.2.2.2.2.1) h1 (cz + c1) (sz + z1)) F S k hn hsr (fun r h1 q => q) ?_
  have hspl := eg_spl (ad := ad) (vq := vq) (N := t.2.2.2.2.2.2.1) st
  unfold eg_rcv at h2
  rw [hkd] at h2
  generalize hg : (st.take t.2.2.2.2.2.2.1).reverse = as at h2 hM hlen hspl hsa
  match as, h2 with
  | .inr (.inr (some b)) :: as', h2 =>
    have hp1 : (parseMethodDescriptor t.1.desc).map (fun d => d.parameters.length) = some (as'.map (eg_ev ad vq)).length := by
      rw [tp, hkd, List.length_map]
      congr 1
      have : as'.length + 1 = t.2.2.2.2.2.2.1 := by simpa using hlen
      show t.2.2.2.2.2.2.1 - 1 = as'.length
      omega
    have hst : st.map (eg_ev ad vq) = (as'.map (eg_ev ad vq)).reverse ++ Value.ref (ad b) :: (st.drop t.2.2.2.2.2.2.1).map (eg_ev ad vq) := by
      rw [hspl]
      simp [eg_ev]
    have hcl : eg_on.getD t.2.2.2.2.2.2.2.1 "" = t.1.cls := by
      rcases tv hkd with z | z
      · exact absurd z hro
      · rw [z]; exact hon
    have hrc := eg_recv F S h2
    rw [hcl] at hrc
    refine va_runV (C := t.1.cls) (b := ad b) (As := as'.map (eg_ev ad vq)) ⟨F.1, F.2.1, F.2.2.1, F.2.2.2.1, F.2.2.2.2.1⟩ hM ⟨callB_of (as'.map (eg_ev ad vq)).length F.2.2.2.2.1 (eg_goodin (eg_ws_in ht)) rfl rfl rfl (F.2.2.2.2.1 _ (eg_inin to (eg_nobj hpl))) (F.2.2.2.2.1 _ hw) ⟨td.1, td.2, hp1⟩ ⟨hRf, by show 8 + (t.2.2.1 + 11) + 64 * d ≤ R.locals; omega⟩, F.2.2.2.2.1 _ ?_, F.2.2.2.2.1 _ (eg_selin ht hkd hro)⟩ ⟨eg_blind, hrc, S.pre F⟩ rfl rfl S.2.2.2.1.1 hst hcat hd ⟨by omega, by omega⟩
    have hm := eg_mwall ht
    unfold eg_mw at hm
    rw [hkd] at hm
    exact eg_gw_in hm rfl
theorem eg_c_special (F : eg_Fr p R s m args meth c A D cc nL o ini) (S : eg_St sc vq s A D nL ad0 n0 ad cA h lv st H locs ls) (k : eg_Kt K P sc vq s A D nL ad0 n0 p l e R m args below meth c Q) (hmc : mc ≤ R.cells) (hms : ms ≤ R.slots) (hRf : d + 1 ≤ R.frames) (hRl : 64 * d + 64 ≤ R.locals) {n j : Nat} {t : eg_T} (ht : eg_tab[j]? = some t) (hpl : Jvm.plainName t.1.cls = true) (IH : ∀ (as : List eg_V) (h : eg_H) (mc ms : Nat) (Q : Option eg_V → eg_H → Prop), call j as h mc ms Q → eg_Met l sc vq D d t as h mc ms Q) (hkd : t.2.2.2.2.2.1 = 2) (hw : Cond.methodLink (eg_on.getD o "") n t.1 ∈ eg_gw ∨ Cond.methodLinkNest (eg_on.getD o "") n t.1 "WeakScheme" ∈ lw_tbl) (hd : decode cc pc = .ok (.invokespecial n, 3)) (hn : eg_pc P (i + 1) = some (pc + 3)) (hi : t.2.2.2.2.2.2.1 ≤ st.length ∧ eg_rcv t (st.take t.2.2.2.2.2.2.1).reverse h ∧ eg_wds (st.drop t.2.2.2.2.2.2.1) ≤ 8 ∧ ∃ c1 z1 : Nat, cz + c1 ≤ mc ∧ sz + z1 ≤ ms ∧ call j (st.take t.2.2.2.2.2.2.1).reverse h c1 z1 (fun r h1 => K (i + 1) lv (r.toList ++ st.drop t.2.2.2.2.2.2.1) h1 (cz + c1) (sz + z1))) : W p l e R s m args below meth c H locs cz sz Q (F0 m pc ls (st.map (eg_ev ad vq))) := by
  obtain ⟨h1, h2, h3, c1, z1, h4, h5, hc⟩ := hi
  obtain ⟨tk, td, tp, to, tm, tn, tv, ti⟩ := eg_tf ht
  have hon : eg_on.getD t.2.2.2.2.1 "" = t.1.cls := by rw [List.getD_eq_getElem?_getD, to]; rfl
  have hsa : ∀ v ∈ (st.take t.2.2.2.2.2.2.1).reverse, eg_okV h.1.length v := fun v hv => S.sok v (List.mem_of_mem_take (List.mem_reverse.mp hv))
  have hsr : ∀ v ∈ st.drop t.2.2.2.2.2.2.1, eg_okV h.1.length v := fun v hv => S.sok v (List.mem_of_mem_drop hv)
  have hM := IH _ _ _ _ _ hc ad cA H.size S.2.2.2.2.2.1 hsa
  have hlen : (st.take t.2.2.2.2.2.2.1).reverse.length = t.2.2.2.2.2.2.1 := by rw [List.length_reverse, List.length_take]; omega
  have hcat : 2 * (F0 m pc ls (st.map (eg_ev ad vq))).monitorRoom + (((st.drop t.2.2.2.2.2.2.1).map (eg_ev ad vq)).map fun v => v.category).sum ≤ 8 := lv_room (by rw [eg_cats ad S.qv]; exact h3)
  refine eg_called (c1 := c1) (z1 := z1) (st0 := []) (Q1 := fun r h1 => K (i + 1) lv (r.toList ++ st.drop t.2.2.2.2.2.2.1) h1 (cz + c1) (sz + z1)) F S k hn hsr (fun r h1 q => q) ?_
  have hspl := eg_spl (ad := ad) (vq := vq) (N := t.2.2.2.2.2.2.1) st
  unfold eg_rcv at h2
  rw [hkd] at h2
  generalize hg : (st.take t.2.2.2.2.2.2.1).reverse = as at h2 hM hlen hspl hsa
  match as, h2 with
  | .inr (.inr (some b)) :: as', h2 =>
    have hp1 : (parseMethodDescriptor t.1.desc).map (fun d => d.parameters.length) = some (as'.map (eg_ev ad vq)).length := by
      rw [tp, hkd, List.length_map]
      congr 1
      have : as'.length + 1 = t.2.2.2.2.2.2.1 := by simpa using hlen
      show t.2.2.2.2.2.2.1 - 1 = as'.length
      omega
    have hst : st.map (eg_ev ad vq) = (as'.map (eg_ev ad vq)).reverse ++ Value.ref (ad b) :: (st.drop t.2.2.2.2.2.2.1).map (eg_ev ad vq) := by
      rw [hspl]
      simp [eg_ev]
    have hm := eg_mwall ht
    unfold eg_mw at hm
    rw [hkd] at hm
    have hin := F.2.2.2.2.1 _ (eg_gw_in hm rfl)
    have hM' := hM
    dsimp only [eg_ws', eg_cwd] at hM'
    rw [(ti hkd).2] at hM'
    have hG : GoodIn eg_gw (Cond.code t.1 t.2.1 t.2.2.1 none :: eg_gw) := by
      have := eg_goodin (eg_ws_in ht)
      unfold eg_ws' eg_cwd at this
      rw [(ti hkd).2] at this
      exact this
    rcases hw with hw | hw
    · exact va_runI (b := ad b) (As := as'.map (eg_ev ad vq)) ⟨F.1, F.2.1, F.2.2.1, F.2.2.2.1, F.2.2.2.2.1⟩ hM' ⟨callB_of (as'.map (eg_ev ad vq)).length F.2.2.2.2.1 hG rfl rfl rfl (F.2.2.2.2.1 _ (eg_inin to (eg_nobj hpl))) (F.2.2.2.2.1 _ hw) ⟨td.1, td.2, hp1⟩ ⟨hRf, by show 8 + (t.2.2.1 + 11) + 64 * d ≤ R.locals; omega⟩, (ti hkd).1, hin⟩ ⟨eg_blind, S.pre F⟩ rfl rfl S.2.2.2.1.1 hst hcat hd ⟨by omega, by omega⟩
    · exact va_runIN (b := ad b) (As := as'.map (eg_ev ad vq)) ⟨F.1, F.2.1, F.2.2.1, F.2.2.2.1, F.2.2.2.2.1⟩ hM' ⟨va_cnB (as'.map (eg_ev ad vq)).length F.2.2.2.2.1 hG rfl rfl rfl (F.2.2.2.2.2.2.2.2.2.2 _ hw rfl) (F.2.2.2.2.1 _ (eg_inin to (eg_nobj hpl))) ⟨td.1, td.2, hp1⟩ ⟨hRf, by show 8 + (t.2.2.1 + 11) + 64 * d ≤ R.locals; omega⟩, (ti hkd).1, hin⟩ ⟨eg_blind, S.pre F⟩ rfl rfl S.2.2.2.1.1 hst hcat hd ⟨by omega, by omega⟩
theorem eg_c_static (F : eg_Fr p R s m args meth c A D cc nL o ini) (S : eg_St sc vq s A D nL ad0 n0 ad cA h lv st H locs ls) (k : eg_Kt K P sc vq s A D nL ad0 n0 p l e R m args below meth c Q) (hmc : mc ≤ R.cells) (hms : ms ≤ R.slots) (hRf : d + 1 ≤ R.frames) (hRl : 64 * d + 64 ≤ R.locals) {n j : Nat} {t : eg_T} (ht : eg_tab[j]? = some t) (hpl : Jvm.plainName t.1.cls = true) (IH : ∀ (as : List eg_V) (h : eg_H) (mc ms : Nat) (Q : Option eg_V → eg_H → Prop), call j as h mc ms Q → eg_Met l sc vq D d t as h mc ms Q) (hkd : t.2.2.2.2.2.1 = 0) (hw : Cond.methodLink (eg_on.getD o "") n t.1 ∈ eg_gw ∨ Cond.methodLinkNest (eg_on.getD o "") n t.1 "WeakScheme" ∈ lw_tbl) (hd : decode cc pc = .ok (.invokestatic n, 3)) (hn : eg_pc P (i + 1) = some (pc + 3)) (hi : t.2.2.2.2.2.2.1 ≤ st.length ∧ eg_rcv t (st.take t.2.2.2.2.2.2.1).reverse h ∧ eg_wds (st.drop t.2.2.2.2.2.2.1) ≤ 8 ∧ ∃ c1 z1 : Nat, cz + c1 ≤ mc ∧ sz + z1 ≤ ms ∧ call j (st.take t.2.2.2.2.2.2.1).reverse h c1 z1 (fun r h1 => K (i + 1) lv (r.toList ++ st.drop t.2.2.2.2.2.2.1) h1 (cz + c1) (sz + z1))) : W p l e R s m args below meth c H locs cz sz Q (F0 m pc ls (st.map (eg_ev ad vq))) := by
  obtain ⟨h1, h2, h3, c1, z1, h4, h5, hc⟩ := hi
  obtain ⟨tk, td, tp, to, tm, tn, tv, ti⟩ := eg_tf ht
  have hon : eg_on.getD t.2.2.2.2.1 "" = t.1.cls := by rw [List.getD_eq_getElem?_getD, to]; rfl
  have hsa : ∀ v ∈ (st.take t.2.2.2.2.2.2.1).reverse, eg_okV h.1.length v := fun v hv => S.sok v (List.mem_of_mem_take (List.mem_reverse.mp hv))
  have hsr : ∀ v ∈ st.drop t.2.2.2.2.2.2.1, eg_okV h.1.length v := fun v hv => S.sok v (List.mem_of_mem_drop hv)
  have hM := IH _ _ _ _ _ hc ad cA H.size S.2.2.2.2.2.1 hsa
  have hlen : (st.take t.2.2.2.2.2.2.1).reverse.length = t.2.2.2.2.2.2.1 := by rw [List.length_reverse, List.length_take]; omega
  have hcat : 2 * (F0 m pc ls (st.map (eg_ev ad vq))).monitorRoom + (((st.drop t.2.2.2.2.2.2.1).map (eg_ev ad vq)).map fun v => v.category).sum ≤ 8 := lv_room (by rw [eg_cats ad S.qv]; exact h3)
  refine eg_called (c1 := c1) (z1 := z1) (st0 := []) (Q1 := fun r h1 => K (i + 1) lv (r.toList ++ st.drop t.2.2.2.2.2.2.1) h1 (cz + c1) (sz + z1)) F S k hn hsr (fun r h1 q => q) ?_
  have hspl := eg_spl (ad := ad) (vq := vq) (N := t.2.2.2.2.2.2.1) st
  have hp1 : (parseMethodDescriptor t.1.desc).map (fun d => d.parameters.length) = some ((st.take t.2.2.2.2.2.2.1).reverse.map (eg_ev ad vq)).length := by
    rw [tp, hkd, List.length_map, hlen]
    rfl
  have hm := eg_mwall ht
  unfold eg_mw at hm
  rw [hkd] at hm
  have hin := F.2.2.2.2.1 _ (eg_gw_in hm rfl)
  rcases hw with hw | hw
  · exact va_runS (As := (st.take t.2.2.2.2.2.2.1).reverse.map (eg_ev ad vq)) ⟨F.1, F.2.1, F.2.2.1, F.2.2.2.1, F.2.2.2.2.1⟩ hM ⟨callB_of _ F.2.2.2.2.1 (eg_goodin (eg_ws_in ht)) rfl rfl rfl (F.2.2.2.2.1 _ (eg_inin to (eg_nobj hpl))) (F.2.2.2.2.1 _ hw) ⟨td.1, td.2, hp1⟩ ⟨hRf, by show 8 + (t.2.2.1 + 11) + 64 * d ≤ R.locals; omega⟩, hin⟩ ⟨eg_blind, S.pre F⟩ rfl rfl S.2.2.2.1.1 hspl hcat hd ⟨by omega, by omega⟩
  · exact va_runSN (As := (st.take t.2.2.2.2.2.2.1).reverse.map (eg_ev ad vq)) ⟨F.1, F.2.1, F.2.2.1, F.2.2.2.1, F.2.2.2.2.1⟩ hM ⟨va_cnB _ F.2.2.2.2.1 (eg_goodin (eg_ws_in ht)) rfl rfl rfl (F.2.2.2.2.2.2.2.2.2.2 _ hw rfl) (F.2.2.2.2.1 _ (eg_inin to (eg_nobj hpl))) ⟨td.1, td.2, hp1⟩ ⟨hRf, by show 8 + (t.2.2.1 + 11) + 64 * d ≤ R.locals; omega⟩, hin, trivial⟩ ⟨eg_blind, S.pre F⟩ rfl rfl S.2.2.2.1.1 hspl hcat hd ⟨by omega, by omega⟩
theorem eg_c_ordinal (F : eg_Fr p R s m args meth c A D cc nL o ini) (S : eg_St sc vq s A D nL ad0 n0 ad cA h lv st H locs ls) (k : eg_Kt K P sc vq s A D nL ad0 n0 p l e R m args below meth c Q) (hmc : mc ≤ R.cells) (hms : ms ≤ R.slots) (hRf : d + 1 ≤ R.frames) (hRl : 64 * d + 64 ≤ R.locals) {n j : Nat} {t : eg_T} (ht : eg_tab[j]? = some t) (hpl : Jvm.plainName t.1.cls = true) (IH : ∀ (as : List eg_V) (h : eg_H) (mc ms : Nat) (Q : Option eg_V → eg_H → Prop), call j as h mc ms Q → eg_Met l sc vq D d t as h mc ms Q) (hkd : t.2.2.2.2.2.1 = 1) (hro : t.2.2.2.2.2.2.2.1 = 21) (hy : t.1 = ⟨"java/lang/Enum", "ordinal", "()I"⟩) (hown : eg_on.getD o "" = "WeakScheme$Operations") (hn54 : n = 54) (hd : decode cc pc = .ok (.invokevirtual n, 3)) (hn : eg_pc P (i + 1) = some (pc + 3)) (hi : t.2.2.2.2.2.2.1 ≤ st.length ∧ eg_rcv t (st.take t.2.2.2.2.2.2.1).reverse h ∧ eg_wds (st.drop t.2.2.2.2.2.2.1) ≤ 8 ∧ ∃ c1 z1 : Nat, cz + c1 ≤ mc ∧ sz + z1 ≤ ms ∧ call j (st.take t.2.2.2.2.2.2.1).reverse h c1 z1 (fun r h1 => K (i + 1) lv (r.toList ++ st.drop t.2.2.2.2.2.2.1) h1 (cz + c1) (sz + z1))) : W p l e R s m args below meth c H locs cz sz Q (F0 m pc ls (st.map (eg_ev ad vq))) := by
  obtain ⟨h1, h2, h3, c1, z1, h4, h5, hc⟩ := hi
  obtain ⟨tk, td, tp, to, tm, tn, tv, ti⟩ := eg_tf ht
  have hon : eg_on.getD t.2.2.2.2.1 "" = t.1.cls := by rw [List.getD_eq_getElem?_getD, to]; rfl
  have hsa : ∀ v ∈ (st.take t.2.2.2.2.2.2.1).reverse, eg_okV h.1.length v := fun v hv => S.sok v (List.mem_of_mem_take (List.mem_reverse.mp hv))
  have hsr : ∀ v ∈ st.drop t.2.2.2.2.2.2.1, eg_okV h.1.length v := fun v hv => S.sok v (List.mem_of_mem_drop hv)
  have hM := IH _ _ _ _ _ hc ad cA H.size S.2.2.2.2.2.1 hsa
  have hlen : (st.take t.2.2.2.2.2.2.1).reverse.length = t.2.2.2.2.2.2.1 := by rw [List.length_reverse, List.length_take]; omega
  have hcat : 2 * (F0 m pc ls (st.map (eg_ev ad vq))).monitorRoom + (((st.drop t.2.2.2.2.2.2.1).map (eg_ev ad vq)).map fun v => v.category).sum ≤ 8 := lv_room (by rw [eg_cats ad S.qv]; exact h3)
  refine eg_called (c1 := c1) (z1 := z1) (st0 := []) (Q1 := fun r h1 => K (i + 1) lv (r.toList ++ st.drop t.2.2.2.2.2.2.1) h1 (cz + c1) (sz + z1)) F S k hn hsr (fun r h1 q => q) ?_
  have hspl := eg_spl (ad := ad) (vq := vq) (N := t.2.2.2.2.2.2.1) st
  unfold eg_rcv at h2
  rw [hkd] at h2
  generalize hg : (st.take t.2.2.2.2.2.2.1).reverse = as at h2 hM hlen hspl hsa
  match as, h2 with
  | .inr (.inr (some b)) :: as', h2 =>
    have hp1 : (parseMethodDescriptor t.1.desc).map (fun d => d.parameters.length) = some (as'.map (eg_ev ad vq)).length := by
      rw [tp, hkd, List.length_map]
      congr 1
      have : as'.length + 1 = t.2.2.2.2.2.2.1 := by simpa using hlen
      show t.2.2.2.2.2.2.1 - 1 = as'.length
      omega
    have hst : st.map (eg_ev ad vq) = (as'.map (eg_ev ad vq)).reverse ++ Value.ref (ad b) :: (st.drop t.2.2.2.2.2.2.1).map (eg_ev ad vq) := by
      rw [hspl]
      simp [eg_ev]
    have hrc := eg_recv F S h2
    rw [hro] at hrc
    have hrc2 : ∃ cell : Cell, H[ad b]? = some cell ∧ cell.vm.isStatics = false ∧ s.vm.findClass "WeakScheme$Primitive" = some cell.cls := hrc
    have ho := List.all_eq_true.mp eg_ord
    have hin : ∀ w ∈ [Cond.methodLink "WeakScheme$Operations" 54 ⟨"WeakScheme$Primitive", "ordinal", "()I"⟩, .sameMethod "WeakScheme$Primitive" "java/lang/Enum" "ordinal" "()I", .selects "WeakScheme$Primitive" ⟨"WeakScheme$Primitive", "ordinal", "()I"⟩ ⟨"java/lang/Enum", "ordinal", "()I"⟩, .instanceMethod ⟨"java/lang/Enum", "ordinal", "()I"⟩, .initialized "java/lang/Enum"], eg_isn w = false → w ∈ eg_gw := fun w hw hz => eg_gw_in (eg_tb_in (of_decide_eq_true (ho w hw))) hz
    subst hn54
    have hG : GoodIn eg_gw (va_wsU "WeakScheme$Operations" 54 "WeakScheme$Primitive" "java/lang/Enum" ⟨"WeakScheme$Primitive", "ordinal", "()I"⟩ t.1 (eg_ws' t)) := by
      refine eg_goodin (fun w hw => ?_)
      unfold va_wsU at hw
      rcases List.mem_append.mp hw with h9 | h9
      · rw [hy] at h9
        refine hin w h9 ?_
        simp only [List.mem_cons, List.not_mem_nil, or_false] at h9
        rcases h9 with rfl | rfl | rfl | rfl | rfl <;> rfl
      · exact eg_ws_in ht w h9
    have hp2 : (parseMethodDescriptor "()I").map (fun d => d.parameters.length) = some (as'.map (eg_ev ad vq)).length := by
      have := hp1
      rw [hy] at this
      exact this
    exact va_runU (C := "WeakScheme$Primitive") (own := "WeakScheme$Operations") (owner := "java/lang/Enum") (x := ⟨"WeakScheme$Primitive", "ordinal", "()I"⟩) (b := ad b) (As := as'.map (eg_ev ad vq)) ⟨F.1, F.2.1, F.2.2.1, hown ▸ F.2.2.2.1, F.2.2.2.2.1⟩ hM (va_cwU (as'.map (eg_ev ad vq)).length F.2.2.2.2.1 hG rfl rfl rfl hy ⟨by decide, by decide, hp2⟩ ⟨hRf, by show 8 + (t.2.2.1 + 11) + 64 * d ≤ R.locals; omega⟩) ⟨eg_blind, hrc2, S.pre F⟩ rfl rfl S.2.2.2.1.1 hst hcat hd ⟨by omega, by omega⟩
end EGL
