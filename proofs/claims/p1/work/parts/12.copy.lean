/-! MORE FACTS of the tables; copying; Math.min -/
set_option maxRecDepth 100000 in
theorem eg_pln : (eg_mv ++ eg_mi ++ eg_ms ++ eg_mu).all (fun q => match eg_tab[q.2.2.1]? with | some t => Jvm.plainName t.1.cls | none => false) = true := by decide +kernel
set_option maxRecDepth 100000 in
theorem eg_minw : (decide (Cond.code Lib.Math.min.name Lib.Math.min.code 2 (some .int) ∈ tables_1) && decide (Cond.static Lib.Math.min.name ∈ tables_1) && decide (Cond.initialized "java/lang/Math" ∈ tables_1)) = true := by decide +kernel
section EGO
variable {sc : eg_Sc} {vq : Value} {p : Program} {l : Launch} {e : Env} {R : Room} {s : State} {m : MethodId} {args : Array Value} {below : List Frame} {meth : Method} {c : Code} {Q : State → Prop} {A : Nat → Prop} {D : va_G} {cc : ByteArray} {nL o n0 : Nat} {ini : Bool} {ad0 ad : Nat → Nat} {cA : Nat → ClassId} {h : eg_H} {lv : eg_L} {st : List eg_V} {H : Heap} {locs : List Loc} {ls : Array Slot} {K : eg_K} {P : List (Nat × Instr)} {pc i cz sz mc ms : Nat}
theorem eg_c_min (F : eg_Fr p R s m args meth c A D cc nL o ini) (S : eg_St sc vq s A D nL ad0 n0 ad cA h lv st H locs ls) (k : eg_Kt K P sc vq s A D nL ad0 n0 p l e R m args below meth c Q) (hmc : mc ≤ R.cells) (hms : ms ≤ R.slots) {n : Nat} (hw : Cond.methodLink (eg_on.getD o "") n ⟨"java/lang/Math", "min", "(II)I"⟩ ∈ eg_gw) (hd : decode cc pc = .ok (.invokestatic n, 3)) (hn : eg_pc P (i + 1) = some (pc + 3))
    (hi : eg_pi st fun y st => eg_pi st fun x st => eg_wds st ≤ 8 ∧ cz ≤ mc ∧ sz ≤ ms ∧ K (i + 1) lv (.inl (if y < x then y else x) :: st) h cz sz) : W p l e R s m args below meth c H locs cz sz Q (F0 m pc ls (st.map (eg_ev ad vq))) := by
  obtain ⟨y, r0, rfl, g0⟩ := eg_pi_of hi
  obtain ⟨x, r1, rfl, g1⟩ := eg_pi_of g0
  obtain ⟨hy, hs⟩ := List.forall_mem_cons.mp S.sok
  obtain ⟨hx, hs⟩ := List.forall_mem_cons.mp hs
  obtain ⟨h1, h2, h3, hi⟩ := g1
  have hm := eg_minw
  rw [Bool.and_eq_true, Bool.and_eq_true] at hm
  have hc := eg_cats ad S.qv r1
  refine va_mmin F.1 F.2.1 (by rw [F.2.2.1]; exact S.2.2.2.1.1.symm) F.2.2.2.1 (F.2.2.2.2.1 _ hw) (F.2.2.2.2.1 _ (eg_gw_in (eg_tb_in (of_decide_eq_true hm.1.2)) rfl)) (F.2.2.2.2.1 _ (eg_gw_in (eg_tb_in (of_decide_eq_true hm.2)) rfl)) (F.2.2.2.2.1 _ (eg_gw_in (eg_tb_in (of_decide_eq_true hm.1.1)) rfl)) F.2.2.2.2.2.2.2.1 (by have := F.2.2.2.2.2.2.2.2.1; omega) (by omega) (by omega) hd ?_
  have he : (if Int32.ofInt y < Int32.ofInt x then Int32.ofInt y else Int32.ofInt x) = Int32.ofInt (if y < x then y else x) := by
    by_cases hc : y < x
    · rw [if_pos hc, if_pos ((eg_lt32 hy hx).mpr hc)]
    · rw [if_neg hc, if_neg (fun z => hc ((eg_lt32 hy hx).mp z))]
  rw [he]
  refine eg_go (lv' := lv) k hi hn S (List.forall_mem_cons.mpr ⟨?_, hs⟩)
  show _ ∧ _
  split
  · exact hy
  · exact hx
theorem eg_cp_ne {M : Nat → Nat → Int} {a b sp dp n x : Nat} (hx : x ≠ b) : eg_cp M a b sp dp n x = M x := by
  funext j
  unfold eg_cp
  rw [if_neg (fun z => hx z.1)]
theorem eg_cp_at {M : Nat → Nat → Int} {a b sp dp n j : Nat} : eg_cp M a b sp dp n b j = if dp ≤ j ∧ j < dp + n then M a (sp + (j - dp)) else M b j := by
  unfold eg_cp
  by_cases h : dp ≤ j ∧ j < dp + n
  · rw [if_pos ⟨rfl, h⟩, if_pos h]
  · rw [if_neg (fun z => h z.2), if_neg h]
theorem eg_w_cpl {a b n1 sp dp n : Nat} (hb : h.1[b]? = some (.inl (.long, n1))) : eg_w ad cA (h.1, h.2.1, eg_cp h.2.2 a b sp dp n) = (eg_w ad cA h).set b (ad b, .inl (cA b, n1, .inr (.inl (va_cpy (fun i => Int64.ofInt (h.2.2 a i)) (fun i => Int64.ofInt (h.2.2 b i)) sp dp n)))) := by
  rw [eg_w_set (h := h) (h' := (h.1, h.2.1, eg_cp h.2.2 a b sp dp n)) rfl hb (eg_e_M (h := h) (M := eg_cp h.2.2 a b sp dp n) (a := b) (fun x hx => eg_cp_ne hx))]
  congr 2
  have e : (fun i => Int64.ofInt (eg_cp h.2.2 a b sp dp n b i)) = va_cpy (fun i => Int64.ofInt (h.2.2 a i)) (fun i => Int64.ofInt (h.2.2 b i)) sp dp n := by
    funext j
    unfold va_cpy
    rw [eg_cp_at]
    split <;> rfl
  show (Sum.inl (cA b, n1, Sum.inr (Sum.inl (fun i => Int64.ofInt (eg_cp h.2.2 a b sp dp n b i)))) : va_E) = _
  rw [e]
theorem eg_w_cpb {a b n1 sp dp n : Nat} (hb : h.1[b]? = some (.inl (.byte, n1))) : eg_w ad cA (h.1, h.2.1, eg_cp h.2.2 a b sp dp n) = (eg_w ad cA h).set b (ad b, .inl (cA b, n1, .inl (va_cpy (fun i => Int32.ofInt (h.2.2 a i)) (fun i => Int32.ofInt (h.2.2 b i)) sp dp n))) := by
  rw [eg_w_set (h := h) (h' := (h.1, h.2.1, eg_cp h.2.2 a b sp dp n)) rfl hb (eg_e_M (h := h) (M := eg_cp h.2.2 a b sp dp n) (a := b) (fun x hx => eg_cp_ne hx))]
  congr 2
  have e : (fun i => Int32.ofInt (eg_cp h.2.2 a b sp dp n b i)) = va_cpy (fun i => Int32.ofInt (h.2.2 a i)) (fun i => Int32.ofInt (h.2.2 b i)) sp dp n := by
    funext j
    unfold va_cpy
    rw [eg_cp_at]
    split <;> rfl
  show (Sum.inl (cA b, n1, Sum.inl (fun i => Int32.ofInt (eg_cp h.2.2 a b sp dp n b i))) : va_E) = _
  rw [e]
theorem eg_K2 (F : eg_Fr p R s m args meth c A D cc nL o ini) (hKa : eg_Ka cA h s) {a b n n' : Nat} {ty ty' : FieldType} (ha : h.1[a]? = some (.inl (ty, n))) (hb : h.1[b]? = some (.inl (ty', n'))) : va_K D eg_cl [(cA a, ty), (cA b, ty')] s := by
  refine ⟨F.2.2.2.2.2.2.1, fun k q hk => ?_⟩
  match k, hk with
  | 0, hk => cases hk; exact hKa a ty n ha
  | 1, hk => cases hk; exact hKa b ty' n' hb
  | k + 2, hk => simp at hk
theorem eg_c_copy (F : eg_Fr p R s m args meth c A D cc nL o ini) (S : eg_St sc vq s A D nL ad0 n0 ad cA h lv st H locs ls) (k : eg_Kt K P sc vq s A D nL ad0 n0 p l e R m args below meth c Q) {x : Nat} (hw : Cond.methodLink (eg_on.getD o "") x arraycopyName ∈ eg_gw) (hd : decode cc pc = .ok (.invokestatic x, 3)) (hn : eg_pc P (i + 1) = some (pc + 3))
    (hi : eg_pi st fun n st => eg_pi st fun dp st => eg_pr st fun b st => eg_pi st fun sp st => eg_pr st fun a st => (match h.1[a]?, h.1[b]? with
      | some (.inl (ty, n0)), some (.inl (ty', n1)) => (ty = .long ∨ ty = .byte) ∧ ty' = ty ∧ 0 ≤ sp ∧ 0 ≤ dp ∧ 0 ≤ n ∧ sp + n ≤ (n0 : Int) ∧ dp + n ≤ (n1 : Int) ∧ eg_wds st ≤ 8 ∧ K (i + 1) lv st (h.1, h.2.1, eg_cp h.2.2 a b sp.toNat dp.toNat n.toNat) cz sz
      | _, _ => False)) : W p l e R s m args below meth c H locs cz sz Q (F0 m pc ls (st.map (eg_ev ad vq))) := by
  obtain ⟨n, r0, rfl, g0⟩ := eg_pi_of hi
  obtain ⟨dp, r1, rfl, g1⟩ := eg_pi_of g0
  obtain ⟨b, r2, rfl, g2⟩ := eg_pr_of g1
  obtain ⟨sp, r3, rfl, g3⟩ := eg_pi_of g2
  obtain ⟨a, r4, rfl, g4⟩ := eg_pr_of g3
  obtain ⟨hxn, hs⟩ := List.forall_mem_cons.mp S.sok
  obtain ⟨hxd, hs⟩ := List.forall_mem_cons.mp hs
  obtain ⟨-, hs⟩ := List.forall_mem_cons.mp hs
  obtain ⟨hxs, hs⟩ := List.forall_mem_cons.mp hs
  obtain ⟨-, hs⟩ := List.forall_mem_cons.mp hs
  split at g4
  · rename_i ty k0 ty' k1 ha hb
    obtain ⟨hty, rfl, p1, p2, p3, p4, p5, p6, hi⟩ := g4
    have hsys := eg_sys
    rw [Bool.and_eq_true, Bool.and_eq_true] at hsys
    have hc := eg_cats ad S.qv r4
    have nn : ∀ {z : Int}, (-2147483648 ≤ z ∧ z < 2147483648) → 0 ≤ z → ¬ Int32.ofInt z < 0 := fun hz h0 q => by
      have q2 : Int32.ofInt _ < Int32.ofInt 0 := q
      rw [eg_lt32 hz ⟨by omega, by omega⟩] at q2
      omega
    have hloc : ((r4.map (eg_ev ad vq)).map fun v => v.category).sum + (nativeFrameWords "java/lang/System" "arraycopy" 5 + 11) ≤ R.locals := by
      have := F.2.2.2.2.2.2.2.2.1
      have h7 : nativeFrameWords "java/lang/System" "arraycopy" 5 = 7 := by decide +kernel
      omega
    have hra := (S.2.2.2.2.2.1.1 a _ _ ha).2.2
    have hrb := (S.2.2.2.2.2.1.1 b _ _ hb).2.2
    have fin : ∀ (H1 : Heap) (locs1 : List Loc), va_P D eg_cl (eg_w ad cA (h.1, h.2.1, eg_cp h.2.2 a b sp.toNat dp.toNat n.toNat)) H1 → va_D A (eg_w ad cA (h.1, h.2.1, eg_cp h.2.2 a b sp.toNat dp.toNat n.toNat)) → va_S A s.heap H1 locs1 → W p l e R s m args below meth c H1 locs1 cz sz Q (F0 m (pc + 3) ls (r4.map (eg_ev ad vq))) := by
      intro H1 locs1 hP hD hS
      refine k _ _ _ _ _ _ _ hi hn _ _ _ _ _ (S.M hs (fun x hx => eg_cp_ne hx) (fun ty2 n2 h1 j => ?_) (fun ci h1 => absurd (h1.symm.trans hb) (by simp)) hP hD hS)
      have e2 := Option.some.inj (h1.symm.trans hb)
      cases e2
      rw [eg_cp_at]
      split
      · exact hra _
      · exact hrb _
    rcases hty with rfl | rfl
    · refine va_copyl F.1 F.2.1 (by rw [F.2.2.1]; exact S.2.2.2.1.1.symm) F.2.2.2.1 (F.2.2.2.2.1 _ hw) (F.2.2.2.2.1 _ (eg_gw_in (eg_tb_in (of_decide_eq_true hsys.1.1)) rfl)) (F.2.2.2.2.1 _ (eg_gw_in (eg_tb_in (of_decide_eq_true hsys.1.2)) rfl)) (F.2.2.2.2.1 _ (eg_gw_in (eg_tb_in (of_decide_eq_true hsys.2)) rfl)) (eg_K2 F S.2.2.2.2.1 ha hb) S.1 S.2.1 S.2.2.1 a b 0 1 (eg_w_at ha) (eg_w_at hb) rfl rfl rfl (nn hxs p1) (nn hxd p2) (nn hxn p3) (by rw [eg_cl32 hxs, eg_cl32 hxn]; omega) (by rw [eg_cl32 hxd, eg_cl32 hxn]; omega) (fun _ _ => rfl) F.2.2.2.2.2.2.2.1 hloc hd (fun H1 locs1 hP hD hS => ?_)
      rw [eg_cl32 hxs, eg_cl32 hxd, eg_cl32 hxn] at hP hD
      rw [← eg_w_cpl hb] at hP hD
      exact fin H1 locs1 hP hD hS
    · refine va_copyi F.1 F.2.1 (by rw [F.2.2.1]; exact S.2.2.2.1.1.symm) F.2.2.2.1 (F.2.2.2.2.1 _ hw) (F.2.2.2.2.1 _ (eg_gw_in (eg_tb_in (of_decide_eq_true hsys.1.1)) rfl)) (F.2.2.2.2.1 _ (eg_gw_in (eg_tb_in (of_decide_eq_true hsys.1.2)) rfl)) (F.2.2.2.2.1 _ (eg_gw_in (eg_tb_in (of_decide_eq_true hsys.2)) rfl)) (eg_K2 F S.2.2.2.2.1 ha hb) S.1 S.2.1 S.2.2.1 a b 0 1 (eg_w_at ha) (eg_w_at hb) rfl rfl rfl (nn hxs p1) (nn hxd p2) (nn hxn p3) (by rw [eg_cl32 hxs, eg_cl32 hxn]; omega) (by rw [eg_cl32 hxd, eg_cl32 hxn]; omega) (fun j _ => eg_fitB (hra _)) F.2.2.2.2.2.2.2.1 hloc hd (fun H1 locs1 hP hD hS => ?_)
      rw [eg_cl32 hxs, eg_cl32 hxd, eg_cl32 hxn] at hP hD
      rw [← eg_w_cpb hb] at hP hD
      exact fin H1 locs1 hP hD hS
  · exact g4.elim
end EGO
