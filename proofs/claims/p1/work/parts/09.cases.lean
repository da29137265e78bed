/-! THE BRIDGE, plain instructions: a case an instruction -/
section EGC
variable {sc : eg_Sc} {vq : Value} {p : Program} {l : Launch} {e : Env} {R : Room} {s : State} {m : MethodId} {args : Array Value} {below : List Frame} {meth : Method} {c : Code} {Q : State → Prop} {A : Nat → Prop} {D : va_G} {cc : ByteArray} {nL o n0 : Nat} {ini : Bool} {ad0 ad : Nat → Nat} {cA : Nat → ClassId} {h : eg_H} {lv : eg_L} {st : List eg_V} {H : Heap} {locs : List Loc} {ls : Array Slot} {K : eg_K} {P : List (Nat × Instr)} {pc i cz sz : Nat}
theorem eg_St.sok (S : eg_St sc vq s A D nL ad0 n0 ad cA h lv st H locs ls) : ∀ v ∈ st, eg_okV h.1.length v := S.2.2.2.2.2.2.2.1
theorem eg_St.qv (S : eg_St sc vq s A D nL ad0 n0 ad cA h lv st H locs ls) : vq = .null ∨ ∃ a, vq = .ref a := S.2.2.2.2.2.2.2.2.1.2.2.2.2.2.2
theorem eg_St.at (S : eg_St sc vq s A D nL ad0 n0 ad cA h lv st H locs ls) {j : Nat} {v : eg_V} (hj : lv[j]? = some (some v)) : ls[j]? = some (.val (eg_ev ad vq v)) := S.2.2.2.1.2.2.1 j v hj
theorem eg_St.lok (S : eg_St sc vq s A D nL ad0 n0 ad cA h lv st H locs ls) {j : Nat} {v : eg_V} (hj : lv[j]? = some (some v)) : eg_okV h.1.length v := S.2.2.2.2.2.2.1 j v hj
theorem eg_rg32 (z : Int32) : -2147483648 ≤ z.toInt ∧ z.toInt < 2147483648 := ⟨z.le_toInt, z.toInt_lt⟩
theorem eg_rg64 (z : Int64) : -9223372036854775808 ≤ z.toInt ∧ z.toInt < 9223372036854775808 := ⟨z.le_toInt, z.toInt_lt⟩
theorem eg_c_iadd (F : eg_Fr p R s m args meth c A D cc nL o ini) (S : eg_St sc vq s A D nL ad0 n0 ad cA h lv st H locs ls) (k : eg_Kt K P sc vq s A D nL ad0 n0 p l e R m args below meth c Q)  (hd : decode cc pc = .ok (.iadd, 1)) (hn : eg_pc P (i + 1) = some (pc + 1)) (hi : eg_pi st fun y st => eg_pi st fun x st => K (i + 1) lv (.inl (eg_wi (x + y)) :: st) h cz sz) : W p l e R s m args below meth c H locs cz sz Q (F0 m pc ls (st.map (eg_ev ad vq))) := by
  obtain ⟨y, r0, rfl, g0⟩ := eg_pi_of hi
  obtain ⟨x, r1, rfl, g1⟩ := eg_pi_of g0
  have hi := g1
  have hs := S.sok
  obtain ⟨hy, hs⟩ := List.forall_mem_cons.mp hs
  obtain ⟨hx, hs⟩ := List.forall_mem_cons.mp hs
  refine lv_iadd F.1 F.2.1 hd ?_
  rw [← eg_add32 x y]
  exact eg_go (lv' := lv) k hi hn S (List.forall_mem_cons.mpr ⟨eg_wi_rg _, hs⟩)
theorem eg_c_isub (F : eg_Fr p R s m args meth c A D cc nL o ini) (S : eg_St sc vq s A D nL ad0 n0 ad cA h lv st H locs ls) (k : eg_Kt K P sc vq s A D nL ad0 n0 p l e R m args below meth c Q)  (hd : decode cc pc = .ok (.isub, 1)) (hn : eg_pc P (i + 1) = some (pc + 1)) (hi : eg_pi st fun y st => eg_pi st fun x st => K (i + 1) lv (.inl (eg_wi (x - y)) :: st) h cz sz) : W p l e R s m args below meth c H locs cz sz Q (F0 m pc ls (st.map (eg_ev ad vq))) := by
  obtain ⟨y, r0, rfl, g0⟩ := eg_pi_of hi
  obtain ⟨x, r1, rfl, g1⟩ := eg_pi_of g0
  have hi := g1
  have hs := S.sok
  obtain ⟨hy, hs⟩ := List.forall_mem_cons.mp hs
  obtain ⟨hx, hs⟩ := List.forall_mem_cons.mp hs
  refine lv_isub F.1 F.2.1 hd ?_
  rw [← eg_sub32 x y]
  exact eg_go (lv' := lv) k hi hn S (List.forall_mem_cons.mpr ⟨eg_wi_rg _, hs⟩)
theorem eg_c_imul (F : eg_Fr p R s m args meth c A D cc nL o ini) (S : eg_St sc vq s A D nL ad0 n0 ad cA h lv st H locs ls) (k : eg_Kt K P sc vq s A D nL ad0 n0 p l e R m args below meth c Q)  (hd : decode cc pc = .ok (.imul, 1)) (hn : eg_pc P (i + 1) = some (pc + 1)) (hi : eg_pi st fun y st => eg_pi st fun x st => K (i + 1) lv (.inl (eg_wi (x * y)) :: st) h cz sz) : W p l e R s m args below meth c H locs cz sz Q (F0 m pc ls (st.map (eg_ev ad vq))) := by
  obtain ⟨y, r0, rfl, g0⟩ := eg_pi_of hi
  obtain ⟨x, r1, rfl, g1⟩ := eg_pi_of g0
  have hi := g1
  have hs := S.sok
  obtain ⟨hy, hs⟩ := List.forall_mem_cons.mp hs
  obtain ⟨hx, hs⟩ := List.forall_mem_cons.mp hs
  refine lv_imul F.1 F.2.1 hd ?_
  rw [← eg_mul32 x y]
  exact eg_go (lv' := lv) k hi hn S (List.forall_mem_cons.mpr ⟨eg_wi_rg _, hs⟩)
theorem eg_c_ladd (F : eg_Fr p R s m args meth c A D cc nL o ini) (S : eg_St sc vq s A D nL ad0 n0 ad cA h lv st H locs ls) (k : eg_Kt K P sc vq s A D nL ad0 n0 p l e R m args below meth c Q)  (hd : decode cc pc = .ok (.ladd, 1)) (hn : eg_pc P (i + 1) = some (pc + 1)) (hi : eg_pl st fun y st => eg_pl st fun x st => K (i + 1) lv (.inr (.inl (eg_wl (x + y))) :: st) h cz sz) : W p l e R s m args below meth c H locs cz sz Q (F0 m pc ls (st.map (eg_ev ad vq))) := by
  obtain ⟨y, r0, rfl, g0⟩ := eg_pl_of hi
  obtain ⟨x, r1, rfl, g1⟩ := eg_pl_of g0
  have hi := g1
  have hs := S.sok
  obtain ⟨hy, hs⟩ := List.forall_mem_cons.mp hs
  obtain ⟨hx, hs⟩ := List.forall_mem_cons.mp hs
  refine lv_ladd F.1 F.2.1 hd ?_
  rw [← eg_add64 x y]
  exact eg_go (lv' := lv) k hi hn S (List.forall_mem_cons.mpr ⟨eg_wl_rg _, hs⟩)
theorem eg_c_lsub (F : eg_Fr p R s m args meth c A D cc nL o ini) (S : eg_St sc vq s A D nL ad0 n0 ad cA h lv st H locs ls) (k : eg_Kt K P sc vq s A D nL ad0 n0 p l e R m args below meth c Q)  (hd : decode cc pc = .ok (.lsub, 1)) (hn : eg_pc P (i + 1) = some (pc + 1)) (hi : eg_pl st fun y st => eg_pl st fun x st => K (i + 1) lv (.inr (.inl (eg_wl (x - y))) :: st) h cz sz) : W p l e R s m args below meth c H locs cz sz Q (F0 m pc ls (st.map (eg_ev ad vq))) := by
  obtain ⟨y, r0, rfl, g0⟩ := eg_pl_of hi
  obtain ⟨x, r1, rfl, g1⟩ := eg_pl_of g0
  have hi := g1
  have hs := S.sok
  obtain ⟨hy, hs⟩ := List.forall_mem_cons.mp hs
  obtain ⟨hx, hs⟩ := List.forall_mem_cons.mp hs
  refine lv_lsub F.1 F.2.1 hd ?_
  rw [← eg_sub64 x y]
  exact eg_go (lv' := lv) k hi hn S (List.forall_mem_cons.mpr ⟨eg_wl_rg _, hs⟩)
theorem eg_c_lmul (F : eg_Fr p R s m args meth c A D cc nL o ini) (S : eg_St sc vq s A D nL ad0 n0 ad cA h lv st H locs ls) (k : eg_Kt K P sc vq s A D nL ad0 n0 p l e R m args below meth c Q)  (hd : decode cc pc = .ok (.lmul, 1)) (hn : eg_pc P (i + 1) = some (pc + 1)) (hi : eg_pl st fun y st => eg_pl st fun x st => K (i + 1) lv (.inr (.inl (eg_wl (x * y))) :: st) h cz sz) : W p l e R s m args below meth c H locs cz sz Q (F0 m pc ls (st.map (eg_ev ad vq))) := by
  obtain ⟨y, r0, rfl, g0⟩ := eg_pl_of hi
  obtain ⟨x, r1, rfl, g1⟩ := eg_pl_of g0
  have hi := g1
  have hs := S.sok
  obtain ⟨hy, hs⟩ := List.forall_mem_cons.mp hs
  obtain ⟨hx, hs⟩ := List.forall_mem_cons.mp hs
  refine lv_lmul F.1 F.2.1 hd ?_
  rw [← eg_mul64 x y]
  exact eg_go (lv' := lv) k hi hn S (List.forall_mem_cons.mpr ⟨eg_wl_rg _, hs⟩)
theorem eg_c_idiv (F : eg_Fr p R s m args meth c A D cc nL o ini) (S : eg_St sc vq s A D nL ad0 n0 ad cA h lv st H locs ls) (k : eg_Kt K P sc vq s A D nL ad0 n0 p l e R m args below meth c Q)  (hd : decode cc pc = .ok (.idiv, 1)) (hn : eg_pc P (i + 1) = some (pc + 1)) (hi : eg_pi st fun y st => eg_pi st fun x st => ¬ y = 0 ∧ K (i + 1) lv (.inl (eg_wi (x.tdiv y)) :: st) h cz sz) : W p l e R s m args below meth c H locs cz sz Q (F0 m pc ls (st.map (eg_ev ad vq))) := by
  obtain ⟨y, r0, rfl, g0⟩ := eg_pi_of hi
  obtain ⟨x, r1, rfl, g1⟩ := eg_pi_of g0
  have hi := g1
  have hs := S.sok
  obtain ⟨hy, hs⟩ := List.forall_mem_cons.mp hs
  obtain ⟨hx, hs⟩ := List.forall_mem_cons.mp hs
  refine lv_idiv F.1 F.2.1 hd (fun z => hi.1 ((eg_eq32 hy ⟨by omega, by omega⟩).mp z)) ?_
  rw [← eg_div32 hx hy]
  exact eg_go (lv' := lv) k hi.2 hn S (List.forall_mem_cons.mpr ⟨eg_wi_rg _, hs⟩)
theorem eg_c_irem (F : eg_Fr p R s m args meth c A D cc nL o ini) (S : eg_St sc vq s A D nL ad0 n0 ad cA h lv st H locs ls) (k : eg_Kt K P sc vq s A D nL ad0 n0 p l e R m args below meth c Q)  (hd : decode cc pc = .ok (.irem, 1)) (hn : eg_pc P (i + 1) = some (pc + 1)) (hi : eg_pi st fun y st => eg_pi st fun x st => ¬ y = 0 ∧ K (i + 1) lv (.inl (eg_wi (x - eg_wi (x.tdiv y) * y)) :: st) h cz sz) : W p l e R s m args below meth c H locs cz sz Q (F0 m pc ls (st.map (eg_ev ad vq))) := by
  obtain ⟨y, r0, rfl, g0⟩ := eg_pi_of hi
  obtain ⟨x, r1, rfl, g1⟩ := eg_pi_of g0
  have hi := g1
  have hs := S.sok
  obtain ⟨hy, hs⟩ := List.forall_mem_cons.mp hs
  obtain ⟨hx, hs⟩ := List.forall_mem_cons.mp hs
  refine lv_irem F.1 F.2.1 hd (fun z => hi.1 ((eg_eq32 hy ⟨by omega, by omega⟩).mp z)) ?_
  rw [← eg_rem32 hx hy]
  exact eg_go (lv' := lv) k hi.2 hn S (List.forall_mem_cons.mpr ⟨eg_wi_rg _, hs⟩)
theorem eg_c_ldiv (F : eg_Fr p R s m args meth c A D cc nL o ini) (S : eg_St sc vq s A D nL ad0 n0 ad cA h lv st H locs ls) (k : eg_Kt K P sc vq s A D nL ad0 n0 p l e R m args below meth c Q)  (hd : decode cc pc = .ok (.ldiv, 1)) (hn : eg_pc P (i + 1) = some (pc + 1)) (hi : eg_pl st fun y st => eg_pl st fun x st => ¬ y = 0 ∧ K (i + 1) lv (.inr (.inl (eg_wl (x.tdiv y))) :: st) h cz sz) : W p l e R s m args below meth c H locs cz sz Q (F0 m pc ls (st.map (eg_ev ad vq))) := by
  obtain ⟨y, r0, rfl, g0⟩ := eg_pl_of hi
  obtain ⟨x, r1, rfl, g1⟩ := eg_pl_of g0
  have hi := g1
  have hs := S.sok
  obtain ⟨hy, hs⟩ := List.forall_mem_cons.mp hs
  obtain ⟨hx, hs⟩ := List.forall_mem_cons.mp hs
  have hy0 : ¬ Int64.ofInt y = 0 := fun z => hi.1 (by have z2 : Int64.ofInt y = Int64.ofInt 0 := z; rw [← Int64.toInt_inj, eg_t64c hy, eg_t64c ⟨by omega, by omega⟩] at z2; exact z2)
  refine lv_ldiv F.1 F.2.1 hd hy0 ?_
  rw [← eg_div64 hx hy]
  exact eg_go (lv' := lv) k hi.2 hn S (List.forall_mem_cons.mpr ⟨eg_wl_rg _, hs⟩)
theorem eg_c_lrem (F : eg_Fr p R s m args meth c A D cc nL o ini) (S : eg_St sc vq s A D nL ad0 n0 ad cA h lv st H locs ls) (k : eg_Kt K P sc vq s A D nL ad0 n0 p l e R m args below meth c Q)  (hd : decode cc pc = .ok (.lrem, 1)) (hn : eg_pc P (i + 1) = some (pc + 1)) (hi : eg_pl st fun y st => eg_pl st fun x st => ¬ y = 0 ∧ K (i + 1) lv (.inr (.inl (eg_wl (x - eg_wl (x.tdiv y) * y))) :: st) h cz sz) : W p l e R s m args below meth c H locs cz sz Q (F0 m pc ls (st.map (eg_ev ad vq))) := by
  obtain ⟨y, r0, rfl, g0⟩ := eg_pl_of hi
  obtain ⟨x, r1, rfl, g1⟩ := eg_pl_of g0
  have hi := g1
  have hs := S.sok
  obtain ⟨hy, hs⟩ := List.forall_mem_cons.mp hs
  obtain ⟨hx, hs⟩ := List.forall_mem_cons.mp hs
  have hy0 : ¬ Int64.ofInt y = 0 := fun z => hi.1 (by have z2 : Int64.ofInt y = Int64.ofInt 0 := z; rw [← Int64.toInt_inj, eg_t64c hy, eg_t64c ⟨by omega, by omega⟩] at z2; exact z2)
  refine lv_lrem F.1 F.2.1 hd hy0 ?_
  rw [← eg_rem64 hx hy]
  exact eg_go (lv' := lv) k hi.2 hn S (List.forall_mem_cons.mpr ⟨eg_wl_rg _, hs⟩)
theorem eg_c_ineg (F : eg_Fr p R s m args meth c A D cc nL o ini) (S : eg_St sc vq s A D nL ad0 n0 ad cA h lv st H locs ls) (k : eg_Kt K P sc vq s A D nL ad0 n0 p l e R m args below meth c Q)  (hd : decode cc pc = .ok (.ineg, 1)) (hn : eg_pc P (i + 1) = some (pc + 1)) (hi : eg_pi st fun x st => K (i + 1) lv (.inl (eg_wi (-x)) :: st) h cz sz) : W p l e R s m args below meth c H locs cz sz Q (F0 m pc ls (st.map (eg_ev ad vq))) := by
  obtain ⟨x, r0, rfl, g0⟩ := eg_pi_of hi
  have hi := g0
  have hs := S.sok
  obtain ⟨hx, hs⟩ := List.forall_mem_cons.mp hs
  refine lv_ineg F.1 F.2.1 hd ?_
  rw [← eg_neg32]
  exact eg_go (lv' := lv) k hi hn S (List.forall_mem_cons.mpr ⟨eg_wi_rg _, hs⟩)
theorem eg_c_lneg (F : eg_Fr p R s m args meth c A D cc nL o ini) (S : eg_St sc vq s A D nL ad0 n0 ad cA h lv st H locs ls) (k : eg_Kt K P sc vq s A D nL ad0 n0 p l e R m args below meth c Q)  (hd : decode cc pc = .ok (.lneg, 1)) (hn : eg_pc P (i + 1) = some (pc + 1)) (hi : eg_pl st fun x st => K (i + 1) lv (.inr (.inl (eg_wl (-x))) :: st) h cz sz) : W p l e R s m args below meth c H locs cz sz Q (F0 m pc ls (st.map (eg_ev ad vq))) := by
  obtain ⟨x, r0, rfl, g0⟩ := eg_pl_of hi
  have hi := g0
  have hs := S.sok
  obtain ⟨hx, hs⟩ := List.forall_mem_cons.mp hs
  refine lv_lneg F.1 F.2.1 hd ?_
  rw [← eg_neg64]
  exact eg_go (lv' := lv) k hi hn S (List.forall_mem_cons.mpr ⟨eg_wl_rg _, hs⟩)
theorem eg_c_iand (F : eg_Fr p R s m args meth c A D cc nL o ini) (S : eg_St sc vq s A D nL ad0 n0 ad cA h lv st H locs ls) (k : eg_Kt K P sc vq s A D nL ad0 n0 p l e R m args below meth c Q)  (hd : decode cc pc = .ok (.iand, 1)) (hn : eg_pc P (i + 1) = some (pc + 1)) (hi : eg_pi st fun y st => eg_pi st fun x st => K (i + 1) lv (.inl (Int32.ofInt x &&& Int32.ofInt y).toInt :: st) h cz sz) : W p l e R s m args below meth c H locs cz sz Q (F0 m pc ls (st.map (eg_ev ad vq))) := by
  obtain ⟨y, r0, rfl, g0⟩ := eg_pi_of hi
  obtain ⟨x, r1, rfl, g1⟩ := eg_pi_of g0
  have hi := g1
  have hs := S.sok
  obtain ⟨hy, hs⟩ := List.forall_mem_cons.mp hs
  obtain ⟨hx, hs⟩ := List.forall_mem_cons.mp hs
  refine lv_iand F.1 F.2.1 hd ?_
  rw [← Int32.ofInt_toInt (Int32.ofInt x &&& Int32.ofInt y)]
  exact eg_go (lv' := lv) k hi hn S (List.forall_mem_cons.mpr ⟨eg_rg32 _, hs⟩)
theorem eg_c_ishr (F : eg_Fr p R s m args meth c A D cc nL o ini) (S : eg_St sc vq s A D nL ad0 n0 ad cA h lv st H locs ls) (k : eg_Kt K P sc vq s A D nL ad0 n0 p l e R m args below meth c Q)  (hd : decode cc pc = .ok (.ishr, 1)) (hn : eg_pc P (i + 1) = some (pc + 1)) (hi : eg_pi st fun y st => eg_pi st fun x st => K (i + 1) lv (.inl (Int32.ofInt x >>> (Int32.ofInt y &&& 31)).toInt :: st) h cz sz) : W p l e R s m args below meth c H locs cz sz Q (F0 m pc ls (st.map (eg_ev ad vq))) := by
  obtain ⟨y, r0, rfl, g0⟩ := eg_pi_of hi
  obtain ⟨x, r1, rfl, g1⟩ := eg_pi_of g0
  have hi := g1
  have hs := S.sok
  obtain ⟨hy, hs⟩ := List.forall_mem_cons.mp hs
  obtain ⟨hx, hs⟩ := List.forall_mem_cons.mp hs
  refine lv_ishr F.1 F.2.1 hd ?_
  rw [← Int32.ofInt_toInt (Int32.ofInt x >>> (Int32.ofInt y &&& 31))]
  exact eg_go (lv' := lv) k hi hn S (List.forall_mem_cons.mpr ⟨eg_rg32 _, hs⟩)
theorem eg_c_land (F : eg_Fr p R s m args meth c A D cc nL o ini) (S : eg_St sc vq s A D nL ad0 n0 ad cA h lv st H locs ls) (k : eg_Kt K P sc vq s A D nL ad0 n0 p l e R m args below meth c Q)  (hd : decode cc pc = .ok (.land, 1)) (hn : eg_pc P (i + 1) = some (pc + 1)) (hi : eg_pl st fun y st => eg_pl st fun x st => K (i + 1) lv (.inr (.inl (Int64.ofInt x &&& Int64.ofInt y).toInt) :: st) h cz sz) : W p l e R s m args below meth c H locs cz sz Q (F0 m pc ls (st.map (eg_ev ad vq))) := by
  obtain ⟨y, r0, rfl, g0⟩ := eg_pl_of hi
  obtain ⟨x, r1, rfl, g1⟩ := eg_pl_of g0
  have hi := g1
  have hs := S.sok
  obtain ⟨hy, hs⟩ := List.forall_mem_cons.mp hs
  obtain ⟨hx, hs⟩ := List.forall_mem_cons.mp hs
  refine lv_land F.1 F.2.1 hd ?_
  rw [← Int64.ofInt_toInt (Int64.ofInt x &&& Int64.ofInt y)]
  exact eg_go (lv' := lv) k hi hn S (List.forall_mem_cons.mpr ⟨eg_rg64 _, hs⟩)
theorem eg_c_lor (F : eg_Fr p R s m args meth c A D cc nL o ini) (S : eg_St sc vq s A D nL ad0 n0 ad cA h lv st H locs ls) (k : eg_Kt K P sc vq s A D nL ad0 n0 p l e R m args below meth c Q)  (hd : decode cc pc = .ok (.lor, 1)) (hn : eg_pc P (i + 1) = some (pc + 1)) (hi : eg_pl st fun y st => eg_pl st fun x st => K (i + 1) lv (.inr (.inl (Int64.ofInt x ||| Int64.ofInt y).toInt) :: st) h cz sz) : W p l e R s m args below meth c H locs cz sz Q (F0 m pc ls (st.map (eg_ev ad vq))) := by
  obtain ⟨y, r0, rfl, g0⟩ := eg_pl_of hi
  obtain ⟨x, r1, rfl, g1⟩ := eg_pl_of g0
  have hi := g1
  have hs := S.sok
  obtain ⟨hy, hs⟩ := List.forall_mem_cons.mp hs
  obtain ⟨hx, hs⟩ := List.forall_mem_cons.mp hs
  refine lv_lor F.1 F.2.1 hd ?_
  rw [← Int64.ofInt_toInt (Int64.ofInt x ||| Int64.ofInt y)]
  exact eg_go (lv' := lv) k hi hn S (List.forall_mem_cons.mpr ⟨eg_rg64 _, hs⟩)
theorem eg_c_lshl (F : eg_Fr p R s m args meth c A D cc nL o ini) (S : eg_St sc vq s A D nL ad0 n0 ad cA h lv st H locs ls) (k : eg_Kt K P sc vq s A D nL ad0 n0 p l e R m args below meth c Q)  (hd : decode cc pc = .ok (.lshl, 1)) (hn : eg_pc P (i + 1) = some (pc + 1)) (hi : eg_pi st fun y st => eg_pl st fun x st => K (i + 1) lv (.inr (.inl (Int64.ofInt x <<< ((Int32.ofInt y).toInt64 &&& 63)).toInt) :: st) h cz sz) : W p l e R s m args below meth c H locs cz sz Q (F0 m pc ls (st.map (eg_ev ad vq))) := by
  obtain ⟨y, r0, rfl, g0⟩ := eg_pi_of hi
  obtain ⟨x, r1, rfl, g1⟩ := eg_pl_of g0
  have hi := g1
  have hs := S.sok
  obtain ⟨hy, hs⟩ := List.forall_mem_cons.mp hs
  obtain ⟨hx, hs⟩ := List.forall_mem_cons.mp hs
  refine lv_lshl F.1 F.2.1 hd rfl ?_
  rw [← Int64.ofInt_toInt (Int64.ofInt x <<< ((Int32.ofInt y).toInt64 &&& 63))]
  exact eg_go (lv' := lv) k hi hn S (List.forall_mem_cons.mpr ⟨eg_rg64 _, hs⟩)
theorem eg_c_lshr (F : eg_Fr p R s m args meth c A D cc nL o ini) (S : eg_St sc vq s A D nL ad0 n0 ad cA h lv st H locs ls) (k : eg_Kt K P sc vq s A D nL ad0 n0 p l e R m args below meth c Q)  (hd : decode cc pc = .ok (.lshr, 1)) (hn : eg_pc P (i + 1) = some (pc + 1)) (hi : eg_pi st fun y st => eg_pl st fun x st => K (i + 1) lv (.inr (.inl (Int64.ofInt x >>> ((Int32.ofInt y).toInt64 &&& 63)).toInt) :: st) h cz sz) : W p l e R s m args below meth c H locs cz sz Q (F0 m pc ls (st.map (eg_ev ad vq))) := by
  obtain ⟨y, r0, rfl, g0⟩ := eg_pi_of hi
  obtain ⟨x, r1, rfl, g1⟩ := eg_pl_of g0
  have hi := g1
  have hs := S.sok
  obtain ⟨hy, hs⟩ := List.forall_mem_cons.mp hs
  obtain ⟨hx, hs⟩ := List.forall_mem_cons.mp hs
  refine lv_lshr F.1 F.2.1 hd rfl ?_
  rw [← Int64.ofInt_toInt (Int64.ofInt x >>> ((Int32.ofInt y).toInt64 &&& 63))]
  exact eg_go (lv' := lv) k hi hn S (List.forall_mem_cons.mpr ⟨eg_rg64 _, hs⟩)
theorem eg_c_lcmp (F : eg_Fr p R s m args meth c A D cc nL o ini) (S : eg_St sc vq s A D nL ad0 n0 ad cA h lv st H locs ls) (k : eg_Kt K P sc vq s A D nL ad0 n0 p l e R m args below meth c Q)  (hd : decode cc pc = .ok (.lcmp, 1)) (hn : eg_pc P (i + 1) = some (pc + 1)) (hi : eg_pl st fun y st => eg_pl st fun x st => K (i + 1) lv (.inl (if y < x then 1 else if x = y then 0 else -1) :: st) h cz sz) : W p l e R s m args below meth c H locs cz sz Q (F0 m pc ls (st.map (eg_ev ad vq))) := by
  obtain ⟨y, r0, rfl, g0⟩ := eg_pl_of hi
  obtain ⟨x, r1, rfl, g1⟩ := eg_pl_of g0
  have hi := g1
  have hs := S.sok
  obtain ⟨hy, hs⟩ := List.forall_mem_cons.mp hs
  obtain ⟨hx, hs⟩ := List.forall_mem_cons.mp hs
  refine W.lcmp F.1 F.2.1 hd ?_
  rw [← eg_cmp64 hx hy]
  exact eg_go (lv' := lv) k hi hn S (List.forall_mem_cons.mpr ⟨by show _ ∧ _; split <;> (try split) <;> exact ⟨by omega, by omega⟩, hs⟩)
theorem eg_c_i2l (F : eg_Fr p R s m args meth c A D cc nL o ini) (S : eg_St sc vq s A D nL ad0 n0 ad cA h lv st H locs ls) (k : eg_Kt K P sc vq s A D nL ad0 n0 p l e R m args below meth c Q)  (hd : decode cc pc = .ok (.i2l, 1)) (hn : eg_pc P (i + 1) = some (pc + 1)) (hi : eg_pi st fun x st => K (i + 1) lv (.inr (.inl x) :: st) h cz sz) : W p l e R s m args below meth c H locs cz sz Q (F0 m pc ls (st.map (eg_ev ad vq))) := by
  obtain ⟨x, r0, rfl, g0⟩ := eg_pi_of hi
  have hi := g0
  have hs := S.sok
  obtain ⟨hx, hs⟩ := List.forall_mem_cons.mp hs
  refine lv_i2l F.1 F.2.1 hd (eg_i2l hx) ?_
  exact eg_go (lv' := lv) k hi hn S (List.forall_mem_cons.mpr ⟨by show _ ∧ _; have hx2 : -2147483648 ≤ x ∧ x < 2147483648 := hx; omega, hs⟩)
theorem eg_c_i2b (F : eg_Fr p R s m args meth c A D cc nL o ini) (S : eg_St sc vq s A D nL ad0 n0 ad cA h lv st H locs ls) (k : eg_Kt K P sc vq s A D nL ad0 n0 p l e R m args below meth c Q)  (hd : decode cc pc = .ok (.i2b, 1)) (hn : eg_pc P (i + 1) = some (pc + 1)) (hi : eg_pi st fun x st => K (i + 1) lv (.inl (eg_wb x) :: st) h cz sz) : W p l e R s m args below meth c H locs cz sz Q (F0 m pc ls (st.map (eg_ev ad vq))) := by
  obtain ⟨x, r0, rfl, g0⟩ := eg_pi_of hi
  have hi := g0
  have hs := S.sok
  obtain ⟨hx, hs⟩ := List.forall_mem_cons.mp hs
  refine lv_i2b F.1 F.2.1 hd (eg_i2b x) ?_
  exact eg_go (lv' := lv) k hi hn S (List.forall_mem_cons.mpr ⟨by show _ ∧ _; unfold eg_wb; omega, hs⟩)
theorem eg_c_i2s (F : eg_Fr p R s m args meth c A D cc nL o ini) (S : eg_St sc vq s A D nL ad0 n0 ad cA h lv st H locs ls) (k : eg_Kt K P sc vq s A D nL ad0 n0 p l e R m args below meth c Q)  (hd : decode cc pc = .ok (.i2s, 1)) (hn : eg_pc P (i + 1) = some (pc + 1)) (hi : eg_pi st fun x st => K (i + 1) lv (.inl (eg_ws x) :: st) h cz sz) : W p l e R s m args below meth c H locs cz sz Q (F0 m pc ls (st.map (eg_ev ad vq))) := by
  obtain ⟨x, r0, rfl, g0⟩ := eg_pi_of hi
  have hi := g0
  have hs := S.sok
  obtain ⟨hx, hs⟩ := List.forall_mem_cons.mp hs
  refine lv_i2s F.1 F.2.1 hd (eg_i2s x) ?_
  exact eg_go (lv' := lv) k hi hn S (List.forall_mem_cons.mpr ⟨by show _ ∧ _; unfold eg_ws; omega, hs⟩)
theorem eg_c_i2c (F : eg_Fr p R s m args meth c A D cc nL o ini) (S : eg_St sc vq s A D nL ad0 n0 ad cA h lv st H locs ls) (k : eg_Kt K P sc vq s A D nL ad0 n0 p l e R m args below meth c Q)  (hd : decode cc pc = .ok (.i2c, 1)) (hn : eg_pc P (i + 1) = some (pc + 1)) (hi : eg_pi st fun x st => K (i + 1) lv (.inl (x % 65536) :: st) h cz sz) : W p l e R s m args below meth c H locs cz sz Q (F0 m pc ls (st.map (eg_ev ad vq))) := by
  obtain ⟨x, r0, rfl, g0⟩ := eg_pi_of hi
  have hi := g0
  have hs := S.sok
  obtain ⟨hx, hs⟩ := List.forall_mem_cons.mp hs
  refine lv_i2c F.1 F.2.1 hd (eg_i2c x) ?_
  exact eg_go (lv' := lv) k hi hn S (List.forall_mem_cons.mpr ⟨by show _ ∧ _; omega, hs⟩)
theorem eg_c_l2i (F : eg_Fr p R s m args meth c A D cc nL o ini) (S : eg_St sc vq s A D nL ad0 n0 ad cA h lv st H locs ls) (k : eg_Kt K P sc vq s A D nL ad0 n0 p l e R m args below meth c Q)  (hd : decode cc pc = .ok (.l2i, 1)) (hn : eg_pc P (i + 1) = some (pc + 1)) (hi : eg_pl st fun x st => K (i + 1) lv (.inl (eg_wi x) :: st) h cz sz) : W p l e R s m args below meth c H locs cz sz Q (F0 m pc ls (st.map (eg_ev ad vq))) := by
  obtain ⟨x, r0, rfl, g0⟩ := eg_pl_of hi
  have hi := g0
  have hs := S.sok
  obtain ⟨hx, hs⟩ := List.forall_mem_cons.mp hs
  refine lv_l2i F.1 F.2.1 hd (eg_l2i x) ?_
  exact eg_go (lv' := lv) k hi hn S (List.forall_mem_cons.mpr ⟨eg_wi_rg _, hs⟩)
theorem eg_c_dup (F : eg_Fr p R s m args meth c A D cc nL o ini) (S : eg_St sc vq s A D nL ad0 n0 ad cA h lv st H locs ls) (k : eg_Kt K P sc vq s A D nL ad0 n0 p l e R m args below meth c Q)  (hd : decode cc pc = .ok (.dup, 1)) (hn : eg_pc P (i + 1) = some (pc + 1)) (hi : eg_po st fun v st => K (i + 1) lv (v :: v :: st) h cz sz) : W p l e R s m args below meth c H locs cz sz Q (F0 m pc ls (st.map (eg_ev ad vq))) := by
  obtain ⟨v, r, rfl, hw, g0⟩ := eg_po_of hi
  have hi := g0
  obtain ⟨hv, hs⟩ := List.forall_mem_cons.mp S.sok
  refine lv_dup F.1 F.2.1 hd (by rw [eg_cat v ad S.qv, hw]) ?_
  exact eg_go (lv' := lv) k hi hn S (List.forall_mem_cons.mpr ⟨hv, List.forall_mem_cons.mpr ⟨hv, hs⟩⟩)
theorem eg_c_pop (F : eg_Fr p R s m args meth c A D cc nL o ini) (S : eg_St sc vq s A D nL ad0 n0 ad cA h lv st H locs ls) (k : eg_Kt K P sc vq s A D nL ad0 n0 p l e R m args below meth c Q)  (hd : decode cc pc = .ok (.pop, 1)) (hn : eg_pc P (i + 1) = some (pc + 1)) (hi : eg_po st fun _ st => K (i + 1) lv st h cz sz) : W p l e R s m args below meth c H locs cz sz Q (F0 m pc ls (st.map (eg_ev ad vq))) := by
  obtain ⟨v, r, rfl, hw, g0⟩ := eg_po_of hi
  have hi := g0
  obtain ⟨hv, hs⟩ := List.forall_mem_cons.mp S.sok
  refine lv_pop F.1 F.2.1 hd (by rw [eg_cat v ad S.qv, hw]) ?_
  exact eg_go (lv' := lv) k hi hn S hs
theorem eg_c_dup2 (F : eg_Fr p R s m args meth c A D cc nL o ini) (S : eg_St sc vq s A D nL ad0 n0 ad cA h lv st H locs ls) (k : eg_Kt K P sc vq s A D nL ad0 n0 p l e R m args below meth c Q)  (hd : decode cc pc = .ok (.dup2, 1)) (hn : eg_pc P (i + 1) = some (pc + 1)) (hi : eg_po st fun v st => eg_po st fun w st => K (i + 1) lv (v :: w :: v :: w :: st) h cz sz) : W p l e R s m args below meth c H locs cz sz Q (F0 m pc ls (st.map (eg_ev ad vq))) := by
  obtain ⟨v, r, rfl, hw, g0⟩ := eg_po_of hi
  obtain ⟨w, r2, rfl, hw2, g1⟩ := eg_po_of g0
  have hi := g1
  obtain ⟨hv, hs⟩ := List.forall_mem_cons.mp S.sok
  obtain ⟨hv2, hs⟩ := List.forall_mem_cons.mp hs
  refine lv_dup2_11 F.1 F.2.1 hd (by rw [eg_cat v ad S.qv, hw]) (by rw [eg_cat w ad S.qv, hw2]) ?_
  exact eg_go (lv' := lv) k hi hn S (List.forall_mem_cons.mpr ⟨hv, List.forall_mem_cons.mpr ⟨hv2, List.forall_mem_cons.mpr ⟨hv, List.forall_mem_cons.mpr ⟨hv2, hs⟩⟩⟩⟩)
theorem eg_c_iconst (F : eg_Fr p R s m args meth c A D cc nL o ini) (S : eg_St sc vq s A D nL ad0 n0 ad cA h lv st H locs ls) (k : eg_Kt K P sc vq s A D nL ad0 n0 p l e R m args below meth c Q) {n : Int} (hr : -128 ≤ n ∧ n < 128) (hd : decode cc pc = .ok (.iconst n, 1)) (hn : eg_pc P (i + 1) = some (pc + 1)) (hi : K (i + 1) lv (.inl n :: st) h cz sz) : W p l e R s m args below meth c H locs cz sz Q (F0 m pc ls (st.map (eg_ev ad vq))) := by
  refine lv_iconst (v := Int32.ofInt n) F.1 F.2.1 hd rfl ?_
  exact eg_go (lv' := lv) k hi hn S (List.forall_mem_cons.mpr ⟨by show _ ∧ _; omega, S.sok⟩)
theorem eg_c_bipush (F : eg_Fr p R s m args meth c A D cc nL o ini) (S : eg_St sc vq s A D nL ad0 n0 ad cA h lv st H locs ls) (k : eg_Kt K P sc vq s A D nL ad0 n0 p l e R m args below meth c Q) {n : Int} (hr : -128 ≤ n ∧ n < 128) (hd : decode cc pc = .ok (.bipush n, 2)) (hn : eg_pc P (i + 1) = some (pc + 2)) (hi : K (i + 1) lv (.inl n :: st) h cz sz) : W p l e R s m args below meth c H locs cz sz Q (F0 m pc ls (st.map (eg_ev ad vq))) := by
  refine lv_bipush (v := Int32.ofInt n) F.1 F.2.1 hd (Int8.toInt32_ofInt hr.1 (by show n ≤ 127; omega)) ?_
  exact eg_go (lv' := lv) k hi hn S (List.forall_mem_cons.mpr ⟨by show _ ∧ _; omega, S.sok⟩)
theorem eg_c_sipush (F : eg_Fr p R s m args meth c A D cc nL o ini) (S : eg_St sc vq s A D nL ad0 n0 ad cA h lv st H locs ls) (k : eg_Kt K P sc vq s A D nL ad0 n0 p l e R m args below meth c Q) {n : Int} (hr : -32768 ≤ n ∧ n < 32768) (hd : decode cc pc = .ok (.sipush n, 3)) (hn : eg_pc P (i + 1) = some (pc + 3)) (hi : K (i + 1) lv (.inl n :: st) h cz sz) : W p l e R s m args below meth c H locs cz sz Q (F0 m pc ls (st.map (eg_ev ad vq))) := by
  refine lv_sipush (v := Int32.ofInt n) F.1 F.2.1 hd (Int16.toInt32_ofInt hr.1 (by show n ≤ 32767; omega)) ?_
  exact eg_go (lv' := lv) k hi hn S (List.forall_mem_cons.mpr ⟨by show _ ∧ _; omega, S.sok⟩)
theorem eg_c_lconst (F : eg_Fr p R s m args meth c A D cc nL o ini) (S : eg_St sc vq s A D nL ad0 n0 ad cA h lv st H locs ls) (k : eg_Kt K P sc vq s A D nL ad0 n0 p l e R m args below meth c Q) {n : Fin 2} (hd : decode cc pc = .ok (.lconst n, 1)) (hn : eg_pc P (i + 1) = some (pc + 1)) (hi : K (i + 1) lv (.inr (.inl ((n : Nat) : Int)) :: st) h cz sz) : W p l e R s m args below meth c H locs cz sz Q (F0 m pc ls (st.map (eg_ev ad vq))) := by
  refine lv_lconst (v := Int64.ofInt ((n : Nat) : Int)) F.1 F.2.1 hd (by rw [Int64.ofInt_eq_ofNat]) ?_
  exact eg_go (lv' := lv) k hi hn S (List.forall_mem_cons.mpr ⟨by show _ ∧ _; have := n.isLt; omega, S.sok⟩)
theorem eg_c_ldc (F : eg_Fr p R s m args meth c A D cc nL o ini) (S : eg_St sc vq s A D nL ad0 n0 ad cA h lv st H locs ls) (k : eg_Kt K P sc vq s A D nL ad0 n0 p l e R m args below meth c Q) {n : Nat} {v : Int} (hr : -2147483648 ≤ v ∧ v < 2147483648) (hw : Cond.constant (eg_on.getD o "") n (Int32.ofInt v) ∈ eg_gw) (hd : decode cc pc = .ok (.ldc n, 2)) (hn : eg_pc P (i + 1) = some (pc + 2)) (hi : K (i + 1) lv (.inl v :: st) h cz sz) : W p l e R s m args below meth c H locs cz sz Q (F0 m pc ls (st.map (eg_ev ad vq))) := by
  refine lv_ldc (v := Int32.ofInt v) F.1 F.2.1 F.2.2.2.1 (F.2.2.2.2.1 _ hw) hd ?_
  exact eg_go (lv' := lv) k hi hn S (List.forall_mem_cons.mpr ⟨hr, S.sok⟩)
theorem eg_c_ldc2 (F : eg_Fr p R s m args meth c A D cc nL o ini) (S : eg_St sc vq s A D nL ad0 n0 ad cA h lv st H locs ls) (k : eg_Kt K P sc vq s A D nL ad0 n0 p l e R m args below meth c Q) {n : Nat} {v : Int} (hr : -9223372036854775808 ≤ v ∧ v < 9223372036854775808) (hw : Cond.constantLong (eg_on.getD o "") n (Int64.ofInt v) ∈ eg_gw) (hd : decode cc pc = .ok (.ldc2_w n, 3)) (hn : eg_pc P (i + 1) = some (pc + 3)) (hi : K (i + 1) lv (.inr (.inl v) :: st) h cz sz) : W p l e R s m args below meth c H locs cz sz Q (F0 m pc ls (st.map (eg_ev ad vq))) := by
  refine lv_ldc2 (v := Int64.ofInt v) F.1 F.2.1 F.2.2.2.1 (F.2.2.2.2.1 _ hw) hd ?_
  exact eg_go (lv' := lv) k hi hn S (List.forall_mem_cons.mpr ⟨hr, S.sok⟩)
theorem eg_c_ldcS (F : eg_Fr p R s m args meth c A D cc nL o ini) (S : eg_St sc vq s A D nL ad0 n0 ad cA h lv st H locs ls) (k : eg_Kt K P sc vq s A D nL ad0 n0 p l e R m args below meth c Q) {n j : Nat} {tx : String} (hZ : vk_R (eg_on.getD o "") n tx (ad (1000200 + j)) s) (hd : decode cc pc = .ok (.ldc n, 2)) (hn : eg_pc P (i + 1) = some (pc + 2)) (hi : K (i + 1) lv (.inr (.inr (some (1000200 + j))) :: st) h cz sz) : W p l e R s m args below meth c H locs cz sz Q (F0 m pc ls (st.map (eg_ev ad vq))) := by
  refine va_ldcS F.1 F.2.1 F.2.2.2.1 hZ hd ?_
  exact eg_go (lv' := lv) k hi hn S (List.forall_mem_cons.mpr ⟨Or.inr (by omega), S.sok⟩)
theorem eg_c_iload (F : eg_Fr p R s m args meth c A D cc nL o ini) (S : eg_St sc vq s A D nL ad0 n0 ad cA h lv st H locs ls) (k : eg_Kt K P sc vq s A D nL ad0 n0 p l e R m args below meth c Q) {j : Nat} (hd : decode cc pc = .ok (.iload j, 2)) (hn : eg_pc P (i + 1) = some (pc + 2)) (hi : eg_li lv j fun x => K (i + 1) lv (.inl x :: st) h cz sz) : W p l e R s m args below meth c H locs cz sz Q (F0 m pc ls (st.map (eg_ev ad vq))) := by
  obtain ⟨x, hx, hi⟩ := eg_li_of hi
  refine lv_iload F.1 F.2.1 hd (S.at hx) ?_
  exact eg_go (lv' := lv) k hi hn S (List.forall_mem_cons.mpr ⟨S.lok hx, S.sok⟩)
theorem eg_c_iload_n (F : eg_Fr p R s m args meth c A D cc nL o ini) (S : eg_St sc vq s A D nL ad0 n0 ad cA h lv st H locs ls) (k : eg_Kt K P sc vq s A D nL ad0 n0 p l e R m args below meth c Q) {j : Nat} {q : Fin 4} (hj : (q : Nat) = j) (hd : decode cc pc = .ok (.iload_n q, 1)) (hn : eg_pc P (i + 1) = some (pc + 1)) (hi : eg_li lv j fun x => K (i + 1) lv (.inl x :: st) h cz sz) : W p l e R s m args below meth c H locs cz sz Q (F0 m pc ls (st.map (eg_ev ad vq))) := by
  obtain ⟨x, hx, hi⟩ := eg_li_of hi
  refine lv_iload_n F.1 F.2.1 hd hj (S.at hx) ?_
  exact eg_go (lv' := lv) k hi hn S (List.forall_mem_cons.mpr ⟨S.lok hx, S.sok⟩)
theorem eg_c_lload (F : eg_Fr p R s m args meth c A D cc nL o ini) (S : eg_St sc vq s A D nL ad0 n0 ad cA h lv st H locs ls) (k : eg_Kt K P sc vq s A D nL ad0 n0 p l e R m args below meth c Q) {j : Nat} (hd : decode cc pc = .ok (.lload j, 2)) (hn : eg_pc P (i + 1) = some (pc + 2)) (hi : eg_ll lv j fun x => K (i + 1) lv (.inr (.inl x) :: st) h cz sz) : W p l e R s m args below meth c H locs cz sz Q (F0 m pc ls (st.map (eg_ev ad vq))) := by
  obtain ⟨x, hx, hi⟩ := eg_ll_of hi
  refine lv_lload F.1 F.2.1 hd (S.at hx) ?_
  exact eg_go (lv' := lv) k hi hn S (List.forall_mem_cons.mpr ⟨S.lok hx, S.sok⟩)
theorem eg_c_lload_n (F : eg_Fr p R s m args meth c A D cc nL o ini) (S : eg_St sc vq s A D nL ad0 n0 ad cA h lv st H locs ls) (k : eg_Kt K P sc vq s A D nL ad0 n0 p l e R m args below meth c Q) {j : Nat} {q : Fin 4} (hj : (q : Nat) = j) (hd : decode cc pc = .ok (.lload_n q, 1)) (hn : eg_pc P (i + 1) = some (pc + 1)) (hi : eg_ll lv j fun x => K (i + 1) lv (.inr (.inl x) :: st) h cz sz) : W p l e R s m args below meth c H locs cz sz Q (F0 m pc ls (st.map (eg_ev ad vq))) := by
  obtain ⟨x, hx, hi⟩ := eg_ll_of hi
  refine lv_lload_n F.1 F.2.1 hd hj (S.at hx) ?_
  exact eg_go (lv' := lv) k hi hn S (List.forall_mem_cons.mpr ⟨S.lok hx, S.sok⟩)
theorem eg_c_aload (F : eg_Fr p R s m args meth c A D cc nL o ini) (S : eg_St sc vq s A D nL ad0 n0 ad cA h lv st H locs ls) (k : eg_Kt K P sc vq s A D nL ad0 n0 p l e R m args below meth c Q) {j : Nat} (hd : decode cc pc = .ok (.aload j, 2)) (hn : eg_pc P (i + 1) = some (pc + 2)) (hi : eg_lr lv j fun x => K (i + 1) lv (.inr (.inr (some x)) :: st) h cz sz) : W p l e R s m args below meth c H locs cz sz Q (F0 m pc ls (st.map (eg_ev ad vq))) := by
  obtain ⟨x, hx, hi⟩ := eg_lr_of hi
  refine lv_aload F.1 F.2.1 hd (S.at hx) ?_
  exact eg_go (lv' := lv) k hi hn S (List.forall_mem_cons.mpr ⟨S.lok hx, S.sok⟩)
theorem eg_c_aload_n (F : eg_Fr p R s m args meth c A D cc nL o ini) (S : eg_St sc vq s A D nL ad0 n0 ad cA h lv st H locs ls) (k : eg_Kt K P sc vq s A D nL ad0 n0 p l e R m args below meth c Q) {j : Nat} {q : Fin 4} (hj : (q : Nat) = j) (hd : decode cc pc = .ok (.aload_n q, 1)) (hn : eg_pc P (i + 1) = some (pc + 1)) (hi : eg_lr lv j fun x => K (i + 1) lv (.inr (.inr (some x)) :: st) h cz sz) : W p l e R s m args below meth c H locs cz sz Q (F0 m pc ls (st.map (eg_ev ad vq))) := by
  obtain ⟨x, hx, hi⟩ := eg_lr_of hi
  refine lv_aload_n F.1 F.2.1 hd hj (S.at hx) ?_
  exact eg_go (lv' := lv) k hi hn S (List.forall_mem_cons.mpr ⟨S.lok hx, S.sok⟩)
theorem eg_c_istore (F : eg_Fr p R s m args meth c A D cc nL o ini) (S : eg_St sc vq s A D nL ad0 n0 ad cA h lv st H locs ls) (k : eg_Kt K P sc vq s A D nL ad0 n0 p l e R m args below meth c Q) {j : Nat} (hjn : j < nL) (hd : decode cc pc = .ok (.istore j, 2)) (hn : eg_pc P (i + 1) = some (pc + 2)) (hi : eg_pi st fun x st => K (i + 1) (eg_s1 lv j (.inl x)) st h cz sz) : W p l e R s m args below meth c H locs cz sz Q (F0 m pc ls (st.map (eg_ev ad vq))) := by
  obtain ⟨x, r0, rfl, g0⟩ := eg_pi_of hi
  have hi := g0
  have hs := S.sok
  obtain ⟨hx, hs⟩ := List.forall_mem_cons.mp hs
  refine lv_istore F.1 F.2.1 hd S.has hjn rfl (fun ls' h' => ?_)
  exact k _ _ _ _ _ _ _ hi hn _ _ _ _ _ ((S.stk hs).s1 hjn hx rfl h')
theorem eg_c_istore_n (F : eg_Fr p R s m args meth c A D cc nL o ini) (S : eg_St sc vq s A D nL ad0 n0 ad cA h lv st H locs ls) (k : eg_Kt K P sc vq s A D nL ad0 n0 p l e R m args below meth c Q) {j : Nat} {q : Fin 4} (hj : (q : Nat) = j) (hjn : j < nL) (hd : decode cc pc = .ok (.istore_n q, 1)) (hn : eg_pc P (i + 1) = some (pc + 1)) (hi : eg_pi st fun x st => K (i + 1) (eg_s1 lv j (.inl x)) st h cz sz) : W p l e R s m args below meth c H locs cz sz Q (F0 m pc ls (st.map (eg_ev ad vq))) := by
  obtain ⟨x, r0, rfl, g0⟩ := eg_pi_of hi
  have hi := g0
  have hs := S.sok
  obtain ⟨hx, hs⟩ := List.forall_mem_cons.mp hs
  refine lv_istore_n F.1 F.2.1 hd hj S.has hjn rfl (fun ls' h' => ?_)
  exact k _ _ _ _ _ _ _ hi hn _ _ _ _ _ ((S.stk hs).s1 hjn hx rfl h')
theorem eg_c_lstore (F : eg_Fr p R s m args meth c A D cc nL o ini) (S : eg_St sc vq s A D nL ad0 n0 ad cA h lv st H locs ls) (k : eg_Kt K P sc vq s A D nL ad0 n0 p l e R m args below meth c Q) {j : Nat} (hjn : j + 1 < nL) (hd : decode cc pc = .ok (.lstore j, 2)) (hn : eg_pc P (i + 1) = some (pc + 2)) (hi : eg_pl st fun x st => K (i + 1) (eg_s2 lv j (.inr (.inl x))) st h cz sz) : W p l e R s m args below meth c H locs cz sz Q (F0 m pc ls (st.map (eg_ev ad vq))) := by
  obtain ⟨x, r0, rfl, g0⟩ := eg_pl_of hi
  have hi := g0
  have hs := S.sok
  obtain ⟨hx, hs⟩ := List.forall_mem_cons.mp hs
  refine lv_lstore F.1 F.2.1 hd S.has hjn rfl (fun ls' h' => ?_)
  exact k _ _ _ _ _ _ _ hi hn _ _ _ _ _ ((S.stk hs).s2 hjn hx h')
theorem eg_c_lstore_n (F : eg_Fr p R s m args meth c A D cc nL o ini) (S : eg_St sc vq s A D nL ad0 n0 ad cA h lv st H locs ls) (k : eg_Kt K P sc vq s A D nL ad0 n0 p l e R m args below meth c Q) {j : Nat} {q : Fin 4} (hj : (q : Nat) = j) (hjn : j + 1 < nL) (hd : decode cc pc = .ok (.lstore_n q, 1)) (hn : eg_pc P (i + 1) = some (pc + 1)) (hi : eg_pl st fun x st => K (i + 1) (eg_s2 lv j (.inr (.inl x))) st h cz sz) : W p l e R s m args below meth c H locs cz sz Q (F0 m pc ls (st.map (eg_ev ad vq))) := by
  obtain ⟨x, r0, rfl, g0⟩ := eg_pl_of hi
  have hi := g0
  have hs := S.sok
  obtain ⟨hx, hs⟩ := List.forall_mem_cons.mp hs
  refine lv_lstore_n F.1 F.2.1 hd hj S.has hjn rfl (fun ls' h' => ?_)
  exact k _ _ _ _ _ _ _ hi hn _ _ _ _ _ ((S.stk hs).s2 hjn hx h')
theorem eg_c_astore (F : eg_Fr p R s m args meth c A D cc nL o ini) (S : eg_St sc vq s A D nL ad0 n0 ad cA h lv st H locs ls) (k : eg_Kt K P sc vq s A D nL ad0 n0 p l e R m args below meth c Q) {j : Nat} (hjn : j < nL) (hd : decode cc pc = .ok (.astore j, 2)) (hn : eg_pc P (i + 1) = some (pc + 2)) (hi : eg_pr st fun x st => K (i + 1) (eg_s1 lv j (.inr (.inr (some x)))) st h cz sz) : W p l e R s m args below meth c H locs cz sz Q (F0 m pc ls (st.map (eg_ev ad vq))) := by
  obtain ⟨x, r0, rfl, g0⟩ := eg_pr_of hi
  have hi := g0
  have hs := S.sok
  obtain ⟨hx, hs⟩ := List.forall_mem_cons.mp hs
  refine lv_astore F.1 F.2.1 hd S.has hjn rfl (fun ls' h' => ?_)
  exact k _ _ _ _ _ _ _ hi hn _ _ _ _ _ ((S.stk hs).s1 hjn hx rfl h')
theorem eg_c_astore_n (F : eg_Fr p R s m args meth c A D cc nL o ini) (S : eg_St sc vq s A D nL ad0 n0 ad cA h lv st H locs ls) (k : eg_Kt K P sc vq s A D nL ad0 n0 p l e R m args below meth c Q) {j : Nat} {q : Fin 4} (hj : (q : Nat) = j) (hjn : j < nL) (hd : decode cc pc = .ok (.astore_n q, 1)) (hn : eg_pc P (i + 1) = some (pc + 1)) (hi : eg_pr st fun x st => K (i + 1) (eg_s1 lv j (.inr (.inr (some x)))) st h cz sz) : W p l e R s m args below meth c H locs cz sz Q (F0 m pc ls (st.map (eg_ev ad vq))) := by
  obtain ⟨x, r0, rfl, g0⟩ := eg_pr_of hi
  have hi := g0
  have hs := S.sok
  obtain ⟨hx, hs⟩ := List.forall_mem_cons.mp hs
  refine lv_astore_n F.1 F.2.1 hd hj S.has hjn rfl (fun ls' h' => ?_)
  exact k _ _ _ _ _ _ _ hi hn _ _ _ _ _ ((S.stk hs).s1 hjn hx rfl h')
theorem eg_c_iinc (F : eg_Fr p R s m args meth c A D cc nL o ini) (S : eg_St sc vq s A D nL ad0 n0 ad cA h lv st H locs ls) (k : eg_Kt K P sc vq s A D nL ad0 n0 p l e R m args below meth c Q) {j : Nat} {n : Int} (hjn : j < nL) (hd : decode cc pc = .ok (.iinc j n, 3)) (hn : eg_pc P (i + 1) = some (pc + 3)) (hi : eg_li lv j fun x => K (i + 1) (eg_s1 lv j (.inl (eg_wi (x + n)))) st h cz sz) : W p l e R s m args below meth c H locs cz sz Q (F0 m pc ls (st.map (eg_ev ad vq))) := by
  obtain ⟨x, hx, hi⟩ := eg_li_of hi
  obtain ⟨q, hq⟩ := List.getElem?_of_mem (eg_lst_in (ad := ad) (vq := vq) hx)
  refine lv_iinc (v := Int32.ofInt (eg_wi (x + n))) F.1 F.2.1 hd S.has hq (eg_add32 x n).symm hjn rfl (fun ls' h' => ?_)
  exact k _ _ _ _ _ _ _ hi hn _ _ _ _ _ (S.s1 hjn (eg_wi_rg _) rfl h')
theorem eg_c_goto (F : eg_Fr p R s m args meth c A D cc nL o ini) (S : eg_St sc vq s A D nL ad0 n0 ad cA h lv st H locs ls) (k : eg_Kt K P sc vq s A D nL ad0 n0 p l e R m args below meth c Q) {off : Int} {t tgt : Nat} (ht : eg_pc P t = some tgt) (hj : (pc : Int) + off = (tgt : Int)) (hd : decode cc pc = .ok (.goto off, 3)) (hi : K t lv st h cz sz) : W p l e R s m args below meth c H locs cz sz Q (F0 m pc ls (st.map (eg_ev ad vq))) := by
  exact lv_goto F.1 F.2.1 hd hj (k _ _ _ _ _ _ _ hi ht _ _ _ _ _ S)
theorem eg_c_if_eq (F : eg_Fr p R s m args meth c A D cc nL o ini) (S : eg_St sc vq s A D nL ad0 n0 ad cA h lv st H locs ls) (k : eg_Kt K P sc vq s A D nL ad0 n0 p l e R m args below meth c Q) {off : Int} {t tgt : Nat} (ht : eg_pc P t = some tgt) (hj : (pc : Int) + off = (tgt : Int)) (hd : decode cc pc = .ok (.ifCond .eq off, 3)) (hn : eg_pc P (i + 1) = some (pc + 3)) (hi : eg_pi st fun x st => (eg_c .eq x 0 → K t lv st h cz sz) ∧ (¬ eg_c .eq x 0 → K (i + 1) lv st h cz sz)) : W p l e R s m args below meth c H locs cz sz Q (F0 m pc ls (st.map (eg_ev ad vq))) := by
  obtain ⟨x, r0, rfl, g0⟩ := eg_pi_of hi
  have hi := g0
  have hs := S.sok
  obtain ⟨hx, hs⟩ := List.forall_mem_cons.mp hs
  have hz : (-2147483648 : Int) ≤ 0 ∧ (0 : Int) < 2147483648 := ⟨by omega, by omega⟩
  have he := eg_eq32 hx hz
  exact lv_if_eq F.1 F.2.1 hd hj (fun z => k _ _ _ _ _ _ _ (hi.1 (he.mp z)) ht _ _ _ _ _ (S.stk hs)) (fun z => k _ _ _ _ _ _ _ (hi.2 (fun y => z (he.mpr y))) hn _ _ _ _ _ (S.stk hs))
theorem eg_c_if_ne (F : eg_Fr p R s m args meth c A D cc nL o ini) (S : eg_St sc vq s A D nL ad0 n0 ad cA h lv st H locs ls) (k : eg_Kt K P sc vq s A D nL ad0 n0 p l e R m args below meth c Q) {off : Int} {t tgt : Nat} (ht : eg_pc P t = some tgt) (hj : (pc : Int) + off = (tgt : Int)) (hd : decode cc pc = .ok (.ifCond .ne off, 3)) (hn : eg_pc P (i + 1) = some (pc + 3)) (hi : eg_pi st fun x st => (eg_c .ne x 0 → K t lv st h cz sz) ∧ (¬ eg_c .ne x 0 → K (i + 1) lv st h cz sz)) : W p l e R s m args below meth c H locs cz sz Q (F0 m pc ls (st.map (eg_ev ad vq))) := by
  obtain ⟨x, r0, rfl, g0⟩ := eg_pi_of hi
  have hi := g0
  have hs := S.sok
  obtain ⟨hx, hs⟩ := List.forall_mem_cons.mp hs
  have hz : (-2147483648 : Int) ≤ 0 ∧ (0 : Int) < 2147483648 := ⟨by omega, by omega⟩
  have he := not_congr (eg_eq32 hx hz)
  exact lv_if_ne F.1 F.2.1 hd hj (fun z => k _ _ _ _ _ _ _ (hi.1 (he.mp z)) ht _ _ _ _ _ (S.stk hs)) (fun z => k _ _ _ _ _ _ _ (hi.2 (fun y => y ((eg_eq32 hx hz).mp z))) hn _ _ _ _ _ (S.stk hs))
theorem eg_c_if_lt (F : eg_Fr p R s m args meth c A D cc nL o ini) (S : eg_St sc vq s A D nL ad0 n0 ad cA h lv st H locs ls) (k : eg_Kt K P sc vq s A D nL ad0 n0 p l e R m args below meth c Q) {off : Int} {t tgt : Nat} (ht : eg_pc P t = some tgt) (hj : (pc : Int) + off = (tgt : Int)) (hd : decode cc pc = .ok (.ifCond .lt off, 3)) (hn : eg_pc P (i + 1) = some (pc + 3)) (hi : eg_pi st fun x st => (eg_c .lt x 0 → K t lv st h cz sz) ∧ (¬ eg_c .lt x 0 → K (i + 1) lv st h cz sz)) : W p l e R s m args below meth c H locs cz sz Q (F0 m pc ls (st.map (eg_ev ad vq))) := by
  obtain ⟨x, r0, rfl, g0⟩ := eg_pi_of hi
  have hi := g0
  have hs := S.sok
  obtain ⟨hx, hs⟩ := List.forall_mem_cons.mp hs
  have hz : (-2147483648 : Int) ≤ 0 ∧ (0 : Int) < 2147483648 := ⟨by omega, by omega⟩
  have he := eg_lt32 hx hz
  exact lv_if_lt F.1 F.2.1 hd hj (fun z => k _ _ _ _ _ _ _ (hi.1 (he.mp z)) ht _ _ _ _ _ (S.stk hs)) (fun z => k _ _ _ _ _ _ _ (hi.2 (fun y => z (he.mpr y))) hn _ _ _ _ _ (S.stk hs))
theorem eg_c_if_ge (F : eg_Fr p R s m args meth c A D cc nL o ini) (S : eg_St sc vq s A D nL ad0 n0 ad cA h lv st H locs ls) (k : eg_Kt K P sc vq s A D nL ad0 n0 p l e R m args below meth c Q) {off : Int} {t tgt : Nat} (ht : eg_pc P t = some tgt) (hj : (pc : Int) + off = (tgt : Int)) (hd : decode cc pc = .ok (.ifCond .ge off, 3)) (hn : eg_pc P (i + 1) = some (pc + 3)) (hi : eg_pi st fun x st => (eg_c .ge x 0 → K t lv st h cz sz) ∧ (¬ eg_c .ge x 0 → K (i + 1) lv st h cz sz)) : W p l e R s m args below meth c H locs cz sz Q (F0 m pc ls (st.map (eg_ev ad vq))) := by
  obtain ⟨x, r0, rfl, g0⟩ := eg_pi_of hi
  have hi := g0
  have hs := S.sok
  obtain ⟨hx, hs⟩ := List.forall_mem_cons.mp hs
  have hz : (-2147483648 : Int) ≤ 0 ∧ (0 : Int) < 2147483648 := ⟨by omega, by omega⟩
  have he := eg_le32 hz hx
  exact lv_if_ge F.1 F.2.1 hd hj (fun z => k _ _ _ _ _ _ _ (hi.1 (he.mp z)) ht _ _ _ _ _ (S.stk hs)) (fun z => k _ _ _ _ _ _ _ (hi.2 (fun y => z (he.mpr y))) hn _ _ _ _ _ (S.stk hs))
theorem eg_c_if_gt (F : eg_Fr p R s m args meth c A D cc nL o ini) (S : eg_St sc vq s A D nL ad0 n0 ad cA h lv st H locs ls) (k : eg_Kt K P sc vq s A D nL ad0 n0 p l e R m args below meth c Q) {off : Int} {t tgt : Nat} (ht : eg_pc P t = some tgt) (hj : (pc : Int) + off = (tgt : Int)) (hd : decode cc pc = .ok (.ifCond .gt off, 3)) (hn : eg_pc P (i + 1) = some (pc + 3)) (hi : eg_pi st fun x st => (eg_c .gt x 0 → K t lv st h cz sz) ∧ (¬ eg_c .gt x 0 → K (i + 1) lv st h cz sz)) : W p l e R s m args below meth c H locs cz sz Q (F0 m pc ls (st.map (eg_ev ad vq))) := by
  obtain ⟨x, r0, rfl, g0⟩ := eg_pi_of hi
  have hi := g0
  have hs := S.sok
  obtain ⟨hx, hs⟩ := List.forall_mem_cons.mp hs
  have hz : (-2147483648 : Int) ≤ 0 ∧ (0 : Int) < 2147483648 := ⟨by omega, by omega⟩
  have he := eg_lt32 hz hx
  exact lv_if_gt F.1 F.2.1 hd hj (fun z => k _ _ _ _ _ _ _ (hi.1 (he.mp z)) ht _ _ _ _ _ (S.stk hs)) (fun z => k _ _ _ _ _ _ _ (hi.2 (fun y => z (he.mpr y))) hn _ _ _ _ _ (S.stk hs))
theorem eg_c_if_le (F : eg_Fr p R s m args meth c A D cc nL o ini) (S : eg_St sc vq s A D nL ad0 n0 ad cA h lv st H locs ls) (k : eg_Kt K P sc vq s A D nL ad0 n0 p l e R m args below meth c Q) {off : Int} {t tgt : Nat} (ht : eg_pc P t = some tgt) (hj : (pc : Int) + off = (tgt : Int)) (hd : decode cc pc = .ok (.ifCond .le off, 3)) (hn : eg_pc P (i + 1) = some (pc + 3)) (hi : eg_pi st fun x st => (eg_c .le x 0 → K t lv st h cz sz) ∧ (¬ eg_c .le x 0 → K (i + 1) lv st h cz sz)) : W p l e R s m args below meth c H locs cz sz Q (F0 m pc ls (st.map (eg_ev ad vq))) := by
  obtain ⟨x, r0, rfl, g0⟩ := eg_pi_of hi
  have hi := g0
  have hs := S.sok
  obtain ⟨hx, hs⟩ := List.forall_mem_cons.mp hs
  have hz : (-2147483648 : Int) ≤ 0 ∧ (0 : Int) < 2147483648 := ⟨by omega, by omega⟩
  have he := eg_le32 hx hz
  exact lv_if_le F.1 F.2.1 hd hj (fun z => k _ _ _ _ _ _ _ (hi.1 (he.mp z)) ht _ _ _ _ _ (S.stk hs)) (fun z => k _ _ _ _ _ _ _ (hi.2 (fun y => z (he.mpr y))) hn _ _ _ _ _ (S.stk hs))
theorem eg_c_icmp_eq (F : eg_Fr p R s m args meth c A D cc nL o ini) (S : eg_St sc vq s A D nL ad0 n0 ad cA h lv st H locs ls) (k : eg_Kt K P sc vq s A D nL ad0 n0 p l e R m args below meth c Q) {off : Int} {t tgt : Nat} (ht : eg_pc P t = some tgt) (hj : (pc : Int) + off = (tgt : Int)) (hd : decode cc pc = .ok (.if_icmp .eq off, 3)) (hn : eg_pc P (i + 1) = some (pc + 3)) (hi : eg_pi st fun y st => eg_pi st fun x st => (eg_c .eq x y → K t lv st h cz sz) ∧ (¬ eg_c .eq x y → K (i + 1) lv st h cz sz)) : W p l e R s m args below meth c H locs cz sz Q (F0 m pc ls (st.map (eg_ev ad vq))) := by
  obtain ⟨y, r0, rfl, g0⟩ := eg_pi_of hi
  obtain ⟨x, r1, rfl, g1⟩ := eg_pi_of g0
  have hi := g1
  have hs := S.sok
  obtain ⟨hy, hs⟩ := List.forall_mem_cons.mp hs
  obtain ⟨hx, hs⟩ := List.forall_mem_cons.mp hs
  have he := eg_eq32 hx hy
  exact lv_icmp_eq F.1 F.2.1 hd hj (fun z => k _ _ _ _ _ _ _ (hi.1 (he.mp z)) ht _ _ _ _ _ (S.stk hs)) (fun z => k _ _ _ _ _ _ _ (hi.2 (fun w => z (he.mpr w))) hn _ _ _ _ _ (S.stk hs))
theorem eg_c_icmp_ne (F : eg_Fr p R s m args meth c A D cc nL o ini) (S : eg_St sc vq s A D nL ad0 n0 ad cA h lv st H locs ls) (k : eg_Kt K P sc vq s A D nL ad0 n0 p l e R m args below meth c Q) {off : Int} {t tgt : Nat} (ht : eg_pc P t = some tgt) (hj : (pc : Int) + off = (tgt : Int)) (hd : decode cc pc = .ok (.if_icmp .ne off, 3)) (hn : eg_pc P (i + 1) = some (pc + 3)) (hi : eg_pi st fun y st => eg_pi st fun x st => (eg_c .ne x y → K t lv st h cz sz) ∧ (¬ eg_c .ne x y → K (i + 1) lv st h cz sz)) : W p l e R s m args below meth c H locs cz sz Q (F0 m pc ls (st.map (eg_ev ad vq))) := by
  obtain ⟨y, r0, rfl, g0⟩ := eg_pi_of hi
  obtain ⟨x, r1, rfl, g1⟩ := eg_pi_of g0
  have hi := g1
  have hs := S.sok
  obtain ⟨hy, hs⟩ := List.forall_mem_cons.mp hs
  obtain ⟨hx, hs⟩ := List.forall_mem_cons.mp hs
  have he := not_congr (eg_eq32 hx hy)
  exact lv_icmp_ne F.1 F.2.1 hd hj (fun z => k _ _ _ _ _ _ _ (hi.1 (he.mp z)) ht _ _ _ _ _ (S.stk hs)) (fun z => k _ _ _ _ _ _ _ (hi.2 (fun w => w ((eg_eq32 hx hy).mp z))) hn _ _ _ _ _ (S.stk hs))
theorem eg_c_icmp_lt (F : eg_Fr p R s m args meth c A D cc nL o ini) (S : eg_St sc vq s A D nL ad0 n0 ad cA h lv st H locs ls) (k : eg_Kt K P sc vq s A D nL ad0 n0 p l e R m args below meth c Q) {off : Int} {t tgt : Nat} (ht : eg_pc P t = some tgt) (hj : (pc : Int) + off = (tgt : Int)) (hd : decode cc pc = .ok (.if_icmp .lt off, 3)) (hn : eg_pc P (i + 1) = some (pc + 3)) (hi : eg_pi st fun y st => eg_pi st fun x st => (eg_c .lt x y → K t lv st h cz sz) ∧ (¬ eg_c .lt x y → K (i + 1) lv st h cz sz)) : W p l e R s m args below meth c H locs cz sz Q (F0 m pc ls (st.map (eg_ev ad vq))) := by
  obtain ⟨y, r0, rfl, g0⟩ := eg_pi_of hi
  obtain ⟨x, r1, rfl, g1⟩ := eg_pi_of g0
  have hi := g1
  have hs := S.sok
  obtain ⟨hy, hs⟩ := List.forall_mem_cons.mp hs
  obtain ⟨hx, hs⟩ := List.forall_mem_cons.mp hs
  have he := eg_lt32 hx hy
  exact lv_icmp_lt F.1 F.2.1 hd hj (fun z => k _ _ _ _ _ _ _ (hi.1 (he.mp z)) ht _ _ _ _ _ (S.stk hs)) (fun z => k _ _ _ _ _ _ _ (hi.2 (fun w => z (he.mpr w))) hn _ _ _ _ _ (S.stk hs))
theorem eg_c_icmp_ge (F : eg_Fr p R s m args meth c A D cc nL o ini) (S : eg_St sc vq s A D nL ad0 n0 ad cA h lv st H locs ls) (k : eg_Kt K P sc vq s A D nL ad0 n0 p l e R m args below meth c Q) {off : Int} {t tgt : Nat} (ht : eg_pc P t = some tgt) (hj : (pc : Int) + off = (tgt : Int)) (hd : decode cc pc = .ok (.if_icmp .ge off, 3)) (hn : eg_pc P (i + 1) = some (pc + 3)) (hi : eg_pi st fun y st => eg_pi st fun x st => (eg_c .ge x y → K t lv st h cz sz) ∧ (¬ eg_c .ge x y → K (i + 1) lv st h cz sz)) : W p l e R s m args below meth c H locs cz sz Q (F0 m pc ls (st.map (eg_ev ad vq))) := by
  obtain ⟨y, r0, rfl, g0⟩ := eg_pi_of hi
  obtain ⟨x, r1, rfl, g1⟩ := eg_pi_of g0
  have hi := g1
  have hs := S.sok
  obtain ⟨hy, hs⟩ := List.forall_mem_cons.mp hs
  obtain ⟨hx, hs⟩ := List.forall_mem_cons.mp hs
  have he := eg_le32 hy hx
  exact lv_icmp_ge F.1 F.2.1 hd hj (fun z => k _ _ _ _ _ _ _ (hi.1 (he.mp z)) ht _ _ _ _ _ (S.stk hs)) (fun z => k _ _ _ _ _ _ _ (hi.2 (fun w => z (he.mpr w))) hn _ _ _ _ _ (S.stk hs))
theorem eg_c_icmp_gt (F : eg_Fr p R s m args meth c A D cc nL o ini) (S : eg_St sc vq s A D nL ad0 n0 ad cA h lv st H locs ls) (k : eg_Kt K P sc vq s A D nL ad0 n0 p l e R m args below meth c Q) {off : Int} {t tgt : Nat} (ht : eg_pc P t = some tgt) (hj : (pc : Int) + off = (tgt : Int)) (hd : decode cc pc = .ok (.if_icmp .gt off, 3)) (hn : eg_pc P (i + 1) = some (pc + 3)) (hi : eg_pi st fun y st => eg_pi st fun x st => (eg_c .gt x y → K t lv st h cz sz) ∧ (¬ eg_c .gt x y → K (i + 1) lv st h cz sz)) : W p l e R s m args below meth c H locs cz sz Q (F0 m pc ls (st.map (eg_ev ad vq))) := by
  obtain ⟨y, r0, rfl, g0⟩ := eg_pi_of hi
  obtain ⟨x, r1, rfl, g1⟩ := eg_pi_of g0
  have hi := g1
  have hs := S.sok
  obtain ⟨hy, hs⟩ := List.forall_mem_cons.mp hs
  obtain ⟨hx, hs⟩ := List.forall_mem_cons.mp hs
  have he := eg_lt32 hy hx
  exact lv_icmp_gt F.1 F.2.1 hd hj (fun z => k _ _ _ _ _ _ _ (hi.1 (he.mp z)) ht _ _ _ _ _ (S.stk hs)) (fun z => k _ _ _ _ _ _ _ (hi.2 (fun w => z (he.mpr w))) hn _ _ _ _ _ (S.stk hs))
theorem eg_c_icmp_le (F : eg_Fr p R s m args meth c A D cc nL o ini) (S : eg_St sc vq s A D nL ad0 n0 ad cA h lv st H locs ls) (k : eg_Kt K P sc vq s A D nL ad0 n0 p l e R m args below meth c Q) {off : Int} {t tgt : Nat} (ht : eg_pc P t = some tgt) (hj : (pc : Int) + off = (tgt : Int)) (hd : decode cc pc = .ok (.if_icmp .le off, 3)) (hn : eg_pc P (i + 1) = some (pc + 3)) (hi : eg_pi st fun y st => eg_pi st fun x st => (eg_c .le x y → K t lv st h cz sz) ∧ (¬ eg_c .le x y → K (i + 1) lv st h cz sz)) : W p l e R s m args below meth c H locs cz sz Q (F0 m pc ls (st.map (eg_ev ad vq))) := by
  obtain ⟨y, r0, rfl, g0⟩ := eg_pi_of hi
  obtain ⟨x, r1, rfl, g1⟩ := eg_pi_of g0
  have hi := g1
  have hs := S.sok
  obtain ⟨hy, hs⟩ := List.forall_mem_cons.mp hs
  obtain ⟨hx, hs⟩ := List.forall_mem_cons.mp hs
  have he := eg_le32 hx hy
  exact lv_icmp_le F.1 F.2.1 hd hj (fun z => k _ _ _ _ _ _ _ (hi.1 (he.mp z)) ht _ _ _ _ _ (S.stk hs)) (fun z => k _ _ _ _ _ _ _ (hi.2 (fun w => z (he.mpr w))) hn _ _ _ _ _ (S.stk hs))
end EGC
