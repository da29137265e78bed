/-! THE CLAIM OUT OF ONE WALK OF THE LAW'S BODY. Your part is whole_start (and what it stands on); all else here is the same for every law, but numbers. -/
def R_law : String := "WeakSchemeLaw"
def lw_P (b : Addr) (xs : List Int32) (args : Array Value) (s : State) : Prop := args = #[.ref b] ∧ s.IntsAt b xs ∧ xs.length ≤ 7 ∧ (Jvm.Cond.and given_1 narrow_1).before args s = true
def lw_Q (_ : Array Value) (s : State) (o : Outcome) (t : State) : Prop := o = .returned (some (.int 1)) ∧ Framed s o t [] 600000 7302250
def lw_Z (below : List Frame) (a : Array Value) (s : State) : State → Prop := fun t => ∃ o, t.status = .running ∧ Ended t below o ∧ lw_Q a s o t
/-- the law's own end, with 1 on the stack, nothing written that was there before, its room as the claim has it -/
theorem lw_ret {p : Program} {l : Launch} {e : Env} {s : State} {m : MethodId} {below : List Frame} {meth : Method} {c : Code} {b : Nat} (hx : p.tables.exec = Jvm.exec) (hb : c.code = code) (hr : meth.sig.returnType = ret) (hlocks : meth.locks = false) {pc : Nat} {H : Heap} {ls : Array Slot} (hdg : decode code pc = .ok (.ireturn, 1)) : W p l e room_1 s m #[Value.ref b] below meth c H [] 600000 7302250 (lw_Z below #[Value.ref b] s) (F0 m pc ls [.int 1]) := by
  intro T hT X
  obtain ⟨fs, hret, hrun, hended, hW, hframe⟩ := X.leave (v := some (.int 1)) (hlocks := hlocks) (fun h => by rw [hr] at h; cases h)
  have hmeth' : T.vm.method? m = some meth := X.method'
  refine ⟨T.setFrames fs, ?_, .returned (some (.int 1)), hrun, hended, rfl, ⟨_, rfl⟩, hW, hframe⟩
  jvm_step X.here [X.here.top, hx, hb, hdg, hmeth', hr, ret, narrow_b1]
  (try refine ⟨rfl, ?_⟩); (try refine ⟨rfl, ?_⟩)
  first | (intro acts; rw [hret _ acts rfl rfl rfl]) | rw [hret _ _ rfl rfl rfl]
  exact Steps.refl _
/-- what holds at the law's entry: the machine, the code, the tables' words (any of lw_tbl by 'hts w (by decide +kernel)'), the script of L ints xs at the cell b, what the Statement gives of the start (any of its parts by flat_of_before) -/
def lw_At (p : Program) (s : State) (m : MethodId) (meth : Method) (c : Code) (b L : Nat) (xs : Nat → Int32) : Prop :=
  p.tables.exec = Jvm.exec ∧ c.code = code ∧ meth.sig.returnType = ret ∧ c.maxLocals = 4 ∧ s.vm.findClass R_law = some m.cls ∧ (∀ w ∈ lw_tbl, w.before #[Value.ref b] s = true) ∧ va_X b L xs s s.heap ∧ b < s.heap.size ∧ meth.locks = false ∧ (Jvm.Cond.and given_1 narrow_1).before #[Value.ref b] s = true
/-- THE LAW'S WALK out of the pure machine's -/
theorem eg_law {p : Program} {e : Env} {s : State} {m : MethodId} {below : List Frame} {meth : Method} {c : Code} (l : Launch) {b L : Nat} {xs : Nat → Int32} (hL : L < 2147483648) (C0 : lw_At p s m meth c b L xs) {n : Nat}
    (hp : eg_x (L, fun j => (xs j).toInt) (eg_wp (L, fun j => (xs j).toInt) 1000) eg_p250 (some .boolean) 600000 7302250 (fun r _ => r = some (.inl 1)) n 0 [some (.inr (.inr (some 1000000))), none, none, none] [] ([], fun _ _ => none, fun _ _ => 0) 0 0) :
    W p l e room_1 s m #[Value.ref b] below meth c s.heap [] 0 0 (lw_Z below #[Value.ref b] s) (entryFrame m ([Value.ref b] : List Value).toArray 4) := by
  obtain ⟨hx, hb, hr, hml, hown, hts, hX, hbl, hlocks, hgv⟩ := C0
  have hfl := flat_of_before _ hgv
  have hf : ∀ c ∈ eg_exp, c.before #[Value.ref b] s = true := fun c hc => hfl c (by
    have h1 := eg_sub_in _ _ eg_flat c hc
    show c ∈ flatC given_1 ++ flatC narrow_1
    exact List.mem_append_right _ h1)
  obtain ⟨vq, hST⟩ := eg_start_ST hts hf hX hbl hL
  have hkn : ∀ ci : Nat, ∃ q : ClassId × (Nat → Nat), ∀ r : vw_C, eg_cl[ci]? = some r → u_Kn s r.1 r.2.1 r.2.2 q.1 q.2 := by
    intro ci
    cases hr9 : eg_cl[ci]? with
    | none => exact ⟨(0, fun _ => 0), fun r z => by cases z⟩
    | some r =>
      have hcx := eg_dd (List.all_eq_true.mp eg_cx _ (List.mem_of_getElem? hr9))
      obtain ⟨cC, iS, h9⟩ := u_known (C := r.1) (T := r.2.1) (N := r.2.2) (n := r.2.2) (ws := eg_gw) (args := #[Value.ref b]) (fun w hw => hts w (List.mem_filter.mp hw).1) (eg_cls hr9).1 (hts _ (eg_tb_in hcx))
      exact ⟨(cC, iS), fun r' z => by cases z; exact h9⟩
  obtain ⟨fD, hfD⟩ := Classical.axiomOfChoice hkn
  have F : eg_Fr p room_1 s m #[Value.ref b] meth c (fun q : Nat => s.heap.size ≤ q) (fun ci => (fD ci).1, fun ci => (fD ci).2) code 4 12 false := by
    refine ⟨hx, hb, hml, hown, fun w hw => hts w (List.mem_filter.mp hw).1, fun q h => h, fun ci q hq => hfD ci q hq, by decide, by decide, (fun z => by cases z), fun w hw hn => ?_⟩
    have h1 := hts w hw
    refine va_Nw.of ?_ h1
    cases w <;> first | rfl | (exact absurd hn (by simp [eg_isnst]))
  have hl := lv_entry ([.ref b]) (n := 4) (Nat.le_of_ble_eq_true rfl)
  rw [lg_entry_eq]
  generalize (lg_sl ([.ref b]) ++ List.replicate (4 - (lg_sl ([.ref b])).length) Slot.unset).toArray = ls at hl ⊢
  have hl0 : ls[0]? = some (.val (.ref b)) := hl.2.2 (0, .ref b) List.mem_cons_self
  have key : ∀ (i : Nat) (v : eg_V), ([some (.inr (.inr (some 1000000))), none, none, none] : eg_L)[i]? = some (some v) → i = 0 ∧ v = .inr (.inr (some 1000000)) := by
    intro i v hi
    match i, hi with
    | 0, hi => cases hi; exact ⟨rfl, rfl⟩
    | 1, hi => cases hi
    | 2, hi => cases hi
    | 3, hi => cases hi
    | i + 4, hi => simp at hi
  have S : eg_St (L, fun j => (xs j).toInt) vq s (fun q : Nat => s.heap.size ≤ q) (fun ci => (fD ci).1, fun ci => (fD ci).2) 4 (eg_ad0 #[Value.ref b] s b) 0 (eg_ad0 #[Value.ref b] s b) (fun _ => 0) ([], fun _ _ => none, fun _ _ => 0) [some (.inr (.inr (some 1000000))), none, none, none] [] s.heap [] ls := by
    refine ⟨fun k q h => by simp [eg_w] at h, ⟨fun i j p q h => by simp [eg_w] at h, fun k q h => by simp [eg_w] at h⟩, va_S.rf, ⟨hl.1, hl.2.1, fun i v hi => ?_, rfl⟩, fun a ty n h => by simp at h, ⟨fun a ty n h => by simp at h, fun a ci h => by simp at h, fun a k b h => by simp at h, by decide⟩, fun i v hi => ?_, (fun v hv => by cases hv), hST, fun _ _ => rfl, Nat.le_refl _⟩
    · obtain ⟨rfl, rfl⟩ := key i v hi
      show ls[0]? = some (.val (.ref (eg_ad0 #[Value.ref b] s b 1000000)))
      have e : eg_ad0 #[Value.ref b] s b 1000000 = b := by unfold eg_ad0; rw [if_pos rfl]
      rw [e]
      exact hl0
    · obtain ⟨rfl, rfl⟩ := key i v hi
      exact Or.inr (by decide)
  obtain ⟨ck0, ck1⟩ := eg_an2 eg_ck_law
  refine eg_frame (d := 1000) F (fun i q hq => by
      have := eg_wk_ok _ 0 0 _ rfl ck1 i q hq
      rwa [Nat.zero_add] at this) (fun raw v stk h' cz sz' pc ad' cA' H locs ls' lv hrt hd hc1 hc2 hQ S' => ?_) (by decide) (by decide) (by decide) (by decide) (fun j t as h mc ms Q ht hpl hc => eg_bridge l _ vq _ 1000 j t as h mc ms Q ht hpl hc) n 0 _ [] _ 0 0 0 hp (eg_dd ck0) _ _ s.heap [] ls S
  subst hQ
  unfold eg_Rets at hrt
  split at hrt
  · obtain ⟨x, h1, rfl, -⟩ := hrt
    cases h1
    refine va_forget (fun q hq => S'.2.2.1.2.2 q hq) ?_
    refine W.widen hc1 hc2 ?_
    exact lw_ret hx hb hr hlocks hd
  · obtain ⟨x, h1, -⟩ := hrt; cases h1
  · obtain ⟨x, h1, -⟩ := hrt; cases h1
  · cases hrt.1
  · exact hrt.elim
