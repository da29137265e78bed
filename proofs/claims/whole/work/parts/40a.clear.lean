noncomputable def zb_lvd (Lp : Nat → Prop) (v : Int) : Bool := @decide (zb_lvs Lp v) (Classical.propDecidable _)
theorem zb_lvd_t {Lp : Nat → Prop} {v : Int} (h : zb_lvs Lp v) : zb_lvd Lp v = true := by unfold zb_lvd; exact @decide_eq_true _ (Classical.propDecidable _) h
theorem zb_lvd_f {Lp : Nat → Prop} {v : Int} (h : ¬ zb_lvs Lp v) : zb_lvd Lp v = false := by unfold zb_lvd; exact @decide_eq_false _ (Classical.propDecidable _) h
noncomputable def zb_flt (C : eM) (H : zb_Hp) (Lp : Nat → Prop) (es : List Nat) : List Nat := es.filter (fun e => zb_lvd Lp (zb_cf C H e 0))
theorem zb_flt_c1 {C : eM} {H : zb_Hp} {Lp : Nat → Prop} {e : Nat} {es : List Nat} (h : zb_lvs Lp (zb_cf C H e 0)) : zb_flt C H Lp (e :: es) = e :: zb_flt C H Lp es := by unfold zb_flt; rw [List.filter_cons, if_pos (zb_lvd_t h)]
theorem zb_flt_c0 {C : eM} {H : zb_Hp} {Lp : Nat → Prop} {e : Nat} {es : List Nat} (h : ¬ zb_lvs Lp (zb_cf C H e 0)) : zb_flt C H Lp (e :: es) = zb_flt C H Lp es := by unfold zb_flt; rw [List.filter_cons, if_neg (by rw [zb_lvd_f h]; decide)]
theorem zb_flt_m {C : eM} {H : zb_Hp} {Lp : Nat → Prop} {e : Nat} {es : List Nat} (h : e ∈ zb_flt C H Lp es) : e ∈ es := (List.mem_filter.mp h).1
def zb_cl (M : eM) (H : zb_Hp) (h i : Nat) : Int := M 16 (zb_hS H h + i)
def zb_LTR (M : eM) (H : zb_Hp) (Lp : Nat → Prop) : Prop := ∀ h, h ∈ zb_hO H → (Lp h → M 39 h = 1) ∧ (¬ Lp h → M 39 h = 0)
def zb_echT (M : eM) (H : zb_Hp) : List Nat → Int → Int → Prop
  | [], x, y => x = y
  | e :: t, x, y => x = (e : Int) ∧ zb_echT M H t (zb_cl M H e 3) y
theorem zb_echT_0 {M : eM} {H : zb_Hp} : ∀ {es : List Nat} {x : Int}, zb_echT M H es x 0 → zb_ech M H es x := by
  intro es
  induction es with
  | nil => intro x h; exact h
  | cons e t ih => intro x h; exact ⟨h.1, ih h.2⟩
theorem zb_echT_app {M : eM} {H : zb_Hp} : ∀ {D : List Nat} {e : Nat} {x y : Int}, zb_echT M H (D ++ [e]) x y ↔ zb_echT M H D x (e : Int) ∧ zb_cl M H e 3 = y := by
  intro D
  induction D with
  | nil => intro e x y; exact Iff.rfl
  | cons d t ih =>
    intro e x y
    constructor
    · intro h; have := ih.mp h.2; exact ⟨⟨h.1, this.1⟩, this.2⟩
    · intro h; exact ⟨h.1.1, ih.mpr ⟨h.1.2, h.2⟩⟩
theorem zb_echT_eq {M M' : eM} {H : zb_Hp} : ∀ {D : List Nat} {x y : Int}, (∀ e, e ∈ D → zb_cl M' H e 3 = zb_cl M H e 3) → zb_echT M H D x y → zb_echT M' H D x y := by
  intro D
  induction D with
  | nil => intro x y _ h; exact h
  | cons d t ih => intro x y hh h; exact ⟨h.1, by rw [hh d List.mem_cons_self]; exact ih (fun e he => hh e (List.mem_cons_of_mem _ he)) h.2⟩
theorem zb_ech_eq {M M' : eM} {H : zb_Hp} : ∀ {D : List Nat} {x : Int}, (∀ e, e ∈ D → zb_cl M' H e 3 = zb_cl M H e 3) → zb_ech M H D x → zb_ech M' H D x := by
  intro D
  induction D with
  | nil => intro x _ h; exact h
  | cons d t ih => intro x hh h; exact ⟨h.1, by have := hh d List.mem_cons_self; unfold zb_cl at this; rw [this]; exact ih (fun e he => hh e (List.mem_cons_of_mem _ he)) h.2⟩
def zb_hdl (es : List Nat) : Int := match es with
  | [] => 0
  | e :: _ => (e : Int)
theorem zb_ech_hd {M : eM} {H : zb_Hp} {es : List Nat} {x : Int} (h : zb_ech M H es x) : x = zb_hdl es := by
  cases es with
  | nil => exact h
  | cons e t => exact h.1
def zb_lst (D : List Nat) : Int := match D.getLast? with
  | none => 0
  | some l => (l : Int)
theorem zb_lst_app {D : List Nat} {e : Nat} : zb_lst (D ++ [e]) = (e : Int) := by unfold zb_lst; rw [List.getLast?_append]; rfl
section GC
variable {C R : eM} {H : zb_Hp} {cn N rg hs : Nat} {fl : List Nat} {lam : Nat → Prop} {scp : Nat → Nat → Prop} {Lp : Nat → Prop} {M : eM}
theorem zb_live_c (hH : zb_HC M cn (zb_hO H) fl hs (zb_hU H) (zb_hS H) (zb_hZ H) (zb_hK H)) (ht : zb_LTR M H Lp) {v : Int} (hv : zb_cv H v) : (fn_138 (cn / 3 + 1) v M = some 1 ∧ zb_lvs Lp v) ∨ (fn_138 (cn / 3 + 1) v M = some 0 ∧ ¬ zb_lvs Lp v) := by
  rcases hv with ⟨g, g1, g2⟩ | ⟨n1, n2⟩
  · obtain ⟨x1, x2, x3⟩ := zb_hc_h hH g1
    have := hH.1
    have hg : g < 20000 := by omega
    by_cases hL : Lp g
    · left
      refine ⟨?_, fun q q1 q2 => by have : q = g := by omega
                                    rw [this]; exact hL⟩
      unfold fn_138
      rw [g2, zb_sh_obj hg, if_neg (by decide), zb_wi_obj hg, if_pos (by omega), Int.toNat_natCast, (ht g g1).1 hL, if_neg (by decide)]
    · right
      refine ⟨?_, fun z => hL (z g hg g2)⟩
      unfold fn_138
      rw [g2, zb_sh_obj hg, if_neg (by decide), zb_wi_obj hg, if_pos (by omega), Int.toNat_natCast, (ht g g1).2 hL, if_pos rfl]
  · left
    refine ⟨?_, fun q q1 q2 => absurd q2 (n2 q q1)⟩
    unfold fn_138
    rw [if_pos n1]
theorem zb_put_x (hH : zb_HC M cn (zb_hO H) fl hs (zb_hU H) (zb_hS H) (zb_hZ H) (zb_hK H)) {h i : Nat} {v : Int} (hh : h ∈ zb_hO H) (hi : i < zb_hZ H h) (h1 : 1 ≤ i) : ∃ M', fn_94 cn (cn / 3 + 1) (h : Int) (i : Int) v M = some M' ∧ zb_HC M' cn (zb_hO H) fl hs (zb_hU H) (zb_hS H) (zb_hZ H) (zb_hK H) ∧ zb_cl M' H h i = v ∧ (∀ x j, x ∈ zb_hO H → j < zb_hZ H x → ¬ (x = h ∧ j = i) → zb_cl M' H x j = zb_cl M H x j) ∧ ∀ c, c ≠ 16 → M' c = M c :=
  ⟨_, zb_put_e hH hh hi, zb_put_H hH hh hi h1, by unfold zb_cl; simp [eg_u], fun x j hx hj hne => zb_put_o hH hh hi hx hj hne, fun c hc => eg_u_ne hc⟩
theorem zb_dz_loop {t : Nat} {M0 : eM} (ht : t ∈ zb_hO H) (hk : zb_hK H t = 7) (hzt : zb_hZ H t = 3) (hLT : zb_LTR M0 H Lp) (hz : ∀ e, e ∈ zb_hO H → zb_hK H e = 8 → zb_hZ H e = 5) (hcv : ∀ e, e ∈ zb_hO H → zb_hK H e = 8 → zb_cv H (zb_cf C H e 0) ∧ zb_cl M0 H e 1 = zb_cf C H e 0) : ∀ (es D : List Nat) (M : eM), zb_HC M cn (zb_hO H) fl hs (zb_hU H) (zb_hS H) (zb_hZ H) (zb_hK H) → zb_echT M H D (zb_cl M H t 1) 0 → zb_ech M H es (zb_hdl es) → (∀ e, e ∈ D ++ es → e ∈ zb_hO H ∧ zb_hK H e = 8) → (D ++ es).Nodup →
    (∀ x j, x ∈ zb_hO H → j < zb_hZ H x → ¬ (x = t ∧ (j = 1 ∨ j = 2)) → ¬ (x ∈ D ∧ j = 3) → zb_cl M H x j = zb_cl M0 H x j) → (∀ c, c ≠ 16 → M c = M0 c) →
    ∃ M', lp (fun z => fn_145_17 cn (cn / 3 + 1) (t : Int) z.1 z.2.1 z.2.2.1 z.2.2.2) (zb_lst D, (D.length : Int), zb_hdl es, M) = some M' ∧ zb_HC M' cn (zb_hO H) fl hs (zb_hU H) (zb_hS H) (zb_hZ H) (zb_hK H) ∧ zb_ech M' H (D ++ zb_flt C H Lp es) (zb_cl M' H t 1) ∧ zb_cl M' H t 2 = ((D ++ zb_flt C H Lp es).length : Int)
      ∧ (∀ x j, x ∈ zb_hO H → j < zb_hZ H x → ¬ (x = t ∧ (j = 1 ∨ j = 2)) → ¬ (x ∈ D ++ zb_flt C H Lp es ∧ j = 3) → zb_cl M' H x j = zb_cl M0 H x j) ∧ ∀ c, c ≠ 16 → M' c = M0 c := by
  intro es
  induction es with
  | nil =>
    intro D M hH hD he hm hn hun hc
    obtain ⟨M', a1, a2, a3, a4, a5⟩ := zb_put_x hH (i := 2) (v := (D.length : Int)) ht (by omega) (by omega)
    have hne : ∀ e, e ∈ D → e ≠ t := fun e he z => by
      have := (hm e (List.mem_append_left _ he)).2
      rw [z] at this; omega
    have hfl : D ++ zb_flt C H Lp [] = D := by unfold zb_flt; simp
    rw [hfl]
    have e1 : zb_cl M' H t 1 = zb_cl M H t 1 := a4 t 1 ht (by omega) (by omega)
    refine ⟨M', ?_, a2, ?_, a3, fun x j hx hj h1 h2 => ?_, fun c hcc => (a5 c hcc).trans (hc c hcc)⟩
    · refine lp_inr (c := fun z => fn_145_17 cn (cn / 3 + 1) (t : Int) z.1 z.2.1 z.2.2.1 z.2.2.2) (s := (zb_lst D, (D.length : Int), zb_hdl [], M)) ?_
      show fn_145_17 cn (cn / 3 + 1) (t : Int) (zb_lst D) (D.length : Int) (zb_hdl []) M = _
      have a1' : fn_94 cn (cn / 3 + 1) (t : Int) 2 (D.length : Int) M = some M' := a1
      unfold fn_145_17
      rw [if_pos (show zb_hdl [] = 0 from rfl), a1', Option.bind_some]
    · rw [e1]
      exact zb_echT_0 (zb_echT_eq (fun e he => a4 e 3 (hm e (List.mem_append_left _ he)).1 (by have := hz e (hm e (List.mem_append_left _ he)).1 (hm e (List.mem_append_left _ he)).2; omega) (fun z => hne e he z.1)) hD)
    · rw [a4 x j hx hj (fun z => h1 ⟨z.1, Or.inr z.2⟩)]
      exact hun x j hx hj h1 h2
  | cons e es ih =>
    intro D M hH hD he hm hn hun hc
    obtain ⟨k1, k2⟩ := hm e (List.mem_append_right _ List.mem_cons_self)
    obtain ⟨x1, x2, x3⟩ := zb_hc_h hH k1
    have hcn := hH.1.2.1
    have hze := hz e k1 k2
    obtain ⟨n1, n2, n3⟩ := List.nodup_append.mp hn
    obtain ⟨n4, n5⟩ := List.nodup_cons.mp n2
    have heD : e ∉ D := fun z => n3 e z e List.mem_cons_self rfl
    have het : e ≠ t := fun z => by rw [z] at k2; omega
    have hnx : zb_cl M H e 3 = zb_hdl es := zb_ech_hd he.2
    have hwn : eg_wi (zb_hdl es) = zb_hdl es := by
      cases es with
      | nil => decide
      | cons f fs =>
        obtain ⟨y1, y2, y3⟩ := zb_hc_h hH (hm f (List.mem_append_right _ (List.mem_cons_of_mem _ List.mem_cons_self))).1
        exact zb_wi_n (by omega)
    have t3 : fn_78 cn (cn / 3 + 1) (e : Int) 3 M = some (zb_hdl es) := by
      rw [← hnx]; exact zb_get_c hH k1 (i := 3) (by omega)
    obtain ⟨v1, v2⟩ := hcv e k1 k2
    have t1 : fn_78 cn (cn / 3 + 1) (e : Int) 1 M = some (zb_cf C H e 0) := by
      rw [← v2, ← hun e 1 k1 (by omega) (fun z => het z.1) (fun z => by omega)]; exact zb_get_c hH k1 (i := 1) (by omega)
    have hLTM : zb_LTR M H Lp := fun h hh => by rw [hc 39 (by decide)]; exact hLT h hh
    have hes : zb_ech M H es (zb_hdl es) := by
      have := he.2
      rwa [show M 16 (zb_hS H e + 3) = zb_hdl es from hnx] at this
    have hzero : zb_hdl (e :: es) ≠ 0 := by show ((e : Nat) : Int) ≠ 0; omega
    rcases zb_live_c hH hLTM v1 with ⟨l1, l2⟩ | ⟨l1, l2⟩
    · -- it stays
      have step : ∃ M1, fn_145_17 cn (cn / 3 + 1) (t : Int) (zb_lst D) (D.length : Int) (zb_hdl (e :: es)) M = some (.inl (zb_lst (D ++ [e]), ((D ++ [e]).length : Int), zb_hdl es, M1)) ∧ zb_HC M1 cn (zb_hO H) fl hs (zb_hU H) (zb_hS H) (zb_hZ H) (zb_hK H) ∧ zb_echT M1 H (D ++ [e]) (zb_cl M1 H t 1) 0 ∧ (∀ x j, x ∈ zb_hO H → j < zb_hZ H x → ¬ (x = t ∧ j = 1) → ¬ (x ∈ D ++ [e] ∧ j = 3) → zb_cl M1 H x j = zb_cl M H x j) ∧ ∀ c, c ≠ 16 → M1 c = M c := by
        rcases List.eq_nil_or_concat D with hD0 | ⟨D0, l, hD0⟩
        · subst hD0
          obtain ⟨Ma, a1, a2, a3, a4, a5⟩ := zb_put_x hH (i := 1) (v := (e : Int)) ht (by omega) (by omega)
          obtain ⟨Mb, b1, b2, b3, b4, b5⟩ := zb_put_x a2 (i := 3) (v := 0) k1 (by omega) (by omega)
          have a1' : fn_94 cn (cn / 3 + 1) (t : Int) 1 (e : Int) M = some Ma := a1
          have b1' : fn_94 cn (cn / 3 + 1) (e : Int) 3 0 Ma = some Mb := b1
          refine ⟨Mb, ?_, b2, ?_, fun x j hx hj h1 h2 => ?_, fun c hcc => (b5 c hcc).trans (a5 c hcc)⟩
          · unfold fn_145_17
            rw [if_neg hzero]
            show (fn_78 cn (cn / 3 + 1) (e : Int) 3 M).bind _ = _
            rw [t3, Option.bind_some]
            show (fn_78 cn (cn / 3 + 1) (e : Int) 1 M).bind _ = _
            rw [t1, Option.bind_some, l1, Option.bind_some, if_neg (by decide), if_neg (by decide)]
            show (fn_94 cn (cn / 3 + 1) (t : Int) 1 (e : Int) M).bind _ = _
            rw [a1', Option.bind_some]
            show (fn_94 cn (cn / 3 + 1) (e : Int) 3 0 Ma).bind _ = _
            have e1w : eg_wi ((([] : List Nat).length : Int) + 1) = 1 := by decide
            rw [b1', Option.bind_some, hwn, zb_lst_app, e1w]
            rfl
          · rw [b4 t 1 ht (by omega) (fun z => het z.1.symm), a3]
            exact ⟨rfl, b3⟩
          · rw [b4 x j hx hj (fun z => h2 ⟨by rw [z.1]; simp, z.2⟩), a4 x j hx hj h1]
        · rw [List.concat_eq_append] at hD0
          subst hD0
          obtain ⟨d1, d2⟩ := zb_echT_app.mp hD
          have hl := hm l (List.mem_append_left _ (List.mem_append_right _ List.mem_cons_self))
          have hlz := hz l hl.1 hl.2
          obtain ⟨w1, w2, w3⟩ := zb_hc_h hH hl.1
          have hle : l ≠ e := fun z => heD (by rw [← z]; simp)
          have hlt : l ≠ t := fun z => by rw [z] at hl; omega
          obtain ⟨Ma, a1, a2, a3, a4, a5⟩ := zb_put_x hH (i := 3) (v := (e : Int)) hl.1 (by omega) (by omega)
          obtain ⟨Mb, b1, b2, b3, b4, b5⟩ := zb_put_x a2 (i := 3) (v := 0) k1 (by omega) (by omega)
          have a1' : fn_94 cn (cn / 3 + 1) (l : Int) 3 (e : Int) M = some Ma := a1
          have b1' : fn_94 cn (cn / 3 + 1) (e : Int) 3 0 Ma = some Mb := b1
          obtain ⟨n6, n7, n8⟩ := List.nodup_append.mp n1
          refine ⟨Mb, ?_, b2, ?_, fun x j hx hj h1 h2 => ?_, fun c hcc => (b5 c hcc).trans (a5 c hcc)⟩
          · unfold fn_145_17
            rw [if_neg hzero, zb_lst_app]
            show (fn_78 cn (cn / 3 + 1) (e : Int) 3 M).bind _ = _
            rw [t3, Option.bind_some]
            show (fn_78 cn (cn / 3 + 1) (e : Int) 1 M).bind _ = _
            rw [t1, Option.bind_some, l1, Option.bind_some, if_neg (by decide), if_pos (by omega)]
            show (fn_94 cn (cn / 3 + 1) (l : Int) 3 (e : Int) M).bind _ = _
            rw [a1', Option.bind_some]
            show (fn_94 cn (cn / 3 + 1) (e : Int) 3 0 Ma).bind _ = _
            have hcnt : (D0 ++ [l]).length ≤ 6700 := by
              have h1 : (D0 ++ [l]).length ≤ (zb_hO H).length := zb_len_of_sub n1 (fun x hx => (hm x (List.mem_append_left _ hx)).1)
              have h2 := zb_cum_len hH.2.1 (fun h hh => (hH.2.2.1 h hh).2.2.2.2.1)
              have := hH.1.2.2.2.1
              omega
            rw [b1', Option.bind_some, hwn, zb_wi_1 (by omega), zb_lst_app, List.length_append (bs := [e]), List.length_singleton, show zb_hdl (e :: es) = (e : Int) from rfl]
          · rw [b4 t 1 ht (by omega) (fun z => het z.1.symm), a4 t 1 ht (by omega) (fun z => hlt z.1.symm)]
            refine zb_echT_app.mpr ⟨zb_echT_app.mpr ⟨?_, ?_⟩, b3⟩
            · refine zb_echT_eq (fun q hq => ?_) d1
              have hqm := hm q (List.mem_append_left _ (List.mem_append_left _ hq))
              have hqz := hz q hqm.1 hqm.2
              have hql : q ≠ l := n8 q hq l List.mem_cons_self
              have hqe : q ≠ e := fun z => heD (by rw [← z]; exact List.mem_append_left _ hq)
              rw [b4 q 3 hqm.1 (by omega) (fun z => hqe z.1), a4 q 3 hqm.1 (by omega) (fun z => hql z.1)]
            · rw [b4 l 3 hl.1 (by omega) (fun z => hle z.1), a3]
          · have hxl : ¬ (x = l ∧ j = 3) := fun z => h2 ⟨by rw [z.1]; simp, z.2⟩
            have hxe : ¬ (x = e ∧ j = 3) := fun z => h2 ⟨by rw [z.1]; simp, z.2⟩
            rw [b4 x j hx hj hxe, a4 x j hx hj hxl]
      obtain ⟨M1, a1, a2, a3, a4, a5⟩ := step
      have app : D ++ e :: es = (D ++ [e]) ++ es := by simp
      have hes1 : zb_ech M1 H es (zb_hdl es) := zb_ech_eq (fun q hq => by
        have hqm := hm q (List.mem_append_right _ (List.mem_cons_of_mem _ hq))
        have hqz := hz q hqm.1 hqm.2
        refine a4 q 3 hqm.1 (by omega) (fun z => by omega) (fun z => ?_)
        rcases List.mem_append.mp z.1 with z | z
        · exact n3 q z q (List.mem_cons_of_mem _ hq) rfl
        · have : q = e := by simpa using z
          exact n4 (this ▸ hq)) hes
      obtain ⟨M', b1, b2, b3, b4, b5, b6⟩ := ih (D ++ [e]) M1 a2 a3 hes1 (fun q hq => hm q (app ▸ hq)) (app ▸ hn) (fun x j hx hj h1 h2 => by
        rw [a4 x j hx hj (fun z => h1 ⟨z.1, Or.inl z.2⟩) h2]
        exact hun x j hx hj h1 (fun z => h2 ⟨List.mem_append_left _ z.1, z.2⟩)) (fun c hcc => (a5 c hcc).trans (hc c hcc))
      have hfl : D ++ zb_flt C H Lp (e :: es) = D ++ [e] ++ zb_flt C H Lp es := by rw [zb_flt_c1 l2]; simp
      rw [hfl]
      refine ⟨M', ?_, b2, b3, b4, b5, b6⟩
      rw [← b1]
      exact lp_inl (c := fun z => fn_145_17 cn (cn / 3 + 1) (t : Int) z.1 z.2.1 z.2.2.1 z.2.2.2) (s := (zb_lst D, (D.length : Int), zb_hdl (e :: es), M)) a1
    · -- it goes
      have hn' : (D ++ es).Nodup := List.nodup_append.mpr ⟨n1, n5, fun a ha b hb => n3 a ha b (List.mem_cons_of_mem _ hb)⟩
      obtain ⟨M', b1, b2, b3, b4, b5, b6⟩ := ih D M hH hD hes (fun q hq => hm q (by
        rcases List.mem_append.mp hq with z | z
        · exact List.mem_append_left _ z
        · exact List.mem_append_right _ (List.mem_cons_of_mem _ z))) hn' hun hc
      rw [zb_flt_c0 l2]
      refine ⟨M', ?_, b2, b3, b4, b5, b6⟩
      rw [← b1]
      refine lp_inl (c := fun z => fn_145_17 cn (cn / 3 + 1) (t : Int) z.1 z.2.1 z.2.2.1 z.2.2.2) (s := (zb_lst D, (D.length : Int), zb_hdl (e :: es), M)) (s' := (zb_lst D, (D.length : Int), zb_hdl es, M)) ?_
      show fn_145_17 cn (cn / 3 + 1) (t : Int) (zb_lst D) (D.length : Int) (zb_hdl (e :: es)) M = _
      unfold fn_145_17
      rw [if_neg hzero]
      show (fn_78 cn (cn / 3 + 1) (e : Int) 3 M).bind _ = _
      rw [t3, Option.bind_some]
      show (fn_78 cn (cn / 3 + 1) (e : Int) 1 M).bind _ = _
      rw [t1, Option.bind_some, l1, Option.bind_some, if_pos rfl, hwn]
end GC
def zb_chg (C : eM) (H : zb_Hp) (Lp : Nat → Prop) (x h i : Nat) : Prop :=
  (h < x ∧ zb_hK H h = 5 ∧ i = 1) ∨ (h < x ∧ zb_hK H h = 6 ∧ (i = 1 ∨ i = 2)) ∨ (h < x ∧ zb_hK H h = 7 ∧ (i = 1 ∨ i = 2)) ∨ (i = 3 ∧ ∃ t, t ∈ zb_hO H ∧ t < x ∧ zb_hK H t = 7 ∧ h ∈ zb_flt C H Lp (zb_hE H t))
def zb_CLR (C M : eM) (H : zb_Hp) (Lp : Nat → Prop) (x : Nat) : Prop :=
  (∀ h i, h ∈ zb_hO H → i < zb_hZ H h → ¬ zb_chg C H Lp x h i → zb_cl M H h i = zb_cl C H h i)
  ∧ (∀ h, h ∈ zb_hO H → h < x → zb_hK H h = 5 → (zb_lvs Lp (zb_cl C H h 1) → zb_cl M H h 1 = zb_cl C H h 1) ∧ (¬ zb_lvs Lp (zb_cl C H h 1) → zb_cl M H h 1 = 4294967296))
  ∧ (∀ h, h ∈ zb_hO H → h < x → zb_hK H h = 6 → (zb_lvs Lp (zb_cl C H h 1) → zb_cl M H h 1 = zb_cl C H h 1 ∧ zb_cl M H h 2 = zb_cl C H h 2) ∧ (¬ zb_lvs Lp (zb_cl C H h 1) → zb_cl M H h 1 = 4294967296 ∧ zb_cl M H h 2 = 4294967296))
  ∧ (∀ h, h ∈ zb_hO H → h < x → zb_hK H h = 7 → zb_ech M H (zb_flt C H Lp (zb_hE H h)) (zb_cl M H h 1) ∧ zb_cl M H h 2 = ((zb_flt C H Lp (zb_hE H h)).length : Int))
section GC
variable {C R : eM} {H : zb_Hp} {cn N rg hs : Nat} {fl : List Nat} {lam : Nat → Prop} {scp : Nat → Nat → Prop} {Lp : Nat → Prop} {M : eM}
theorem zb_chg_up {x h i : Nat} (h1 : zb_chg C H Lp x h i) : zb_chg C H Lp (x + 1) h i := by
  rcases h1 with ⟨a, b⟩ | ⟨a, b⟩ | ⟨a, b⟩ | ⟨a, t, t1, t2, t3⟩
  · exact Or.inl ⟨by omega, b⟩
  · exact Or.inr (Or.inl ⟨by omega, b⟩)
  · exact Or.inr (Or.inr (Or.inl ⟨by omega, b⟩))
  · exact Or.inr (Or.inr (Or.inr ⟨a, t, t1, by omega, t3⟩))
theorem zb_CLR_skip {x : Nat} (h : zb_CLR C M H Lp x) (hn : x ∈ zb_hO H → zb_hK H x ≠ 7 ∧ (zb_hK H x = 5 → zb_lvs Lp (zb_cl C H x 1)) ∧ (zb_hK H x = 6 → zb_lvs Lp (zb_cl C H x 1))) (hz : ∀ h, h ∈ zb_hO H → 3 ≤ zb_hZ H h ∧ (zb_hK H h = 6 → zb_hZ H h = 4)) : zb_CLR C M H Lp (x + 1) := by
  obtain ⟨u, f5, f6, f7⟩ := h
  have noc : ∀ i, x ∈ zb_hO H → (zb_hK H x = 5 ∨ zb_hK H x = 6) → i < 3 → i ≠ 0 → ¬ zb_chg C H Lp x x i := fun i hx hk i3 i0 z => by
    rcases z with ⟨z, _⟩ | ⟨z, _⟩ | ⟨z, _⟩ | ⟨z, _⟩ <;> omega
  refine ⟨fun h i hh hi hc => u h i hh hi (fun z => hc (zb_chg_up z)), fun h hh hx hk => ?_, fun h hh hx hk => ?_, fun h hh hx hk => ?_⟩
  · by_cases e : h = x
    · subst e
      refine ⟨fun _ => u h 1 hh (by have := (hz h hh).1; omega) (noc 1 hh (Or.inl hk) (by omega) (by omega)), fun z => absurd ((hn hh).2.1 hk) z⟩
    · exact f5 h hh (by omega) hk
  · by_cases e : h = x
    · subst e
      have := (hz h hh).2 hk
      refine ⟨fun _ => ⟨u h 1 hh (by omega) (noc 1 hh (Or.inr hk) (by omega) (by omega)), u h 2 hh (by omega) (noc 2 hh (Or.inr hk) (by omega) (by omega))⟩, fun z => absurd ((hn hh).2.2 hk) z⟩
    · exact f6 h hh (by omega) hk
  · by_cases e : h = x
    · subst e; exact absurd hk (hn hh).1
    · exact f7 h hh (by omega) hk
theorem zb_CLR_one {x : Nat} {M' : eM} (h : zb_CLR C M H Lp x) (hx : x ∈ zb_hO H) (hx7 : zb_hK H x ≠ 7) (hu : ∀ y j, y ∈ zb_hO H → j < zb_hZ H y → ¬ (y = x ∧ ((zb_hK H x = 5 ∧ j = 1) ∨ (zb_hK H x = 6 ∧ (j = 1 ∨ j = 2)))) → zb_cl M' H y j = zb_cl M H y j)
    (h5 : zb_hK H x = 5 → (zb_lvs Lp (zb_cl C H x 1) → zb_cl M' H x 1 = zb_cl C H x 1) ∧ (¬ zb_lvs Lp (zb_cl C H x 1) → zb_cl M' H x 1 = 4294967296))
    (h6 : zb_hK H x = 6 → (zb_lvs Lp (zb_cl C H x 1) → zb_cl M' H x 1 = zb_cl C H x 1 ∧ zb_cl M' H x 2 = zb_cl C H x 2) ∧ (¬ zb_lvs Lp (zb_cl C H x 1) → zb_cl M' H x 1 = 4294967296 ∧ zb_cl M' H x 2 = 4294967296))
    (hz : ∀ h, h ∈ zb_hO H → 3 ≤ zb_hZ H h ∧ (zb_hK H h = 6 → zb_hZ H h = 4) ∧ (zb_hK H h = 8 → zb_hZ H h = 5)) (hE8 : ∀ t e, t ∈ zb_hO H → zb_hK H t = 7 → e ∈ zb_hE H t → e ∈ zb_hO H ∧ zb_hK H e = 8) : zb_CLR C M' H Lp (x + 1) := by
  obtain ⟨u, f5, f6, f7⟩ := h
  refine ⟨fun h i hh hi hc => ?_, fun h hh hxx hk => ?_, fun h hh hxx hk => ?_, fun h hh hxx hk => ?_⟩
  · rw [hu h i hh hi (fun z => ?_), u h i hh hi (fun z => hc (zb_chg_up z))]
    rcases z with ⟨z, z1 | z1⟩
    · exact hc (Or.inl ⟨by omega, by rw [z]; exact z1.1, z1.2⟩)
    · exact hc (Or.inr (Or.inl ⟨by omega, by rw [z]; exact z1.1, z1.2⟩))
  · by_cases e : h = x
    · subst e; exact h5 hk
    · have := (hz h hh).1
      rw [hu h 1 hh (by omega) (fun z => e z.1)]
      exact f5 h hh (by omega) hk
  · by_cases e : h = x
    · subst e; exact h6 hk
    · have := (hz h hh).2.1 hk
      rw [hu h 1 hh (by omega) (fun z => e z.1), hu h 2 hh (by omega) (fun z => e z.1)]
      exact f6 h hh (by omega) hk
  · by_cases e : h = x
    · subst e; exact absurd hk hx7
    · have hz1 := (hz h hh).1
      obtain ⟨a, b⟩ := f7 h hh (by omega) hk
      rw [hu h 1 hh (by omega) (fun z => e z.1), hu h 2 hh (by omega) (fun z => e z.1)]
      refine ⟨zb_ech_eq (fun q hq => ?_) a, b⟩
      obtain ⟨q1, q2⟩ := hE8 h q hh hk (zb_flt_m hq)
      have := (hz q q1).2.2 q2
      exact hu q 3 q1 (by omega) (fun z => by omega)
theorem zb_clear_loop {M0 : eM} (hr : zb_HR C R H cn N lam scp) (hN : N ≤ 444) (hH0 : zb_HC C cn (zb_hO H) fl hs (zb_hU H) (zb_hS H) (zb_hZ H) (zb_hK H)) (hLT : zb_LTR M0 H Lp) (h1 : ∀ c, c ≠ 38 → c ≠ 39 → c ≠ 40 → c ≠ 41 → c ≠ 42 → M0 c = C c) : ∀ (k x : Nat) (M : eM), 1 ≤ x → x + k = hs + 1 → zb_HC M cn (zb_hO H) fl hs (zb_hU H) (zb_hS H) (zb_hZ H) (zb_hK H) → (∀ c, c ≠ 16 → M c = M0 c) → zb_CLR C M H Lp x →
    ∃ M', lp (fun z => fn_144_2 cn (cn / 3 + 1) z.1 z.2) ((x : Int), M) = some M' ∧ zb_HC M' cn (zb_hO H) fl hs (zb_hU H) (zb_hS H) (zb_hZ H) (zb_hK H) ∧ (∀ c, c ≠ 16 → M' c = M0 c) ∧ zb_CLR C M' H Lp (hs + 1) := by
  have hz : ∀ h, h ∈ zb_hO H → 3 ≤ zb_hZ H h ∧ (zb_hK H h = 6 → zb_hZ H h = 4) ∧ (zb_hK H h = 8 → zb_hZ H h = 5) ∧ (zb_hK H h = 7 → zb_hZ H h = 3) ∧ (zb_hK H h = 5 → zb_hZ H h = 3) := fun h hh => by
    have := (zb_hr_ob hr hh).2.2.2.1; unfold zb_szk at this; omega
  have hE8 : ∀ t e, t ∈ zb_hO H → zb_hK H t = 7 → e ∈ zb_hE H t → e ∈ zb_hO H ∧ zb_hK H e = 8 := fun t e ht hk he => (hr.2.2.2.1.1 t ht hk).2.2 e he
  intro k
  induction k with
  | zero =>
    intro x M hx1 hx hH hc hcl
    have hxe : x = hs + 1 := by omega
    subst hxe
    refine ⟨M, lp2_inr ?_, hH, hc, hcl⟩
    unfold fn_144_2
    rw [hH.1.2.2.2.2.2.1, if_pos (by omega)]
  | succ k ih =>
    intro x M hx1 hx hH hc hcl
    have hhs := hH.1.2.2.2.2.2
    have hcn := hH.1.2.1
    have e158 : M 15 8 = (hs : Int) := hhs.1
    have hxm : x ∈ zb_hO H ++ fl := (hH.2.2.2.2.2.2 x).mpr ⟨hx1, by omega⟩
    have fin : ∀ M1 : eM, fn_144_2 cn (cn / 3 + 1) (x : Int) M = some (.inl (((x + 1 : Nat) : Int), M1)) → zb_HC M1 cn (zb_hO H) fl hs (zb_hU H) (zb_hS H) (zb_hZ H) (zb_hK H) → (∀ c, c ≠ 16 → M1 c = M0 c) → zb_CLR C M1 H Lp (x + 1) → ∃ M', lp (fun z => fn_144_2 cn (cn / 3 + 1) z.1 z.2) ((x : Int), M) = some M' ∧ zb_HC M' cn (zb_hO H) fl hs (zb_hU H) (zb_hS H) (zb_hZ H) (zb_hK H) ∧ (∀ c, c ≠ 16 → M' c = M0 c) ∧ zb_CLR C M' H Lp (hs + 1) := by
      intro M1 a b c d
      obtain ⟨M', r1, r2, r3, r4⟩ := ih (x + 1) M1 (by omega) (by omega) b c d
      exact ⟨M', (lp2_inl a).trans r1, r2, r3, r4⟩
    have hLTM : zb_LTR M H Lp := fun h hh => by rw [hc 39 (by decide)]; exact hLT h hh
    rcases List.mem_append.mp hxm with hxO | hxF
    · obtain ⟨y1, y2, y3, y4, y5, y6, y7⟩ := hH.2.2.1 x hxO
      obtain ⟨w1, w2, w3⟩ := zb_hc_h hH hxO
      obtain ⟨z1, z2, z3, z4, z5⟩ := hz x hxO
      have un : ∀ i, i < zb_hZ H x → i = 1 ∨ i = 2 → zb_cl M H x i = zb_cl C H x i := fun i hi hi2 => hcl.1 x i hxO hi (fun z => by
        rcases z with ⟨z, _⟩ | ⟨z, _⟩ | ⟨z, _⟩ | ⟨z, _⟩ <;> omega)
      by_cases k7 : zb_hK H x = 7
      · -- a table
        obtain ⟨u1, u2, u3⟩ := hr.2.2.2.1.1 x hxO k7
        have hz3 := z4 k7
        obtain ⟨M1, a1, a2, a3, a4, a5⟩ := zb_put_x hH (i := 1) (v := 0) hxO (by omega) (by omega)
        have t1 : fn_78 cn (cn / 3 + 1) (x : Int) 1 M = some (zb_hdl (zb_hE H x)) := by
          have : zb_cl M H x 1 = zb_hdl (zb_hE H x) := by rw [un 1 (by omega) (Or.inl rfl)]; exact zb_ech_hd u1
          rw [← this]; exact zb_get_c hH hxO (i := 1) (by omega)
        have hne : ∀ e, e ∈ zb_hE H x → e ≠ x := fun e he z => by have := (u3 e he).2; rw [z] at this; omega
        have hun1 : ∀ e j, e ∈ zb_hO H → zb_hK H e = 8 → j < 5 → (j = 3 → e ∈ zb_hE H x) → zb_cl M1 H e j = zb_cl C H e j := fun e j he hk hj hj3 => by
          have hez := (hz e he).2.2.1 hk
          have hex : e ≠ x := fun z => by rw [z] at hk; omega
          rw [a4 e j he (by omega) (fun z => hex z.1)]
          refine hcl.1 e j he (by omega) (fun z => ?_)
          rcases z with ⟨_, z, _⟩ | ⟨_, z, _⟩ | ⟨_, z, _⟩ | ⟨z, t, t1, t2, t3, t4⟩
          · omega
          · omega
          · omega
          · have := hr.2.2.2.1.2 t x e t1 t3 hxO k7 (zb_flt_m t4) (hj3 z)
            omega
        have hes : zb_ech M1 H (zb_hE H x) (zb_hdl (zb_hE H x)) := by
          have hq : zb_ech C H (zb_hE H x) (zb_hdl (zb_hE H x)) := by rw [← zb_ech_hd u1]; exact u1
          exact zb_ech_eq (fun e he => hun1 e 3 (u3 e he).1 (u3 e he).2 (by omega) (fun _ => he)) hq
        have hnd := zb_ech_nd hr _ _ u1 u3
        have hLT1 : zb_LTR M1 H Lp := fun h hh => by rw [a5 39 (by decide)]; exact hLTM h hh
        obtain ⟨M2, b1, b2, b3, b4, b5, b6⟩ := zb_dz_loop (C := C) (Lp := Lp) (M0 := M1) (cn := cn) (hs := hs) (fl := fl) hxO k7 hz3 hLT1 (fun e he hk => (hz e he).2.2.1 hk) (fun e he hk => by
          refine ⟨zb_hr_cv hr hN he (by rw [hk]; simp [zb_nf]), ?_⟩
          rw [hun1 e 1 he hk (by omega) (fun z => by omega)]
          unfold zb_cf zb_ci; rw [hk]; rfl) (zb_hE H x) [] M1 a2 a3 hes (fun e he => u3 e (by simpa using he)) (by simpa using hnd) (fun y j hy hj _ _ => rfl) (fun c _ => rfl)
        rw [List.nil_append] at b3 b4 b5
        have hwn : eg_wi (zb_hdl (zb_hE H x)) = zb_hdl (zb_hE H x) := by
          cases hes : zb_hE H x with
          | nil => decide
          | cons f fs =>
            obtain ⟨q1, q2, q3⟩ := zb_hc_h hH (u3 f (by rw [hes]; exact List.mem_cons_self)).1
            exact zb_wi_n (by omega)
        have e145 : fn_145 cn (cn / 3 + 1) (x : Int) M = some M2 := by
          have a1' : fn_94 cn (cn / 3 + 1) (x : Int) 1 0 M = some M1 := a1
          unfold fn_145
          rw [t1, Option.bind_some, a1', Option.bind_some, hwn]
          exact b1
        refine fin M2 ?_ b2 (fun c hcc => (b6 c hcc).trans ((a5 c hcc).trans (hc c hcc))) ?_
        · unfold fn_144_2
          rw [e158, if_neg (by omega), if_pos (by omega), Int.toNat_natCast, y3, if_neg (by omega), e145, Option.bind_some, zb_wi_1 (by omega)]
        · obtain ⟨uu, f5, f6, f7⟩ := hcl
          have hu : ∀ y j, y ∈ zb_hO H → j < zb_hZ H y → ¬ (y = x ∧ (j = 1 ∨ j = 2)) → ¬ (y ∈ zb_flt C H Lp (zb_hE H x) ∧ j = 3) → zb_cl M2 H y j = zb_cl M H y j := fun y j hy hj q1 q2 => by
            rw [b5 y j hy hj q1 q2, a4 y j hy hj (fun z => q1 ⟨z.1, Or.inl z.2⟩)]
          refine ⟨fun h i hh hi hcc => ?_, fun h hh hxx hk => ?_, fun h hh hxx hk => ?_, fun h hh hxx hk => ?_⟩
          · rw [hu h i hh hi (fun z => hcc (Or.inr (Or.inr (Or.inl ⟨by omega, by rw [z.1]; exact k7, z.2⟩)))) (fun z => hcc (Or.inr (Or.inr (Or.inr ⟨z.2, x, hxO, by omega, k7, z.1⟩))))]
            exact uu h i hh hi (fun z => hcc (zb_chg_up z))
          · have hhx : h ≠ x := fun z => by rw [z] at hk; omega
            rw [hu h 1 hh (by have := (hz h hh).1; omega) (fun z => hhx z.1) (fun z => by omega)]
            exact f5 h hh (by omega) hk
          · have hhx : h ≠ x := fun z => by rw [z] at hk; omega
            have := (hz h hh).2.1 hk
            rw [hu h 1 hh (by omega) (fun z => hhx z.1) (fun z => by omega), hu h 2 hh (by omega) (fun z => hhx z.1) (fun z => by omega)]
            exact f6 h hh (by omega) hk
          · by_cases e : h = x
            · subst e; exact ⟨b3, b4⟩
            · have hz1 := (hz h hh).1
              obtain ⟨a, b⟩ := f7 h hh (by omega) hk
              rw [hu h 1 hh (by omega) (fun z => e z.1) (fun z => by omega), hu h 2 hh (by omega) (fun z => e z.1) (fun z => by omega)]
              refine ⟨zb_ech_eq (fun q hq => ?_) a, b⟩
              obtain ⟨q1, q2⟩ := hE8 h q hh hk (zb_flt_m hq)
              have := (hz q q1).2.2.1 q2
              refine hu q 3 q1 (by omega) (fun z => by omega) (fun z => ?_)
              have := hr.2.2.2.1.2 h x q hh hk hxO k7 (zb_flt_m hq) (zb_flt_m z.1)
              exact e this
      · by_cases k5 : zb_hK H x = 5
        · have hz3 := z5 k5
          have c1 : zb_cf C H x 0 = zb_cl C H x 1 := by unfold zb_cf zb_ci zb_cl; rw [k5]; rfl
          have hcv : zb_cv H (zb_cl C H x 1) := by rw [← c1]; exact zb_hr_cv hr hN hxO (by rw [k5]; simp [zb_nf])
          have t1 : fn_78 cn (cn / 3 + 1) (x : Int) 1 M = some (zb_cl C H x 1) := by
            rw [← un 1 (by omega) (Or.inl rfl)]; exact zb_get_c hH hxO (i := 1) (by omega)
          rcases zb_live_c hH hLTM hcv with ⟨l1, l2⟩ | ⟨l1, l2⟩
          · refine fin M ?_ hH hc (zb_CLR_skip hcl (fun _ => ⟨k7, fun _ => l2, fun z => by omega⟩) (fun h hh => ⟨(hz h hh).1, (hz h hh).2.1⟩))
            unfold fn_144_2
            rw [e158, if_neg (by omega), if_pos (by omega), Int.toNat_natCast, y3, if_pos (by omega), if_neg (by omega), t1, Option.bind_some, l1, Option.bind_some, if_pos (by decide)]
            unfold fn_144_38
            rw [if_pos (by omega), zb_wi_1 (by omega)]
          · obtain ⟨M1, a1, a2, a3, a4, a5⟩ := zb_put_x hH (i := 1) (v := 4294967296) hxO (by omega) (by omega)
            have a1' : fn_94 cn (cn / 3 + 1) (x : Int) 1 4294967296 M = some M1 := a1
            refine fin M1 ?_ a2 (fun c hcc => (a5 c hcc).trans (hc c hcc)) (zb_CLR_one hcl hxO k7 (fun y j hy hj q => a4 y j hy hj (fun z => q ⟨z.1, Or.inl ⟨k5, z.2⟩⟩)) (fun _ => ⟨fun z => absurd z l2, fun _ => a3⟩) (fun z => by omega) (fun h hh => ⟨(hz h hh).1, (hz h hh).2.1, (hz h hh).2.2.1⟩) hE8)
            unfold fn_144_2
            rw [e158, if_neg (by omega), if_pos (by omega), Int.toNat_natCast, y3, if_pos (by omega), if_neg (by omega), t1, Option.bind_some, l1, Option.bind_some, if_neg (by decide), a1', Option.bind_some, zb_wi_1 (by omega)]
        · have e38 : fn_144_2 cn (cn / 3 + 1) (x : Int) M = fn_144_38 cn (cn / 3 + 1) (x : Int) (zb_hK H x : Int) M := by
            unfold fn_144_2
            rw [e158, if_neg (by omega), if_pos (by omega), Int.toNat_natCast, y3, if_pos (by omega), if_pos (by omega)]
          by_cases k6 : zb_hK H x = 6
          · have hz4 := z2 k6
            have c1 : zb_cf C H x 0 = zb_cl C H x 1 := by unfold zb_cf zb_ci zb_cl; rw [k6]; rfl
            have hcv : zb_cv H (zb_cl C H x 1) := by rw [← c1]; exact zb_hr_cv hr hN hxO (by rw [k6]; simp [zb_nf])
            have t1 : fn_78 cn (cn / 3 + 1) (x : Int) 1 M = some (zb_cl C H x 1) := by
              rw [← un 1 (by omega) (Or.inl rfl)]; exact zb_get_c hH hxO (i := 1) (by omega)
            rcases zb_live_c hH hLTM hcv with ⟨l1, l2⟩ | ⟨l1, l2⟩
            · refine fin M ?_ hH hc (zb_CLR_skip hcl (fun _ => ⟨k7, fun z => by omega, fun _ => l2⟩) (fun h hh => ⟨(hz h hh).1, (hz h hh).2.1⟩))
              rw [e38]
              unfold fn_144_38
              rw [if_neg (by omega), t1, Option.bind_some, l1, Option.bind_some, if_pos (by decide), zb_wi_1 (by omega)]
            · obtain ⟨M1, a1, a2, a3, a4, a5⟩ := zb_put_x hH (i := 1) (v := 4294967296) hxO (by omega) (by omega)
              obtain ⟨M2, b1, b2, b3, b4, b5⟩ := zb_put_x a2 (i := 2) (v := 4294967296) hxO (by omega) (by omega)
              have a1' : fn_94 cn (cn / 3 + 1) (x : Int) 1 4294967296 M = some M1 := a1
              have b1' : fn_94 cn (cn / 3 + 1) (x : Int) 2 4294967296 M1 = some M2 := b1
              have e1 : zb_cl M2 H x 1 = 4294967296 := by rw [b4 x 1 hxO (by omega) (by omega)]; exact a3
              refine fin M2 ?_ b2 (fun c hcc => (b5 c hcc).trans ((a5 c hcc).trans (hc c hcc))) (zb_CLR_one hcl hxO k7 (fun y j hy hj q => ?_) (fun z => by omega) (fun _ => ⟨fun z => absurd z l2, fun _ => ⟨e1, b3⟩⟩) (fun h hh => ⟨(hz h hh).1, (hz h hh).2.1, (hz h hh).2.2.1⟩) hE8)
              · rw [e38]
                unfold fn_144_38
                rw [if_neg (by omega), t1, Option.bind_some, l1, Option.bind_some, if_neg (by decide), a1', Option.bind_some, b1', Option.bind_some, zb_wi_1 (by omega)]
              · rw [b4 y j hy hj (fun z => q ⟨z.1, Or.inr ⟨k6, Or.inr z.2⟩⟩), a4 y j hy hj (fun z => q ⟨z.1, Or.inr ⟨k6, Or.inl z.2⟩⟩)]
          · refine fin M ?_ hH hc (zb_CLR_skip hcl (fun _ => ⟨k7, fun z => by omega, fun z => by omega⟩) (fun h hh => ⟨(hz h hh).1, (hz h hh).2.1⟩))
            rw [e38]
            unfold fn_144_38
            rw [if_pos (by omega), zb_wi_1 (by omega)]
    · have h18 := hH.2.2.2.2.1 x hxF
      have hxn : x ∉ zb_hO H := fun z => (List.nodup_append.mp hH.2.2.2.2.2.1).2.2 x z x hxF rfl
      refine fin M ?_ hH hc (zb_CLR_skip hcl (fun z => absurd z hxn) (fun h hh => ⟨(hz h hh).1, (hz h hh).2.1⟩))
      unfold fn_144_2
      rw [e158, if_neg (by omega), if_pos (by omega), Int.toNat_natCast, h18, if_pos (by decide), if_pos (by decide)]
      unfold fn_144_38
      rw [if_pos (by decide), zb_wi_1 (by omega)]
end GC
def zb_rlk (H : zb_Hp) (es : List Nat) : Int := match es with
  | [] => -1
  | e :: _ => zb_ov (zb_hP H e)
def zb_rlst (H : zb_Hp) (D : List Nat) : Int := match D.getLast? with
  | none => -1
  | some l => zb_ov (zb_hP H l)
theorem zb_rlst_app {H : zb_Hp} {D : List Nat} {e : Nat} : zb_rlst H (D ++ [e]) = zb_ov (zb_hP H e) := by unfold zb_rlst; rw [List.getLast?_append]; rfl
def zb_rechT (M : eM) (H : zb_Hp) : List Nat → Int → Int → Prop
  | [], x, y => x = y
  | e :: t, x, y => x = zb_ov (zb_hP H e) ∧ zb_rechT M H t (zb_rf M H e 2) y
theorem zb_rechT_0 {M : eM} {H : zb_Hp} : ∀ {es : List Nat} {x : Int}, zb_rechT M H es x (-1) → zb_rech M H es x := by
  intro es
  induction es with
  | nil => intro x h; exact h
  | cons e t ih => intro x h; exact ⟨h.1, ih h.2⟩
theorem zb_rechT_app {M : eM} {H : zb_Hp} : ∀ {D : List Nat} {e : Nat} {x y : Int}, zb_rechT M H (D ++ [e]) x y ↔ zb_rechT M H D x (zb_ov (zb_hP H e)) ∧ zb_rf M H e 2 = y := by
  intro D
  induction D with
  | nil => intro e x y; exact Iff.rfl
  | cons d t ih =>
    intro e x y
    constructor
    · intro h; have := ih.mp h.2; exact ⟨⟨h.1, this.1⟩, this.2⟩
    · intro h; exact ⟨h.1.1, ih.mpr ⟨h.1.2, h.2⟩⟩
theorem zb_rechT_eq {M M' : eM} {H : zb_Hp} : ∀ {D : List Nat} {x y : Int}, (∀ e, e ∈ D → zb_rf M' H e 2 = zb_rf M H e 2) → zb_rechT M H D x y → zb_rechT M' H D x y := by
  intro D
  induction D with
  | nil => intro x y _ h; exact h
  | cons d t ih => intro x y hh h; exact ⟨h.1, by rw [hh d List.mem_cons_self]; exact ih (fun e he => hh e (List.mem_cons_of_mem _ he)) h.2⟩
theorem zb_rech_eq {M M' : eM} {H : zb_Hp} : ∀ {D : List Nat} {x : Int}, (∀ e, e ∈ D → zb_rf M' H e 2 = zb_rf M H e 2) → zb_rech M H D x → zb_rech M' H D x := by
  intro D
  induction D with
  | nil => intro x _ h; exact h
  | cons d t ih => intro x hh h; exact ⟨h.1, by rw [hh d List.mem_cons_self]; exact ih (fun e he => hh e (List.mem_cons_of_mem _ he)) h.2⟩
theorem zb_rech_hd {M : eM} {H : zb_Hp} {es : List Nat} {x : Int} (h : zb_rech M H es x) : x = zb_rlk H es := by
  cases es with
  | nil => exact h
  | cons e t => exact h.1
def zb_RLT (M : eM) (H : zb_Hp) (Lp : Nat → Prop) : Prop := ∀ h, h ∈ zb_hO H → (Lp h → M 67 (zb_hP H h) = 1) ∧ (¬ Lp h → M 67 (zb_hP H h) = 0)
def zb_RLen (H : zb_Hp) : Prop := ∀ h, h ∈ zb_hO H → (zb_hC H (zb_hP H h)).length = zb_nf (zb_hK H h) (zb_hZ H h) ∧ h < 20000
section GC
variable {C R : eM} {H : zb_Hp} {cn N rg hs : Nat} {fs fc : List Nat} {lam : Nat → Prop} {scp : Nat → Nat → Prop} {Lp : Nat → Prop} {M : eM}
theorem zb_get_rx (hQ : zb_HQ M cn (zb_hU H) ((zb_hO H).map (zb_hP H)) fs fc (zb_hC H)) (hl : zb_RLen H) {h j : Nat} (hh : h ∈ zb_hO H) (hj : j < zb_nf (zb_hK H h) (zb_hZ H h)) : fn_189 (zb_ov (zb_hP H h)) (j : Int) M = some (zb_rf M H h j) := by
  have hjl : j < (zb_hC H (zb_hP H h)).length := by rw [(hl h hh).1]; exact hj
  rw [zb_get_r hQ (List.mem_map_of_mem hh) hjl]
  unfold zb_rf; rw [List.getD_eq_getElem?_getD, List.getElem?_eq_getElem hjl, Option.getD_some]
theorem zb_put_rx (hQ : zb_HQ M cn (zb_hU H) ((zb_hO H).map (zb_hP H)) fs fc (zb_hC H)) (hl : zb_RLen H) {h j : Nat} {v : Int} (hh : h ∈ zb_hO H) (hj : j < zb_nf (zb_hK H h) (zb_hZ H h)) : ∃ M', fn_205 (zb_ov (zb_hP H h)) (j : Int) v M = some M' ∧ zb_HQ M' cn (zb_hU H) ((zb_hO H).map (zb_hP H)) fs fc (zb_hC H) ∧ zb_rf M' H h j = v ∧ (∀ x i, x ∈ zb_hO H → i < zb_nf (zb_hK H x) (zb_hZ H x) → ¬ (x = h ∧ i = j) → zb_rf M' H x i = zb_rf M H x i) ∧ ∀ c, c ≠ 70 → M' c = M c := by
  have hjl : j < (zb_hC H (zb_hP H h)).length := by rw [(hl h hh).1]; exact hj
  refine ⟨_, zb_put_r hQ (List.mem_map_of_mem hh) hjl, zb_put_HQ hQ, ?_, fun x i hx hi hne => ?_, fun c hc => eg_u_ne hc⟩
  · unfold zb_rf; rw [List.getD_eq_getElem?_getD, List.getElem?_eq_getElem hjl, Option.getD_some]; simp [eg_u]
  · have hil : i < (zb_hC H (zb_hP H x)).length := by rw [(hl x hx).1]; exact hi
    unfold zb_rf
    rw [List.getD_eq_getElem?_getD, List.getElem?_eq_getElem hil, Option.getD_some]
    refine zb_put_q hQ (List.mem_map_of_mem hh) hjl (List.mem_map_of_mem hx) hil (fun z => hne ⟨?_, z.2⟩)
    exact zb_map_inj (List.nodup_append.mp hQ.2.2.1).1 x h hx hh z.1
theorem zb_live_r (hQ : zb_HQ M cn (zb_hU H) ((zb_hO H).map (zb_hP H)) fs fc (zb_hC H)) (hl : zb_RLen H) (ht : zb_RLT M H Lp) {v w : Int} (hv : zb_pv H v w) : (fn_200 w M = some 1 ∧ zb_lvs Lp v) ∨ (fn_200 w M = some 0 ∧ ¬ zb_lvs Lp v) := by
  rcases hv with ⟨g, g1, g2, g3⟩ | ⟨n1, n2, n3, n4⟩
  · have hp := zb_ps_lt hQ (List.mem_map_of_mem g1)
    have hg := (hl g g1).2
    have e201 : fn_201 w M = some 1 := by
      unfold fn_201; rw [g3, if_neg zb_ov_pos, zb_sh_ov hp, if_neg (by decide)]
    by_cases hL : Lp g
    · left
      refine ⟨?_, fun q q1 q2 => by have : q = g := by omega
                                    rw [this]; exact hL⟩
      unfold fn_200
      rw [e201, Option.bind_some, if_neg (by decide), g3, zb_f187 hp, Option.bind_some, if_pos (by omega), Int.toNat_natCast, (ht g g1).1 hL, if_neg (by decide)]
    · right
      refine ⟨?_, fun z => hL (z g hg g2)⟩
      unfold fn_200
      rw [e201, Option.bind_some, if_neg (by decide), g3, zb_f187 hp, Option.bind_some, if_pos (by omega), Int.toNat_natCast, (ht g g1).2 hL, if_pos rfl]
  · left
    refine ⟨?_, fun q q1 q2 => absurd q2 (n3 q q1)⟩
    have e201 : fn_201 w M = some 0 := by
      unfold fn_201
      by_cases hw : w < 0
      · rw [if_pos hw]
      · rw [if_neg hw, if_pos (n2.resolve_left hw)]
    unfold fn_200
    rw [e201, Option.bind_some, if_pos rfl]
theorem zb_thin_loop {t : Nat} {M0 : eM} (hl : zb_RLen H) (ht : t ∈ zb_hO H) (hk : zb_hK H t = 7) (hLT : zb_RLT M0 H Lp) (hpv : ∀ e, e ∈ zb_hO H → zb_hK H e = 8 → zb_pv H (zb_cf C H e 0) (zb_rf M0 H e 0)) : ∀ (es D : List Nat) (M : eM), zb_HQ M cn (zb_hU H) ((zb_hO H).map (zb_hP H)) fs fc (zb_hC H) → zb_rechT M H D (zb_rf M H t 0) (zb_rlk H es) → zb_rech M H es (zb_rlk H es) → (∀ e, e ∈ D ++ es → e ∈ zb_hO H ∧ zb_hK H e = 8) → (D ++ es).Nodup →
    (∀ x j, x ∈ zb_hO H → j < zb_nf (zb_hK H x) (zb_hZ H x) → ¬ (x = t ∧ j = 0) → ¬ (x ∈ D ∧ j = 2) → zb_rf M H x j = zb_rf M0 H x j) → (∀ c, c ≠ 70 → M c = M0 c) →
    ∃ M', lp (fun z => fn_206_7 (zb_ov (zb_hP H t)) z.1 z.2.1 z.2.2) (zb_rlst H D, zb_rlk H es, M) = some M' ∧ zb_HQ M' cn (zb_hU H) ((zb_hO H).map (zb_hP H)) fs fc (zb_hC H) ∧ zb_rech M' H (D ++ zb_flt C H Lp es) (zb_rf M' H t 0)
      ∧ (∀ x j, x ∈ zb_hO H → j < zb_nf (zb_hK H x) (zb_hZ H x) → ¬ (x = t ∧ j = 0) → ¬ (x ∈ D ++ zb_flt C H Lp es ∧ j = 2) → zb_rf M' H x j = zb_rf M0 H x j) ∧ ∀ c, c ≠ 70 → M' c = M0 c := by
  have n8 : ∀ e, zb_hK H e = 8 → ∀ j, j < 3 → j < zb_nf (zb_hK H e) (zb_hZ H e) := fun e he j hj => by rw [he]; simp [zb_nf]; exact hj
  have nt : 0 < zb_nf (zb_hK H t) (zb_hZ H t) := by rw [hk]; simp [zb_nf]
  intro es
  induction es with
  | nil =>
    intro D M hQ hD he hm hn hun hc
    have hfl : D ++ zb_flt C H Lp [] = D := by unfold zb_flt; simp
    rw [hfl]
    refine ⟨M, lp3_inr ?_, hQ, zb_rechT_0 hD, hun, hc⟩
    unfold fn_206_7
    rw [if_pos (show zb_rlk H [] = -1 from rfl)]
  | cons e es ih =>
    intro D M hQ hD he hm hn hun hc
    obtain ⟨k1, k2⟩ := hm e (List.mem_append_right _ List.mem_cons_self)
    obtain ⟨n1, n2, n3⟩ := List.nodup_append.mp hn
    obtain ⟨n4, n5⟩ := List.nodup_cons.mp n2
    have heD : e ∉ D := fun z => n3 e z e List.mem_cons_self rfl
    have het : e ≠ t := fun z => by rw [z] at k2; omega
    have hnx : zb_rf M H e 2 = zb_rlk H es := zb_rech_hd he.2
    have hes : zb_rech M H es (zb_rlk H es) := by rw [← hnx]; exact he.2
    have t0 : fn_189 (zb_ov (zb_hP H e)) 0 M = some (zb_rf M0 H e 0) := by
      rw [← hun e 0 k1 (n8 e k2 0 (by omega)) (fun z => het z.1) (fun z => by omega)]; exact zb_get_rx hQ hl k1 (n8 e k2 0 (by omega))
    have t2 : fn_189 (zb_ov (zb_hP H e)) 2 M = some (zb_rlk H es) := by rw [← hnx]; exact zb_get_rx hQ hl k1 (n8 e k2 2 (by omega))
    have hLTM : zb_RLT M H Lp := fun h hh => by rw [hc 67 (by decide)]; exact hLT h hh
    have hwn : ¬ (zb_rlk H (e :: es) = -1) := by show ¬ (zb_ov (zb_hP H e) = -1); unfold zb_ov; omega
    have hrl : zb_rlk H (e :: es) = zb_ov (zb_hP H e) := rfl
    rcases zb_live_r hQ hl hLTM (hpv e k1 k2) with ⟨l1, l2⟩ | ⟨l1, l2⟩
    · have app : D ++ e :: es = (D ++ [e]) ++ es := by simp
      obtain ⟨M', b1, b2, b3, b4, b5⟩ := ih (D ++ [e]) M hQ (zb_rechT_app.mpr ⟨hD, hnx⟩) hes (fun q hq => hm q (app ▸ hq)) (app ▸ hn) (fun x j hx hj q1 q2 => hun x j hx hj q1 (fun z => q2 ⟨List.mem_append_left _ z.1, z.2⟩)) hc
      have hfl : D ++ zb_flt C H Lp (e :: es) = D ++ [e] ++ zb_flt C H Lp es := by rw [zb_flt_c1 l2]; simp
      rw [hfl]
      refine ⟨M', ?_, b2, b3, b4, b5⟩
      rw [← b1]
      refine lp3_inl ?_
      unfold fn_206_7
      rw [if_neg hwn, hrl, t0, Option.bind_some, l1, Option.bind_some, if_neg (by decide), t2, Option.bind_some, zb_rlst_app]
    · have hn' : (D ++ es).Nodup := List.nodup_append.mpr ⟨n1, n5, fun a ha b hb => n3 a ha b (List.mem_cons_of_mem _ hb)⟩
      have hm' : ∀ q, q ∈ D ++ es → q ∈ zb_hO H ∧ zb_hK H q = 8 := fun q hq => hm q (by
        rcases List.mem_append.mp hq with z | z
        · exact List.mem_append_left _ z
        · exact List.mem_append_right _ (List.mem_cons_of_mem _ z))
      rw [zb_flt_c0 l2]
      have step : ∃ M1, fn_206_7 (zb_ov (zb_hP H t)) (zb_rlst H D) (zb_rlk H (e :: es)) M = some (.inl (zb_rlst H D, zb_rlk H es, M1)) ∧ zb_HQ M1 cn (zb_hU H) ((zb_hO H).map (zb_hP H)) fs fc (zb_hC H) ∧ zb_rechT M1 H D (zb_rf M1 H t 0) (zb_rlk H es) ∧ (∀ x j, x ∈ zb_hO H → j < zb_nf (zb_hK H x) (zb_hZ H x) → ¬ (x = t ∧ j = 0) → ¬ (x ∈ D ∧ j = 2) → zb_rf M1 H x j = zb_rf M H x j) ∧ ∀ c, c ≠ 70 → M1 c = M c := by
        rcases List.eq_nil_or_concat D with hD0 | ⟨D0, l, hD0⟩
        · subst hD0
          obtain ⟨Ma, a1, a2, a3, a4, a5⟩ := zb_put_rx hQ hl (j := 0) (v := zb_rlk H es) ht nt
          have a1' : fn_205 (zb_ov (zb_hP H t)) 0 (zb_rlk H es) M = some Ma := a1
          have u2 : fn_189 (zb_ov (zb_hP H e)) 2 Ma = some (zb_rlk H es) := by
            have : zb_rf Ma H e 2 = zb_rlk H es := by rw [a4 e 2 k1 (n8 e k2 2 (by omega)) (fun z => het z.1)]; exact hnx
            rw [← this]; exact zb_get_rx a2 hl k1 (n8 e k2 2 (by omega))
          refine ⟨Ma, ?_, a2, a3, fun x j hx hj q1 q2 => a4 x j hx hj q1, a5⟩
          unfold fn_206_7
          rw [if_neg hwn, hrl, t0, Option.bind_some, l1, Option.bind_some, if_pos rfl, if_neg (show ¬ ¬ zb_rlst H [] = -1 from fun z => z rfl), t2, Option.bind_some, a1', Option.bind_some, u2, Option.bind_some]
        · rw [List.concat_eq_append] at hD0
          subst hD0
          obtain ⟨d1, d2⟩ := zb_rechT_app.mp hD
          have hlm := hm l (List.mem_append_left _ (List.mem_append_right _ List.mem_cons_self))
          have hle : l ≠ e := fun z => heD (by rw [← z]; simp)
          have hlt : l ≠ t := fun z => by rw [z] at hlm; omega
          obtain ⟨n6, n7, n8'⟩ := List.nodup_append.mp n1
          obtain ⟨Ma, a1, a2, a3, a4, a5⟩ := zb_put_rx hQ hl (j := 2) (v := zb_rlk H es) hlm.1 (n8 l hlm.2 2 (by omega))
          have a1' : fn_205 (zb_ov (zb_hP H l)) 2 (zb_rlk H es) M = some Ma := a1
          have u2 : fn_189 (zb_ov (zb_hP H e)) 2 Ma = some (zb_rlk H es) := by
            have : zb_rf Ma H e 2 = zb_rlk H es := by rw [a4 e 2 k1 (n8 e k2 2 (by omega)) (fun z => hle z.1.symm)]; exact hnx
            rw [← this]; exact zb_get_rx a2 hl k1 (n8 e k2 2 (by omega))
          refine ⟨Ma, ?_, a2, ?_, fun x j hx hj q1 q2 => a4 x j hx hj (fun z => q2 ⟨by rw [z.1]; simp, z.2⟩), a5⟩
          · unfold fn_206_7
            rw [if_neg hwn, hrl, t0, Option.bind_some, l1, Option.bind_some, if_pos rfl, zb_rlst_app, if_pos (by unfold zb_ov; omega), t2, Option.bind_some, a1', Option.bind_some, u2, Option.bind_some]
          · rw [a4 t 0 ht nt (fun z => by omega)]
            refine zb_rechT_app.mpr ⟨zb_rechT_eq (fun q hq => ?_) d1, a3⟩
            have hqm := hm q (List.mem_append_left _ (List.mem_append_left _ hq))
            exact a4 q 2 hqm.1 (n8 q hqm.2 2 (by omega)) (fun z => n8' q hq l List.mem_cons_self z.1)
      obtain ⟨M1, a1, a2, a3, a4, a5⟩ := step
      have hes1 : zb_rech M1 H es (zb_rlk H es) := zb_rech_eq (fun q hq => by
        have hqm := hm' q (List.mem_append_right _ hq)
        exact a4 q 2 hqm.1 (n8 q hqm.2 2 (by omega)) (fun z => by omega) (fun z => n3 q z.1 q (List.mem_cons_of_mem _ hq) rfl)) hes
      obtain ⟨M', b1, b2, b3, b4, b5⟩ := ih D M1 a2 a3 hes1 hm' hn' (fun x j hx hj q1 q2 => (a4 x j hx hj q1 q2).trans (hun x j hx hj q1 q2)) (fun c hcc => (a5 c hcc).trans (hc c hcc))
      exact ⟨M', (lp3_inl a1).trans b1, b2, b3, b4, b5⟩
end GC
