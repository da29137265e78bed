noncomputable def zb_pd (Lp : Nat → Prop) (h : Nat) : Bool := @decide (Lp h) (Classical.propDecidable _)
noncomputable def zb_lvl (Lp : Nat → Prop) (l : List Nat) : List Nat := l.filter (fun h => zb_pd Lp h)
noncomputable def zb_ddl (Lp : Nat → Prop) (l : List Nat) : List Nat := l.filter (fun h => !zb_pd Lp h)
theorem zb_pd_t {Lp : Nat → Prop} {h : Nat} (x : Lp h) : zb_pd Lp h = true := @decide_eq_true _ (Classical.propDecidable _) x
theorem zb_pd_f {Lp : Nat → Prop} {h : Nat} (x : ¬ Lp h) : zb_pd Lp h = false := @decide_eq_false _ (Classical.propDecidable _) x
theorem zb_pd_i {Lp : Nat → Prop} {h : Nat} : zb_pd Lp h = true ↔ Lp h := ⟨fun x => @of_decide_eq_true _ (Classical.propDecidable _) x, zb_pd_t⟩
theorem zb_lvl_t {Lp : Nat → Prop} {h : Nat} {l : List Nat} (x : Lp h) : zb_lvl Lp (h :: l) = h :: zb_lvl Lp l ∧ zb_ddl Lp (h :: l) = zb_ddl Lp l := by
  unfold zb_lvl zb_ddl; rw [List.filter_cons, List.filter_cons, zb_pd_t x]; exact ⟨rfl, rfl⟩
theorem zb_lvl_f {Lp : Nat → Prop} {h : Nat} {l : List Nat} (x : ¬ Lp h) : zb_lvl Lp (h :: l) = zb_lvl Lp l ∧ zb_ddl Lp (h :: l) = h :: zb_ddl Lp l := by
  unfold zb_lvl zb_ddl; rw [List.filter_cons, List.filter_cons, zb_pd_f x]; exact ⟨rfl, rfl⟩
theorem zb_lvl_m {Lp : Nat → Prop} {h : Nat} {l : List Nat} : h ∈ zb_lvl Lp l ↔ h ∈ l ∧ Lp h := by
  unfold zb_lvl; rw [List.mem_filter, zb_pd_i]
theorem zb_ddl_m {Lp : Nat → Prop} {h : Nat} {l : List Nat} : h ∈ zb_ddl Lp l ↔ h ∈ l ∧ ¬ Lp h := by
  unfold zb_ddl; rw [List.mem_filter]
  by_cases x : Lp h
  · rw [zb_pd_t x]; simp [x]
  · rw [zb_pd_f x]; simp [x]
theorem zb_lvl_nd {Lp : Nat → Prop} {l : List Nat} (h : l.Nodup) : (zb_lvl Lp l).Nodup := List.Pairwise.filter _ h
theorem zb_ddl_nd {Lp : Nat → Prop} {l : List Nat} (h : l.Nodup) : (zb_ddl Lp l).Nodup := List.Pairwise.filter _ h
theorem zb_lvl_len {Lp : Nat → Prop} : ∀ {l : List Nat}, (zb_lvl Lp l).length + (zb_ddl Lp l).length = l.length := by
  intro l
  induction l with
  | nil => rfl
  | cons x l ih =>
    by_cases h : Lp x
    · rw [(zb_lvl_t h).1, (zb_lvl_t h).2]; simp only [List.length_cons]; omega
    · rw [(zb_lvl_f h).1, (zb_lvl_f h).2]; simp only [List.length_cons]; omega
def zb_sm (sz : Nat → Nat) : List Nat → Nat
  | [] => 0
  | a :: t => sz a + zb_sm sz t
def zb_nst (sz : Nat → Nat) : List Nat → Nat → Nat → Nat
  | [], p, _ => p
  | a :: t, p, h => if h = a then p else zb_nst sz t (p + sz a) h
theorem zb_nst_cum {sz : Nat → Nat} : ∀ (l : List Nat) (p : Nat) (st : Nat → Nat), l.Nodup → (∀ h, h ∈ l → st h = zb_nst sz l p h) → zb_cum st sz (p + zb_sm sz l) l p := by
  intro l
  induction l with
  | nil => intro p st _ _; rfl
  | cons a t ih =>
    intro p st hn hs
    obtain ⟨n1, n2⟩ := List.nodup_cons.mp hn
    refine ⟨by rw [hs a List.mem_cons_self]; unfold zb_nst; rw [if_pos rfl], ?_⟩
    have := ih (p + sz a) st n2 (fun h hh => by
      rw [hs h (List.mem_cons_of_mem _ hh)]
      have : h ≠ a := fun e => n1 (e ▸ hh)
      show zb_nst sz (a :: t) p h = _
      rw [zb_nst, if_neg this])
    rw [show p + zb_sm sz (a :: t) = p + sz a + zb_sm sz t by simp only [zb_sm]; omega]; exact this
theorem zb_cum_sm {st sz : Nat → Nat} {us : Nat} : ∀ {l : List Nat} {p : Nat}, zb_cum st sz us l p → us = p + zb_sm sz l := by
  intro l
  induction l with
  | nil => intro p h; exact h.symm
  | cons a t ih => intro p h; have := ih h.2; simp only [zb_sm]; omega
theorem zb_sm_le {sz : Nat → Nat} {Lp : Nat → Prop} : ∀ {l : List Nat}, zb_sm sz (zb_lvl Lp l) ≤ zb_sm sz l := by
  intro l
  induction l with
  | nil => exact Nat.le_refl _
  | cons a t ih =>
    by_cases h : Lp a
    · rw [(zb_lvl_t h).1]; simp only [zb_sm]; omega
    · rw [(zb_lvl_f h).1]; simp only [zb_sm]; omega
theorem zb_nst_ge {sz : Nat → Nat} : ∀ (l : List Nat) (p h : Nat), p ≤ zb_nst sz l p h := by
  intro l
  induction l with
  | nil => intro p h; exact Nat.le_refl _
  | cons a t ih =>
    intro p h; unfold zb_nst; split
    · exact Nat.le_refl _
    · have := ih (p + sz a) h; omega
theorem zb_frl_eqs {C C' : eM} : ∀ {l : List Nat} {x : Int}, (∀ h, h ∈ l → C' 17 h = C 17 h) → zb_frl C l x → zb_frl C' l x := by
  intro l
  induction l with
  | nil => intro x _ h; exact h
  | cons a t ih => intro x he h; exact ⟨h.1, by rw [he a List.mem_cons_self]; exact ih (fun y hy => he y (List.mem_cons_of_mem _ hy)) h.2⟩
section GC
variable {cn us mo : Nat} {st sz kd : Nat → Nat} {Lp : Nat → Prop} {M0 : eM}
def zb_KPO (M0 M : eM) (st sz kd : Nat → Nat) (Lp : Nat → Prop) (mo : Nat) (rest : List Nat) : Prop :=
  ∀ h, h ∈ rest → 1 ≤ h ∧ h < mo ∧ M 17 h = (st h : Int) ∧ M 19 h = (sz h : Int) ∧ M 18 h = (kd h : Int) ∧ M0 16 (st h) = (h : Int) ∧ 3 ≤ sz h ∧ (∀ i, i < sz h → M 16 (st h + i) = M0 16 (st h + i)) ∧ (Lp h → M 39 h = 1) ∧ (¬ Lp h → M 39 h = 0)
theorem zb_keep_loop (hcn : us ≤ cn ∧ cn ≤ 20000 ∧ mo ≤ 20000) : ∀ (rest fl : List Nat) (to zb_fr zb_ct : Nat) (M : eM), rest.Nodup → (∀ h, h ∈ rest → h ∉ fl) → zb_cum st sz us rest zb_fr → to ≤ zb_fr → zb_KPO M0 M st sz kd Lp mo rest → M 15 6 = (us : Int) → rest.length ≤ zb_ct → zb_ct < 20000 → M 15 7 = (zb_ct : Int) → zb_frl M fl (M 15 9) →
    ∃ M', lp (fun z => fn_147_6 cn mo z.1 z.2.1 z.2.2) ((to : Int), (zb_fr : Int), M) = some M' ∧ M' 15 6 = ((to + zb_sm sz (zb_lvl Lp rest) : Nat) : Int) ∧ M' 15 7 = ((zb_ct - (zb_ddl Lp rest).length : Nat) : Int) ∧ zb_frl M' ((zb_ddl Lp rest).reverse ++ fl) (M' 15 9)
      ∧ (∀ h, h ∈ zb_lvl Lp rest → M' 17 h = (zb_nst sz (zb_lvl Lp rest) to h : Int) ∧ M' 18 h = (kd h : Int) ∧ ∀ i, i < sz h → M' 16 (zb_nst sz (zb_lvl Lp rest) to h + i) = M0 16 (st h + i))
      ∧ (∀ h, h ∈ zb_ddl Lp rest → M' 18 h = 0) ∧ (∀ h, h ∉ rest → M' 17 h = M 17 h ∧ M' 18 h = M 18 h) ∧ (∀ j, j < to → M' 16 j = M 16 j)
      ∧ (∀ c, c ∉ ([15, 16, 17, 18] : List Nat) → M' c = M c) ∧ (∀ f, f ≠ 6 → f ≠ 7 → f ≠ 9 → M' 15 f = M 15 f) := by
  intro rest
  induction rest with
  | nil =>
    intro fl to zb_fr zb_ct M hn hd hc htf hk h6 hct hct2 h7 hf
    have hfu : zb_fr = us := hc
    refine ⟨eg_u M 15 6 (to : Int), lp3_inr ?_, by simp [eg_u, zb_lvl, zb_sm], by simp [eg_u, zb_ddl, h7], ?_, fun h hh => by simp [zb_lvl] at hh, fun h hh => by simp [zb_ddl] at hh, fun h _ => ⟨rfl, rfl⟩, fun j _ => rfl, fun c hc => ?_, fun f f1 f2 f3 => by simp [eg_u, f1]⟩
    · unfold fn_147_6
      rw [h6, if_pos (by omega)]
    · simp only [zb_ddl, List.filter_nil, List.reverse_nil, List.nil_append]
      exact zb_frl_ne (C := M) (C' := eg_u M 15 6 (to : Int)) rfl hf
    · simp only [List.mem_cons, List.not_mem_nil, or_false, not_or] at hc
      exact eg_u_ne hc.1
  | cons a t ih =>
    intro fl to zb_fr zb_ct M hn hd hc htf hk h6 hct hct2 h7 hf
    obtain ⟨n1, n2⟩ := List.nodup_cons.mp hn
    obtain ⟨c1, c2⟩ := hc
    obtain ⟨a1, a2, a3, a4, a5, a6, a7, a8, a9, a10⟩ := hk a List.mem_cons_self
    have hcl := zb_cum_le c2
    have e16 : M 16 zb_fr = (a : Int) := by
      have := a8 0 (by omega)
      rw [Nat.add_zero, c1] at this; rw [c1] at a6; rw [this]; exact a6
    have ea : eg_wi (M 16 zb_fr) = (a : Int) := by rw [e16]; exact zb_wi_n (by omega)
    simp only [List.length_cons] at hct
    have haf : a ∉ fl := hd a List.mem_cons_self
    by_cases hL : Lp a
    · have e39 := a9 hL
      have hstep : fn_147_6 cn mo (to : Int) (zb_fr : Int) M = some (.inl (((to + sz a : Nat) : Int), ((zb_fr + sz a : Nat) : Int), eg_u (eg_cp M 16 16 zb_fr to (sz a)) 17 a (to : Int))) := by
        unfold fn_147_6
        rw [h6, if_neg (by omega), if_pos (by omega), Int.toNat_natCast, ea, if_pos (by omega), Int.toNat_natCast, e39, a4, if_pos (by decide), if_pos (by omega), Int.toNat_natCast, Int.toNat_natCast, zb_wi_add (by omega), zb_wi_add (by omega)]
      have g16 : ∀ j, (eg_u (eg_cp M 16 16 zb_fr to (sz a)) 17 a (to : Int)) 16 j = if to ≤ j ∧ j < to + sz a then M 16 (zb_fr + (j - to)) else M 16 j := fun j => by simp [eg_u, eg_cp]
      have g17 : ∀ h, h ≠ a → (eg_u (eg_cp M 16 16 zb_fr to (sz a)) 17 a (to : Int)) 17 h = M 17 h := fun h hh => by simp [eg_u, eg_cp, hh]
      have gc : ∀ c, c ≠ 16 → c ≠ 17 → (eg_u (eg_cp M 16 16 zb_fr to (sz a)) 17 a (to : Int)) c = M c := fun c h1 h2 => by funext j; simp [eg_u, eg_cp, h1, h2]
      have ht : (eg_u (eg_cp M 16 16 zb_fr to (sz a)) 17 a (to : Int)) 17 a = (to : Int) := by simp [eg_u]
      generalize eg_u (eg_cp M 16 16 zb_fr to (sz a)) 17 a (to : Int) = M1 at hstep g16 g17 gc ht
      have k2 : zb_KPO M0 M1 st sz kd Lp mo t := fun h hh => by
        obtain ⟨b1, b2, b3, b4, b5, b6, b7, b8, b9, b10⟩ := hk h (List.mem_cons_of_mem _ hh)
        have hha : h ≠ a := fun e => n1 (e ▸ hh)
        have hst := (hcl.2 h hh).1
        refine ⟨b1, b2, by rw [g17 h hha]; exact b3, by rw [gc 19 (by decide) (by decide)]; exact b4, by rw [gc 18 (by decide) (by decide)]; exact b5, b6, b7, fun i hi => ?_, by rw [gc 39 (by decide) (by decide)]; exact b9, by rw [gc 39 (by decide) (by decide)]; exact b10⟩
        rw [g16, if_neg (by omega)]; exact b8 i hi
      obtain ⟨M', r1, r2, r3, r4, r5, r6, r7, r8, r9, r10⟩ := ih fl (to + sz a) (zb_fr + sz a) zb_ct M1 n2 (fun h hh => hd h (List.mem_cons_of_mem _ hh)) c2 (by omega) k2 (by rw [gc 15 (by decide) (by decide)]; exact h6) (by omega) hct2 (by rw [gc 15 (by decide) (by decide)]; exact h7) (by
        rw [gc 15 (by decide) (by decide)]
        exact zb_frl_eqs (fun h hh => g17 h (fun e => haf (e ▸ hh))) hf)
      rw [(zb_lvl_t hL).1, (zb_lvl_t hL).2]
      refine ⟨M', by rw [lp3_inl hstep]; exact r1, ?_, r3, r4, fun h hh => ?_, r6, fun h hh => ?_, fun j hj => ?_, fun c hc => ?_, fun f f1 f2 f3 => ?_⟩
      · rw [r2]; simp only [zb_sm]; omega
      · rcases List.mem_cons.mp hh with e | e
        · subst e
          have hn9 : zb_nst sz (h :: zb_lvl Lp t) to h = to := by rw [zb_nst, if_pos rfl]
          rw [hn9]
          refine ⟨by rw [(r7 h n1).1]; exact ht, by rw [(r7 h n1).2, gc 18 (by decide) (by decide)]; exact a5, fun i hi => ?_⟩
          rw [r8 (to + i) (by omega), g16, if_pos (by omega), show zb_fr + (to + i - to) = st h + i by omega]
          exact a8 i hi
        · have hha : h ≠ a := fun z => n1 (z ▸ (zb_lvl_m.mp e).1)
          have hn9 : zb_nst sz (a :: zb_lvl Lp t) to h = zb_nst sz (zb_lvl Lp t) (to + sz a) h := by rw [zb_nst, if_neg hha]
          rw [hn9]
          exact r5 h e
      · have hne : h ≠ a := fun e => hh (e ▸ List.mem_cons_self)
        obtain ⟨q1, q2⟩ := r7 h (fun e => hh (List.mem_cons_of_mem _ e))
        exact ⟨by rw [q1, g17 h hne], by rw [q2, gc 18 (by decide) (by decide)]⟩
      · rw [r8 j (by omega), g16, if_neg (by omega)]
      · simp only [List.mem_cons, List.not_mem_nil, or_false, not_or] at hc
        rw [r9 c (by simp [hc]), gc c hc.2.1 hc.2.2.1]
      · rw [r10 f f1 f2 f3, gc 15 (by decide) (by decide)]
    · have e39 := a10 hL
      have hstep : fn_147_6 cn mo (to : Int) (zb_fr : Int) M = some (.inl ((to : Int), ((zb_fr + sz a : Nat) : Int), eg_u (eg_u (eg_u (eg_u M 18 a 0) 17 a (M 15 9)) 15 9 (a : Int)) 15 7 ((zb_ct - 1 : Nat) : Int))) := by
        unfold fn_147_6
        rw [h6, if_neg (by omega), if_pos (by omega), Int.toNat_natCast, ea, if_pos (by omega), Int.toNat_natCast, e39, a4, h7, if_neg (by decide), zb_wi_add (by omega), zb_wi_m1 (by omega) (by omega)]
      have g17 : ∀ h, h ≠ a → (eg_u (eg_u (eg_u (eg_u M 18 a 0) 17 a (M 15 9)) 15 9 (a : Int)) 15 7 ((zb_ct - 1 : Nat) : Int)) 17 h = M 17 h := fun h hh => by simp [eg_u, hh]
      have g18 : ∀ h, h ≠ a → (eg_u (eg_u (eg_u (eg_u M 18 a 0) 17 a (M 15 9)) 15 9 (a : Int)) 15 7 ((zb_ct - 1 : Nat) : Int)) 18 h = M 18 h := fun h hh => by simp [eg_u, hh]
      have gc : ∀ c, c ≠ 15 → c ≠ 17 → c ≠ 18 → (eg_u (eg_u (eg_u (eg_u M 18 a 0) 17 a (M 15 9)) 15 9 (a : Int)) 15 7 ((zb_ct - 1 : Nat) : Int)) c = M c := fun c h1 h2 h3 => by funext j; simp [eg_u, h1, h2, h3]
      have gf : ∀ f, f ≠ 7 → f ≠ 9 → (eg_u (eg_u (eg_u (eg_u M 18 a 0) 17 a (M 15 9)) 15 9 (a : Int)) 15 7 ((zb_ct - 1 : Nat) : Int)) 15 f = M 15 f := fun f h1 h2 => by simp [eg_u, h1, h2]
      have ga : (eg_u (eg_u (eg_u (eg_u M 18 a 0) 17 a (M 15 9)) 15 9 (a : Int)) 15 7 ((zb_ct - 1 : Nat) : Int)) 17 a = M 15 9 := by simp [eg_u]
      have zb_gb : (eg_u (eg_u (eg_u (eg_u M 18 a 0) 17 a (M 15 9)) 15 9 (a : Int)) 15 7 ((zb_ct - 1 : Nat) : Int)) 18 a = 0 := by simp [eg_u]
      have zb_gd : (eg_u (eg_u (eg_u (eg_u M 18 a 0) 17 a (M 15 9)) 15 9 (a : Int)) 15 7 ((zb_ct - 1 : Nat) : Int)) 15 9 = (a : Int) := by simp [eg_u]
      have ge : (eg_u (eg_u (eg_u (eg_u M 18 a 0) 17 a (M 15 9)) 15 9 (a : Int)) 15 7 ((zb_ct - 1 : Nat) : Int)) 15 7 = ((zb_ct - 1 : Nat) : Int) := by simp [eg_u]
      generalize eg_u (eg_u (eg_u (eg_u M 18 a 0) 17 a (M 15 9)) 15 9 (a : Int)) 15 7 ((zb_ct - 1 : Nat) : Int) = M1 at hstep g17 g18 gc gf ga zb_gb zb_gd ge
      have k2 : zb_KPO M0 M1 st sz kd Lp mo t := fun h hh => by
        obtain ⟨b1, b2, b3, b4, b5, b6, b7, b8, b9, b10⟩ := hk h (List.mem_cons_of_mem _ hh)
        have hha : h ≠ a := fun e => n1 (e ▸ hh)
        exact ⟨b1, b2, by rw [g17 h hha]; exact b3, by rw [gc 19 (by decide) (by decide) (by decide)]; exact b4, by rw [g18 h hha]; exact b5, b6, b7, fun i hi => by rw [gc 16 (by decide) (by decide) (by decide)]; exact b8 i hi, by rw [gc 39 (by decide) (by decide) (by decide)]; exact b9, by rw [gc 39 (by decide) (by decide) (by decide)]; exact b10⟩
      obtain ⟨M', r1, r2, r3, r4, r5, r6, r7, r8, r9, r10⟩ := ih (a :: fl) to (zb_fr + sz a) (zb_ct - 1) M1 n2 (fun h hh => by
          rw [List.mem_cons, not_or]
          exact ⟨fun e => n1 (e ▸ hh), hd h (List.mem_cons_of_mem _ hh)⟩) c2 (by omega) k2 (by rw [gf 6 (by decide) (by decide)]; exact h6) (by omega) (by omega) ge (by
        rw [zb_gd]
        refine ⟨rfl, ?_⟩
        rw [ga]
        exact zb_frl_eqs (fun h hh => g17 h (fun e => haf (e ▸ hh))) hf)
      rw [(zb_lvl_f hL).1, (zb_lvl_f hL).2]
      refine ⟨M', by rw [lp3_inl hstep]; exact r1, r2, ?_, ?_, r5, fun h hh => ?_, fun h hh => ?_, fun j hj => ?_, fun c hc => ?_, fun f f1 f2 f3 => ?_⟩
      · rw [r3]; simp only [List.length_cons]; omega
      · rw [List.reverse_cons, List.append_assoc]; exact r4
      · rcases List.mem_cons.mp hh with e | e
        · subst e; rw [(r7 h n1).2]; exact zb_gb
        · exact r6 h e
      · have hne : h ≠ a := fun e => hh (e ▸ List.mem_cons_self)
        obtain ⟨q1, q2⟩ := r7 h (fun e => hh (List.mem_cons_of_mem _ e))
        exact ⟨by rw [q1, g17 h hne], by rw [q2, g18 h hne]⟩
      · rw [r8 j hj, gc 16 (by decide) (by decide) (by decide)]
      · simp only [List.mem_cons, List.not_mem_nil, or_false, not_or] at hc
        rw [r9 c (by simp [hc]), gc c hc.1 hc.2.2.1 hc.2.2.2]
      · rw [r10 f f1 f2 f3, gf f f2 f3]
theorem zb_keep_c {ord fl : List Nat} {hs : Nat} {M : eM} (H : zb_HC M cn ord fl hs us st sz kd) (hL : ∀ h, h ∈ ord → (Lp h → M 39 h = 1) ∧ (¬ Lp h → M 39 h = 0)) :
    ∃ M', fn_147 cn (cn / 3 + 1) M = some M' ∧ zb_HC M' cn (zb_lvl Lp ord) ((zb_ddl Lp ord).reverse ++ fl) hs (zb_sm sz (zb_lvl Lp ord)) (zb_nst sz (zb_lvl Lp ord) 0) sz kd
      ∧ (∀ h, h ∈ zb_lvl Lp ord → ∀ i, i < sz h → M' 16 (zb_nst sz (zb_lvl Lp ord) 0 h + i) = M 16 (st h + i)) ∧ (∀ c, c ∉ ([15, 16, 17, 18] : List Nat) → M' c = M c) ∧ (∀ f, f ≠ 6 → f ≠ 7 → f ≠ 9 → M' 15 f = M 15 f) := by
  obtain ⟨⟨a1, a2, a3, a4, a5, a6, a7⟩, b, c, d, e, f, g⟩ := H
  obtain ⟨f1, f2, f3⟩ := List.nodup_append.mp f
  have hlen := zb_cum_len b (fun h hh => (c h hh).2.2.2.2.1)
  have hsm := zb_cum_sm b
  have hle := zb_sm_le (sz := sz) (Lp := Lp) (l := ord)
  obtain ⟨M', r1, r2, r3, r4, r5, r6, r7, r8, r9, r10⟩ := zb_keep_loop (cn := cn) (us := us) (mo := cn / 3 + 1) (st := st) (sz := sz) (kd := kd) (Lp := Lp) (M0 := M) ⟨a4, a2, by omega⟩ ord fl 0 0 ord.length M f1 (fun h hh hf => f3 h hh h hf rfl) b (Nat.le_refl _) (fun h hh => by
    obtain ⟨y1, y2, y3, y4, y5, y6, y7⟩ := c h hh
    have := (g h).mp (List.mem_append_left _ hh)
    exact ⟨this.1, by omega, y1, y2, y3, y4, y5, fun i _ => rfl, hL h hh⟩) a3 (Nat.le_refl _) (by omega) a5 d
  refine ⟨M', r1, ⟨⟨?_, a2, by rw [r2, Nat.zero_add], by omega, ?_, ?_, a7⟩, ?_, fun h hh => ?_, r4, fun h hh => ?_, ?_, fun h => ?_⟩, fun h hh => (r5 h hh).2.2, r9, r10⟩
  · rw [r10 0 (by decide) (by decide) (by decide)]; exact a1
  · rw [r3]; have := zb_lvl_len (Lp := Lp) (l := ord); omega
  · rw [r10 8 (by decide) (by decide) (by decide)]; exact a6
  · have := zb_nst_cum (sz := sz) (zb_lvl Lp ord) 0 (zb_nst sz (zb_lvl Lp ord) 0) (zb_lvl_nd f1) (fun _ _ => rfl)
    rw [Nat.zero_add] at this; exact this
  · obtain ⟨m1, m2⟩ := zb_lvl_m.mp hh
    obtain ⟨y1, y2, y3, y4, y5, y6, y7⟩ := c h m1
    obtain ⟨q1, q2, q3⟩ := r5 h hh
    refine ⟨q1, by rw [r9 19 (by decide)]; exact y2, q2, ?_, y5, y6, y7⟩
    have := q3 0 (by omega)
    rw [Nat.add_zero, Nat.add_zero] at this; rw [this]; exact y4
  · rcases List.mem_append.mp hh with z | z
    · exact r6 h (List.mem_reverse.mp z)
    · have hno : h ∉ ord := fun q => f3 h q h z rfl
      rw [(r7 h hno).2]; exact e h z
  · refine List.nodup_append.mpr ⟨zb_lvl_nd f1, List.nodup_append.mpr ⟨List.pairwise_reverse.mpr (List.Pairwise.imp (fun h e => h e.symm) (zb_ddl_nd f1)), f2, fun x hx y hy => ?_⟩, fun x hx y hy => ?_⟩
    · exact f3 x (zb_ddl_m.mp (List.mem_reverse.mp hx)).1 y hy
    · obtain ⟨m1, m2⟩ := zb_lvl_m.mp hx
      rcases List.mem_append.mp hy with z | z
      · have := zb_ddl_m.mp (List.mem_reverse.mp z)
        intro q; exact this.2 (q ▸ m2)
      · exact f3 x m1 y z
  · rw [← g h, List.mem_append, List.mem_append, List.mem_append, List.mem_reverse, zb_lvl_m, zb_ddl_m]
    by_cases hLh : Lp h
    · simp [hLh]
    · simp [hLh]
end GC
theorem zb_HQ_perm {R : eM} {cn us : Nat} {ps ps' fs fc : List Nat} {cs : Nat → List Nat} (hp : ps.Perm ps') (H : zb_HQ R cn us ps fs fc cs) : zb_HQ R cn us ps' fs fc cs := by
  obtain ⟨⟨a1, a2, a3, a4, a5, a6⟩, b, c, d, e, f, g, h, i, j, k⟩ := H
  have hm : ∀ o, o ∈ ps' ↔ o ∈ ps := fun o => hp.mem_iff.symm
  have hf : (ps.flatMap cs ++ fc).Perm (ps'.flatMap cs ++ fc) := List.Perm.append_right _ (List.Perm.flatMap_right _ hp)
  refine ⟨⟨a1, a2, a3, a4, by rw [a5, hp.length_eq], a6⟩, b, (List.Perm.append_right fs hp).nodup_iff.mp c, fun o => ?_, fun o ho => e o ((hm o).mp ho), f, fun o ho => g o ((hm o).mp ho), h, hf.nodup_iff.mp i, by rw [← hf.length_eq]; exact j, fun c hc => k c (hf.mem_iff.mpr hc)⟩
  rw [← d o, List.mem_append, List.mem_append, hm]
theorem zb_frs_eqs {R R' : eM} : ∀ {l : List Nat}, (∀ i, i < l.length → R' 69 i = R 69 i) → zb_frs R l → zb_frs R' l := by
  intro l
  induction l with
  | nil => intro _ h; exact h
  | cons a t ih => intro he h; exact ⟨by rw [he _ (by simp)]; exact h.1, ih (fun i hi => he i (by simp only [List.length_cons]; omega)) h.2⟩
theorem zb_drop_cells {x1 : Int} : ∀ (l fc : List Nat) (x : Int) (M : eM), zb_chn M l x → zb_chn M fc (M 45 41) → (l ++ fc).Nodup → (∀ c, c ∈ l → c < 20000) →
    ∃ M1, lp (fun z => fn_207_5 x1 z.1 z.2) (x, M) = lp (fun z => fn_207_5 x1 z.1 z.2) (-1, M1) ∧ zb_chn M1 (l.reverse ++ fc) (M1 45 41) ∧ (∀ c, c ∉ l → M1 71 c = M 71 c) ∧ (∀ c, c ≠ 45 → c ≠ 71 → M1 c = M c) ∧ (∀ f, f ≠ 41 → M1 45 f = M 45 f) := by
  intro l
  induction l with
  | nil =>
    intro fc x M h1 h2 _ _
    have hx : x = -1 := h1
    exact ⟨M, by rw [hx], h2, fun c _ => rfl, fun c _ _ => rfl, fun f _ => rfl⟩
  | cons a t ih =>
    intro fc x M h1 h2 hn hlt
    obtain ⟨x1', x2⟩ := h1
    have ha := hlt a List.mem_cons_self
    rw [List.cons_append] at hn
    obtain ⟨n1, n2⟩ := List.nodup_cons.mp hn
    have hat : a ∉ t := fun z => n1 (List.mem_append_left _ z)
    have haf : a ∉ fc := fun z => n1 (List.mem_append_right _ z)
    have hstep : fn_207_5 x1 x M = some (.inl (M 71 a, eg_u (eg_u M 71 a (M 45 41)) 45 41 (a : Int))) := by
      unfold fn_207_5
      rw [x1', if_neg (by omega), if_pos (by omega), Int.toNat_natCast]
    have g1 : ∀ c, c ≠ a → (eg_u (eg_u M 71 a (M 45 41)) 45 41 (a : Int)) 71 c = M 71 c := fun c hc => by simp [eg_u, hc]
    have g2 : (eg_u (eg_u M 71 a (M 45 41)) 45 41 (a : Int)) 71 a = M 45 41 := by simp [eg_u]
    have g3 : (eg_u (eg_u M 71 a (M 45 41)) 45 41 (a : Int)) 45 41 = (a : Int) := by simp [eg_u]
    have g4 : ∀ c, c ≠ 45 → c ≠ 71 → (eg_u (eg_u M 71 a (M 45 41)) 45 41 (a : Int)) c = M c := fun c h1 h2 => by funext j; simp [eg_u, h1, h2]
    have g5 : ∀ f, f ≠ 41 → (eg_u (eg_u M 71 a (M 45 41)) 45 41 (a : Int)) 45 f = M 45 f := fun f h1 => by simp [eg_u, h1]
    rw [lp2_inl hstep]
    generalize eg_u (eg_u M 71 a (M 45 41)) 45 41 (a : Int) = M1 at g1 g2 g3 g4 g5
    obtain ⟨M', r1, r2, r3, r4, r5⟩ := ih (a :: fc) (M 71 a) M1 (zb_chn_eqs (fun c hc => g1 c (fun e => hat (e ▸ hc))) x2) (by
      rw [g3]; exact ⟨rfl, by rw [g2]; exact zb_chn_eqs (fun c hc => g1 c (fun e => haf (e ▸ hc))) h2⟩) (by
      refine (List.perm_middle.nodup_iff).mpr ?_
      exact List.nodup_cons.mpr ⟨n1, n2⟩) (fun c hc => hlt c (List.mem_cons_of_mem _ hc))
    refine ⟨M', r1, by rw [List.reverse_cons, List.append_assoc]; exact r2, fun c hc => ?_, fun c c1 c2 => by rw [r4 c c1 c2, g4 c c1 c2], fun f f1 => by rw [r5 f f1, g5 f f1]⟩
    rw [List.mem_cons, not_or] at hc
    rw [r3 c hc.2, g1 c hc.1]
theorem zb_drop_one {R : eM} {cn us s o : Nat} {ps fs fc : List Nat} {cs : Nat → List Nat} (H : zb_HQ R cn us (o :: ps) fs fc cs) (hs : s ≤ us) (h196 : ∀ M, fn_196 (R 62 o) (R 63 o) M = some (s : Int)) :
    ∃ R', fn_207 (o : Int) R = some R' ∧ zb_HQ R' cn (us - s) ps (o :: fs) ((cs o).reverse ++ fc) cs ∧ (∀ c, c ∉ ([45, 68, 69, 71] : List Nat) → R' c = R c) ∧ (∀ f, f ∉ ([28, 29, 38, 41] : List Nat) → R' 45 f = R 45 f) := by
  have ho : o < 6700 := zb_ps_lt H List.mem_cons_self
  obtain ⟨⟨a1, a2, a3, a4, a5, a6⟩, b, c, d, e, f, g, h, i, j, k⟩ := H
  obtain ⟨go, gl⟩ := g o List.mem_cons_self
  have hcf : (cs o ++ fc).Nodup := by
    rw [List.flatMap_cons, List.append_assoc] at i
    obtain ⟨i1, i2, i3⟩ := List.nodup_append.mp i
    refine List.nodup_append.mpr ⟨i1, (List.nodup_append.mp i2).2.1, fun x hx y hy => i3 x hx y (List.mem_append_right _ hy)⟩
  obtain ⟨M1, r1, r2, r3, r4, r5⟩ := zb_drop_cells (x1 := (o : Int)) (cs o) fc (R 65 o) R go h hcf (fun x hx => k x (List.mem_append_left _ (List.mem_flatMap.mpr ⟨o, List.mem_cons_self, hx⟩)))
  have hps : (o :: ps).length + fs.length = 6700 := by
    rw [← List.length_append]
    have : (List.range 6700).length = ((o :: ps) ++ fs).length := by
      apply List.Perm.length_eq
      refine (List.perm_ext_iff_of_nodup List.nodup_range c).mpr (fun y => ?_)
      rw [List.mem_range, d]
    rw [List.length_range] at this; exact this.symm
  have hfl : fs.length < 6700 := by simp only [List.length_cons] at hps; omega
  have hpl : (o :: ps).length ≤ 6700 := by omega
  have e38 : M1 45 38 = (fs.length : Int) := by rw [r5 38 (by decide)]; exact a6
  have e28 : M1 45 28 = (us : Int) := by rw [r5 28 (by decide)]; exact a3
  have e29 : M1 45 29 = ((ps.length + 1 : Nat) : Int) := by rw [r5 29 (by decide)]; exact a5
  have hend : fn_207_5 (o : Int) (-1) M1 = some (.inr (eg_u (eg_u (eg_u (eg_u (eg_u M1 68 o 0) 45 28 ((us - s : Nat) : Int)) 45 29 ((ps.length : Nat) : Int)) 69 fs.length (o : Int)) 45 38 ((fs.length + 1 : Nat) : Int))) := by
    unfold fn_207_5
    rw [if_pos (by decide), if_pos (by omega), Int.toNat_natCast, r4 62 (by decide) (by decide), r4 63 (by decide) (by decide), h196, Option.bind_some, e38, e28, e29, if_pos (by omega), Int.toNat_natCast, zb_wi_1 (by omega), zb_wi_m1 (by omega) (by simp only [List.length_cons] at hpl; omega), zb_wi_sub hs (by omega), Nat.add_sub_cancel]
  obtain ⟨c1, c2, c3⟩ := List.nodup_append.mp c
  obtain ⟨c4, c5⟩ := List.nodup_cons.mp c1
  have hperm : ((o :: ps).flatMap cs ++ fc).Perm (ps.flatMap cs ++ ((cs o).reverse ++ fc)) := by
    rw [List.flatMap_cons, ← List.append_assoc]
    refine List.Perm.append_right _ (List.perm_append_comm.trans (List.Perm.append_left _ ?_))
    exact (List.reverse_perm _).symm
  have hdis : ∀ q, q ∈ ps → ∀ x, x ∈ cs q → x ∉ cs o := fun q hq x hx hxo => by
    have := zb_fl_dis (List.nodup_append.mp i).1 c1 q o x (List.mem_cons_of_mem _ hq) List.mem_cons_self hx hxo
    exact c4 (this ▸ hq)
  refine ⟨_, by unfold fn_207; rw [if_pos (by omega), Int.toNat_natCast, r1]; exact lp2_inr hend, ⟨⟨?_, a2, by simp [eg_u], by omega, by simp [eg_u], by simp [eg_u]⟩, ⟨by simp [eg_u], ?_⟩, ?_, fun q => ?_, fun q hq => ?_, fun q hq => ?_, fun q hq => ?_, ?_, hperm.nodup_iff.mp i, by rw [← hperm.length_eq]; exact j, fun x hx => k x (hperm.mem_iff.mpr hx)⟩, fun x hx => ?_, fun x hx => ?_⟩
  · rw [← a1, ← r5 27 (by decide)]; simp [eg_u]
  · refine zb_frs_eqs (fun q hq => ?_) b
    have : q ≠ fs.length := by omega
    rw [← r4 69 (by decide) (by decide)]; simp [eg_u, this]
  · exact List.perm_middle.nodup_iff.mpr c
  · rw [← d q]; exact List.perm_middle.mem_iff
  · have : q ≠ o := fun z => c4 (z ▸ hq)
    rw [← e q (List.mem_cons_of_mem _ hq), ← r4 68 (by decide) (by decide)]; simp [eg_u, this]
  · by_cases hqo : q = o
    · subst hqo; simp [eg_u]
    · rw [← f q ((List.mem_cons.mp hq).resolve_left hqo), ← r4 68 (by decide) (by decide)]; simp [eg_u, hqo]
  · obtain ⟨y1, y2⟩ := g q (List.mem_cons_of_mem _ hq)
    refine ⟨?_, ?_⟩
    · rw [show (eg_u (eg_u (eg_u (eg_u (eg_u M1 68 o 0) 45 28 ((us - s : Nat) : Int)) 45 29 ((ps.length : Nat) : Int)) 69 fs.length (o : Int)) 45 38 ((fs.length + 1 : Nat) : Int)) 65 q = R 65 q by rw [← r4 65 (by decide) (by decide)]; simp [eg_u]]
      refine zb_chn_eqs (fun x hx => ?_) y1
      rw [← r3 x (hdis q hq x hx)]; simp [eg_u]
    · rw [← y2, ← r4 63 (by decide) (by decide)]; simp [eg_u]
  · rw [show (eg_u (eg_u (eg_u (eg_u (eg_u M1 68 o 0) 45 28 ((us - s : Nat) : Int)) 45 29 ((ps.length : Nat) : Int)) 69 fs.length (o : Int)) 45 38 ((fs.length + 1 : Nat) : Int)) 45 41 = M1 45 41 by simp [eg_u]]
    exact zb_chn_eq (by simp only [eg_u_ne (show (71:Nat) ≠ 45 by decide), eg_u_ne (show (71:Nat) ≠ 69 by decide), eg_u_ne (show (71:Nat) ≠ 68 by decide)]) r2
  · simp only [List.mem_cons, List.not_mem_nil, or_false, not_or] at hx
    rw [← r4 x hx.1 hx.2.2.2]; funext y; simp [eg_u, hx]
  · simp only [List.mem_cons, List.not_mem_nil, or_false, not_or] at hx
    rw [← r5 x hx.2.2.2]; simp [eg_u, hx]
theorem zb_lvl_congr {P Q : Nat → Prop} : ∀ {l : List Nat}, (∀ y, y ∈ l → (P y ↔ Q y)) → zb_lvl P l = zb_lvl Q l := by
  intro l
  induction l with
  | nil => intro _; rfl
  | cons a t ih =>
    intro h
    have := ih (fun y hy => h y (List.mem_cons_of_mem _ hy))
    have ha := h a List.mem_cons_self
    by_cases hp : P a
    · rw [(zb_lvl_t hp).1, (zb_lvl_t (ha.mp hp)).1, this]
    · rw [(zb_lvl_f hp).1, (zb_lvl_f (fun z => hp (ha.mpr z))).1, this]
theorem zb_lvl_drop {P Q : Nat → Prop} {h : Nat} : ∀ {l : List Nat}, l.Nodup → h ∈ l → P h → ¬ Q h → (∀ y, y ∈ l → y ≠ h → (P y ↔ Q y)) → (zb_lvl P l).Perm (h :: zb_lvl Q l) := by
  intro l
  induction l with
  | nil => intro _ hh; cases hh
  | cons a t ih =>
    intro hn hh hp hq he
    obtain ⟨n1, n2⟩ := List.nodup_cons.mp hn
    by_cases ha : a = h
    · subst ha
      rw [(zb_lvl_t hp).1, (zb_lvl_f hq).1, zb_lvl_congr (P := P) (Q := Q) (l := t) (fun y hy => he y (List.mem_cons_of_mem _ hy) (fun e => n1 (e ▸ hy)))]
    · have hht : h ∈ t := (List.mem_cons.mp hh).resolve_left (fun e => ha e.symm)
      have := ih n2 hht hp hq (fun y hy => he y (List.mem_cons_of_mem _ hy))
      have hia := he a List.mem_cons_self ha
      by_cases hpa : P a
      · rw [(zb_lvl_t hpa).1, (zb_lvl_t (hia.mp hpa)).1]
        exact (List.Perm.cons a this).trans (List.Perm.swap _ _ _)
      · rw [(zb_lvl_f hpa).1, (zb_lvl_f (fun z => hpa (hia.mpr z))).1]; exact this
theorem zb_sm_perm {sz : Nat → Nat} {l l' : List Nat} (h : l.Perm l') : zb_sm sz l = zb_sm sz l' := by
  induction h with
  | nil => rfl
  | cons x _ ih => simp only [zb_sm, ih]
  | swap x y l => simp only [zb_sm]; omega
  | trans _ _ i1 i2 => exact i1.trans i2
theorem zb_f196 {k s : Nat} (h : zb_szk k s) {M : eM} : fn_196 ((k : Int) - 1) ((zb_nf k s : Nat) : Int) M = some (s : Int) := by
  unfold zb_szk at h
  unfold fn_196
  rcases h with ⟨a, b⟩ | ⟨a, b⟩ | ⟨a, b⟩ | ⟨a, b⟩ | ⟨a, b⟩ | ⟨a, b⟩ | ⟨a, b⟩ | ⟨a, b⟩ <;> subst a
  · subst b; rfl
  · have e : eg_wi (3 + ((s - 3 : Nat) : Int)) = (s : Int) := by unfold eg_wi; omega
    simp [zb_nf, e]
  · subst b; rfl
  · have e : eg_wi (2 + ((s - 2 : Nat) : Int)) = (s : Int) := by unfold eg_wi; omega
    simp [zb_nf, e]
  all_goals subst b; rfl
def zb_stl (H : zb_Hp) (Lp : Nat → Prop) (x h : Nat) : Prop := x ≤ zb_hP H h ∨ Lp h
theorem zb_drop_loop {H : zb_Hp} {cn : Nat} {Lp : Nat → Prop} {M0 : eM} {x1 : Int} (hnd : (zb_hO H).Nodup) (hinj : ∀ a b, a ∈ zb_hO H → b ∈ zb_hO H → zb_hP H a = zb_hP H b → a = b) (hp : ∀ h, h ∈ zb_hO H → zb_hP H h < 6700)
    (hz : ∀ h, h ∈ zb_hO H → zb_szk (zb_hK H h) (zb_hZ H h) ∧ M0 62 (zb_hP H h) = (zb_hK H h : Int) - 1 ∧ M0 63 (zb_hP H h) = ((zb_nf (zb_hK H h) (zb_hZ H h) : Nat) : Int)) (hLT : zb_RLT M0 H Lp) :
    ∀ (n x : Nat) (M : eM) (fs fc : List Nat), x + n = 6700 → zb_HQ M cn (zb_sm (zb_hZ H) (zb_lvl (zb_stl H Lp x) (zb_hO H))) ((zb_lvl (zb_stl H Lp x) (zb_hO H)).map (zb_hP H)) fs fc (zb_hC H) → (∀ c, c ∉ ([45, 68, 69, 71] : List Nat) → M c = M0 c) → (∀ f, f ∉ ([28, 29, 38, 41] : List Nat) → M 45 f = M0 45 f) →
    ∃ M' fs' fc', lp (fun z => fn_197_160 x1 z.1 z.2) ((x : Int), M) = some (1, M') ∧ zb_HQ M' cn (zb_sm (zb_hZ H) (zb_lvl Lp (zb_hO H))) ((zb_lvl Lp (zb_hO H)).map (zb_hP H)) fs' fc' (zb_hC H) ∧ (∀ c, c ∉ ([45, 68, 69, 71] : List Nat) → M' c = M0 c) ∧ (∀ f, f ∉ ([28, 29, 38, 41] : List Nat) → M' 45 f = M0 45 f) := by
  intro n
  induction n with
  | zero =>
    intro x M fs fc hx hQ h1 h2
    have hx' : x = 6700 := by omega
    subst hx'
    have e : zb_lvl (zb_stl H Lp 6700) (zb_hO H) = zb_lvl Lp (zb_hO H) := zb_lvl_congr (fun y hy => by
      have := hp y hy
      unfold zb_stl
      exact ⟨fun z => z.resolve_left (by omega), Or.inr⟩)
    rw [e] at hQ
    refine ⟨M, fs, fc, lp2_inr ?_, hQ, h1, h2⟩
    unfold fn_197_160
    rw [if_pos (by decide)]
  | succ n ih =>
    intro x M fs fc hx hQ h1 h2
    have e67 : M 67 = M0 67 := h1 67 (by decide)
    have hcase : (∀ y, y ∈ zb_hO H → (zb_stl H Lp x y ↔ zb_stl H Lp (x + 1) y)) ∨ ∃ h, h ∈ zb_hO H ∧ zb_hP H h = x ∧ ¬ Lp h := by
      by_cases hh : ∃ h, h ∈ zb_hO H ∧ zb_hP H h = x ∧ ¬ Lp h
      · exact Or.inr hh
      · refine Or.inl (fun y hy => ?_)
        unfold zb_stl
        by_cases hl : Lp y
        · exact ⟨fun _ => Or.inr hl, fun _ => Or.inr hl⟩
        · have : zb_hP H y ≠ x := fun e => hh ⟨y, hy, e, hl⟩
          constructor
          · intro z; rcases z with z | z
            · exact Or.inl (by omega)
            · exact Or.inr z
          · intro z; rcases z with z | z
            · exact Or.inl (by omega)
            · exact Or.inr z
    rcases hcase with hc | ⟨h, hh, hpx, hl⟩
    · have e : zb_lvl (zb_stl H Lp x) (zb_hO H) = zb_lvl (zb_stl H Lp (x + 1)) (zb_hO H) := zb_lvl_congr hc
      have hstep : fn_197_160 x1 (x : Int) M = some (.inl (((x + 1 : Nat) : Int), M)) := by
        unfold fn_197_160
        rw [if_neg (by omega), if_pos (by omega), Int.toNat_natCast, zb_wi_1 (by omega)]
        by_cases h68 : M 68 x = 0
        · rw [if_pos h68]
        · rw [if_neg h68]
          have hmem : x ∈ (zb_lvl (zb_stl H Lp x) (zb_hO H)).map (zb_hP H) := by
            have := (hQ.2.2.2.1 x).mpr (by omega)
            rcases List.mem_append.mp this with z | z
            · exact z
            · exact absurd (hQ.2.2.2.2.2.1 x z) h68
          obtain ⟨y, y1, y2⟩ := List.mem_map.mp hmem
          obtain ⟨y3, y4⟩ := zb_lvl_m.mp y1
          have hly : Lp y := by
            rcases (hc y y3).mp y4 with z | z
            · omega
            · exact z
          have : M 67 x = 1 := by rw [e67, ← y2]; exact (hLT y y3).1 hly
          rw [this, if_pos (by decide)]
      rw [e] at hQ
      rw [lp2_inl hstep]
      exact ih (x + 1) M fs fc (by omega) hQ h1 h2
    · have hperm : (zb_lvl (zb_stl H Lp x) (zb_hO H)).Perm (h :: zb_lvl (zb_stl H Lp (x + 1)) (zb_hO H)) := zb_lvl_drop hnd hh (Or.inl (by omega)) (fun z => by
          rcases z with z | z
          · omega
          · exact hl z) (fun y hy hne => by
          have : zb_hP H y ≠ x := fun e => hne (hinj y h hy hh (by omega))
          unfold zb_stl
          constructor
          · intro z; rcases z with z | z
            · exact Or.inl (by omega)
            · exact Or.inr z
          · intro z; rcases z with z | z
            · exact Or.inl (by omega)
            · exact Or.inr z)
      have hsm := zb_sm_perm (sz := zb_hZ H) hperm
      simp only [zb_sm] at hsm
      have hQ2 := zb_HQ_perm (hperm.map (zb_hP H)) hQ
      rw [List.map_cons] at hQ2
      obtain ⟨z1, z2, z3⟩ := hz h hh
      obtain ⟨M', r1, r2, r3, r4⟩ := zb_drop_one (s := zb_hZ H h) hQ2 (by omega) (fun M9 => by
        rw [h1 62 (by decide), h1 63 (by decide), z2, z3]; exact zb_f196 z1)
      have h68 : M 68 x = 1 := by
        rw [← hpx]; exact hQ2.2.2.2.2.1 _ List.mem_cons_self
      have h67 : M 67 x = 0 := by rw [e67, ← hpx]; exact (hLT h hh).2 hl
      have hstep : fn_197_160 x1 (x : Int) M = some (.inl (((x + 1 : Nat) : Int), M')) := by
        unfold fn_197_160
        rw [if_neg (by omega), if_pos (by omega), Int.toNat_natCast, h68, if_neg (by decide), h67, if_neg (by decide), ← hpx, r1, Option.bind_some, zb_wi_1 (by omega)]
      rw [lp2_inl hstep]
      have : zb_sm (zb_hZ H) (zb_lvl (zb_stl H Lp x) (zb_hO H)) - zb_hZ H h = zb_sm (zb_hZ H) (zb_lvl (zb_stl H Lp (x + 1)) (zb_hO H)) := by omega
      rw [this] at r2
      exact ih (x + 1) M' _ _ (by omega) r2 (fun c hc => by rw [r3 c hc, h1 c hc]) (fun f hf => by rw [r4 f hf, h2 f hf])
theorem zb_hc_congr {C C' : eM} {cn : Nat} {ord fl : List Nat} {hs us : Nat} {st sz kd : Nat → Nat} (h : zb_HC C cn ord fl hs us st sz kd) (h15 : ∀ f, f ∈ ([0, 6, 7, 8, 9] : List Nat) → C' 15 f = C 15 f) (hc : ∀ c, c ∈ ([16, 17, 18, 19] : List Nat) → C' c = C c) : zb_HC C' cn ord fl hs us st sz kd := by
  obtain ⟨⟨a1, a2, a3, a4, a5, a6, a7⟩, b, c, d, e, f, g⟩ := h
  have e16 := hc 16 (by decide)
  have e17 := hc 17 (by decide)
  have e18 := hc 18 (by decide)
  have e19 := hc 19 (by decide)
  refine ⟨⟨by rw [h15 0 (by decide)]; exact a1, a2, by rw [h15 6 (by decide)]; exact a3, a4, by rw [h15 7 (by decide)]; exact a5, by rw [h15 8 (by decide)]; exact a6, a7⟩, b, fun h hh => by rw [e16, e17, e18, e19]; exact c h hh, by rw [h15 9 (by decide)]; exact zb_frl_ne e17 d, fun h hh => by rw [e18]; exact e h hh, f, g⟩
theorem zb_hq_congr {R R' : eM} {cn us : Nat} {ps fs fc : List Nat} {cs : Nat → List Nat} (h : zb_HQ R cn us ps fs fc cs) (h45 : ∀ f, f ∈ ([27, 28, 29, 38, 41] : List Nat) → R' 45 f = R 45 f) (hc : ∀ c, c ∈ ([63, 65, 68, 69, 71] : List Nat) → R' c = R c) : zb_HQ R' cn us ps fs fc cs := by
  obtain ⟨⟨a1, a2, a3, a4, a5, a6⟩, b, c, d, e, f, g, h, i, j, k⟩ := h
  have e63 := hc 63 (by decide)
  have e65 := hc 65 (by decide)
  have e68 := hc 68 (by decide)
  have e69 := hc 69 (by decide)
  have e71 := hc 71 (by decide)
  refine ⟨⟨by rw [h45 27 (by decide)]; exact a1, a2, by rw [h45 28 (by decide)]; exact a3, a4, by rw [h45 29 (by decide)]; exact a5, by rw [h45 38 (by decide)]; exact a6⟩, zb_frs_eqs (fun i _ => by rw [e69]) b, c, d, fun o ho => by rw [e68]; exact e o ho, fun o ho => by rw [e68]; exact f o ho, fun o ho => by rw [e65, e63]; exact ⟨zb_chn_eq e71 (g o ho).1, (g o ho).2⟩, by rw [h45 41 (by decide)]; exact zb_chn_eq e71 h, i, j, k⟩
theorem zb_ech_16 {C C' : eM} {H : zb_Hp} (h : C' 16 = C 16) : ∀ {l : List Nat} {x : Int}, zb_ech C H l x → zb_ech C' H l x := by
  intro l
  induction l with
  | nil => intro x hx; exact hx
  | cons a t ih => intro x hx; exact ⟨hx.1, by rw [h]; exact ih hx.2⟩
theorem zb_hr_congr {C R C' R' : eM} {H : zb_Hp} {cn N : Nat} {lam : Nat → Prop} {scp : Nat → Nat → Prop} (hr : zb_HR C R H cn N lam scp) (h15 : ∀ f, f ∈ ([0, 6, 7, 8, 9, 10] : List Nat) → C' 15 f = C 15 f) (hc : ∀ c, c ∈ ([16, 17, 18, 19, 20] : List Nat) → C' c = C c)
    (h45 : ∀ f, f ∈ ([27, 28, 29, 38, 41, 42] : List Nat) → R' 45 f = R 45 f) (hd : ∀ c, c ∈ ([62, 63, 64, 65, 66, 68, 69, 70, 71] : List Nat) → R' c = R c) : zb_HR C' R' H cn N lam scp := by
  obtain ⟨⟨fl, hs, a⟩, ⟨fs, fc, b⟩, c, ⟨d1, d2⟩, e⟩ := hr
  have e16 := hc 16 (by decide)
  have e20 := hc 20 (by decide)
  have e62 := hd 62 (by decide)
  have e64 := hd 64 (by decide)
  have e66 := hd 66 (by decide)
  have e70 := hd 70 (by decide)
  refine ⟨⟨fl, hs, zb_hc_congr a (fun f hf => h15 f (by simp only [List.mem_cons, List.not_mem_nil, or_false] at hf ⊢; omega)) (fun c hx => hc c (by simp only [List.mem_cons, List.not_mem_nil, or_false] at hx ⊢; omega))⟩, ⟨fs, fc, zb_hq_congr b (fun f hf => h45 f (by simp only [List.mem_cons, List.not_mem_nil, or_false] at hf ⊢; omega)) (fun c hx => hd c (by simp only [List.mem_cons, List.not_mem_nil, or_false] at hx ⊢; omega))⟩, fun h hh => ?_, ⟨fun t t1 t2 => ?_, d2⟩, by rw [h15 10 (by decide), h45 42 (by decide)]; exact e⟩
  · obtain ⟨o1, o2, o3, o4, o5, o6, o7⟩ := c h hh
    refine ⟨by rw [e62]; exact o1, by rw [e66, e20]; exact o2, o3, o4, fun j hj => ?_, by rw [e16, e64]; exact o6, by rw [e16, e64]; exact o7⟩
    have := o5 j hj
    unfold zb_FD zb_cf zb_rf at this ⊢
    rw [e16, e70]; exact this
  · obtain ⟨x1, x2, x3⟩ := d1 t t1 t2
    exact ⟨by rw [e16]; exact zb_ech_16 e16 x1, by rw [e16]; exact x2, x3⟩
theorem zb_lvs_im {P Q : Nat → Prop} {v : Int} (h : zb_lvs P v) (hs : ∀ g, P g → Q g) : zb_lvs Q v := fun g a b => hs g (h g a b)
section GC
variable {C R M : eM} {H : zb_Hp} {cn N rg rg' hs : Nat} {lam : Nat → Prop} {scp : Nat → Nat → Prop} {Rt Rt2 L1 : Nat → Prop}
theorem zb_obv {A : Nat → Prop} {p : Nat → Nat} {N : Nat} (hN : N ≤ 444) {v w : Int} (h : zb_VR A p N v w) {g : Nat} (hg : g < 20000) (hv : v = 17179869184 + (g : Int)) : A g := by
  rcases zb_VR_ob hN h with ⟨g', a, b, _⟩ | hn
  · have : g' = g := by omega
    exact this ▸ a
  · exact absurd hv (hn.2.2.1 g hg)
theorem zb_obl {A : Nat → Prop} {p : Nat → Nat} {v w : Int} (h : zb_LN A p v w) {g : Nat} (hg : g < 20000) (hv : v = 17179869184 + (g : Int)) : A g := by
  rcases zb_LN_ob h with ⟨g', a, b, _⟩ | hn
  · have : g' = g := by omega
    exact this ▸ a
  · exact absurd hv (hn.2.2.1 g hg)
theorem zb_ent8 (hr : zb_HR C R H cn N lam scp) (hN : N ≤ 444) (hrt : ∀ h, h ∈ zb_hO H → Rt h → zb_hK H h ≠ 8) (hrg : ∀ i g, i < rg → g ∈ zb_hO H → C 23 i = 17179869184 + (g : Int) → zb_hK H g ≠ 8) {e : Nat} (he : zb_LV C H rg Rt e) :
    zb_hK H e = 8 → ∃ t, t ∈ zb_hO H ∧ zb_LV C H rg Rt t ∧ zb_hK H t = 7 ∧ e ∈ zb_hE H t ∧ zb_lvs (zb_LV C H rg Rt) (zb_cf C H e 0) := by
  have hcl := zb_LV_clo (C := C) (H := H) (rg := rg) (Rt := Rt)
  obtain ⟨c1, c2, c3, c4, c5, c6⟩ := hcl
  have hlt : ∀ g, g ∈ zb_hO H → g < 20000 := fun g hg => by have := zb_hr_h hr hg; omega
  have main : (zb_LV C H rg Rt e) ∧ (zb_hK H e = 8 → ∃ t, t ∈ zb_hO H ∧ zb_LV C H rg Rt t ∧ zb_hK H t = 7 ∧ e ∈ zb_hE H t ∧ zb_lvs (zb_LV C H rg Rt) (zb_cf C H e 0)) := by
    refine he (fun h => zb_LV C H rg Rt h ∧ (zb_hK H h = 8 → ∃ t, t ∈ zb_hO H ∧ zb_LV C H rg Rt t ∧ zb_hK H t = 7 ∧ h ∈ zb_hE H t ∧ zb_lvs (zb_LV C H rg Rt) (zb_cf C H h 0))) ⟨fun h h1 h2 => ⟨c1 h h1 h2, fun z => absurd z (hrt h h1 h2)⟩, fun h j g a1 a2 a3 a4 a5 a6 => ⟨c2 h j g a1 a2.1 a3 a4 a5 a6, fun z => ?_⟩, fun h g a1 a2 a3 a4 a5 a6 => ⟨c3 h g a1 a2.1 a3 (zb_lvs_im a4 (fun g hg => hg.1)) a5 a6, fun z => ?_⟩, fun t e a1 a2 a3 a4 a5 => ⟨c4 t e a1 a2.1 a3 a4 (zb_lvs_im a5 (fun g hg => hg.1)), fun _ => ⟨t, a1, a2.1, a3, a4, zb_lvs_im a5 (fun g hg => hg.1)⟩⟩, fun e g a1 a2 a3 a4 a5 => ⟨c5 e g a1 a2.1 a3 a4 a5, fun z => ?_⟩, fun i g a1 a2 a3 a4 => ⟨c6 i g a1 (zb_lvs_im a2 (fun g hg => hg.1)) a3 a4, fun z => absurd z (hrg i g a1 a3 a4)⟩⟩
    · exfalso
      have fd := (zb_hr_ob hr a1).2.2.2.2.1 j a4
      by_cases hl : zb_isl (zb_hK H h) j
      · have := (zb_obl (fd.1 hl) (hlt g a5) a6).2.1
        split at this
        · omega
        · rename_i q; unfold zb_isl at hl; omega
      · exact (zb_obv hN (fd.2 hl) (hlt g a5) a6).2.2 z
    · exfalso
      have fd := (zb_hr_ob hr a1).2.2.2.2.1 1 (by rw [a3]; simp [zb_nf])
      exact (zb_obv hN (fd.2 (by rw [a3]; decide)) (hlt g a5) a6).2.2 z
    · exfalso
      have fd := (zb_hr_ob hr a1).2.2.2.2.1 1 (by rw [a3]; simp [zb_nf])
      exact (zb_obv hN (fd.2 (by rw [a3]; decide)) (hlt g a4) a5).2.2 z
  exact main.2
def zb_CLX (C M : eM) (H : zb_Hp) (L1 : Nat → Prop) : Prop :=
  (∀ h j, h ∈ zb_hO H → zb_hK H h ≤ 4 → j < zb_nf (zb_hK H h) (zb_hZ H h) → zb_cf M H h j = zb_cf C H h j)
  ∧ (∀ h, h ∈ zb_hO H → zb_hK H h = 5 → (zb_lvs L1 (zb_cf C H h 0) ∧ zb_cf M H h 0 = zb_cf C H h 0) ∨ (¬ zb_lvs L1 (zb_cf C H h 0) ∧ zb_cf M H h 0 = 4294967296))
  ∧ (∀ h, h ∈ zb_hO H → zb_hK H h = 6 → (zb_lvs L1 (zb_cf C H h 0) ∧ zb_cf M H h 0 = zb_cf C H h 0 ∧ zb_cf M H h 1 = zb_cf C H h 1) ∨ (¬ zb_lvs L1 (zb_cf C H h 0) ∧ zb_cf M H h 0 = 4294967296 ∧ zb_cf M H h 1 = 4294967296))
  ∧ (∀ h, h ∈ zb_hO H → zb_hK H h = 8 → zb_cf M H h 0 = zb_cf C H h 0 ∧ zb_cf M H h 1 = zb_cf C H h 1)
  ∧ (∀ h i, h ∈ zb_hO H → zb_hK H h ≤ 4 → i < zb_hZ H h → zb_cl M H h i = zb_cl C H h i)
theorem zb_clx_of (hr : zb_HR C R H cn N lam scp) (hall : ∀ h, h ∈ zb_hO H → h < hs + 1) (hc : zb_CLR C M H L1 (hs + 1)) : zb_CLX C M H L1 := by
  obtain ⟨u, f5, f6, f7⟩ := hc
  have hE8 : ∀ t e, t ∈ zb_hO H → zb_hK H t = 7 → e ∈ zb_hE H t → e ∈ zb_hO H ∧ zb_hK H e = 8 := fun t e ht hk he => (hr.2.2.2.1.1 t ht hk).2.2 e he
  have u4 : ∀ h i, h ∈ zb_hO H → zb_hK H h ≤ 4 → i < zb_hZ H h → zb_cl M H h i = zb_cl C H h i := fun h i hh hk hi => u h i hh hi (fun z => by
    rcases z with ⟨_, z, _⟩ | ⟨_, z, _⟩ | ⟨_, z, _⟩ | ⟨z, t, t1, _, t2, t3⟩
    · omega
    · omega
    · omega
    · have := (hE8 t h t1 t2 (zb_flt_m t3)).2; omega)
  have ec : ∀ (M : eM) h j, zb_cf M H h j = if zb_isl (zb_hK H h) j then zb_lv (zb_cl M H h (zb_ci (zb_hK H h) j)) else zb_cl M H h (zb_ci (zb_hK H h) j) := fun M h j => rfl
  refine ⟨fun h j hh hk hj => ?_, fun h hh hk => ?_, fun h hh hk => ?_, fun h hh hk => ?_, u4⟩
  · rw [ec M, ec C, u4 h _ hh hk (zb_nf_ci (zb_hr_ob hr hh).2.2.2.1 hj).1]
  · obtain ⟨a1, a2⟩ := f5 h hh (hall h hh) hk
    have e1 : ∀ M : eM, zb_cf M H h 0 = zb_cl M H h 1 := fun M => by rw [ec, hk]; rfl
    rw [e1 M, e1 C]
    by_cases hl : zb_lvs L1 (zb_cl C H h 1)
    · exact Or.inl ⟨hl, a1 hl⟩
    · exact Or.inr ⟨hl, a2 hl⟩
  · obtain ⟨a1, a2⟩ := f6 h hh (hall h hh) hk
    have e1 : ∀ M : eM, zb_cf M H h 0 = zb_cl M H h 1 := fun M => by rw [ec, hk]; rfl
    have e2 : ∀ M : eM, zb_cf M H h 1 = zb_cl M H h 2 := fun M => by rw [ec, hk]; rfl
    rw [e1 M, e1 C, e2 M, e2 C]
    by_cases hl : zb_lvs L1 (zb_cl C H h 1)
    · exact Or.inl ⟨hl, a1 hl⟩
    · exact Or.inr ⟨hl, a2 hl⟩
  · have e1 : ∀ M : eM, zb_cf M H h 0 = zb_cl M H h 1 := fun M => by rw [ec, hk]; rfl
    have e2 : ∀ M : eM, zb_cf M H h 1 = zb_cl M H h 2 := fun M => by rw [ec, hk]; rfl
    have hz : zb_hZ H h = 5 := by have := (zb_hr_ob hr hh).2.2.2.1; unfold zb_szk at this; omega
    rw [e1 M, e1 C, e2 M, e2 C]
    refine ⟨u h 1 hh (by omega) (fun z => ?_), u h 2 hh (by omega) (fun z => ?_)⟩
    · rcases z with ⟨_, z, _⟩ | ⟨_, z, _⟩ | ⟨_, z, _⟩ | ⟨z, _⟩ <;> omega
    · rcases z with ⟨_, z, _⟩ | ⟨_, z, _⟩ | ⟨_, z, _⟩ | ⟨z, _⟩ <;> omega
theorem zb_flt_i {Lp : Nat → Prop} {e : Nat} {es : List Nat} : e ∈ zb_flt C H Lp es ↔ e ∈ es ∧ zb_lvs Lp (zb_cf C H e 0) := by
  unfold zb_flt; rw [List.mem_filter]
  by_cases h : zb_lvs Lp (zb_cf C H e 0)
  · rw [zb_lvd_t h]; simp [h]
  · rw [zb_lvd_f h]; simp [h]
theorem zb_sub12 (hr : zb_HR C R H cn N lam scp) (hx : zb_CLX C M H (zb_LV C H rg Rt)) (hrt : ∀ h, h ∈ zb_hO H → Rt h → Rt2 h) (hrg : ∀ i, i < rg → zb_lvs (zb_LV C H rg Rt) (C 22 i) → ∃ i', i' < rg' ∧ M 22 i' = C 22 i ∧ M 23 i' = C 23 i) {h : Nat} (hh : zb_LV C H rg Rt h) :
    zb_LV M (zb_Hcl C H (zb_LV C H rg Rt)) rg' Rt2 h := by
  obtain ⟨c1, c2, c3, c4, c5, c6⟩ := zb_LV_clo (C := C) (H := H) (rg := rg) (Rt := Rt)
  obtain ⟨d1, d2, d3, d4, d5, d6⟩ := zb_LV_clo (C := M) (H := zb_Hcl C H (zb_LV C H rg Rt)) (rg := rg') (Rt := Rt2)
  obtain ⟨x4, x5, x6, x8, x9⟩ := hx
  have hE8 : ∀ t e, t ∈ zb_hO H → zb_hK H t = 7 → e ∈ zb_hE H t → e ∈ zb_hO H ∧ zb_hK H e = 8 := fun t e ht hk he => (hr.2.2.2.1.1 t ht hk).2.2 e he
  have ecf : ∀ h j, zb_cf M (zb_Hcl C H (zb_LV C H rg Rt)) h j = zb_cf M H h j := fun _ _ => rfl
  refine (hh (fun h => zb_LV C H rg Rt h ∧ zb_LV M (zb_Hcl C H (zb_LV C H rg Rt)) rg' Rt2 h) ⟨fun h h1 h2 => ⟨c1 h h1 h2, d1 h h1 (hrt h h1 h2)⟩, fun h j g a1 a2 a3 a4 a5 a6 => ⟨c2 h j g a1 a2.1 a3 a4 a5 a6, d2 h j g a1 a2.2 a3 a4 a5 (by rw [ecf, x4 h j a1 a3 a4]; exact a6)⟩, fun h g a1 a2 a3 a4 a5 a6 => ?_, fun t e a1 a2 a3 a4 a5 => ?_, fun e g a1 a2 a3 a4 a5 => ⟨c5 e g a1 a2.1 a3 a4 a5, d5 e g a1 a2.2 a3 a4 (by rw [ecf, (x8 e a1 a3).2]; exact a5)⟩, fun i g a1 a2 a3 a4 => ?_⟩).2
  · have l1 := zb_lvs_im a4 (fun g hg => hg.1)
    have l2 := zb_lvs_im a4 (fun g hg => hg.2)
    rcases x6 h a1 a3 with ⟨_, q1, q2⟩ | ⟨q, _⟩
    · exact ⟨c3 h g a1 a2.1 a3 l1 a5 a6, d3 h g a1 a2.2 a3 (by rw [ecf, q1]; exact l2) a5 (by rw [ecf, q2]; exact a6)⟩
    · exact absurd l1 q
  · have l1 := zb_lvs_im a5 (fun g hg => hg.1)
    have l2 := zb_lvs_im a5 (fun g hg => hg.2)
    obtain ⟨m1, m2⟩ := hE8 t e a1 a3 a4
    exact ⟨c4 t e a1 a2.1 a3 a4 l1, d4 t e a1 a2.2 a3 (zb_flt_i.mpr ⟨a4, l1⟩) (by rw [ecf, (x8 e m1 m2).1]; exact l2)⟩
  · have l1 := zb_lvs_im a2 (fun g hg => hg.1)
    have l2 := zb_lvs_im a2 (fun g hg => hg.2)
    obtain ⟨i', i1, i2, i3⟩ := hrg i a1 l1
    exact ⟨c6 i g a1 l1 a3 a4, d6 i' g i1 (by rw [i2]; exact l2) a3 (by rw [i3]; exact a4)⟩
theorem zb_eq12 (hr : zb_HR C R H cn N lam scp) (hx : zb_CLX C M H (zb_LV C H rg Rt)) (hrt : ∀ h, h ∈ zb_hO H → Rt2 h → Rt h) (hrg : ∀ i, i < rg' → i < rg ∧ M 22 i = C 22 i ∧ M 23 i = C 23 i) {h : Nat} (hh : zb_LV M (zb_Hcl C H (zb_LV C H rg Rt)) rg' Rt2 h) : zb_LV C H rg Rt h := by
  obtain ⟨c1, c2, c3, c4, c5, c6⟩ := zb_LV_clo (C := C) (H := H) (rg := rg) (Rt := Rt)
  obtain ⟨x4, x5, x6, x8, x9⟩ := hx
  have hE8 : ∀ t e, t ∈ zb_hO H → zb_hK H t = 7 → e ∈ zb_hE H t → e ∈ zb_hO H ∧ zb_hK H e = 8 := fun t e ht hk he => (hr.2.2.2.1.1 t ht hk).2.2 e he
  have hlt : ∀ g, g ∈ zb_hO H → g < 20000 := fun g hg => by have := zb_hr_h hr hg; omega
  refine hh (zb_LV C H rg Rt) ⟨fun h h1 h2 => c1 h h1 (hrt h h1 h2), fun h j g a1 a2 a3 a4 a5 a6 => c2 h j g a1 a2 a3 a4 a5 (by rw [← x4 h j a1 a3 a4]; exact a6), fun h g a1 a2 a3 a4 a5 a6 => ?_, fun t e a1 a2 a3 a4 a5 => ?_, fun e g a1 a2 a3 a4 a5 => c5 e g a1 a2 a3 a4 (by rw [← (x8 e a1 a3).2]; exact a5), fun i g a1 a2 a3 a4 => ?_⟩
  · rcases x6 h a1 a3 with ⟨q, q1, q2⟩ | ⟨_, q1, q2⟩
    · exact c3 h g a1 a2 a3 q a5 (by rw [← q2]; exact a6)
    · exfalso
      have a6' : zb_cf M H h 1 = 17179869184 + (g : Int) := a6
      rw [q2] at a6'; omega
  · obtain ⟨m1, m2⟩ := zb_flt_i.mp a4
    exact c4 t e a1 a2 a3 m1 m2
  · obtain ⟨i1, i2, i3⟩ := hrg i a1
    exact c6 i g i1 (by rw [← i2]; exact a2) a3 (by rw [← i3]; exact a4)
theorem zb_ech_at {M : eM} {H : zb_Hp} : ∀ {l : List Nat} {x : Int} {h : Nat}, zb_ech M H l x → h ∈ l → ∃ D t, l = D ++ h :: t ∧ zb_ech M H t (zb_cl M H h 3) := by
  intro l
  induction l with
  | nil => intro x h _ hh; cases hh
  | cons a t ih =>
    intro x h he hh
    by_cases ha : h = a
    · subst ha; exact ⟨[], t, rfl, he.2⟩
    · obtain ⟨D, t', e1, e2⟩ := ih he.2 ((List.mem_cons.mp hh).resolve_left ha)
      exact ⟨a :: D, t', by rw [e1]; rfl, e2⟩
def zb_SV (M : eM) (H : zb_Hp) (L : Nat → Prop) : Prop := (∀ h j g, h ∈ zb_hO H → L h → j < zb_nf (zb_hK H h) (zb_hZ H h) → g ∈ zb_hO H → zb_cf M H h j = 17179869184 + (g : Int) → L g) ∧ ∀ t e, t ∈ zb_hO H → L t → zb_hK H t = 7 → e ∈ zb_hE H t → L e
theorem zb_surv {M R' : eM} (hr : zb_HR C R H cn N lam scp) (hr1 : zb_HR M R' (zb_Hcl C H L1) cn N lam scp) (hN : N ≤ 444) (hx : zb_CLX C M H L1) (hrt : ∀ h, h ∈ zb_hO H → Rt2 h → zb_hK H h ≠ 8) (hrg : ∀ i g, i < rg' → g ∈ zb_hO H → M 23 i = 17179869184 + (g : Int) → zb_hK H g ≠ 8)
    (h12 : ∀ h, L1 h → zb_LV M (zb_Hcl C H L1) rg' Rt2 h) : zb_SV M (zb_Hcl C H L1) (zb_LV M (zb_Hcl C H L1) rg' Rt2) := by
  obtain ⟨d1, d2, d3, d4, d5, d6⟩ := zb_LV_clo (C := M) (H := zb_Hcl C H L1) (rg := rg') (Rt := Rt2)
  have hent := fun e => zb_ent8 (rg := rg') (Rt := Rt2) hr1 hN hrt hrg (e := e)
  generalize hL2 : zb_LV M (zb_Hcl C H L1) rg' Rt2 = L2 at d1 d2 d3 d4 d5 d6 hent h12
  obtain ⟨x4, x5, x6, x8, x9⟩ := hx
  have hE8 : ∀ t e, t ∈ zb_hO H → zb_hK H t = 7 → e ∈ zb_hE H t → e ∈ zb_hO H ∧ zb_hK H e = 8 := fun t e ht hk he => (hr.2.2.2.1.1 t ht hk).2.2 e he
  have hlt : ∀ g, g ∈ zb_hO H → g < 20000 ∧ 1 ≤ g := fun g hg => by have := zb_hr_h hr hg; omega
  have hte : ∀ t e, t ∈ zb_hO H → L2 t → zb_hK H t = 7 → e ∈ zb_hE (zb_Hcl C H L1) t → L2 e := fun t e a1 a2 a3 a4 => by
    obtain ⟨m1, m2⟩ := zb_flt_i.mp a4
    obtain ⟨m3, m4⟩ := hE8 t e a1 a3 m1
    refine d4 t e a1 a2 a3 a4 ?_
    have e1 : zb_cf M (zb_Hcl C H L1) e 0 = zb_cf C H e 0 := (x8 e m3 m4).1
    rw [e1]; exact zb_lvs_im m2 h12
  refine ⟨fun h j g hh hl hj hg hv => ?_, hte⟩
  have hh' : h ∈ zb_hO H := hh
  have hg' : g ∈ zb_hO H := hg
  have hj' : j < zb_nf (zb_hK H h) (zb_hZ H h) := hj
  have hv' : zb_cf M H h j = 17179869184 + (g : Int) := hv
  have hk8 := zb_nf_le (zb_hr_ob hr hh').2.2.2.1
  by_cases k4 : zb_hK H h ≤ 4
  · exact d2 h j g hh hl k4 hj hg hv
  · by_cases k5 : zb_hK H h = 5
    · have hj0 : j = 0 := by rw [k5] at hj'; simpa [zb_nf] using hj'
      subst hj0
      rcases x5 h hh' k5 with ⟨q, q1⟩ | ⟨_, q1⟩
      · exact h12 g (q g (hlt g hg').1 (by rw [← q1]; exact hv'))
      · rw [q1] at hv'; omega
    · by_cases k6 : zb_hK H h = 6
      · have hj2 : j < 2 := by rw [k6] at hj'; simpa [zb_nf] using hj'
        rcases x6 h hh' k6 with ⟨q, q1, q2⟩ | ⟨_, q1, q2⟩
        · have hjj : j = 0 ∨ j = 1 := by omega
          rcases hjj with z | z <;> subst z
          · exact h12 g (q g (hlt g hg').1 (by rw [← q1]; exact hv'))
          · refine d3 h g hh hl k6 ?_ hg hv
            have e1 : zb_cf M (zb_Hcl C H L1) h 0 = zb_cf C H h 0 := q1
            rw [e1]; exact zb_lvs_im q h12
        · have hjj : j = 0 ∨ j = 1 := by omega
          rcases hjj with z | z <;> subst z
          · rw [q1] at hv'; omega
          · rw [q2] at hv'; omega
      · by_cases k7 : zb_hK H h = 7
        · have hj0 : j = 0 := by rw [k7] at hj'; simpa [zb_nf] using hj'
          subst hj0
          have e1 : zb_cf M H h 0 = zb_lv (zb_cl M H h 1) := by unfold zb_cf zb_ci zb_cl; rw [k7]; rfl
          rw [e1] at hv'
          have he := (hr1.2.2.2.1.1 h hh k7).1
          have := zb_lv_ob hv' (hlt g hg').1
          cases hes : zb_hE (zb_Hcl C H L1) h with
          | nil =>
            rw [hes] at he
            have : zb_cl M H h 1 = 0 := he
            have := (hlt g hg').2
            omega
          | cons e es =>
            rw [hes] at he
            have z : zb_cl M H h 1 = (e : Int) := he.1
            have : e = g := by omega
            exact hte h g hh' hl k7 (by rw [hes, ← this]; exact List.mem_cons_self)
        · have k8 : zb_hK H h = 8 := by omega
          obtain ⟨t, t1, t2, t3, t4, t5⟩ := hent h hl k8
          have hj3 : j < 3 := by rw [k8] at hj'; simpa [zb_nf] using hj'
          have hjj : j = 0 ∨ j = 1 ∨ j = 2 := by omega
          rcases hjj with z | z | z <;> subst z
          · exact t5 g (hlt g hg').1 hv
          · exact d5 h g hh hl k8 hg hv
          · have e1 : zb_cf M H h 2 = zb_lv (zb_cl M H h 3) := by unfold zb_cf zb_ci zb_cl; rw [k8]; rfl
            rw [e1] at hv'
            have := zb_lv_ob hv' (hlt g hg').1
            obtain ⟨D, tl, q1, q2⟩ := zb_ech_at (hr1.2.2.2.1.1 t t1 t3).1 t4
            cases tl with
            | nil =>
              have z : zb_cl M H h 3 = 0 := q2
              have := (hlt g hg').2
              omega
            | cons e es =>
              have z : zb_cl M H h 3 = (e : Int) := q2.1
              have : e = g := by omega
              exact hte t g t1 t2 t3 (by rw [q1, ← this]; simp)
end GC
