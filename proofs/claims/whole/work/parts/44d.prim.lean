section PRM
variable {B : zb_Bs} {Q : zb_Pq} {Z sp0 zb_sp : Nat} {C R C' R' C3 R3 M : eM} {H H' : zb_Hp} {rl ql rl' ql' : List (Nat × Nat)} {fd fd' fu p n : Nat} {l : List zb_Rec} {r : zb_Rec} {a' : Int}
def zb_VF (C1 : eM) (us : Nat) (v : Int) (i : Nat) (Mi : eM) : Prop := (∀ c, c ≠ 16 → Mi c = C1 c) ∧ (∀ a, a ≤ us ∨ us + 1 + i ≤ a → Mi 16 a = C1 16 a) ∧ ∀ j, j < i → Mi 16 (us + (1 + j)) = v
theorem zb_vec_loop {cn mo m x us : Nat} {v : Int} {C1 : eM} (hm : m ≤ 100) (hx : 1 ≤ x ∧ x < 20000) (hp : ∀ (M' : eM) (i : Nat) (w : Int), M' 17 = C1 17 → i < 3 + m → fn_94 cn mo (x : Int) (i : Int) w M' = some (eg_u M' 16 (us + i) w)) : ∀ d i (Mi : eM), m - i = d → i ≤ m → zb_VF C1 us v i Mi → ∃ C4, lp (fun z => fn_96_20 cn mo (m : Int) v (x : Int) z.1 z.2) ((i : Int), Mi) = some (17179869184 + (x : Int), C4) ∧ zb_VF C1 us v m C4 := by
  intro d
  induction d with
  | zero =>
    intro i Mi hd hi hv
    have him : i = m := by omega
    subst him
    refine ⟨Mi, lp2_inr ?_, hv⟩
    unfold fn_96_20 fn_95
    rw [if_pos (Int.le_refl _), zb_lor_obj hx.2]; rfl
  | succ d ih =>
    intro i Mi hd hi hv
    have hw : eg_wi (1 + (i : Int)) = ((1 + i : Nat) : Int) := zb_wi_1q (by omega)
    have hw2 : eg_wi ((i : Int) + 1) = ((i + 1 : Nat) : Int) := zb_wi_1 (by omega)
    have e : fn_96_20 cn mo (m : Int) v (x : Int) (i : Int) Mi = some (.inl (((i + 1 : Nat) : Int), eg_u Mi 16 (us + (1 + i)) v)) := by
      unfold fn_96_20
      rw [hw, hw2]
      clear hw hw2
      rw [if_neg (by omega), if_neg (by omega), hp Mi (1 + i) v (hv.1 17 (by decide)) (by omega)]; rfl
    clear hw hw2
    rw [lp2_inl e]
    clear e
    refine ih (i + 1) _ (by omega) (by omega) ⟨fun c hc => by rw [eg_u_ne hc]; exact hv.1 c hc, fun a ha => ?_, fun j hj => ?_⟩
    · rw [eg_u_nj (by omega)]; exact hv.2.1 a (by omega)
    · by_cases hji : j = i
      · subst hji; exact eg_u_eq
      · rw [eg_u_nj (by omega)]; exact hv.2.2 j (by omega)
set_option maxHeartbeats 1000000 in
theorem zb_prim_vnew (h : zb_PCX B C R H rl ql fd fu r l p n Z sp0 zb_sp) (hp : p = 16) : zb_PRES B Q Z sp0 zb_sp C R l n a' := by
  by_cases hn : zb_arl.getD p 0 = n
  rotate_left
  · exact zb_pr_count h hn
  subst hp
  have hn2 : n = 2 := by rw [← hn]; rfl
  subst hn2
  have hl := zb_pc_len h
  have v1 := zb_pc_vr h (j := 0) (by omega)
  simp only [Nat.zero_add, Nat.add_zero, Nat.reduceAdd] at v1
  obtain ⟨x, hx⟩ : ∃ x, x = C 35 (9 * (l.length + 1) + 1) := ⟨_, rfl⟩
  have fl := (zb_pc_se (a' := a') h).1.2.2.2.1
  have hc : ∀ M : eM, zb_KEP (zb_c2m C l a') M → fn_74 B.2.2.1 (B.2.2.1 / 3 + 1) ((l.length + 1 : Nat) : Int) M = if ¬ eb_lshr x 32 = 0 then some (eg_u M 44 8 9) else (fn_96 B.2.2.1 (B.2.2.1 / 3 + 1) (eg_wi x) (C 35 (9 * (l.length + 1) + 2)) M).bind (zb_fin74 (l.length + 1)) := fun M kM => by
    rw [zb_pc_2 (a' := a') (c := 110) (d := 120) h rfl (by decide) (by decide) kM, zb_d75_n, ← hx]
    by_cases hq : eb_lshr x 32 = 0
    · rw [if_neg (show ¬ ¬ eb_lshr x 32 = 0 from fun z => z hq), if_neg (show ¬ ¬ eb_lshr x 32 = 0 from fun z => z hq), Option.bind_some, if_pos (by decide), zb_d75_x, Option.bind_some, if_pos (by decide), zb_d79_16, zb_d91_16, zb_bpair, zb_bpair]
    · rw [if_pos (show ¬ eb_lshr x 32 = 0 from hq), if_pos (show ¬ eb_lshr x 32 = 0 from hq), Option.bind_some, if_neg (fun z => z rfl)]
  have hr : fn_226 ((16 : Nat) : Int) ((zb_bb l + 1 : Nat) : Int) R = fn_230 16 ((zb_bb l + 1 : Nat) : Int) R := zb_d226_l (by decide) (by decide)
  rw [zb_d230_16 (by omega), Int.toNat_natCast] at hr
  unfold fn_228 at hr
  rw [← hx] at v1
  rcases zb_pc_num h v1 with ⟨m1, m2, m3, m4, m5⟩ | ⟨m1, m2⟩
  rotate_left
  · refine zb_pr_f (k := 9) h rfl (by decide) (by decide) (Or.inl ?_) ?_
    · rw [hc _ (zb_pc_kep h), if_pos m1]
    · rw [hr, if_pos m2, Option.bind_some, if_neg (fun z => z rfl)]; rfl
  rw [if_neg (show ¬ ¬ eb_lshr (R 77 (zb_bb l + 1)) 32 = 0 from fun z => z m2), Option.bind_some, if_pos (by decide), m3] at hr
  simp only [if_neg (show ¬ ¬ eb_lshr x 32 = 0 from fun z => z m1)] at hc
  obtain ⟨y, hy⟩ : ∃ y, y = eg_wi x := ⟨_, rfl⟩
  rw [← hy] at hr hc
  have out11 : (y < 0 ∨ ¬ y ≤ 100) → zb_PRES B Q Z sp0 zb_sp C R l 2 a' := by
    intro hq
    have h96 : fn_96 B.2.2.1 (B.2.2.1 / 3 + 1) y (C 35 (9 * (l.length + 1) + 2)) (zb_c2m C l a') = some (4294967298, eg_u (zb_c2m C l a') 43 4 11) := by
      unfold fn_96
      by_cases h0 : y < 0
      · rw [if_pos h0]
      · rw [if_neg h0, if_neg (hq.resolve_left h0)]
    refine zb_pr_f (k := 11) h rfl (by decide) (by decide) (Or.inr ?_) ?_
    · rw [hc _ (zb_pc_kep h), h96, Option.bind_some]
      exact zb_fin_f (by rw [eg_u_nj (by decide)]; exact fl.1.2.2.1) eg_u_eq (by decide)
    · rw [hr]
      by_cases h0 : y < 0
      · rw [if_pos h0]; rfl
      · rw [if_neg h0, if_neg (hq.resolve_left h0)]; rfl
  by_cases h0 : y < 0
  · exact out11 (Or.inl h0)
  by_cases h1 : y ≤ 100
  rotate_left
  · exact out11 (Or.inr h1)
  clear out11
  obtain ⟨m, hm⟩ : ∃ m : Nat, y = (m : Int) := ⟨y.toNat, by omega⟩
  rw [hm] at hr hc h0 h1
  clear hy hm y
  have hw3 : eg_wi (3 + (m : Int)) = ((3 + m : Nat) : Int) := by unfold eg_wi; omega
  have hc2 : ∀ M : eM, zb_KEP (zb_c2m C l a') M → fn_74 B.2.2.1 (B.2.2.1 / 3 + 1) ((l.length + 1 : Nat) : Int) M = ((fn_93 B.2.2.1 (B.2.2.1 / 3 + 1) 2 ((3 + m : Nat) : Int) M).bind fun r4 => lp (fun z => fn_96_20 B.2.2.1 (B.2.2.1 / 3 + 1) (m : Int) (C 35 (9 * (l.length + 1) + 2)) r4.1 z.1 z.2) (0, r4.2)).bind (zb_fin74 (l.length + 1)) := fun M kM => by
    rw [hc M kM]
    unfold fn_96
    rw [if_neg h0, if_pos h1, hw3]
  clear hw3
  rw [if_neg h0, if_pos h1, zb_wi_1 (by omega), if_pos (by omega), Int.toNat_natCast] at hr
  have hnf : zb_nf 2 (3 + m) = m := by unfold zb_nf; rw [if_neg (by decide), if_pos rfl]; omega
  refine zb_pr_make (k := 2) (s := 3 + m) (v0 := R 77 (zb_bb l + 1 + 1)) (X := fun r35 => fn_231 r35.1 r35.2) h rfl (by decide) (by unfold zb_szk; omega) (by omega) (fun _ j hj => by rw [if_pos rfl]; decide) ?_ ?_ ?_ (fun R' => zb_f231n) ?_
  · intro M kM h5 h4 h8 e
    rw [hc2 M kM]
    rw [show fn_93 B.2.2.1 (B.2.2.1 / 3 + 1) 2 ((3 + m : Nat) : Int) M = _ from e, Option.bind_some]
    have el : lp (fun z => fn_96_20 B.2.2.1 (B.2.2.1 / 3 + 1) (m : Int) (C 35 (9 * (l.length + 1) + 2)) 0 z.1 z.2) ((0 : Int), eg_u M 15 11 1) = some (eb_lor 17179869184 0, eg_u M 15 11 1) := by
      refine lp2_inr ?_
      unfold fn_96_20 fn_95
      by_cases hm0 : (m : Int) ≤ 0
      · rw [if_pos hm0]; rfl
      · rw [if_neg hm0, if_pos rfl]; rfl
    rw [el, Option.bind_some]
    exact zb_fin_no h5 h4 h8
  · intro M C1 x us kM x1 x2 e h5 h4 h11 hp
    obtain ⟨C4, l1, l2, l3, l4⟩ := zb_vec_loop (cn := B.2.2.1) (mo := B.2.2.1 / 3 + 1) (m := m) (v := C 35 (9 * (l.length + 1) + 2)) (C1 := C1) (by omega) ⟨x1, x2⟩ hp m 0 C1 (by omega) (by omega) ⟨fun c hc => rfl, fun a ha => rfl, fun j hj => by omega⟩
    refine ⟨C4, ?_, l2, fun a ha => l3 a (by omega), fun z => by omega, fun _ j hj => ?_⟩
    · rw [hc2 M kM]
      rw [show fn_93 B.2.2.1 (B.2.2.1 / 3 + 1) 2 ((3 + m : Nat) : Int) M = _ from e, Option.bind_some]
      rw [show lp (fun z => fn_96_20 B.2.2.1 (B.2.2.1 / 3 + 1) (m : Int) (C 35 (9 * (l.length + 1) + 2)) (x : Int) z.1 z.2) (0, C1) = _ from l1, Option.bind_some]
      exact zb_fin_v (by rw [l2 43 (by decide)]; exact h5) (by rw [l2 43 (by decide)]; exact h4) (by rw [l2 15 (by decide)]; exact h11)
    · rw [if_pos rfl]; exact l4 j (by rw [hnf] at hj; exact hj)
  · rw [hr, hnf]
    have e2 : (fun r113 : Int × eM => (fn_231 r113.1 r113.2).bind fun r116 => some (r116.1, r116.2)) = fun r => fn_231 r.1 r.2 := funext fun _ => zb_bpair
    rw [e2]; rfl
  · intro R3 o ls ho hls hnd h0 h77 hs
    refine ⟨R3, zb_f231, fun c hc => rfl, fun c hc => rfl, fun z => by omega, fun _ j hj => ?_⟩
    refine (h0 _ ?_).trans (by rw [if_pos rfl])
    rw [List.getD_eq_getElem?_getD, List.getElem?_eq_getElem (by rw [hls]; exact hj)]; exact List.getElem_mem _
end PRM
section TAB
variable {B : zb_Bs} {Q : zb_Pq} {Z sp0 zb_sp : Nat} {C R C' R' C3 R3 M : eM} {H H' : zb_Hp} {rl ql rl' ql' : List (Nat × Nat)} {fd fd' fu p n cn N : Nat} {l : List zb_Rec} {r : zb_Rec} {a' : Int} {lam : Nat → Prop} {scp : Nat → Nat → Prop}
theorem zb_pw_len {f : Nat → Nat} : ∀ (es : List Nat) (m : Nat), es.Pairwise (fun a b => f b < f a) → (∀ e, e ∈ es → f e < m) → es.length ≤ m := by
  intro es
  induction es with
  | nil => intro m _ _; exact Nat.zero_le _
  | cons e es ih =>
    intro m hp hm
    rw [List.pairwise_cons] at hp
    have := ih (f e) hp.2 hp.1
    have := hm e (by simp)
    simp only [List.length_cons]; omega
theorem zb_tab_all (hr : zb_HR C R H cn N lam scp) {t : Nat} (ht : t ∈ zb_hO H) (hk : zb_hK H t = 7) : zb_ech C H (zb_hE H t) (C 16 (zb_hS H t + 1)) ∧ C 16 (zb_hS H t + 2) = ((zb_hE H t).length : Int) ∧ (∀ e, e ∈ zb_hE H t → e ∈ zb_hO H ∧ zb_hK H e = 8) ∧ zb_rech R H (zb_hE H t) (zb_rf R H t 0) ∧ (zb_hE H t).length ≤ 20000 := by
  obtain ⟨u1, u2, u3⟩ := hr.2.2.2.1.1 t ht hk
  have ob := zb_hr_ob hr ht
  have hz := ob.2.2.2.1
  have hnf : zb_nf (zb_hK H t) (zb_hZ H t) = 1 := by rw [hk]; rfl
  have hfd := (ob.2.2.2.2.1 0 (by omega)).1 (Or.inr (Or.inl hk))
  unfold zb_cf at hfd
  rw [if_pos (Or.inr (Or.inl hk))] at hfd
  have hci : zb_ci (zb_hK H t) 0 = 1 := by rw [hk]; rfl
  rw [hci] at hfd
  refine ⟨u1, u2, u3, zb_rech_of hr (zb_hE H t) _ _ (zb_lt H t) (fun q hq => hq.1) u1 u3 hfd, zb_pw_len _ _ (zb_ech_pw hr _ _ u1 u3) (fun e he => ?_)⟩
  have := zb_hr_h hr (u3 e he).1
  have hz9 := (zb_hr_ob hr (u3 e he).1).2.2.2.1
  have := zb_nf_le hz9
  omega
theorem zb_tsr (hr : zb_HR C R H cn N lam scp) (hN : N ≤ 444) {kv kw a b : Int} (hk : zb_VR (zb_vo H) (zb_hP H) N kv kw) (h16 : M 16 = C 16) (h17 : M 17 = C 17) : ∀ (es : List Nat) (x w : Int), zb_ech C H es x → zb_rech R H es w → (∀ e, e ∈ es → e ∈ zb_hO H ∧ zb_hK H e = 8) →
    (lp (fn_102_7 cn (cn / 3 + 1) a kv M) x = some 0 ∧ lp (fn_236_5 b kw R) w = some (-1)) ∨ ∃ e, e ∈ es ∧ lp (fn_102_7 cn (cn / 3 + 1) a kv M) x = some (e : Int) ∧ lp (fn_236_5 b kw R) w = some (zb_ov (zb_hP H e)) := by
  intro es
  induction es with
  | nil =>
    intro x w h1 h2 _
    refine Or.inl ⟨?_, ?_⟩
    · rw [show x = 0 from h1]; exact lp_inr (by unfold fn_102_7; rw [if_pos rfl])
    · rw [show w = -1 from h2]; exact lp_inr (by unfold fn_236_5; rw [if_pos rfl])
  | cons e es ih =>
    intro x w h1 h2 h3
    obtain ⟨x1, x2⟩ := h1
    obtain ⟨w1, w2⟩ := h2
    have he := h3 e (by simp)
    have hb := zb_hr_h hr he.1
    have hz : zb_hZ H e = 5 := by have := (zb_hr_ob hr he.1).2.2.2.1; rw [he.2] at this; unfold zb_szk at this; omega
    have hnf : zb_nf (zb_hK H e) (zb_hZ H e) = 3 := by rw [he.2]; rfl
    have g1 := zb_hr_get hr (M := M) h16 h17 he.1 (i := 1) (by omega)
    have g3 := zb_hr_get hr (M := M) h16 h17 he.1 (i := 3) (by omega)
    have r0 := zb_hr_getr hr (M := R) rfl rfl rfl he.1 (j := 0) (by omega)
    have r2 := zb_hr_getr hr (M := R) rfl rfl rfl he.1 (j := 2) (by omega)
    have fd0 := ((zb_hr_ob hr he.1).2.2.2.2.1 0 (by omega)).2 (by rw [he.2]; unfold zb_isl; omega)
    have hcf : zb_cf C H e 0 = C 16 (zb_hS H e + 1) := by unfold zb_cf; rw [if_neg (by rw [he.2]; unfold zb_isl; omega), he.2]; rfl
    rw [hcf] at fd0
    have hq := zb_vr_eq hr hN fd0 hk
    by_cases hkey : C 16 (zb_hS H e + 1) = kv
    · refine Or.inr ⟨e, by simp, ?_, ?_⟩
      · rw [x1]
        refine lp_inr ?_
        unfold fn_102_7
        rw [if_neg (by omega), show fn_78 cn (cn / 3 + 1) (e : Int) 1 M = _ from g1, Option.bind_some, if_pos hkey]
      · rw [w1]
        refine lp_inr ?_
        unfold fn_236_5
        rw [if_neg zb_ovn, show fn_189 (zb_ov (zb_hP H e)) 0 R = _ from r0, Option.bind_some, if_pos (hq.1 hkey)]
    · have hx3 : ∃ g : Nat, C 16 (zb_hS H e + 3) = (g : Int) ∧ g < 20000 := by
        cases es with
        | nil => exact ⟨0, x2, by decide⟩
        | cons f fs => exact ⟨f, x2.1, by have := zb_hr_h hr (h3 f (by simp)).1; omega⟩
      obtain ⟨g, hg, hg2⟩ := hx3
      have e1 : lp (fn_102_7 cn (cn / 3 + 1) a kv M) x = lp (fn_102_7 cn (cn / 3 + 1) a kv M) (C 16 (zb_hS H e + 3)) := by
        rw [x1]
        refine lp_inl ?_
        unfold fn_102_7
        rw [if_neg (by omega), show fn_78 cn (cn / 3 + 1) (e : Int) 1 M = _ from g1, Option.bind_some, if_neg hkey, show fn_78 cn (cn / 3 + 1) (e : Int) 3 M = _ from g3, Option.bind_some, hg, zb_wi_n (by omega)]
      have e2 : lp (fn_236_5 b kw R) w = lp (fn_236_5 b kw R) (zb_rf R H e 2) := by
        rw [w1]
        refine lp_inl ?_
        unfold fn_236_5
        rw [if_neg zb_ovn, show fn_189 (zb_ov (zb_hP H e)) 0 R = _ from r0, Option.bind_some, if_neg (fun z => hkey (hq.2 z)), show fn_189 (zb_ov (zb_hP H e)) 2 R = _ from r2, Option.bind_some]
      rw [e1, e2]
      rcases ih _ _ x2 w2 (fun f hf => h3 f (by simp [hf])) with h | ⟨f, f1, f2⟩
      · exact Or.inl h
      · exact Or.inr ⟨f, by simp [f1], f2⟩
theorem zb_tcount (hr : zb_HR C R H cn N lam scp) {a b e0 : Int} : ∀ (es : List Nat) (x w : Int) (k : Nat), zb_ech C H es x → zb_rech R H es w → (∀ e, e ∈ es → e ∈ zb_hO H ∧ zb_hK H e = 8) → k + es.length < 100000 → lp (fun z => fn_235_19 a b e0 R z.1 z.2) ((k : Int), w) = some (0, eg_u R 45 70 ((k + es.length : Nat) : Int)) := by
  intro es
  induction es with
  | nil =>
    intro x w k h1 h2 _ _
    rw [show w = -1 from h2]
    refine lp2_inr ?_
    unfold fn_235_19
    rw [if_pos rfl]; rfl
  | cons e es ih =>
    intro x w k h1 h2 h3 hk
    obtain ⟨x1, x2⟩ := h1
    obtain ⟨w1, w2⟩ := h2
    simp only [List.length_cons] at hk
    have he := h3 e (by simp)
    have hnf : zb_nf (zb_hK H e) (zb_hZ H e) = 3 := by rw [he.2]; rfl
    have r2 := zb_hr_getr hr (M := R) rfl rfl rfl he.1 (j := 2) (by omega)
    have e1 : fn_235_19 a b e0 R (k : Int) w = some (.inl (((k + 1 : Nat) : Int), zb_rf R H e 2)) := by
      unfold fn_235_19
      rw [w1, if_neg zb_ovn, show fn_189 (zb_ov (zb_hP H e)) 2 R = _ from r2, Option.bind_some, zb_wi_1 (by omega)]
    rw [lp2_inl e1, ih _ _ (k + 1) x2 w2 (fun f hf => h3 f (by simp [hf])) (by omega)]
    simp only [List.length_cons]
    rw [show k + 1 + es.length = k + (es.length + 1) by omega]
end TAB
section PRM
variable {B : zb_Bs} {Q : zb_Pq} {Z sp0 zb_sp : Nat} {C R C' R' C3 R3 M : eM} {H H' : zb_Hp} {rl ql rl' ql' : List (Nat × Nat)} {fd fd' fu p n : Nat} {l : List zb_Rec} {r : zb_Rec} {a' : Int}
theorem zb_pc_444 (h : zb_PCX B C R H rl ql fd fu r l p n Z sp0 zb_sp) : B.2.2.2.1 ≤ 444 := (zb_gs_N h.1.1.1.1).1
theorem zb_prim_tget (h : zb_PCX B C R H rl ql fd fu r l p n Z sp0 zb_sp) (hp : p = 27) : zb_PRES B Q Z sp0 zb_sp C R l n a' := by
  by_cases hn : zb_arl.getD p 0 = n
  rotate_left
  · exact zb_pr_count h hn
  subst hp
  have hn2 : n = 2 := by rw [← hn]; rfl
  subst hn2
  have hl := zb_pc_len h
  have v1 := zb_pc_vr h (j := 0) (by omega)
  have v2 := zb_pc_vr h (j := 1) (by omega)
  simp only [Nat.zero_add, Nat.add_zero, Nat.reduceAdd] at v1 v2
  have hb : 0 ≤ ((zb_bb l + 1 : Nat) : Int) ∧ ((zb_bb l + 1 : Nat) : Int) < 19000 := by omega
  obtain ⟨x, hx⟩ : ∃ x, x = C 35 (9 * (l.length + 1) + 1) := ⟨_, rfl⟩
  obtain ⟨y, hy⟩ : ∃ y, y = C 35 (9 * (l.length + 1) + 2) := ⟨_, rfl⟩
  have hc : fn_74 B.2.2.1 (B.2.2.1 / 3 + 1) ((l.length + 1 : Nat) : Int) (zb_c2m C l a') = (fn_76 (B.2.2.1 / 3 + 1) x 7 (zb_c2m C l a')).bind fun r1 => if ¬ r1 = 0 then (((fn_102 B.2.2.1 (B.2.2.1 / 3 + 1) (eg_wi x) y (zb_c2m C l a')).bind fun r63 => if ¬ r63 = 0 then (fn_78 B.2.2.1 (B.2.2.1 / 3 + 1) r63 2 (zb_c2m C l a')).bind fun r67 => some (r67, zb_c2m C l a') else some (4294967296, zb_c2m C l a')).bind (zb_fin74 (l.length + 1))) else some (eg_u (zb_c2m C l a') 44 8 9) := by
    rw [hx, hy, zb_pc_2 (a' := a') (c := 116) (d := 120) h rfl (by decide) (by decide) (zb_pc_kep h), zb_d75_t, zb_tw9 (fun y => zb_h76b)]
    congr 1; funext r1
    rw [zb_d75_x, Option.bind_some, if_pos (show ¬ (1 : Int) = 0 by decide), zb_d79_27, zb_bpair, zb_d91_27]
  have hr : fn_226 ((27 : Nat) : Int) ((zb_bb l + 1 : Nat) : Int) R = fn_235 27 (R 77 (zb_bb l + 1)) ((zb_bb l + 1 : Nat) : Int) R := by
    rw [zb_d226_w (by decide) (by decide) (by decide) hb]
    show fn_233_9 27 _ _ R = _
    rw [zb_d233_27, Int.toNat_natCast, zb_bpair]
  unfold fn_235 at hr
  rw [← hx] at v1
  rw [← hy] at v2
  rcases zb_is_ok (k := 7) (M := zb_c2m C l a') h v1 (by omega) (zb_c2o (by decide) (by decide)) with ⟨g, gv, e1, e2, e3, e4, e5, e6, e7⟩ | ⟨e1, e2⟩
  rotate_left
  · have e1' : fn_76 (B.2.2.1 / 3 + 1) x 7 (zb_c2m C l a') = some 0 := e1
    have e2' : fn_223 (R 77 (zb_bb l + 1)) 6 R = some 0 := e2
    refine zb_pr_f (k := 9) h rfl (by decide) (by decide) (Or.inl ?_) ?_
    · rw [hc, e1', Option.bind_some, if_neg (fun z => z rfl)]
    · rw [hr, e2', Option.bind_some, if_neg (fun z => z rfl)]; rfl
  have e4' : fn_76 (B.2.2.1 / 3 + 1) x 7 (zb_c2m C l a') = some 1 := e4
  have e5' : fn_223 (R 77 (zb_bb l + 1)) 6 R = some 1 := e5
  rw [e4', Option.bind_some, if_pos (show ¬ (1 : Int) = 0 by decide), e1, zb_wi_obj e6] at hc
  rw [e5', Option.bind_some, if_pos (by decide), if_pos (by decide), zb_wi_1 (by omega), if_pos (by omega), Int.toNat_natCast, e2] at hr
  have hr0 := zb_gs_hr h.1.1.1.1
  obtain ⟨u1, u2, u3, u4, u5⟩ := zb_tab_all hr0 gv.1 e3
  have hzt : zb_hZ H g = 3 := by have := (zb_hr_ob hr0 gv.1).2.2.2.1; rw [e3] at this; unfold zb_szk at this; omega
  have g1 := zb_hr_get hr0 (M := zb_c2m C l a') (zb_c2o (by decide) (by decide)) (zb_c2o (by decide) (by decide)) gv.1 (i := 1) (by omega)
  have g2 := zb_hr_getr hr0 (M := R) rfl rfl rfl gv.1 (j := 0) (by rw [e3]; exact Nat.one_pos)
  have hx1 : eg_wi (C 16 (zb_hS H g + 1)) = C 16 (zb_hS H g + 1) := by
    rw [zb_ech_hd u1]
    cases hh : zb_hE H g with
    | nil => rfl
    | cons f fs =>
      have := zb_hr_h hr0 (u3 f (by rw [hh]; simp)).1
      exact zb_wi_n (by omega)
  have s1 : ∀ q, lp (fn_102_7 B.2.2.1 (B.2.2.1 / 3 + 1) (g : Int) y (zb_c2m C l a')) (C 16 (zb_hS H g + 1)) = some q → fn_102 B.2.2.1 (B.2.2.1 / 3 + 1) (g : Int) y (zb_c2m C l a') = some q := fun q e => by
    unfold fn_102
    rw [show fn_78 B.2.2.1 (B.2.2.1 / 3 + 1) (g : Int) 1 (zb_c2m C l a') = _ from g1, Option.bind_some, hx1, e]
  clear hx1
  have s2 : ∀ q, lp (fn_236_5 (zb_ov (zb_hP H g)) (R 77 (zb_bb l + 1 + 1)) R) (zb_rf R H g 0) = some q → fn_236 (zb_ov (zb_hP H g)) (R 77 (zb_bb l + 1 + 1)) R = some q := fun q e => by
    unfold fn_236
    rw [show fn_189 (zb_ov (zb_hP H g)) 0 R = _ from g2, Option.bind_some, e]
  rcases zb_tsr (M := zb_c2m C l a') (a := (g : Int)) (b := zb_ov (zb_hP H g)) hr0 (zb_pc_444 h) v2 (zb_c2o (by decide) (by decide)) (zb_c2o (by decide) (by decide)) (zb_hE H g) _ _ u1 u4 u3 with ⟨t1, t2⟩ | ⟨e, t0, t1, t2⟩
  · refine zb_pr_same h rfl (by decide) ?_ ?_ zb_fal_vr
    · rw [hc, s1 _ t1, Option.bind_some, if_neg (fun z => z rfl), Option.bind_some]
    · rw [hr, s2 _ t2, Option.bind_some, if_neg (fun z => z rfl), if_neg (fun z => z rfl)]; rfl
  · have he := u3 e t0
    have hbe := zb_hr_h hr0 he.1
    have hnf : zb_nf (zb_hK H e) (zb_hZ H e) = 3 := by rw [he.2]; rfl
    obtain ⟨f1, f2, f3⟩ := zb_fld_get (a' := a') (j := 1) h he.1 (by omega) (by rw [he.2]; unfold zb_isl; omega)
    have hci : zb_ci (zb_hK H e) 1 = 2 := by rw [he.2]; rfl
    rw [hci] at f1
    refine zb_pr_same h rfl (by decide) ?_ ?_ f3
    · rw [hc, s1 _ t1, Option.bind_some, if_pos (by omega), show fn_78 B.2.2.1 (B.2.2.1 / 3 + 1) (e : Int) 2 (zb_c2m C l a') = _ from f1, Option.bind_some, Option.bind_some]
    · rw [hr, s2 _ t2, Option.bind_some, if_neg (fun z => z rfl), if_pos zb_ovn, show fn_189 (zb_ov (zb_hP H e)) 1 R = _ from f2, Option.bind_some]; rfl
theorem zb_prim_tsize (h : zb_PCX B C R H rl ql fd fu r l p n Z sp0 zb_sp) (hp : p = 28) : zb_PRES B Q Z sp0 zb_sp C R l n a' := by
  by_cases hn : zb_arl.getD p 0 = n
  rotate_left
  · exact zb_pr_count h hn
  subst hp
  have hn2 : n = 1 := by rw [← hn]; rfl
  subst hn2
  have hl := zb_pc_len h
  have v1 := zb_pc_vr h (j := 0) (by omega)
  simp only [Nat.zero_add, Nat.add_zero, Nat.reduceAdd] at v1
  have hb : 0 ≤ ((zb_bb l + 1 : Nat) : Int) ∧ ((zb_bb l + 1 : Nat) : Int) < 19000 := by omega
  obtain ⟨x, hx⟩ : ∃ x, x = C 35 (9 * (l.length + 1) + 1) := ⟨_, rfl⟩
  have hc : fn_74 B.2.2.1 (B.2.2.1 / 3 + 1) ((l.length + 1 : Nat) : Int) (zb_c2m C l a') = (fn_76 (B.2.2.1 / 3 + 1) x 7 (zb_c2m C l a')).bind fun r1 => if ¬ r1 = 0 then (((fn_78 B.2.2.1 (B.2.2.1 / 3 + 1) (eg_wi x) 2 (zb_c2m C l a')).bind fun r70 => (fn_49 (eg_wi r70) (zb_c2m C l a')).bind fun r73 => some (r73, zb_c2m C l a')).bind (zb_fin74 (l.length + 1))) else some (eg_u (zb_c2m C l a') 44 8 9) := by
    rw [hx, zb_pc_1 (a' := a') (c := 116) h rfl (by decide) (zb_pc_kep h), zb_d75_t, zb_tw9 (fun y => zb_h76b)]
    congr 1; funext r1
    rw [zb_d79_28, zb_bpair, zb_d91_28]
  have hr : fn_226 ((28 : Nat) : Int) ((zb_bb l + 1 : Nat) : Int) R = fn_235 28 (R 77 (zb_bb l + 1)) ((zb_bb l + 1 : Nat) : Int) R := by
    rw [zb_d226_w (by decide) (by decide) (by decide) hb]
    show fn_233_9 28 _ _ R = _
    rw [zb_d233_28, Int.toNat_natCast, zb_bpair]
  unfold fn_235 at hr
  rw [← hx] at v1
  rcases zb_is_ok (k := 7) (M := zb_c2m C l a') h v1 (by omega) (zb_c2o (by decide) (by decide)) with ⟨g, gv, e1, e2, e3, e4, e5, e6, e7⟩ | ⟨e1, e2⟩
  rotate_left
  · have e1' : fn_76 (B.2.2.1 / 3 + 1) x 7 (zb_c2m C l a') = some 0 := e1
    have e2' : fn_223 (R 77 (zb_bb l + 1)) 6 R = some 0 := e2
    refine zb_pr_f (k := 9) h rfl (by decide) (by decide) (Or.inl ?_) ?_
    · rw [hc, e1', Option.bind_some, if_neg (fun z => z rfl)]
    · rw [hr, e2', Option.bind_some, if_neg (fun z => z rfl)]; rfl
  have e4' : fn_76 (B.2.2.1 / 3 + 1) x 7 (zb_c2m C l a') = some 1 := e4
  have e5' : fn_223 (R 77 (zb_bb l + 1)) 6 R = some 1 := e5
  rw [e4', Option.bind_some, if_pos (show ¬ (1 : Int) = 0 by decide), e1, zb_wi_obj e6] at hc
  rw [e5', Option.bind_some, if_pos (by decide), if_neg (fun z => z rfl), e2] at hr
  have hr0 := zb_gs_hr h.1.1.1.1
  obtain ⟨u1, u2, u3, u4, u5⟩ := zb_tab_all hr0 gv.1 e3
  have hzt : zb_hZ H g = 3 := by have := (zb_hr_ob hr0 gv.1).2.2.2.1; rw [e3] at this; unfold zb_szk at this; omega
  have g1 := zb_hr_get hr0 (M := zb_c2m C l a') (zb_c2o (by decide) (by decide)) (zb_c2o (by decide) (by decide)) gv.1 (i := 2) (by omega)
  have g2 := zb_hr_getr hr0 (M := R) rfl rfl rfl gv.1 (j := 0) (by rw [e3]; exact Nat.one_pos)
  have tc := zb_tcount hr0 (a := 28) (b := zb_ov (zb_hP H g)) (e0 := ((zb_bb l + 1 : Nat) : Int)) (zb_hE H g) _ _ 0 u1 u4 u3 (by omega)
  rw [Nat.zero_add] at tc
  have hland : eb_land ((zb_hE H g).length : Int) 4294967295 = ((zb_hE H g).length : Int) := by rw [zb_land_low (by omega)]; omega
  refine zb_pr_same (v := ((zb_hE H g).length : Int)) (w := ((zb_hE H g).length : Int)) h rfl (by decide) ?_ ?_ (Or.inl ⟨by omega, by omega, rfl⟩)
  · rw [hc, show fn_78 B.2.2.1 (B.2.2.1 / 3 + 1) (g : Int) 2 (zb_c2m C l a') = _ from g1, Option.bind_some, u2, zb_wi_n (by omega)]
    unfold fn_49
    rw [hland]; rfl
  · rw [hr, show fn_189 (zb_ov (zb_hP H g)) 0 R = _ from g2, Option.bind_some]
    exact tc
end PRM
section PRM
variable {B : zb_Bs} {Q : zb_Pq} {Z sp0 zb_sp : Nat} {C R C' R' C3 R3 M : eM} {H H' : zb_Hp} {rl ql rl' ql' : List (Nat × Nat)} {fd fd' fu p n : Nat} {l : List zb_Rec} {r : zb_Rec} {a' : Int}
theorem zb_get_app {x : Nat × Nat} {i : Nat} (hi : i < (rl ++ [x]).length) : (i < rl.length ∧ ∃ h : i < rl.length, (rl ++ [x])[i] = rl[i]) ∨ (i = rl.length ∧ (rl ++ [x])[i] = x) := by
  by_cases h : i < rl.length
  · exact Or.inl ⟨h, h, List.getElem_append_left h⟩
  · have hi' : i = rl.length := by simp at hi; omega
    subst hi'
    exact Or.inr ⟨rfl, by simp⟩
set_option maxHeartbeats 1000000 in
theorem zb_gs_fin (g : zb_GS B C R H rl ql fd) {x : Nat × Nat} (hx : zb_vo H x.1 ∧ zb_vo H x.2) (hfp : zb_hK H x.2 = 3 ∧ ∃ d : Nat, zb_cl C H x.2 1 = (d : Int) ∧ B.2.1 55 (d + 2) = 1) (hlt : rl.length + ql.length < 500) :
    zb_GS B (eg_u (eg_u (eg_u C 22 rl.length (17179869184 + (x.1 : Int))) 23 rl.length (17179869184 + (x.2 : Int))) 21 2 ((rl.length + 1 : Nat) : Int)) (eg_u (eg_u (eg_u R 73 rl.length (zb_ov (zb_hP H x.1))) 74 rl.length (zb_ov (zb_hP H x.2))) 45 45 ((rl.length + 1 : Nat) : Int)) H (rl ++ [x]) ql fd := by
  obtain ⟨C4, hC4⟩ : ∃ X, X = eg_u (eg_u (eg_u C 22 rl.length (17179869184 + (x.1 : Int))) 23 rl.length (17179869184 + (x.2 : Int))) 21 2 ((rl.length + 1 : Nat) : Int) := ⟨_, rfl⟩
  obtain ⟨R4, hR4⟩ : ∃ X, X = eg_u (eg_u (eg_u R 73 rl.length (zb_ov (zb_hP H x.1))) 74 rl.length (zb_ov (zb_hP H x.2))) 45 45 ((rl.length + 1 : Nat) : Int) := ⟨_, rfl⟩
  rw [← hC4, ← hR4]
  obtain ⟨g1, g2, g3, ⟨L, B', g4⟩, g5, g6, g7, g8, g9⟩ := g
  have hc : ∀ c, c ≠ 21 → c ≠ 22 → c ≠ 23 → C4 c = C c := fun c a b d => by rw [hC4, eg_u_ne a, eg_u_ne d, eg_u_ne b]
  have hr : ∀ c, c ≠ 45 → c ≠ 73 → c ≠ 74 → R4 c = R c := fun c a b d => by rw [hR4, eg_u_ne a, eg_u_ne d, eg_u_ne b]
  have hr45 : ∀ f, f ≠ 45 → R4 45 f = R 45 f := fun f hf => by rw [hR4, eg_u_nj (by omega), eg_u_ne (by decide), eg_u_ne (by decide)]
  have hc21 : ∀ f, f ≠ 2 → C4 21 f = C 21 f := fun f hf => by rw [hC4, eg_u_nj (by omega), eg_u_ne (by decide), eg_u_ne (by decide)]
  have c22 : ∀ i, C4 22 i = if i = rl.length then 17179869184 + (x.1 : Int) else C 22 i := fun i => by
    rw [hC4, eg_u_ne (by decide), eg_u_ne (by decide)]
    by_cases he : i = rl.length
    · rw [if_pos he, he, eg_u_eq]
    · rw [if_neg he, eg_u_nj (fun z => he z.2)]
  have c23 : ∀ i, C4 23 i = if i = rl.length then 17179869184 + (x.2 : Int) else C 23 i := fun i => by
    rw [hC4, eg_u_ne (by decide)]
    by_cases he : i = rl.length
    · rw [if_pos he, he, eg_u_eq]
    · rw [if_neg he, eg_u_nj (fun z => he z.2), eg_u_ne (by decide)]
  have r73 : ∀ i, R4 73 i = if i = rl.length then zb_ov (zb_hP H x.1) else R 73 i := fun i => by
    rw [hR4, eg_u_ne (by decide), eg_u_ne (by decide)]
    by_cases he : i = rl.length
    · rw [if_pos he, he, eg_u_eq]
    · rw [if_neg he, eg_u_nj (fun z => he z.2)]
  have r74 : ∀ i, R4 74 i = if i = rl.length then zb_ov (zb_hP H x.2) else R 74 i := fun i => by
    rw [hR4, eg_u_ne (by decide)]
    by_cases he : i = rl.length
    · rw [if_pos he, he, eg_u_eq]
    · rw [if_neg he, eg_u_nj (fun z => he z.2), eg_u_ne (by decide)]
  obtain ⟨⟨f1, f2, f3, f4, f5, f6, f7⟩, f8, f9, f10, f11, f12⟩ := g2
  refine ⟨zb_hr_congr g1 (fun f _ => by rw [hc 15 (by decide) (by decide) (by decide)]) (fun c h => hc c (by revert h; simp; omega) (by revert h; simp; omega) (by revert h; simp; omega)) (fun f hf => hr45 f (by revert hf; simp; omega)) (fun c h => hr c (by revert h; simp; omega) (by revert h; simp; omega) (by revert h; simp; omega)),
    ⟨⟨?_, ?_, by rw [hc21 5 (by decide)]; exact f3, f4, by rw [hc21 6 (by decide)]; exact f5, by rw [hr45 48 (by decide)]; exact f6, by simp only [List.length_append, List.length_singleton]; omega⟩, ?_, ?_, ?_, ?_, ?_⟩,
    zb_rows_congr g3 (fun c h => hc c (by revert h; simp; omega) (by revert h; simp; omega) (by revert h; simp; omega)) (fun c h => hr c (by revert h; simp; omega) (by revert h; simp; omega) (by revert h; simp; omega)),
    ⟨L, B', zb_nm_congr g4 (hc 1 (by decide) (by decide) (by decide)) (hc 2 (by decide) (by decide) (by decide)) (hc 3 (by decide) (by decide) (by decide)) (hr45 7 (by decide)) (hr 47 (by decide) (by decide) (by decide)) (hr 48 (by decide) (by decide) (by decide))⟩, fun m hm => ?_, by rw [hc 38 (by decide) (by decide) (by decide), hr45 43 (by decide)]; exact g6, zb_out_congr g7 (hc 26 (by decide) (by decide) (by decide)) (hc 27 (by decide) (by decide) (by decide)) (hr45 72 (by decide)) (hr 86 (by decide) (by decide) (by decide)), fun y hy => ?_, by rw [hc 15 (by decide) (by decide) (by decide)]; exact g9.1, fun h hh => by rw [hc 15 (by decide) (by decide) (by decide), hc 20 (by decide) (by decide) (by decide)]; exact g9.2 h hh⟩
  · rw [hC4, eg_u_eq]; simp
  · rw [hR4, eg_u_eq]; simp
  · intro i hi
    rw [Nat.zero_add, c22, c23]
    rcases zb_get_app hi with ⟨h, h', e⟩ | ⟨h, e⟩
    · rw [e, if_neg (by omega), if_neg (by omega)]; have := f8 i h; rw [Nat.zero_add] at this; exact this
    · rw [e, if_pos h, if_pos h]; exact ⟨rfl, rfl⟩
  · intro i hi
    rw [hc 24 (by decide) (by decide) (by decide), hc 25 (by decide) (by decide) (by decide)]; exact f9 i hi
  · intro i hi
    rw [Nat.zero_add, r73, r74]
    rcases zb_get_app hi with ⟨h, h', e⟩ | ⟨h, e⟩
    · rw [e, if_neg (by omega), if_neg (by omega)]; have := f10 i h; rw [Nat.zero_add] at this; exact this
    · rw [e, if_pos h, if_pos h]; exact ⟨rfl, rfl⟩
  · intro i hi
    rw [hr 75 (by decide) (by decide) (by decide), hr 76 (by decide) (by decide) (by decide)]; exact f11 i hi
  · intro y hy
    simp only [List.mem_append, List.mem_singleton] at hy
    rcases hy with (hy | hy) | hy
    · exact f12 y (by simp [hy])
    · rw [hy]; exact hx
    · exact f12 y (by simp [hy])
  · rw [hc 37 (by decide) (by decide) (by decide), hr 72 (by decide) (by decide) (by decide)]; exact g5 m hm
  · unfold zb_cl; rw [hc 16 (by decide) (by decide) (by decide)]
    simp only [List.mem_append, List.mem_singleton] at hy
    rcases hy with (hy | hy) | hy
    · exact g8 y (by simp [hy])
    · rw [hy]; exact hfp
    · exact g8 y (by simp [hy])
end PRM
section PRM
variable {B : zb_Bs} {Q : zb_Pq} {Z sp0 zb_sp : Nat} {C R C' R' C3 R3 M : eM} {H H' : zb_Hp} {rl ql rl' ql' : List (Nat × Nat)} {fd fd' fu p n : Nat} {l : List zb_Rec} {r : zb_Rec} {a' : Int}
theorem zb_nam_at (g : zb_GS B C R H rl ql fd) {h : Nat} (hh : h ∈ zb_hO H) (hk : zb_hK H h = 3) : ∃ d n : Nat, zb_cl C H h 1 = (d : Int) ∧ B.2.1 55 (d + 2) = (n : Int) ∧ fn_77 B.2.2.1 (B.2.2.1 / 3 + 1) (h : Int) C = some (n : Int) ∧ R 64 (zb_hP H h) = (d : Int) ∧ fn_176 (d : Int) R = some ((d + 2 : Nat) : Int) ∧ R 55 (d + 2) = (n : Int) ∧ d + 2 < 20000 ∧ n ≤ 8 := by
  have hr := zb_gs_hr g
  have rw9 := g.2.2.1
  obtain ⟨d, zb_fr, y1, y2, y3, _⟩ := zb_proc_at hr hh hk
  obtain ⟨n', x1, z1, z2, z3, z4, z5, _⟩ := zb_lm_of y1
  have hz : zb_hZ H h = 4 := by have := (zb_hr_ob hr hh).2.2.2.1; rw [hk] at this; unfold zb_szk at this; omega
  refine ⟨d, n', y2, z3, ?_, y3, ?_, by rw [rw9.2.2.2.2.2.2.2]; exact z3, z2, z5⟩
  · have e58 : fn_58 ((d + 2 : Nat) : Int) C = some (n' : Int) := by rw [← z4]; unfold fn_58 fn_58_6; rw [rw9.1.2.1]
    unfold fn_77
    rw [show fn_78 B.2.2.1 (B.2.2.1 / 3 + 1) (h : Int) 1 C = _ from zb_hr_get hr rfl rfl hh (i := 1) (by omega), Option.bind_some, show C 16 (zb_hS H h + 1) = (d : Int) from y2, zb_wi_n (by omega), zb_wi_2 (by omega), e58]; rfl
  · rw [← z1]; unfold fn_176; rw [rw9.2.2.2.1, rw9.2.2.2.2.2.1]
set_option maxHeartbeats 1000000 in
theorem zb_prim_fin (h : zb_PCX B C R H rl ql fd fu r l p n Z sp0 zb_sp) (hp : p = 29) : zb_PRES B Q Z sp0 zb_sp C R l n a' := by
  by_cases hn : zb_arl.getD p 0 = n
  rotate_left
  · exact zb_pr_count h hn
  subst hp
  have hn2 : n = 2 := by rw [← hn]; rfl
  subst hn2
  have hl := zb_pc_len h
  have v1 := zb_pc_vr h (j := 0) (by omega)
  have v2 := zb_pc_vr h (j := 1) (by omega)
  simp only [Nat.zero_add, Nat.add_zero, Nat.reduceAdd] at v1 v2
  have hb : 0 ≤ ((zb_bb l + 1 : Nat) : Int) ∧ ((zb_bb l + 1 : Nat) : Int) < 19000 := by omega
  obtain ⟨x, hx⟩ : ∃ x, x = C 35 (9 * (l.length + 1) + 1) := ⟨_, rfl⟩
  obtain ⟨y, hy⟩ : ∃ y, y = C 35 (9 * (l.length + 1) + 2) := ⟨_, rfl⟩
  have se := zb_pc_se (a' := a') h
  have hr0 := zb_gs_hr se.1.1
  have fl := se.1.2.2.2.1
  have hc := zb_pc_2 (a' := a') (c := 111) (d := 102) h rfl (by decide) (by decide) (zb_pc_kep h)
  rw [← hx, ← hy, zb_d75_o, zb_d75_f] at hc
  have hr : fn_226 ((29 : Nat) : Int) ((zb_bb l + 1 : Nat) : Int) R = fn_234 (R 77 (zb_bb l + 1)) (R 77 (zb_bb l + 1 + 1)) R := by
    rw [zb_d226_w (by decide) (by decide) (by decide) hb]
    show fn_233_9 29 _ _ R = _
    rw [zb_d233_29, zb_wi_1 (by omega), if_pos (by omega), Int.toNat_natCast, Int.toNat_natCast, zb_bpair]
  unfold fn_234 at hr
  rw [← hx] at v1
  rw [← hy] at v2
  rcases zb_VR_ob (zb_pc_444 h) v1 with ⟨g, gv, e1, e2⟩ | ⟨n1, n2, n3, n4⟩
  rotate_left
  · refine zb_pr_f (k := 9) h rfl (by decide) (by decide) (Or.inl ?_) ?_
    · rw [hc, if_pos n1, Option.bind_some, if_neg (fun z => z rfl)]
    · rw [hr]
      unfold fn_201
      by_cases h0 : R 77 (zb_bb l + 1) < 0
      · rw [if_pos h0, Option.bind_some, if_pos rfl]; rfl
      · rw [if_neg h0, if_pos (n2.resolve_left h0), Option.bind_some, if_pos rfl]; rfl
  have hgb := zb_hr_h hr0 gv.1
  have hgp := zb_hr_p hr0 gv.1
  have hg20 : g < 20000 := by omega
  have h201 : fn_201 (R 77 (zb_bb l + 1)) R = some 1 := by
    rw [e2]
    unfold fn_201
    rw [if_neg (by unfold zb_ov; omega), zb_sh32 (k := 6) (by unfold zb_ov; omega) (by unfold zb_ov; omega), if_neg (fun z => z rfl)]
  have hx4 : eb_lshr x 32 = 4 := by rw [e1]; exact zb_sh_obj hg20
  rw [h201, Option.bind_some, if_neg (by decide)] at hr
  rw [if_neg (fun z => z hx4), Option.bind_some, if_pos (show ¬ (1 : Int) = 0 by decide)] at hc
  rcases zb_is_ok (k := 3) (M := zb_c2m C l a') h v2 (by omega) (zb_c2o (by decide) (by decide)) with ⟨q, qv, q1, q2, q3, q4, q5, q6, q7⟩ | ⟨q1, q2⟩
  rotate_left
  · have q1' : fn_76 (B.2.2.1 / 3 + 1) y 3 (zb_c2m C l a') = some 0 := q1
    have q2' : fn_223 (R 77 (zb_bb l + 1 + 1)) 2 R = some 0 := q2
    refine zb_pr_f (k := 9) h rfl (by decide) (by decide) (Or.inl ?_) ?_
    · rw [hc, q1', Option.bind_some, if_pos rfl, Option.bind_some, if_neg (fun z => z rfl)]
    · rw [hr, q2', Option.bind_some, if_pos rfl]; rfl
  have q4' : fn_76 (B.2.2.1 / 3 + 1) y 3 (zb_c2m C l a') = some 1 := q4
  have q5' : fn_223 (R 77 (zb_bb l + 1 + 1)) 2 R = some 1 := q5
  obtain ⟨d, m, d1, d2, d3, d4, d5, d6, d7, d8⟩ := zb_nam_at se.1.1 qv.1 q3
  have hyq : eg_wi y = (q : Int) := by rw [q1]; exact zb_wi_obj q6
  rw [q4', Option.bind_some, if_neg (show ¬ (1 : Int) = 0 by decide), hyq, d3, Option.bind_some] at hc
  clear hyq
  have h187 : fn_187 (R 77 (zb_bb l + 1 + 1)) R = some ((zb_hP H q : Nat) : Int) := by rw [q2]; exact zb_f187 q7
  rw [q5', Option.bind_some, if_neg (show ¬ (1 : Int) = 0 by decide), h187, Option.bind_some, if_pos (show 0 ≤ ((zb_hP H q : Nat) : Int) ∧ ((zb_hP H q : Nat) : Int) < 6700 by omega), Int.toNat_natCast, d4, d5, Option.bind_some, if_pos (show 0 ≤ ((d + 2 : Nat) : Int) ∧ ((d + 2 : Nat) : Int) < 20100 by omega), Int.toNat_natCast, d6] at hr
  by_cases hm : (m : Int) = 1
  rotate_left
  · refine zb_pr_f (k := 9) h rfl (by decide) (by decide) (Or.inl ?_) ?_
    · rw [hc, if_pos hm, Option.bind_some, if_neg (fun z => z rfl)]
    · rw [hr, if_neg hm]; rfl
  rw [if_neg (fun z => z hm), Option.bind_some, if_pos (show ¬ (1 : Int) = 0 by decide), zb_d79_29] at hc
  rw [if_pos hm] at hr
  have zb_fr := se.1.1.2.1
  obtain ⟨⟨f1, f2, f3, f4, f5, f6, f7⟩, _⟩ := zb_fr
  have hwc : eg_wi (zb_c2m C l a' 21 2 + zb_c2m C l a' 21 6) = ((rl.length + ql.length : Nat) : Int) := by rw [f1, f5]; exact zb_wi_add (by omega)
  have hwr : eg_wi (R 45 45 + R 45 48) = ((rl.length + ql.length : Nat) : Int) := by rw [f2, f6]; exact zb_wi_add (by omega)
  unfold fn_90 at hc
  rw [hwc, f1, Int.toNat_natCast] at hc
  rw [hwr, f2, Int.toNat_natCast] at hr
  clear hwc hwr
  by_cases hfull : rl.length + ql.length < 500
  rotate_left
  · refine zb_pr_f (k := 11) h rfl (by decide) (by decide) (Or.inr ?_) ?_
    · rw [hc, if_neg (by omega), Option.bind_some, if_pos rfl, Option.bind_some]
      exact zb_fin_f (by rw [eg_u_nj (by decide)]; exact fl.1.2.2.1) eg_u_eq (by decide)
    · rw [hr, if_neg (fun z => z (by omega))]; rfl
  rw [if_pos (show ((rl.length + ql.length : Nat) : Int) < 500 by omega), if_pos (show 0 ≤ (rl.length : Int) ∧ (rl.length : Int) < 500 by omega), Option.bind_some, if_neg (show ¬ (1 : Int) = 0 by decide), Option.bind_some, zb_wi_1 (by omega), e1, q1] at hc
  rw [if_pos (show ¬ ((rl.length + ql.length : Nat) : Int) = 500 by omega), if_pos (show 0 ≤ (rl.length : Int) ∧ (rl.length : Int) < 500 by omega), zb_wi_1 (by omega), e2, q2] at hr
  have g4 := zb_gs_fin (x := (g, q)) se.1.1 ⟨gv, qv⟩ ⟨q3, d, d1, by rw [d2]; exact hm⟩ hfull
  obtain ⟨C4, hC4⟩ : ∃ X, X = eg_u (eg_u (eg_u (zb_c2m C l a') 22 rl.length (17179869184 + (g : Int))) 23 rl.length (17179869184 + (q : Int))) 21 2 ((rl.length + 1 : Nat) : Int) := ⟨_, rfl⟩
  obtain ⟨R4, hR4⟩ : ∃ X, X = eg_u (eg_u (eg_u R 73 rl.length (zb_ov (zb_hP H g))) 74 rl.length (zb_ov (zb_hP H q))) 45 45 ((rl.length + 1 : Nat) : Int) := ⟨_, rfl⟩
  rw [← hC4] at hc g4
  rw [← hR4] at hr g4
  have c4o : ∀ c, c ≠ 21 → c ≠ 22 → c ≠ 23 → C4 c = zb_c2m C l a' c := fun c a b d => by rw [hC4, eg_u_ne a, eg_u_ne d, eg_u_ne b]
  have r4o : ∀ c, c ≠ 45 → c ≠ 73 → c ≠ 74 → R4 c = R c := fun c a b d => by rw [hR4, eg_u_ne a, eg_u_ne d, eg_u_ne b]
  have r4f : ∀ f, f ≠ 45 → R4 45 f = R 45 f := fun f hf => by rw [hR4, eg_u_nj (by omega), eg_u_ne (by decide), eg_u_ne (by decide)]
  have c43 : C4 43 4 = 0 ∧ C4 43 5 = 0 := by rw [c4o 43 (by decide) (by decide) (by decide)]; exact ⟨fl.1.2.1, fl.1.2.2.1⟩
  have c15 : C4 15 11 = 0 ∧ C4 15 12 = 0 := by rw [c4o 15 (by decide) (by decide) (by decide)]; exact ⟨fl.1.2.2.2.1, fl.1.2.2.2.2⟩
  rw [zb_eg_u_id c43.1] at hc
  refine zb_pr_val (C3 := C4) (R3 := eg_u R4 45 70 12884901888) (v := 4294967298) (w := 12884901888) (H' := H) (rl' := rl ++ [(g, q)]) (ql' := ql) (fd' := fd) h (by rw [hc, zb_fin_v c43.2 c43.1 c15.1]) (by rw [zb_pc_222 h rfl (by decide), hr]; rfl) ?_ (Or.inr (Or.inr (Or.inr (Or.inl ⟨rfl, rfl⟩)))) eg_u_eq
  refine zb_se_gs se (zb_gs_congr g4 zb_QC_rfl (zb_QR_45 zb_QR_rfl (by decide))) (fun c hc => c4o c (by revert hc; simp; omega) (by revert hc; simp; omega) (by revert hc; simp; omega)) (by rw [c4o 44 (by decide) (by decide) (by decide)]; exact ⟨rfl, rfl, rfl⟩) c43 c15 (fun c hc => by rw [eg_u_ne (by revert hc; simp; omega), r4o c (by revert hc; simp; omega) (by revert hc; simp; omega) (by revert hc; simp; omega)]) (fun f hf => by rw [eg_u_nj (by revert hf; simp; omega), r4f f (by revert hf; simp; omega)]) ?_ (fun g hg => zb_trg_rfl hg)
  refine zb_bud_le se.2.2.1.2.2.2 ?_ ?_
  · rw [eg_u_nj (by decide), r4f 42 (by decide)]
  · rw [eg_u_nj (by decide), r4f 67 (by decide)]; exact Int.le_refl _
end PRM
section PRM
variable {B : zb_Bs} {Q : zb_Pq} {Z sp0 zb_sp : Nat} {C R C' R' C3 R3 M : eM} {H H' : zb_Hp} {rl ql rl' ql' : List (Nat × Nat)} {fd fd' fu p n : Nat} {l : List zb_Rec} {r : zb_Rec} {a' : Int}
set_option maxHeartbeats 2000000 in
theorem zb_prim_gc (h : zb_PCX B C R H rl ql fd fu r l 31 n Z sp0 zb_sp) (ha : 0 ≤ a') : zb_PRES B Q Z sp0 zb_sp C R l n a' := by
  by_cases hn : zb_arl.getD 31 0 = n
  rotate_left
  · exact zb_pr_count h hn
  have hn0 : n = 0 := hn.symm
  subst hn0
  have hl := zb_pc_len h
  have se := zb_pc_se (a' := a') h
  obtain ⟨⟨g, s2, zb_ct, fl, t1, t2, t3⟩, f, ca, dp⟩ := se
  have hsx := h.1.1
  have hK10 := h.1.2.1
  have hY := h.1.2.2.1
  have hQ1 := h.1.2.2.2.1
  have hsp := h.2.2
  have hfu3 := f.2.2
  obtain ⟨⟨ca1, ca2, ca3⟩, ⟨ca4, ca5, ca6⟩, _⟩ := hsx.1.2.2.1.1
  obtain ⟨⟨so1, so2, so3, so4⟩, ⟨so5, so6⟩, so7, _⟩ := s2.1
  obtain ⟨m, hm⟩ : ∃ m, m = eg_u (eg_u (eg_u (eg_u (zb_c2m C l a') 43 5 1) 44 8 0) 34 (l.length + 1) 0) 30 (l.length + 1) 15 := ⟨_, rfl⟩
  have hc := zb_pc_0 (a' := a') h rfl (zb_pc_kep h)
  rw [zb_d79_31, Option.bind_some] at hc
  have hc9 : fn_74 B.2.2.1 (B.2.2.1 / 3 + 1) ((l.length + 1 : Nat) : Int) (zb_c2m C l a') = some m := by
    rw [hc]
    unfold zb_fin74
    show (if (eg_u (zb_c2m C l a') 43 5 1) 43 5 = 0 then _ else some (eg_u (eg_u (eg_u (eg_u (zb_c2m C l a') 43 5 1) 44 8 ((eg_u (zb_c2m C l a') 43 5 1) 43 4)) 34 (l.length + 1) 0) 30 (l.length + 1) 15)) = _
    rw [eg_u_eq, if_neg (by decide), eg_u_nj (by decide), fl.1.2.1, hm]
  clear hc
  have hCL : zb_CL B.2.2.1 Q (zb_sp : Int) (zb_c2m C l a') = zb_AF B.2.2.1 Q (zb_sp : Int) m := by
    rw [zb_pc_cl h (zb_pc_kep h) (by omega), hc9, Option.bind_some]
  have mo : ∀ c, c ≠ 30 → c ≠ 34 → c ≠ 43 → c ≠ 44 → m c = zb_c2m C l a' c := fun c e1 e2 e3 e4 => by rw [hm, eg_u_ne e1, eg_u_ne e2, eg_u_ne e4, eg_u_ne e3]
  have m44 : ∀ f, f ≠ 8 → m 44 f = zb_c2m C l a' 44 f := fun f hf => by rw [hm, eg_u_ne (by decide), eg_u_ne (by decide), eg_u_nj (by omega), eg_u_ne (by decide)]
  have m8 : m 44 8 = 0 := by rw [hm, eg_u_ne (by decide), eg_u_ne (by decide), eg_u_eq]
  have m43 : m 43 4 = 0 ∧ m 43 5 = 1 := by
    rw [hm, eg_u_ne (by decide), eg_u_ne (by decide), eg_u_ne (by decide), eg_u_eq, eg_u_nj (by decide)]; exact ⟨fl.1.2.1, rfl⟩
  have m15 : m 15 11 = 0 ∧ m 15 12 = 0 := by rw [mo 15 (by decide) (by decide) (by decide) (by decide)]; exact fl.1.2.2.2
  have m7 : m 44 7 = (fu : Int) := by rw [m44 7 (by decide)]; exact f.1
  have m30 : m 30 (l.length + 1) = 15 := by rw [hm, eg_u_eq]
  have m34 : m 34 (l.length + 1) = 0 := by rw [hm, eg_u_ne (by decide), eg_u_eq]
  have m30o : ∀ i, i ≠ l.length + 1 → m 30 i = zb_c2m C l a' 30 i := fun i hi => by rw [hm, eg_u_nj (by omega), eg_u_ne (by decide), eg_u_ne (by decide), eg_u_ne (by decide)]
  have m34o : ∀ i, i ≠ l.length + 1 → m 34 i = zb_c2m C l a' 34 i := fun i hi => by rw [hm, eg_u_ne (by decide), eg_u_nj (by omega), eg_u_ne (by decide), eg_u_ne (by decide)]
  have qcm : zb_QC (zb_c2m C l a') m := by rw [hm]; exact zb_QC_u (zb_QC_u (zb_QC_u (zb_QC_u zb_QC_rfl (by decide)) (by decide)) (by decide)) (by decide)
  clear hm
  have hr := zb_f222 (n := 0) (b := zb_bb l) (R := R) (by omega) (show 31 < 34 by decide) h.2.1.2.2
  rw [if_pos (show zb_arl.getD 31 0 = 0 from rfl), if_neg (show ¬ ¬ (31 : Nat) = 31 from fun z => z rfl)] at hr
  have hmor : (m 15 11 = 1 ∧ m 15 12 = 0) ∨ (m 15 11 = 0 ∧ m 43 5 ≠ 0) := Or.inr ⟨m15.1, by rw [m43.2]; decide⟩
  by_cases h100 : 100 ≤ fu
  rotate_left
  · -- too poor
    have h197 : fn_197 R = some (0, eg_u R 45 66 4) := by unfold fn_197; rw [f.2.1, if_neg (by omega)]
    rw [h197, Option.bind_some, if_neg (fun z => z rfl)] at hr
    refine ⟨-1, eg_u (eg_u R 45 66 4) 45 69 4, hr, by decide, ?_⟩
    rw [hCL, zb_af_poor m8 hmor (by rw [m7]; omega), if_neg (by decide)]
    refine Or.inr ⟨_, _, 4, rfl, rfl, H, rl, ql, fd, fu, zb_gs_congr g (zb_QC_u qcm (by decide)) (zb_QR_45 (zb_QR_45 zb_QR_rfl (by decide)) (by decide)), ⟨?_, ?_, hfu3⟩, eg_u_eq, eg_u_eq, by decide, by decide⟩
    · rw [eg_u_nj (by decide)]; exact m7
    · rw [eg_u_nj (by decide), eg_u_nj (by decide)]; exact f.2.1
  obtain ⟨w, hw⟩ : ∃ w, w = zb_pay m := ⟨_, rfl⟩
  have wo : ∀ c, c ≠ 15 → c ≠ 43 → c ≠ 44 → w c = m c := fun c e1 e2 e3 => by rw [hw]; unfold zb_pay; rw [eg_u_ne e2, eg_u_ne e1, eg_u_ne e1, eg_u_ne e3]
  have w44 : ∀ f, f ≠ 7 → w 44 f = m 44 f := fun f hf => by rw [hw]; unfold zb_pay; rw [eg_u_ne (by decide), eg_u_ne (by decide), eg_u_ne (by decide), eg_u_nj (by omega)]
  have w7 : w 44 7 = ((fu - 100 : Nat) : Int) := by rw [hw]; unfold zb_pay; rw [eg_u_ne (by decide), eg_u_ne (by decide), eg_u_ne (by decide), eg_u_eq, m7, zb_wi_100 h100 hfu3]
  have w43 : w 43 4 = 0 ∧ w 43 5 = 0 := by rw [hw]; unfold zb_pay; rw [eg_u_eq, eg_u_nj (by decide), eg_u_ne (by decide), eg_u_ne (by decide), eg_u_ne (by decide)]; exact ⟨m43.1, rfl⟩
  have w15 : w 15 11 = 0 ∧ w 15 12 = 0 := by
    rw [hw]; unfold zb_pay
    refine ⟨?_, ?_⟩
    · rw [eg_u_ne (by decide), eg_u_eq]
    · rw [eg_u_ne (by decide), eg_u_nj (by decide), eg_u_eq]; exact m15.1
  have qcw : zb_QC (zb_c2m C l a') w := by
    rw [hw]; unfold zb_pay
    exact zb_QC_u (zb_QC_15 (zb_QC_15 (zb_QC_f qcm (by rw [m7, zb_wi_100 h100 hfu3]; omega)) (Or.inr rfl)) (Or.inl rfl)) (by decide)
  have cw : ∀ c, c ∈ ([29, 31, 32, 33, 35, 36] : List Nat) → w c = zb_c2m C l a' c := fun c hc => by
    rw [wo c (by revert hc; simp; omega) (by revert hc; simp; omega) (by revert hc; simp; omega), mo c (by revert hc; simp; omega) (by revert hc; simp; omega) (by revert hc; simp; omega) (by revert hc; simp; omega)]
  have w34 : w 34 = m 34 := wo 34 (by decide) (by decide) (by decide)
  have w30 : w 30 = m 30 := wo 30 (by decide) (by decide) (by decide)
  have gw := zb_gs_congr g qcw (zb_QR_rfl (R := R))
  obtain ⟨r0, hr0⟩ : ∃ r0 : zb_Rec, r0 = (10, zb_rD r, 0, 0, 0, zb_rF r) := ⟨_, rfl⟩
  have r0K : zb_rK r0 = 10 := by rw [hr0]; rfl
  have r0Q : zb_rQ r0 = 0 := by rw [hr0]; rfl
  have r0F : zb_rF r0 = zb_rF r := by rw [hr0]; rfl
  have tt0 : zb_tt (r0 :: l) = zb_tt l + 1 := by simp only [zb_tt]; rw [if_neg (by rw [r0K]; decide)]
  have ttr : zb_tt (r :: l) = zb_tt l + 1 := by simp only [zb_tt]; rw [if_neg (by rw [hK10]; decide)]
  have bb0 : zb_bb (r0 :: l) = zb_bb l := by simp only [zb_bb]; rw [r0Q]; rfl
  have bbr : zb_bb (r :: l) = zb_bb l + 1 := by simp only [zb_bb]; rw [hQ1]
  have sw : zb_STR w R H B.2.2.2.1 (r0 :: l) := by
    refine ⟨⟨⟨?_, ?_, by rw [r0Q]; omega, by rw [r0F]; exact so4⟩, ⟨by rw [r0F]; exact so5, so6⟩, fun j hj => by rw [r0Q] at hj; omega, fun z => by rw [r0K] at z; omega⟩, ?_⟩
    · rw [r0F, cw 33 (by decide)]; exact so1
    · rw [r0Q, w34]; exact m34
    · refine zb_str_tr s2.2 (fun i i1 i2 => ⟨by rw [cw 33 (by decide)], by rw [w34]; exact m34o i (by omega), fun j hj => by rw [cw 35 (by decide)]⟩) (fun _ _ => ⟨rfl, rfl⟩) (fun _ _ => rfl) (fun g hg _ => zb_trg_rfl hg)
  have hq : zb_QB w R H 0 := zb_qb_none (by rw [cw 36 (by decide)]; exact fl.2.2) fl.2.1.1 fl.2.1.2.2
  obtain ⟨N, R1, H1, rl1, ql1, k1, k2, k3, k4, k5, k6, k7, k8, k9, k10, k11⟩ := zb_coll (f := 0) (e := 0) 1 gw sw (by simp only [List.length_cons]; omega) (by omega) (by rw [cw 29 (by decide)]; exact t1) (fun z => by omega) (Or.inl rfl) (fun _ => rfl) (by rw [t2, ttr, tt0]) (by rw [t3, bbr, bb0]) (by omega)
    (fun j j1 j2 => by
      have hj : j = zb_bb l := by omega
      refine Or.inr ?_
      rw [hj, h.2.1.2.2, zb_sh32 (k := 5) (by omega) (by omega)]; decide) (by rw [fl.2.1.2.1]; rfl) hq (by rw [f.2.1]; omega)
  rw [hw] at k1
  rw [zb_af_coll (by omega) m8 hmor (by rw [m7]; omega) k1] at hCL
  have nw : ∀ c, c ∉ ([15, 16, 17, 18, 21, 22, 23, 24, 25, 38, 39, 40, 41, 42] : List Nat) → N c = w c := k7.2
  have r1o := k8.2.2
  have r1f := k8.2.1
  have r167 : R1 45 67 = ((fu - 100 : Nat) : Int) := by rw [k8.1, f.2.1, zb_wi_100 h100 hfu3]
  have r153 : R1 45 53 = ((zb_tt l + 1 : Nat) : Int) := by rw [r1f 53 (by decide), t2, ttr]
  have hw1 : eg_wi (R1 45 53 - 1) = (zb_tt l : Int) := by rw [r153, zb_wi_m1 (by omega) (by omega)]; rfl
  obtain ⟨R6, hR6⟩ : ∃ R6, R6 = eg_u (eg_u R1 80 (zb_tt l) (-3)) 45 51 (zb_bb l : Int) := ⟨_, rfl⟩
  have r653 : R6 45 53 = ((zb_tt l + 1 : Nat) : Int) := by rw [hR6, eg_u_nj (by decide), eg_u_ne (by decide)]; exact r153
  have r651 : R6 45 51 = (zb_bb l : Int) := by rw [hR6, eg_u_eq]
  obtain ⟨R5, hR5⟩ : ∃ R5, R5 = eg_u (eg_u (eg_u (eg_u (eg_u (eg_u R6 78 (zb_tt l + 1) 12) 79 (zb_tt l + 1) 0) 82 (zb_tt l + 1) (-1)) 80 (zb_tt l + 1) 0) 81 (zb_tt l + 1) (zb_bb l : Int)) 45 53 ((zb_tt l + 2 : Nat) : Int) := ⟨_, rfl⟩
  have e209 : fn_209 12 0 (-1) 0 R6 = some R5 := by
    unfold fn_209
    rw [r653, r651, if_pos (by clear hw1; omega), Int.toNat_natCast, show eg_wb (eg_wb 12) = 12 by decide, zb_wi_1 (by clear hw1; omega), hR5]
  rw [k2, Option.bind_some, if_pos (show ¬ (1 : Int) = 0 by decide)] at hr
  have hr9 : fn_222 ((zb_bb l : Nat) : Int) ((0 : Nat) : Int) R = some (3, R5) := by
    rw [hr]
    show (if 0 ≤ (eg_wi ((R1 45 53) - 1)) ∧ (eg_wi ((R1 45 53) - 1)) < 4400 then (fn_209 12 0 (-1) 0 (eg_u (eg_u R1 80 (eg_wi ((R1 45 53) - 1)).toNat (-3)) 45 51 (zb_bb l : Int))).bind fun m30 => some (3, m30) else none) = _
    rw [hw1, if_pos (by clear hw1; omega), Int.toNat_natCast, ← hR6, e209]; rfl
  clear hw1 hr
  have r5o : ∀ c, c ∉ ([45, 78, 79, 80, 81, 82] : List Nat) → R5 c = R1 c := fun c hc => by
    have : c ≠ 45 ∧ c ≠ 78 ∧ c ≠ 79 ∧ c ≠ 80 ∧ c ≠ 81 ∧ c ≠ 82 := by revert hc; simp
    obtain ⟨a1, a2, a3, a4, a5, a6⟩ := this
    rw [hR5, hR6, eg_u_ne a1, eg_u_ne a5, eg_u_ne a4, eg_u_ne a6, eg_u_ne a3, eg_u_ne a2, eg_u_ne a1, eg_u_ne a4]
  have r5f : ∀ f, f ≠ 51 → f ≠ 53 → R5 45 f = R1 45 f := fun f a b => by
    rw [hR5, hR6, eg_u_nj (by omega), eg_u_ne (by decide), eg_u_ne (by decide), eg_u_ne (by decide), eg_u_ne (by decide), eg_u_ne (by decide), eg_u_nj (by omega), eg_u_ne (by decide)]
  have r551 : R5 45 51 = (zb_bb l : Int) := by
    rw [hR5, eg_u_nj (by decide), eg_u_ne (by decide), eg_u_ne (by decide), eg_u_ne (by decide), eg_u_ne (by decide), eg_u_ne (by decide)]; exact r651
  have r553 : R5 45 53 = ((zb_tt l + 2 : Nat) : Int) := by rw [hR5, eg_u_eq]
  have rlow : ∀ c t, c ∈ ([78, 79, 81, 82] : List Nat) → t ≤ zb_tt l → R5 c t = R1 c t := fun c t hc ht => by
    have : c ≠ 45 ∧ c ≠ 80 := by revert hc; simp; omega
    rw [hR5, hR6, eg_u_nj (by omega), eg_u_nj (by omega), eg_u_nj (by omega), eg_u_nj (by omega), eg_u_nj (by omega), eg_u_nj (by omega), eg_u_nj (by omega), eg_u_nj (by omega)]
  have r80 : ∀ t, t < zb_tt l → R5 80 t = R1 80 t := fun t ht => by
    rw [hR5, hR6, eg_u_nj (by omega), eg_u_nj (by omega), eg_u_nj (by omega), eg_u_nj (by omega), eg_u_nj (by omega), eg_u_nj (by omega), eg_u_nj (by omega), eg_u_nj (by omega)]
  have r80t : R5 80 (zb_tt l) = -3 := by
    rw [hR5, hR6, eg_u_ne (by decide), eg_u_ne (by decide), eg_u_nj (by omega), eg_u_ne (by decide), eg_u_ne (by decide), eg_u_ne (by decide), eg_u_ne (by decide), eg_u_eq]
  have r78t : R5 78 (zb_tt l + 1) = 12 := by
    rw [hR5, eg_u_ne (by decide), eg_u_ne (by decide), eg_u_ne (by decide), eg_u_ne (by decide), eg_u_ne (by decide), eg_u_eq]
  have r82t : R5 82 (zb_tt l + 1) = -1 := by
    rw [hR5, eg_u_ne (by decide), eg_u_ne (by decide), eg_u_ne (by decide), eg_u_eq]
  have r81t : R5 81 (zb_tt l + 1) = (zb_bb l : Int) := by
    rw [hR5, eg_u_ne (by decide), eg_u_eq]
  have qr5 : zb_QR2 R1 R5 := by
    rw [hR5, hR6]
    exact zb_QR_45 (zb_QR_u (zb_QR_u (zb_QR_u (zb_QR_u (zb_QR_u (zb_QR_45 (zb_QR_u zb_QR_rfl (by decide)) (by decide)) (by decide)) (by decide)) (by decide)) (by decide)) (by decide)) (by decide)
  clear hR5 hR6 e209 k1
  obtain ⟨r6, hr6⟩ : ∃ r6 : zb_Rec, r6 = (16, zb_rD r, a'.toNat, -3, 0, zb_rF r) := ⟨_, rfl⟩
  have r6K : zb_rK r6 = 16 := by rw [hr6]; rfl
  have r6D : zb_rD r6 = zb_rD r := by rw [hr6]; rfl
  have r6A : zb_rA r6 = a'.toNat := by rw [hr6]; rfl
  have r6Y : zb_rY r6 = -3 := by rw [hr6]; rfl
  have r6Q : zb_rQ r6 = 0 := by rw [hr6]; rfl
  have r6F : zb_rF r6 = zb_rF r := by rw [hr6]; rfl
  have tt6 : zb_tt (r6 :: l) = zb_tt l + 2 := by simp only [zb_tt]; rw [if_pos r6K]
  have bb6 : zb_bb (r6 :: l) = zb_bb l := by simp only [zb_bb]; rw [r6Q]; rfl
  have nb6 : zb_nb (r6 :: l) = zb_nb (r :: l) := by simp only [zb_nb]; rw [if_neg (by rw [r6K]; decide), if_neg (by rw [hK10]; decide)]
  have nc6 : zb_nc (r6 :: l) = zb_nc l := zb_nc_ne (by rw [r6K]; decide)
  obtain ⟨⟨⟨p1, p2, p3, p4⟩, ⟨p5, p6⟩, p7, p8⟩, p9⟩ := k4
  have sx : zb_SX B N R5 H1 rl1 ql1 fd (r6 :: l) (fu - 100) := by
    refine ⟨⟨zb_gs_congr k3 zb_QC_rfl qr5, ⟨⟨⟨?_, ?_, by rw [r6Q]; omega, ?_⟩, ⟨?_, ?_⟩, fun j hj => by rw [r6Q] at hj; omega, fun _ => ⟨r82t, r81t⟩⟩, ?_⟩, ⟨⟨⟨?_, ?_, ?_⟩, ⟨?_, fun _ => ?_, ?_⟩, fun _ => r78t⟩, ?_⟩, ⟨⟨?_, ?_, ?_, ?_, ?_⟩, ⟨?_, ?_, ?_⟩, fun i hi => ?_⟩, ⟨?_, ?_, ?_⟩⟩, ⟨?_, ?_, by omega⟩, ⟨?_, ?_, ?_, ?_⟩, ?_⟩
    · rw [r6F, ← r0F]; exact p1
    · rw [r6Q]; rw [r0Q] at p2; exact p2
    · rw [r6F, ← r0F]; exact p4
    · rw [rlow 82 _ (by decide) (Nat.le_refl _), r6F, ← r0F]; exact p5
    · rw [rlow 81 _ (by decide) (Nat.le_refl _)]; exact p6
    · exact zb_str_tr p9 (fun i _ _ => ⟨rfl, rfl, fun _ _ => rfl⟩) (fun t ht => ⟨rlow 81 t (by decide) (by omega), rlow 82 t (by decide) (by omega)⟩) (fun b _ => by rw [r5o 77 (by decide)]) (fun g hg _ => zb_trg_rfl hg)
    · rw [nw 30 (by decide), w30, m30, r6K]; rfl
    · rw [nw 31 (by decide), cw 31 (by decide), zb_c2o (by decide) (by decide), r6D]; exact ca2
    · rw [nw 32 (by decide), cw 32 (by decide), r6A]
      unfold zb_c2m
      rw [eg_u_ne (by decide), eg_u_eq]; omega
    · rw [rlow 78 _ (by decide) (Nat.le_refl _), r1o 78 (by decide), ca4, hK10, r6K]; rfl
    · rw [rlow 79 _ (by decide) (Nat.le_refl _), r1o 79 (by decide), r6D]; exact ca5 (by rw [hK10]; decide)
    · rw [r80t, r6Y]
    · refine zb_ctl_tr zb_ct (fun i i1 i2 => ⟨by rw [nw 30 (by decide), w30]; exact m30o i (by omega), by rw [nw 31 (by decide), cw 31 (by decide)], by rw [nw 32 (by decide), cw 32 (by decide)]⟩) (fun t ht => ⟨by rw [rlow 78 t (by decide) (by omega), r1o 78 (by decide)], by rw [rlow 79 t (by decide) (by omega), r1o 79 (by decide)], by rw [r80 t ht, r1o 80 (by decide)]⟩)
    · rw [nw 44 (by decide), w44 8 (by decide)]; exact m8
    · rw [nw 43 (by decide)]; exact w43.1
    · rw [nw 43 (by decide)]; exact w43.2
    · rw [k7.1 11 (by decide) (by decide) (by decide)]; exact w15.1
    · rw [k7.1 12 (by decide) (by decide) (by decide)]; exact w15.2
    · rw [r5f 59 (by decide) (by decide), r1f 59 (by decide)]; exact fl.2.1.1
    · rw [r5f 62 (by decide) (by decide), r1f 62 (by decide)]; exact fl.2.1.2.1
    · rw [r5f 63 (by decide) (by decide), r1f 63 (by decide)]; exact fl.2.1.2.2
    · rw [nw 36 (by decide), cw 36 (by decide)]; exact fl.2.2 i hi
    · rw [nw 29 (by decide), cw 29 (by decide)]; exact t1
    · rw [r553, tt6]
    · rw [r551, bb6]
    · rw [nw 44 (by decide)]; exact w7
    · rw [r5f 67 (by decide) (by decide)]; exact r167
    · rw [nw 44 (by decide), w44 10 (by decide), m44 10 (by decide), nb6]; exact ca.1
    · rw [r5f 68 (by decide) (by decide), r1f 68 (by decide), nb6]; exact ca.2.1
    · rw [nb6]; exact ca.2.2.1
    · refine zb_bud_le ca.2.2.2 (by rw [r5f 42 (by decide) (by decide), r1f 42 (by decide)]) ?_
      rw [r5f 67 (by decide) (by decide), r167, f.2.1, nc6]; omega
    · refine ⟨⟨?_, ?_⟩, dp.2⟩
      · have := dp.1.1
        rw [nb6]
        unfold zb_dd at this ⊢
        rw [if_neg (by rw [hK10]; decide)] at this
        rw [if_neg (by rw [r6K]; decide), r6D]; exact this
      · have := dp.1.2
        unfold zb_dd at this ⊢
        rw [if_neg (by rw [hK10]; decide)] at this
        rw [if_neg (by rw [r6K]; decide), r6D]; exact this
  refine ⟨3, R5, hr9, by decide, ?_⟩
  rw [hCL, if_pos rfl]
  refine Or.inl ⟨N, R5, H1, rl1, ql1, fd, r6 :: l, fu - 100, zb_sp + 1, 1, rfl, rfl, sx, Or.inr ⟨rfl, r6, l, rfl, ⟨r6Q, Or.inl (Or.inr ⟨r6K, r6Y⟩)⟩, h.1.2.2.2.2⟩, by omega, ?_⟩
  simp only [List.length_cons]; omega
end PRM
