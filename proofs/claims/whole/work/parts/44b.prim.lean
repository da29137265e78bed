section PRM
variable {B : zb_Bs} {Q : zb_Pq} {Z sp0 zb_sp : Nat} {C R C' R' C3 R3 M : eM} {H H' : zb_Hp} {rl ql rl' ql' : List (Nat × Nat)} {fd fu p n : Nat} {l : List zb_Rec} {r : zb_Rec} {a' : Int}
theorem zb_wi_rng {x : Int} : -2147483648 ≤ eg_wi x ∧ eg_wi x < 2147483648 := by unfold eg_wi; omega
theorem zb_num_vr {A : Nat → Prop} {q : Nat → Nat} {N : Nat} {x : Int} (h : -2147483648 ≤ x ∧ x < 2147483648) : zb_VR A q N (eb_land x 4294967295) (eb_land x 4294967295) := by
  refine Or.inl ?_
  rw [zb_land_low (by omega)]; omega
theorem zb_tru_vr {A : Nat → Prop} {q : Nat → Nat} {N : Nat} : zb_VR A q N 4294967297 4294967296 := Or.inr (Or.inr (Or.inl ⟨rfl, rfl⟩))
theorem zb_fal_vr {A : Nat → Prop} {q : Nat → Nat} {N : Nat} : zb_VR A q N 4294967296 8589934592 := Or.inr (Or.inl ⟨rfl, rfl⟩)
theorem zb_vr_num {A : Nat → Prop} {q : Nat → Nat} {N : Nat} (hN : N ≤ 444) {v w : Int} (h : zb_VR A q N v w) (hA : ∀ g, A g → g < 20000) (hp : ∀ g, A g → q g < 6700) : (eb_lshr v 32 = 0 ∧ eb_lshr w 32 = 0 ∧ w = v ∧ 0 ≤ v ∧ v < 4294967296) ∨ (eb_lshr v 32 ≠ 0 ∧ eb_lshr w 32 ≠ 0) := by
  have key : ∀ {a b : Int} {k l : Int}, -9223372036854775808 ≤ a ∧ a < 9223372036854775808 → -9223372036854775808 ≤ b ∧ b < 9223372036854775808 → a / 4294967296 = k → b / 4294967296 = l → k ≠ 0 → l ≠ 0 → (eb_lshr a 32 ≠ 0 ∧ eb_lshr b 32 ≠ 0) := by
    intro a b k l ha hb hak hbl h1 h2
    rw [zb_sh32 ha hak, zb_sh32 hb hbl]; exact ⟨h1, h2⟩
  rcases h with ⟨h1, h2, h3⟩ | h | h | h | ⟨n, n1, n2, n3⟩ | ⟨n, n1, n2, n3⟩ | ⟨g, g1, g2, g3⟩
  · left
    rw [h3, zb_sh32 (k := 0) (by omega) (by omega)]; exact ⟨rfl, rfl, rfl, h1, h2⟩
  · exact Or.inr (key (k := 1) (l := 2) (by omega) (by omega) (by omega) (by omega) (by decide) (by decide))
  · exact Or.inr (key (k := 1) (l := 1) (by omega) (by omega) (by omega) (by omega) (by decide) (by decide))
  · exact Or.inr (key (k := 1) (l := 3) (by omega) (by omega) (by omega) (by omega) (by decide) (by decide))
  · exact Or.inr (key (k := 2) (l := 4) (by omega) (by omega) (by omega) (by omega) (by decide) (by decide))
  · exact Or.inr (key (k := 3) (l := 5) (by omega) (by omega) (by omega) (by omega) (by decide) (by decide))
  · have := hA g g1
    have := hp g g1
    exact Or.inr (key (k := 4) (l := 6) (by omega) (by unfold zb_ov at g3; omega) (by omega) (by unfold zb_ov at g3; omega) (by decide) (by decide))
theorem zb_pc_num (h : zb_PCX B C R H rl ql fd fu r l p n Z sp0 zb_sp) {v w : Int} (hv : zb_VR (zb_vo H) (zb_hP H) B.2.2.2.1 v w) : (eb_lshr v 32 = 0 ∧ eb_lshr w 32 = 0 ∧ w = v ∧ 0 ≤ v ∧ v < 4294967296) ∨ (eb_lshr v 32 ≠ 0 ∧ eb_lshr w 32 ≠ 0) :=
  zb_vr_num (zb_gs_N h.1.1.1.1).1 hv (fun g hg => by have := zb_hr_h (zb_gs_hr h.1.1.1.1) hg.1; omega) (fun g hg => zb_hr_p (zb_gs_hr h.1.1.1.1) hg.1)
theorem zb_bpair {x : Option (Int × eM)} : (x.bind fun r => some (r.1, r.2)) = x := by cases x <;> rfl
theorem zb_prim_num (h : zb_PCX B C R H rl ql fd fu r l p n Z sp0 zb_sp) (hp : p < 7) : zb_PRES B Q Z sp0 zb_sp C R l n a' := by
  by_cases hn : zb_arl.getD p 0 = n
  rotate_left
  · exact zb_pr_count h hn
  have har : zb_arl.getD p 0 = 2 := by
    have : p = 0 ∨ p = 1 ∨ p = 2 ∨ p = 3 ∨ p = 4 ∨ p = 5 ∨ p = 6 := by omega
    rcases this with z | z | z | z | z | z | z <;> subst z <;> rfl
  have hn2 : n = 2 := by omega
  subst hn2
  have hst : (zb_srt p).getD 0 0 = 110 ∧ (zb_srt p).getD 1 0 = 110 := by
    have : p = 0 ∨ p = 1 ∨ p = 2 ∨ p = 3 ∨ p = 4 ∨ p = 5 ∨ p = 6 := by omega
    rcases this with z | z | z | z | z | z | z <;> subst z <;> exact ⟨by decide, by decide⟩
  have hl := zb_pc_len h
  have v1 := zb_pc_vr h (j := 0) (by omega)
  have v2 := zb_pc_vr h (j := 1) (by omega)
  simp only [Nat.zero_add, Nat.add_zero, Nat.reduceAdd] at v1 v2
  have hc := zb_pc_2 (a' := a') h har hst.1 hst.2 (zb_pc_kep h)
  simp only [zb_d75_n] at hc
  have hr : fn_226 (p : Int) ((zb_bb l + 1 : Nat) : Int) R = fn_227 (p : Int) (R 77 (zb_bb l + 1)) (R 77 (zb_bb l + 1 + 1)) R := by
    unfold fn_226
    rw [if_neg (by omega), if_pos (by omega), zb_wi_1 (by omega), if_pos (by omega), Int.toNat_natCast, Int.toNat_natCast, zb_bpair]
  have fl := (zb_pc_se (a' := a') h).1.2.2.2.1
  obtain ⟨x, hx⟩ : ∃ x, x = C 35 (9 * (l.length + 1) + 1) := ⟨_, rfl⟩
  obtain ⟨y, hy⟩ : ∃ y, y = C 35 (9 * (l.length + 1) + 2) := ⟨_, rfl⟩
  obtain ⟨x', hx'⟩ : ∃ x', x' = R 77 (zb_bb l + 1) := ⟨_, rfl⟩
  obtain ⟨y', hy'⟩ : ∃ y', y' = R 77 (zb_bb l + 1 + 1) := ⟨_, rfl⟩
  rw [← hx, ← hx'] at v1
  rw [← hy, ← hy'] at v2
  rw [← hx, ← hy] at hc
  rw [← hx', ← hy'] at hr
  rcases zb_pc_num h v1 with ⟨n1, n2, n3, n4, n5⟩ | ⟨n1, n2⟩
  rotate_left
  · refine zb_pr_f (k := 9) h hn (by omega) (by decide) (Or.inl ?_) ?_
    · rw [hc, if_pos n1, Option.bind_some, if_neg (fun z => z rfl)]
    · rw [hr]; unfold fn_227 fn_228 fn_185
      rw [if_pos n2, Option.bind_some, if_pos rfl, Option.bind_some]
  rcases zb_pc_num h v2 with ⟨m1, m2, m3, m4, m5⟩ | ⟨m1, m2⟩
  rotate_left
  · refine zb_pr_f (k := 9) h hn (by omega) (by decide) (Or.inl ?_) ?_
    · rw [hc, if_neg (fun z => z n1), Option.bind_some, if_pos (show ¬ (1 : Int) = 0 by decide), if_pos m1, Option.bind_some, if_neg (fun z => z rfl)]
    · rw [hr]; unfold fn_227 fn_228 fn_185
      rw [if_neg (fun z => z n2), Option.bind_some, if_neg (by decide), if_pos m2, Option.bind_some, if_neg (fun z => z rfl), Option.bind_some]
  rw [if_neg (fun z => z n1), Option.bind_some, if_pos (show ¬ (1 : Int) = 0 by decide), if_neg (fun z => z m1), Option.bind_some, if_pos (show ¬ (1 : Int) = 0 by decide)] at hc
  rw [n3, m3] at hr
  have hr2 : fn_226 (p : Int) ((zb_bb l + 1 : Nat) : Int) R = if p = 3 ∨ p = 4 then fn_227_22 (p : Int) x y (eg_wi x) (eg_wi y) R else fn_227_28 (p : Int) x y (eg_wi x) (eg_wi y) R := by
    rw [hr]; unfold fn_227 fn_228
    rw [if_neg (show ¬ ¬ eb_lshr x 32 = 0 from fun z => z n1), Option.bind_some, if_neg (by decide), if_neg (show ¬ ¬ eb_lshr y 32 = 0 from fun z => z m1), Option.bind_some, if_pos (by decide)]
    by_cases h3 : p = 3
    · rw [if_pos (by omega), if_pos (Or.inl h3)]
    · by_cases h4 : p = 4
      · rw [if_neg (by omega), if_neg (by omega), if_pos (Or.inr h4)]
      · rw [if_neg (by omega), if_pos (by omega), if_neg (by omega)]
  have num : ∀ t : Int, -2147483648 ≤ t ∧ t < 2147483648 → fn_79 B.2.2.1 (B.2.2.1 / 3 + 1) p x y (C 35 (9 * (l.length + 1) + 3)) (zb_c2m C l a') = some (eb_land t 4294967295, zb_c2m C l a') → fn_226 (p : Int) ((zb_bb l + 1 : Nat) : Int) R = some (0, eg_u R 45 70 (eb_land t 4294967295)) → zb_PRES B Q Z sp0 zb_sp C R l 2 a' := by
    intro t ht e1 e2
    refine zb_pr_same h hn (by omega) ?_ e2 (zb_num_vr ht)
    rw [hc, e1, Option.bind_some]
  have boo : ∀ t : Prop, (t → fn_79 B.2.2.1 (B.2.2.1 / 3 + 1) p x y (C 35 (9 * (l.length + 1) + 3)) (zb_c2m C l a') = some (4294967297, zb_c2m C l a') ∧ fn_226 (p : Int) ((zb_bb l + 1 : Nat) : Int) R = some (0, eg_u R 45 70 4294967296)) → (¬ t → fn_79 B.2.2.1 (B.2.2.1 / 3 + 1) p x y (C 35 (9 * (l.length + 1) + 3)) (zb_c2m C l a') = some (4294967296, zb_c2m C l a') ∧ fn_226 (p : Int) ((zb_bb l + 1 : Nat) : Int) R = some (0, eg_u R 45 70 8589934592)) → zb_PRES B Q Z sp0 zb_sp C R l 2 a' := by
    intro t e1 e2
    by_cases ht : t
    · refine zb_pr_same h hn (by omega) ?_ (e1 ht).2 zb_tru_vr
      rw [hc, (e1 ht).1, Option.bind_some]
    · refine zb_pr_same h hn (by omega) ?_ (e2 ht).2 zb_fal_vr
      rw [hc, (e2 ht).1, Option.bind_some]
  have divz : eg_wi y = 0 → (p = 3 ∨ p = 4) → zb_PRES B Q Z sp0 zb_sp C R l 2 a' := by
    intro hz h34
    refine zb_pr_f (k := 10) h hn (by omega) (by decide) (Or.inr ?_) ?_
    · have e79 : fn_79 B.2.2.1 (B.2.2.1 / 3 + 1) p x y (C 35 (9 * (l.length + 1) + 3)) (zb_c2m C l a') = some (4294967298, eg_u (zb_c2m C l a') 43 4 10) := by
        rcases h34 with z | z <;> subst z
        · rw [zb_d79_3]; unfold fn_81; rw [hz, if_neg (fun z => z rfl), Option.bind_some]
        · rw [zb_d79_4]; unfold fn_81; rw [hz, if_neg (fun z => z rfl), Option.bind_some]
      rw [hc, e79, Option.bind_some]
      exact zb_fin_f (k := 10) (by rw [eg_u_nj (by decide)]; exact fl.1.2.2.1) eg_u_eq (by decide)
    · rw [hr2, if_pos h34]; unfold fn_227_22 fn_185
      rw [hz, if_neg (fun z => z rfl), Option.bind_some]
  have hcs : p = 0 ∨ p = 1 ∨ p = 2 ∨ p = 3 ∨ p = 4 ∨ p = 5 ∨ p = 6 := by omega
  rcases hcs with z | z | z | z | z | z | z <;> subst z
  · refine num (eg_wi (eg_wi x + eg_wi y)) zb_wi_rng (by rw [zb_d79_0]; rfl) (by rw [hr2, if_neg (by decide)]; exact zb_d227_0)
  · refine num (eg_wi (eg_wi x - eg_wi y)) zb_wi_rng (by rw [zb_d79_1]; rfl) (by rw [hr2, if_neg (by decide)]; exact zb_d227_1)
  · refine num (eg_wi (eg_wi x * eg_wi y)) zb_wi_rng (by rw [zb_d79_2]; rfl) (by rw [hr2, if_neg (by decide)]; exact zb_d227_2)
  · by_cases hz : eg_wi y = 0
    · exact divz hz (Or.inl rfl)
    · refine num (eg_wi (Int.tdiv (eg_wi x) (eg_wi y))) zb_wi_rng ?_ ?_
      · rw [zb_d79_3]; unfold fn_81 fn_49; rw [if_pos hz, if_pos (by decide), if_neg (fun z => z rfl), if_pos hz, Option.bind_some, Option.bind_some]
      · rw [hr2, if_pos (Or.inl rfl)]; unfold fn_227_22; rw [if_pos hz]
        show fn_227_28 3 x y (eg_wi x) (eg_wi y) R = _
        rw [zb_d227_3, if_pos hz]; rfl
  · by_cases hz : eg_wi y = 0
    · exact divz hz (Or.inr rfl)
    · refine num (eg_wi (eg_wi x - eg_wi (Int.tdiv (eg_wi x) (eg_wi y)) * eg_wi y)) zb_wi_rng ?_ ?_
      · rw [zb_d79_4]; unfold fn_81 fn_49; rw [if_pos hz, if_pos (by decide), if_pos (by decide), if_pos hz, Option.bind_some, Option.bind_some]
      · rw [hr2, if_pos (Or.inr rfl)]; unfold fn_227_22; rw [if_pos hz]
        show fn_227_28 4 x y (eg_wi x) (eg_wi y) R = _
        rw [zb_d227_4, if_pos hz]; rfl
  · have hinj : x = y ↔ eg_wi x = eg_wi y := by
      constructor
      · intro e; rw [e]
      · intro e; unfold eg_wi at e; omega
    refine boo (x = y) (fun e => ⟨?_, ?_⟩) (fun e => ⟨?_, ?_⟩)
    · rw [zb_d79_5, if_neg (fun z => z e)]; rfl
    · rw [hr2, if_neg (by decide)]
      show fn_227_28 5 x y (eg_wi x) (eg_wi y) R = _
      rw [zb_d227_5, if_neg (fun z => z (hinj.mp e))]; rfl
    · rw [zb_d79_5, if_pos e]; rfl
    · rw [hr2, if_neg (by decide)]
      show fn_227_28 5 x y (eg_wi x) (eg_wi y) R = _
      rw [zb_d227_5, if_pos (fun z => e (hinj.mpr z))]; rfl
  · refine boo (¬ eg_wi y ≤ eg_wi x) (fun e => ⟨?_, ?_⟩) (fun e => ⟨?_, ?_⟩)
    · rw [zb_d79_6, if_neg e]; rfl
    · rw [hr2, if_neg (by decide)]
      show fn_227_28 6 x y (eg_wi x) (eg_wi y) R = _
      rw [zb_d227_6, if_neg e]; rfl
    · rw [zb_d79_6, if_pos (Classical.not_not.mp e)]; rfl
    · rw [hr2, if_neg (by decide)]
      show fn_227_28 6 x y (eg_wi x) (eg_wi y) R = _
      rw [zb_d227_6, if_pos (Classical.not_not.mp e)]; rfl
end PRM
section PRM
variable {B : zb_Bs} {Q : zb_Pq} {Z sp0 zb_sp : Nat} {C R C' R' C3 R3 M : eM} {H H' : zb_Hp} {rl ql rl' ql' : List (Nat × Nat)} {fd fu p n : Nat} {l : List zb_Rec} {r : zb_Rec} {a' : Int}
theorem zb_vr_eq {cn N : Nat} {lam : Nat → Prop} {scp : Nat → Nat → Prop} (hr : zb_HR C R H cn N lam scp) (hN : N ≤ 444) {v w v' w' : Int} (h : zb_VR (zb_vo H) (zb_hP H) N v w) (h' : zb_VR (zb_vo H) (zb_hP H) N v' w') : (v = v' ↔ w = w') := by
  have hb : ∀ g, zb_vo H g → g < 20000 := fun g hg => by have := zb_hr_h hr hg.1; omega
  have hpb : ∀ g, zb_vo H g → zb_hP H g < 6700 := fun g hg => zb_hr_p hr hg.1
  rcases h with h | h | h | h | ⟨n, n1, n2, n3⟩ | ⟨n, n1, n2, n3⟩ | ⟨g, g1, g2, g3⟩
  all_goals rcases h' with h' | h' | h' | h' | ⟨m, m1, m2, m3⟩ | ⟨m, m1, m2, m3⟩ | ⟨f, f1, f2, f3⟩
  all_goals first
    | omega
    | (have := hb f f1; have := hpb f f1; unfold zb_ov at f3; omega)
    | (have := hb g g1; have := hpb g g1; unfold zb_ov at g3; omega)
    | skip
  constructor
  · intro e
    have : g = f := by omega
    rw [g3, f3, this]
  · intro e
    rw [g3, f3] at e
    have h9 : zb_hP H g = zb_hP H f := by unfold zb_ov at e; omega
    have := zb_hr_inj hr g1.1 f1.1 h9
    rw [g2, f2, this]
theorem zb_is_ok {k : Nat} (h : zb_PCX B C R H rl ql fd fu r l p n Z sp0 zb_sp) {v w : Int} (hv : zb_VR (zb_vo H) (zb_hP H) B.2.2.2.1 v w) (hk : 1 ≤ k) {M : eM} (h18 : M 18 = C 18) :
    (∃ g, zb_vo H g ∧ v = 17179869184 + (g : Int) ∧ w = zb_ov (zb_hP H g) ∧ zb_hK H g = k ∧ fn_76 (B.2.2.1 / 3 + 1) v (k : Int) M = some 1 ∧ fn_223 w ((k : Int) - 1) R = some 1 ∧ g < 20000 ∧ zb_hP H g < 6700) ∨ (fn_76 (B.2.2.1 / 3 + 1) v (k : Int) M = some 0 ∧ fn_223 w ((k : Int) - 1) R = some 0) := by
  have hr := zb_gs_hr h.1.1.1.1
  have hN := (zb_gs_N h.1.1.1.1).1
  rcases zb_vr_int hN hv (fun g hg => by have := zb_hr_h hr hg.1; omega) (fun g hg => zb_hr_p hr hg.1) with ⟨i, i1, i2, i3⟩ | ⟨_, hcase⟩
  · right
    refine ⟨zb_f76_no ?_, zb_f223_no (Or.inr ?_)⟩
    · rw [i2, zb_sh32 (k := 3) (by omega) (by omega)]; decide
    · rw [i3, zb_sh32 (k := 5) (by omega) (by omega)]; decide
  · rcases hcase with ⟨g, gv, e1, e2⟩ | ⟨n4, n5⟩
    · have hgb := zb_hr_h hr gv.1
      have hgp := zb_hr_p hr gv.1
      have hgk := (zb_hr_k hr gv.1).1
      have hz1 := (zb_nf_le (zb_hr_ob hr gv.1).2.2.2.1).2.2.2.1
      have o1 : R 62 (zb_hP H g) = ((zb_hK H g - 1 : Nat) : Int) := by rw [(zb_hr_ob hr gv.1).1]; omega
      have e76 := zb_f76_ob (M := M) (mo := B.2.2.1 / 3 + 1) (b := (k : Int)) (g := g) (k := zb_hK H g) (by omega) (by omega) (by rw [h18]; exact hgk)
      have e223 := zb_f223_ob (M := R) (b := (k : Int) - 1) hgp o1
      clear o1
      by_cases hkk : zb_hK H g = k
      · left
        refine ⟨g, gv, e1, e2, hkk, ?_, ?_, by omega, hgp⟩
        · rw [e1, e76, if_pos (by omega)]
        · rw [e2, e223, if_pos (by omega)]
      · right
        refine ⟨?_, ?_⟩
        · rw [e1, e76, if_neg (by omega)]
        · rw [e2, e223, if_neg (by omega)]
    · right
      refine ⟨zb_f76_no n4, zb_f223_no ?_⟩
      rcases n5 with z | z
      · exact Or.inl z
      · exact Or.inr z.1
theorem zb_d226_l {b : Int} {M : eM} {p : Int} (h1 : 7 ≤ p) (h2 : p < 20) : fn_226 p b M = fn_230 p b M := by unfold fn_226; rw [if_pos h1, if_neg (by omega), zb_bpair]
theorem zb_d226_w {b : Int} {M : eM} {p : Int} (h1 : 20 ≤ p) (h2 : p < 30) (h25 : p ≠ 25) (hb : 0 ≤ b ∧ b < 19000) : fn_226 p b M = fn_233_9 p b (M 77 b.toNat) M := by
  unfold fn_226 fn_233; rw [if_pos (by omega), if_pos h1, if_neg (by omega), zb_bpair, if_pos h25, if_pos hb]
theorem zb_prim_eq (h : zb_PCX B C R H rl ql fd fu r l 7 n Z sp0 zb_sp) : zb_PRES B Q Z sp0 zb_sp C R l n a' := by
  by_cases hn : zb_arl.getD 7 0 = n
  rotate_left
  · exact zb_pr_count h hn
  have hn2 : n = 2 := hn.symm
  subst hn2
  have hl := zb_pc_len h
  have v1 := zb_pc_vr h (j := 0) (by omega)
  have v2 := zb_pc_vr h (j := 1) (by omega)
  simp only [Nat.zero_add, Nat.add_zero, Nat.reduceAdd] at v1 v2
  have hc := zb_pc_2 (a' := a') (c := 120) (d := 120) h rfl (by decide) (by decide) (zb_pc_kep h)
  simp only [zb_d75_x, Option.bind_some] at hc
  rw [if_pos (by decide), if_pos (by decide), zb_d79_7] at hc
  have hr : fn_226 ((7 : Nat) : Int) ((zb_bb l + 1 : Nat) : Int) R = _ := (zb_d226_l (p := 7) (by decide) (by decide)).trans (zb_d230_7 (by omega))
  rw [zb_wi_1 (by omega), if_pos (by omega), Int.toNat_natCast, Int.toNat_natCast] at hr
  have heq := zb_vr_eq (zb_gs_hr h.1.1.1.1) (zb_gs_N h.1.1.1.1).1 v1 v2
  by_cases ht : C 35 (9 * (l.length + 1) + 1) = C 35 (9 * (l.length + 1) + 2)
  · refine zb_pr_same h hn (by decide) ?_ ?_ zb_tru_vr
    · rw [hc, if_neg (fun z => z ht)]; rfl
    · rw [hr, if_neg (fun z => z (heq.mp ht))]; rfl
  · refine zb_pr_same h hn (by decide) ?_ ?_ zb_fal_vr
    · rw [hc, if_pos ht]; rfl
    · rw [hr, if_pos (fun z => ht (heq.mpr z))]; rfl
theorem zb_prim_pred (h : zb_PCX B C R H rl ql fd fu r l p n Z sp0 zb_sp) (hp : p = 8 ∨ p = 9 ∨ p = 10) : zb_PRES B Q Z sp0 zb_sp C R l n a' := by
  by_cases hn : zb_arl.getD p 0 = n
  rotate_left
  · exact zb_pr_count h hn
  have har : zb_arl.getD p 0 = 1 := by rcases hp with z | z | z <;> subst z <;> rfl
  have hn2 : n = 1 := by omega
  subst hn2
  have hst : (zb_srt p).getD 0 0 = 120 := by rcases hp with z | z | z <;> subst z <;> decide
  have hl := zb_pc_len h
  have v1 := zb_pc_vr h (j := 0) (by omega)
  simp only [Nat.zero_add, Nat.add_zero] at v1
  have hc := zb_pc_1 (a' := a') h har hst (zb_pc_kep h)
  simp only [zb_d75_x, Option.bind_some] at hc
  rw [if_pos (by decide)] at hc
  have hf := zb_gs_false h.1.1.1.1 v1
  have hb : 0 ≤ ((zb_bb l + 1 : Nat) : Int) ∧ ((zb_bb l + 1 : Nat) : Int) < 19000 := by omega
  have boo : ∀ t : Prop, (t → fn_79 B.2.2.1 (B.2.2.1 / 3 + 1) p (C 35 (9 * (l.length + 1) + 1)) (C 35 (9 * (l.length + 1) + 2)) (C 35 (9 * (l.length + 1) + 3)) (zb_c2m C l a') = some (4294967297, zb_c2m C l a') ∧ fn_226 (p : Int) ((zb_bb l + 1 : Nat) : Int) R = some (0, eg_u R 45 70 4294967296)) → (¬ t → fn_79 B.2.2.1 (B.2.2.1 / 3 + 1) p (C 35 (9 * (l.length + 1) + 1)) (C 35 (9 * (l.length + 1) + 2)) (C 35 (9 * (l.length + 1) + 3)) (zb_c2m C l a') = some (4294967296, zb_c2m C l a') ∧ fn_226 (p : Int) ((zb_bb l + 1 : Nat) : Int) R = some (0, eg_u R 45 70 8589934592)) → zb_PRES B Q Z sp0 zb_sp C R l 1 a' := by
    intro t e1 e2
    by_cases ht : t
    · refine zb_pr_same h hn (by omega) ?_ (e1 ht).2 zb_tru_vr
      rw [hc, (e1 ht).1, Option.bind_some]
    · refine zb_pr_same h hn (by omega) ?_ (e2 ht).2 zb_fal_vr
      rw [hc, (e2 ht).1, Option.bind_some]
  rcases hp with z | z | z <;> subst z
  · have hr : fn_226 ((8 : Nat) : Int) ((zb_bb l + 1 : Nat) : Int) R = _ := (zb_d226_l (p := 8) (by decide) (by decide)).trans (zb_d230_8 hb)
    rw [Int.toNat_natCast] at hr
    refine boo (C 35 (9 * (l.length + 1) + 1) = 4294967296) (fun e => ⟨?_, ?_⟩) (fun e => ⟨?_, ?_⟩)
    · rw [zb_d79_8, if_neg (fun z => z e)]; rfl
    · rw [hr, if_neg (fun z => z (hf.1.mp e))]; rfl
    · rw [zb_d79_8, if_pos e]; rfl
    · rw [hr, if_pos (fun z => e (hf.1.mpr z))]; rfl
  · have hr : fn_226 ((9 : Nat) : Int) ((zb_bb l + 1 : Nat) : Int) R = _ := (zb_d226_l (p := 9) (by decide) (by decide)).trans (zb_d230_9 hb)
    rw [Int.toNat_natCast] at hr
    refine boo (C 35 (9 * (l.length + 1) + 1) = 4294967298) (fun e => ⟨?_, ?_⟩) (fun e => ⟨?_, ?_⟩)
    · rw [zb_d79_9, if_neg (fun z => z e)]; rfl
    · rw [hr, if_neg (fun z => z (hf.2.mp e))]; rfl
    · rw [zb_d79_9, if_pos e]; rfl
    · rw [hr, if_pos (fun z => e (hf.2.mpr z))]; rfl
  · have hr : fn_226 ((10 : Nat) : Int) ((zb_bb l + 1 : Nat) : Int) R = _ := (zb_d226_l (p := 10) (by decide) (by decide)).trans (zb_d230_10 hb)
    rw [Int.toNat_natCast] at hr
    rcases zb_is_ok (k := 1) (M := zb_c2m C l a') h v1 (by omega) (zb_c2o (by decide) (by decide)) with ⟨g, _, _, _, _, e1, e2, _⟩ | ⟨e1, e2⟩
    · have e1' : fn_76 (B.2.2.1 / 3 + 1) (C 35 (9 * (l.length + 1) + 1)) 1 (zb_c2m C l a') = some 1 := e1
      have e2' : fn_223 (R 77 (zb_bb l + 1)) 0 R = some 1 := e2
      refine boo True (fun _ => ⟨?_, ?_⟩) (fun z => absurd trivial z)
      · rw [zb_d79_10, e1', Option.bind_some]; rfl
      · rw [hr, e2', Option.bind_some]; rfl
    · have e1' : fn_76 (B.2.2.1 / 3 + 1) (C 35 (9 * (l.length + 1) + 1)) 1 (zb_c2m C l a') = some 0 := e1
      have e2' : fn_223 (R 77 (zb_bb l + 1)) 0 R = some 0 := e2
      refine boo False (fun z => z.elim) (fun _ => ⟨?_, ?_⟩)
      · rw [zb_d79_10, e1', Option.bind_some]; rfl
      · rw [hr, e2', Option.bind_some]; rfl
theorem zb_fld_get (h : zb_PCX B C R H rl ql fd fu r l p n Z sp0 zb_sp) {g j : Nat} (hg : g ∈ zb_hO H) (hj : j < zb_nf (zb_hK H g) (zb_hZ H g)) (hl : ¬ zb_isl (zb_hK H g) j) : fn_78 B.2.2.1 (B.2.2.1 / 3 + 1) (g : Int) ((zb_ci (zb_hK H g) j : Nat) : Int) (zb_c2m C l a') = some (zb_cf C H g j) ∧ fn_189 (zb_ov (zb_hP H g)) (j : Int) R = some (zb_rf R H g j) ∧ zb_VR (zb_vo H) (zb_hP H) B.2.2.2.1 (zb_cf C H g j) (zb_rf R H g j) := by
  have hr := zb_gs_hr h.1.1.1.1
  have hz := (zb_hr_ob hr hg).2.2.2.1
  have hci := zb_nf_ci hz hj
  refine ⟨?_, zb_hr_getr hr rfl rfl rfl hg hj, ((zb_hr_ob hr hg).2.2.2.2.1 j hj).2 hl⟩
  rw [zb_hr_get hr (M := zb_c2m C l a') (zb_c2o (by decide) (by decide)) (zb_c2o (by decide) (by decide)) hg hci.1]
  unfold zb_cf; rw [if_neg hl]
theorem zb_prim_get (h : zb_PCX B C R H rl ql fd fu r l p n Z sp0 zb_sp) (hp : p = 12 ∨ p = 13 ∨ p = 21 ∨ p = 23 ∨ p = 24) : zb_PRES B Q Z sp0 zb_sp C R l n a' := by
  by_cases hn : zb_arl.getD p 0 = n
  rotate_left
  · exact zb_pr_count h hn
  have har : zb_arl.getD p 0 = 1 := by rcases hp with z | z | z | z | z <;> subst z <;> rfl
  have hn2 : n = 1 := by omega
  subst hn2
  have hl := zb_pc_len h
  have v1 := zb_pc_vr h (j := 0) (by omega)
  simp only [Nat.zero_add, Nat.add_zero] at v1
  have hb : 0 ≤ ((zb_bb l + 1 : Nat) : Int) ∧ ((zb_bb l + 1 : Nat) : Int) < 19000 := by omega
  have key : ∀ (k j c : Nat), (hk : 1 ≤ k ∧ k ≤ 8) → (∀ s, zb_szk k s → j < zb_nf k s) → ¬ zb_isl k j → zb_ci k j = c →
      (fn_74 B.2.2.1 (B.2.2.1 / 3 + 1) ((l.length + 1 : Nat) : Int) (zb_c2m C l a') = (fn_76 (B.2.2.1 / 3 + 1) (C 35 (9 * (l.length + 1) + 1)) (k : Int) (zb_c2m C l a')).bind fun r1 => if ¬ r1 = 0 then ((fn_78 B.2.2.1 (B.2.2.1 / 3 + 1) (eg_wi (C 35 (9 * (l.length + 1) + 1))) (c : Int) (zb_c2m C l a')).bind fun r7 => zb_fin74 (l.length + 1) (r7, zb_c2m C l a')) else some (eg_u (zb_c2m C l a') 44 8 9)) →
      (fn_226 (p : Int) ((zb_bb l + 1 : Nat) : Int) R = (fn_223 (R 77 (zb_bb l + 1)) ((k : Int) - 1) R).bind fun r1 => if ¬ r1 = 0 then ((fn_189 (R 77 (zb_bb l + 1)) (j : Int) R).bind fun r2 => some (0, eg_u R 45 70 r2)) else some (-1, eg_u R 45 69 9)) → zb_PRES B Q Z sp0 zb_sp C R l 1 a' := by
    intro k j c hk hjn hnl hcj hc hr
    rcases zb_is_ok (k := k) (M := zb_c2m C l a') h v1 hk.1 (zb_c2o (by decide) (by decide)) with ⟨g, gv, e1, e2, e3, e4, e5, e6, e7⟩ | ⟨e1, e2⟩
    · have hz := (zb_hr_ob (zb_gs_hr h.1.1.1.1) gv.1).2.2.2.1
      obtain ⟨f1, f2, f3⟩ := zb_fld_get (a' := a') (j := j) h gv.1 (by rw [e3] at hz ⊢; exact hjn _ hz) (by rw [e3]; exact hnl)
      rw [e3, hcj] at f1
      refine zb_pr_same h hn (by omega) ?_ ?_ f3
      · rw [hc, e4, Option.bind_some, if_pos (by decide), e1, zb_wi_obj e6, f1, Option.bind_some]
      · rw [hr, e5, Option.bind_some, if_pos (by decide), e2, f2, Option.bind_some]
    · refine zb_pr_f (k := 9) h hn (by omega) (by decide) (Or.inl ?_) ?_
      · rw [hc, e1, Option.bind_some, if_neg (fun z => z rfl)]
      · rw [hr, e2, Option.bind_some, if_neg (fun z => z rfl)]
  have tw : ∀ (x : Option Int) (X : Int → Option eM), (∀ y, x = some y → y = 0 ∨ y = 1) → ((x.bind fun r2 => if r2 = 0 ∨ r2 = 1 then some r2 else none).bind fun r1 => if ¬ r1 = 0 then X r1 else some (eg_u (zb_c2m C l a') 44 8 9)) = x.bind fun r1 => if ¬ r1 = 0 then X r1 else some (eg_u (zb_c2m C l a') 44 8 9) := by
    intro x X hx
    cases x with
    | none => rfl
    | some y => rw [Option.bind_some, if_pos (hx y rfl), Option.bind_some]
  have h76 : ∀ (k : Int) (y : Int), fn_76 (B.2.2.1 / 3 + 1) (C 35 (9 * (l.length + 1) + 1)) k (zb_c2m C l a') = some y → y = 0 ∨ y = 1 := by
    intro k y e
    unfold fn_76 at e
    split at e
    · exact Or.inl (Option.some.inj e).symm
    · split at e
      · split at e
        · exact Or.inl (Option.some.inj e).symm
        · exact Or.inr (Option.some.inj e).symm
      · cases e
  rcases hp with z | z | z | z | z <;> subst z
  · refine key 1 0 1 (by omega) (fun s hs => by unfold zb_szk at hs; simp [zb_nf]) (by unfold zb_isl; omega) rfl ?_ ?_
    · rw [zb_pc_1 (a' := a') (c := 112) h har (by decide) (zb_pc_kep h), zb_d75_p, tw _ _ (h76 1), zb_d79_12, zb_d91_12]
      congr 1; funext r1
      cases fn_78 B.2.2.1 (B.2.2.1 / 3 + 1) (eg_wi (C 35 (9 * (l.length + 1) + 1))) 1 (zb_c2m C l a') <;> rfl
    · rw [zb_d226_l (by decide) (by decide)]
      show fn_230 12 _ R = _
      rw [zb_d230_12 hb, Int.toNat_natCast]
      show (fn_223 (R 77 (zb_bb l + 1)) 0 R).bind _ = (fn_223 (R 77 (zb_bb l + 1)) 0 R).bind _
      congr 1; funext r1
      by_cases h0 : r1 = 0
      · rw [if_pos h0, if_neg (fun z => z h0)]; rfl
      · rw [if_neg h0, if_pos h0]
        show (fn_189 (R 77 (zb_bb l + 1)) 0 R).bind _ = (fn_189 (R 77 (zb_bb l + 1)) 0 R).bind _
        cases fn_189 (R 77 (zb_bb l + 1)) 0 R <;> rfl
  · refine key 1 1 2 (by omega) (fun s hs => by unfold zb_szk at hs; simp [zb_nf]) (by unfold zb_isl; omega) rfl ?_ ?_
    · rw [zb_pc_1 (a' := a') (c := 112) h har (by decide) (zb_pc_kep h), zb_d75_p, tw _ _ (h76 1), zb_d79_13, zb_d91_13]
      congr 1; funext r1
      cases fn_78 B.2.2.1 (B.2.2.1 / 3 + 1) (eg_wi (C 35 (9 * (l.length + 1) + 1))) 2 (zb_c2m C l a') <;> rfl
    · rw [zb_d226_l (by decide) (by decide)]
      show fn_230 13 _ R = _
      rw [zb_d230_13 hb, Int.toNat_natCast]
      show (fn_223 (R 77 (zb_bb l + 1)) 0 R).bind _ = (fn_223 (R 77 (zb_bb l + 1)) 0 R).bind _
      congr 1; funext r1
      by_cases h0 : r1 = 0
      · rw [if_pos h0, if_neg (fun z => z h0)]; rfl
      · rw [if_neg h0, if_pos h0]
        show (fn_189 (R 77 (zb_bb l + 1)) 1 R).bind _ = (fn_189 (R 77 (zb_bb l + 1)) 1 R).bind _
        cases fn_189 (R 77 (zb_bb l + 1)) 1 R <;> rfl
  · refine key 5 0 1 (by omega) (fun s hs => by unfold zb_szk at hs; simp [zb_nf]) (by unfold zb_isl; omega) rfl ?_ ?_
    · rw [zb_pc_1 (a' := a') (c := 119) h har (by decide) (zb_pc_kep h), zb_d75_w, tw _ _ (h76 5), zb_d79_21, zb_d91_21]
      congr 1; funext r1
      cases fn_78 B.2.2.1 (B.2.2.1 / 3 + 1) (eg_wi (C 35 (9 * (l.length + 1) + 1))) 1 (zb_c2m C l a') <;> rfl
    · rw [zb_d226_w (by decide) (by decide) (by decide) hb, Int.toNat_natCast]
      show fn_233_9 21 _ _ R = _
      rw [zb_d233_21]
      show (fn_223 (R 77 (zb_bb l + 1)) 4 R).bind _ = (fn_223 (R 77 (zb_bb l + 1)) 4 R).bind _
      congr 1; funext r1
      by_cases h0 : r1 = 0
      · rw [if_pos h0, if_neg (fun z => z h0)]; rfl
      · rw [if_neg h0, if_pos h0]
        show (fn_189 (R 77 (zb_bb l + 1)) 0 R).bind _ = (fn_189 (R 77 (zb_bb l + 1)) 0 R).bind _
        cases fn_189 (R 77 (zb_bb l + 1)) 0 R <;> rfl
  · refine key 6 0 1 (by omega) (fun s hs => by unfold zb_szk at hs; simp [zb_nf]) (by unfold zb_isl; omega) rfl ?_ ?_
    · rw [zb_pc_1 (a' := a') (c := 101) h har (by decide) (zb_pc_kep h), zb_d75_e, tw _ _ (h76 6), zb_d79_23, zb_d91_23]
      congr 1; funext r1
      cases fn_78 B.2.2.1 (B.2.2.1 / 3 + 1) (eg_wi (C 35 (9 * (l.length + 1) + 1))) 1 (zb_c2m C l a') <;> rfl
    · rw [zb_d226_w (by decide) (by decide) (by decide) hb, Int.toNat_natCast]
      show fn_233_9 23 _ _ R = _
      rw [zb_d233_23]
      show (fn_223 (R 77 (zb_bb l + 1)) 5 R).bind _ = (fn_223 (R 77 (zb_bb l + 1)) 5 R).bind _
      congr 1; funext r1
      by_cases h0 : r1 = 0
      · rw [if_pos h0, if_neg (fun z => z h0)]; rfl
      · rw [if_neg h0, if_pos h0]
        show (fn_189 (R 77 (zb_bb l + 1)) 0 R).bind _ = (fn_189 (R 77 (zb_bb l + 1)) 0 R).bind _
        cases fn_189 (R 77 (zb_bb l + 1)) 0 R <;> rfl
  · refine key 6 1 2 (by omega) (fun s hs => by unfold zb_szk at hs; simp [zb_nf]) (by unfold zb_isl; omega) rfl ?_ ?_
    · rw [zb_pc_1 (a' := a') (c := 101) h har (by decide) (zb_pc_kep h), zb_d75_e, tw _ _ (h76 6), zb_d79_24, zb_d91_24]
      congr 1; funext r1
      cases fn_78 B.2.2.1 (B.2.2.1 / 3 + 1) (eg_wi (C 35 (9 * (l.length + 1) + 1))) 2 (zb_c2m C l a') <;> rfl
    · rw [zb_d226_w (by decide) (by decide) (by decide) hb, Int.toNat_natCast]
      show fn_233_9 24 _ _ R = _
      rw [zb_d233_24]
      show (fn_223 (R 77 (zb_bb l + 1)) 5 R).bind _ = (fn_223 (R 77 (zb_bb l + 1)) 5 R).bind _
      congr 1; funext r1
      by_cases h0 : r1 = 0
      · rw [if_pos h0, if_neg (fun z => z h0)]; rfl
      · rw [if_neg h0, if_pos h0]
        show (fn_189 (R 77 (zb_bb l + 1)) 1 R).bind _ = (fn_189 (R 77 (zb_bb l + 1)) 1 R).bind _
        cases fn_189 (R 77 (zb_bb l + 1)) 1 R <;> rfl
end PRM
section PRM
variable {B : zb_Bs} {Q : zb_Pq} {Z sp0 zb_sp : Nat} {C R C' R' C3 R3 M : eM} {H H' : zb_Hp} {rl ql rl' ql' : List (Nat × Nat)} {fd fd' fu p n : Nat} {l : List zb_Rec} {r : zb_Rec} {a' : Int}
theorem zb_se_gs (h : zb_SE B C R H rl ql fd r l fu) (g : zb_GS B C' R' H' rl' ql' fd') (hc : ∀ c, c ∈ ([29, 30, 31, 32, 33, 34, 35, 36] : List Nat) → C' c = C c) (h44 : C' 44 8 = C 44 8 ∧ C' 44 7 = C 44 7 ∧ C' 44 10 = C 44 10) (h43 : C' 43 4 = 0 ∧ C' 43 5 = 0) (h15 : C' 15 11 = 0 ∧ C' 15 12 = 0) (hr : ∀ c, c ∈ ([77, 78, 79, 80, 81, 82] : List Nat) → R' c = R c) (h45 : ∀ f, f ∈ ([51, 53, 59, 62, 63, 67, 68] : List Nat) → R' 45 f = R 45 f) (hbud : zb_BUD B R' l) (tr : ∀ g, g ∈ zb_hO H → zb_TRg H H' g) : zb_SE B C' R' H' rl' ql' fd' r l fu := by
  obtain ⟨⟨_, s, zb_ct, fl, t1, t2, t3⟩, f, ca, dp⟩ := h
  refine ⟨⟨g, ?_, ?_, ⟨⟨by rw [h44.1]; exact fl.1.1, h43.1, h43.2, h15.1, h15.2⟩, ⟨by rw [h45 59 (by decide)]; exact fl.2.1.1, by rw [h45 62 (by decide)]; exact fl.2.1.2.1, by rw [h45 63 (by decide)]; exact fl.2.1.2.2⟩, fun i hi => by rw [hc 36 (by decide)]; exact fl.2.2 i hi⟩, by rw [hc 29 (by decide)]; exact t1, by rw [h45 53 (by decide)]; exact t2, by rw [h45 51 (by decide)]; exact t3⟩, ⟨by rw [h44.2.1]; exact f.1, by rw [h45 67 (by decide)]; exact f.2.1, f.2.2⟩, ⟨by rw [h44.2.2]; exact ca.1, by rw [h45 68 (by decide)]; exact ca.2.1, ca.2.2.1, hbud⟩, dp⟩
  · exact zb_str_tr s (fun i _ _ => by rw [hc 33 (by decide), hc 34 (by decide), hc 35 (by decide)]; exact ⟨rfl, rfl, fun _ _ => rfl⟩) (fun t _ => by rw [hr 81 (by decide), hr 82 (by decide)]; exact ⟨rfl, rfl⟩) (fun b _ => by rw [hr 77 (by decide)]) (fun g hg _ => tr g hg)
  · exact zb_ctl_tr zb_ct (fun i _ _ => by rw [hc 30 (by decide), hc 31 (by decide), hc 32 (by decide)]; exact ⟨rfl, rfl, rfl⟩) (fun t _ => by rw [hr 78 (by decide), hr 79 (by decide), hr 80 (by decide)]; exact ⟨rfl, rfl, rfl⟩)
theorem zb_pr_put {g j : Nat} {v w : Int} (h : zb_PCX B C R H rl ql fd fu r l p n Z sp0 zb_sp) (hn : zb_arl.getD p 0 = n) (h31 : p ≠ 31) (hg : g ∈ zb_hO H) (hk3 : zb_hK H g ≠ 3) (hj : j < zb_nf (zb_hK H g) (zb_hZ H g)) (hl : ¬ zb_isl (zb_hK H g) j) (hv : zb_VR (zb_vo H) (zb_hP H) B.2.2.2.1 v w)
    (hC3 : C3 = eg_u (zb_c2m C l a') 16 (zb_hS H g + zb_ci (zb_hK H g) j) v ∨ C3 = eg_u (eg_u (zb_c2m C l a') 43 4 0) 16 (zb_hS H g + zb_ci (zb_hK H g) j) v)
    (hc : fn_74 B.2.2.1 (B.2.2.1 / 3 + 1) ((l.length + 1 : Nat) : Int) (zb_c2m C l a') = zb_fin74 (l.length + 1) (4294967298, C3)) (hr : fn_226 (p : Int) ((zb_bb l + 1 : Nat) : Int) R = some (0, eg_u (eg_u R 70 ((zb_hC H (zb_hP H g)).getD j 0) w) 45 70 12884901888)) : zb_PRES B Q Z sp0 zb_sp C R l n a' := by
  have se := zb_pc_se (a' := a') h
  have fl := se.1.2.2.2.1
  have hr0 := zb_gs_hr se.1.1
  have hp3 := zb_hr_put hr0 hg hj hl hv
  have hz := zb_nf_ci (zb_hr_ob hr0 hg).2.2.2.1 hj
  have g1 := zb_gs_put se.1.1 (zb_put_n3 hr0 hg hz.1 hk3) hp3.2.2
  have c3o : ∀ c, c ≠ 16 → c ≠ 43 → C3 c = zb_c2m C l a' c := fun c a b => by
    rcases hC3 with z | z <;> rw [z]
    · rw [eg_u_ne a]
    · rw [eg_u_ne a, eg_u_ne b]
  have c316 : C3 16 = (eg_u (zb_c2m C l a') 16 (zb_hS H g + zb_ci (zb_hK H g) j) v) 16 := by
    rcases hC3 with z | z <;> rw [z]
    funext i
    unfold eg_u
    simp
  have c343 : C3 43 4 = 0 ∧ C3 43 5 = 0 := by
    rcases hC3 with z | z <;> rw [z]
    · rw [eg_u_ne (by decide)]; exact ⟨fl.1.2.1, fl.1.2.2.1⟩
    · rw [eg_u_ne (by decide)]; exact ⟨eg_u_eq, by rw [eg_u_nj (by decide)]; exact fl.1.2.2.1⟩
  have g3 : zb_GS B C3 (eg_u (eg_u R 70 ((zb_hC H (zb_hP H g)).getD j 0) w) 45 70 12884901888) H rl ql fd := by
    refine zb_gs_congr g1 ⟨fun c z1 z2 => ?_, fun f _ _ => ?_, ?_⟩ (zb_QR_45 zb_QR_rfl (by decide))
    · by_cases h16 : c = 16
      · rw [h16]; exact c316
      · rw [c3o c h16 (fun e => z1 (by rw [e]; decide)), eg_u_ne h16]
    · rw [c3o 15 (by decide) (by decide), eg_u_ne (by decide)]
    · rw [c3o 44 (by decide) (by decide), eg_u_ne (by decide)]; exact Int.le_refl _
  have c311 : C3 15 11 = 0 ∧ C3 15 12 = 0 := by rw [c3o 15 (by decide) (by decide)]; exact ⟨fl.1.2.2.2.1, fl.1.2.2.2.2⟩
  refine zb_pr_val (C3 := C3) (R3 := eg_u (eg_u R 70 ((zb_hC H (zb_hP H g)).getD j 0) w) 45 70 12884901888) (H' := H) (rl' := rl) (ql' := ql) (fd' := fd) h (by rw [hc, zb_fin_v c343.2 c343.1 c311.1]) (by rw [zb_pc_222 h hn h31, hr, Option.bind_some]; exact if_pos (show (0 : Int) ≤ 0 from Int.le_refl _)) ?_ zb_vr_nil eg_u_eq
  refine zb_se_gs se g3 (fun c hc => c3o c (by revert hc; simp; omega) (by revert hc; simp; omega)) ⟨by rw [c3o 44 (by decide) (by decide)], by rw [c3o 44 (by decide) (by decide)], by rw [c3o 44 (by decide) (by decide)]⟩ c343 c311 (fun c hc => by rw [eg_u_ne (by revert hc; simp; omega), eg_u_ne (by revert hc; simp; omega)]) (fun f hf => by rw [eg_u_nj (by revert hf; simp; omega), eg_u_ne (by decide)]) (zb_bud_le se.2.2.1.2.2.2 (by rw [eg_u_nj (by decide), eg_u_ne (by decide)]) (by rw [eg_u_nj (by decide), eg_u_ne (by decide)]; exact Int.le_refl _)) (fun g hg => zb_trg_rfl hg)
theorem zb_tw9 {x : Option Int} {X : Int → Option eM} {Y : eM} (hx : ∀ y, x = some y → y = 0 ∨ y = 1) : ((x.bind fun r2 => if r2 = 0 ∨ r2 = 1 then some r2 else none).bind fun r1 => if ¬ r1 = 0 then X r1 else some Y) = x.bind fun r1 => if ¬ r1 = 0 then X r1 else some Y := by
  cases x with
  | none => rfl
  | some y => rw [Option.bind_some, if_pos (hx y rfl), Option.bind_some]
theorem zb_h76b {mo : Nat} {v k y : Int} {M : eM} (e : fn_76 mo v k M = some y) : y = 0 ∨ y = 1 := by
  unfold fn_76 at e
  split at e
  · exact Or.inl (Option.some.inj e).symm
  · split at e
    · split at e
      · exact Or.inl (Option.some.inj e).symm
      · exact Or.inr (Option.some.inj e).symm
    · cases e
theorem zb_prim_setc (h : zb_PCX B C R H rl ql fd fu r l p n Z sp0 zb_sp) (hp : p = 14 ∨ p = 15) : zb_PRES B Q Z sp0 zb_sp C R l n a' := by
  by_cases hn : zb_arl.getD p 0 = n
  rotate_left
  · exact zb_pr_count h hn
  have har : zb_arl.getD p 0 = 2 := by rcases hp with z | z <;> subst z <;> rfl
  have hn2 : n = 2 := by omega
  subst hn2
  have hst : (zb_srt p).getD 0 0 = 112 ∧ (zb_srt p).getD 1 0 = 120 := by rcases hp with z | z <;> subst z <;> exact ⟨by decide, by decide⟩
  have hl := zb_pc_len h
  have v1 := zb_pc_vr h (j := 0) (by omega)
  have v2 := zb_pc_vr h (j := 1) (by omega)
  simp only [Nat.zero_add, Nat.add_zero, Nat.reduceAdd] at v1 v2
  have hb : 0 ≤ ((zb_bb l + 1 : Nat) : Int) ∧ ((zb_bb l + 1 : Nat) : Int) < 19000 := by omega
  have hb2 : 0 ≤ eg_wi (((zb_bb l + 1 : Nat) : Int) + 1) ∧ eg_wi (((zb_bb l + 1 : Nat) : Int) + 1) < 19000 := by rw [zb_wi_1 (by omega)]; omega
  have hb3 : (eg_wi (((zb_bb l + 1 : Nat) : Int) + 1)).toNat = zb_bb l + 1 + 1 := by rw [zb_wi_1 (by omega), Int.toNat_natCast]
  have hc := zb_pc_2 (a' := a') h har hst.1 hst.2 (zb_pc_kep h)
  simp only [zb_d75_p, zb_d75_x, Option.bind_some] at hc
  rw [zb_tw9 (fun y => zb_h76b)] at hc
  have hr : fn_226 (p : Int) ((zb_bb l + 1 : Nat) : Int) R = (fn_223 (R 77 (zb_bb l + 1)) 0 R).bind fun r75 => if ¬ r75 = 0 then ((fn_205 (R 77 (zb_bb l + 1)) ((p : Int) - 14) (R 77 (zb_bb l + 1 + 1)) R).bind fun m81 => some (0, eg_u m81 45 70 12884901888)) else some (-1, eg_u R 45 69 9) := by
    rw [zb_d226_l (by omega) (by omega)]
    rcases hp with z | z <;> subst z
    · show fn_230 14 _ R = _
      rw [zb_d230_14 hb, if_pos hb2, hb3, Int.toNat_natCast]
      clear hb2 hb3
      congr 1
    · show fn_230 15 _ R = _
      rw [zb_d230_15 hb, if_pos hb2, hb3, Int.toNat_natCast]
      clear hb2 hb3
      congr 1
  clear hb2 hb3
  rcases zb_is_ok (k := 1) (M := zb_c2m C l a') h v1 (by omega) (zb_c2o (by decide) (by decide)) with ⟨g, gv, e1, e2, e3, e4, e5, e6, e7⟩ | ⟨e1, e2⟩
  · have e4' : fn_76 (B.2.2.1 / 3 + 1) (C 35 (9 * (l.length + 1) + 1)) 1 (zb_c2m C l a') = some 1 := e4
    have e5' : fn_223 (R 77 (zb_bb l + 1)) 0 R = some 1 := e5
    have hr0 := zb_gs_hr (zb_pc_se (a' := a') h).1.1
    have hz := (zb_hr_ob hr0 gv.1).2.2.2.1
    have hnf : zb_nf (zb_hK H g) (zb_hZ H g) = 2 := by rw [e3]; rfl
    have hnl : ∀ j, ¬ zb_isl (zb_hK H g) j := fun j => by rw [e3]; unfold zb_isl; omega
    have hj : p - 14 < zb_nf (zb_hK H g) (zb_hZ H g) := by rw [hnf]; omega
    have hci : zb_ci (zb_hK H g) (p - 14) = 1 + (p - 14) := by rw [e3]; rfl
    obtain ⟨q1, q2, q3⟩ := zb_hr_put (j := p - 14) hr0 gv.1 hj (hnl _) v2
    refine zb_pr_put (j := p - 14) h hn (by omega) gv.1 (by omega) hj (hnl _) v2 (Or.inl rfl) ?_ ?_
    · rw [hc, e4', Option.bind_some, if_pos (show ¬ (1 : Int) = 0 by decide), if_pos (show ¬ (1 : Int) = 0 by decide), e1]
      have q1' : fn_94 B.2.2.1 (B.2.2.1 / 3 + 1) (eg_wi (17179869184 + (g : Int))) ((1 + (p - 14) : Nat) : Int) (C 35 (9 * (l.length + 1) + 2)) (zb_c2m C l a') = some (eg_u (zb_c2m C l a') 16 (zb_hS H g + zb_ci (zb_hK H g) (p - 14)) (C 35 (9 * (l.length + 1) + 2))) := by rw [zb_wi_obj e6, ← hci]; exact q1
      rcases hp with z | z <;> subst z
      · rw [zb_d79_14, zb_d91_14]
        show ((((fn_94 B.2.2.1 (B.2.2.1 / 3 + 1) (eg_wi (17179869184 + (g : Int))) ((1 + (14 - 14) : Nat) : Int) (C 35 (9 * (l.length + 1) + 2)) (zb_c2m C l a')).bind _).bind _).bind _) = _
        rw [q1']; rfl
      · rw [zb_d79_15, zb_d91_15]
        show ((((fn_94 B.2.2.1 (B.2.2.1 / 3 + 1) (eg_wi (17179869184 + (g : Int))) ((1 + (15 - 14) : Nat) : Int) (C 35 (9 * (l.length + 1) + 2)) (zb_c2m C l a')).bind _).bind _).bind _) = _
        rw [q1']; rfl
    · rw [hr, e5', Option.bind_some, if_pos (show ¬ (1 : Int) = 0 by decide), e2, show (p : Int) - 14 = ((p - 14 : Nat) : Int) by omega, q2, Option.bind_some]
  · have e1' : fn_76 (B.2.2.1 / 3 + 1) (C 35 (9 * (l.length + 1) + 1)) 1 (zb_c2m C l a') = some 0 := e1
    have e2' : fn_223 (R 77 (zb_bb l + 1)) 0 R = some 0 := e2
    refine zb_pr_f (k := 9) h hn (by omega) (by decide) (Or.inl ?_) ?_
    · rw [hc, e1', Option.bind_some, if_neg (fun z => z rfl)]
    · rw [hr, e2', Option.bind_some, if_neg (fun z => z rfl)]
theorem zb_prim_cells (h : zb_PCX B C R H rl ql fd fu r l 32 n Z sp0 zb_sp) : zb_PRES B Q Z sp0 zb_sp C R l n a' := by
  by_cases hn : zb_arl.getD 32 0 = n
  rotate_left
  · exact zb_pr_count h hn
  have hn2 : n = 0 := hn.symm
  subst hn2
  obtain ⟨⟨fl, hs, hH⟩, ⟨fs, fc, hQ⟩, _⟩ := zb_gs_hr h.1.1.1.1
  have hu := hH.1
  have hu2 := hQ.1
  have c6 : zb_c2m C l a' 15 6 = (zb_hU H : Int) := by rw [zb_c2o (by decide) (by decide)]; exact hu.2.2.1
  have hl2 := zb_land_low (x := (zb_hU H : Int)) (by omega)
  refine zb_pr_same (v := (zb_hU H : Int)) (w := (zb_hU H : Int)) h hn (by decide) ?_ ?_ (Or.inl ⟨by omega, by omega, rfl⟩)
  · rw [zb_pc_0 (a' := a') h rfl (zb_pc_kep h), zb_d79_32, c6]
    unfold fn_49
    rw [hl2, Option.bind_some, Option.bind_some, show ((zb_hU H : Int)) % 4294967296 = (zb_hU H : Int) by omega]
  · unfold fn_226 fn_237 fn_229
    rw [if_pos (by decide), if_pos (by decide), if_pos (by decide), if_neg (by decide), Option.bind_some, Option.bind_some, hu2.2.2.1]
end PRM
section PRM
variable {B : zb_Bs} {Q : zb_Pq} {Z sp0 zb_sp : Nat} {C R C' R' C3 R3 M : eM} {H H' : zb_Hp} {rl ql rl' ql' : List (Nat × Nat)} {fd fd' fu p n : Nat} {l : List zb_Rec} {r : zb_Rec} {a' : Int}
theorem zb_pr_same43 {v w : Int} (h : zb_PCX B C R H rl ql fd fu r l p n Z sp0 zb_sp) (hn : zb_arl.getD p 0 = n) (h31 : p ≠ 31) (hc : fn_74 B.2.2.1 (B.2.2.1 / 3 + 1) ((l.length + 1 : Nat) : Int) (zb_c2m C l a') = zb_fin74 (l.length + 1) (v, eg_u (zb_c2m C l a') 43 4 0)) (hr : fn_226 (p : Int) ((zb_bb l + 1 : Nat) : Int) R = some (0, eg_u R 45 70 w)) (hv : zb_VR (zb_vo H) (zb_hP H) B.2.2.2.1 v w) : zb_PRES B Q Z sp0 zb_sp C R l n a' := by
  have se := zb_pc_se (a' := a') h
  have fl := se.1.2.2.2.1
  have c43 : (eg_u (zb_c2m C l a') 43 4 0) 43 4 = 0 ∧ (eg_u (zb_c2m C l a') 43 4 0) 43 5 = 0 := ⟨eg_u_eq, by rw [eg_u_nj (by decide)]; exact fl.1.2.2.1⟩
  have c15 : (eg_u (zb_c2m C l a') 43 4 0) 15 11 = 0 ∧ (eg_u (zb_c2m C l a') 43 4 0) 15 12 = 0 := by rw [eg_u_ne (by decide)]; exact ⟨fl.1.2.2.2.1, fl.1.2.2.2.2⟩
  refine zb_pr_val (C3 := eg_u (zb_c2m C l a') 43 4 0) (R3 := eg_u R 45 70 w) (H' := H) (rl' := rl) (ql' := ql) (fd' := fd) h (by rw [hc, zb_fin_v c43.2 c43.1 c15.1]) (by rw [zb_pc_222 h hn h31, hr, Option.bind_some]; exact if_pos (show (0 : Int) ≤ 0 from Int.le_refl _)) ?_ hv eg_u_eq
  refine zb_se_gs se (zb_gs_congr se.1.1 (zb_QC_u zb_QC_rfl (by decide)) (zb_QR_45 zb_QR_rfl (by decide))) (fun c hc => eg_u_ne (by revert hc; simp; omega)) ⟨by rw [eg_u_ne (by decide)], by rw [eg_u_ne (by decide)], by rw [eg_u_ne (by decide)]⟩ c43 c15 (fun c hc => eg_u_ne (by revert hc; simp; omega)) (fun f hf => eg_u_nj (by revert hf; simp; omega)) (zb_bud_le se.2.2.1.2.2.2 (by rw [eg_u_nj (by decide)]) (by rw [eg_u_nj (by decide)]; exact Int.le_refl _)) (fun g hg => zb_trg_rfl hg)
theorem zb_vec_at (h : zb_PCX B C R H rl ql fd fu r l p n Z sp0 zb_sp) {g : Nat} (hg : g ∈ zb_hO H) (hk : zb_hK H g = 2) : ∃ s : Nat, s ≤ 100 ∧ zb_nf (zb_hK H g) (zb_hZ H g) = s ∧ fn_98 (B.2.2.1 / 3 + 1) (g : Int) (zb_c2m C l a') = some (s : Int) ∧ R 63 (zb_hP H g) = (s : Int) := by
  have hr := zb_gs_hr h.1.1.1.1
  have hz := (zb_hr_ob hr hg).2.2.2.1
  have hlen := (zb_hr_ob hr hg).2.2.1
  have hb := zb_hr_h hr hg
  obtain ⟨_, ⟨fs, fc, hQ⟩, _⟩ := id hr
  have h63 := (hQ.2.2.2.2.2.2.1 (zb_hP H g) (List.mem_map_of_mem hg)).2
  have h19 := (zb_hr_k hr hg).2.1
  refine ⟨zb_hZ H g - 3, ?_, ?_, ?_, ?_⟩
  · unfold zb_szk at hz; omega
  · rw [hk]; rfl
  · unfold fn_98
    rw [if_pos (by omega), Int.toNat_natCast, zb_c2o (by decide) (by decide), h19]
    have : 3 ≤ zb_hZ H g ∧ zb_hZ H g ≤ 103 := by unfold zb_szk at hz; omega
    congr 1
    unfold eg_wi; omega
  · rw [h63, hlen, hk]; rfl
theorem zb_prim_vsize (h : zb_PCX B C R H rl ql fd fu r l 19 n Z sp0 zb_sp) : zb_PRES B Q Z sp0 zb_sp C R l n a' := by
  by_cases hn : zb_arl.getD 19 0 = n
  rotate_left
  · exact zb_pr_count h hn
  have hn2 : n = 1 := hn.symm
  subst hn2
  have hl := zb_pc_len h
  have v1 := zb_pc_vr h (j := 0) (by omega)
  simp only [Nat.zero_add, Nat.add_zero] at v1
  have hb : 0 ≤ ((zb_bb l + 1 : Nat) : Int) ∧ ((zb_bb l + 1 : Nat) : Int) < 19000 := by omega
  have hc := zb_pc_1 (a' := a') (c := 118) h rfl (by decide) (zb_pc_kep h)
  rw [zb_d75_v, zb_tw9 (fun y => zb_h76b), zb_d79_19, zb_d91_19] at hc
  have hr : fn_226 ((19 : Nat) : Int) ((zb_bb l + 1 : Nat) : Int) R = _ := (zb_d226_l (p := 19) (by decide) (by decide)).trans (zb_d230_19 hb)
  rw [Int.toNat_natCast] at hr
  rcases zb_is_ok (k := 2) (M := zb_c2m C l a') h v1 (by omega) (zb_c2o (by decide) (by decide)) with ⟨g, gv, e1, e2, e3, e4, e5, e6, e7⟩ | ⟨e1, e2⟩
  · have e4' : fn_76 (B.2.2.1 / 3 + 1) (C 35 (9 * (l.length + 1) + 1)) 2 (zb_c2m C l a') = some 1 := e4
    have e5' : fn_223 (R 77 (zb_bb l + 1)) 1 R = some 1 := e5
    obtain ⟨s, s1, s2, s3, s4⟩ := zb_vec_at (a' := a') h gv.1 e3
    have hl2 := zb_land_low (x := (s : Int)) (by omega)
    refine zb_pr_same (v := (s : Int)) (w := (s : Int)) h hn (by decide) ?_ ?_ (Or.inl ⟨by omega, by omega, rfl⟩)
    · rw [hc, e4', Option.bind_some, if_pos (show ¬ (1 : Int) = 0 by decide), e1, zb_wi_obj e6, s3]
      unfold fn_49
      rw [Option.bind_some, Option.bind_some, hl2, show (s : Int) % 4294967296 = (s : Int) by omega]
      rfl
    · rw [hr, e5', Option.bind_some, if_neg (by decide), e2, zb_f187 e7, Option.bind_some, if_pos (by omega), Int.toNat_natCast, s4]
      rfl
  · have e1' : fn_76 (B.2.2.1 / 3 + 1) (C 35 (9 * (l.length + 1) + 1)) 2 (zb_c2m C l a') = some 0 := e1
    have e2' : fn_223 (R 77 (zb_bb l + 1)) 1 R = some 0 := e2
    refine zb_pr_f (k := 9) h hn (by decide) (by decide) (Or.inl ?_) ?_
    · rw [hc, e1', Option.bind_some, if_neg (fun z => z rfl)]
    · rw [hr, e2', Option.bind_some, if_pos rfl]; rfl
theorem zb_prim_vec (h : zb_PCX B C R H rl ql fd fu r l p n Z sp0 zb_sp) (hp : p = 17 ∨ p = 18) : zb_PRES B Q Z sp0 zb_sp C R l n a' := by
  by_cases hn : zb_arl.getD p 0 = n
  rotate_left
  · exact zb_pr_count h hn
  have har : zb_arl.getD p 0 = p - 15 := by rcases hp with z | z <;> subst z <;> rfl
  have hn2 : n = p - 15 := by omega
  have hl := zb_pc_len h
  have v1 := zb_pc_vr h (j := 0) (by omega)
  have v2 := zb_pc_vr h (j := 1) (by omega)
  simp only [Nat.zero_add, Nat.add_zero, Nat.reduceAdd] at v1 v2
  have hb : 0 ≤ ((zb_bb l + 1 : Nat) : Int) ∧ ((zb_bb l + 1 : Nat) : Int) < 19000 := by omega
  obtain ⟨x, hx⟩ : ∃ x, x = C 35 (9 * (l.length + 1) + 1) := ⟨_, rfl⟩
  obtain ⟨y, hy⟩ : ∃ y, y = C 35 (9 * (l.length + 1) + 2) := ⟨_, rfl⟩
  have hc : fn_74 B.2.2.1 (B.2.2.1 / 3 + 1) ((l.length + 1 : Nat) : Int) (zb_c2m C l a') = (fn_76 (B.2.2.1 / 3 + 1) x 2 (zb_c2m C l a')).bind fun r1 => if ¬ r1 = 0 then (if ¬ eb_lshr y 32 = 0 then some (eg_u (zb_c2m C l a') 44 8 9) else (fn_79 B.2.2.1 (B.2.2.1 / 3 + 1) p x y (C 35 (9 * (l.length + 1) + 3)) (zb_c2m C l a')).bind (zb_fin74 (l.length + 1))) else some (eg_u (zb_c2m C l a') 44 8 9) := by
    rw [hx, hy]
    rcases hp with z | z <;> subst z
    · have h' := h; rw [hn2] at h'
      rw [zb_pc_2 (a' := a') (c := 118) (d := 110) h' rfl (by decide) (by decide) (zb_pc_kep h'), zb_d75_v, zb_tw9 (fun y => zb_h76b)]
      congr 1; funext r1
      rw [zb_d75_n]
      by_cases hq : eb_lshr (C 35 (9 * (l.length + 1) + 2)) 32 = 0
      · rw [if_neg (show ¬ ¬ eb_lshr (C 35 (9 * (l.length + 1) + 2)) 32 = 0 from fun z => z hq), if_neg (show ¬ ¬ eb_lshr (C 35 (9 * (l.length + 1) + 2)) 32 = 0 from fun z => z hq)]; rfl
      · rw [if_pos (show ¬ eb_lshr (C 35 (9 * (l.length + 1) + 2)) 32 = 0 from hq), if_pos (show ¬ eb_lshr (C 35 (9 * (l.length + 1) + 2)) 32 = 0 from hq)]; rfl
    · have h' := h; rw [hn2] at h'
      rw [zb_pc_3 (a' := a') (c := 118) (d := 110) (g := 120) h' rfl (by decide) (by decide) (by decide) (zb_pc_kep h'), zb_d75_v, zb_tw9 (fun y => zb_h76b)]
      congr 1; funext r1
      rw [zb_d75_n, zb_d75_x]
      by_cases hq : eb_lshr (C 35 (9 * (l.length + 1) + 2)) 32 = 0
      · rw [if_neg (show ¬ ¬ eb_lshr (C 35 (9 * (l.length + 1) + 2)) 32 = 0 from fun z => z hq), if_neg (show ¬ ¬ eb_lshr (C 35 (9 * (l.length + 1) + 2)) 32 = 0 from fun z => z hq)]; rfl
      · rw [if_pos (show ¬ eb_lshr (C 35 (9 * (l.length + 1) + 2)) 32 = 0 from hq), if_pos (show ¬ eb_lshr (C 35 (9 * (l.length + 1) + 2)) 32 = 0 from hq)]; rfl
  have hr : fn_226 (p : Int) ((zb_bb l + 1 : Nat) : Int) R = fn_232 (p : Int) ((zb_bb l + 1 : Nat) : Int) R := by
    rw [zb_d226_l (by omega) (by omega)]
    rcases hp with z | z <;> subst z
    · exact (zb_d230_17 hb).trans zb_bpair
    · exact (zb_d230_18 hb).trans zb_bpair
  unfold fn_232 at hr
  rw [if_pos hb, zb_wi_1 (by omega), if_pos (by omega), Int.toNat_natCast, Int.toNat_natCast] at hr
  rw [← hx] at v1
  rw [← hy] at v2
  have fl := (zb_pc_se (a' := a') h).1.2.2.2.1
  rcases zb_is_ok (k := 2) (M := zb_c2m C l a') h v1 (by omega) (zb_c2o (by decide) (by decide)) with ⟨g, gv, e1, e2, e3, e4, e5, e6, e7⟩ | ⟨e1, e2⟩
  rotate_left
  · have e1' : fn_76 (B.2.2.1 / 3 + 1) x 2 (zb_c2m C l a') = some 0 := e1
    have e2' : fn_223 (R 77 (zb_bb l + 1)) 1 R = some 0 := e2
    refine zb_pr_f (k := 9) h hn (by omega) (by decide) (Or.inl ?_) ?_
    · rw [hc, e1', Option.bind_some, if_neg (fun z => z rfl)]
    · rw [hr, e2', Option.bind_some, if_pos rfl]; rfl
  have e4' : fn_76 (B.2.2.1 / 3 + 1) x 2 (zb_c2m C l a') = some 1 := e4
  have e5' : fn_223 (R 77 (zb_bb l + 1)) 1 R = some 1 := e5
  rw [e4', Option.bind_some, if_pos (show ¬ (1 : Int) = 0 by decide)] at hc
  rw [e5', Option.bind_some, if_neg (by decide)] at hr
  unfold fn_228 at hr
  rcases zb_pc_num h v2 with ⟨m1, m2, m3, m4, m5⟩ | ⟨m1, m2⟩
  rotate_left
  · refine zb_pr_f (k := 9) h hn (by omega) (by decide) (Or.inl ?_) ?_
    · rw [hc, if_pos m1]
    · rw [hr, if_pos m2, Option.bind_some, if_neg (fun z => z rfl)]; rfl
  rw [if_neg (show ¬ ¬ eb_lshr y 32 = 0 from fun z => z m1)] at hc
  rw [if_neg (show ¬ ¬ eb_lshr (R 77 (zb_bb l + 1 + 1)) 32 = 0 from fun z => z m2), Option.bind_some, if_pos (by decide), m3, e2, zb_f187 e7, Option.bind_some, if_pos (show 0 ≤ ((zb_hP H g : Nat) : Int) ∧ ((zb_hP H g : Nat) : Int) < 6700 by omega), Int.toNat_natCast] at hr
  obtain ⟨s, s1, s2, s3, s4⟩ := zb_vec_at (a' := a') h gv.1 e3
  rw [s4] at hr
  have out11 : (eg_wi y < 0 ∨ (s : Int) ≤ eg_wi y) → zb_PRES B Q Z sp0 zb_sp C R l n a' := by
    intro hq
    have h97 : fn_97 (B.2.2.1 / 3 + 1) (eg_wi x) (eg_wi y) (zb_c2m C l a') = some (0, eg_u (zb_c2m C l a') 43 4 11) := by
      unfold fn_97
      by_cases h0 : eg_wi y < 0
      · rw [if_pos h0]
      · rw [if_neg h0, e1, zb_wi_obj e6, s3, Option.bind_some, if_pos (hq.resolve_left h0)]
    refine zb_pr_f (k := 11) h hn (by omega) (by decide) (Or.inr ?_) ?_
    · rw [hc]
      have h79 : fn_79 B.2.2.1 (B.2.2.1 / 3 + 1) p x y (C 35 (9 * (l.length + 1) + 3)) (zb_c2m C l a') = some (4294967298, eg_u (zb_c2m C l a') 43 4 11) := by
        rcases hp with z | z <;> subst z
        · rw [zb_d79_17, zb_d91_17, h97]; rfl
        · rw [zb_d79_18, zb_d91_18, h97]; rfl
      rw [h79, Option.bind_some]
      exact zb_fin_f (by rw [eg_u_nj (by decide)]; exact fl.1.2.2.1) eg_u_eq (by decide)
    · rw [hr]
      by_cases h0 : eg_wi y < 0
      · rw [if_pos h0]; rfl
      · rw [if_neg h0, if_neg (by have := hq.resolve_left h0; omega)]; rfl
  by_cases h0 : eg_wi y < 0
  · exact out11 (Or.inl h0)
  by_cases h1 : (s : Int) ≤ eg_wi y
  · exact out11 (Or.inr h1)
  obtain ⟨j, hj⟩ : ∃ j : Nat, eg_wi y = (j : Int) := ⟨(eg_wi y).toNat, by omega⟩
  rw [hj] at h0 h1 hr
  have hjs : j < zb_nf (zb_hK H g) (zb_hZ H g) := by rw [s2]; omega
  have hnl : ¬ zb_isl (zb_hK H g) j := by rw [e3]; unfold zb_isl; omega
  have hci : zb_ci (zb_hK H g) j = 1 + j := by rw [e3]; rfl
  have h97 : fn_97 (B.2.2.1 / 3 + 1) (eg_wi x) (eg_wi y) (zb_c2m C l a') = some (1, eg_u (zb_c2m C l a') 43 4 0) := by
    unfold fn_97
    rw [hj, if_neg h0, e1, zb_wi_obj e6, s3, Option.bind_some, if_neg h1]
  rw [if_neg h0, if_pos (by omega)] at hr
  have hw1 : eg_wi (1 + eg_wi y) = ((1 + j : Nat) : Int) := by rw [hj]; exact zb_wi_1q (by omega)
  rcases hp with z | z <;> subst z
  · obtain ⟨f1, f2, f3⟩ := zb_fld_get (a' := a') h gv.1 hjs hnl
    rw [hci] at f1
    have f1' : fn_78 B.2.2.1 (B.2.2.1 / 3 + 1) (eg_wi x) (eg_wi (1 + eg_wi y)) (eg_u (zb_c2m C l a') 43 4 0) = some (zb_cf C H g j) := by
      rw [hw1, e1, zb_wi_obj e6]
      clear hw1
      rw [← f1]; unfold fn_78
      rw [eg_u_ne (by decide), eg_u_ne (by decide)]
    clear hw1
    refine zb_pr_same43 h hn (by decide) ?_ ?_ f3
    · rw [hc, zb_d79_17, zb_d91_17, h97, Option.bind_some]
      show (((if (1 : Int) = 0 then _ else (fn_78 B.2.2.1 (B.2.2.1 / 3 + 1) (eg_wi x) (eg_wi (1 + eg_wi y)) (eg_u (zb_c2m C l a') 43 4 0)).bind fun r26 => some (r26, eg_u (zb_c2m C l a') 43 4 0)).bind _).bind _) = _
      rw [if_neg (by decide), f1']; rfl
    · rw [hr, if_neg (show ¬ ¬ ((17 : Nat) : Int) = 17 from fun z => z rfl), f2, Option.bind_some]; rfl
  · have v3 := zb_pc_vr h (j := 2) (by omega)
    simp only [Nat.reduceAdd] at v3
    have hr0 := zb_gs_hr (zb_pc_se (a' := a') h).1.1
    obtain ⟨q1, q2, q3⟩ := zb_hr_put hr0 gv.1 hjs hnl v3
    rw [hci] at q1
    have q1' : fn_94 B.2.2.1 (B.2.2.1 / 3 + 1) (eg_wi x) (eg_wi (1 + eg_wi y)) (C 35 (9 * (l.length + 1) + 3)) (eg_u (zb_c2m C l a') 43 4 0) = some (eg_u (eg_u (zb_c2m C l a') 43 4 0) 16 (zb_hS H g + zb_ci (zb_hK H g) j) (C 35 (9 * (l.length + 1) + 3))) := by
      rw [hw1, e1, zb_wi_obj e6, hci]
      clear hw1
      unfold fn_94 at q1 ⊢
      rw [eg_u_ne (by decide)]
      split at q1
      · rename_i t1
        rw [if_pos t1]
        split at q1
        · rename_i t2
          rw [if_pos t2]
          have hh := Option.some.inj q1
          have h17 := (zb_hr_k hr0 gv.1).2.2
          rw [Int.toNat_natCast, h17] at t2 ⊢
          have hb9 := zb_hr_h hr0 gv.1
          have hz9 := zb_nf_ci (zb_hr_ob hr0 gv.1).2.2.2.1 hjs
          rw [zb_wi_add (by omega), Int.toNat_natCast]
        · cases q1
      · cases q1
    clear hw1
    refine zb_pr_put (j := j) h hn (by decide) gv.1 (by omega) hjs hnl v3 (Or.inr rfl) ?_ ?_
    · rw [hc, zb_d79_18, zb_d91_18, h97, Option.bind_some]
      show (((if (1 : Int) = 0 then _ else (fn_94 B.2.2.1 (B.2.2.1 / 3 + 1) (eg_wi x) (eg_wi (1 + eg_wi y)) (C 35 (9 * (l.length + 1) + 3)) (eg_u (zb_c2m C l a') 43 4 0)).bind fun m34 => some ((4294967298 : Int), m34)).bind _).bind _) = _
      rw [if_neg (by decide), q1']; rfl
    · rw [hr, if_pos (by decide), show eg_wi (((zb_bb l + 1 : Nat) : Int) + 2) = ((zb_bb l + 1 + 2 : Nat) : Int) from zb_wi_p2 (by omega), if_pos (by omega), Int.toNat_natCast, q2, Option.bind_some]; rfl
end PRM
