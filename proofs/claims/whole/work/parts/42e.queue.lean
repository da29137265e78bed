section CALLS
variable {B : zb_Bs} {Q : zb_Pq} {Z sp0 zb_sp : Nat} {C R C' R' M : eM} {H H' : zb_Hp} {rl ql : List (Nat × Nat)} {fd fu : Nat} {st l : List zb_Rec} {r r' : zb_Rec}
theorem zb_kx_q {N S d x q : Nat} (h : zb_KX C R N S d x q) : ((q + 1 : Nat) : Int) ≤ R 55 d := by
  obtain ⟨F, S', Cg, D, E, hx, ⟨d1, d2, d3⟩, hc, hq, hr⟩ := h
  obtain ⟨i1, i2, i3, i4⟩ := zb_ph_in hx.1 d1 d2 hc
  have q1 := zb_ph_qn hx.1 d1 d2 hc
  have h1 := hc.1
  have h9 : zb_qx D d (E x) ≤ zb_qx D d (E d) := by
    unfold zb_qx
    rw [show E d - (d + 1) = (E x - (d + 1)) + (E d - E x) by omega, zb_ct_add]; omega
  rw [(zb_ph_ks hx.1 d1 d2).2.1] at h9
  rw [zb_ph_55 hx.1 d1 d2]
  omega
theorem zb_step_100 (ev : zb_EVOK B Q Z) (h : zb_SX B C R H rl ql fd (r :: l) fu) (hk : zb_rK r = 10) (hf : zb_FRS B r) (hl : zb_RUNS B l) (hZ9 : Z ≤ 999990) (hp : zb_sp + 20 * fu + 5 * (l.length + 1) ≤ Z) : zb_STP B Q Z zb_sp C R 0 := by
  obtain ⟨q0, ro, f1, f2, _, _, _, f3, f4, f5, f6, f7, f8, f9, f10⟩ := zb_frs_k hf (by omega) (by omega)
  have hx : zb_kX B (zb_rD r) (zb_rD r + 1) 0 ∧ B.2.1 55 (zb_rD r) ≤ 9 := by
    rcases f2 with ⟨z, _⟩ | ⟨z, _⟩ | ⟨z, _⟩ | ⟨z, _⟩ | ⟨z, _⟩ | ⟨z, _⟩ | ⟨z, _⟩ | ⟨z, x1, x2, x3⟩
    all_goals first | exact ⟨x1, x3⟩ | omega
  obtain ⟨⟨i1, i2, i3, i4, i5⟩, ⟨a1, a2, a3, a4, a5⟩, ⟨b1, b2, b3, b4, b5⟩, b6⟩ := zb_top_at h
  have w := zb_gs_w h.1.1
  rw [f10 hk] at b3
  rw [hk] at a1 b1
  have hA : zb_rA r = zb_rD r := by rw [f4, hk]; rfl
  obtain ⟨e, ed, dp, k1, k2, k3, k4, k5, k6, k7, k8, k9, k10, k11⟩ := zb_kx_at hx.1
  intro x0
  refine ⟨_, zb_s210_ev (zb_d211z_10 (t := zb_tt l) (b6 (by omega)) (by omega) b1) (b6 (by omega)) (by omega) (by rw [b1]; decide), ?_⟩
  rw [zb_cl_res' i4 (by omega) i3 (by omega) (zb_f72_no (by omega) a1 (by decide)), zb_d104_10 (by omega) a1, b3, b5]
  have hcl : fn_118 B.2.2.1 (B.2.2.1 / 3 + 1) ((l.length + 1 : Nat) : Int) (C 31 (l.length + 1)) 0 12 C = fn_111 B.2.2.1 (B.2.2.1 / 3 + 1) ((zb_rD r + 1 : Nat) : Int) (zb_rF r : Int) (eg_u C 32 (l.length + 1) ((zb_rD r + 1 : Nat) : Int)) := by
    unfold fn_118 fn_118_25
    rw [if_pos (by omega), Int.toNat_natCast, a3, a2, hA, if_pos rfl, zb_wi_1 (by omega), if_pos (by omega), if_pos (by omega), Int.toNat_natCast, w.1.2.1, k2, if_neg (by omega), zb_bsome, a4, Int.add_zero, zb_wi_n (by omega)]
  rw [hcl]
  have h' := zb_sx_to (x := zb_rD r + 1) (k' := 10) (y := ((zb_rD r + 1 : Nat) : Int)) (R' := R) h ⟨by omega, by omega, by omega⟩ ⟨by omega, by omega, by omega⟩ rfl (by rw [hk]) (by rw [b1]) rfl b3 (fun _ _ => rfl) (fun _ _ _ _ => rfl)
  exact zb_go_on ev h' (Or.inr (Or.inr (Or.inr (Or.inr (Or.inr (Or.inr (Or.inl ⟨rfl, rfl, by show zb_kX B (zb_rD r) (zb_rD r + 1) (zb_rQ r); rw [q0]; exact hx.1, hx.2⟩))))))) hl k10 (show (10 : Nat) ≠ 15 by decide) k7 k8 (by omega) (Nat.le_refl _) (by omega)
theorem zb_step_10 (ev : zb_EVOK B Q Z) (pr : zb_PROK B Q Z) (h : zb_SX B C R H rl ql fd (r :: l) fu) (hk : zb_rK r = 10) (hr : zb_RUN B r) (hl : zb_RUNS B l) (hv : zb_VR (zb_vo H) (zb_hP H) B.2.2.2.1 (C 44 9) (R 45 70)) (hZ9 : Z ≤ 999990) (hp : zb_sp + 20 * fu + 5 * (l.length + 1) ≤ Z) : zb_STP B Q Z zb_sp C R 1 := by
  have hx : zb_rY r = (zb_rA r : Int) ∧ zb_kX B (zb_rD r) (zb_rA r) (zb_rQ r) ∧ B.2.1 55 (zb_rD r) ≤ 9 := by
    rcases hr with ⟨z, _⟩ | ⟨z, _⟩ | ⟨z, _⟩ | ⟨z, _⟩ | ⟨z, _⟩ | ⟨z, _⟩ | ⟨_, z⟩ | ⟨z, _⟩ | ⟨z, _⟩
    all_goals first | exact z | omega
  obtain ⟨x1, x2, x3⟩ := hx
  have hq9 := zb_kx_q x2
  obtain ⟨⟨i1, i2, i3, i4, i5⟩, ⟨a1, a2, a3, a4, a5⟩, ⟨b1, b2, b3, b4, b5⟩, b6⟩ := zb_top_at h
  obtain ⟨e, ed, dp, k1, k2, k3, k4, k5, k6, k7, k8, k9, k10, k11⟩ := zb_kx_at x2
  have w := zb_gs_w h.1.1
  have h53 := b6 (by omega)
  have h51 : R 45 51 = ((zb_bb l + zb_rQ r : Nat) : Int) := h.1.2.2.2.2.2.2
  have hbl : zb_bb (r :: l) ≤ 9 * (l.length + 1) := zb_bb_le h.1.2.1
  have hbb : zb_bb (r :: l) = zb_bb l + zb_rQ r := rfl
  rw [x1] at b3
  rw [hk] at a1 b1
  have hsx := zb_sx_hold h (by omega) hv
  obtain ⟨Ck, hCk⟩ : ∃ Ck, Ck = zb_keepC C (l.length + 1) (zb_rQ r) (C 44 9) := ⟨_, rfl⟩
  obtain ⟨Rk, hRk⟩ : ∃ Rk, Rk = zb_holdR R (zb_bb l + zb_rQ r) (R 45 70) := ⟨_, rfl⟩
  rw [← hCk, ← hRk] at hsx
  have ck : ∀ c, c ≠ 34 → c ≠ 35 → Ck c = C c := fun c a b => by rw [hCk]; unfold zb_keepC; rw [eg_u_ne a, eg_u_ne b]
  have rk : ∀ c, c ≠ 45 → c ≠ 77 → Rk c = R c := fun c a b => by rw [hRk]; unfold zb_holdR; rw [eg_u_ne a, eg_u_ne b]
  have rkf : Rk 45 53 = R 45 53 := by rw [hRk]; unfold zb_holdR; rw [eg_u_nj (by decide), eg_u_ne (by decide)]
  have rk51 : Rk 45 51 = ((zb_bb l + zb_rQ r + 1 : Nat) : Int) := by rw [hRk]; unfold zb_holdR; rw [eg_u_eq]
  have hCL : zb_CL B.2.2.1 Q (zb_sp : Int) C = _ := zb_cl_res' i4 (by omega) i3 (by omega) (zb_f72_no (by omega) a1 (by decide))
  have e118 : fn_118 B.2.2.1 (B.2.2.1 / 3 + 1) ((l.length + 1 : Nat) : Int) (C 31 (l.length + 1)) 0 12 C = fn_118_25 B.2.2.1 (B.2.2.1 / 3 + 1) ((l.length + 1 : Nat) : Int) (zb_rD r : Int) 0 12 (e : Int) Ck := by
    unfold fn_118
    rw [if_pos (by omega), Int.toNat_natCast, a3, a2, if_neg (by omega), zb_keep_c119 (by omega) (by omega) a5, ← hCk, Option.bind_some, if_pos (by omega), Int.toNat_natCast, ck 5 (by decide) (by decide), w.1.2.1, k1]
  have h211 : fn_211 1 R = if (B.2.1 53 (zb_rA r)) < 0 then fn_222 (zb_bb l : Int) (zb_rQ r : Int) (eg_u Rk 80 (zb_tt l) (B.2.1 53 (zb_rA r))) else some (2, eg_u Rk 80 (zb_tt l) (B.2.1 53 (zb_rA r))) := by
    have hw : eg_wi (eg_wi (((zb_bb l + zb_rQ r + 1 : Nat) : Int) - (zb_bb l : Int)) - 1) = (zb_rQ r : Int) := by
      have : eg_wi (((zb_bb l + zb_rQ r + 1 : Nat) : Int) - (zb_bb l : Int)) = ((zb_rQ r + 1 : Nat) : Int) := by unfold eg_wi; omega
      rw [this]; clear this; unfold eg_wi; omega
    rw [zb_d211_10 h53 (by clear hw; omega) b1 rfl]
    unfold fn_221
    rw [h53, zb_wi_t1 (by clear hw; omega), if_pos (by clear hw; omega), Int.toNat_natCast, b3, if_pos (by clear hw; omega), zb_hold_r (by clear hw; omega) h51, ← hRk, Option.bind_some, rk 80 (by decide) (by decide), b3, if_pos (by clear hw; omega), Int.toNat_natCast, rk 53 (by decide) (by decide), w.2.2.2.2.2.1, rk 81 (by decide) (by decide), b4, rk51, hw]
    by_cases hz : B.2.1 53 (zb_rA r) < 0
    · rw [if_pos hz, if_pos hz]
      cases fn_222 (zb_bb l : Int) (zb_rQ r : Int) (eg_u Rk 80 (zb_tt l) (B.2.1 53 (zb_rA r))) <;> rfl
    · rw [if_neg hz, if_neg hz]
  have hs2 := zb_sx_y (y := B.2.1 53 (zb_rA r)) hsx (show zb_rK r ≠ 16 by omega)
  obtain ⟨⟨j1, j2, j3, j4, j5⟩, ⟨c1, c2, c3, c4, c5⟩, ⟨d1, d2, d3, d4, d5⟩, d6⟩ := zb_top_at hs2
  intro x0
  rcases k11 with ⟨n1, n2, n3⟩ | ⟨n1, n2, n3⟩
  · rw [n2, if_neg (by omega)] at h211
    rw [n2] at hs2 d5
    refine ⟨_, zb_s210_ev (t := zb_tt l) h211 (by rw [eg_u_ne (by decide), rkf]; exact h53) (by omega) (by rw [eg_u_ne (by decide), rk 78 (by decide) (by decide), b1]; decide), ?_⟩
    have hcl : fn_118_25 B.2.2.1 (B.2.2.1 / 3 + 1) ((l.length + 1 : Nat) : Int) (zb_rD r : Int) 0 12 (e : Int) Ck = fn_111 B.2.2.1 (B.2.2.1 / 3 + 1) (e : Int) (zb_rF r : Int) (eg_u Ck 32 (l.length + 1) (e : Int)) := by
      unfold fn_118_25
      rw [if_pos (by omega), if_pos (by omega), Int.toNat_natCast, Int.toNat_natCast, ck 5 (by decide) (by decide), w.1.2.1, k2, if_neg (by omega), zb_bsome, Int.add_zero, zb_wi_n (by omega), ck 33 (by decide) (by decide), a4]
    rw [hCL, zb_d104_10 (by omega) a1, e118, hcl, eg_u_eq, d5]
    obtain ⟨dp9, dx, q1, q2, q3, q4⟩ := zb_e_run n3
    have h' := zb_sx_to (x := e) (k' := 10) (y := (e : Int)) (R' := eg_u Rk 80 (zb_tt l) (e : Int)) hs2 ⟨by omega, by omega, by omega, fun _ => hk⟩ ⟨show zb_rK r ≠ 16 by omega, show zb_rK r ≠ 11 by omega, show zb_rK r ≠ 15 by omega⟩ rfl (by show zb_cfm 10 = zb_cfm (zb_rK r); rw [hk]) (by rw [eg_u_ne (by decide), rk 78 (by decide) (by decide), b1]) rfl eg_u_eq (fun _ _ => rfl) (fun _ _ _ _ => rfl)
    exact zb_go_on ev h' (Or.inr (Or.inr (Or.inr (Or.inr (Or.inr (Or.inr (Or.inl ⟨rfl, rfl, n3, x3⟩))))))) hl q4 (show (10 : Nat) ≠ 15 by decide) q1 q2 q3 (Nat.le_refl _) (by omega)
  · rw [n2, if_pos (by decide)] at h211
    rw [n2] at hs2
    have hcl : fn_118_25 B.2.2.1 (B.2.2.1 / 3 + 1) ((l.length + 1 : Nat) : Int) (zb_rD r : Int) 0 12 (e : Int) Ck = some (eg_u (eg_u Ck 32 (l.length + 1) (e : Int)) 30 (l.length + 1) 12) := by
      unfold fn_118_25
      rw [if_pos (by omega), if_pos (by omega), Int.toNat_natCast, Int.toNat_natCast, ck 5 (by decide) (by decide), w.1.2.1, k2, if_pos (by omega)]
    have fl2 := hs2.1.2.2.2.1
    have hcl2 : zb_CL B.2.2.1 Q (zb_sp : Int) C = zb_CL B.2.2.1 Q ((zb_sp + 1 : Nat) : Int) (eg_u (eg_u Ck 32 (l.length + 1) (e : Int)) 30 (l.length + 1) 12) := by
      rw [hCL, zb_d104_10 (by omega) a1, e118, hcl, Option.bind_some]
      refine zb_af_go (by omega) ?_ ?_ ?_
      · rw [eg_u_ne (by decide), eg_u_ne (by decide)]; exact fl2.1.1
      · rw [eg_u_ne (by decide), eg_u_ne (by decide)]; exact fl2.1.2.2.2.1
      · rw [eg_u_ne (by decide), eg_u_ne (by decide)]; exact fl2.1.2.2.1
    rcases zb_apply_ok (n := zb_rQ r) (a' := (e : Int)) (sp0 := zb_sp) (zb_sp := zb_sp + 1) ev pr hs2 hk rfl (show zb_rQ r + 1 = 1 + zb_rQ r by omega) hl hZ9 (by omega) (by omega) (by omega) (by omega) with ⟨R', q1, q2, q3, q4⟩ | ⟨g, R', q1, q2, q3⟩
    · refine ⟨_, zb_s210_ev (t := zb_tt l + 1) (by rw [h211]; exact q1) q2 (by omega) q3, ?_⟩
      rw [hcl2]; exact q4
    · by_cases hg : g = 3
      · subst hg
        refine ⟨some (1, R'), zb_s210_3 (by rw [h211]; exact q1), ?_⟩
        rw [hcl2]; exact q3
      · rw [if_neg hg] at q3
        refine ⟨some (g, R'), zb_s210_done (by rw [h211]; exact q1) q2 hg, ?_⟩
        rw [hcl2]; exact q3
theorem zb_step_13 (h : zb_SX B C R H rl ql fd (r :: l) fu) (hk : zb_rK r = 13) (hr : zb_RUN B r) (hl : zb_RUNS B l) (hv : zb_VR (zb_vo H) (zb_hP H) B.2.2.2.1 (C 44 9) (R 45 70)) (hZ9 : Z ≤ 999990) (hp : zb_sp + 20 * fu + 5 * (l.length + 1) ≤ Z) : zb_STP B Q Z zb_sp C R 1 := by
  have hx : zb_rY r = -3 := by
    rcases hr with ⟨z, _⟩ | ⟨z, _⟩ | ⟨z, _⟩ | ⟨z, _⟩ | ⟨z, _⟩ | ⟨z, _⟩ | ⟨z, _⟩ | ⟨_, z, _⟩ | ⟨z, _⟩
    all_goals first | exact z | omega
  obtain ⟨⟨i1, i2, i3, i4, i5⟩, ⟨a1, a2, a3, a4, a5⟩, ⟨b1, b2, b3, b4, b5⟩, b6⟩ := zb_top_at h
  rw [hk] at a1 b1
  have h53 := b6 (by omega)
  obtain ⟨p0, R9, p1, p2⟩ := zb_pop_same (Q := Q) (sp0 := zb_sp) (zb_sp := zb_sp) h (by omega) (by omega) hl hv hZ9 (Nat.le_refl zb_sp) (by omega)
  have h221 : fn_221 R = some (0, R9) := by
    unfold fn_221
    rw [h53, zb_wi_t1 (by omega), if_pos (by omega), Int.toNat_natCast, b3, hx, if_neg (fun z => z rfl), p1, Option.bind_some]
  intro x0
  refine ⟨some (0, R9), zb_s210_done (g := 0) (by rw [zb_d211_10 h53 (by omega) b1 rfl]; exact h221) (by decide) (by decide), ?_⟩
  rw [zb_cl_res' i4 (by omega) i3 (by omega) (zb_f72_no (by omega) a1 (by decide)), zb_d104_13 (by omega) a1, p0, Option.bind_some]; exact p2
end CALLS
section QUE
variable {B : zb_Bs} {Q : zb_Pq} {Z sp0 zb_sp : Nat} {C R C' R' M : eM} {H H' : zb_Hp} {rl ql : List (Nat × Nat)} {fd fu : Nat} {st l : List zb_Rec} {r r' : zb_Rec}
theorem zb_shift_loop {x1 : Int} {m : Nat} (hm : m ≤ 500) : ∀ (u j : Nat) (M : eM), j + u = m → M 45 48 = (m : Int) →
    ∃ M', lp (fun z => fn_246_30 x1 z.1 z.2) ((j : Int), M) = lp (fun z => fn_246_30 x1 z.1 z.2) ((m : Int), M') ∧ (∀ c, c ≠ 75 → c ≠ 76 → M' c = M c) ∧ (∀ i, j ≤ i → i < m → M' 75 i = M 75 (i + 1) ∧ M' 76 i = M 76 (i + 1)) ∧ (∀ i, i < j → M' 75 i = M 75 i ∧ M' 76 i = M 76 i) := by
  intro u
  induction u with
  | zero =>
    intro j M hj h48
    have : j = m := by omega
    subst this
    exact ⟨M, rfl, fun _ _ _ => rfl, fun i a b => by omega, fun _ _ => ⟨rfl, rfl⟩⟩
  | succ u ih =>
    intro j M hj h48
    obtain ⟨M', g1, g2, g3, g4⟩ := ih (j + 1) (eg_u (eg_u M 76 j (M 76 (j + 1))) 75 j (M 75 (j + 1))) (by omega) (by rw [eg_u_ne (by decide), eg_u_ne (by decide)]; exact h48)
    refine ⟨M', ?_, fun c a b => by rw [g2 c a b, eg_u_ne a, eg_u_ne b], fun i i1 i2 => ?_, fun i hi => ?_⟩
    · rw [← g1]
      refine lp2_inl ?_
      unfold fn_246_30
      rw [h48, if_neg (by omega), zb_wi_1 (by omega), if_pos (by omega), if_pos (by omega), Int.toNat_natCast, Int.toNat_natCast]
    · by_cases he : i = j
      · subst he
        obtain ⟨e1, e2⟩ := g4 i (by omega)
        rw [e1, e2, eg_u_eq, eg_u_ne (by decide), eg_u_eq]; exact ⟨rfl, rfl⟩
      · obtain ⟨e1, e2⟩ := g3 i (by omega) i2
        rw [e1, e2, eg_u_nj (by omega), eg_u_ne (by decide), eg_u_ne (by decide), eg_u_nj (by omega)]; exact ⟨rfl, rfl⟩
    · obtain ⟨e1, e2⟩ := g4 i (by omega)
      rw [e1, e2, eg_u_nj (by omega), eg_u_ne (by decide), eg_u_ne (by decide), eg_u_nj (by omega)]; exact ⟨rfl, rfl⟩
theorem zb_md5 {a : Nat} (h : a < 1000) : eg_wi ((a : Int) - eg_wi (Int.tdiv (a : Int) 500) * 500) = ((a % 500 : Nat) : Int) := by
  have h1 : Int.tdiv (a : Int) 500 = ((a / 500 : Nat) : Int) := by
    rw [Int.tdiv_eq_ediv_of_nonneg (by omega)]; omega
  have h2 : eg_wi ((a / 500 : Nat) : Int) = ((a / 500 : Nat) : Int) := zb_wi_n (by omega)
  rw [h1, h2]
  clear h1 h2
  unfold eg_wi; omega
theorem zb_fr_drop {x : Nat × Nat} (zb_fr : zb_FRel C R H rl (x :: ql) fd) (c21 : C' 21 2 = C 21 2 ∧ C' 21 5 = (((fd + 1) % 500 : Nat) : Int) ∧ C' 21 6 = (ql.length : Int)) (hc : ∀ c, c ∈ ([22, 23, 24, 25] : List Nat) → C' c = C c) (r45 : R' 45 45 = R 45 45 ∧ R' 45 48 = (ql.length : Int)) (hr : R' 73 = R 73 ∧ R' 74 = R 74) (hs : ∀ i, i < ql.length → R' 75 i = R 75 (i + 1) ∧ R' 76 i = R 76 (i + 1)) : zb_FRel C' R' H rl ql ((fd + 1) % 500) := by
  obtain ⟨⟨a1, a2, a3, a4, a5, a6, a7⟩, b, c, d, e, f⟩ := zb_fr
  simp only [List.length_cons] at a5 a6 a7
  refine ⟨⟨by rw [c21.1]; exact a1, by rw [r45.1]; exact a2, c21.2.1, by omega, c21.2.2, r45.2, by omega⟩, zb_rowC_eq b (fun i hi => by rw [hc 22 (by decide), hc 23 (by decide)]; exact ⟨rfl, rfl⟩), fun i hi => ?_, zb_rowR_eq d (fun i hi => by rw [hr.1, hr.2]; exact ⟨rfl, rfl⟩), fun i hi => ?_, fun y hy => f y ?_⟩
  · have := c (i + 1) (by simp only [List.length_cons]; omega)
    rw [hc 24 (by decide), hc 25 (by decide), show ((fd + 1) % 500 + i) % 500 = (fd + (i + 1)) % 500 by omega]
    exact this
  · have := e (i + 1) (by simp only [List.length_cons]; omega)
    rw [(hs i hi).1, (hs i hi).2]; exact this
  · rcases List.mem_append.mp hy with z | z
    · exact List.mem_append_left _ z
    · exact List.mem_append_right _ (List.mem_cons_of_mem _ z)
theorem zb_sx_q3 (h : zb_SX B C R H rl ql fd (r :: l) fu) (hr : zb_RUN B r) (hk : zb_rK r = 15 ∨ zb_rK r = 16) : zb_rQ r = 0 ∧ (zb_rK r = 16 → zb_rY r = -3) := by
  rcases hr with ⟨z, _⟩ | ⟨z, _⟩ | ⟨z, _⟩ | ⟨z, _⟩ | ⟨z, _⟩ | ⟨z, _⟩ | ⟨z, _⟩ | ⟨z, _⟩ | ⟨z1, z2⟩
  all_goals first | (refine ⟨z2, fun hq => ?_⟩; rcases z1 with z | z; omega; exact z.2) | omega
set_option maxHeartbeats 1000000 in
theorem zb_step_q (ev : zb_EVOK B Q Z) {x : Nat × Nat} {y : Int} (h : zb_SX B C R H rl (x :: ql) fd (r :: l) fu) (hk : zb_rK r = 15 ∨ zb_rK r = 16) (hr : zb_RUN B r) (hl : zb_RUNS B l) (hZ9 : Z ≤ 999990) (hp : zb_sp + 20 * fu + 5 * (l.length + 1) ≤ Z) : zb_STP B Q Z zb_sp C R y := by
  obtain ⟨q0, y0⟩ := zb_sx_q3 h hr hk
  obtain ⟨⟨i1, i2, i3, i4, i5⟩, ⟨a1, a2, a3, a4, a5⟩, ⟨b1, b2, b3, b4, b5⟩, b6⟩ := zb_top_at h
  have zb_fr := h.1.1.2.1
  obtain ⟨p1, d, p2, p3⟩ := h.1.1.2.2.2.2.2.2.2.1 x (List.mem_append_right _ List.mem_cons_self)
  obtain ⟨vx1, vx2⟩ := zb_fr.2.2.2.2.2 x (List.mem_append_right _ List.mem_cons_self)
  have h51 : R 45 51 = ((zb_bb l + zb_rQ r : Nat) : Int) := h.1.2.2.2.2.2.2
  have hbl : zb_bb (r :: l) ≤ 9 * (l.length + 1) := zb_bb_le h.1.2.1
  have hbb : zb_bb (r :: l) = zb_bb l + zb_rQ r := rfl
  have c30 : C 30 (l.length + 1) = 15 := by rcases hk with z | z <;> rw [a1, z] <;> rfl
  obtain ⟨⟨f1, f2, f3, f4, f5, f6, f7⟩, _, fq, _, fr2, _⟩ := zb_fr
  simp only [List.length_cons] at f5 f6 f7
  have hq0 := fq 0 (by simp)
  have hr0 := fr2 0 (by simp)
  simp only [Nat.add_zero, List.getElem_cons_zero] at hq0 hr0
  rw [Nat.mod_eq_of_lt f4] at hq0
  rw [q0] at a5 h51
  have hv2 : zb_VR (zb_vo H) (zb_hP H) B.2.2.2.1 (17179869184 + (x.2 : Int)) (zb_ov (zb_hP H x.2)) := Or.inr (Or.inr (Or.inr (Or.inr (Or.inr (Or.inr ⟨x.2, vx2, rfl, rfl⟩)))))
  have hv1 : zb_VR (zb_vo H) (zb_hP H) B.2.2.2.1 (17179869184 + (x.1 : Int)) (zb_ov (zb_hP H x.1)) := Or.inr (Or.inr (Or.inr (Or.inr (Or.inr (Or.inr ⟨x.1, vx1, rfl, rfl⟩)))))
  have s1 := zb_sx_hold h (by omega) hv2
  have s2 := zb_sx_hold s1 (show zb_rQ r + 1 < 9 by omega) hv1
  have e1 : zb_keepC (zb_keepC C (l.length + 1) (zb_rQ r) (17179869184 + (x.2 : Int))) (l.length + 1) (zb_rQ (zb_rK r, zb_rD r, zb_rA r, zb_rY r, zb_rQ r + 1, zb_rF r)) (17179869184 + (x.1 : Int)) = zb_keepC (zb_keepC C (l.length + 1) 0 (17179869184 + (x.2 : Int))) (l.length + 1) 1 (17179869184 + (x.1 : Int)) := by
    show zb_keepC (zb_keepC C (l.length + 1) (zb_rQ r) (17179869184 + (x.2 : Int))) (l.length + 1) (zb_rQ r + 1) (17179869184 + (x.1 : Int)) = _
    rw [q0]
  have e2 : zb_holdR (zb_holdR R (zb_bb l + zb_rQ r) (zb_ov (zb_hP H x.2))) (zb_bb l + zb_rQ (zb_rK r, zb_rD r, zb_rA r, zb_rY r, zb_rQ r + 1, zb_rF r)) (zb_ov (zb_hP H x.1)) = zb_holdR (zb_holdR R (zb_bb l) (zb_ov (zb_hP H x.2))) (zb_bb l + 1) (zb_ov (zb_hP H x.1)) := by
    show zb_holdR (zb_holdR R (zb_bb l + zb_rQ r) (zb_ov (zb_hP H x.2))) (zb_bb l + (zb_rQ r + 1)) (zb_ov (zb_hP H x.1)) = _
    rw [q0]; rfl
  rw [e1, e2] at s2
  obtain ⟨Ck, hCk⟩ : ∃ Ck, Ck = zb_keepC (zb_keepC C (l.length + 1) 0 (17179869184 + (x.2 : Int))) (l.length + 1) 1 (17179869184 + (x.1 : Int)) := ⟨_, rfl⟩
  obtain ⟨Rk, hRk⟩ : ∃ Rk, Rk = zb_holdR (zb_holdR R (zb_bb l) (zb_ov (zb_hP H x.2))) (zb_bb l + 1) (zb_ov (zb_hP H x.1)) := ⟨_, rfl⟩
  rw [← hCk, ← hRk] at s2
  have ck : ∀ c, c ≠ 34 → c ≠ 35 → Ck c = C c := fun c a b => by rw [hCk]; unfold zb_keepC; rw [eg_u_ne a, eg_u_ne b, eg_u_ne a, eg_u_ne b]
  have rk : ∀ c, c ≠ 45 → c ≠ 77 → Rk c = R c := fun c a b => by rw [hRk]; unfold zb_holdR; rw [eg_u_ne a, eg_u_ne b, eg_u_ne a, eg_u_ne b]
  have rkf : ∀ f, f ≠ 51 → Rk 45 f = R 45 f := fun f hf => by rw [hRk]; unfold zb_holdR; rw [eg_u_nj (by omega), eg_u_ne (by decide), eg_u_nj (by omega), eg_u_ne (by decide)]
  have ck34 : Ck 34 (l.length + 1) = 2 := by rw [hCk]; unfold zb_keepC; rw [eg_u_eq]; rfl
  have ck35 : Ck 35 (9 * (l.length + 1)) = 17179869184 + (x.2 : Int) := by
    rw [hCk]; unfold zb_keepC
    rw [eg_u_ne (by decide), eg_u_nj (by omega), eg_u_ne (by decide), Nat.add_zero, eg_u_eq]
  have rk77 : Rk 77 (zb_bb l) = zb_ov (zb_hP H x.2) := by
    rw [hRk]; unfold zb_holdR
    rw [eg_u_ne (by decide), eg_u_nj (by omega), eg_u_ne (by decide), eg_u_eq]
  obtain ⟨C2, hC2⟩ : ∃ C2, C2 = eg_u (eg_u Ck 21 5 (((fd + 1) % 500 : Nat) : Int)) 21 6 (ql.length : Int) := ⟨_, rfl⟩
  have zb_c2o : ∀ c, c ≠ 21 → C2 c = Ck c := fun c a => by rw [hC2, eg_u_ne a, eg_u_ne a]
  have rk48 : (eg_u Rk 45 48 (ql.length : Int)) 45 48 = (ql.length : Int) := eg_u_eq
  obtain ⟨R2, w1, w2, w3, w4⟩ := zb_shift_loop (x1 := (zb_bb l : Int)) (m := ql.length) (by omega) ql.length 0 (eg_u Rk 45 48 (ql.length : Int)) (by omega) rk48
  have r2o : ∀ c, c ≠ 45 → c ≠ 75 → c ≠ 76 → R2 c = Rk c := fun c a b e => by rw [w2 c b e, eg_u_ne a]
  have r2f : ∀ f, f ≠ 48 → R2 45 f = Rk 45 f := fun f hf => by rw [w2 45 (by decide) (by decide), eg_u_nj (by omega)]
  have g2 : zb_GS B C2 R2 H rl ql ((fd + 1) % 500) := by
    obtain ⟨g1, g2, g3, ⟨L, B', g4⟩, g5, g6, g7, g8, g9⟩ := s2.1.1
    refine ⟨zb_hr_congr g1 (fun f _ => by rw [zb_c2o 15 (by decide)]) (fun c hc => zb_c2o c (by revert hc; simp; omega)) (fun f hf => r2f f (by revert hf; simp; omega)) (fun c hc => r2o c (by revert hc; simp; omega) (by revert hc; simp; omega) (by revert hc; simp; omega)), ?_, zb_rows_congr g3 (fun c hc => zb_c2o c (by revert hc; simp; omega)) (fun c hc => r2o c (by revert hc; simp; omega) (by revert hc; simp; omega) (by revert hc; simp; omega)), ⟨L, B', zb_nm_congr g4 (zb_c2o 1 (by decide)) (zb_c2o 2 (by decide)) (zb_c2o 3 (by decide)) (r2f 7 (by decide)) (r2o 47 (by decide) (by decide) (by decide)) (r2o 48 (by decide) (by decide) (by decide))⟩, fun n hn => by rw [zb_c2o 37 (by decide), r2o 72 (by decide) (by decide) (by decide)]; exact g5 n hn, by rw [zb_c2o 38 (by decide), r2f 43 (by decide)]; exact g6, zb_out_congr g7 (zb_c2o 26 (by decide)) (zb_c2o 27 (by decide)) (r2f 72 (by decide)) (r2o 86 (by decide) (by decide) (by decide)), fun y hy => ?_, by rw [zb_c2o 15 (by decide)]; exact g9.1, fun h hh => by rw [zb_c2o 15 (by decide), zb_c2o 20 (by decide)]; exact g9.2 h hh⟩
    · refine zb_fr_drop g2 ⟨?_, ?_, ?_⟩ (fun c hc => zb_c2o c (by revert hc; simp; omega)) ⟨r2f 45 (by decide), by rw [w2 45 (by decide) (by decide)]; exact rk48⟩ ⟨r2o 73 (by decide) (by decide) (by decide), r2o 74 (by decide) (by decide) (by decide)⟩ (fun i hi => ?_)
      · rw [hC2, eg_u_nj (by decide), eg_u_nj (by decide)]
      · rw [hC2, eg_u_nj (by decide), eg_u_eq]
      · rw [hC2, eg_u_eq]
      · obtain ⟨e1, e2⟩ := w3 i (Nat.zero_le _) hi
        rw [e1, e2, eg_u_ne (by decide), eg_u_ne (by decide)]; exact ⟨rfl, rfl⟩
    · have := g8 y (by
        rcases List.mem_append.mp hy with z | z
        · exact List.mem_append_left _ z
        · exact List.mem_append_right _ (List.mem_cons_of_mem _ z))
      unfold zb_cl at this ⊢
      rw [zb_c2o 16 (by decide)]; exact this
  have hse : zb_SE B C2 R2 H rl ql ((fd + 1) % 500) (zb_rK r, zb_rD r, zb_rA r, zb_rY r, zb_rQ r + 1 + 1, zb_rF r) l fu := by
    obtain ⟨⟨_, s, zb_ct, fl', t1, t2, t3⟩, f, ca, dp⟩ := s2
    have low : zb_LOW Ck C2 Rk R2 l := ⟨fun c i h1 h2 h3 => by rw [zb_c2o c (by revert h1; simp; omega)], fun i _ => by rw [zb_c2o 35 (by decide)], fun c t h1 _ => by rw [r2o c (by revert h1; simp; omega) (by revert h1; simp; omega) (by revert h1; simp; omega)], fun b _ => by rw [r2o 77 (by decide) (by decide) (by decide)]⟩
    refine ⟨⟨g2, ?_, zb_low_ctl low zb_ct.2, ?_, ?_⟩, ?_, ?_, dp⟩
    · exact zb_str_tr s (fun i _ _ => by rw [zb_c2o 33 (by decide), zb_c2o 34 (by decide), zb_c2o 35 (by decide)]; exact ⟨rfl, rfl, fun _ _ => rfl⟩) (fun _ _ => by rw [r2o 81 (by decide) (by decide) (by decide), r2o 82 (by decide) (by decide) (by decide)]; exact ⟨rfl, rfl⟩) (fun _ _ => by rw [r2o 77 (by decide) (by decide) (by decide)]) (fun g hg _ => zb_trg_rfl hg)
    · exact zb_flg_congr fl' (by rw [zb_c2o 44 (by decide)]; exact fl'.1.1) (zb_c2o 43 (by decide)) (by rw [zb_c2o 15 (by decide)]; exact ⟨fl'.1.2.2.2.1, fl'.1.2.2.2.2⟩) (zb_c2o 36 (by decide)) (fun f hf => r2f f (by revert hf; simp; omega))
    · exact ⟨by rw [zb_c2o 29 (by decide)]; exact t1, by rw [r2f 53 (by decide)]; exact t2, by rw [r2f 51 (by decide)]; exact t3⟩
    · exact ⟨by rw [zb_c2o 44 (by decide)]; exact f.1, by rw [r2f 67 (by decide)]; exact f.2.1, f.2.2⟩
    · exact ⟨by rw [zb_c2o 44 (by decide)]; exact ca.1, by rw [r2f 68 (by decide)]; exact ca.2.1, ca.2.2.1, zb_bud_le ca.2.2.2 (r2f 42 (by decide)) (by rw [r2f 67 (by decide)]; exact Int.add_le_add_left (Int.ofNat_le.mpr zb_nc_le.1) _)⟩
  have hcls : ∀ (M R' : eM) (H' : zb_Hp) (rl' ql' : List (Nat × Nat)) (sp' : Nat), zb_GS B M R' H' rl' ql' ((fd + 1) % 500) → zb_KEP C2 M → x.2 ∈ zb_hO H' → zb_hK H' x.2 = 3 → zb_cl M H' x.2 1 = (d : Int) → sp' < 1000000 → zb_CL B.2.2.1 Q (sp' : Int) M = (fn_125 B.2.2.1 (B.2.2.1 / 3 + 1) ((l.length + 1 : Nat) : Int) M).bind (zb_AF B.2.2.1 Q (sp' : Int)) := by
    intro M R' H' rl' ql' sp' _ kM _ _ _ hs'
    have m30 : M 30 (l.length + 1) = 15 := by rw [kM.1 30 (by decide), zb_c2o 30 (by decide), ck 30 (by decide) (by decide)]; exact c30
    have m34 : M 34 (l.length + 1) = 2 := by rw [kM.1 34 (by decide), zb_c2o 34 (by decide)]; exact ck34
    rw [zb_cl_res' (top := l.length + 1) (by rw [kM.2.1 8 (by decide), zb_c2o 44 (by decide), ck 44 (by decide) (by decide)]; exact i4) hs' (by rw [kM.1 29 (by decide), zb_c2o 29 (by decide), ck 29 (by decide) (by decide)]; exact i3) (by omega) (zb_f72_no (by omega) m30 (by decide)), zb_d104_15 (by omega) m30]
    unfold fn_126
    rw [if_pos (by omega), Int.toNat_natCast, m34, if_pos (by decide), zb_bsome]
  have hfirst : zb_CL B.2.2.1 Q (zb_sp : Int) C = zb_CL B.2.2.1 Q (zb_sp : Int) C2 := by
    have fl := h.1.2.2.2.1
    rw [hcls C2 R2 H rl ql zb_sp g2 ⟨fun _ _ => rfl, fun _ _ => rfl, fun _ _ => rfl, by rw [zb_c2o 43 (by decide), ck 43 (by decide) (by decide)]; exact fl.1.2.2.1⟩ vx2.1 p1 (by unfold zb_cl at p2 ⊢; rw [zb_c2o 16 (by decide), ck 16 (by decide) (by decide)]; exact p2) (by omega)]
    rw [zb_cl_res' (top := l.length + 1) i4 (by omega) i3 (by omega) (zb_f72_no (by omega) c30 (by decide)), zb_d104_15 (by omega) c30]
    have hk1 := zb_keep_c119 (C := C) (i := l.length + 1) (q := 0) (v := 17179869184 + (x.2 : Int)) (by omega) (by omega) a5
    have hk2 := zb_keep_c119 (C := zb_keepC C (l.length + 1) 0 (17179869184 + (x.2 : Int))) (i := l.length + 1) (q := 1) (v := 17179869184 + (x.1 : Int)) (by omega) (by omega) (by unfold zb_keepC; rw [eg_u_eq])
    have k21 : (zb_keepC C (l.length + 1) 0 (17179869184 + (x.2 : Int))) 21 = C 21 ∧ (zb_keepC C (l.length + 1) 0 (17179869184 + (x.2 : Int))) 24 = C 24 := by unfold zb_keepC; exact ⟨by rw [eg_u_ne (by decide), eg_u_ne (by decide)], by rw [eg_u_ne (by decide), eg_u_ne (by decide)]⟩
    have h127 : fn_127 0 C = some (17179869184 + (x.2 : Int)) := by
      unfold fn_127
      rw [f3, Int.add_zero, zb_wi_n (by omega), zb_md5 (by omega), Nat.mod_eq_of_lt f4, if_pos (by omega), Int.toNat_natCast, hq0.2]
    have h128 : fn_128 0 (zb_keepC C (l.length + 1) 0 (17179869184 + (x.2 : Int))) = some (17179869184 + (x.1 : Int)) := by
      unfold fn_128
      rw [k21.1, k21.2, f3, Int.add_zero, zb_wi_n (by omega), zb_md5 (by omega), Nat.mod_eq_of_lt f4, if_pos (by omega), Int.toNat_natCast, hq0.1]
    have h129 : fn_129 Ck = some C2 := by
      have hw : eg_wi (((ql.length + 1 : Nat) : Int) - 1) = (ql.length : Int) := zb_wi_t1 (by omega)
      unfold fn_129
      rw [ck 21 (by decide) (by decide), f3, f5, zb_wi_1 (by clear hw; omega), zb_md5 (by clear hw; omega), hw, hC2]
    unfold fn_126
    rw [if_pos (by omega), Int.toNat_natCast, a5, if_neg (fun z => z rfl), f5, if_pos (by omega), h127, Option.bind_some, hk1, Option.bind_some, h128, Option.bind_some, hk2, Option.bind_some, ← hCk, h129, Option.bind_some, zb_bsome]
  obtain ⟨t0, ht0, ht0', h53, h78⟩ : ∃ t0, zb_tt (r :: l) = t0 + 1 ∧ ((zb_rK r = 16 ∧ t0 = zb_tt l + 1) ∨ (zb_rK r = 15 ∧ t0 = zb_tt l)) ∧ R 45 53 = ((t0 + 1 : Nat) : Int) ∧ R 78 t0 = 12 := by
    have t2 := h.1.2.2.2.2.2.1
    rcases hk with z | z
    · have e : zb_tt (r :: l) = zb_tt l + 1 := by simp only [zb_tt]; rw [if_neg (by omega)]
      exact ⟨zb_tt l, e, Or.inr ⟨z, rfl⟩, by rw [t2, e], by rw [b1, z]; rfl⟩
    · have e : zb_tt (r :: l) = zb_tt l + 1 + 1 := by simp only [zb_tt]; rw [if_pos z]
      exact ⟨zb_tt l + 1, e, Or.inl ⟨z, rfl⟩, by rw [t2, e], h.1.2.2.1.1.2.2 z⟩
  have htt9 := zb_tt_le (l := r :: l)
  simp only [List.length_cons] at htt9
  have h246 : fn_246 R = (fn_224 (R2 77 (zb_bb l)) (zb_bb l : Int) 1 R2).bind fun r13 => some (r13.1, r13.2) := by
    have ho1 := zb_hold_r (R := R) (b := zb_bb l) (w := zb_ov (zb_hP H x.2)) (by omega) h51
    have ho2 := zb_hold_r (R := zb_holdR R (zb_bb l) (zb_ov (zb_hP H x.2))) (b := zb_bb l + 1) (w := zb_ov (zb_hP H x.1)) (by omega) (by unfold zb_holdR; rw [eg_u_eq])
    have hh75 : (zb_holdR R (zb_bb l) (zb_ov (zb_hP H x.2))) 75 0 = zb_ov (zb_hP H x.1) := by unfold zb_holdR; rw [eg_u_ne (by decide), eg_u_ne (by decide)]; exact hr0.1
    have hw : eg_wi (Rk 45 48 - 1) = (ql.length : Int) := by rw [rkf 48 (by decide), f6]; exact zb_wi_t1 (by omega)
    unfold fn_246
    rw [f6, if_pos (by clear hw; omega), if_pos (by decide)]
    show (fn_217 (R 76 0) R).bind _ = _
    rw [hr0.2, ho1, Option.bind_some]
    show (fn_217 ((zb_holdR R (zb_bb l) (zb_ov (zb_hP H x.2))) 75 0) (zb_holdR R (zb_bb l) (zb_ov (zb_hP H x.2)))).bind _ = _
    rw [hh75, ho2, Option.bind_some, ← hRk, hw, h51]
    clear hw
    have e1 : lp (fun z => fn_246_30 (zb_bb l : Int) z.1 z.2) (0, eg_u Rk 45 48 (ql.length : Int)) = lp (fun z => fn_246_30 (zb_bb l : Int) z.1 z.2) ((ql.length : Int), R2) := w1
    show lp (fun z => fn_246_30 (zb_bb l : Int) z.1 z.2) (0, eg_u Rk 45 48 (ql.length : Int)) = _
    rw [e1]
    have hb : fn_246_30 (zb_bb l : Int) (ql.length : Int) R2 = (fn_224 (R2 77 (zb_bb l)) (zb_bb l : Int) 1 R2).bind fun r13 => some (.inr (r13.1, r13.2)) := by
      unfold fn_246_30
      rw [w2 45 (by decide) (by decide), rk48, if_pos (Int.le_refl _), if_pos (by omega), Int.toNat_natCast]
    cases hz : fn_224 (R2 77 (zb_bb l)) (zb_bb l : Int) 1 R2 with
    | none => rw [hz] at hb; exact lp_none hb
    | some m25 => rw [hz, Option.bind_some] at hb; exact lp2_inr hb
  have h211 : fn_211 y R = fn_246 R := zb_d211_12 h53 (by omega) h78
  have hcl1 : zb_cl C2 H x.2 1 = (d : Int) := by unfold zb_cl at p2 ⊢; rw [zb_c2o 16 (by decide), ck 16 (by decide) (by decide)]; exact p2
  intro x0
  have hk' : (15 = (12 : Int) ∧ zb_rK r = 13 ∧ zb_rK r = 10) ∨ (15 = (15 : Int) ∧ zb_rK r = 15 ∧ zb_rK r = 15) ∨ (15 = (15 : Int) ∧ zb_rK r = 16 ∧ zb_rK r = 16 ∧ R2 80 (zb_tt l) = -3) := by
    rcases hk with z | z
    · exact Or.inr (Or.inl ⟨rfl, z, z⟩)
    · exact Or.inr (Or.inr ⟨rfl, z, z, by rw [r2o 80 (by decide) (by decide) (by decide), rk 80 (by decide) (by decide), b3]; exact y0 z⟩)
  rcases zb_enter_ok (k' := zb_rK r) (a := zb_rA r) (n := 1) (h := x.2) (d := d) (fc := 15) (sp0 := zb_sp) (zb_sp := zb_sp) ev hse hk' (by rw [zb_c2o 30 (by decide), ck 30 (by decide) (by decide)]; exact c30) (by rw [zb_c2o 31 (by decide), ck 31 (by decide) (by decide)]; exact a2) (by rw [zb_c2o 32 (by decide), ck 32 (by decide) (by decide)]; exact a3) (by rw [r2o 78 (by decide) (by decide) (by decide), rk 78 (by decide) (by decide)]; exact b1) (fun z => by rw [r2o 79 (by decide) (by decide) (by decide), rk 79 (by decide) (by decide)]; exact b2 z) (fun z => by rw [r2o 78 (by decide) (by decide) (by decide), rk 78 (by decide) (by decide)]; exact h.1.2.2.1.1.2.2 z) (show zb_rQ r + 1 + 1 = 1 + 1 by omega) (by omega) vx2.1 p1 (by rw [zb_c2o 35 (by decide)]; exact ck35) (by rw [r2o 77 (by decide) (by decide) (by decide)]; exact rk77) hcl1 p3 hl hZ9 (Nat.le_refl _) (by omega) hcls with ⟨R', k1, k2, k3, k4, k5⟩ | ⟨R', k1, k2⟩
  · have k1' : fn_224 (R2 77 (zb_bb l)) (zb_bb l : Int) 1 R2 = some (2, R') := k1
    refine ⟨_, zb_s210_ev (t := zb_tt (r :: l)) (by rw [h211, h246, k1', Option.bind_some]) k2 k3 k4, ?_⟩
    rw [hfirst]; exact k5
  · have k1' : fn_224 (R2 77 (zb_bb l)) (zb_bb l : Int) 1 R2 = some (-1, R') := k1
    refine ⟨some (-1, R'), zb_s210_done (g := -1) (by rw [h211, h246, k1', Option.bind_some]) (by decide) (by decide), ?_⟩
    rw [hfirst]; exact k2
theorem zb_step_15e {y : Int} (h : zb_SX B C R H rl [] fd (r :: l) fu) (hk : zb_rK r = 15) (hr : zb_RUN B r) (hl : zb_RUNS B l) (hZ9 : Z ≤ 999990) (hp : zb_sp + 20 * fu + 5 * (l.length + 1) ≤ Z) : zb_STP B Q Z zb_sp C R y := by
  obtain ⟨q0, y0⟩ := zb_sx_q3 h hr (Or.inl hk)
  obtain ⟨⟨i1, i2, i3, i4, i5⟩, ⟨a1, a2, a3, a4, a5⟩, ⟨b1, b2, b3, b4, b5⟩, b6⟩ := zb_top_at h
  obtain ⟨⟨f1, f2, f3, f4, f5, f6, f7⟩, _⟩ := h.1.1.2.1
  rw [hk] at a1 b1
  rw [q0] at a5
  obtain ⟨p0, R9, p1, p2⟩ := zb_pop_v (Q := Q) (sp0 := zb_sp) (zb_sp := zb_sp) h (by omega) (by omega) hl zb_vr_nil hZ9 (Nat.le_refl zb_sp) (by omega)
  have h246 : fn_246 R = some (0, R9) := by
    unfold fn_246
    rw [f6, if_neg (fun z => z rfl), p1, Option.bind_some]
  have h126 : fn_126 B.2.2.1 (B.2.2.1 / 3 + 1) ((l.length + 1 : Nat) : Int) C = some (eg_u (eg_u C 44 9 4294967298) 29 0 (l.length : Int)) := by
    unfold fn_126
    rw [if_pos (by omega), Int.toNat_natCast, a5, if_neg (fun z => z rfl), f5, if_neg (fun z => z rfl), zb_bsome, p0]
  intro x0
  refine ⟨some (0, R9), zb_s210_done (g := 0) (by rw [zb_d211_12 (b6 (by omega)) (by omega) b1]; exact h246) (by decide) (by decide), ?_⟩
  rw [zb_cl_res' i4 (by omega) i3 (by omega) (zb_f72_no (by omega) a1 (by decide)), zb_d104_15 (by omega) a1, h126, Option.bind_some]; exact p2
theorem zb_step_16e {y : Int} (h : zb_SX B C R H rl [] fd (r :: l) fu) (hk : zb_rK r = 16) (hr : zb_RUN B r) (hl : zb_RUNS B l) (hZ9 : Z ≤ 999990) (hp : zb_sp + 20 * fu + 5 * (l.length + 1) ≤ Z) (x0 : Int) :
    ∃ R1 R', fn_210_13 x0 y R = some (.inl (0, R1)) ∧ 0 < R1 45 53 ∧ fn_210_13 x0 1 R1 = some (.inl (0, R')) ∧ zb_RESV B Q Z zb_sp (zb_CL B.2.2.1 Q (zb_sp : Int) C) (some (0, R')) := by
  obtain ⟨q0, y0⟩ := zb_sx_q3 h hr (Or.inr hk)
  have y3 := y0 hk
  obtain ⟨⟨i1, i2, i3, i4, i5⟩, ⟨a1, a2, a3, a4, a5⟩, ⟨b1, b2, b3, b4, b5⟩, b6⟩ := zb_top_at h
  obtain ⟨⟨f1, f2, f3, f4, f5, f6, f7⟩, _⟩ := h.1.1.2.1
  obtain ⟨s, f, ca, dp⟩ := h
  have hbl : zb_bb (r :: l) ≤ 9 * (l.length + 1) := zb_bb_le s.2.1
  have hbb : zb_bb (r :: l) = zb_bb l + zb_rQ r := rfl
  rw [hk] at a1 b1
  rw [q0] at a5
  rw [y3] at b3
  have h53 : R 45 53 = ((zb_tt l + 1 + 1 : Nat) : Int) := by rw [s.2.2.2.2.2.1]; simp only [zb_tt]; rw [if_pos hk]
  have h78' : R 78 (zb_tt l + 1) = 12 := s.2.2.1.1.2.2 hk
  have h81' : R 81 (zb_tt l + 1) = (zb_bb l : Int) := (s.2.1.1.2.2.2 hk).2
  obtain ⟨R1, hR1⟩ : ∃ R1, R1 = eg_u (eg_u (eg_u R 45 53 ((zb_tt l + 1 : Nat) : Int)) 45 51 (zb_bb l : Int)) 45 70 12884901888 := ⟨_, rfl⟩
  have h213 : fn_213 12884901888 R = some (0, R1) := by
    unfold fn_213 fn_214
    rw [h53, zb_wi_t1 (by omega), if_pos (by omega), Option.bind_some, Int.toNat_natCast, h81', hR1]
  have r1o : ∀ c, c ≠ 45 → R1 c = R c := fun c a => by rw [hR1, eg_u_ne a, eg_u_ne a, eg_u_ne a]
  have r1f : ∀ f, f ≠ 53 → f ≠ 51 → f ≠ 70 → R1 45 f = R 45 f := fun f a b c => by rw [hR1, eg_u_nj (by omega), eg_u_nj (by omega), eg_u_nj (by omega)]
  have r153 : R1 45 53 = ((zb_tt l + 1 : Nat) : Int) := by rw [hR1, eg_u_nj (by decide), eg_u_nj (by decide), eg_u_eq]
  have r170 : R1 45 70 = 12884901888 := by rw [hR1, eg_u_eq]
  have h246 : fn_246 R = some (0, R1) := by
    unfold fn_246
    rw [f6, if_neg (fun z => z rfl), h213, Option.bind_some]
  obtain ⟨R', hR'⟩ : ∃ R', R' = eg_u (eg_u (eg_u R1 45 53 (zb_tt l : Int)) 45 51 (zb_bb l : Int)) 45 70 12884901888 := ⟨_, rfl⟩
  have h221 : fn_221 R1 = some (0, R') := by
    unfold fn_221 fn_213 fn_214
    rw [r153, zb_wi_t1 (by omega), if_pos (by omega), Int.toNat_natCast, r1o 80 (by decide), b3, if_neg (fun z => z rfl), if_pos (by omega), Option.bind_some, Option.bind_some, r170, r1o 81 (by decide), b4, hR']
  have r'o : ∀ c, c ≠ 45 → R' c = R c := fun c a => by rw [hR', eg_u_ne a, eg_u_ne a, eg_u_ne a, r1o c a]
  have r'f : ∀ f, f ≠ 53 → f ≠ 51 → f ≠ 70 → R' 45 f = R 45 f := fun f a b c => by rw [hR', eg_u_nj (by omega), eg_u_nj (by omega), eg_u_nj (by omega), r1f f a b c]
  have h126 : fn_126 B.2.2.1 (B.2.2.1 / 3 + 1) ((l.length + 1 : Nat) : Int) C = some (eg_u (eg_u C 44 9 4294967298) 29 0 (l.length : Int)) := by
    unfold fn_126 fn_103
    rw [if_pos (by omega), Int.toNat_natCast, a5, if_neg (fun z => z rfl), f5, if_neg (fun z => z rfl), zb_bsome, i3, zb_wi_n1 (by omega)]
  refine ⟨R1, R', zb_s210_done (g := 0) (by rw [zb_d211_12 h53 (by omega) h78']; exact h246) (by decide) (by decide), by rw [r153]; omega, zb_s210_done (g := 0) (by rw [zb_d211_10 r153 (by omega) (by rw [r1o 78 (by decide)]; exact b1) rfl]; exact h221) (by decide) (by decide), ?_⟩
  rw [zb_cl_res' i4 (by omega) i3 (by omega) (zb_f72_no (by omega) a1 (by decide)), zb_d104_15 (by omega) a1, h126, Option.bind_some]
  have hnb : zb_nb (r :: l) = zb_nb l := zb_nb_ne (by omega)
  have hca := ca.2.2
  refine zb_res_go (fu' := fu) (st' := l) ⟨zb_sc_pop s (fun c c1 c2 => by rw [eg_u_ne c2, eg_u_ne c1]) (by rw [eg_u_ne (by decide), eg_u_nj (by decide)]; exact i4) (by rw [eg_u_ne (by decide), eg_u_nj (by decide)]; exact Int.le_refl _) eg_u_eq r'o (fun f hf => r'f f (fun e => hf (by rw [e]; decide)) (fun e => hf (by rw [e]; decide)) (fun e => hf (by rw [e]; decide))) (by rw [hR', eg_u_nj (by decide), eg_u_nj (by decide), eg_u_eq]) (by rw [hR', eg_u_nj (by decide), eg_u_eq]), ⟨by rw [eg_u_ne (by decide), eg_u_nj (by decide)]; exact f.1, by rw [r'f 67 (by decide) (by decide) (by decide)]; exact f.2.1, f.2.2⟩, ⟨by rw [eg_u_ne (by decide), eg_u_nj (by decide), ca.1, hnb], by rw [r'f 68 (by decide) (by decide) (by decide), ca.2.1, hnb], by omega, zb_bud_le ca.2.2.2 (r'f 42 (by decide) (by decide) (by decide)) (by rw [r'f 67 (by decide) (by decide) (by decide)]; have := (zb_nc_le (r := r) (l := l)).1; omega)⟩, dp.2⟩ (Or.inl ⟨rfl, ?_, hl⟩) hZ9 (Nat.le_refl _) (by omega)
  rw [eg_u_ne (by decide), eg_u_eq, hR', eg_u_eq]; exact zb_vr_nil
end QUE
section LOO
variable {B : zb_Bs} {Q : zb_Pq} {Z sp0 zb_sp : Nat} {C R C' R' M : eM} {H H' : zb_Hp} {rl ql : List (Nat × Nat)} {fd fu : Nat} {st l : List zb_Rec} {r r' : zb_Rec}
theorem zb_step_all (ev : zb_EVOK B Q Z) (pr : zb_PROK B Q Z) {g : Int} (h : zb_SX B C R H rl ql fd (r :: l) fu) (hn : zb_NXT B C R H (r :: l) g) (hZ9 : Z ≤ 999990) (hp : zb_sp + 20 * fu + 5 * (l.length + 1) ≤ Z) (hne : ¬ (zb_rK r = 16 ∧ ql = [])) : zb_STP B Q Z zb_sp C R (if g = 0 then 1 else 0) := by
  have hq : ∀ y, (zb_rK r = 15 ∨ zb_rK r = 16) → zb_RUN B r → zb_RUNS B l → zb_STP B Q Z zb_sp C R y := by
    intro y hk hr hl
    cases ql with
    | nil =>
      have h15 : zb_rK r = 15 := by
        rcases hk with z | z
        · exact z
        · exact absurd ⟨z, rfl⟩ hne
      exact zb_step_15e h h15 hr hl hZ9 hp
    | cons x ql => exact zb_step_q ev h hk hr hl hZ9 hp
  rcases hn with ⟨g0, hv, hr⟩ | ⟨g1, r0, l0, e, hf, hl⟩
  · subst g0
    rw [if_pos rfl]
    have hrr := hr r List.mem_cons_self
    have hl : zb_RUNS B l := fun r' hr' => hr r' (List.mem_cons_of_mem _ hr')
    have hcases := hrr
    rcases hcases with ⟨z, _⟩ | ⟨z, _⟩ | ⟨z, _⟩ | ⟨z, _⟩ | ⟨z, _⟩ | ⟨z, _⟩ | ⟨z, _⟩ | ⟨z, _⟩ | ⟨z, _⟩
    · exact zb_step_if ev h z hrr hl hv hZ9 hp
    · exact zb_step_14 h z hrr hl hv hZ9 hp
    · exact zb_step_2 h (by omega) hrr hl hv hZ9 hp
    · exact zb_step_5 ev h z hrr hl hv hZ9 hp
    · rcases z with z | z | z | z
      · exact zb_step_6 ev h (Or.inl z) hrr hl hv hZ9 hp
      · exact zb_step_8 ev h (Or.inl z) hrr hl hv hZ9 hp
      · exact zb_step_8 ev h (Or.inr z) hrr hl hv hZ9 hp
      · exact zb_step_6 ev h (Or.inr z) hrr hl hv hZ9 hp
    · exact zb_step_7 ev h z hrr hl hv hZ9 hp
    · exact zb_step_10 ev pr h z hrr hl hv hZ9 hp
    · exact zb_step_13 h z hrr hl hv hZ9 hp
    · exact hq 1 (by omega) hrr hl
  · subst g1
    rw [if_neg (by decide)]
    obtain ⟨e1, e2⟩ := List.cons.inj e
    subst e1 e2
    by_cases h15 : zb_rK r = 15 ∨ zb_rK r = 16
    · refine hq 0 h15 ?_ hl
      refine Or.inr (Or.inr (Or.inr (Or.inr (Or.inr (Or.inr (Or.inr (Or.inr ⟨?_, hf.1⟩)))))))
      rcases hf.2 with z | ⟨ro, _, _, _, _, z, _⟩
      · exact z
      · omega
    · obtain ⟨_, ro, _, _, n0, n4, n10, _⟩ := zb_frs_k hf (by omega) (by omega)
      have hcs : zb_rK r = 1 ∨ zb_rK r = 2 ∨ zb_rK r = 3 ∨ zb_rK r = 5 ∨ zb_rK r = 6 ∨ zb_rK r = 7 ∨ zb_rK r = 8 ∨ zb_rK r = 9 ∨ zb_rK r = 10 := by omega
      rcases hcs with z | z | z | z | z | z | z | z | z
      · exact zb_step_if0 ev h z hf hl hZ9 hp
      · exact zb_step_20 ev h (Or.inl z) hf hl hZ9 hp
      · exact zb_step_20 ev h (Or.inr z) hf hl hZ9 hp
      · exact zb_step_50 ev h z hf hl hZ9 hp
      · exact zb_step_60 ev h z hf hl hZ9 hp
      · exact zb_step_70 ev h z hf hl hZ9 hp
      · exact zb_step_80 ev h (Or.inl z) hf hl hZ9 hp
      · exact zb_step_80 ev h (Or.inr z) hf hl hZ9 hp
      · exact zb_step_100 ev h z hf hl hZ9 hp
noncomputable def zb_FL2 (x0 : Int) (g : Int) (R : eM) : Option (Int × eM) := lp (fun z => fn_210_2 x0 z.1 z.2) (g, R)
theorem zb_fl_neg {x0 : Int} {k : Int} (h : R 45 69 = k) : zb_FL2 x0 (-1) R = some (k, R) := by
  refine lp2_inr ?_
  unfold fn_210_2
  rw [if_pos (by decide), if_neg (by decide), h]
theorem zb_fl_go {x0 g y : Int} {X : Int × eM} (hg : g = 0 ∧ y = 1 ∨ g = 1 ∧ y = 0) (h53 : 0 < R 45 53) (h : fn_210_13 x0 y R = some (.inl X)) : zb_FL2 x0 g R = zb_FL2 x0 X.1 X.2 := by
  obtain ⟨a, b⟩ := X
  refine lp2_inl ?_
  unfold fn_210_2
  rw [if_neg (by omega), if_neg (by omega)]
  rcases hg with ⟨g1, g2⟩ | ⟨g1, g2⟩
  · rw [if_neg (by omega), ← g2]; exact h
  · rw [if_pos (by omega), ← g2]; exact h
def zb_LPO (B : zb_Bs) (Q : zb_Pq) (Z sp0 : Nat) (zb_cl : Option eM) (zb_rf : Option (Int × eM)) : Prop :=
  (∃ (C' R' : eM) (H' : zb_Hp) (rl' ql' : List (Nat × Nat)) (fd' fu' sp' : Nat), zb_cl = zb_CL B.2.2.1 Q (sp' : Int) C' ∧ zb_rf = some (0, R') ∧ zb_SX B C' R' H' rl' ql' fd' [] fu' ∧ sp0 ≤ sp' ∧ sp' + 20 * fu' ≤ Z)
  ∨ (∃ (C' R' : eM) (k : Int), zb_cl = some C' ∧ zb_rf = some (k, R') ∧ zb_END B C' R' k)
theorem zb_loop_ok (ev : zb_EVOK B Q Z) (pr : zb_PROK B Q Z) (hZ9 : Z ≤ 999990) {x0 : Int} : ∀ (m zb_sp : Nat) (C R : eM) (H : zb_Hp) (rl ql : List (Nat × Nat)) (fd fu : Nat) (st : List zb_Rec) (g : Int), Z - zb_sp = m → zb_SX B C R H rl ql fd st fu → zb_NXT B C R H st g → zb_sp + 20 * fu + 5 * st.length ≤ Z →
    zb_LPO B Q Z zb_sp (zb_CL B.2.2.1 Q (zb_sp : Int) C) (zb_FL2 x0 g R) := by
  intro m
  induction m using Nat.strongRecOn with
  | ind m ih =>
    intro zb_sp C R H rl ql fd fu st g hm h hn hp
    cases st with
    | nil =>
      have g0 : g = 0 := by
        rcases hn with ⟨z, _⟩ | ⟨_, r, l, e, _⟩
        · exact z
        · exact absurd e (by simp)
      subst g0
      refine Or.inl ⟨C, R, H, rl, ql, fd, fu, zb_sp, rfl, ?_, h, Nat.le_refl _, by simpa using hp⟩
      have h53 : R 45 53 = 0 := h.1.2.2.2.2.2.1
      refine lp2_inr ?_
      unfold fn_210_2
      rw [if_neg (by decide), h53, if_pos (by decide), if_pos (by decide)]
    | cons r l =>
      simp only [List.length_cons] at hp
      have hg : g = 0 ∧ (if g = 0 then (1 : Int) else 0) = 1 ∨ g = 1 ∧ (if g = 0 then (1 : Int) else 0) = 0 := by
        rcases hn with ⟨z, _⟩ | ⟨z, _⟩
        · exact Or.inl ⟨z, by rw [if_pos z]⟩
        · exact Or.inr ⟨z, by rw [if_neg (by omega)]⟩
      have h53 : 0 < R 45 53 := by
        have := h.1.2.2.2.2.2.1
        have h2 := zb_tt_le (l := r :: l)
        simp only [List.length_cons] at h2
        omega
      have fin : ∀ (zb_cl : Option eM) (zb_rf : Option (Int × eM)), zb_RESV B Q Z zb_sp zb_cl zb_rf → ∀ X, zb_FL2 x0 g R = X → (∀ g' R', zb_rf = some (g', R') → X = zb_FL2 x0 g' R') → zb_LPO B Q Z zb_sp zb_cl X := by
        intro zb_cl zb_rf hres X hX hrf
        rcases hres with ⟨C', R', H', rl', ql', fd', st', fu', sp', g', e1, e2, e3, e4, e5, e6⟩ | ⟨C', R', k, e1, e2, e3⟩
        · rw [hrf g' R' e2, e1]
          rcases ih (Z - sp') (by omega) sp' C' R' H' rl' ql' fd' fu' st' g' rfl e3 e4 e6 with ⟨C2, R2, H2, rl2, ql2, fd2, fu2, sp2, f1, f2, f3, f4, f5⟩ | z
          · exact Or.inl ⟨C2, R2, H2, rl2, ql2, fd2, fu2, sp2, f1, f2, f3, by omega, f5⟩
          · exact Or.inr z
        · rw [hrf (-1) R' e2, e1]
          obtain ⟨H', rl', ql', fd', fu', f1, f2, f3, f4, f5, f6⟩ := id e3
          exact Or.inr ⟨C', R', k, rfl, zb_fl_neg f4, e3⟩
      by_cases h16 : zb_rK r = 16 ∧ ql = []
      · obtain ⟨h16, hql⟩ := h16
        subst hql
        have hrun : zb_RUN B r ∧ zb_RUNS B l := by
          rcases hn with ⟨_, _, hr⟩ | ⟨_, r0, l0, e, hf, hl⟩
          · exact ⟨hr r List.mem_cons_self, fun r' hr' => hr r' (List.mem_cons_of_mem _ hr')⟩
          · obtain ⟨e1, e2⟩ := List.cons.inj e
            subst e1 e2
            refine ⟨Or.inr (Or.inr (Or.inr (Or.inr (Or.inr (Or.inr (Or.inr (Or.inr ⟨?_, hf.1⟩))))))), hl⟩
            rcases hf.2 with z | ⟨ro, _, _, _, _, z, _⟩
            · exact z
            · omega
        obtain ⟨R1, R', s1, s2, s3, s4⟩ := zb_step_16e (Q := Q) (y := if g = 0 then 1 else 0) h h16 hrun.1 hrun.2 hZ9 hp x0
        refine fin _ _ s4 _ rfl (fun g' R'' e => ?_)
        obtain ⟨e1, e2⟩ := Prod.mk.inj (Option.some.inj e)
        subst e1 e2
        rw [zb_fl_go hg h53 s1]
        exact zb_fl_go (Or.inl ⟨rfl, rfl⟩) s2 s3
      · obtain ⟨zb_rf, s1, s2⟩ := zb_step_all (zb_sp := zb_sp) ev pr h hn hZ9 hp h16 x0
        refine fin _ _ s2 _ rfl (fun g' R'' e => ?_)
        rw [e, Option.bind_some] at s1
        exact zb_fl_go hg h53 s1
end LOO
