section STPS
variable {B : zb_Bs} {Q : zb_Pq} {Z sp0 zb_sp : Nat} {C R C' R' : eM} {H H' : zb_Hp} {rl ql : List (Nat × Nat)} {fd fu : Nat} {st l : List zb_Rec} {r r' : zb_Rec}
theorem zb_step_70 (ev : zb_EVOK B Q Z) (h : zb_SX B C R H rl ql fd (r :: l) fu) (hk : zb_rK r = 7) (hf : zb_FRS B r) (hl : zb_RUNS B l) (hZ9 : Z ≤ 999990) (hp : zb_sp + 20 * fu + 5 * (l.length + 1) ≤ Z) : zb_STP B Q Z zb_sp C R 0 := by
  obtain ⟨q0, ro, f1, f2, _, _, _, f3, f4, f5, f6, _⟩ := zb_frs_k hf (by omega) (by omega)
  have hx : zb_kX B (zb_rD r) (zb_rD r + 2) 1 ∧ fn_176 (zb_rD r : Int) B.2.1 = some ((zb_rD r + 2 : Nat) : Int) := by
    rcases f2 with ⟨z, _⟩ | ⟨z, _⟩ | ⟨z, _⟩ | ⟨z, _⟩ | ⟨z, _⟩ | ⟨z, x1, x2, x3⟩ | ⟨z, _⟩ | ⟨z, _⟩
    all_goals first | exact ⟨x1, x3⟩ | omega
  obtain ⟨hx, hx2⟩ := hx
  obtain ⟨⟨i1, i2, i3, i4, i5⟩, ⟨a1, a2, a3, a4, a5⟩, ⟨b1, b2, b3, b4, b5⟩, b6⟩ := zb_top_at h
  have w := zb_gs_w h.1.1
  rw [f6 (Or.inr (Or.inr hk))] at b3
  rw [hk] at a1 b1
  have hA : zb_rA r = zb_rD r + 1 := by rw [f4, hk]; rfl
  obtain ⟨e, ed, dp, k1, k2, k3, k4, k5, k6, k7, k8, k9, k10, k11⟩ := zb_kx_at hx
  intro x0
  refine ⟨_, zb_s210_ev (zb_d211z_7 (t := zb_tt l) (b6 (by omega)) (by omega) b1) (b6 (by omega)) (by omega) (by rw [b1]; decide), ?_⟩
  rw [zb_cl_res' i4 (by omega) i3 (by omega) (zb_f72_no (by omega) a1 (by decide)), zb_d104_7 (by omega) a1, b3, b5]
  have hcl : fn_122 B.2.2.1 (B.2.2.1 / 3 + 1) ((l.length + 1 : Nat) : Int) C = fn_111 B.2.2.1 (B.2.2.1 / 3 + 1) ((zb_rD r + 2 : Nat) : Int) (zb_rF r : Int) (eg_u C 32 (l.length + 1) ((zb_rD r + 2 : Nat) : Int)) := by
    unfold fn_122 fn_122_26
    rw [if_pos (by omega), Int.toNat_natCast, a3, a2, hA, zb_wi_p2 (by omega), if_pos (by omega), if_pos (by omega), if_pos (by omega), Int.toNat_natCast, Int.toNat_natCast, w.1.2.1, f3 (by omega), k2, if_neg (by omega), zb_bsome, zb_ev_in (by omega), a4]
  rw [hcl]
  have h' := zb_sx_to (x := zb_rD r + 2) (k' := 7) (y := ((zb_rD r + 2 : Nat) : Int)) (R' := R) h ⟨by omega, by omega, by omega⟩ ⟨by omega, by omega, by omega⟩ rfl (by rw [hk]) (by rw [b1]) rfl b3 (fun _ _ => rfl) (fun _ _ _ _ => rfl)
  exact zb_go_on ev h' (Or.inr (Or.inr (Or.inr (Or.inr (Or.inr (Or.inl ⟨rfl, rfl, q0, ⟨1, hx⟩, hx, hx2⟩)))))) hl k10 (show (7 : Nat) ≠ 15 by decide) k7 k8 (by omega) (Nat.le_refl _) (by omega)
theorem zb_step_7 (ev : zb_EVOK B Q Z) (h : zb_SX B C R H rl ql fd (r :: l) fu) (hk : zb_rK r = 7) (hr : zb_RUN B r) (hl : zb_RUNS B l) (hv : zb_VR (zb_vo H) (zb_hP H) B.2.2.2.1 (C 44 9) (R 45 70)) (hZ9 : Z ≤ 999990) (hp : zb_sp + 20 * fu + 5 * (l.length + 1) ≤ Z) : zb_STP B Q Z zb_sp C R 1 := by
  have hx : zb_rY r = (zb_rA r : Int) ∧ zb_rQ r = 0 ∧ (∃ q, zb_kX B (zb_rD r) (zb_rA r) q) ∧ zb_kX B (zb_rD r) (zb_rD r + 2) 1 ∧ fn_176 (zb_rD r : Int) B.2.1 = some ((zb_rD r + 2 : Nat) : Int) := by
    rcases hr with ⟨z, _⟩ | ⟨z, _⟩ | ⟨z, _⟩ | ⟨z, _⟩ | ⟨z, _⟩ | ⟨_, z⟩ | ⟨z, _⟩ | ⟨z, _⟩ | ⟨z, _⟩
    all_goals first | exact z | omega
  obtain ⟨x2, x3, ⟨q, x4⟩, x5, x6⟩ := hx
  obtain ⟨⟨i1, i2, i3, i4, i5⟩, ⟨a1, a2, a3, a4, a5⟩, ⟨b1, b2, b3, b4, b5⟩, b6⟩ := zb_top_at h
  obtain ⟨e, ed, dp, k1, k2, k3, k4, k5, k6, k7, k8, k9, k10, k11⟩ := zb_kx_at x4
  have w := zb_gs_w h.1.1
  have w53 : ∀ j, R 53 j = B.2.1 53 j := fun j => by rw [w.2.2.2.2.2.1]
  have h53 := b6 (by omega)
  rw [x2] at b3
  rw [hk] at a1 b1
  have h79 := b2 (by omega)
  have hfalse := (zb_gs_false h.1.1 hv).1
  have hCL : zb_CL B.2.2.1 Q (zb_sp : Int) C = _ := zb_cl_res' i4 (by omega) i3 (by omega) (zb_f72_no (by omega) a1 (by decide))
  intro x0
  by_cases hq : zb_rA r = zb_rD r + 2 ∧ C 44 9 = 4294967296
  · obtain ⟨p0, R9, p1, p2⟩ := zb_pop_v (Q := Q) (sp0 := zb_sp) (zb_sp := zb_sp) h (by omega) (by omega) hl zb_vr_nil hZ9 (Nat.le_refl zb_sp) (by omega)
    have hrf : fn_219 (R 79 (zb_tt l)) R = some (0, R9) := by
      unfold fn_219
      rw [h53, zb_wi_t1 (by omega), if_pos (by omega), Int.toNat_natCast, h79, zb_w176 w, x6, Option.bind_some, b3, if_neg (by omega), if_neg (fun z => z (hfalse.mp hq.2)), p1, Option.bind_some]
    refine ⟨some (0, R9), zb_s210_done (g := 0) (by rw [zb_d211_7 h53 (by omega) b1 rfl]; exact hrf) (by decide) (by decide), ?_⟩
    have hcl : fn_122 B.2.2.1 (B.2.2.1 / 3 + 1) ((l.length + 1 : Nat) : Int) C = some (eg_u (eg_u C 44 9 4294967298) 29 0 (l.length : Int)) := by
      unfold fn_122
      rw [if_pos (by omega), Int.toNat_natCast, a3, a2, zb_wi_p2 (by omega), if_neg (by omega), if_neg (by omega), zb_bsome, p0]
    rw [hCL, zb_d104_7 (by omega) a1, hcl, Option.bind_some]; exact p2
  · -- another datum
    have hc : fn_122 B.2.2.1 (B.2.2.1 / 3 + 1) ((l.length + 1 : Nat) : Int) C = fn_122_26 B.2.2.1 (B.2.2.1 / 3 + 1) ((l.length + 1 : Nat) : Int) (zb_rD r : Int) (zb_rA r : Int) C := by
      unfold fn_122
      rw [if_pos (by omega), Int.toNat_natCast, a3, a2, zb_wi_p2 (by omega)]
      by_cases hz : zb_rA r = zb_rD r + 2
      · rw [if_neg (by omega), if_pos (fun z => hq ⟨hz, z⟩)]
      · rw [if_pos (by omega)]
    have hr9 : fn_219 (R 79 (zb_tt l)) R = fn_219_22 (zb_rD r : Int) (zb_rA r : Int) R := by
      unfold fn_219
      rw [h53, zb_wi_t1 (by omega), if_pos (by omega), Int.toNat_natCast, h79, zb_w176 w, x6, Option.bind_some, b3]
      by_cases hz : zb_rA r = zb_rD r + 2
      · rw [if_neg (by omega), if_pos (fun z => hq ⟨hz, hfalse.mpr z⟩)]
      · rw [if_pos (by omega)]
    have key : ∀ x' : Nat, (∃ q, zb_kX B (zb_rD r) x' q) → fn_122_26 B.2.2.1 (B.2.2.1 / 3 + 1) ((l.length + 1 : Nat) : Int) (zb_rD r : Int) (zb_rA r : Int) C = fn_111 B.2.2.1 (B.2.2.1 / 3 + 1) (x' : Int) (zb_rF r : Int) (eg_u C 32 (l.length + 1) (x' : Int)) → fn_219_22 (zb_rD r : Int) (zb_rA r : Int) R = some (2, eg_u R 80 (zb_tt l) (x' : Int)) → ∃ zb_rf : Option (Int × eM), fn_210_13 x0 1 R = (zb_rf.bind fun r => some (.inl (r.1, r.2))) ∧ zb_RESV B Q Z zb_sp (zb_CL B.2.2.1 Q (zb_sp : Int) C) zb_rf := by
      intro x' hx' hc2 hr2
      refine ⟨_, zb_s210_ev (t := zb_tt l) (by rw [zb_d211_7 h53 (by omega) b1 rfl, hr9]; exact hr2) (by rw [eg_u_ne (by decide)]; exact h53) (by omega) (by rw [eg_u_ne (by decide), b1]; decide), ?_⟩
      rw [hCL, zb_d104_7 (by omega) a1, hc, hc2, eg_u_eq, eg_u_ne (by decide), b5]
      obtain ⟨q', hx'⟩ := hx'
      obtain ⟨dp9, dx, q1, q2, q3, q4⟩ := zb_e_run hx'
      have h' := zb_sx_to (x := x') (k' := 7) (y := (x' : Int)) (R' := eg_u R 80 (zb_tt l) (x' : Int)) h ⟨by omega, by omega, by omega⟩ ⟨by omega, by omega, by omega⟩ rfl (by rw [hk]) (by rw [eg_u_ne (by decide), b1]) (by rw [eg_u_ne (by decide)]) eg_u_eq zb_ho_80.1 zb_ho_80.2
      exact zb_go_on ev h' (Or.inr (Or.inr (Or.inr (Or.inr (Or.inr (Or.inl ⟨rfl, rfl, x3, ⟨q', hx'⟩, x5, x6⟩)))))) hl q4 (show (7 : Nat) ≠ 15 by decide) q1 q2 q3 (Nat.le_refl _) (by omega)
    rcases k11 with ⟨n1, n2, n3⟩ | ⟨n1, n2, n3⟩
    · refine key e ⟨_, n3⟩ ?_ ?_
      · unfold fn_122_26
        rw [if_pos (by omega), if_pos (by omega), Int.toNat_natCast, Int.toNat_natCast, w.1.2.1, k1, k2, if_neg (by omega), zb_bsome, zb_ev_in (by omega), a4]
      · unfold fn_219_22
        rw [if_pos (by omega), Int.toNat_natCast, w53, n2, if_pos (by omega), h53, zb_wi_t1 (by omega), if_pos (by omega), Int.toNat_natCast]
    · refine key (zb_rD r + 2) ⟨1, x5⟩ ?_ ?_
      · unfold fn_122_26
        rw [if_pos (by omega), if_pos (by omega), Int.toNat_natCast, Int.toNat_natCast, w.1.2.1, k1, k2, if_pos (by omega), zb_bsome, zb_wi_p2 (by omega), zb_ev_in (by omega), a4]
      · unfold fn_219_22
        rw [if_pos (by omega), Int.toNat_natCast, w53, n2, if_neg (by decide), zb_w176 w, x6, Option.bind_some, h53, zb_wi_t1 (by omega), if_pos (by omega), Int.toNat_natCast]
theorem zb_step_80 (ev : zb_EVOK B Q Z) (h : zb_SX B C R H rl ql fd (r :: l) fu) (hk : zb_rK r = 8 ∨ zb_rK r = 9) (hf : zb_FRS B r) (hl : zb_RUNS B l) (hZ9 : Z ≤ 999990) (hp : zb_sp + 20 * fu + 5 * (l.length + 1) ≤ Z) : zb_STP B Q Z zb_sp C R 0 := by
  obtain ⟨q0, ro, f1, f2, _, _, _, f3, f4, f5, f6, f7, f8, f9, f10⟩ := zb_frs_k hf (by omega) (by omega)
  have hx : (fn_208 (zb_rD r : Int) B.2.1 = some (-1) ∧ B.1 5 (zb_rD r) = B.1 5 (zb_rD r + 1)) ∨ (zb_kX B (zb_rD r) (zb_rD r + 2) 1 ∧ fn_208 (zb_rD r : Int) B.2.1 = some ((zb_rD r + 2 : Nat) : Int)) := by
    rcases f2 with ⟨z, _⟩ | ⟨z, _⟩ | ⟨z, _⟩ | ⟨z, _⟩ | ⟨z, _⟩ | ⟨z, _⟩ | ⟨z, x1⟩ | ⟨z, _⟩
    all_goals first | exact x1 | omega
  obtain ⟨⟨i1, i2, i3, i4, i5⟩, ⟨a1, a2, a3, a4, a5⟩, ⟨b1, b2, b3, b4, b5⟩, b6⟩ := zb_top_at h
  have w := zb_gs_w h.1.1
  have h53 := b6 (by omega)
  have hy := f9 hk
  have hA : zb_rA r = zb_rD r + 1 := by rw [f4]; unfold zb_ahd; rw [if_neg (by omega), if_neg (by omega)]
  obtain ⟨a, v, w', c30, h78, hav, hk'⟩ : ∃ a v w' : Int, C 30 (l.length + 1) = (zb_rK r : Int) ∧ R 78 (zb_tt l) = (zb_rK r : Int) ∧ ((a = 1 ∧ v = 4294967297 ∧ w' = 4294967296 ∧ zb_rK r = 8) ∨ (a = 0 ∧ v = 4294967296 ∧ w' = 8589934592 ∧ zb_rK r = 9)) ∧ zb_VR (zb_vo H) (zb_hP H) B.2.2.2.1 v w' := by
    rcases hk with z | z
    · exact ⟨1, 4294967297, 4294967296, by rw [a1, z]; rfl, by rw [b1, z]; rfl, Or.inl ⟨rfl, rfl, rfl, z⟩, Or.inr (Or.inr (Or.inl ⟨rfl, rfl⟩))⟩
    · exact ⟨0, 4294967296, 8589934592, by rw [a1, z]; rfl, by rw [b1, z]; rfl, Or.inr ⟨rfl, rfl, rfl, z⟩, Or.inr (Or.inl ⟨rfl, rfl⟩)⟩
  have h104 : fn_104 B.2.2.1 (B.2.2.1 / 3 + 1) ((l.length + 1 : Nat) : Int) C = fn_123 B.2.2.1 (B.2.2.1 / 3 + 1) ((l.length + 1 : Nat) : Int) C := by
    rcases hk with z | z
    · exact zb_d104_8 (by omega) (by rw [c30, z]; rfl)
    · exact zb_d104_9 (by omega) (by rw [c30, z]; rfl)
  have h211 : fn_211 0 R = fn_220 0 R := by
    rcases hk with z | z
    · exact zb_d211_8 h53 (by omega) (by rw [h78, z]; rfl)
    · exact zb_d211_9 h53 (by omega) (by rw [h78, z]; rfl)
  have hCL : zb_CL B.2.2.1 Q (zb_sp : Int) C = _ := zb_cl_res' i4 (by omega) i3 (by omega) (zb_f72_no (by omega) c30 (by omega))
  have h123 : fn_123 B.2.2.1 (B.2.2.1 / 3 + 1) ((l.length + 1 : Nat) : Int) C = fn_123_32 B.2.2.1 (B.2.2.1 / 3 + 1) ((l.length + 1 : Nat) : Int) (zb_rD r : Int) ((zb_rD r + 1 : Nat) : Int) a (eg_u C 44 9 v) := by
    unfold fn_123 fn_123_22 fn_44
    rw [if_pos (by omega), Int.toNat_natCast, c30, a2, a3, hA, zb_wi_1 (by omega)]
    rcases hav with ⟨z1, z2, z3, z4⟩ | ⟨z1, z2, z3, z4⟩
    · rw [if_neg (by omega), if_neg (fun z => z rfl), if_neg (by decide), Option.bind_some, z1, z2]
    · rw [if_pos (by omega), if_neg (fun z => z rfl), if_pos (by decide), Option.bind_some, z1, z2]
  have h220 : fn_220 0 R = if 0 ≤ zb_rY r then some (2, R) else fn_213 w' R := by
    unfold fn_220 fn_220_20
    rw [h53, zb_wi_t1 (by omega), if_pos (by omega), Int.toNat_natCast, h78, b3]
    rcases hav with ⟨z1, z2, z3, z4⟩ | ⟨z1, z2, z3, z4⟩
    · rw [if_neg (by omega), if_neg (fun z => z rfl)]
      by_cases hq : 0 ≤ zb_rY r
      · rw [if_pos hq, if_pos hq]
      · rw [if_neg hq, if_neg hq, if_neg (by decide), z3]
        cases fn_213 4294967296 R <;> rfl
    · rw [if_pos (by omega), if_neg (fun z => z rfl)]
      by_cases hq : 0 ≤ zb_rY r
      · rw [if_pos hq, if_pos hq]
      · rw [if_neg hq, if_neg hq, if_pos rfl, z3]
        cases fn_213 8589934592 R <;> rfl
  have h5 := f3 (by omega)
  have hv5 : (eg_u C 44 9 v) 5 = B.1 5 := by rw [eg_u_ne (by decide), w.1.2.1]
  intro x0
  rcases hx with ⟨x1, x2⟩ | ⟨x1, x2⟩
  · have hyy : zb_rY r = -1 := by rw [x1] at hy; exact (Option.some.inj hy).symm
    obtain ⟨p0, R9, p1, p2⟩ := zb_pop_v (Q := Q) (sp0 := zb_sp) (zb_sp := zb_sp) h (by omega) (by omega) hl hk' hZ9 (Nat.le_refl zb_sp) (by omega)
    rw [hyy, if_neg (by decide), p1] at h220
    refine ⟨some (0, R9), zb_s210_done (g := 0) (by rw [h211]; exact h220) (by decide) (by decide), ?_⟩
    have hcl : fn_123_32 B.2.2.1 (B.2.2.1 / 3 + 1) ((l.length + 1 : Nat) : Int) (zb_rD r : Int) ((zb_rD r + 1 : Nat) : Int) a (eg_u C 44 9 v) = some (eg_u (eg_u C 44 9 v) 29 0 (l.length : Int)) := by
      unfold fn_123_32 fn_109
      rw [if_pos (by omega), if_pos (by omega), hv5, Int.toNat_natCast, Int.toNat_natCast, x2, if_pos (Int.le_refl _), Option.bind_some, eg_u_ne (by decide), i3, zb_wi_n1 (by omega)]
    rw [hCL, h104, h123, hcl, Option.bind_some]; exact p2
  · have hyy : zb_rY r = ((zb_rD r + 2 : Nat) : Int) := by rw [x2] at hy; exact (Option.some.inj hy).symm
    rw [hyy, if_pos (by omega)] at h220
    rw [hyy] at b3
    obtain ⟨e, ed, dp, k1, k2, k3, k4, k5, k6, k7, k8, k9, k10, k11⟩ := zb_kx_at x1
    refine ⟨_, zb_s210_ev (t := zb_tt l) (by rw [h211]; exact h220) h53 (by omega) (by rw [h78]; omega), ?_⟩
    have hcl : fn_123_32 B.2.2.1 (B.2.2.1 / 3 + 1) ((l.length + 1 : Nat) : Int) (zb_rD r : Int) ((zb_rD r + 1 : Nat) : Int) a (eg_u C 44 9 v) = fn_111 B.2.2.1 (B.2.2.1 / 3 + 1) ((zb_rD r + 2 : Nat) : Int) (zb_rF r : Int) (eg_u (eg_u C 44 9 v) 32 (l.length + 1) ((zb_rD r + 2 : Nat) : Int)) := by
      unfold fn_123_32
      rw [if_pos (by omega), if_pos (by omega), hv5, Int.toNat_natCast, Int.toNat_natCast, h5, k2, if_neg (by omega), eg_u_eq, zb_bsome, zb_ev_in (by omega), eg_u_ne (by decide), a4]
      rcases hav with ⟨z1, z2, z3, z4⟩ | ⟨z1, z2, z3, z4⟩
      · rw [if_neg (by omega), if_neg (by omega), zb_bsome]
      · rw [if_pos z2, if_neg (by omega), zb_bsome]
    rw [hCL, h104, h123, hcl, b3, b5]
    have h9 := zb_sx_9 (v := v) h
    have h' := zb_sx_to (x := zb_rD r + 2) (k' := zb_rK r) (y := ((zb_rD r + 2 : Nat) : Int)) (R' := R) h9 ⟨by omega, by omega, by omega⟩ ⟨by omega, by omega, by omega⟩ rfl rfl b1 rfl b3 (fun _ _ => rfl) (fun _ _ _ _ => rfl)
    exact zb_go_on ev h' (Or.inr (Or.inr (Or.inr (Or.inr (Or.inl ⟨Or.inr (by rcases hk with z | z; exact Or.inl z; exact Or.inr (Or.inl z)), rfl, q0, ⟨1, x1⟩, show zb_rD r + 1 < zb_rD r + 2 by omega⟩))))) hl k10 (show zb_rK r ≠ 15 by omega) k7 k8 (by omega) (Nat.le_refl _) (by omega)
theorem zb_step_8 (ev : zb_EVOK B Q Z) (h : zb_SX B C R H rl ql fd (r :: l) fu) (hk : zb_rK r = 8 ∨ zb_rK r = 9) (hr : zb_RUN B r) (hl : zb_RUNS B l) (hv : zb_VR (zb_vo H) (zb_hP H) B.2.2.2.1 (C 44 9) (R 45 70)) (hZ9 : Z ≤ 999990) (hp : zb_sp + 20 * fu + 5 * (l.length + 1) ≤ Z) : zb_STP B Q Z zb_sp C R 1 := by
  have hx : zb_rY r = (zb_rA r : Int) ∧ zb_rQ r = 0 ∧ (∃ q, zb_kX B (zb_rD r) (zb_rA r) q) ∧ zb_rD r + 1 < zb_rA r := by
    rcases hr with ⟨z, _⟩ | ⟨z, _⟩ | ⟨z, _⟩ | ⟨z, _⟩ | ⟨_, z⟩ | ⟨z, _⟩ | ⟨z, _⟩ | ⟨z, _⟩ | ⟨z, _⟩
    all_goals first | exact z | omega
  obtain ⟨x2, x3, ⟨q, x4⟩, x5⟩ := hx
  obtain ⟨⟨i1, i2, i3, i4, i5⟩, ⟨a1, a2, a3, a4, a5⟩, ⟨b1, b2, b3, b4, b5⟩, b6⟩ := zb_top_at h
  obtain ⟨e, ed, dp, k1, k2, k3, k4, k5, k6, k7, k8, k9, k10, k11⟩ := zb_kx_at x4
  have w := zb_gs_w h.1.1
  have w53 : ∀ j, R 53 j = B.2.1 53 j := fun j => by rw [w.2.2.2.2.2.1]
  have h53 := b6 (by omega)
  rw [x2] at b3
  have hfalse := (zb_gs_false h.1.1 hv).1
  obtain ⟨a, c30, h78, hav⟩ : ∃ a : Int, C 30 (l.length + 1) = (zb_rK r : Int) ∧ R 78 (zb_tt l) = (zb_rK r : Int) ∧ ((a = 1 ∧ zb_rK r = 8) ∨ (a = 0 ∧ zb_rK r = 9)) := by
    rcases hk with z | z
    · exact ⟨1, by rw [a1, z]; rfl, by rw [b1, z]; rfl, Or.inl ⟨rfl, z⟩⟩
    · exact ⟨0, by rw [a1, z]; rfl, by rw [b1, z]; rfl, Or.inr ⟨rfl, z⟩⟩
  have h104 : fn_104 B.2.2.1 (B.2.2.1 / 3 + 1) ((l.length + 1 : Nat) : Int) C = fn_123 B.2.2.1 (B.2.2.1 / 3 + 1) ((l.length + 1 : Nat) : Int) C := by
    rcases hk with z | z
    · exact zb_d104_8 (by omega) (by rw [c30, z]; rfl)
    · exact zb_d104_9 (by omega) (by rw [c30, z]; rfl)
  have h211 : fn_211 1 R = fn_220 1 R := by
    rcases hk with z | z
    · exact zb_d211_8 h53 (by omega) (by rw [h78, z]; rfl)
    · exact zb_d211_9 h53 (by omega) (by rw [h78, z]; rfl)
  have hCL : zb_CL B.2.2.1 Q (zb_sp : Int) C = _ := zb_cl_res' i4 (by omega) i3 (by omega) (zb_f72_no (by omega) c30 (by omega))
  have h123 : fn_123 B.2.2.1 (B.2.2.1 / 3 + 1) ((l.length + 1 : Nat) : Int) C = fn_123_32 B.2.2.1 (B.2.2.1 / 3 + 1) ((l.length + 1 : Nat) : Int) (zb_rD r : Int) (zb_rA r : Int) a C := by
    unfold fn_123 fn_123_22
    rw [if_pos (by omega), Int.toNat_natCast, c30, a2, a3, zb_wi_1 (by omega)]
    rcases hav with ⟨z1, z4⟩ | ⟨z1, z4⟩
    · rw [if_neg (by omega), if_pos (by omega), z1]
    · rw [if_pos (by omega), if_pos (by omega), z1]
  obtain ⟨b, hb1, hb2⟩ : ∃ b : Int, fn_220 1 R = fn_220_54 1 (zb_rA r : Int) b R ∧ ((b = 1 ∧ ((a = 1 ∧ C 44 9 = 4294967296) ∨ (a = 0 ∧ C 44 9 ≠ 4294967296))) ∨ (b = 0 ∧ ((a = 1 ∧ C 44 9 ≠ 4294967296) ∨ (a = 0 ∧ C 44 9 = 4294967296)))) := by
    unfold fn_220 fn_220_20
    rw [h53, zb_wi_t1 (by omega), if_pos (by omega), Int.toNat_natCast, h78, b3]
    rcases hav with ⟨z1, z4⟩ | ⟨z1, z4⟩
    · rw [if_neg (by omega), if_pos (by decide), if_neg (by decide)]
      by_cases hq : R 45 70 = 8589934592
      · rw [if_neg (fun z => z hq)]; exact ⟨1, rfl, Or.inl ⟨rfl, Or.inl ⟨z1, hfalse.mpr hq⟩⟩⟩
      · rw [if_pos hq]; exact ⟨0, rfl, Or.inr ⟨rfl, Or.inl ⟨z1, fun z => hq (hfalse.mp z)⟩⟩⟩
    · rw [if_pos (by omega), if_pos (by decide), if_pos rfl]
      by_cases hq : R 45 70 = 8589934592
      · rw [if_pos hq]; exact ⟨0, rfl, Or.inr ⟨rfl, Or.inr ⟨z1, hfalse.mpr hq⟩⟩⟩
      · rw [if_neg hq]; exact ⟨1, rfl, Or.inl ⟨rfl, Or.inr ⟨z1, fun z => hq (hfalse.mp z)⟩⟩⟩
  obtain ⟨p0, R9, p1, p2⟩ := zb_pop_same (Q := Q) (sp0 := zb_sp) (zb_sp := zb_sp) h (by omega) (by omega) hl hv hZ9 (Nat.le_refl zb_sp) (by omega)
  intro x0
  have ends : fn_220_54 1 (zb_rA r : Int) b R = some (0, R9) → fn_123_32 B.2.2.1 (B.2.2.1 / 3 + 1) ((l.length + 1 : Nat) : Int) (zb_rD r : Int) (zb_rA r : Int) a C = some (eg_u C 29 0 (l.length : Int)) → ∃ zb_rf : Option (Int × eM), fn_210_13 x0 1 R = (zb_rf.bind fun r => some (.inl (r.1, r.2))) ∧ zb_RESV B Q Z zb_sp (zb_CL B.2.2.1 Q (zb_sp : Int) C) zb_rf := by
    intro e1 e2
    refine ⟨some (0, R9), zb_s210_done (g := 0) (by rw [h211, hb1]; exact e1) (by decide) (by decide), ?_⟩
    rw [hCL, h104, h123, e2, Option.bind_some]; exact p2
  rcases k11 with ⟨n1, n2, n3⟩ | ⟨n1, n2, n3⟩
  · rcases hb2 with ⟨hb, hc⟩ | ⟨hb, hc⟩
    · refine ends ?_ ?_
      · unfold fn_220_54
        rw [if_pos (by omega), hb, if_pos (by decide), p1, Option.bind_some]
      · unfold fn_123_32
        rw [if_pos (by omega), if_pos (by omega), Int.toNat_natCast, Int.toNat_natCast, w.1.2.1, k1, k2, if_neg (by omega), p0]
        rcases hc with ⟨z1, z2⟩ | ⟨z1, z2⟩
        · rw [if_pos z2, if_pos (by omega), Option.bind_some]
        · rw [if_neg z2, if_pos (by omega), Option.bind_some]
    · have hr2 : fn_220_54 1 (zb_rA r : Int) b R = some (2, eg_u R 80 (zb_tt l) (e : Int)) := by
        unfold fn_220_54
        rw [if_pos (by omega), hb, if_neg (fun z => z rfl), Int.toNat_natCast, w53, n2, if_pos (by omega), h53, zb_wi_t1 (by omega), if_pos (by omega), Int.toNat_natCast]
      refine ⟨_, zb_s210_ev (t := zb_tt l) (by rw [h211, hb1]; exact hr2) (by rw [eg_u_ne (by decide)]; exact h53) (by omega) (by rw [eg_u_ne (by decide), h78]; omega), ?_⟩
      have hcl : fn_123_32 B.2.2.1 (B.2.2.1 / 3 + 1) ((l.length + 1 : Nat) : Int) (zb_rD r : Int) (zb_rA r : Int) a C = fn_111 B.2.2.1 (B.2.2.1 / 3 + 1) (e : Int) (zb_rF r : Int) (eg_u C 32 (l.length + 1) (e : Int)) := by
        unfold fn_123_32
        rw [if_pos (by omega), if_pos (by omega), Int.toNat_natCast, Int.toNat_natCast, w.1.2.1, k1, k2, if_neg (by omega), zb_bsome, zb_ev_in (by omega), a4]
        rcases hc with ⟨z1, z2⟩ | ⟨z1, z2⟩
        · rw [if_neg z2, if_neg (by omega), zb_bsome]
        · rw [if_pos z2, if_neg (by omega), zb_bsome]
      rw [hCL, h104, h123, hcl, eg_u_eq, eg_u_ne (by decide), b5]
      obtain ⟨dp9, dx, q1, q2, q3, q4⟩ := zb_e_run n3
      have h' := zb_sx_to (x := e) (k' := zb_rK r) (y := (e : Int)) (R' := eg_u R 80 (zb_tt l) (e : Int)) h ⟨by omega, by omega, by omega⟩ ⟨by omega, by omega, by omega⟩ rfl rfl (by rw [eg_u_ne (by decide), b1]) (by rw [eg_u_ne (by decide)]) eg_u_eq zb_ho_80.1 zb_ho_80.2
      exact zb_go_on ev h' (Or.inr (Or.inr (Or.inr (Or.inr (Or.inl ⟨Or.inr (by rcases hk with z | z; exact Or.inl z; exact Or.inr (Or.inl z)), rfl, x3, ⟨_, n3⟩, show zb_rD r + 1 < e by omega⟩))))) hl q4 (show zb_rK r ≠ 15 by omega) q1 q2 q3 (Nat.le_refl _) (by omega)
  · refine ends ?_ ?_
    · unfold fn_220_54
      rw [if_pos (by omega), Int.toNat_natCast, w53, n2, p1, Option.bind_some]
      by_cases hq : b = 0
      · rw [if_neg (fun z => z hq), if_neg (show ¬ (0 : Int) ≤ -1 by decide)]
      · rw [if_pos hq]
    · unfold fn_123_32
      rw [if_pos (by omega), if_pos (by omega), Int.toNat_natCast, Int.toNat_natCast, w.1.2.1, k1, k2, if_pos (by omega), p0, Option.bind_some]
end STPS
section STPS
variable {B : zb_Bs} {Q : zb_Pq} {Z sp0 zb_sp : Nat} {C R C' R' : eM} {H H' : zb_Hp} {rl ql : List (Nat × Nat)} {fd fu : Nat} {st l : List zb_Rec} {r r' : zb_Rec}
theorem zb_sx_gs (h : zb_SX B C R H rl ql fd st fu) (g : zb_GS B C' R' H rl ql fd) (hc : ∀ c, c ∈ zb_CC → C' c = C c) (h15 : C' 15 = C 15) (hr : ∀ c, c ∈ ([77, 78, 79, 80, 81, 82] : List Nat) → R' c = R c) (h45 : R' 45 = R 45) : zb_SX B C' R' H rl ql fd st fu := by
  obtain ⟨⟨_, s, c, fl, t1, t2, t3⟩, f, ca, dp⟩ := h
  have low : zb_LOW C C' R R' st := ⟨fun c i h1 _ _ => by rw [hc c (by revert h1; simp [zb_CC]; omega)], fun i _ => by rw [hc 35 (by decide)], fun c t h1 _ => by rw [hr c (by revert h1; simp; omega)], fun b _ => by rw [hr 77 (by decide)]⟩
  refine ⟨⟨g, zb_low_str low s, zb_low_ctl low c, zb_flg_congr fl (by rw [hc 44 (by decide)]; exact fl.1.1) (hc 43 (by decide)) (by rw [h15]; exact ⟨fl.1.2.2.2.1, fl.1.2.2.2.2⟩) (hc 36 (by decide)) (fun f _ => by rw [h45]), by rw [hc 29 (by decide)]; exact t1, by rw [h45]; exact t2, by rw [h45]; exact t3⟩, ?_, ?_, dp⟩
  · unfold zb_FUE; rw [hc 44 (by decide), h45]; exact f
  · unfold zb_CAL zb_BUD at *; rw [hc 44 (by decide), h45]; exact ca
theorem zb_put_n3 {cn N : Nat} {lam : Nat → Prop} {scp : Nat → Nat → Prop} (hr : zb_HR C R H cn N lam scp) {g i : Nat} (hg : g ∈ zb_hO H) (hi : i < zb_hZ H g) (hk : zb_hK H g ≠ 3) : ∀ h, h ∈ zb_hO H → zb_hK H h = 3 → zb_hS H h + 1 ≠ zb_hS H g + i := by
  intro h hh hk3 e
  have hne : h ≠ g := fun z => hk (by rw [← z]; exact hk3)
  obtain ⟨⟨fl, hs, hH⟩, _⟩ := id hr
  have hz := (zb_hr_ob hr hh).2.2.2.1
  have hz4 : zb_hZ H h = 4 := by unfold zb_szk at hz; omega
  have := zb_cum_dis hH.2.1 (zb_hr_nd hr) h g hh hg hne
  omega
theorem zb_gs_put {a b : Nat} {v w : Int} (g : zb_GS B C R H rl ql fd) (ha : ∀ h, h ∈ zb_hO H → zb_hK H h = 3 → zb_hS H h + 1 ≠ a) (hr : zb_HR (eg_u C 16 a v) (eg_u R 70 b w) H B.2.2.1 B.2.2.2.1 (zb_lamW B.1 B.2.1 B.2.2.2.1 B.2.2.2.2) (zb_scpW B.1 B.2.1 B.2.2.2.1 B.2.2.2.2)) : zb_GS B (eg_u C 16 a v) (eg_u R 70 b w) H rl ql fd :=
  zb_gs_tr g hr (fun g hg => zb_trg_rfl hg) (fun h hh hk => eg_u_nj (fun z => ha h hh hk z.2)) (by have := zb_gs_num g; unfold zb_NUM at *; rw [eg_u_ne (by decide), eg_u_ne (by decide)]; exact this) (fun c _ h2 => eg_u_ne (fun e => h2 (by rw [e]; decide))) (fun c _ h2 => eg_u_ne (fun e => h2 (by rw [e]; decide))) (fun f _ _ => by rw [eg_u_ne (by decide)])
theorem zb_sx_put {a b : Nat} {v w : Int} (h : zb_SX B C R H rl ql fd st fu) (ha : ∀ h, h ∈ zb_hO H → zb_hK H h = 3 → zb_hS H h + 1 ≠ a) (hr : zb_HR (eg_u C 16 a v) (eg_u R 70 b w) H B.2.2.1 B.2.2.2.1 (zb_lamW B.1 B.2.1 B.2.2.2.1 B.2.2.2.2) (zb_scpW B.1 B.2.1 B.2.2.2.1 B.2.2.2.2)) : zb_SX B (eg_u C 16 a v) (eg_u R 70 b w) H rl ql fd st fu :=
  zb_sx_gs h (zb_gs_put h.1.1 ha hr) (fun c hc => eg_u_ne (fun e => by rw [e] at hc; revert hc; decide)) (eg_u_ne (by decide)) (fun c hc => eg_u_ne (fun e => by rw [e] at hc; revert hc; decide)) (eg_u_ne (by decide))
theorem zb_gs_glob {n : Nat} {v w : Int} (g : zb_GS B C R H rl ql fd) (hn : n < B.2.2.2.1) (hv : zb_VR (zb_vo H) (zb_hP H) B.2.2.2.1 v w) : zb_GS B (eg_u C 37 n v) (eg_u R 72 n w) H rl ql fd := by
  obtain ⟨g1, g2, g3, ⟨L, B', g4⟩, g5, g6, g7, g8, g9⟩ := g
  have hc : ∀ c, c ≠ 37 → (eg_u C 37 n v) c = C c := fun c h => eg_u_ne h
  have hr : ∀ c, c ≠ 72 → (eg_u R 72 n w) c = R c := fun c h => eg_u_ne h
  refine ⟨zb_hr_congr g1 (fun f _ => by rw [hc 15 (by decide)]) (fun c h => hc c (by revert h; simp; omega)) (fun f _ => by rw [hr 45 (by decide)]) (fun c h => hr c (by revert h; simp; omega)),
    zb_fr_congr g2 (fun f hf => by rw [hc 21 (by decide)]) (fun c h => hc c (by revert h; simp; omega)) (fun f _ => by rw [hr 45 (by decide)]) (fun c h => hr c (by revert h; simp; omega)),
    zb_rows_congr g3 (fun c h => hc c (by revert h; simp; omega)) (fun c h => hr c (by revert h; simp; omega)),
    ⟨L, B', zb_nm_congr g4 (hc 1 (by decide)) (hc 2 (by decide)) (hc 3 (by decide)) (by rw [hr 45 (by decide)]) (hr 47 (by decide)) (hr 48 (by decide))⟩, fun m hm => ?_, by rw [hc 38 (by decide), hr 45 (by decide)]; exact g6, zb_out_congr g7 (hc 26 (by decide)) (hc 27 (by decide)) (by rw [hr 45 (by decide)]) (hr 86 (by decide)), fun x hx => by unfold zb_cl; rw [hc 16 (by decide)]; exact g8 x hx, by rw [hc 15 (by decide)]; exact g9.1, fun h hh => by rw [hc 15 (by decide), hc 20 (by decide)]; exact g9.2 h hh⟩
  by_cases he : m = n
  · rw [he, eg_u_eq, eg_u_eq]; exact Or.inl ⟨hn, hv⟩
  · rw [eg_u_nj (fun z => he z.2), eg_u_nj (fun z => he z.2)]; exact g5 m hm
theorem zb_sx_glob {n : Nat} {v w : Int} (h : zb_SX B C R H rl ql fd st fu) (hn : n < B.2.2.2.1) (hv : zb_VR (zb_vo H) (zb_hP H) B.2.2.2.1 v w) : zb_SX B (eg_u C 37 n v) (eg_u R 72 n w) H rl ql fd st fu :=
  zb_sx_gs h (zb_gs_glob h.1.1 hn hv) (fun c hc => eg_u_ne (fun e => by rw [e] at hc; revert hc; decide)) (eg_u_ne (by decide)) (fun c hc => eg_u_ne (fun e => by rw [e] at hc; revert hc; decide)) (eg_u_ne (by decide))
theorem zb_step_20 (ev : zb_EVOK B Q Z) (h : zb_SX B C R H rl ql fd (r :: l) fu) (hk : zb_rK r = 2 ∨ zb_rK r = 3) (hf : zb_FRS B r) (hl : zb_RUNS B l) (hZ9 : Z ≤ 999990) (hp : zb_sp + 20 * fu + 5 * (l.length + 1) ≤ Z) : zb_STP B Q Z zb_sp C R 0 := by
  obtain ⟨q0, ro, f1, f2, _, _, _, f3, f4, f5, f6, f7, f8, f9, f10⟩ := zb_frs_k hf (by omega) (by omega)
  have hx : (zb_rK r = 2 ∨ (zb_rK r = 3 ∧ ro = 2)) ∧ zb_NMD B.1 B.2.1 B.2.2.2.1 (zb_rD r) ∧ zb_kX B (zb_rD r) (zb_rD r + 3) 2 := by
    rcases f2 with ⟨z, _⟩ | ⟨z, _⟩ | z | ⟨z, _⟩ | ⟨z, _⟩ | ⟨z, _⟩ | ⟨z, _⟩ | ⟨z, _⟩
    all_goals first | exact z | omega
  obtain ⟨y1, y2, y3⟩ := hx
  obtain ⟨⟨i1, i2, i3, i4, i5⟩, ⟨a1, a2, a3, a4, a5⟩, ⟨b1, b2, b3, b4, b5⟩, b6⟩ := zb_top_at h
  have w := zb_gs_w h.1.1
  have h53 := b6 (by omega)
  rw [f7 hk] at b3
  have hA : zb_rA r = zb_rD r + 1 := by rw [f4]; unfold zb_ahd; rw [if_neg (by omega), if_neg (by omega)]
  obtain ⟨c30, h78⟩ : C 30 (l.length + 1) = (zb_rK r : Int) ∧ R 78 (zb_tt l) = (zb_rK r : Int) := by
    rcases hk with z | z
    · exact ⟨by rw [a1, z]; rfl, by rw [b1, z]; rfl⟩
    · exact ⟨by rw [a1, z]; rfl, by rw [b1, z]; rfl⟩
  obtain ⟨e, ed, dp, k1, k2, k3, k4, k5, k6, k7, k8, k9, k10, k11⟩ := zb_kx_at y3
  have h104 : fn_104 B.2.2.1 (B.2.2.1 / 3 + 1) ((l.length + 1 : Nat) : Int) C = fn_116 B.2.2.1 (B.2.2.1 / 3 + 1) ((l.length + 1 : Nat) : Int) C := by
    rcases hk with z | z
    · exact zb_d104_2 (by omega) (by rw [c30, z]; rfl)
    · exact zb_d104_3 (by omega) (by rw [c30, z]; rfl)
  have h211 : fn_211 0 R = some (2, R) := by
    rcases hk with z | z
    · exact zb_d211z_2 h53 (by omega) (by rw [h78, z]; rfl)
    · exact zb_d211z_3 h53 (by omega) (by rw [h78, z]; rfl)
  intro x0
  refine ⟨_, zb_s210_ev (t := zb_tt l) h211 h53 (by omega) (by rw [h78]; omega), ?_⟩
  have hcl : fn_116 B.2.2.1 (B.2.2.1 / 3 + 1) ((l.length + 1 : Nat) : Int) C = fn_111 B.2.2.1 (B.2.2.1 / 3 + 1) ((zb_rD r + 3 : Nat) : Int) (zb_rF r : Int) (eg_u C 32 (l.length + 1) ((zb_rD r + 3 : Nat) : Int)) := by
    unfold fn_116
    rw [if_pos (by omega), Int.toNat_natCast, a3, a2, hA, zb_wi_1 (by omega), if_neg (fun z => z rfl), zb_wi_p3 (by omega), zb_bsome, zb_ev_in (by omega), a4]
  rw [zb_cl_res' i4 (by omega) i3 (by omega) (zb_f72_no (by omega) c30 (by omega)), h104, hcl, b3, b5]
  have h' := zb_sx_to (x := zb_rD r + 3) (k' := zb_rK r) (y := ((zb_rD r + 3 : Nat) : Int)) (R' := R) h ⟨by omega, by omega, by omega⟩ ⟨by omega, by omega, by omega⟩ rfl rfl b1 rfl b3 (fun _ _ => rfl) (fun _ _ _ _ => rfl)
  refine zb_go_on ev h' (Or.inr (Or.inr (Or.inl ⟨?_, rfl, rfl, q0, y2, y3⟩))) hl k10 (show zb_rK r ≠ 15 by omega) k7 k8 (by omega) (Nat.le_refl _) (by omega)
  rcases y1 with z | ⟨z, z2⟩
  · exact Or.inl z
  · exact Or.inr ⟨z, f1 z2⟩
theorem zb_step_2 (h : zb_SX B C R H rl ql fd (r :: l) fu) (hk : zb_rK r = 2 ∨ zb_rK r = 3) (hr : zb_RUN B r) (hl : zb_RUNS B l) (hv : zb_VR (zb_vo H) (zb_hP H) B.2.2.2.1 (C 44 9) (R 45 70)) (hZ9 : Z ≤ 999990) (hp : zb_sp + 20 * fu + 5 * (l.length + 1) ≤ Z) : zb_STP B Q Z zb_sp C R 1 := by
  have hx : (zb_rK r = 2 ∨ (zb_rK r = 3 ∧ zb_rF r = 0)) ∧ zb_rA r = zb_rD r + 3 ∧ zb_rY r = (zb_rA r : Int) ∧ zb_rQ r = 0 ∧ zb_NMD B.1 B.2.1 B.2.2.2.1 (zb_rD r) ∧ zb_kX B (zb_rD r) (zb_rA r) 2 := by
    rcases hr with ⟨z, _⟩ | ⟨z, _⟩ | z | ⟨z, _⟩ | ⟨z, _⟩ | ⟨z, _⟩ | ⟨z, _⟩ | ⟨z, _⟩ | ⟨z, _⟩
    all_goals first | exact z | omega
  obtain ⟨x1, x2, x3, x4, ⟨y1, y2, y3, n, y4, y5, y6⟩, x5⟩ := hx
  obtain ⟨⟨i1, i2, i3, i4, i5⟩, ⟨a1, a2, a3, a4, a5⟩, ⟨b1, b2, b3, b4, b5⟩, b6⟩ := zb_top_at h
  obtain ⟨hN, _, _⟩ := zb_gs_N h.1.1
  have w := zb_gs_w h.1.1
  have h53 := b6 (by omega)
  have h79 := b2 (by omega)
  obtain ⟨c30, h78⟩ : C 30 (l.length + 1) = (zb_rK r : Int) ∧ R 78 (zb_tt l) = (zb_rK r : Int) := by
    rcases hk with z | z
    · exact ⟨by rw [a1, z]; rfl, by rw [b1, z]; rfl⟩
    · exact ⟨by rw [a1, z]; rfl, by rw [b1, z]; rfl⟩
  have h104 : fn_104 B.2.2.1 (B.2.2.1 / 3 + 1) ((l.length + 1 : Nat) : Int) C = fn_116 B.2.2.1 (B.2.2.1 / 3 + 1) ((l.length + 1 : Nat) : Int) C := by
    rcases hk with z | z
    · exact zb_d104_2 (by omega) (by rw [c30, z]; rfl)
    · exact zb_d104_3 (by omega) (by rw [c30, z]; rfl)
  have h211 : fn_211 1 R = fn_215 (zb_rD r : Int) R := by
    rcases hk with z | z
    · rw [zb_d211_2 h53 (by omega) (by rw [h78, z]; rfl) rfl, h79]
    · rw [zb_d211_3 h53 (by omega) (by rw [h78, z]; rfl) rfl, h79]
  have c4 : C 4 (zb_rD r + 2) = 8589934592 + (n : Int) := by rw [w.1.1]; exact y6
  have r50 : R 50 (zb_rD r + 2) = (n : Int) := by rw [w.2.2.1]; exact y5
  have hfr := h.1.2.1.1.1.2.2.2
  have e116 : fn_116 B.2.2.1 (B.2.2.1 / 3 + 1) ((l.length + 1 : Nat) : Int) C = ((fn_115 B.2.2.1 (B.2.2.1 / 3 + 1) ((zb_rD r + 2 : Nat) : Int) (zb_rF r : Int) C).bind fun r7 =>
        if r7 < 0 then
          if (zb_rK r : Int) = 3 then
            fn_103 4294967298 (eg_u C 37 n (C 44 9))
          else
            if C 37 n = 21474836480 then
                fn_103 4294967298 (eg_u C 44 8 5)
              else
                fn_103 4294967298 (eg_u C 37 n (C 44 9))
        else
          (fn_94 B.2.2.1 (B.2.2.1 / 3 + 1) (eg_wi (Int.tdiv r7 8)) (eg_wi (3 + (eg_wi (r7 - eg_wi (Int.tdiv r7 8) * 8)))) (C 44 9) C).bind fun m27 =>
          fn_103 4294967298 m27) := by
    unfold fn_116
    rw [if_pos (by omega), Int.toNat_natCast, a3, a2, a4, c30, x2, zb_wi_1 (by omega), if_pos (by omega), zb_wi_p2 (by omega), if_pos (by omega), Int.toNat_natCast, c4, zb_wi_sy (by omega), if_pos (show 0 ≤ (n : Int) ∧ (n : Int) < 444 by omega), if_pos (show 0 ≤ (n : Int) ∧ (n : Int) < 444 by omega), Int.toNat_natCast]
    simp only [zb_bsome]
  have e215 : fn_215 (zb_rD r : Int) R = if ¬ (zb_rK r : Int) = 3 then ((fn_186 (zb_frm H (zb_rF r)) (n : Int) R).bind fun r9 =>
        if ¬ r9 = (-1) then
          fn_215_56 (zb_rD r : Int) (R 45 70) (n : Int) r9 R
        else
          if ¬ R 72 n = (-1) then
              fn_215_56 (zb_rD r : Int) (R 45 70) (n : Int) r9 R
            else
              some (-1, eg_u R 45 69 5)) else fn_213 12884901888 (eg_u R 72 n (R 45 70)) := by
    have hsw : (fn_213 12884901888 (eg_u R 72 n (R 45 70))).bind (fun r37 => some (r37.1, r37.2)) = fn_213 12884901888 (eg_u R 72 n (R 45 70)) := by cases fn_213 12884901888 (eg_u R 72 n (R 45 70)) <;> rfl
    unfold fn_215 fn_185
    rw [zb_w176 w, y1, Option.bind_some, if_pos (by omega), h53, zb_wi_t1 (by omega), if_pos (by omega), Int.toNat_natCast, Int.toNat_natCast, h78, b5, r50]
    simp only [if_pos (show 0 ≤ (n : Int) ∧ (n : Int) < 460 by omega), Int.toNat_natCast, hsw, Option.bind_some]
  have hCL : zb_CL B.2.2.1 Q (zb_sp : Int) C = _ := zb_cl_res' i4 (by omega) i3 (by omega) (zb_f72_no (by omega) c30 (by omega))
  have g56 : fn_215_56 (zb_rD r : Int) (R 45 70) (n : Int) (-1) R = fn_213 12884901888 (eg_u R 72 n (R 45 70)) := by
    unfold fn_215_56
    rw [if_neg (fun z => z rfl), if_pos (by omega), Int.toNat_natCast]
    cases fn_213 12884901888 (eg_u R 72 n (R 45 70)) <;> rfl
  intro x0
  have glob : fn_116 B.2.2.1 (B.2.2.1 / 3 + 1) ((l.length + 1 : Nat) : Int) C = fn_103 4294967298 (eg_u C 37 n (C 44 9)) → fn_215 (zb_rD r : Int) R = fn_213 12884901888 (eg_u R 72 n (R 45 70)) → ∃ zb_rf : Option (Int × eM), fn_210_13 x0 1 R = (zb_rf.bind fun r => some (.inl (r.1, r.2))) ∧ zb_RESV B Q Z zb_sp (zb_CL B.2.2.1 Q (zb_sp : Int) C) zb_rf := by
    intro e1 e2
    obtain ⟨p0, R9, p1, p2⟩ := zb_pop_v (Q := Q) (sp0 := zb_sp) (zb_sp := zb_sp) (zb_sx_glob (n := n) h y4 hv) (by omega) (by omega) hl zb_vr_nil hZ9 (Nat.le_refl zb_sp) (by omega)
    refine ⟨some (0, R9), zb_s210_done (g := 0) (by rw [h211, e2]; exact p1) (by decide) (by decide), ?_⟩
    rw [hCL, h104, e1, p0, Option.bind_some]; exact p2
  by_cases hk3 : zb_rK r = 3
  · have hf0 : zb_rF r = 0 := by rcases x1 with z | z; omega; exact z.2
    have h115 : fn_115 B.2.2.1 (B.2.2.1 / 3 + 1) ((zb_rD r + 2 : Nat) : Int) (zb_rF r : Int) C = some (-1) := by
      unfold fn_115
      refine lp_inr ?_
      unfold fn_115_2
      rw [if_pos (by omega)]
    refine glob ?_ ?_
    · rw [e116, h115, Option.bind_some, if_pos (by decide), if_pos (by omega)]
    · rw [e215, if_neg (by omega)]
  · rw [if_pos (by omega)] at e215
    rcases zb_find_ok (zb_gs_hr h.1.1) hN w (n := n) (a := zb_rD r + 2) (by omega) c4 (x1 := 0) (x2 := 0) _ (zb_rF r) rfl hfr with ⟨c1, r1⟩ | ⟨g, q, k1, k2, k3, k4, c1, r1, r2⟩
    · rw [c1, Option.bind_some, if_pos (by decide), if_neg (by omega)] at e116
      rw [r1, Option.bind_some, if_neg (fun z => z rfl)] at e215
      rcases zb_gs_gl h.1.1 (n := n) (by omega) with ⟨_, hv'⟩ | ⟨hv1, hv2⟩
      · have hne := zb_vr_ne' (zb_gs_hr h.1.1) hN hv'
        rw [if_neg hne.1] at e116
        rw [if_pos hne.2, g56] at e215
        exact glob e116 e215
      · rw [if_pos hv1] at e116
        rw [if_neg (fun z => z hv2)] at e215
        refine ⟨some (-1, eg_u R 45 69 5), zb_s210_done (g := -1) (by rw [h211, e215]) (by decide) (by decide), ?_⟩
        rw [hCL, h104, e116]
        unfold fn_103
        rw [Option.bind_some]
        refine zb_res_fault (k := 5) (fu := fu) h.1.1 (zb_QC_u (zb_QC_u (zb_QC_u zb_QC_rfl (by decide)) (by decide)) (by decide)) (zb_QR_45 zb_QR_rfl (by decide)) ⟨?_, ?_, h.2.1.2.2⟩ ?_ eg_u_eq (by decide)
        · rw [eg_u_ne (by decide), eg_u_nj (by decide), eg_u_nj (by decide)]; exact i5
        · rw [eg_u_nj (by decide)]; exact h.2.1.2.1
        · rw [eg_u_ne (by decide), eg_u_nj (by decide), eg_u_eq]
    · have hgb := zb_hr_h (zb_gs_hr h.1.1) k1
      have hgp := zb_hr_p (zb_gs_hr h.1.1) k1
      have hg20 : g < 20000 := by omega
      have hj : 1 + q < zb_nf (zb_hK H g) (zb_hZ H g) := by rw [k2]; simp [zb_nf]; omega
      have hl' : ¬ zb_isl (zb_hK H g) (1 + q) := by rw [k2]; intro z; rcases z with ⟨_, z⟩ | z | ⟨z, _⟩ <;> omega
      obtain ⟨t1, t2, t3⟩ := zb_hr_put (zb_gs_hr h.1.1) k1 hj hl' hv
      have hci : ((zb_ci (zb_hK H g) (1 + q) : Nat) : Int) = ((3 + q : Nat) : Int) := by rw [k2]; show ((2 + (1 + q) : Nat) : Int) = _; omega
      rw [hci] at t1
      obtain ⟨p0, R9, p1, p2⟩ := zb_pop_v (Q := Q) (sp0 := zb_sp) (zb_sp := zb_sp) (zb_sx_put h (zb_put_n3 (zb_gs_hr h.1.1) k1 (zb_nf_ci (zb_hr_ob (zb_gs_hr h.1.1) k1).2.2.2.1 hj).1 (by rw [k2]; decide)) t3) (by omega) (by omega) hl zb_vr_nil hZ9 (Nat.le_refl zb_sp) (by omega)
      rw [c1, Option.bind_some, if_neg (by omega), (zb_td8 hg20 k3).1, (zb_td8 hg20 k3).2, zb_wi_3q (by omega), t1, Option.bind_some, p0] at e116
      have g57 : fn_215_56 (zb_rD r : Int) (R 45 70) (n : Int) (zb_ov (zb_hP H g)) R = some (0, R9) := by
        unfold fn_215_56
        rw [if_pos (by unfold zb_ov; omega), zb_f187 hgp, Option.bind_some, if_pos (by omega), Int.toNat_natCast, r2, Option.bind_some, zb_wi_1q (by omega), t2, Option.bind_some, p1, Option.bind_some]
      rw [r1, Option.bind_some, if_pos (by unfold zb_ov; omega), g57] at e215
      refine ⟨some (0, R9), zb_s210_done (g := 0) (by rw [h211, e215]) (by decide) (by decide), ?_⟩
      rw [hCL, h104, e116, Option.bind_some]; exact p2
end STPS
