def zb_KEP (C M : eM) : Prop := (∀ c, c ∈ ([29, 30, 31, 32, 33, 34, 35, 36] : List Nat) → M c = C c) ∧ (∀ f, f ≠ 7 → M 44 f = C 44 f) ∧ (∀ f, f ≠ 5 → M 43 f = C 43 f) ∧ M 43 5 = 0
def zb_KER (R M : eM) : Prop := (∀ f, f ∉ ([28, 29, 38, 41, 43, 45, 48, 64, 67] : List Nat) → M 45 f = R 45 f) ∧ (∀ c, c ∉ ([45, 67, 68, 69, 70, 71, 73, 74, 75, 76, 85] : List Nat) → M c = R c)
theorem zb_wi_100 {fu : Nat} (h : 100 ≤ fu) (h2 : fu ≤ 20000) : eg_wi ((fu : Int) - 100) = ((fu - 100 : Nat) : Int) := by unfold eg_wi; omega
section zb_RM
variable {B : zb_Bs} {Q : zb_Pq} {zb_sp : Nat} {C R : eM} {H : zb_Hp} {rl ql : List (Nat × Nat)} {fd fu f e bn : Nat} {st : List zb_Rec} {k s : Nat} {v : Int}
theorem zb_wi_us {cn us : Nat} (h : us ≤ cn) (h2 : cn ≤ 20000) : eg_wi ((cn : Int) - (us : Int)) = ((cn - us : Nat) : Int) := by unfold eg_wi; omega
theorem zb_f195 {cn N : Nat} {lam : Nat → Prop} {scp : Nat → Nat → Prop} (hr : zb_HR C R H cn N lam scp) (hk : zb_szk k s) : fn_195 ((k : Int) - 1) ((zb_nf k s : Nat) : Int) v R = if zb_hU H + s ≤ cn then fn_195_16 ((k : Int) - 1) ((zb_nf k s : Nat) : Int) v (s : Int) R else (fn_197 R).bind fun r19 => if ¬ r19.1 = 0 then fn_195_16 ((k : Int) - 1) ((zb_nf k s : Nat) : Int) v (s : Int) r19.2 else some ((-1), r19.2) := by
  obtain ⟨_, ⟨fs, fc, hQ⟩, _⟩ := hr
  obtain ⟨h1, h2, h3, h4, _⟩ := hQ.1
  unfold fn_195
  rw [zb_f196 hk, Option.bind_some, h1, h3, zb_wi_us h4 h2]
  by_cases hq : zb_hU H + s ≤ cn
  · rw [if_pos hq, if_pos (by omega)]
  · rw [if_neg hq, if_neg (by omega)]
theorem zb_f195_no {cn N : Nat} {lam : Nat → Prop} {scp : Nat → Nat → Prop} (hr : zb_HR C R H cn N lam scp) {a b : Int} (hs : ¬ zb_hU H + s ≤ cn) : fn_195_16 a b v (s : Int) R = some (-1, eg_u R 45 66 12) := by
  obtain ⟨_, ⟨fs, fc, hQ⟩, _⟩ := hr
  obtain ⟨h1, h2, h3, h4, _⟩ := hQ.1
  unfold fn_195_16
  rw [h1, h3, zb_wi_us h4 h2, if_neg (by omega)]
theorem zb_room (g : zb_GS B C R H rl ql fd) (hs : zb_STR C R H B.2.2.2.1 st) (hst : st.length < 1999) (he : e ≤ 1) (htop : C 29 0 = ((st.length + e : Nat) : Int)) (hx : e = 1 → C 33 (st.length + 1) = (f : Int) ∧ C 34 (st.length + 1) = 0) (hf : zb_isF H f) (he0 : e = 0 → f = 0)
    (zb_r53 : R 45 53 = (zb_tt st : Int)) (zb_r51 : R 45 51 = (zb_bb st : Int)) (r62 : R 45 62 = zb_frm H f) (hq : zb_QB C R H bn) (hfu : zb_FUE C R fu) (h8 : C 44 8 = 0) (h11 : C 15 11 = 0) (h12 : C 15 12 = 0) (h5 : C 43 5 = 0) (hk : zb_szk k s) (hsp : zb_sp + 20 * fu < 999999)
    (hstep : ∀ (M R' : eM) (H' : zb_Hp) (rl' ql' : List (Nat × Nat)) (sp' : Nat), zb_GS B M R' H' rl' ql' fd → zb_KEP C M → M 15 11 = 0 → ¬ zb_hU H' + s ≤ B.2.2.1 → sp' < 1000000 → (∀ g, g ∈ zb_hO H → zb_RTS C st.length g → zb_TRg H H' g) → (∀ h i, h ∈ zb_hO H' → zb_hK H h ≤ 4 → i < zb_hZ H h → zb_cl M H' h i = zb_cl C H h i) → zb_CL B.2.2.1 Q (sp' : Int) M = zb_AF B.2.2.1 Q (sp' : Int) (eg_u M 15 11 1)) :
    (∃ (M R1 : eM) (H1 : zb_Hp) (rl1 ql1 : List (Nat × Nat)) (fu1 sp1 : Nat), zb_CL B.2.2.1 Q (zb_sp : Int) C = zb_CL B.2.2.1 Q (sp1 : Int) M ∧ fn_195 ((k : Int) - 1) ((zb_nf k s : Nat) : Int) v R = fn_195_16 ((k : Int) - 1) ((zb_nf k s : Nat) : Int) v (s : Int) R1 ∧ zb_hU H1 + s ≤ B.2.2.1 ∧ zb_GS B M R1 H1 rl1 ql1 fd ∧ zb_STR M R1 H1 B.2.2.2.1 st ∧ zb_KEP C M ∧ zb_KER R R1 ∧ (zb_isF H1 f ∧ zb_frm H1 f = zb_frm H f)
      ∧ (∀ g i, g ∈ zb_hO H → i < 32 → C 36 i = 17179869184 + (g : Int) → zb_TRg H H1 g) ∧ (∀ g, g ∈ zb_hO H → zb_RTS C st.length g → zb_TRg H H1 g) ∧ M 15 11 = 0 ∧ zb_FUE M R1 fu1 ∧ zb_sp ≤ sp1 ∧ sp1 + 20 * fu1 ≤ zb_sp + 20 * fu ∧ (∀ g, g ∈ zb_hO H1 → g ∈ zb_hO H ∧ zb_hK H1 g = zb_hK H g ∧ zb_hP H1 g = zb_hP H g ∧ zb_hZ H1 g = zb_hZ H g) ∧ (∀ h i, h ∈ zb_hO H1 → zb_hK H h ≤ 4 → i < zb_hZ H h → zb_cl M H1 h i = zb_cl C H h i))
    ∨ (∃ (C' R' : eM) (H' : zb_Hp) (rl' ql' : List (Nat × Nat)) (fu' : Nat) (lk : Int), zb_CL B.2.2.1 Q (zb_sp : Int) C = some C' ∧ fn_195 ((k : Int) - 1) ((zb_nf k s : Nat) : Int) v R = some (-1, R') ∧ R' 45 66 = lk ∧ C' 44 8 = lk ∧ (lk = 4 ∨ lk = 12) ∧ zb_GS B C' R' H' rl' ql' fd ∧ zb_FUE C' R' fu') := by
  have hfu3 := hfu.2.2
  by_cases hroom : zb_hU H + s ≤ B.2.2.1
  · left
    refine ⟨C, R, H, rl, ql, fu, zb_sp, rfl, by rw [zb_f195 (zb_gs_hr g) hk, if_pos hroom], hroom, g, hs, ⟨fun _ _ => rfl, fun _ _ => rfl, fun _ _ => rfl, h5⟩, ⟨fun _ _ => rfl, fun _ _ => rfl⟩, ⟨hf, rfl⟩, fun _ _ h _ _ => zb_trg_rfl h, fun _ h _ => zb_trg_rfl h, h11, hfu, Nat.le_refl _, Nat.le_refl _, fun g hg => ⟨hg, rfl, rfl, rfl⟩, fun _ _ _ _ _ => rfl⟩
  · have zb_hC := hstep C R H rl ql zb_sp g ⟨fun _ _ => rfl, fun _ _ => rfl, fun _ _ => rfl, h5⟩ h11 hroom (by omega) (fun g hg _ => zb_trg_rfl hg) (fun _ _ _ _ _ => rfl)
    have hR := zb_f195 (v := v) (zb_gs_hr g) hk
    rw [if_neg hroom] at hR
    have m8 : (eg_u C 15 11 1) 44 8 = 0 := by rw [eg_u_ne (by decide)]; exact h8
    have m1 : ((eg_u C 15 11 1) 15 11 = 1 ∧ (eg_u C 15 11 1) 15 12 = 0) ∨ ((eg_u C 15 11 1) 15 11 = 0 ∧ (eg_u C 15 11 1) 43 5 ≠ 0) := Or.inl ⟨eg_u_eq, by rw [eg_u_nj (by decide)]; exact h12⟩
    have m7 : (eg_u C 15 11 1) 44 7 = (fu : Int) := by rw [eg_u_ne (by decide)]; exact hfu.1
    by_cases h100 : 100 ≤ fu
    · have hpq : zb_QC C (zb_pay (eg_u C 15 11 1)) := zb_QC_u (zb_QC_15 (zb_QC_15 (zb_QC_f (zb_QC_15 zb_QC_rfl (Or.inl rfl)) (by rw [m7, zb_wi_100 h100 hfu3]; omega)) (Or.inr rfl)) (Or.inl rfl)) (by decide)
      have hpc : ∀ c, c ∈ ([29, 30, 31, 32, 33, 34, 35, 36] : List Nat) → zb_pay (eg_u C 15 11 1) c = C c := by
        intro c hc
        have : c ≠ 44 ∧ c ≠ 15 ∧ c ≠ 43 := by revert hc; simp; omega
        unfold zb_pay
        simp (disch := omega) only [eg_u_ne]
      have hp29 := hpc 29 (by decide)
      have hp33 := hpc 33 (by decide)
      have hp34 := hpc 34 (by decide)
      have hp35 := hpc 35 (by decide)
      have hp36 := hpc 36 (by decide)
      have gp := zb_gs_congr g hpq (zb_QR_rfl (R := R))
      have sp1 : zb_STR (zb_pay (eg_u C 15 11 1)) R H B.2.2.2.1 st := zb_str_tr hs (fun i _ _ => by rw [hp33, hp34, hp35]; exact ⟨rfl, rfl, fun _ _ => rfl⟩) (fun _ _ => ⟨rfl, rfl⟩) (fun _ _ => rfl) (fun g hg _ => zb_trg_rfl hg)
      have hq2 : zb_QB (zb_pay (eg_u C 15 11 1)) R H bn := by unfold zb_QB at *; rw [hp36]; exact hq
      obtain ⟨M, R1, H1, rl1, ql1, k1, k2, k3, k4, k5, k6, k7, k8, k9, k10, k11⟩   := zb_coll 0 gp sp1 hst he (by rw [hp29]; exact htop) (by rw [hp33, hp34]; exact hx) hf he0 zb_r53 zb_r51 (by omega) (fun j a b => by omega) r62 hq2 (by rw [hfu.2.1]; omega)
      rw [zb_af_coll (by omega) m8 m1 (by rw [m7]; omega) k1] at zb_hC
      have kp : zb_KEP C M := by
        refine ⟨fun c hc => ?_, fun f hf => ?_, fun f hf => ?_, ?_⟩
        · rw [k7.2 c (by revert hc; simp; omega)]; exact hpc c hc
        · rw [k7.2 44 (by decide)]; unfold zb_pay; simp (disch := omega) only [eg_u_nj]
        · rw [k7.2 43 (by decide)]; unfold zb_pay; simp (disch := omega) only [eg_u_nj]
        · rw [k7.2 43 (by decide)]; unfold zb_pay; rw [eg_u_eq]
      have hM7 : M 44 7 = ((fu - 100 : Nat) : Int) := by
        rw [k7.2 44 (by decide)]; unfold zb_pay; rw [eg_u_nj (by decide), eg_u_nj (by decide), eg_u_nj (by decide), eg_u_eq, m7, zb_wi_100 h100 hfu3]
      have hM11 : M 15 11 = 0 := by
        rw [k7.1 11 (by decide) (by decide) (by decide)]; unfold zb_pay; rw [eg_u_nj (by decide), eg_u_eq]
      have hM12 : M 15 12 = 1 := by
        rw [k7.1 12 (by decide) (by decide) (by decide)]; unfold zb_pay; rw [eg_u_nj (by decide), eg_u_nj (by decide), eg_u_eq, eg_u_eq]
      have hfue : zb_FUE M R1 (fu - 100) := ⟨hM7, by rw [k8.1, hfu.2.1, zb_wi_100 h100 hfu3], by omega⟩
      rw [k2, Option.bind_some, if_pos (show ¬ (1 : Int) = 0 by decide)] at hR
      have trx : ∀ g, g ∈ zb_hO H → zb_RTS C st.length g → zb_TRg H H1 g := fun g a b => k10 g a (by unfold zb_RTS at *; rw [hp33, hp34, hp35]; exact b)
      have clx : ∀ h i, h ∈ zb_hO H1 → zb_hK H h ≤ 4 → i < zb_hZ H h → zb_cl M H1 h i = zb_cl C H h i := fun h i a b c => by rw [k11 h i a b c]; unfold zb_cl; rw [hpq.1 16 (by decide) (by decide)]
      by_cases hroom2 : zb_hU H1 + s ≤ B.2.2.1
      · left
        exact ⟨M, R1, H1, rl1, ql1, fu - 100, zb_sp + 1, zb_hC, hR, hroom2, k3, k4, kp, ⟨k8.2.1, k8.2.2⟩, k5, fun g i a b c => k6 g i a b (by rw [hp36]; exact c), trx, hM11, hfue, by omega, by omega, k9, clx⟩
      · right
        have h2 := hstep M R1 H1 rl1 ql1 (zb_sp + 1) k3 kp hM11 hroom2 (by omega) trx clx
        rw [zb_af_full (by rw [eg_u_ne (by decide), kp.2.1 8 (by decide)]; exact h8) eg_u_eq (by rw [eg_u_nj (by decide), hM12]; decide)] at h2
        rw [h2] at zb_hC
        rw [zb_f195_no (zb_gs_hr k3) hroom2] at hR
        refine ⟨_, _, H1, rl1, ql1, fu - 100, 12, zb_hC, hR, eg_u_eq, eg_u_eq, Or.inr rfl, zb_gs_congr k3 (zb_QC_u (zb_QC_15 zb_QC_rfl (Or.inl rfl)) (by decide)) (zb_QR_45 zb_QR_rfl (by decide)), ?_, ?_, hfue.2.2⟩
        · rw [eg_u_nj (by decide), eg_u_ne (by decide)]; exact hM7
        · rw [eg_u_nj (by decide)]; exact hfue.2.1
    · right
      rw [zb_af_poor m8 m1 (by rw [m7]; omega)] at zb_hC
      have h197 : fn_197 R = some (0, eg_u R 45 66 4) := by unfold fn_197; rw [hfu.2.1, if_neg (by omega)]
      rw [h197, Option.bind_some, if_neg (fun z => z rfl)] at hR
      refine ⟨_, eg_u R 45 66 4, H, rl, ql, fu, 4, zb_hC, hR, eg_u_eq, eg_u_eq, Or.inl rfl, zb_gs_congr g (zb_QC_u (zb_QC_15 zb_QC_rfl (Or.inl rfl)) (by decide)) (zb_QR_45 zb_QR_rfl (by decide)), ?_, ?_, hfu3⟩
      · rw [eg_u_nj (by decide), eg_u_ne (by decide)]; exact hfu.1
      · rw [eg_u_nj (by decide)]; exact hfu.2.1
end zb_RM
theorem zb_lor_obj {x : Nat} (h : x < 20000) : eb_lor 17179869184 (x : Int) = 17179869184 + (x : Int) := by
  have := zb_lor_hi (k := 4) (r := x) (by omega) (by omega)
  rw [show ((4 * 4294967296 : Nat) : Int) = 17179869184 by rfl] at this
  rw [this]; omega
theorem zb_fr_tr {C R C' R' : eM} {H H' : zb_Hp} {rl ql : List (Nat × Nat)} {fd : Nat} (zb_fr : zb_FRel C R H rl ql fd) (h : ∀ x, x ∈ rl ++ ql → zb_TRg H H' x.1 ∧ zb_TRg H H' x.2) (h21 : ∀ f, f ∈ ([2, 5, 6] : List Nat) → C' 21 f = C 21 f) (hc : ∀ c, c ∈ ([22, 23, 24, 25] : List Nat) → C' c = C c) (h45 : ∀ f, f ∈ ([45, 48] : List Nat) → R' 45 f = R 45 f) (hd : ∀ c, c ∈ ([73, 74, 75, 76] : List Nat) → R' c = R c) : zb_FRel C' R' H' rl ql fd := by
  obtain ⟨a, b, c, d, e, f⟩ := zb_fr_congr zb_fr h21 hc h45 hd
  refine ⟨a, b, c, fun i hi => ?_, fun i hi => ?_, fun x hx => ?_⟩
  · have hm : rl[i] ∈ rl ++ ql := List.mem_append_left _ (List.getElem_mem hi)
    obtain ⟨t1, t2⟩ := h _ hm
    rw [t1.2.2, t2.2.2]; exact d i hi
  · have hm : ql[i] ∈ rl ++ ql := List.mem_append_right _ (List.getElem_mem hi)
    obtain ⟨t1, t2⟩ := h _ hm
    rw [t1.2.2, t2.2.2]; exact e i hi
  · obtain ⟨⟨t1, t2, t3⟩, ⟨u1, u2, u3⟩⟩ := h x hx
    obtain ⟨⟨v1, v2, v3⟩, ⟨w1, w2, w3⟩⟩ := f x hx
    exact ⟨⟨t1, by rw [t2]; exact v2, by rw [t2]; exact v3⟩, ⟨u1, by rw [u2]; exact w2, by rw [u2]; exact w3⟩⟩
theorem zb_gs_tr {B : zb_Bs} {C R C' R' : eM} {H H' : zb_Hp} {rl ql : List (Nat × Nat)} {fd : Nat} (g : zb_GS B C R H rl ql fd) (hr : zb_HR C' R' H' B.2.2.1 B.2.2.2.1 (zb_lamW B.1 B.2.1 B.2.2.2.1 B.2.2.2.2) (zb_scpW B.1 B.2.1 B.2.2.2.1 B.2.2.2.2)) (tr : ∀ g, g ∈ zb_hO H → zb_TRg H H' g) (hcl : ∀ h, h ∈ zb_hO H → zb_hK H h = 3 → zb_cl C' H' h 1 = zb_cl C H h 1) (hnum : zb_NUM B C' H')
    (hc : ∀ c, c ∉ zb_CC → c ∉ ([15, 16, 17, 18, 19, 20] : List Nat) → C' c = C c) (hR : ∀ c, c ∉ zb_RC → c ∉ ([45, 62, 63, 64, 65, 66, 68, 69, 70, 71] : List Nat) → R' c = R c) (hf : ∀ f, f ∉ zb_RF → f ∉ ([28, 29, 38, 41, 42] : List Nat) → R' 45 f = R 45 f) : zb_GS B C' R' H' rl ql fd := by
  obtain ⟨g1, g2, g3, ⟨L, B', g4⟩, g5, g6, g7, g8, g9⟩ := g
  refine ⟨hr, zb_fr_tr g2 (fun x hx => ⟨tr _ (g2.2.2.2.2.2 x hx).1.1, tr _ (g2.2.2.2.2.2 x hx).2.1⟩) (fun f hf => by rw [hc 21 (by decide) (by decide)]) (fun c h => hc c (by revert h; simp [zb_CC]; omega) (by revert h; simp; omega)) (fun f h => hf f (by revert h; simp [zb_RF]; omega) (by revert h; simp; omega)) (fun c h => hR c (by revert h; simp [zb_RC]; omega) (by revert h; simp; omega)),
    zb_rows_congr g3 (fun c h => hc c (by revert h; simp [zb_CC]; omega) (by revert h; simp; omega)) (fun c h => hR c (by revert h; simp [zb_RC]; omega) (by revert h; simp; omega)),
    ⟨L, B', zb_nm_congr g4 (hc 1 (by decide) (by decide)) (hc 2 (by decide) (by decide)) (hc 3 (by decide) (by decide)) (hf 7 (by decide) (by decide)) (hR 47 (by decide) (by decide)) (hR 48 (by decide) (by decide))⟩, fun n hn => ?_, ?_, zb_out_congr g7 (hc 26 (by decide) (by decide)) (hc 27 (by decide) (by decide)) (hf 72 (by decide) (by decide)) (hR 86 (by decide) (by decide)), fun x hx => ?_, hnum⟩
  · rw [hc 37 (by decide) (by decide), hR 72 (by decide) (by decide)]
    rcases g5 n hn with ⟨z1, z2⟩ | z
    · exact Or.inl ⟨z1, zb_vr_tr z2 (fun g hg _ => tr g hg)⟩
    · exact Or.inr z
  · rw [hc 38 (by decide) (by decide), hf 43 (by decide) (by decide)]; exact g6
  · obtain ⟨z1, d, z2, z3⟩ := g8 x hx
    have hx2 := (g2.2.2.2.2.2 x hx).2.1
    exact ⟨by rw [(tr _ hx2).2.1]; exact z1, d, by rw [hcl _ hx2 z1]; exact z2, z3⟩
section zb_MK
variable {C R C1 R1 : eM} {H : zb_Hp} {cn N : Nat} {x o k s : Nat} {v : Int} {l : List Nat}
theorem zb_mk_trg (m : zb_MK C R H cn C1 R1 x o k s v l) : ∀ g, g ∈ zb_hO H → zb_TRg H (zb_Hmk H x o k s l) g := fun g hg => by
  obtain ⟨a1, a2, a3, a4, a5, a6, a7⟩ := zb_mk_old (k := k) (s := s) (l := l) m.1.1 m.1.2.2.2.2.1 hg
  exact ⟨a7, a3, a4⟩
theorem zb_mk_cl {N : Nat} {lam : Nat → Prop} {scp : Nat → Nat → Prop} (hr : zb_HR C R H cn N lam scp) (m : zb_MK C R H cn C1 R1 x o k s v l) {C2 : eM} (h16 : ∀ j, j < zb_hU H → C2 16 j = C1 16 j) : ∀ h, h ∈ zb_hO H → zb_hK H h = 3 → zb_cl C2 (zb_Hmk H x o k s l) h 1 = zb_cl C H h 1 := by
  intro h hh hk
  have a1 := (zb_mk_old (k := k) (s := s) (l := l) m.1.1 m.1.2.2.2.2.1 hh).1
  have hb := zb_hr_h hr hh
  have hz := (zb_hr_ob hr hh).2.2.2.1
  have hz4 : zb_hZ H h = 4 := by unfold zb_szk at hz; omega
  unfold zb_cl
  rw [a1, h16 _ (by omega), m.2.2.2.1.2.2.1 _ (by omega)]
theorem zb_mk_num {B : zb_Bs} (h : zb_NUM B C H) (m : zb_MK C R H cn C1 R1 x o k s v l) {C2 : eM} (h20 : C2 20 = C1 20) (h15 : C2 15 10 = C1 15 10) (h7 : C2 44 7 ≤ C 44 7) : zb_NUM B C2 (zb_Hmk H x o k s l) := by
  obtain ⟨p1, p2, p3, p4, p5, p6, p7⟩ := m.2.2.2.1
  refine ⟨by rw [h15, p5]; exact h.1, fun g hg => ?_⟩
  rw [h20, h15, p5]
  rcases zb_mk_mem hg with z | z
  · rw [p2 g z]; exact h.2 g z
  · rw [z, p1]; exact ⟨Int.le_refl _, h.1.1⟩
theorem zb_gs_num {B : zb_Bs} {C R : eM} {H : zb_Hp} {rl ql : List (Nat × Nat)} {fd : Nat} (g : zb_GS B C R H rl ql fd) : zb_NUM B C H := g.2.2.2.2.2.2.2.2
theorem zb_mk_put (m : zb_MK C R H cn C1 R1 x o k s v l) {M : eM} (h17 : M 17 = C1 17) {i : Nat} (hi : i < s) {w : Int} : fn_94 cn (cn / 3 + 1) (x : Int) (i : Int) w M = some (eg_u M 16 (zb_hU H + i) w) := by
  obtain ⟨⟨m1, m2, m3, m4, m5, m6⟩, ⟨fl, hs, hH⟩, _⟩ := m
  have hx : x ∈ zb_hO H ++ [x] := List.mem_append_right _ List.mem_cons_self
  obtain ⟨a1, _⟩ := hH.2.2.1 x hx
  have zb_hS : zb_hS (zb_Hmk H x o k s l) x = zb_hU H := if_pos rfl
  rw [zb_hS] at a1
  have hcn := hH.1.2.1
  unfold fn_94
  rw [if_pos (by omega), Int.toNat_natCast, h17, a1, zb_wi_add (by omega), if_pos (by omega), Int.toNat_natCast]
theorem zb_mk_set (m : zb_MK C R H cn C1 R1 x o k s v l) {M : eM} (h65 : M 65 = R1 65) (h71 : M 71 = R1 71) {i : Nat} (hi : i < zb_nf k s) {w : Int} : fn_205 (zb_ov o) (i : Int) w M = some (eg_u M 70 (l.getD i 0) w) := by
  obtain ⟨⟨m1, m2, m3, m4, m5, m6⟩, _, ⟨fs, fc, hQ⟩, _, ⟨_, _, _, _, _, q6, _⟩⟩ := m
  have ho : o ∈ (zb_hO H).map (zb_hP H) ++ [o] := List.mem_append_right _ List.mem_cons_self
  have hCl : zb_hC (zb_Hmk H x o k s l) o = l := if_pos rfl
  have hi2 : i < (zb_hC (zb_Hmk H x o k s l) o).length := by rw [hCl, q6]; exact hi
  have h1 := zb_put_r (v := w) hQ ho hi2
  have h2 : fn_190 (o : Int) (i : Int) M = fn_190 (o : Int) (i : Int) R1 := by unfold fn_190 fn_190_7; rw [h65, h71]
  have hlt := zb_cs_lt hQ ho (List.getElem_mem hi2)
  unfold fn_205 at h1 ⊢
  rw [zb_f187 m4, Option.bind_some] at h1 ⊢
  rw [h2]
  rw [zb_get_a hQ ho hi2, Option.bind_some] at h1 ⊢
  rw [if_pos (by omega), Int.toNat_natCast]
  have : (zb_hC (zb_Hmk H x o k s l) o)[i] = l.getD i 0 := by
    rw [zb_gd (by rw [q6]; exact hi)]
    simp only [hCl]
  rw [this]
end zb_MK
theorem zb_wi_t1 {t : Nat} (h : t < 4400) : eg_wi (((t + 1 : Nat) : Int) - 1) = (t : Int) := by unfold eg_wi; omega
section DSP
variable {cn mo : Nat} {M : eM} {i t : Nat}
theorem zb_d104_0 (hi : i < 2000) (h : M 30 i = 0) : fn_104 cn mo (i : Int) M = fn_105 cn mo (i : Int) M := by
  unfold fn_104
  rw [if_pos (by omega), Int.toNat_natCast, h, if_pos rfl]
  cases fn_105 cn mo (i : Int) M with
  | none => rfl
  | some x => rfl
theorem zb_d104_1 (hi : i < 2000) (h : M 30 i = 1) : fn_104 cn mo (i : Int) M = fn_108 cn mo (i : Int) M := by
  unfold fn_104
  rw [if_pos (by omega), Int.toNat_natCast, h, if_neg (by decide), if_pos rfl]
  cases fn_108 cn mo (i : Int) M with
  | none => rfl
  | some x => rfl
theorem zb_d104_2 (hi : i < 2000) (h : M 30 i = 2) : fn_104 cn mo (i : Int) M = fn_116 cn mo (i : Int) M := by
  unfold fn_104
  rw [if_pos (by omega), Int.toNat_natCast, h, if_neg (by decide), if_neg (by decide), if_pos rfl]
  cases fn_116 cn mo (i : Int) M with
  | none => rfl
  | some x => rfl
theorem zb_d104_3 (hi : i < 2000) (h : M 30 i = 3) : fn_104 cn mo (i : Int) M = fn_116 cn mo (i : Int) M := by
  unfold fn_104
  rw [if_pos (by omega), Int.toNat_natCast, h, if_neg (by decide), if_neg (by decide), if_neg (by decide), if_pos rfl]
  cases fn_116 cn mo (i : Int) M with
  | none => rfl
  | some x => rfl
theorem zb_d104_4 (hi : i < 2000) (h : M 30 i = 4) : fn_104 cn mo (i : Int) M = fn_117 cn mo (i : Int) M := by
  unfold fn_104
  rw [if_pos (by omega), Int.toNat_natCast, h, if_neg (by decide), if_neg (by decide), if_neg (by decide), if_neg (by decide), if_pos rfl]
  cases fn_117 cn mo (i : Int) M with
  | none => rfl
  | some x => rfl
theorem zb_d104_5 (hi : i < 2000) (h : M 30 i = 5) : fn_104 cn mo (i : Int) M = fn_118 cn mo (i : Int) (eg_wi ((M 31 i) + 2)) 2 11 M := by
  unfold fn_104
  rw [if_pos (by omega), Int.toNat_natCast, h, if_neg (by decide), if_neg (by decide), if_neg (by decide), if_neg (by decide), if_neg (by decide), if_pos rfl]
  cases fn_118 cn mo (i : Int) (eg_wi ((M 31 i) + 2)) 2 11 M with
  | none => rfl
  | some x => rfl
theorem zb_d104_6 (hi : i < 2000) (h : M 30 i = 6) : fn_104 cn mo (i : Int) M = fn_130 cn mo (i : Int) M := by
  unfold fn_104
  rw [if_pos (by omega), Int.toNat_natCast, h, if_neg (by decide), if_neg (by decide), if_neg (by decide), if_neg (by decide), if_neg (by decide), if_neg (by decide), if_pos rfl]
  cases fn_130 cn mo (i : Int) M with
  | none => rfl
  | some x => rfl
theorem zb_d104_7 (hi : i < 2000) (h : M 30 i = 7) : fn_104 cn mo (i : Int) M = fn_122 cn mo (i : Int) M := by
  unfold fn_104
  rw [if_pos (by omega), Int.toNat_natCast, h, if_neg (by decide), if_neg (by decide), if_neg (by decide), if_neg (by decide), if_neg (by decide), if_neg (by decide), if_neg (by decide), if_pos rfl]
  cases fn_122 cn mo (i : Int) M with
  | none => rfl
  | some x => rfl
theorem zb_d104_8 (hi : i < 2000) (h : M 30 i = 8) : fn_104 cn mo (i : Int) M = fn_123 cn mo (i : Int) M := by
  unfold fn_104
  rw [if_pos (by omega), Int.toNat_natCast, h, if_neg (by decide), if_neg (by decide), if_neg (by decide), if_neg (by decide), if_neg (by decide), if_neg (by decide), if_neg (by decide), if_neg (by decide), if_pos rfl]
  cases fn_123 cn mo (i : Int) M with
  | none => rfl
  | some x => rfl
theorem zb_d104_9 (hi : i < 2000) (h : M 30 i = 9) : fn_104 cn mo (i : Int) M = fn_123 cn mo (i : Int) M := by
  unfold fn_104
  rw [if_pos (by omega), Int.toNat_natCast, h, if_neg (by decide), if_neg (by decide), if_neg (by decide), if_neg (by decide), if_neg (by decide), if_neg (by decide), if_neg (by decide), if_neg (by decide), if_neg (by decide), if_pos rfl]
  cases fn_123 cn mo (i : Int) M with
  | none => rfl
  | some x => rfl
theorem zb_d104_10 (hi : i < 2000) (h : M 30 i = 10) : fn_104 cn mo (i : Int) M = fn_118 cn mo (i : Int) (M 31 i) 0 12 M := by
  unfold fn_104
  rw [if_pos (by omega), Int.toNat_natCast, h, if_neg (by decide), if_neg (by decide), if_neg (by decide), if_neg (by decide), if_neg (by decide), if_neg (by decide), if_neg (by decide), if_neg (by decide), if_neg (by decide), if_neg (by decide), if_pos rfl]
  cases fn_118 cn mo (i : Int) (M 31 i) 0 12 M with
  | none => rfl
  | some x => rfl
theorem zb_d104_11 (hi : i < 2000) (h : M 30 i = 11) : fn_104 cn mo (i : Int) M = fn_120 cn mo (i : Int) M := by
  unfold fn_104
  rw [if_pos (by omega), Int.toNat_natCast, h, if_neg (by decide), if_neg (by decide), if_neg (by decide), if_neg (by decide), if_neg (by decide), if_neg (by decide), if_neg (by decide), if_neg (by decide), if_neg (by decide), if_neg (by decide), if_neg (by decide), if_pos rfl]
  cases fn_120 cn mo (i : Int) M with
  | none => rfl
  | some x => rfl
theorem zb_d104_12 (hi : i < 2000) (h : M 30 i = 12) : fn_104 cn mo (i : Int) M = fn_124 cn mo (i : Int) M := by
  unfold fn_104
  rw [if_pos (by omega), Int.toNat_natCast, h, if_neg (by decide), if_neg (by decide), if_neg (by decide), if_neg (by decide), if_neg (by decide), if_neg (by decide), if_neg (by decide), if_neg (by decide), if_neg (by decide), if_neg (by decide), if_neg (by decide), if_neg (by decide), if_pos rfl]
  cases fn_124 cn mo (i : Int) M with
  | none => rfl
  | some x => rfl
theorem zb_d104_13 (hi : i < 2000) (h : M 30 i = 13) : fn_104 cn mo (i : Int) M = fn_109 M := by
  unfold fn_104
  rw [if_pos (by omega), Int.toNat_natCast, h, if_neg (by decide), if_neg (by decide), if_neg (by decide), if_neg (by decide), if_neg (by decide), if_neg (by decide), if_neg (by decide), if_neg (by decide), if_neg (by decide), if_neg (by decide), if_neg (by decide), if_neg (by decide), if_neg (by decide), if_pos rfl]
  cases fn_109 M with
  | none => rfl
  | some x => rfl
theorem zb_d104_14 (hi : i < 2000) (h : M 30 i = 14) : fn_104 cn mo (i : Int) M = fn_130 cn mo (i : Int) M := by
  unfold fn_104
  rw [if_pos (by omega), Int.toNat_natCast, h, if_neg (by decide), if_neg (by decide), if_neg (by decide), if_neg (by decide), if_neg (by decide), if_neg (by decide), if_neg (by decide), if_neg (by decide), if_neg (by decide), if_neg (by decide), if_neg (by decide), if_neg (by decide), if_neg (by decide), if_neg (by decide), if_pos rfl]
  cases fn_130 cn mo (i : Int) M with
  | none => rfl
  | some x => rfl
theorem zb_d104_15 (hi : i < 2000) (h : M 30 i = 15) : fn_104 cn mo (i : Int) M = fn_126 cn mo (i : Int) M := by
  unfold fn_104
  rw [if_pos (by omega), Int.toNat_natCast, h, if_neg (by decide), if_neg (by decide), if_neg (by decide), if_neg (by decide), if_neg (by decide), if_neg (by decide), if_neg (by decide), if_neg (by decide), if_neg (by decide), if_neg (by decide), if_neg (by decide), if_neg (by decide), if_neg (by decide), if_neg (by decide), if_neg (by decide), if_pos rfl]
  cases fn_126 cn mo (i : Int) M with
  | none => rfl
  | some x => rfl
theorem zb_d211z_1 (h53 : M 45 53 = ((t + 1 : Nat) : Int)) (ht : t < 4400) (h : M 78 t = 1) : fn_211 0 M = some (2, M) := by
  unfold fn_211
  rw [h53, zb_wi_t1 ht, if_pos (by omega), Int.toNat_natCast, h, if_pos rfl, if_pos rfl]
theorem zb_d211_1 {a : Int} (h53 : M 45 53 = ((t + 1 : Nat) : Int)) (ht : t < 4400) (h : M 78 t = 1) (ha : a = 1) : fn_211 a M = fn_212 M := by
  subst ha
  unfold fn_211
  rw [h53, zb_wi_t1 ht, if_pos (by omega), Int.toNat_natCast, h, if_pos rfl, if_neg (by decide)]
  cases fn_212 M with
  | none => rfl
  | some x => rfl
theorem zb_d211z_2 (h53 : M 45 53 = ((t + 1 : Nat) : Int)) (ht : t < 4400) (h : M 78 t = 2) : fn_211 0 M = some (2, M) := by
  unfold fn_211
  rw [h53, zb_wi_t1 ht, if_pos (by omega), Int.toNat_natCast, h, if_neg (by decide), if_pos rfl, if_pos rfl]
theorem zb_d211_2 {a : Int} (h53 : M 45 53 = ((t + 1 : Nat) : Int)) (ht : t < 4400) (h : M 78 t = 2) (ha : a = 1) : fn_211 a M = fn_215 (M 79 t) M := by
  subst ha
  unfold fn_211
  rw [h53, zb_wi_t1 ht, if_pos (by omega), Int.toNat_natCast, h, if_neg (by decide), if_pos rfl, if_neg (by decide)]
  cases fn_215 (M 79 t) M with
  | none => rfl
  | some x => rfl
theorem zb_d211z_3 (h53 : M 45 53 = ((t + 1 : Nat) : Int)) (ht : t < 4400) (h : M 78 t = 3) : fn_211 0 M = some (2, M) := by
  unfold fn_211
  rw [h53, zb_wi_t1 ht, if_pos (by omega), Int.toNat_natCast, h, if_neg (by decide), if_neg (by decide), if_pos rfl, if_pos rfl]
theorem zb_d211_3 {a : Int} (h53 : M 45 53 = ((t + 1 : Nat) : Int)) (ht : t < 4400) (h : M 78 t = 3) (ha : a = 1) : fn_211 a M = fn_215 (M 79 t) M := by
  subst ha
  unfold fn_211
  rw [h53, zb_wi_t1 ht, if_pos (by omega), Int.toNat_natCast, h, if_neg (by decide), if_neg (by decide), if_pos rfl, if_neg (by decide)]
  cases fn_215 (M 79 t) M with
  | none => rfl
  | some x => rfl
theorem zb_d211_4 {a : Int} (h53 : M 45 53 = ((t + 1 : Nat) : Int)) (ht : t < 4400) (h : M 78 t = 4) : fn_211 a M = fn_246 M := by
  unfold fn_211
  rw [h53, zb_wi_t1 ht, if_pos (by omega), Int.toNat_natCast, h, if_neg (by decide), if_neg (by decide), if_neg (by decide), if_pos rfl]
  cases fn_246 M with
  | none => rfl
  | some x => rfl
theorem zb_d211_5 {a : Int} (h53 : M 45 53 = ((t + 1 : Nat) : Int)) (ht : t < 4400) (h : M 78 t = 5) : fn_211 a M = fn_216 (M 79 t) a M := by
  unfold fn_211
  rw [h53, zb_wi_t1 ht, if_pos (by omega), Int.toNat_natCast, h, if_neg (by decide), if_neg (by decide), if_neg (by decide), if_neg (by decide), if_pos rfl]
  cases fn_216 (M 79 t) a M with
  | none => rfl
  | some x => rfl
theorem zb_d211z_6 (h53 : M 45 53 = ((t + 1 : Nat) : Int)) (ht : t < 4400) (h : M 78 t = 6) : fn_211 0 M = some (2, M) := by
  unfold fn_211
  rw [h53, zb_wi_t1 ht, if_pos (by omega), Int.toNat_natCast, h, if_neg (by decide), if_neg (by decide), if_neg (by decide), if_neg (by decide), if_neg (by decide), if_pos rfl, if_pos rfl]
theorem zb_d211_6 {a : Int} (h53 : M 45 53 = ((t + 1 : Nat) : Int)) (ht : t < 4400) (h : M 78 t = 6) (ha : a = 1) : fn_211 a M = fn_218 M := by
  subst ha
  unfold fn_211
  rw [h53, zb_wi_t1 ht, if_pos (by omega), Int.toNat_natCast, h, if_neg (by decide), if_neg (by decide), if_neg (by decide), if_neg (by decide), if_neg (by decide), if_pos rfl, if_neg (by decide)]
  cases fn_218 M with
  | none => rfl
  | some x => rfl
theorem zb_d211z_7 (h53 : M 45 53 = ((t + 1 : Nat) : Int)) (ht : t < 4400) (h : M 78 t = 7) : fn_211 0 M = some (2, M) := by
  unfold fn_211
  rw [h53, zb_wi_t1 ht, if_pos (by omega), Int.toNat_natCast, h, if_neg (by decide), if_neg (by decide), if_neg (by decide), if_neg (by decide), if_neg (by decide), if_neg (by decide), if_pos rfl, if_pos rfl]
theorem zb_d211_7 {a : Int} (h53 : M 45 53 = ((t + 1 : Nat) : Int)) (ht : t < 4400) (h : M 78 t = 7) (ha : a = 1) : fn_211 a M = fn_219 (M 79 t) M := by
  subst ha
  unfold fn_211
  rw [h53, zb_wi_t1 ht, if_pos (by omega), Int.toNat_natCast, h, if_neg (by decide), if_neg (by decide), if_neg (by decide), if_neg (by decide), if_neg (by decide), if_neg (by decide), if_pos rfl, if_neg (by decide)]
  cases fn_219 (M 79 t) M with
  | none => rfl
  | some x => rfl
theorem zb_d211_8 {a : Int} (h53 : M 45 53 = ((t + 1 : Nat) : Int)) (ht : t < 4400) (h : M 78 t = 8) : fn_211 a M = fn_220 a M := by
  unfold fn_211
  rw [h53, zb_wi_t1 ht, if_pos (by omega), Int.toNat_natCast, h, if_neg (by decide), if_neg (by decide), if_neg (by decide), if_neg (by decide), if_neg (by decide), if_neg (by decide), if_neg (by decide), if_pos rfl]
  cases fn_220 a M with
  | none => rfl
  | some x => rfl
theorem zb_d211_9 {a : Int} (h53 : M 45 53 = ((t + 1 : Nat) : Int)) (ht : t < 4400) (h : M 78 t = 9) : fn_211 a M = fn_220 a M := by
  unfold fn_211
  rw [h53, zb_wi_t1 ht, if_pos (by omega), Int.toNat_natCast, h, if_neg (by decide), if_neg (by decide), if_neg (by decide), if_neg (by decide), if_neg (by decide), if_neg (by decide), if_neg (by decide), if_neg (by decide), if_pos rfl]
  cases fn_220 a M with
  | none => rfl
  | some x => rfl
theorem zb_d211z_10 (h53 : M 45 53 = ((t + 1 : Nat) : Int)) (ht : t < 4400) (h : M 78 t = 10) : fn_211 0 M = some (2, M) := by
  unfold fn_211
  rw [h53, zb_wi_t1 ht, if_pos (by omega), Int.toNat_natCast, h, if_neg (by decide), if_neg (by decide), if_neg (by decide), if_neg (by decide), if_neg (by decide), if_neg (by decide), if_neg (by decide), if_neg (by decide), if_neg (by decide), if_pos rfl, if_pos rfl]
theorem zb_d211_10 {a : Int} (h53 : M 45 53 = ((t + 1 : Nat) : Int)) (ht : t < 4400) (h : M 78 t = 10) (ha : a = 1) : fn_211 a M = fn_221 M := by
  subst ha
  unfold fn_211
  rw [h53, zb_wi_t1 ht, if_pos (by omega), Int.toNat_natCast, h, if_neg (by decide), if_neg (by decide), if_neg (by decide), if_neg (by decide), if_neg (by decide), if_neg (by decide), if_neg (by decide), if_neg (by decide), if_neg (by decide), if_pos rfl, if_neg (by decide)]
  cases fn_221 M with
  | none => rfl
  | some x => rfl
theorem zb_d211z_11 (h53 : M 45 53 = ((t + 1 : Nat) : Int)) (ht : t < 4400) (h : M 78 t = 11) : fn_211 0 M = some (2, M) := by
  unfold fn_211
  rw [h53, zb_wi_t1 ht, if_pos (by omega), Int.toNat_natCast, h, if_neg (by decide), if_neg (by decide), if_neg (by decide), if_neg (by decide), if_neg (by decide), if_neg (by decide), if_neg (by decide), if_neg (by decide), if_neg (by decide), if_neg (by decide), if_pos rfl, if_pos rfl]
theorem zb_d211_11 {a : Int} (h53 : M 45 53 = ((t + 1 : Nat) : Int)) (ht : t < 4400) (h : M 78 t = 11) (ha : a = 1) : fn_211 a M = fn_218 M := by
  subst ha
  unfold fn_211
  rw [h53, zb_wi_t1 ht, if_pos (by omega), Int.toNat_natCast, h, if_neg (by decide), if_neg (by decide), if_neg (by decide), if_neg (by decide), if_neg (by decide), if_neg (by decide), if_neg (by decide), if_neg (by decide), if_neg (by decide), if_neg (by decide), if_pos rfl, if_neg (by decide)]
  cases fn_218 M with
  | none => rfl
  | some x => rfl
theorem zb_d211_12 {a : Int} (h53 : M 45 53 = ((t + 1 : Nat) : Int)) (ht : t < 4400) (h : M 78 t = 12) : fn_211 a M = fn_246 M := by
  unfold fn_211
  rw [h53, zb_wi_t1 ht, if_pos (by omega), Int.toNat_natCast, h, if_neg (by decide), if_neg (by decide), if_neg (by decide), if_neg (by decide), if_neg (by decide), if_neg (by decide), if_neg (by decide), if_neg (by decide), if_neg (by decide), if_neg (by decide), if_neg (by decide), if_pos rfl]
  cases fn_246 M with
  | none => rfl
  | some x => rfl
theorem zb_d211_13 {a : Int} (h53 : M 45 53 = ((t + 1 : Nat) : Int)) (ht : t < 4400) (h : M 78 t = 13) : fn_211 a M = fn_246 M := by
  unfold fn_211
  rw [h53, zb_wi_t1 ht, if_pos (by omega), Int.toNat_natCast, h, if_neg (by decide), if_neg (by decide), if_neg (by decide), if_neg (by decide), if_neg (by decide), if_neg (by decide), if_neg (by decide), if_neg (by decide), if_neg (by decide), if_neg (by decide), if_neg (by decide), if_neg (by decide), if_pos rfl]
  cases fn_246 M with
  | none => rfl
  | some x => rfl
theorem zb_d211z_14 (h53 : M 45 53 = ((t + 1 : Nat) : Int)) (ht : t < 4400) (h : M 78 t = 14) : fn_211 0 M = some (2, M) := by
  unfold fn_211
  rw [h53, zb_wi_t1 ht, if_pos (by omega), Int.toNat_natCast, h, if_neg (by decide), if_neg (by decide), if_neg (by decide), if_neg (by decide), if_neg (by decide), if_neg (by decide), if_neg (by decide), if_neg (by decide), if_neg (by decide), if_neg (by decide), if_neg (by decide), if_neg (by decide), if_neg (by decide), if_pos rfl, if_pos rfl]
theorem zb_d211_14 {a : Int} (h53 : M 45 53 = ((t + 1 : Nat) : Int)) (ht : t < 4400) (h : M 78 t = 14) (ha : a = 1) : fn_211 a M = fn_213 (M 45 70) M := by
  subst ha
  unfold fn_211
  rw [h53, zb_wi_t1 ht, if_pos (by omega), Int.toNat_natCast, h, if_neg (by decide), if_neg (by decide), if_neg (by decide), if_neg (by decide), if_neg (by decide), if_neg (by decide), if_neg (by decide), if_neg (by decide), if_neg (by decide), if_neg (by decide), if_neg (by decide), if_neg (by decide), if_neg (by decide), if_pos rfl, if_neg (by decide)]
  cases fn_213 (M 45 70) M with
  | none => rfl
  | some x => rfl
theorem zb_s210_done {x y g : Int} {M' : eM} (h : fn_211 y M = some (g, M')) (h2 : g ≠ 2) (h3 : g ≠ 3) : fn_210_13 x y M = some (.inl (g, M')) := by
  unfold fn_210_13
  rw [h, Option.bind_some, if_pos h2, if_pos h3]
theorem zb_s210_3 {x y : Int} {M' : eM} (h : fn_211 y M = some (3, M')) : fn_210_13 x y M = some (.inl (1, M')) := by
  unfold fn_210_13
  rw [h, Option.bind_some, if_pos (show ¬ (3 : Int) = 2 by decide), if_neg (show ¬ ¬ (3 : Int) = 3 by decide)]
theorem zb_s210_ev {x y : Int} {M' : eM} (h : fn_211 y M = some (2, M')) (h53 : M' 45 53 = ((t + 1 : Nat) : Int)) (ht : t < 4400) (h5 : M' 78 t ≠ 5) : fn_210_13 x y M = (fn_184 (M' 80 t) (M' 82 t) M').bind fun r => some (.inl (r.1, r.2)) := by
  unfold fn_210_13
  rw [h, Option.bind_some, if_neg (show ¬ ¬ (2 : Int) = 2 by decide)]
  show (if 0 ≤ eg_wi (M' 45 53 - 1) ∧ eg_wi (M' 45 53 - 1) < 4400 then (if ¬ M' 78 (eg_wi (M' 45 53 - 1)).toNat = 5 then (fn_184 (M' 80 (eg_wi (M' 45 53 - 1)).toNat) (M' 82 (eg_wi (M' 45 53 - 1)).toNat) M').bind fun r16 => some (Sum.inl (r16.1, r16.2)) else (fn_176 (M' 80 (eg_wi (M' 45 53 - 1)).toNat) M').bind fun r20 => (fn_184 r20 (M' 82 (eg_wi (M' 45 53 - 1)).toNat) M').bind fun r24 => some (Sum.inl (r24.1, r24.2))) else none) = _
  rw [h53, zb_wi_t1 ht, if_pos (by omega), Int.toNat_natCast, if_pos h5]
theorem zb_s210_ev5 {x y z : Int} {M' : eM} (h : fn_211 y M = some (2, M')) (h53 : M' 45 53 = ((t + 1 : Nat) : Int)) (ht : t < 4400) (h5 : M' 78 t = 5) (h176 : fn_176 (M' 80 t) M' = some z) : fn_210_13 x y M = (fn_184 z (M' 82 t) M').bind fun r => some (.inl (r.1, r.2)) := by
  unfold fn_210_13
  rw [h, Option.bind_some, if_neg (show ¬ ¬ (2 : Int) = 2 by decide)]
  show (if 0 ≤ eg_wi (M' 45 53 - 1) ∧ eg_wi (M' 45 53 - 1) < 4400 then (if ¬ M' 78 (eg_wi (M' 45 53 - 1)).toNat = 5 then (fn_184 (M' 80 (eg_wi (M' 45 53 - 1)).toNat) (M' 82 (eg_wi (M' 45 53 - 1)).toNat) M').bind fun r16 => some (Sum.inl (r16.1, r16.2)) else (fn_176 (M' 80 (eg_wi (M' 45 53 - 1)).toNat) M').bind fun r20 => (fn_184 r20 (M' 82 (eg_wi (M' 45 53 - 1)).toNat) M').bind fun r24 => some (Sum.inl (r24.1, r24.2))) else none) = _
  rw [h53, zb_wi_t1 ht, if_pos (by omega), Int.toNat_natCast, if_neg (fun q => q h5), h176, Option.bind_some]
end DSP
section zb_EV
variable {B : zb_Bs} {Q : zb_Pq} {Z sp0 zb_sp : Nat} {C R : eM} {H : zb_Hp} {rl ql : List (Nat × Nat)} {fd fu : Nat} {st : List zb_Rec}
theorem zb_wi_n1 {n : Nat} (h : n < 2000) : eg_wi (((n + 1 : Nat) : Int) - 1) = (n : Int) := by unfold eg_wi; omega
theorem zb_f72_no {M : eM} {i : Nat} {k : Int} (hi : i < 2000) (h : M 30 i = k) (hk : k ≠ 12) : fn_72 (i : Int) M = some 0 := by
  unfold fn_72; rw [if_pos (by omega), Int.toNat_natCast, h, if_pos hk]
theorem zb_ctl_kep {C M R R1 : eM} {l : List zb_Rec} (h : zb_CTL C R l) (k : zb_KEP C M) (r : zb_KER R R1) : zb_CTL M R1 l :=
  zb_ctl_tr h (fun i _ _ => by rw [k.1 30 (by decide), k.1 31 (by decide), k.1 32 (by decide)]; exact ⟨rfl, rfl, rfl⟩) (fun t _ => by rw [r.2 78 (by decide), r.2 79 (by decide), r.2 80 (by decide)]; exact ⟨rfl, rfl, rfl⟩)
theorem zb_ln_frm {C R : eM} {H : zb_Hp} {cn N : Nat} {lam : Nat → Prop} {scp : Nat → Nat → Prop} (hr : zb_HR C R H cn N lam scp) {x o k s f : Nat} {l : List Nat} (hx : x ∉ zb_hO H) (ho : o ∉ (zb_hO H).map (zb_hP H)) (hk : k = 3 ∨ k = 4) (hf : zb_isF H f) : zb_LN (zb_lt (zb_Hmk H x o k s l) x) (zb_hP (zb_Hmk H x o k s l)) (zb_lv (f : Int)) (zb_frm H f) := by
  rcases hf with z | ⟨z1, z2⟩
  · subst z; exact Or.inl ⟨zb_lv_0, zb_frm_0⟩
  · have hb := zb_hr_h hr z1
    obtain ⟨a1, a2, a3, a4, a5, a6, a7⟩ := zb_mk_old (k := k) (s := s) (l := l) hx ho z1
    have hn := zb_mk_new (H := H) (x := x) (o := o) (k := k) (s := s) (l := l)
    have z3 : 3 ≤ zb_hZ H f := by
      obtain ⟨_, _, _, p4, _⟩ := zb_hr_ob hr z1
      exact (zb_nf_le p4).2.1
    refine Or.inr ⟨f, ⟨a7, ?_, fun _ => ?_⟩, zb_lv_g (by omega) (by omega), ?_⟩
    · rw [a3, hn.2.2.1, if_pos hk]; exact z2
    · rw [a1, hn.1]; omega
    · rw [a4, (zb_frm_ne (by omega)).1]
theorem zb_evx_lambda {d f : Nat} (h : zb_SX B C R H rl ql fd st fu) (hr : zb_RUNS B st) (hd : d + 1 < 20000) (h49 : R 49 d = 4) (h4 : C 4 d = 25769803776) (h59 : fn_59 (d : Int) B.1 = some 4) (h175 : fn_175 (d : Int) B.2.1 = some 4) (hx : zb_lamW B.1 B.2.1 B.2.2.2.1 B.2.2.2.2 d) (hf : zb_isF H f) (hfu : 0 < fu) (hZ9 : Z ≤ 999990) (h0 : sp0 ≤ zb_sp) (hp : zb_sp + 20 * fu + 5 * st.length ≤ Z + 10) :
    zb_RESV B Q Z sp0 ((fn_111 B.2.2.1 (B.2.2.1 / 3 + 1) (d : Int) (f : Int) C).bind (zb_AF B.2.2.1 Q (zb_sp : Int))) (fn_184 (d : Int) (zb_frm H f) R) := by
  have hfu2 := h.2.1
  have hfu3 := hfu2.2.2
  have hlen := zb_dep_len h.2.2.2 h.2.2.1.2.2
  have htl := zb_tt_le (l := st)
  obtain ⟨hN, _, _⟩ := zb_gs_N h.1.1
  have g1 : zb_SC B (eg_u C 44 7 ((fu - 1 : Nat) : Int)) (eg_u R 45 67 ((fu - 1 : Nat) : Int)) H rl ql fd st := zb_sc_keep h.1 (fun c hc => eg_u_ne hc) (by rw [eg_u_nj (by omega)]; exact h.1.2.2.2.1.1.1) (by rw [eg_u_eq, hfu2.1]; omega) (fun c hc => eg_u_ne hc) (fun f hf => eg_u_nj (fun z => hf (by rw [z.2]; decide)))
  have w1 := zb_gs_w g1.1
  obtain ⟨C2, hC2⟩ : ∃ C2, C2 = zb_pushC (eg_u C 44 7 ((fu - 1 : Nat) : Int)) (st.length + 1) 4 (d : Int) ((d + 1 : Nat) : Int) (f : Int) := ⟨_, rfl⟩
  obtain ⟨R2, hR2⟩ : ∃ R2, R2 = eg_u (eg_u R 45 67 ((fu - 1 : Nat) : Int)) 45 62 (zb_frm H f) := ⟨_, rfl⟩
  have e1 : fn_111 B.2.2.1 (B.2.2.1 / 3 + 1) (d : Int) (f : Int) C = some C2 := by
    unfold fn_111 fn_112
    rw [hfu2.1, zb_wi_f1 hfu hfu3, if_pos (by omega), if_pos (by omega), Int.toNat_natCast, h4, if_neg (fun z => z rfl), zb_w59 w1, h59, Option.bind_some, if_neg (by decide), if_neg (by decide), if_neg (by decide), Option.bind_some, zb_wi_1 (by omega), zb_push_c (n := st.length) g1.2.2.2.2.1 (by omega), Option.bind_some, hC2]
  have e2 : fn_184 (d : Int) (zb_frm H f) R = (fn_191 (d : Int) (zb_frm H f) (eg_u R 45 67 ((fu - 1 : Nat) : Int))).bind fun r35 => some (r35.1, r35.2) := by
    unfold fn_184
    rw [hfu2.2.1, zb_wi_f1 hfu hfu3, if_pos (by omega), if_pos (by omega), Int.toNat_natCast, if_neg (by omega), if_neg (by omega), if_neg (by omega), if_neg (by omega)]
  have c29 : C2 29 0 = ((st.length + 1 : Nat) : Int) := by rw [hC2]; unfold zb_pushC; simp (disch := omega) only [eg_u_nj, eg_u_eq]
  have c30 : C2 30 (st.length + 1) = 4 := by rw [hC2]; unfold zb_pushC; simp (disch := omega) only [eg_u_nj, eg_u_eq]
  have c31 : C2 31 (st.length + 1) = (d : Int) := by rw [hC2]; unfold zb_pushC; simp (disch := omega) only [eg_u_nj, eg_u_eq]
  have c33 : C2 33 (st.length + 1) = (f : Int) := by rw [hC2]; unfold zb_pushC; simp (disch := omega) only [eg_u_nj, eg_u_eq]
  have c34 : C2 34 (st.length + 1) = 0 := by rw [hC2]; unfold zb_pushC; simp (disch := omega) only [eg_u_nj, eg_u_eq]
  have c448 : C2 44 8 = 0 := by rw [hC2]; unfold zb_pushC; simp (disch := omega) only [eg_u_nj, eg_u_eq]; exact h.1.2.2.2.1.1.1
  have c447 : C2 44 7 = ((fu - 1 : Nat) : Int) := by rw [hC2]; unfold zb_pushC; simp (disch := omega) only [eg_u_nj, eg_u_eq]
  have c44 : C2 44 10 = C 44 10 := by rw [hC2]; unfold zb_pushC; simp (disch := omega) only [eg_u_nj, eg_u_eq]
  have c36 : C2 36 = C 36 := by rw [hC2]; unfold zb_pushC; simp (disch := omega) only [eg_u_ne]
  have c43 : C2 43 = C 43 := by rw [hC2]; unfold zb_pushC; simp (disch := omega) only [eg_u_ne]
  have c15 : C2 15 = C 15 := by rw [hC2]; unfold zb_pushC; simp (disch := omega) only [eg_u_ne]
  have low : zb_LOW C C2 R R2 st := by
    rw [hC2, hR2]; unfold zb_pushC
    refine ⟨fun c i hc h1 h2 => ?_, fun i hi => ?_, fun c t hc ht => ?_, fun b hb => ?_⟩
    · have : c ≠ 44 := fun e => by rw [e] at hc; revert hc; decide
      simp (disch := omega) only [eg_u_nj]
    · simp (disch := omega) only [eg_u_nj]
    · have : c ≠ 45 := fun e => by rw [e] at hc; revert hc; decide
      simp (disch := omega) only [eg_u_nj]
    · simp (disch := omega) only [eg_u_nj]
  have qc2 : zb_QC C C2 := by rw [hC2]; exact zb_QC_tr (zb_QC_f zb_QC_rfl (by rw [hfu2.1]; omega)) zb_qc_push
  have qr2 : zb_QR2 R R2 := by rw [hR2]; exact zb_QR_45 (zb_QR_45 zb_QR_rfl (by decide)) (by decide)
  have r2f : ∀ f, f ≠ 67 → f ≠ 62 → R2 45 f = R 45 f := fun f a b => by rw [hR2, eg_u_nj (by omega), eg_u_nj (by omega)]
  have r67 : R2 45 67 = ((fu - 1 : Nat) : Int) := by rw [hR2, eg_u_nj (by omega), eg_u_eq]
  have r62 : R2 45 62 = zb_frm H f := by rw [hR2, eg_u_eq]
  have g2 := zb_gs_congr h.1.1 qc2 qr2
  have s2 := zb_low_str low h.1.2.1
  have ct2 := zb_low_ctl low h.1.2.2.1
  have fl := h.1.2.2.2.1
  rw [e1, Option.bind_some, zb_af_go (m := C2) (by omega) c448 (by rw [c15]; exact fl.1.2.2.2.1) (by rw [c43]; exact fl.1.2.2.1), e2]
  have e191 : fn_191 (d : Int) (zb_frm H f) (eg_u R 45 67 ((fu - 1 : Nat) : Int)) = ((fn_195 (((3 : Nat) : Int) - 1) ((zb_nf 3 4 : Nat) : Int) (zb_frm H f) R2).bind fun r31 =>
    if ¬ r31.1 = (-1) then
      (fn_187 r31.1 (eg_u (eg_u r31.2 45 70 r31.1) 45 62 (-1))).bind fun r35 =>
      if 0 ≤ r35 ∧ r35 < 6700 then
      some (0, eg_u (eg_u (eg_u r31.2 45 70 r31.1) 45 62 (-1)) 64 (r35).toNat (d : Int))
      else none
    else
      some (-1, eg_u (eg_u (eg_u r31.2 45 70 r31.1) 45 62 (-1)) 45 69 (r31.2 45 66))) := by
    unfold fn_191
    rw [zb_w175 w1, h175, Option.bind_some, if_neg (by decide), if_neg (by decide), if_neg (by decide), if_neg (by decide), if_pos rfl, hR2]
    rfl
  rw [e191]
  have hstep : ∀ (M R' : eM) (H' : zb_Hp) (rl' ql' : List (Nat × Nat)) (sp' : Nat), zb_GS B M R' H' rl' ql' fd → zb_KEP C2 M → M 15 11 = 0 → ¬ zb_hU H' + 4 ≤ B.2.2.1 → sp' < 1000000 → (∀ g, g ∈ zb_hO H → zb_RTS C2 st.length g → zb_TRg H H' g) → (∀ h i, h ∈ zb_hO H' → zb_hK H h ≤ 4 → i < zb_hZ H h → zb_cl M H' h i = zb_cl C2 H h i) → zb_CL B.2.2.1 Q (sp' : Int) M = zb_AF B.2.2.1 Q (sp' : Int) (eg_u M 15 11 1) := by
    intro M R' H' rl' ql' sp' gM kM h11 hno hs' _ _
    obtain ⟨⟨fl', hs9, hH⟩, _⟩ := zb_gs_hr gM
    refine zb_cl_res (top := st.length + 1) (by rw [kM.2.1 8 (by decide)]; exact c448) hs' (by rw [kM.1 29 (by decide)]; exact c29) (by omega) (zb_f72_no (k := 4) (by omega) (by rw [kM.1 30 (by decide)]; exact c30) (by decide)) ?_
    rw [zb_d104_4 (by omega) (by rw [kM.1 30 (by decide)]; exact c30)]
    unfold fn_117
    have := zb_make_no hH (k := 3) hno
    rw [show (4 : Int) = ((4 : Nat) : Int) by rfl, this, Option.bind_some]
    show (if (0 : Int) = 0 then some (eg_u M 15 11 1) else _) = _
    rw [if_pos rfl]
  rcases zb_room (Q := Q) (zb_sp := zb_sp + 1) (k := 3) (s := 4) (v := zb_frm H f) (e := 1) (f := f) (bn := 0) g2 s2 (by omega) (by omega) c29 (fun _ => ⟨c33, c34⟩) hf (fun z => by omega) (by rw [r2f 53 (by decide) (by decide)]; exact h.1.2.2.2.2.2.1) (by rw [r2f 51 (by decide) (by decide)]; exact h.1.2.2.2.2.2.2) r62
      (zb_qb_none (fun i hi => by rw [c36]; exact fl.2.2 i hi) (by rw [r2f 59 (by decide) (by decide)]; exact fl.2.1.1) (by rw [r2f 63 (by decide) (by decide)]; exact fl.2.1.2.2)) ⟨c447, r67, by omega⟩ c448 (by rw [c15]; exact fl.1.2.2.2.1) (by rw [c15]; exact fl.1.2.2.2.2) (by rw [c43]; exact fl.1.2.2.1) (by unfold zb_szk; omega) (by omega) hstep with
    ⟨M, R1, H1, rl1, ql1, fu1, sp1, k1, k2, k3, k4, k5, k6, k7, k8, k9, k10, k11, k12, k13, k14, k15, k16⟩ | ⟨C', R', H', rl', ql', fu', lk, k1, k2, k3, k4, k5, k6, k7⟩
  · -- it is made
    obtain ⟨x, o, C3, R3, l, m1, m2, m⟩ := zb_hr_make (zb_gs_hr k4) (k := 3) (s := 4) (by unfold zb_szk; omega) k3 (zb_frm H f)
    have hm := m
    obtain ⟨⟨n1, n2, n3, n4, n5, n6⟩, _, _, ⟨p1, p2, p3, p4, p5, p6, p7⟩, ⟨q1, q2, q3, q4, q5, q6, q7, q8, q9, q10, q11⟩⟩ := hm
    have hx20 : x < 20000 := by have := (zb_gs_hr k4).1.choose_spec.choose_spec.1.2.1; omega
    have hM := k6.1
    have i31 : C3 31 (st.length + 1) = (d : Int) := by rw [p7 31 (by decide), hM 31 (by decide)]; exact c31
    have i33 : C3 33 (st.length + 1) = (f : Int) := by rw [p7 33 (by decide), hM 33 (by decide)]; exact c33
    have i29 : C3 29 0 = ((st.length + 1 : Nat) : Int) := by rw [p7 29 (by decide), hM 29 (by decide)]; exact c29
    obtain ⟨C4, hC4⟩ : ∃ C4, C4 = eg_u (eg_u (eg_u (eg_u C3 16 (zb_hU H1 + 1) (d : Int)) 16 (zb_hU H1 + 2) (f : Int)) 44 9 (17179869184 + (x : Int))) 29 0 (st.length : Int) := ⟨_, rfl⟩
    obtain ⟨R4, hR4⟩ : ∃ R4, R4 = eg_u (eg_u (eg_u R3 45 70 (zb_ov o)) 45 62 (-1)) 64 o (d : Int) := ⟨_, rfl⟩
    have h117 : fn_117 B.2.2.1 (B.2.2.1 / 3 + 1) ((st.length + 1 : Nat) : Int) M = some C4 := by
      have a1 : fn_94 B.2.2.1 (B.2.2.1 / 3 + 1) (x : Int) 1 (d : Int) C3 = _ := zb_mk_put m (M := C3) rfl (i := 1) (w := (d : Int)) (by omega)
      have a2 : fn_94 B.2.2.1 (B.2.2.1 / 3 + 1) (x : Int) 2 (f : Int) (eg_u C3 16 (zb_hU H1 + 1) (d : Int)) = _ := zb_mk_put m (M := eg_u C3 16 (zb_hU H1 + 1) (d : Int)) (by rw [eg_u_ne (by decide)]) (i := 2) (w := (f : Int)) (by omega)
      unfold fn_117 fn_95 fn_103
      rw [show (3 : Int) = ((3 : Nat) : Int) by rfl, show (4 : Int) = ((4 : Nat) : Int) by rfl, m1, Option.bind_some]
      show (if (x : Int) = 0 then some C3 else _) = _
      rw [if_neg (by omega), if_pos (by omega), Int.toNat_natCast]
      show (fn_94 B.2.2.1 (B.2.2.1 / 3 + 1) (x : Int) 1 (C3 31 (st.length + 1)) C3).bind _ = _
      rw [i31, a1, Option.bind_some, eg_u_ne (by decide), i33, a2, Option.bind_some, Option.bind_some, zb_lor_obj hx20, Option.bind_some, hC4, eg_u_ne (by decide), eg_u_ne (by decide), i29, zb_wi_n1 (by omega)]
    have hcl : zb_CL B.2.2.1 Q ((zb_sp + 1 : Nat) : Int) C2 = zb_AF B.2.2.1 Q (sp1 : Int) C4 := by
      rw [k1]
      refine zb_cl_res (top := st.length + 1) (by rw [k6.2.1 8 (by decide)]; exact c448) (by omega) (by rw [hM 29 (by decide)]; exact c29) (by omega) (zb_f72_no (k := 4) (by omega) (by rw [hM 30 (by decide)]; exact c30) (by decide)) ?_
      rw [zb_d104_4 (by omega) (by rw [hM 30 (by decide)]; exact c30)]; exact h117
    have hne : ¬ zb_ov o = -1 := by unfold zb_ov; omega
    rw [hcl, k2, m2, Option.bind_some]
    show zb_RESV B Q Z sp0 _ ((if ¬ zb_ov o = -1 then _ else _ : Option (Int × eM)).bind _)
    rw [if_pos hne, zb_f187 n4, Option.bind_some, if_pos (by omega), Int.toNat_natCast, Option.bind_some]
    show zb_RESV B Q Z sp0 _ (some (0, eg_u (eg_u (eg_u R3 45 70 (zb_ov o)) 45 62 (-1)) 64 o (d : Int)))
    rw [← hR4]
    have c4o : ∀ c, c ≠ 16 → c ≠ 44 → c ≠ 29 → C4 c = C3 c := fun c a b e => by rw [hC4, eg_u_ne e, eg_u_ne b, eg_u_ne a, eg_u_ne a]
    have r4o : ∀ c, c ≠ 45 → c ≠ 64 → R4 c = R3 c := fun c a b => by rw [hR4, eg_u_ne b, eg_u_ne a, eg_u_ne a]
    have r4f : ∀ f, f ≠ 70 → f ≠ 62 → R4 45 f = R3 45 f := fun f a b => by rw [hR4, eg_u_ne (by decide), eg_u_nj (by omega), eg_u_nj (by omega)]
    have hnew := zb_mk_new (H := H1) (x := x) (o := o) (k := 3) (s := 4) (l := l)
    have hr4 : zb_HR C4 R4 (zb_Hmk H1 x o 3 4 l) B.2.2.1 B.2.2.2.1 (zb_lamW B.1 B.2.1 B.2.2.2.1 B.2.2.2.2) (zb_scpW B.1 B.2.1 B.2.2.2.1 B.2.2.2.2) := by
      refine zb_hr_made (zb_gs_hr k4) (by unfold zb_szk; omega) m (fun f hf => by rw [c4o 15 (by decide) (by decide) (by decide)]) (fun c hc => c4o c (by revert hc; simp; omega) (by revert hc; simp; omega) (by revert hc; simp; omega)) (fun j hj => ?_) (fun f hf => r4f f (by revert hf; simp; omega) (by revert hf; simp; omega)) (fun c hc => r4o c (by revert hc; simp; omega) (by revert hc; simp; omega)) (fun q hq => ?_) (fun c hc => by rw [r4o 70 (by decide) (by decide)]) (fun j hj => ?_) (fun _ => ⟨d, hx, ?_, ?_⟩) (fun z => by omega) (fun z => by omega)
      · rw [hC4, eg_u_ne (by decide), eg_u_ne (by decide), eg_u_nj (by omega), eg_u_nj (by omega)]
      · rw [hR4, eg_u_nj (fun z => hq z.2), eg_u_ne (by decide), eg_u_ne (by decide)]
      · have hj0 : j = 0 := by simp [zb_nf] at hj; omega
        subst hj0
        refine ⟨fun _ => ?_, fun z => absurd (Or.inl ⟨Or.inl hnew.2.2.1, rfl⟩) z⟩
        have ec : zb_cf C4 (zb_Hmk H1 x o 3 4 l) x 0 = zb_lv (f : Int) := by
          unfold zb_cf; rw [hnew.1, hnew.2.2.1, if_pos (Or.inl ⟨Or.inl rfl, rfl⟩)]
          show zb_lv (C4 16 (zb_hU H1 + 2)) = _
          rw [hC4, eg_u_ne (by decide), eg_u_ne (by decide), eg_u_eq]
        have er : zb_rf R4 (zb_Hmk H1 x o 3 4 l) x 0 = zb_frm H1 f := by
          unfold zb_rf; rw [hnew.2.2.2.1, hnew.2.2.2.2.2.1, r4o 70 (by decide) (by decide), zb_gd (by rw [q6]; decide), q4 _ (List.getElem_mem _), k8.2]
        rw [ec, er]
        exact zb_ln_frm (zb_gs_hr k4) n1 n5 (Or.inl rfl) k8.1
      · rw [hC4, eg_u_ne (by decide), eg_u_ne (by decide), eg_u_nj (by omega), eg_u_eq]
      · rw [hR4, eg_u_eq]
    have gs4 : zb_GS B C4 R4 (zb_Hmk H1 x o 3 4 l) rl1 ql1 fd := by
      refine zb_gs_tr k4 hr4 (zb_mk_trg m) (zb_mk_cl (zb_gs_hr k4) m (fun j hj => by rw [hC4, eg_u_ne (by decide), eg_u_ne (by decide), eg_u_nj (by omega), eg_u_nj (by omega)])) (zb_mk_num (zb_gs_num k4) m (c4o 20 (by decide) (by decide) (by decide)) (by rw [c4o 15 (by decide) (by decide) (by decide)]) (by rw [hC4, eg_u_ne (by decide), eg_u_nj (by decide), eg_u_ne (by decide), eg_u_ne (by decide), p7 44 (by decide)]; exact Int.le_refl _)) (fun c hc h2 => ?_) (fun c hc h2 => ?_) (fun f hf h2 => ?_)
      · rw [c4o c (fun e => h2 (by rw [e]; decide)) (fun e => hc (by rw [e]; decide)) (fun e => hc (by rw [e]; decide)), p7 c h2]
      · rw [r4o c (fun e => h2 (by rw [e]; decide)) (fun e => h2 (by rw [e]; decide)), q10 c (fun z => h2 (by revert z; simp; omega))]
      · rw [r4f f (fun e => hf (by rw [e]; decide)) (fun e => hf (by rw [e]; decide)), q11 f (fun e => h2 (by rw [e]; decide)) (fun e => h2 (by rw [e]; decide)) (fun e => h2 (by rw [e]; decide)) (fun e => h2 (by rw [e]; decide))]
    have zb_rowC : ∀ c, c ∈ ([30, 31, 32, 33, 34, 35, 36, 43] : List Nat) → C4 c = M c := fun c hc => by rw [c4o c (by revert hc; simp; omega) (by revert hc; simp; omega) (by revert hc; simp; omega), p7 c (by revert hc; simp; omega)]
    have zb_rowR : ∀ c, c ∈ ([77, 78, 79, 80, 81, 82] : List Nat) → R4 c = R1 c := fun c hc => by rw [r4o c (by revert hc; simp; omega) (by revert hc; simp; omega), q10 c (by revert hc; simp; omega)]
    have f45 : ∀ f, f ∉ ([70, 62, 28, 29, 38, 41] : List Nat) → R4 45 f = R1 45 f := fun f hf => by rw [r4f f (fun e => hf (by rw [e]; decide)) (fun e => hf (by rw [e]; decide)), q11 f (fun e => hf (by rw [e]; decide)) (fun e => hf (by rw [e]; decide)) (fun e => hf (by rw [e]; decide)) (fun e => hf (by rw [e]; decide))]
    have f44 : ∀ f, f ≠ 9 → C4 44 f = M 44 f := fun f hf => by rw [hC4, eg_u_ne (by decide), eg_u_nj (by omega), eg_u_ne (by decide), eg_u_ne (by decide), p7 44 (by decide)]
    have g62 : R4 45 62 = -1 := by rw [hR4, eg_u_ne (by decide), eg_u_eq]
    refine zb_res_go (fu' := fu1) (st' := st) (H' := zb_Hmk H1 x o 3 4 l) (rl' := rl1) (ql' := ql1) (fd' := fd) ⟨⟨gs4, ?_, ?_, ⟨⟨?_, ?_, ?_, ?_, ?_⟩, ⟨?_, g62, ?_⟩, fun i hi => ?_⟩, ?_, ?_, ?_⟩, ⟨?_, ?_, k12.2.2⟩, ⟨?_, ?_, h.2.2.1.2.2.1, zb_bud_le h.2.2.1.2.2.2 (by rw [f45 42 (by decide), k7.1 42 (by decide), r2f 42 (by decide) (by decide)]) (by rw [f45 67 (by decide), k12.2.1, hfu2.2.1]; omega)⟩, h.2.2.2⟩ (Or.inl ⟨rfl, ?_, hr⟩) hZ9 (by omega) (by omega)
    · exact zb_str_tr k5 (fun i _ _ => by rw [zb_rowC 33 (by decide), zb_rowC 34 (by decide), zb_rowC 35 (by decide)]; exact ⟨rfl, rfl, fun _ _ => rfl⟩) (fun t _ => by rw [zb_rowR 81 (by decide), zb_rowR 82 (by decide)]; exact ⟨rfl, rfl⟩) (fun b _ => by rw [zb_rowR 77 (by decide)]) (fun g hg _ => zb_mk_trg m g hg)
    · exact zb_ctl_tr (zb_ctl_kep ct2 k6 k7) (fun i _ _ => by rw [zb_rowC 30 (by decide), zb_rowC 31 (by decide), zb_rowC 32 (by decide)]; exact ⟨rfl, rfl, rfl⟩) (fun t _ => by rw [zb_rowR 78 (by decide), zb_rowR 79 (by decide), zb_rowR 80 (by decide)]; exact ⟨rfl, rfl, rfl⟩)
    · rw [f44 8 (by decide), k6.2.1 8 (by decide)]; exact c448
    · rw [zb_rowC 43 (by decide), k6.2.2.1 4 (by decide), c43]; exact fl.1.2.1
    · rw [zb_rowC 43 (by decide)]; exact k6.2.2.2
    · rw [c4o 15 (by decide) (by decide) (by decide), p6]; exact k11
    · rw [c4o 15 (by decide) (by decide) (by decide)]; exact p4
    · rw [f45 59 (by decide), k7.1 59 (by decide), r2f 59 (by decide) (by decide)]; exact fl.2.1.1
    · rw [f45 63 (by decide), k7.1 63 (by decide), r2f 63 (by decide) (by decide)]; exact fl.2.1.2.2
    · rw [zb_rowC 36 (by decide), hM 36 (by decide), c36]; exact fl.2.2 i hi
    · rw [hC4, eg_u_eq]
    · rw [f45 53 (by decide), k7.1 53 (by decide), r2f 53 (by decide) (by decide)]; exact h.1.2.2.2.2.2.1
    · rw [f45 51 (by decide), k7.1 51 (by decide), r2f 51 (by decide) (by decide)]; exact h.1.2.2.2.2.2.2
    · rw [f44 7 (by decide)]; exact k12.1
    · rw [f45 67 (by decide)]; exact k12.2.1
    · rw [f44 10 (by decide), k6.2.1 10 (by decide), c44]; exact h.2.2.1.1
    · rw [f45 68 (by decide), k7.1 68 (by decide), r2f 68 (by decide) (by decide)]; exact h.2.2.1.2.1
    · have h9 : C4 44 9 = 17179869184 + (x : Int) := by rw [hC4, eg_u_ne (by decide), eg_u_eq]
      have h70 : R4 45 70 = zb_ov o := by rw [hR4, eg_u_ne (by decide), eg_u_nj (by decide), eg_u_eq]
      rw [h9, h70]
      refine Or.inr (Or.inr (Or.inr (Or.inr (Or.inr (Or.inr ⟨x, ⟨hnew.2.2.2.2.2.2, ?_, ?_⟩, rfl, by rw [hnew.2.2.2.1]⟩)))))
      · rw [hnew.2.2.1]; decide
      · rw [hnew.2.2.1]; decide
  · rw [k1, k2, Option.bind_some]
    show zb_RESV B Q Z sp0 _ ((if ¬ (-1 : Int) = -1 then _ else some (-1, eg_u (eg_u (eg_u R' 45 70 (-1)) 45 62 (-1)) 45 69 (R' 45 66)) : Option (Int × eM)).bind _)
    rw [if_neg (fun z => z rfl), Option.bind_some]
    refine Or.inr ⟨C', _, lk, rfl, rfl, H', rl', ql', fd, fu', zb_gs_congr k6 zb_QC_rfl (zb_QR_45 (zb_QR_45 (zb_QR_45 zb_QR_rfl (by decide)) (by decide)) (by decide)), ⟨k7.1, ?_, k7.2.2⟩, k4, ?_, by omega, by omega⟩
    · show eg_u (eg_u (eg_u R' 45 70 (-1)) 45 62 (-1)) 45 69 (R' 45 66) 45 67 = _
      rw [eg_u_nj (by decide), eg_u_nj (by decide), eg_u_nj (by decide)]; exact k7.2.1
    · show eg_u (eg_u (eg_u R' 45 70 (-1)) 45 62 (-1)) 45 69 (R' 45 66) 45 69 = _
      rw [eg_u_eq]; exact k3
end zb_EV
