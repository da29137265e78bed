section QUO
variable {B : zb_Bs} {Q : zb_Pq} {Z sp0 zb_sp : Nat} {C R M : eM} {H : zb_Hp} {rl ql : List (Nat × Nat)} {fd fu d f x e L : Nat} {st : List zb_Rec} {D E : Nat → Nat}
theorem zb_quo_all {x1 : Int} (ht : zb_TRE B.1 B.2.1 B.2.2.2.1 (d + 2) e D E) (hdp : zb_DEP B st) (hst : st.length < 1990) : ∀ (m x : Nat) (C R : eM) (H : zb_Hp) (rl ql : List (Nat × Nat)) (fu zb_sp : Nat) (ev : Int), x - (d + 2) = m → d + 2 ≤ x → x < e → zb_QS B C R H rl ql fd st fu d f (d + 2) x (D x - D (d + 2)) D E → zb_sp + 20 * fu < 999999 →
    (∃ (C' R' : eM) (H' : zb_Hp) (rl' ql' : List (Nat × Nat)) (fu' sp' : Nat) (w : Int), zb_CL B.2.2.1 Q (zb_sp : Int) C = zb_AF B.2.2.1 Q (sp' : Int) C' ∧ zb_QW x1 0 ev 1 R = some (0, R') ∧ R' 45 70 = w ∧ zb_SX B C' (eg_u (eg_u (eg_u R' 45 59 0) 45 62 (-1)) 45 63 (-1)) H' rl' ql' fd st fu' ∧ zb_VR (zb_vo H') (zb_hP H') B.2.2.2.1 (C' 44 9) w ∧ zb_sp ≤ sp' ∧ sp' + 20 * fu' ≤ zb_sp + 20 * fu)
    ∨ (∃ (C' R' : eM) (H' : zb_Hp) (rl' ql' : List (Nat × Nat)) (fu' : Nat) (k : Int), zb_CL B.2.2.1 Q (zb_sp : Int) C = some C' ∧ zb_QW x1 0 ev 1 R = some (-1, R') ∧ C' 44 8 = k ∧ R' 45 69 = k ∧ (k = 4 ∨ k = 12) ∧ zb_GS B C' R' H' rl' ql' fd ∧ zb_FUE C' R' fu') := by
  intro m
  induction m with
  | zero =>
    intro x C R H rl ql fu zb_sp ev hm hx1 hx2 h hsp
    have : x = d + 2 := by omega
    subst this
    rw [Nat.sub_self] at h
    obtain ⟨C', k1, k2, k3, k4⟩ := zb_quo_end (Q := Q) (zb_sp := zb_sp) (x1 := x1) (ev := ev) ht h hdp hst (by omega)
    exact Or.inl ⟨C', _, H, rl, ql, fu, zb_sp, R 45 63, k1, k2, eg_u_eq, k3, k4, Nat.le_refl _, Nat.le_refl _⟩
  | succ m ih =>
    intro x C R H rl ql fu zb_sp ev hm hx1 hx2 h hsp
    rcases zb_quo_step (Q := Q) (zb_sp := zb_sp) (x1 := x1) (ev := ev) ht h rfl (by omega) hx2 hst hsp with ⟨C1, R1, H1, rl1, ql1, fu1, sp1, ev1, k1, k2, k3, k4, k5⟩ | z
    · rcases ih (x - 1) C1 R1 H1 rl1 ql1 fu1 sp1 ev1 (by omega) (by omega) (by omega) k3 (by omega) with ⟨C', R', H', rl', ql', fu', sp', w, j1, j2, j3, j4, j5, j6, j7⟩ | ⟨C', R', H', rl', ql', fu', k, j1, j2, j3⟩
      · exact Or.inl ⟨C', R', H', rl', ql', fu', sp', w, by rw [k1, j1], by rw [k2, j2], j3, j4, j5, by omega, by omega⟩
      · exact Or.inr ⟨C', R', H', rl', ql', fu', k, by rw [k1, j1], by rw [k2, j2], j3⟩
    · exact Or.inr z
set_option maxHeartbeats 1000000 in
theorem zb_evx_quote (h : zb_SX B C R H rl ql fd st fu) (hr : zb_RUNS B st) (hd : d + 1 < 20000) (h49 : R 49 d = 4) (h4 : C 4 d = 25769803776) (h59 : fn_59 (d : Int) B.1 = some 0) (h175 : fn_175 (d : Int) B.2.1 = some 0) (hq : zb_QT B.1 B.2.1 B.2.2.2.1 B.2.2.2.2 d) (h176 : fn_176 (d : Int) B.2.1 = some ((d + 2 : Nat) : Int)) (hf : zb_isF H f) (hfu : 0 < fu) (hZ9 : Z ≤ 999990) (h0 : sp0 ≤ zb_sp) (hp : zb_sp + 20 * fu + 5 * st.length ≤ Z + 10) :
    zb_RESV B Q Z sp0 ((fn_111 B.2.2.1 (B.2.2.1 / 3 + 1) (d : Int) (f : Int) C).bind (zb_AF B.2.2.1 Q (zb_sp : Int))) (fn_184 (d : Int) (zb_frm H f) R) := by
  obtain ⟨D, E, e, ht, h5, hd2⟩ := zb_qt_tre hq
  have hte := ht.1
  have hfu2 := h.2.1
  have hfu3 := hfu2.2.2
  have hlen := zb_dep_len h.2.2.2 h.2.2.1.2.2
  have htl := zb_tt_le (l := st)
  obtain ⟨hN, _, _⟩ := zb_gs_N h.1.1
  have fl := h.1.2.2.2.1
  have g1 : zb_SC B (eg_u C 44 7 ((fu - 1 : Nat) : Int)) (eg_u R 45 67 ((fu - 1 : Nat) : Int)) H rl ql fd st := zb_sc_keep h.1 (fun c hc => eg_u_ne hc) (by rw [eg_u_nj (by omega)]; exact h.1.2.2.2.1.1.1) (by rw [eg_u_eq, hfu2.1]; omega) (fun c hc => eg_u_ne hc) (fun f hf => eg_u_nj (fun z => hf (by rw [z.2]; decide)))
  have w1 := zb_gs_w g1.1
  obtain ⟨C2, hC2⟩ : ∃ C2, C2 = zb_pushC (eg_u C 44 7 ((fu - 1 : Nat) : Int)) (st.length + 1) 0 (d : Int) (e : Int) (f : Int) := ⟨_, rfl⟩
  obtain ⟨R2, hR2⟩ : ∃ R2, R2 = eg_u (eg_u (eg_u R 45 67 ((fu - 1 : Nat) : Int)) 45 62 (zb_frm H f)) 45 59 0 := ⟨_, rfl⟩
  have e1 : fn_111 B.2.2.1 (B.2.2.1 / 3 + 1) (d : Int) (f : Int) C = some C2 := by
    have e5 : (eg_u C 44 7 ((fu - 1 : Nat) : Int)) 5 d = (e : Int) := by rw [w1.1.2.1]; exact h5
    unfold fn_111 fn_112
    rw [hfu2.1, zb_wi_f1 hfu hfu3, if_pos (by omega), if_pos (by omega), Int.toNat_natCast, h4, if_neg (fun z => z rfl), zb_w59 w1, h59, Option.bind_some, if_pos rfl, if_pos (by omega), e5, Option.bind_some, zb_push_c (n := st.length) g1.2.2.2.2.1 (by omega), Option.bind_some, hC2]
  have e2 : fn_184 (d : Int) (zb_frm H f) R = ((zb_QO ((d + 2 : Nat) : Int) ((d + 2 : Nat) : Int) 0 R2).bind fun r2 => some (r2.1, eg_u (eg_u (eg_u r2.2 45 59 0) 45 62 (-1)) 45 63 (-1))) := by
    have e191 : fn_191 (d : Int) (zb_frm H f) (eg_u R 45 67 ((fu - 1 : Nat) : Int)) = (fn_192 ((d + 2 : Nat) : Int) (zb_frm H f) (eg_u R 45 67 ((fu - 1 : Nat) : Int))) := by
      unfold fn_191
      rw [zb_w175 w1, h175, Option.bind_some, if_pos rfl, zb_w176 w1, h176, Option.bind_some]
      cases fn_192 ((d + 2 : Nat) : Int) (zb_frm H f) (eg_u R 45 67 ((fu - 1 : Nat) : Int)) <;> rfl
    have e192 : fn_192 ((d + 2 : Nat) : Int) (zb_frm H f) (eg_u R 45 67 ((fu - 1 : Nat) : Int)) = ((zb_QO ((d + 2 : Nat) : Int) ((d + 2 : Nat) : Int) 0 R2).bind fun r2 => some (r2.1, eg_u (eg_u (eg_u r2.2 45 59 0) 45 62 (-1)) 45 63 (-1))) := by
      unfold fn_192 fn_193 zb_QO
      rw [← hR2]
    unfold fn_184
    rw [hfu2.2.1, zb_wi_f1 hfu hfu3, if_pos (by omega), if_pos (by omega), Int.toNat_natCast, if_neg (by omega), if_neg (by omega), if_neg (by omega), if_neg (by omega), e191, e192]
    cases zb_QO ((d + 2 : Nat) : Int) ((d + 2 : Nat) : Int) 0 R2 <;> rfl
  have zb_c2o : ∀ c, c ∉ ([29, 30, 31, 32, 33, 34, 44] : List Nat) → C2 c = C c := fun c hc => by
    have : c ≠ 29 ∧ c ≠ 30 ∧ c ≠ 31 ∧ c ≠ 32 ∧ c ≠ 33 ∧ c ≠ 34 ∧ c ≠ 44 := by revert hc; simp
    rw [hC2]; unfold zb_pushC; simp (disch := omega) only [eg_u_ne]
  have r2o : ∀ c, c ≠ 45 → R2 c = R c := fun c hc => by rw [hR2, eg_u_ne hc, eg_u_ne hc, eg_u_ne hc]
  have r2f : ∀ f, f ≠ 67 → f ≠ 62 → f ≠ 59 → R2 45 f = R 45 f := fun f a b c => by rw [hR2, eg_u_nj (by omega), eg_u_nj (by omega), eg_u_nj (by omega)]
  have w := zb_gs_w h.1.1
  obtain ⟨R3, wv, z1, z2, z3, z4, z5, z6, z7, z8, z9⟩ := zb_q_down (x1 := ((d + 2 : Nat) : Int)) (z := e - 1) ht hN (by omega) (by omega) (e - 1 - (d + 2)) (d + 2) R2 rfl (Nat.le_refl _) (by omega) (by omega) (by rw [r2o 49 (by decide), w.2.1]) (by rw [r2o 50 (by decide), w.2.2.1]) (by rw [r2o 52 (by decide), w.2.2.2.2.1]) (by rw [r2o 55 (by decide), w.2.2.2.2.2.2.2]) (by rw [hR2, eg_u_eq, Nat.sub_self]; rfl) (fun z => by omega)
  rw [Nat.sub_self] at z8 z9
  have h30 := (ht.2 (e - 1) (by omega) (by omega)).2.1.2.2.2
  have hvkz := (ht.2 (e - 1) (by omega) (by omega)).2.1.2.1
  have htz := (zb_vk_tag hvkz hN).2.1
  have r3o : ∀ c, c ∉ ([45, 83, 84] : List Nat) → R3 c = R c := fun c hc => by rw [z4 c hc, r2o c (fun e => hc (by rw [e]; decide))]
  have r3f : ∀ f, f ∉ ([67, 62, 59, 63] : List Nat) → R3 45 f = R 45 f := fun f hf => by
    have : f ≠ 67 ∧ f ≠ 62 ∧ f ≠ 59 ∧ f ≠ 63 := by revert hf; simp
    rw [z5 f this.2.2.1 this.2.2.2, r2f f this.1 this.2.1 this.2.2.1]
  have low : zb_LOW C C2 R R3 st := by
    refine ⟨fun c i hc h1 h2 => ?_, fun i hi => ?_, fun c t hc ht => ?_, fun b hb => ?_⟩
    · have : c ≠ 44 := fun e => by rw [e] at hc; revert hc; decide
      rw [hC2]; unfold zb_pushC; simp (disch := omega) only [eg_u_nj]
    · rw [zb_c2o 35 (by decide)]
    · rw [r3o c (by revert hc; simp; omega)]
    · rw [r3o 77 (by decide)]
  have qc2 : zb_QC C C2 := by rw [hC2]; exact zb_QC_tr (zb_QC_f zb_QC_rfl (by rw [hfu2.1]; omega)) zb_qc_push
  have qr3 : zb_QR2 R R3 := ⟨fun c c1 c2 => r3o c (fun z => by revert z c1 c2; simp [zb_RC]; omega), fun f f1 => r3f f (fun z => f1 (by revert z; simp [zb_RF]; omega))⟩
  have hqs : zb_QS B C2 R3 H rl ql fd st (fu - 1) d f (d + 2) (e - 1) (D (e - 1) - D (d + 2)) D E := by
    refine ⟨⟨zb_gs_congr h.1.1 qc2 qr3, zb_low_str low h.1.2.1, zb_low_ctl low h.1.2.2.1⟩, ⟨?_, ?_, ?_, ?_, ?_⟩, ⟨?_, ?_, ?_⟩, ⟨?_, ?_, ?_, ?_, ?_⟩, ⟨hf, ?_⟩, ⟨?_, ?_, by omega⟩, ⟨?_, ?_, h.2.2.1.2.2.1, zb_bud_le h.2.2.1.2.2.2 (r3f 42 (by decide)) (by rw [z5 67 (by decide) (by decide), hR2, eg_u_nj (by decide), eg_u_nj (by decide), eg_u_eq, hfu2.2.1]; omega)⟩, ⟨fun j hj => ?_, z6, fun j hj => (z9 j (by omega) hj).2, ?_, fun _ => ?_, fun j j1 j2 => ?_⟩⟩
    · rw [hC2]; unfold zb_pushC; simp (disch := omega) only [eg_u_nj]; exact fl.1.1
    · rw [zb_c2o 43 (by decide)]; exact fl.1.2.1
    · rw [zb_c2o 43 (by decide)]; exact fl.1.2.2.1
    · rw [zb_c2o 15 (by decide)]; exact fl.1.2.2.2.1
    · rw [zb_c2o 15 (by decide)]; exact fl.1.2.2.2.2
    · rw [hC2]; unfold zb_pushC; simp (disch := omega) only [eg_u_nj, eg_u_eq]
    · rw [r3f 53 (by decide)]; exact h.1.2.2.2.2.2.1
    · rw [r3f 51 (by decide)]; exact h.1.2.2.2.2.2.2
    · rw [hC2]; unfold zb_pushC; simp (disch := omega) only [eg_u_nj, eg_u_eq]
    · rw [hC2]; unfold zb_pushC; simp (disch := omega) only [eg_u_nj, eg_u_eq]
    · rw [hC2]; unfold zb_pushC; simp (disch := omega) only [eg_u_nj, eg_u_eq]; omega
    · rw [hC2]; unfold zb_pushC; simp (disch := omega) only [eg_u_nj, eg_u_eq]
    · rw [hC2]; unfold zb_pushC; simp (disch := omega) only [eg_u_nj, eg_u_eq]
    · rw [z5 62 (by decide) (by decide), hR2, eg_u_nj (by decide), eg_u_eq]
    · rw [hC2]; unfold zb_pushC; simp (disch := omega) only [eg_u_nj, eg_u_eq]
    · rw [z5 67 (by decide) (by decide), hR2, eg_u_nj (by decide), eg_u_nj (by decide), eg_u_eq]
    · rw [hC2]; unfold zb_pushC; simp (disch := omega) only [eg_u_nj, eg_u_eq]; exact h.2.2.1.1
    · rw [r3f 68 (by decide)]; exact h.2.2.1.2.1
    · rw [(z9 j (by omega) hj).1, zb_c2o 36 (by decide), fl.2.2 (j + 1) (by omega)]; exact zb_vr_nil
    · rw [z7]
      unfold zb_tvq
      by_cases h4' : B.1 4 (e - 1) = 25769803776
      · have h49' := htz.mp h4'
        rw [if_pos h4', zb_c2o 36 (by decide), fl.2.2 _ (by omega)]
        have : wv = 12884901888 := by
          rcases z2 with ⟨z, _⟩ | ⟨z, _⟩ | ⟨z, _⟩ | ⟨z, _⟩ | ⟨_, z⟩
          · omega
          · omega
          · omega
          · omega
          · exact z
        rw [this]; exact zb_vr_nil
      · rw [if_neg h4']
        have h49' : B.2.1 49 (e - 1) ≠ 4 := fun z => h4' (htz.mpr z)
        unfold zb_vk at hvkz
        rcases z2 with ⟨z, y1, y2, y3⟩ | ⟨z, y1⟩ | ⟨z, y1⟩ | ⟨z, y1, y2, y3⟩ | ⟨z, _⟩
        · exact Or.inl ⟨by omega, by omega, by omega⟩
        · exact Or.inr (Or.inr (Or.inl ⟨by omega, y1⟩))
        · exact Or.inr (Or.inl ⟨by omega, y1⟩)
        · exact Or.inr (Or.inr (Or.inr (Or.inr (Or.inl ⟨(B.2.1 50 (e - 1)).toNat, by omega, by omega, by omega⟩))))
        · exact absurd z h49'
    · rw [zb_c2o 36 (by decide)]; exact fl.2.2 _ (by omega)
    · rw [zb_c2o 36 (by decide)]; exact fl.2.2 _ j1
  rw [e1, Option.bind_some, zb_af_go (m := C2) (by omega) hqs.2.1.1 hqs.2.1.2.2.2.1 hqs.2.1.2.2.1, e2, z1]
  rcases zb_quo_all (Q := Q) (x1 := ((d + 2 : Nat) : Int)) ht h.2.2.2 (by omega) _ (e - 1) C2 R3 H rl ql (fu - 1) (zb_sp + 1) (((e - 1 : Nat) : Int)) rfl (by omega) (by omega) hqs (by omega) with ⟨C', R', H', rl', ql', fu', sp', wq, j1, j2, j3, j4, j5, j6, j7⟩ | ⟨C', R', H', rl', ql', fu', k, j1, j2, j3, j4, j5, j6, j7⟩
  · rw [j1, j2, Option.bind_some]
    refine zb_res_go (zb_sp := sp') (fu' := fu') (st' := st) j4 (Or.inl ⟨rfl, ?_, hr⟩) hZ9 (by omega) (by omega)
    have : (eg_u (eg_u (eg_u R' 45 59 0) 45 62 (-1)) 45 63 (-1)) 45 70 = wq := by rw [eg_u_nj (by decide), eg_u_nj (by decide), eg_u_nj (by decide)]; exact j3
    show zb_VR (zb_vo H') (zb_hP H') B.2.2.2.1 (C' 44 9) ((eg_u (eg_u (eg_u R' 45 59 0) 45 62 (-1)) 45 63 (-1)) 45 70)
    rw [this]; exact j5
  · rw [j1, j2, Option.bind_some]
    refine Or.inr ⟨C', eg_u (eg_u (eg_u R' 45 59 0) 45 62 (-1)) 45 63 (-1), k, rfl, rfl, H', rl', ql', fd, fu', zb_gs_congr j6 zb_QC_rfl (zb_QR_45 (zb_QR_45 (zb_QR_45 zb_QR_rfl (by decide)) (by decide)) (by decide)), ⟨j7.1, ?_, j7.2.2⟩, j3, ?_, by omega, by omega⟩
    · rw [eg_u_nj (by decide), eg_u_nj (by decide), eg_u_nj (by decide)]; exact j7.2.1
    · rw [eg_u_nj (by decide), eg_u_nj (by decide), eg_u_nj (by decide)]; exact j4
theorem zb_evok (hZ9 : Z ≤ 999990) : zb_EVOK B Q Z := by
  intro sp0 zb_sp C R H rl ql fd fu st d f ro h hr hx hf hro hdep h0 hp
  obtain ⟨hN, _, _⟩ := zb_gs_N h.1.1
  have w := zb_gs_w h.1.1
  obtain ⟨hd, dp, h6, h30, hv⟩ := zb_ex_at hx
  by_cases hfu : fu = 0
  · subst hfu; exact zb_ev_poor h
  · have hfu' : 0 < fu := by omega
    have c4 : C 4 d = B.1 4 d := by rw [w.1.1]
    have r49 : R 49 d = B.2.1 49 d := by rw [w.2.1]
    have r50 : R 50 d = B.2.1 50 d := by rw [w.2.2.1]
    have hv' : zb_vk (C 4 d) (R 49 d) (R 50 d) B.2.2.2.1 := by rw [c4, r49, r50]; exact hv
    have hcase : (R 49 d = 0 ∨ R 49 d = 1 ∨ R 49 d = 2) ∨ (R 49 d = 3 ∧ 0 ≤ R 50 d ∧ R 50 d < (B.2.2.2.1 : Int) ∧ C 4 d = 8589934592 + R 50 d) ∨ (R 49 d = 4 ∧ C 4 d = 25769803776) := by unfold zb_vk at hv'; omega
    rcases hcase with z | ⟨z1, z2, z3, z4⟩ | ⟨z1, z2⟩
    · exact zb_ev_atom h hr hd hv' hN z hfu' hZ9 h0 hp
    · exact zb_ev_name (n := (R 50 d).toNat) h hr hd z1 (by omega) (by omega) (by omega) hf hfu' hZ9 h0 hp
    · obtain ⟨k, k1, k2, k3, k4, k5, k6⟩ := zb_ex_form hx hN (by rw [← r49]; exact z1)
      by_cases hk0 : k = 0
      · subst hk0
        rw [if_neg (by decide)] at k3
        obtain ⟨q1, q2⟩ : zb_QT B.1 B.2.1 B.2.2.2.1 B.2.2.2.2 d ∧ fn_176 (d : Int) B.2.1 = some ((d + 2 : Nat) : Int) := by
          rcases k6 with ⟨_, a, b⟩ | ⟨z, _⟩ | ⟨z, _⟩ | ⟨z, _⟩ | ⟨z, _⟩ | ⟨z, _⟩ | ⟨z, _⟩ | ⟨z, _⟩
          all_goals first | exact ⟨a, b⟩ | omega
        exact zb_evx_quote h hr k5 z1 z2 k2 k3 q1 q2 hf hfu' hZ9 h0 hp
      · by_cases hk4 : k = 4
        · subst hk4
          rw [if_neg (by decide)] at k3
          have hl : zb_lamW B.1 B.2.1 B.2.2.2.1 B.2.2.2.2 d := by
            rcases k6 with ⟨z, _⟩ | ⟨z, _⟩ | ⟨z, _⟩ | ⟨_, a⟩ | ⟨z, _⟩ | ⟨z, _⟩ | ⟨z, _⟩ | ⟨z, _⟩
            all_goals first | exact a | omega
          exact zb_evx_lambda h hr k5 z1 z2 k2 k3 hl hf hfu' hZ9 h0 hp
        · exact zb_ev_form h hr k5 z1 z2 k1 hk0 hk4 k2 k3 k6 k4 hf hro h6 h30 (hdep dp h6) hfu' hZ9 h0 hp
end QUO
