section CALLS
variable {B : zb_Bs} {Q : zb_Pq} {Z sp0 zb_sp : Nat} {C R C' R' M : eM} {H H' : zb_Hp} {rl ql : List (Nat × Nat)} {fd fu : Nat} {st l : List zb_Rec} {r r' : zb_Rec}
theorem zb_proc_at {cn N : Nat} {lam : Nat → Prop} {scp : Nat → Nat → Prop} (hr : zb_HR C R H cn N lam scp) {h : Nat} (hh : h ∈ zb_hO H) (hk : zb_hK H h = 3) :
    ∃ d g : Nat, lam d ∧ zb_cl C H h 1 = (d : Int) ∧ R 64 (zb_hP H h) = (d : Int) ∧ zb_isF H g ∧ zb_cl C H h 2 = (g : Int) ∧ zb_rf R H h 0 = zb_frm H g ∧ g < 20000 := by
  obtain ⟨o1, o2, o3, o4, o5, o6, o7⟩ := zb_hr_ob hr hh
  obtain ⟨d, d1, d2, d3⟩ := o6 hk
  have hl : zb_isl (zb_hK H h) 0 := Or.inl ⟨Or.inl hk, rfl⟩
  have fd := (o5 0 (by rw [hk]; simp [zb_nf])).1 hl
  have ec : zb_cf C H h 0 = zb_lv (C 16 (zb_hS H h + 2)) := by unfold zb_cf zb_ci; rw [hk]; rfl
  rw [ec] at fd
  rcases fd with ⟨a, b⟩ | ⟨g, ⟨g1, g2, g3⟩, g4, g5⟩
  · exact ⟨d, 0, d1, d2, d3, Or.inl rfl, zb_lv_none a, b, by omega⟩
  · have hg := zb_hr_h hr g1
    have k4 : zb_hK H g = 4 := by rw [g2, if_pos (Or.inl hk)]
    refine ⟨d, g, d1, d2, d3, Or.inr ⟨g1, k4⟩, zb_lv_ob g4 (by omega), ?_, by omega⟩
    rw [g5, (zb_frm_ne (by omega)).1]
def zb_SE (B : zb_Bs) (C R : eM) (H : zb_Hp) (rl ql : List (Nat × Nat)) (fd : Nat) (r : zb_Rec) (l : List zb_Rec) (fu : Nat) : Prop := (zb_GS B C R H rl ql fd ∧ zb_STR C R H B.2.2.2.1 (r :: l) ∧ zb_CTL C R l ∧ zb_FLG C R ∧ zb_TOPS C R (r :: l)) ∧ zb_FUE C R fu ∧ (C 44 10 = (zb_nb (r :: l) : Int) ∧ R 45 68 = (zb_nb (r :: l) : Int) ∧ (zb_nb (r :: l) ≤ 60 ∧ zb_BUD B R l)) ∧ zb_DEP B (r :: l)
set_option maxHeartbeats 4000000 in
theorem zb_enter_ok (ev : zb_EVOK B Q Z) {k' a n h d : Nat} {fc : Int} (hse : zb_SE B C R H rl ql fd r l fu) (hfc : (fc = 12 ∧ k' = 13 ∧ zb_rK r = 10) ∨ (fc = 15 ∧ k' = 15 ∧ zb_rK r = 15) ∨ (fc = 15 ∧ k' = 16 ∧ zb_rK r = 16 ∧ R 80 (zb_tt l) = -3)) (c30 : C 30 (l.length + 1) = fc) (c31 : C 31 (l.length + 1) = (zb_rD r : Int)) (c32 : C 32 (l.length + 1) = (a : Int)) (r78 : R 78 (zb_tt l) = zb_rkd k') (r79 : zb_rK r ≠ 15 → R 79 (zb_tt l) = (zb_rD r : Int)) (r78' : zb_rK r = 16 → R 78 (zb_tt l + 1) = 12)
    (hq : zb_rQ r = 1 + n) (hn : n ≤ 8) (hh : h ∈ zb_hO H) (hk3 : zb_hK H h = 3) (v0 : C 35 (9 * (l.length + 1)) = 17179869184 + (h : Int)) (w0 : R 77 (zb_bb l) = zb_ov (zb_hP H h)) (hd : zb_cl C H h 1 = (d : Int)) (hdn : B.2.1 55 (d + 2) = (n : Int)) (hl : zb_RUNS B l) (hZ9 : Z ≤ 999990) (h0 : sp0 ≤ zb_sp) (hp : zb_sp + 20 * fu + 5 * (l.length + 1) ≤ Z + 2)
    (hcls : ∀ (M R' : eM) (H' : zb_Hp) (rl' ql' : List (Nat × Nat)) (sp' : Nat), zb_GS B M R' H' rl' ql' fd → zb_KEP C M → h ∈ zb_hO H' → zb_hK H' h = 3 → zb_cl M H' h 1 = (d : Int) → sp' < 1000000 → zb_CL B.2.2.1 Q (sp' : Int) M = (fn_125 B.2.2.1 (B.2.2.1 / 3 + 1) ((l.length + 1 : Nat) : Int) M).bind (zb_AF B.2.2.1 Q (sp' : Int))) :
    (∃ R', fn_224 (R 77 (zb_bb l)) (zb_bb l : Int) (n : Int) R = some (2, R') ∧ R' 45 53 = ((zb_tt (r :: l) + 1 : Nat) : Int) ∧ zb_tt (r :: l) < 4400 ∧ R' 78 (zb_tt (r :: l)) ≠ 5 ∧ zb_RESV B Q Z sp0 (zb_CL B.2.2.1 Q (zb_sp : Int) C) (fn_184 (R' 80 (zb_tt (r :: l))) (R' 82 (zb_tt (r :: l))) R'))
    ∨ (∃ R', fn_224 (R 77 (zb_bb l)) (zb_bb l : Int) (n : Int) R = some (-1, R') ∧ zb_RESV B Q Z sp0 (zb_CL B.2.2.1 Q (zb_sp : Int) C) (some (-1, R'))) := by
  obtain ⟨⟨g, s, zb_ct, fl, t1, t2, t3⟩, f, ca, dp⟩ := hse
  have hlen := zb_dep_len dp ca.2.2
  have htl := zb_tt_le (l := r :: l)
  have hbl := zb_bb_le s
  have hbb : zb_bb (r :: l) = zb_bb l + zb_rQ r := rfl
  simp only [List.length_cons] at hlen t1 htl hbl
  obtain ⟨hN, _, _⟩ := zb_gs_N g
  have w := zb_gs_w g
  have rt := s.1
  have i4 := fl.1.1
  have hgb := zb_hr_h (zb_gs_hr g) hh
  have hgp := zb_hr_p (zb_gs_hr g) hh
  have hcl0 := hcls C R H rl ql zb_sp g ⟨fun _ _ => rfl, fun _ _ => rfl, fun _ _ => rfl, fl.1.2.2.1⟩ hh hk3 hd (by omega)
  by_cases h60 : zb_nb (r :: l) = 60
  · right
    refine ⟨eg_u R 45 69 8, ?_, ?_⟩
    · unfold fn_224 fn_185
      rw [ca.2.1, h60, if_neg (by decide), Option.bind_some]
    · rw [hcl0]
      unfold fn_125
      rw [ca.1, h60, if_neg (by decide), Option.bind_some]
      exact zb_res_fault (k := 8) (fu := fu) g (zb_QC_u zb_QC_rfl (by decide)) (zb_QR_45 zb_QR_rfl (by decide)) ⟨by rw [eg_u_nj (by decide)]; exact f.1, by rw [eg_u_nj (by decide)]; exact f.2.1, f.2.2⟩ eg_u_eq eg_u_eq (by decide)
  · have h59 : zb_nb (r :: l) < 60 := by have := ca.2.2; omega
    obtain ⟨d', gf, p1, p2, p3, p4, p5, p6, p7⟩ := zb_proc_at (zb_gs_hr g) hh hk3
    have hdd : d' = d := by omega
    subst hdd
    obtain ⟨n', x1, y1, y2, y3, y4, y5, y6, y7, y8, y9, y10⟩ := zb_lm_of p1
    have hnn : n' = n := by omega
    subst hnn
    have hz4 : zb_hZ H h = 4 := by have hz := (zb_hr_ob (zb_gs_hr g) hh).2.2.2.1; unfold zb_szk at hz; omega
    have f189 : fn_189 (zb_ov (zb_hP H h)) 0 R = some (zb_frm H gf) := by
      have := zb_hr_getr (zb_gs_hr g) (M := R) rfl rfl rfl hh (j := 0) (by rw [hk3]; simp [zb_nf])
      rw [← p6]; exact this
    have e125 : ∀ (M R' : eM) (H' : zb_Hp) (rl' ql' : List (Nat × Nat)), zb_GS B M R' H' rl' ql' fd → zb_KEP C M → h ∈ zb_hO H' → zb_hK H' h = 3 → zb_cl M H' h 1 = (d' : Int) → zb_cl M H' h 2 = (gf : Int) → fn_125 B.2.2.1 (B.2.2.1 / 3 + 1) ((l.length + 1 : Nat) : Int) M = ((fn_121 B.2.2.1 (B.2.2.1 / 3 + 1) ((l.length + 1 : Nat) : Int) ((1 : Nat) : Int) ((d' + 2 : Nat) : Int) (gf : Int) M).bind fun r12 =>
        if ¬ r12.1 = 0 then
          if ¬ (r12.2 30 (l.length + 1)) = 12 then
            fn_113 14 (d' : Int) ((d' + 2 : Nat) : Int) r12.1 (eg_u (eg_u r12.2 44 10 (eg_wi ((r12.2 44 10) + 1))) 34 (l.length + 1) 0)
          else
            fn_113 14 (d' : Int) ((d' + 2 : Nat) : Int) r12.1 (eg_u (eg_u (eg_u r12.2 44 10 (eg_wi ((r12.2 44 10) + 1))) 34 (l.length + 1) 0) 30 (l.length + 1) 13)
        else some r12.2) := by
      intro M R' H' rl' ql' gM kM hM hkM c1 c2
      have hb := zb_hr_h (zb_gs_hr gM) hM
      have hz' : zb_hZ H' h = 4 := by have hz := (zb_hr_ob (zb_gs_hr gM) hM).2.2.2.1; unfold zb_szk at hz; omega
      have q1 : fn_78 B.2.2.1 (B.2.2.1 / 3 + 1) (h : Int) 1 M = some (d' : Int) := by
        have := zb_hr_get (zb_gs_hr gM) (M := M) rfl rfl hM (i := 1) (by omega)
        unfold zb_cl at c1; rw [← c1]; exact this
      have q2 : fn_78 B.2.2.1 (B.2.2.1 / 3 + 1) (h : Int) 2 M = some (gf : Int) := by
        have := zb_hr_get (zb_gs_hr gM) (M := M) rfl rfl hM (i := 2) (by omega)
        unfold zb_cl at c2; rw [← c2]; exact this
      have q0 : fn_73 ((l.length + 1 : Nat) : Int) 0 M = some (17179869184 + (h : Int)) := by
        have := zb_f73 (M := M) (i := l.length + 1) (q := 0) (by omega) (by omega)
        rw [kM.1 35 (by decide), show 9 * (l.length + 1) + 0 = 9 * (l.length + 1) from rfl, v0] at this
        exact this
      unfold fn_125
      rw [kM.2.1 10 (by decide), ca.1, if_pos (by omega), q0, Option.bind_some, zb_wi_obj (by omega), q1, Option.bind_some, q2, Option.bind_some, zb_wi_n (a := d') (by omega), zb_wi_n (a := gf) (by omega), zb_wi_p2 (by omega)]
      simp only [if_pos (show 0 ≤ ((l.length + 1 : Nat) : Int) ∧ ((l.length + 1 : Nat) : Int) < 2000 by omega), Int.toNat_natCast, zb_bsome]
      rfl
    have hstep : ∀ (M R' : eM) (H' : zb_Hp) (rl' ql' : List (Nat × Nat)) (sp' : Nat), zb_GS B M R' H' rl' ql' fd → zb_KEP C M → M 15 11 = 0 → ¬ zb_hU H' + (3 + n') ≤ B.2.2.1 → sp' < 1000000 → (∀ g, g ∈ zb_hO H → zb_RTS C (r :: l).length g → zb_TRg H H' g) → (∀ h i, h ∈ zb_hO H' → zb_hK H h ≤ 4 → i < zb_hZ H h → zb_cl M H' h i = zb_cl C H h i) → zb_CL B.2.2.1 Q (sp' : Int) M = zb_AF B.2.2.1 Q (sp' : Int) (eg_u M 15 11 1) := by
      intro M R' H' rl' ql' sp' gM kM h11 hno hs' trM clM
      have tg := trM h hh (Or.inr ⟨l.length + 1, 0, by omega, by simp, by rw [rt.1.2.1]; omega, by rw [Nat.add_zero]; exact v0⟩)
      have ck3 : zb_hK H' h = 3 := by rw [tg.2.1]; exact hk3
      have cl1 : zb_cl M H' h 1 = (d' : Int) := by rw [clM h 1 tg.1 (by omega) (by omega)]; exact hd
      have cl2 : zb_cl M H' h 2 = (gf : Int) := by rw [clM h 2 tg.1 (by omega) (by omega)]; exact p5
      rw [hcls M R' H' rl' ql' sp' gM kM tg.1 ck3 cl1 hs', e125 M R' H' rl' ql' gM kM tg.1 ck3 cl1 cl2]
      obtain ⟨⟨fl', hs9, hH⟩, _⟩ := zb_gs_hr gM
      rw [zb_f121_no (p := 1) (n := n') (i := l.length + 1) hH (by omega) (by omega) (by rw [kM.1 34 (by decide), rt.1.2.1, hq]) hno, Option.bind_some]
      show (if ¬ (0 : Int) = 0 then _ else some (eg_u M 15 11 1)).bind _ = _
      rw [if_neg (fun z => z rfl), Option.bind_some]
    have hnf : ((zb_nf 4 (3 + n') : Nat) : Int) = ((1 + n' : Nat) : Int) := by simp [zb_nf]; omega
    have e224 : fn_224 (R 77 (zb_bb l)) (zb_bb l : Int) (n' : Int) R = ((fn_195 (((4 : Nat) : Int) - 1) ((zb_nf 4 (3 + n') : Nat) : Int) (zb_frm H gf) R).bind fun r6 =>
        if ¬ r6.1 = (-1) then
          (fn_187 (zb_ov (zb_hP H h)) r6.2).bind fun r10 =>
          if 0 ≤ r10 ∧ r10 < 6700 then
          (fn_187 r6.1 r6.2).bind fun r14 =>
            if 0 ≤ r14 ∧ r14 < 6700 then
            lp (fun z => fn_224_42 (zb_ov (zb_hP H h)) (zb_bb l : Int) (n' : Int) r6.1 (r6.2 64 (r10).toNat) z.1 z.2) (0, eg_u r6.2 64 (r14).toNat (r6.2 64 (r10).toNat))
            else none
          else none
        else
          some (-1, eg_u r6.2 45 69 (r6.2 45 66))) := by
      unfold fn_224 fn_185
      rw [ca.2.1, if_pos (by omega), w0, f189, Option.bind_some, zb_wi_1q (by omega), hnf]
      rfl
    rw [e224]
    rcases zb_room (Q := Q) (zb_sp := zb_sp) (k := 4) (s := 3 + n') (v := zb_frm H gf) (e := 0) (f := 0) (bn := 0) g s (by simp only [List.length_cons]; omega) (by omega) t1 (fun z => by omega) (Or.inl rfl) (fun z => rfl) t2 t3 (by rw [fl.2.1.2.1]; rfl)
        (zb_qb_none fl.2.2 fl.2.1.1 fl.2.1.2.2) f i4 fl.1.2.2.2.1 fl.1.2.2.2.2 fl.1.2.2.1 (by unfold zb_szk; omega) (by omega) hstep with
      ⟨M, R1, H1, rl1, ql1, fu1, sp1, k1, k2, k3, k4, k5, k6, k7, k8, k9, k10, k11, k12, k13, k14, k15, k16⟩ | ⟨C', R', H', rl', ql', fu', lk, k1, k2, k3, k4, k5, k6, k7⟩
    · left
      have tg := k10 h hh (Or.inr ⟨l.length + 1, 0, by omega, by simp, by rw [rt.1.2.1]; omega, by rw [Nat.add_zero]; exact v0⟩)
      have ck3 : zb_hK H1 h = 3 := by rw [tg.2.1]; exact hk3
      have cl1 : zb_cl M H1 h 1 = (d' : Int) := by rw [k16 h 1 tg.1 (by omega) (by omega)]; exact hd
      have cl2 : zb_cl M H1 h 2 = (gf : Int) := by rw [k16 h 2 tg.1 (by omega) (by omega)]; exact p5
      obtain ⟨d2, gf2, u1, u2, u3, u4, u5, u6, u7⟩ := zb_proc_at (zb_gs_hr k4) tg.1 ck3
      have hgg : gf2 = gf := by omega
      have hd2 : d2 = d' := by omega
      subst hgg hd2
      have efr : zb_frm H1 gf2 = zb_frm H gf2 := by
        have e1 := zb_hr_getr (zb_gs_hr k4) (M := R1) rfl rfl rfl tg.1 (j := 0) (by rw [ck3]; simp [zb_nf])
        unfold zb_frm
        by_cases hz : gf2 = 0
        · rw [if_pos hz, if_pos hz]
        · rw [if_neg hz, if_neg hz]
          have m1 := (u4.resolve_left hz).1
          rw [(k15 gf2 m1).2.2.1]
      have rt1 := k5.1
      obtain ⟨x, o, C1, R3, ls, m1, m2, m⟩ := zb_hr_make (zb_gs_hr k4) (k := 4) (s := 3 + n') (by unfold zb_szk; omega) k3 (zb_frm H gf2)
      have hm := m
      obtain ⟨⟨n1, n2, n3, n4, n5, n6⟩, _, _, ⟨p1', p2', p3', p4', p5', p6', p7'⟩, ⟨q1, q2, q3, q4, q5, q6, q7, q8, q9, q10, q11⟩⟩ := hm
      have hM := k6.1
      have m34 : M 34 (l.length + 1) = ((1 + n' : Nat) : Int) := by rw [hM 34 (by decide), rt.1.2.1, hq]
      obtain ⟨C3, v1, v2, v3, v4, v5, v6⟩ := zb_f121 (i := l.length + 1) (p := 1) (d := d2) (f := gf2) m m1 (by omega) (by omega) hn m34
      have c3m : ∀ c, c ∉ ([15, 16, 17, 18, 19, 20] : List Nat) → C3 c = M c := fun c hc => by rw [v2 c (fun e => hc (by rw [e]; decide)), p7' c hc]
      have c3c : ∀ c, c ∈ ([29, 30, 31, 32, 33, 34, 35, 36] : List Nat) → C3 c = C c := fun c hc => by rw [c3m c (by revert hc; simp; omega), hM c hc]
      have c44 : ∀ f, f ≠ 7 → C3 44 f = C 44 f := fun f hf => by rw [c3m 44 (by decide), k6.2.1 f hf]
      obtain ⟨Cr, hCr, hCr2⟩ : ∃ Cr, (Cr = eg_u (eg_u C3 44 10 ((zb_nb (r :: l) + 1 : Nat) : Int)) 34 (l.length + 1) 0 ∨ Cr = eg_u (eg_u (eg_u C3 44 10 ((zb_nb (r :: l) + 1 : Nat) : Int)) 34 (l.length + 1) 0) 30 (l.length + 1) 13) ∧ Cr 30 (l.length + 1) = zb_cfm k' ∧ fn_125 B.2.2.1 (B.2.2.1 / 3 + 1) ((l.length + 1 : Nat) : Int) M = fn_113 14 (d2 : Int) ((d2 + 2 : Nat) : Int) (x : Int) Cr := by
        have e10 : eg_wi ((C3 44 10) + 1) = ((zb_nb (r :: l) + 1 : Nat) : Int) := by rw [c44 10 (by decide), ca.1, zb_wi_1 (by omega)]
        have e0 := e125 M R1 H1 rl1 ql1 k4 k6 tg.1 ck3 cl1 cl2
        rw [v1, Option.bind_some] at e0
        have e1 : fn_125 B.2.2.1 (B.2.2.1 / 3 + 1) ((l.length + 1 : Nat) : Int) M = if ¬ (C3 30 (l.length + 1)) = 12 then
            fn_113 14 (d2 : Int) ((d2 + 2 : Nat) : Int) (x : Int) (eg_u (eg_u C3 44 10 ((zb_nb (r :: l) + 1 : Nat) : Int)) 34 (l.length + 1) 0)
          else
            fn_113 14 (d2 : Int) ((d2 + 2 : Nat) : Int) (x : Int) (eg_u (eg_u (eg_u C3 44 10 ((zb_nb (r :: l) + 1 : Nat) : Int)) 34 (l.length + 1) 0) 30 (l.length + 1) 13) := by
          rw [e0]
          show (if ¬ (x : Int) = 0 then _ else _) = _
          rw [if_pos (by clear e10; omega)]
          show (if ¬ (C3 30 (l.length + 1)) = 12 then fn_113 14 (d2 : Int) ((d2 + 2 : Nat) : Int) (x : Int) (eg_u (eg_u C3 44 10 (eg_wi ((C3 44 10) + 1))) 34 (l.length + 1) 0) else fn_113 14 (d2 : Int) ((d2 + 2 : Nat) : Int) (x : Int) (eg_u (eg_u (eg_u C3 44 10 (eg_wi ((C3 44 10) + 1))) 34 (l.length + 1) 0) 30 (l.length + 1) 13)) = _
          rw [e10]
        clear e10
        have h30 : C3 30 (l.length + 1) = fc := by rw [c3c 30 (by decide)]; exact c30
        rcases hfc with ⟨z1, z2, z3⟩ | ⟨z1, z2, z3⟩ | ⟨z1, z2, z3⟩
        · refine ⟨_, Or.inr rfl, ?_, ?_⟩
          · rw [eg_u_eq, z2]; rfl
          · rw [e1, if_neg (by omega)]
        · refine ⟨_, Or.inl rfl, ?_, ?_⟩
          · rw [eg_u_ne (by decide), eg_u_ne (by decide), h30, z1, z2]; rfl
          · rw [e1, if_pos (by omega)]
        · refine ⟨_, Or.inl rfl, ?_, ?_⟩
          · rw [eg_u_ne (by decide), eg_u_ne (by decide), h30, z1, z2]; rfl
          · rw [e1, if_pos (by omega)]
      have cro : ∀ c, c ≠ 44 → c ≠ 34 → c ≠ 30 → Cr c = C3 c := fun c a b e => by
        rcases hCr with z | z <;> rw [z]
        · rw [eg_u_ne b, eg_u_ne a]
        · rw [eg_u_ne e, eg_u_ne b, eg_u_ne a]
      have cr44 : ∀ f, f ≠ 10 → Cr 44 f = C3 44 f := fun f hf => by
        rcases hCr with z | z <;> rw [z]
        · rw [eg_u_ne (by decide), eg_u_nj (by omega)]
        · rw [eg_u_ne (by decide), eg_u_ne (by decide), eg_u_nj (by omega)]
      have cr10 : Cr 44 10 = ((zb_nb (r :: l) + 1 : Nat) : Int) := by
        rcases hCr with z | z <;> rw [z]
        · rw [eg_u_ne (by decide), eg_u_eq]
        · rw [eg_u_ne (by decide), eg_u_ne (by decide), eg_u_eq]
      have cr34 : Cr 34 (l.length + 1) = 0 := by
        rcases hCr with z | z <;> rw [z]
        · rw [eg_u_eq]
        · rw [eg_u_ne (by decide), eg_u_eq]
      have crt : ∀ c i, c ∈ ([30, 34] : List Nat) → i ≠ l.length + 1 → Cr c i = C3 c i := fun c i hc hi => by
        have h44 : c ≠ 44 := by revert hc; simp; omega
        rcases hCr with z | z <;> rw [z]
        · rw [eg_u_nj (fun z => hi z.2), eg_u_ne h44]
        · rw [eg_u_nj (fun z => hi z.2), eg_u_nj (fun z => hi z.2), eg_u_ne h44]
      have qcr : zb_QC C3 Cr := by
        rcases hCr with z | z <;> rw [z]
        · exact zb_QC_u (zb_QC_u zb_QC_rfl (by decide)) (by decide)
        · exact zb_QC_u (zb_QC_u (zb_QC_u zb_QC_rfl (by decide)) (by decide)) (by decide)
      have r3c : ∀ c, c ∉ ([45, 62, 63, 64, 65, 66, 68, 70, 71] : List Nat) → (eg_u R3 64 o (d2 : Int)) c = R1 c := fun c hc => by
        rw [eg_u_ne (fun e => hc (by rw [e]; decide)), q10 c (fun z => hc (by revert z; simp; omega))]
      obtain ⟨R5, w1, w2⟩ := zb_frl_e (x1 := zb_ov (zb_hP H h)) (x7 := (d2 : Int)) (b := zb_bb l) (n := n') m (by omega) hn (by simp [zb_nf]; omega) n' 0 (eg_u R3 64 o (d2 : Int)) (by omega) (by rw [eg_u_ne (by decide)]) (by rw [eg_u_ne (by decide)])
      obtain ⟨w3, w4, zb_w5⟩ := w2
      have r5c : ∀ c, c ∉ ([45, 62, 63, 64, 65, 66, 68, 70, 71] : List Nat) → R5 c = R1 c := fun c hc => by rw [w3 c (fun e => hc (by rw [e]; decide)), r3c c hc]
      have r5r : ∀ c, c ∈ ([53, 77, 78, 79, 80, 81, 82] : List Nat) → R5 c = R c := fun c hc => by rw [r5c c (by revert hc; simp; omega), k7.2 c (by revert hc; simp; omega)]
      have r5f : ∀ f, f ∉ ([28, 29, 38, 41] : List Nat) → R5 45 f = R1 45 f := fun f hf => by rw [w3 45 (by decide), eg_u_ne (by decide), q11 f (fun e => hf (by rw [e]; decide)) (fun e => hf (by rw [e]; decide)) (fun e => hf (by rw [e]; decide)) (fun e => hf (by rw [e]; decide))]
      have r5g : ∀ f, f ∉ ([28, 29, 38, 41, 43, 45, 48, 64, 67] : List Nat) → R5 45 f = R 45 f := fun f hf => by rw [r5f f (fun z => hf (by revert z; simp; omega)), k7.1 f hf]
      have hvals : ∀ q, q < n' → zb_VR (zb_vo H1) (zb_hP H1) B.2.2.2.1 (M 35 (9 * (l.length + 1) + 1 + q)) (R1 77 (zb_bb l + 1 + q)) := fun q hq' => by
        have := rt1.2.2.1 (1 + q) (by omega)
        rw [show 9 * (l.length + 1) + 1 + q = 9 * (l.length + 1) + (1 + q) by omega, show zb_bb l + 1 + q = zb_bb l + (1 + q) by omega]
        exact this
      have hr3 := zb_frm_hr (i := l.length + 1) (p := 1) (b := zb_bb l + 1) (d := d2) (f := gf2) (C3 := C3) (R5 := R5) (zb_gs_hr k4) (by rw [efr]; exact m) hn y6 u4 v2 v3 v4 v5 v6 ⟨w3, w4, zb_w5⟩ hvals
      have gs3 : zb_GS B C3 R5 (zb_Hmk H1 x o 4 (3 + n') ls) rl1 ql1 fd := by
        refine zb_gs_tr k4 hr3 (zb_mk_trg m) (zb_mk_cl (zb_gs_hr k4) m (fun j hj => v6 j (by omega))) (zb_mk_num (zb_gs_num k4) m (v2 20 (by decide)) (by rw [v2 15 (by decide)]) (by rw [v2 44 (by decide), p7' 44 (by decide)]; exact Int.le_refl _)) (fun c hc h2 => ?_) (fun c hc h2 => r5c c (fun z => h2 (by revert z; simp; omega))) (fun f hf h2 => r5f f (fun z => h2 (by revert z; simp; omega)))
        rw [v2 c (fun e => h2 (by rw [e]; decide)), p7' c h2]
      have hnew := zb_mk_new (H := H1) (x := x) (o := o) (k := 4) (s := 3 + n') (l := ls)
      obtain ⟨t0, ht0, ht0'⟩ : ∃ t0, zb_tt (r :: l) = t0 + 1 ∧ ((zb_rK r = 16 ∧ t0 = zb_tt l + 1) ∨ (zb_rK r ≠ 16 ∧ t0 = zb_tt l)) := by
        simp only [zb_tt]
        by_cases hz : zb_rK r = 16
        · exact ⟨zb_tt l + 1, by rw [if_pos hz], Or.inl ⟨hz, rfl⟩⟩
        · exact ⟨zb_tt l, by rw [if_neg hz], Or.inr ⟨hz, rfl⟩⟩
      obtain ⟨Rr, hRr⟩ : ∃ Rr, Rr = eg_u (eg_u (eg_u R5 45 51 (zb_bb l : Int)) 80 t0 (-3)) 45 68 ((zb_nb (r :: l) + 1 : Nat) : Int) := ⟨_, rfl⟩
      have rro : ∀ c, c ≠ 45 → c ≠ 80 → Rr c = R5 c := fun c a b => by rw [hRr, eg_u_ne a, eg_u_ne b, eg_u_ne a]
      have rrf : ∀ f, f ≠ 51 → f ≠ 68 → Rr 45 f = R5 45 f := fun f a b => by rw [hRr, eg_u_nj (by omega), eg_u_ne (by decide), eg_u_nj (by omega)]
      have qrr : zb_QR2 R5 Rr := by rw [hRr]; exact zb_QR_45 (zb_QR_u (zb_QR_45 zb_QR_rfl (by decide)) (by decide)) (by decide)
      have gsr : zb_GS B Cr Rr (zb_Hmk H1 x o 4 (3 + n') ls) rl1 ql1 fd := zb_gs_congr gs3 qcr qrr
      have s53 : R5 45 53 = ((t0 + 1 : Nat) : Int) := by rw [r5g 53 (by decide), t2, ht0]
      have s68 : R5 45 68 = (zb_nb (r :: l) : Int) := by rw [r5g 68 (by decide)]; exact ca.2.1
      have n53 : R5 53 (d2 + 2) = (x1 : Int) := by rw [(zb_gs_w gs3).2.2.2.2.2.1]; exact y7
      have w6 : lp (fun z => fn_224_42 (zb_ov (zb_hP H h)) (zb_bb l : Int) (n' : Int) (zb_ov o) (d2 : Int) z.1 z.2) ((n' : Int), R5) = (fn_209 11 (d2 : Int) (zb_ov o) (x1 : Int) Rr).bind fun m25 => some (2, m25) := by
        have hb : fn_224_42 (zb_ov (zb_hP H h)) (zb_bb l : Int) (n' : Int) (zb_ov o) (d2 : Int) (n' : Int) R5 = (fn_209 11 (d2 : Int) (zb_ov o) (x1 : Int) Rr).bind fun m25 => some (.inr (2, m25)) := by
          unfold fn_224_42
          rw [if_pos (Int.le_refl _), s53, zb_wi_t1 (by omega), if_pos (by omega), Int.toNat_natCast, s68, zb_wi_1 (by omega), ← hRr, zb_w176 (zb_gs_w gsr), y1, Option.bind_some, if_pos (by omega), Int.toNat_natCast, n53]
        cases hz : fn_209 11 (d2 : Int) (zb_ov o) (x1 : Int) Rr with
        | none => rw [hz] at hb; exact lp_none hb
        | some m25 => rw [hz, Option.bind_some] at hb; exact lp2_inr hb
      have hr' : zb_SC B Cr Rr (zb_Hmk H1 x o 4 (3 + n') ls) rl1 ql1 fd ((k', zb_rD r, a, -3, 0, zb_rF r) :: l) := by
        have hkk : (k' = 16 ↔ zb_rK r = 16) := by omega
        have htt' : zb_tt ((k', zb_rD r, a, (-3 : Int), 0, zb_rF r) :: l) = zb_tt (r :: l) := by
          show zb_tt l + (if k' = 16 then 2 else 1) = zb_tt l + (if zb_rK r = 16 then 2 else 1)
          by_cases hz : zb_rK r = 16
          · rw [if_pos hz, if_pos (hkk.mpr hz)]
          · rw [if_neg hz, if_neg (fun z => hz (hkk.mp z))]
        have hfr := zb_frm_tr rt1.1.2.2.2 (fun hm => zb_mk_trg m _ hm)
        refine ⟨gsr, ⟨⟨⟨?_, ?_, by show (0 : Nat) ≤ 9; omega, hfr.1⟩, ⟨?_, ?_⟩, fun j hj => absurd hj (Nat.not_lt_zero j), fun z => ?_⟩, ?_⟩, ⟨⟨⟨hCr2.1, ?_, ?_⟩, ⟨?_, fun z => ?_, ?_⟩, fun z => ?_⟩, ?_⟩, ⟨⟨?_, ?_, ?_, ?_, ?_⟩, ⟨?_, ?_, ?_⟩, fun i hi => ?_⟩, ?_, ?_, ?_⟩
        · rw [cro 33 (by decide) (by decide) (by decide), c3c 33 (by decide)]; exact rt.1.1
        · rw [cr34]; rfl
        · rw [rro 82 (by decide) (by decide), r5c 82 (by decide)]
          show _ = zb_frm (zb_Hmk H1 x o 4 (3 + n') ls) (zb_rF r)
          rw [hfr.2]; exact rt1.2.1.1
        · rw [rro 81 (by decide) (by decide), r5r 81 (by decide)]; exact rt.2.1.2
        · rw [rro 82 (by decide) (by decide), rro 81 (by decide) (by decide), r5r 82 (by decide), r5r 81 (by decide)]
          exact rt.2.2.2 (hkk.mp z)
        · have s5 : zb_STR M R1 H1 B.2.2.2.1 l := k5.2
          refine zb_str_tr s5 (fun i j1 j2 => ?_) (fun t ht => ?_) (fun b hb => ?_) (fun g hg _ => zb_mk_trg m g hg)
          · rw [cro 33 (by decide) (by decide) (by decide), crt 34 i (by decide) (by omega), cro 35 (by decide) (by decide) (by decide), c3m 33 (by decide), c3m 34 (by decide), c3m 35 (by decide)]
            exact ⟨rfl, rfl, fun _ _ => rfl⟩
          · rw [rro 81 (by decide) (by decide), rro 82 (by decide) (by decide), r5c 81 (by decide), r5c 82 (by decide)]; exact ⟨rfl, rfl⟩
          · rw [rro 77 (by decide) (by decide), r5c 77 (by decide)]
        · rw [cro 31 (by decide) (by decide) (by decide), c3c 31 (by decide)]; exact c31
        · rw [cro 32 (by decide) (by decide) (by decide), c3c 32 (by decide)]; exact c32
        · rw [rro 78 (by decide) (by decide), r5r 78 (by decide)]; exact r78
        · have hz : k' ≠ 15 := z
          rw [rro 79 (by decide) (by decide), r5r 79 (by decide)]; exact r79 (by omega)
        · show Rr 80 (zb_tt l) = -3
          rcases ht0' with ⟨z1, z2⟩ | ⟨z1, z2⟩
          · have h80 : R 80 (zb_tt l) = -3 := by
              rcases hfc with ⟨_, _, z⟩ | ⟨_, _, z⟩ | ⟨_, _, _, z⟩
              · omega
              · omega
              · exact z
            rw [hRr, eg_u_ne (by decide), eg_u_nj (by omega), eg_u_ne (by decide), r5r 80 (by decide)]; exact h80
          · rw [hRr, eg_u_ne (by decide), z2, eg_u_eq]
        · rw [rro 78 (by decide) (by decide), r5r 78 (by decide)]; exact r78' (hkk.mp z)
        · refine zb_ctl_tr zb_ct (fun i j1 j2 => ⟨?_, ?_, ?_⟩) (fun t ht => ⟨?_, ?_, ?_⟩)
          · rw [crt 30 i (by decide) (by omega), c3c 30 (by decide)]
          · rw [cro 31 (by decide) (by decide) (by decide), c3c 31 (by decide)]
          · rw [cro 32 (by decide) (by decide) (by decide), c3c 32 (by decide)]
          · rw [rro 78 (by decide) (by decide), r5r 78 (by decide)]
          · rw [rro 79 (by decide) (by decide), r5r 79 (by decide)]
          · rw [hRr, eg_u_ne (by decide), eg_u_nj (by omega), eg_u_ne (by decide), r5r 80 (by decide)]
        · rw [cr44 8 (by decide), c44 8 (by decide)]; exact i4
        · rw [cro 43 (by decide) (by decide) (by decide), c3m 43 (by decide), k6.2.2.1 4 (by decide)]; exact fl.1.2.1
        · rw [cro 43 (by decide) (by decide) (by decide), c3m 43 (by decide)]; exact k6.2.2.2
        · rw [cro 15 (by decide) (by decide) (by decide), v2 15 (by decide), p6']; exact k11
        · rw [cro 15 (by decide) (by decide) (by decide), v2 15 (by decide)]; exact p4'
        · rw [rrf 59 (by decide) (by decide), r5g 59 (by decide)]; exact fl.2.1.1
        · rw [rrf 62 (by decide) (by decide), r5g 62 (by decide)]; exact fl.2.1.2.1
        · rw [rrf 63 (by decide) (by decide), r5g 63 (by decide)]; exact fl.2.1.2.2
        · rw [cro 36 (by decide) (by decide) (by decide), c3c 36 (by decide)]; exact fl.2.2 i hi
        · rw [cro 29 (by decide) (by decide) (by decide), c3c 29 (by decide)]; exact t1
        · rw [rrf 53 (by decide) (by decide), r5g 53 (by decide), htt']; exact t2
        · rw [hRr, eg_u_nj (by decide), eg_u_ne (by decide), eg_u_eq]; rfl
      obtain ⟨e, ed, dpn, z1, z2, z3, z4, z5, z6, z7, z8, z9, z10, z11⟩ := zb_kx_at y9
      have hxF : zb_isF (zb_Hmk H1 x o 4 (3 + n') ls) x := Or.inr ⟨hnew.2.2.2.2.2.2, hnew.2.2.1⟩
      have hfx : zb_frm (zb_Hmk H1 x o 4 (3 + n') ls) x = zb_ov o := by rw [(zb_frm_ne (by omega)).1, hnew.2.2.2.1]
      have key := zb_sc_push (r := (11, d2, d2 + 2, (x1 : Int), 0, x)) (d' := (d2 : Int)) hr' rfl (show (11 : Nat) ≠ 16 by decide) hxF (fun _ => rfl)
      have hkk : (k' = 16 ↔ zb_rK r = 16) := by omega
      have htt' : zb_tt ((k', zb_rD r, a, (-3 : Int), 0, zb_rF r) :: l) = zb_tt (r :: l) := by
        show zb_tt l + (if k' = 16 then 2 else 1) = zb_tt l + (if zb_rK r = 16 then 2 else 1)
        by_cases hz : zb_rK r = 16
        · rw [if_pos hz, if_pos (hkk.mpr hz)]
        · rw [if_neg hz, if_neg (fun z => hz (hkk.mp z))]
      have hnb' : zb_nb ((k', zb_rD r, a, (-3 : Int), 0, zb_rF r) :: l) = zb_nb (r :: l) := by rw [zb_nb_ne (r := (k', zb_rD r, a, (-3 : Int), 0, zb_rF r)) (show k' ≠ 11 by omega), zb_nb_ne (r := r) (by omega)]
      have ek : zb_pushC Cr (((k', zb_rD r, a, (-3 : Int), 0, zb_rF r) :: l).length + 1) (zb_cfm (zb_rK (11, d2, d2 + 2, (x1 : Int), 0, x))) ((zb_rD (11, d2, d2 + 2, (x1 : Int), 0, x) : Nat) : Int) ((zb_rA (11, d2, d2 + 2, (x1 : Int), 0, x) : Nat) : Int) ((zb_rF (11, d2, d2 + 2, (x1 : Int), 0, x) : Nat) : Int) = zb_pushC Cr (l.length + 1 + 1) 14 (d2 : Int) ((d2 + 2 : Nat) : Int) (x : Int) := rfl
      have er : zb_pushR Rr (zb_tt ((k', zb_rD r, a, (-3 : Int), 0, zb_rF r) :: l)) (zb_rkd (zb_rK (11, d2, d2 + 2, (x1 : Int), 0, x))) (d2 : Int) (zb_frm (zb_Hmk H1 x o 4 (3 + n') ls) (zb_rF (11, d2, d2 + 2, (x1 : Int), 0, x))) (zb_rY (11, d2, d2 + 2, (x1 : Int), 0, x)) = zb_pushR Rr (zb_tt (r :: l)) 11 (d2 : Int) (zb_ov o) (x1 : Int) := by
        rw [htt']
        show zb_pushR Rr (zb_tt (r :: l)) (zb_rkd 11) (d2 : Int) (zb_frm (zb_Hmk H1 x o 4 (3 + n') ls) x) (x1 : Int) = _
        rw [hfx]; rfl
      rw [ek, er] at key
      obtain ⟨C4, hC4⟩ : ∃ C4, C4 = zb_pushC Cr (l.length + 1 + 1) 14 (d2 : Int) ((d2 + 2 : Nat) : Int) (x : Int) := ⟨_, rfl⟩
      obtain ⟨R6, hR6⟩ : ∃ R6, R6 = zb_pushR Rr (zb_tt (r :: l)) 11 (d2 : Int) (zb_ov o) (x1 : Int) := ⟨_, rfl⟩
      rw [← hC4, ← hR6] at key
      have h113 : fn_113 14 (d2 : Int) ((d2 + 2 : Nat) : Int) (x : Int) Cr = some C4 := by
        rw [hC4]; exact zb_push_c (n := l.length + 1) (by rw [cro 29 (by decide) (by decide) (by decide), c3c 29 (by decide)]; exact t1) (by omega)
      have h209 : fn_209 11 (d2 : Int) (zb_ov o) (x1 : Int) Rr = some R6 := by
        rw [hR6]; exact zb_push_r (t := zb_tt (r :: l)) (by rw [rrf 53 (by decide) (by decide), s53, ht0]) (by omega) (by decide)
      have o4 : ∀ c, c ∉ ([29, 30, 31, 32, 33, 34] : List Nat) → C4 c = Cr c := fun c hc => by
        have : c ≠ 29 ∧ c ≠ 30 ∧ c ≠ 31 ∧ c ≠ 32 ∧ c ≠ 33 ∧ c ≠ 34 := by revert hc; simp
        rw [hC4]; unfold zb_pushC; simp (disch := omega) only [eg_u_ne]
      have hsx0 : zb_SX B C4 R6 (zb_Hmk H1 x o 4 (3 + n') ls) rl1 ql1 fd ((11, d2, d2 + 2, (x1 : Int), 0, x) :: (k', zb_rD r, a, (-3 : Int), 0, zb_rF r) :: l) fu1 := by
        have hnb2 : zb_nb ((11, d2, d2 + 2, (x1 : Int), 0, x) :: (k', zb_rD r, a, (-3 : Int), 0, zb_rF r) :: l) = zb_nb (r :: l) + 1 := by
          show zb_nb ((k', zb_rD r, a, (-3 : Int), 0, zb_rF r) :: l) + 1 = _
          rw [hnb']
        have hdd1 : zb_dd B (11, d2, d2 + 2, (x1 : Int), 0, x) = dpn := by
          show (B.1 6 d2).toNat = dpn
          rw [z7]; rfl
        have hdd2 : zb_dd B (k', zb_rD r, a, (-3 : Int), 0, zb_rF r) = zb_dd B r := by
          show (if k' = 15 then 0 else (B.1 6 (zb_rD r)).toNat) = (if zb_rK r = 15 then 0 else (B.1 6 (zb_rD r)).toNat)
          by_cases hz : zb_rK r = 15
          · rw [if_pos hz, if_pos (by omega)]
          · rw [if_neg hz, if_neg (by omega)]
        have hr6f : ∀ f, f ≠ 53 → R6 45 f = Rr 45 f := fun f hf => by rw [hR6]; unfold zb_pushR; simp (disch := omega) only [eg_u_nj]
        refine ⟨key, ⟨?_, ?_, k12.2.2⟩, ⟨?_, ?_, ?_⟩, ⟨?_, ?_⟩, ⟨?_, ?_⟩, dp.2⟩
        · rw [o4 44 (by decide), cr44 7 (by decide), c3m 44 (by decide)]; exact k12.1
        · rw [hr6f 67 (by decide), rrf 67 (by decide) (by decide), r5f 67 (by decide)]; exact k12.2.1
        · rw [hnb2, o4 44 (by decide)]; exact cr10
        · rw [hnb2, hr6f 68 (by decide), hRr, eg_u_eq]
        · refine ⟨by rw [hnb2]; omega, zb_bud_le ca.2.2.2 (by rw [hr6f 42 (by decide), rrf 42 (by decide) (by decide), r5g 42 (by decide)]) ?_⟩
          have e67 : R6 45 67 = (fu1 : Int) := by rw [hr6f 67 (by decide), rrf 67 (by decide) (by decide), r5f 67 (by decide)]; exact k12.2.1
          have n1 : zb_nc ((11, d2, d2 + 2, (x1 : Int), 0, x) :: (k', zb_rD r, a, (-3 : Int), 0, zb_rF r) :: l) = zb_nc l := by
            rw [zb_nc_ne (r := (11, d2, d2 + 2, (x1 : Int), 0, x)) (show (11 : Nat) ≠ 10 by decide), zb_nc_ne (r := (k', zb_rD r, a, (-3 : Int), 0, zb_rF r)) (show k' ≠ 10 by omega)]
          rw [e67, n1, f.2.1]; omega
        · rw [hnb2, hdd1]
          have := dp.1
          simp only [List.length_cons]
          omega
        · rw [hdd1]; omega
        · rw [hnb', hdd2]; exact dp.1.1
        · rw [hdd2]; exact dp.1.2
      have hlen2 : ((k', zb_rD r, a, (-3 : Int), 0, zb_rF r) :: l).length + 1 = l.length + 1 + 1 := rfl
      have hsx := zb_sx_to11 (x := x1) (y := (x1 : Int)) (C' := eg_u C4 32 (l.length + 1 + 1) (x1 : Int)) (R' := R6) hsx0 rfl rfl rfl rfl (by rw [htt', hR6]; unfold zb_pushR; simp (disch := omega) only [eg_u_nj, eg_u_eq]) (fun _ _ => rfl) (fun _ _ _ _ => rfl)
      have eref : ((fn_195 (((4 : Nat) : Int) - 1) ((zb_nf 4 (3 + n') : Nat) : Int) (zb_frm H gf2) R).bind fun r6 =>
        if ¬ r6.1 = (-1) then
          (fn_187 (zb_ov (zb_hP H h)) r6.2).bind fun r10 =>
          if 0 ≤ r10 ∧ r10 < 6700 then
          (fn_187 r6.1 r6.2).bind fun r14 =>
            if 0 ≤ r14 ∧ r14 < 6700 then
            lp (fun z => fn_224_42 (zb_ov (zb_hP H h)) (zb_bb l : Int) (n' : Int) r6.1 (r6.2 64 (r10).toNat) z.1 z.2) (0, eg_u r6.2 64 (r14).toNat (r6.2 64 (r10).toNat))
            else none
          else none
        else
          some (-1, eg_u r6.2 45 69 (r6.2 45 66))) = some (2, R6) := by
        have e64 : R3 64 (zb_hP H h) = (d2 : Int) := by rw [q10 64 (by decide), ← tg.2.2]; exact u3
        rw [k2, m2, Option.bind_some]
        show (if ¬ zb_ov o = -1 then (fn_187 (zb_ov (zb_hP H h)) R3).bind fun r10 => if 0 ≤ r10 ∧ r10 < 6700 then (fn_187 (zb_ov o) R3).bind fun r14 => if 0 ≤ r14 ∧ r14 < 6700 then lp (fun z => fn_224_42 (zb_ov (zb_hP H h)) (zb_bb l : Int) (n' : Int) (zb_ov o) (R3 64 (r10).toNat) z.1 z.2) (0, eg_u R3 64 (r14).toNat (R3 64 (r10).toNat)) else none else none else _) = _
        rw [if_pos (by unfold zb_ov; omega), zb_f187 hgp, Option.bind_some, if_pos (by omega), zb_f187 n4, Option.bind_some, if_pos (by omega), Int.toNat_natCast, Int.toNat_natCast, e64]
        have e1 : lp (fun z => fn_224_42 (zb_ov (zb_hP H h)) (zb_bb l : Int) (n' : Int) (zb_ov o) (d2 : Int) z.1 z.2) (0, eg_u R3 64 o (d2 : Int)) = lp (fun z => fn_224_42 (zb_ov (zb_hP H h)) (zb_bb l : Int) (n' : Int) (zb_ov o) (d2 : Int) z.1 z.2) ((n' : Int), R5) := w1
        rw [e1, w6, h209, Option.bind_some]
      have hcl1 : zb_CL B.2.2.1 Q (zb_sp : Int) C = zb_AF B.2.2.1 Q (sp1 : Int) C4 := by
        rw [k1, hcls M R1 H1 rl1 ql1 sp1 k4 k6 tg.1 ck3 cl1 (by omega), hCr2.2, h113, Option.bind_some]
      have o448 : C4 44 8 = 0 := by rw [o4 44 (by decide), cr44 8 (by decide), c44 8 (by decide)]; exact i4
      have fl4 := hsx0.1.2.2.2.1
      rw [zb_af_go (m := C4) (by omega) o448 fl4.1.2.2.2.1 fl4.1.2.2.1] at hcl1
      obtain ⟨⟨j1, j2, j3, j4, j5⟩, ⟨b1, b2, b3, b4, b5⟩, _, _⟩ := zb_top_at hsx0
      have o30 : C4 30 (l.length + 1 + 1) = 14 := b1
      have o31 : C4 31 (l.length + 1 + 1) = (d2 : Int) := b2
      have o32 : C4 32 (l.length + 1 + 1) = ((d2 + 2 : Nat) : Int) := b3
      have o33 : C4 33 (l.length + 1 + 1) = (x : Int) := b4
      have o29 : C4 29 0 = ((l.length + 1 + 1 : Nat) : Int) := j3
      have c5r : C4 5 = B.1 5 := (zb_gs_w hsx0.1.1).1.2.1
      have h130 : fn_130 B.2.2.1 (B.2.2.1 / 3 + 1) ((l.length + 1 + 1 : Nat) : Int) C4 = fn_111 B.2.2.1 (B.2.2.1 / 3 + 1) (x1 : Int) (x : Int) (eg_u C4 32 (l.length + 1 + 1) (x1 : Int)) := by
        unfold fn_130
        rw [if_pos (by omega), Int.toNat_natCast, o32, o31, if_pos (by omega), if_pos (by omega), Int.toNat_natCast, Int.toNat_natCast, c5r, y8, z2, if_neg (by omega), zb_bsome, zb_ev_in (i := l.length + 1 + 1) (by omega), o33]
      have hcl2 : zb_CL B.2.2.1 Q (zb_sp : Int) C = (fn_111 B.2.2.1 (B.2.2.1 / 3 + 1) (x1 : Int) (x : Int) (eg_u C4 32 (l.length + 1 + 1) (x1 : Int))).bind (zb_AF B.2.2.1 Q ((sp1 + 1 : Nat) : Int)) := by
        rw [hcl1, zb_cl_res' (top := l.length + 1 + 1) o448 (by omega) o29 (by omega) (zb_f72_no (by omega) o30 (by decide)), zb_d104_14 (by omega) o30, h130]
      have e80 : R6 80 (zb_tt (r :: l)) = (x1 : Int) := by rw [hR6]; unfold zb_pushR; simp (disch := omega) only [eg_u_nj, eg_u_eq]
      have e82 : R6 82 (zb_tt (r :: l)) = zb_frm (zb_Hmk H1 x o 4 (3 + n') ls) x := by rw [hfx, hR6]; unfold zb_pushR; simp (disch := omega) only [eg_u_nj, eg_u_eq]
      have e78 : R6 78 (zb_tt (r :: l)) = 11 := by rw [hR6]; unfold zb_pushR; simp (disch := omega) only [eg_u_nj, eg_u_eq]
      have e53 : R6 45 53 = ((zb_tt (r :: l) + 1 : Nat) : Int) := by rw [hR6]; unfold zb_pushR; rw [eg_u_eq]
      refine ⟨R6, eref, e53, by omega, by rw [e78]; decide, ?_⟩
      rw [hcl2, e80, e82]
      refine zb_go_on (r := (11, d2, x1, (x1 : Int), 0, x)) ev hsx (Or.inr (Or.inr (Or.inr (Or.inr (Or.inl ⟨Or.inr (Or.inr (Or.inr rfl)), rfl, rfl, ⟨2, y9⟩, show d2 + 1 < x1 by omega⟩))))) (fun r9 hr9 => ?_) z10 (show (11 : Nat) ≠ 15 by decide) z7 z8 (by omega) (by omega) (by simp only [List.length_cons]; omega)
      rcases List.mem_cons.mp hr9 with z | z
      · rw [z]
        rcases hfc with ⟨_, zk, _⟩ | ⟨_, zk, _⟩ | ⟨_, zk, _⟩
        · exact Or.inr (Or.inr (Or.inr (Or.inr (Or.inr (Or.inr (Or.inr (Or.inl ⟨zk, rfl, rfl⟩)))))))
        · exact Or.inr (Or.inr (Or.inr (Or.inr (Or.inr (Or.inr (Or.inr (Or.inr ⟨Or.inl zk, rfl⟩)))))))
        · exact Or.inr (Or.inr (Or.inr (Or.inr (Or.inr (Or.inr (Or.inr (Or.inr ⟨Or.inr ⟨zk, rfl⟩, rfl⟩)))))))
      · exact hl r9 z
    · right
      refine ⟨eg_u R' 45 69 (R' 45 66), ?_, ?_⟩
      · rw [k2, Option.bind_some]
        show (if ¬ (-1 : Int) = -1 then _ else some ((-1 : Int), eg_u R' 45 69 (R' 45 66))) = _
        rw [if_neg (fun z => z rfl)]
      · rw [k1]
        refine Or.inr ⟨C', _, lk, rfl, rfl, H', rl', ql', fd, fu', zb_gs_congr k6 zb_QC_rfl (zb_QR_45 zb_QR_rfl (by decide)), ⟨k7.1, ?_, k7.2.2⟩, k4, ?_, by omega, by omega⟩
        · rw [eg_u_nj (by decide)]; exact k7.2.1
        · rw [eg_u_eq]; exact k3
end CALLS
section CALLS
variable {B : zb_Bs} {Q : zb_Pq} {Z sp0 zb_sp : Nat} {C R C' R' M : eM} {H H' : zb_Hp} {rl ql : List (Nat × Nat)} {fd fu : Nat} {st l : List zb_Rec} {r r' : zb_Rec}
def zb_PROK (B : zb_Bs) (Q : zb_Pq) (Z : Nat) : Prop := ∀ (sp0 zb_sp : Nat) (C R : eM) (H : zb_Hp) (rl ql : List (Nat × Nat)) (fd fu : Nat) (r : zb_Rec) (l : List zb_Rec) (p n : Nat) (a' : Int), zb_SX B C R H rl ql fd (r :: l) fu → zb_rK r = 10 → zb_rY r = -1 → zb_rQ r = 1 + n → zb_RUNS B l → p < 34 → C 35 (9 * (l.length + 1)) = 12884901888 + (p : Int) → R 77 (zb_bb l) = 21474836490 + (p : Int) → sp0 ≤ zb_sp → zb_sp + 20 * fu + 5 * (l.length + 1) ≤ Z + 2 → 0 ≤ a' → a' ≤ 20000 →
  ∃ (g : Int) (R' : eM), fn_222 (zb_bb l : Int) (n : Int) R = some (g, R') ∧ g ≠ 2 ∧ zb_RESV B Q Z sp0 (zb_CL B.2.2.1 Q (zb_sp : Int) (eg_u (eg_u C 32 (l.length + 1) a') 30 (l.length + 1) 12)) (some (if g = 3 then 1 else g, R'))
theorem zb_sh_tag {v : Int} {k : Int} (h : -9223372036854775808 ≤ v ∧ v < 9223372036854775808) (hk : v / 4294967296 = k) : eb_lshr v 32 = k := zb_sh32 h hk
theorem zb_f72_ap {i : Nat} {v : Int} (hi : i < 2000) (h30 : M 30 i = 12) (h35 : M 35 (9 * i) = v) : fn_72 (i : Int) M = if ¬ eb_lshr v 32 = 3 then some 0 else some 1 := by
  unfold fn_72
  have := zb_f73 (M := M) (i := i) (q := 0) hi (by omega)
  rw [show 9 * i + 0 = 9 * i from rfl, h35] at this
  rw [if_pos (by omega), Int.toNat_natCast, h30, if_neg (fun z => z rfl)]
  show (fn_73 (i : Int) ((0 : Nat) : Int) M).bind _ = _
  rw [this, Option.bind_some]
theorem zb_vr_int {A : Nat → Prop} {p : Nat → Nat} {N : Nat} (hN : N ≤ 444) {v w : Int} (h : zb_VR A p N v w) (hA : ∀ g, A g → g < 20000) (hp : ∀ g, A g → p g < 6700) :
    (∃ i : Nat, i < 34 ∧ v = 12884901888 + (i : Int) ∧ w = 21474836490 + (i : Int)) ∨ (eb_lshr v 32 ≠ 3 ∧ ((∃ g : Nat, A g ∧ v = 17179869184 + (g : Int) ∧ w = zb_ov (p g)) ∨ (eb_lshr v 32 ≠ 4 ∧ (w < 0 ∨ (eb_lshr w 32 ≠ 6 ∧ eb_lshr w 32 ≠ 5))))) := by
  have key : ∀ {a b : Int} {k l : Int}, -9223372036854775808 ≤ a ∧ a < 9223372036854775808 → -9223372036854775808 ≤ b ∧ b < 9223372036854775808 → a / 4294967296 = k → b / 4294967296 = l → k ≠ 3 → k ≠ 4 → l ≠ 5 → l ≠ 6 → (eb_lshr a 32 ≠ 3 ∧ ((∃ g : Nat, A g ∧ a = 17179869184 + (g : Int) ∧ b = zb_ov (p g)) ∨ (eb_lshr a 32 ≠ 4 ∧ (b < 0 ∨ (eb_lshr b 32 ≠ 6 ∧ eb_lshr b 32 ≠ 5))))) := by
    intro a b k l ha hb hak hbl h1 h2 h3 h4
    rw [zb_sh32 ha hak, zb_sh32 hb hbl]
    exact ⟨h1, Or.inr ⟨h2, Or.inr ⟨h4, h3⟩⟩⟩
  rcases h with h | h | h | h | ⟨n, n1, n2, n3⟩ | ⟨n, n1, n2, n3⟩ | ⟨g, g1, g2, g3⟩
  · exact Or.inr (key (k := 0) (l := 0) (by omega) (by omega) (by omega) (by omega) (by decide) (by decide) (by decide) (by decide))
  · exact Or.inr (key (k := 1) (l := 2) (by omega) (by omega) (by omega) (by omega) (by decide) (by decide) (by decide) (by decide))
  · exact Or.inr (key (k := 1) (l := 1) (by omega) (by omega) (by omega) (by omega) (by decide) (by decide) (by decide) (by decide))
  · exact Or.inr (key (k := 1) (l := 3) (by omega) (by omega) (by omega) (by omega) (by decide) (by decide) (by decide) (by decide))
  · exact Or.inr (key (k := 2) (l := 4) (by omega) (by omega) (by omega) (by omega) (by decide) (by decide) (by decide) (by decide))
  · exact Or.inl ⟨n, n1, n2, n3⟩
  · have := hA g g1
    refine Or.inr ⟨?_, Or.inl ⟨g, g1, g2, g3⟩⟩
    rw [zb_sh32 (k := 4) (by omega) (by omega)]; decide
theorem zb_f76_ob {mo g k : Nat} {b : Int} (hg : g < mo) (hg2 : g < 20000) (h18 : M 18 g = (k : Int)) : fn_76 mo (17179869184 + (g : Int)) b M = if (k : Int) = b then some 1 else some 0 := by
  unfold fn_76
  rw [zb_sh_obj hg2, if_neg (fun z => z rfl), zb_wi_obj hg2, if_pos (by omega), Int.toNat_natCast, h18]
  by_cases hq : (k : Int) = b
  · rw [if_neg (fun z => z hq), if_pos hq]
  · rw [if_pos hq, if_neg hq]
theorem zb_f76_no {mo : Nat} {v b : Int} (h : eb_lshr v 32 ≠ 4) : fn_76 mo v b M = some 0 := by unfold fn_76; rw [if_pos h]
theorem zb_f223_ob {o k : Nat} {b : Int} (ho : o < 6700) (h62 : M 62 o = (k : Int)) : fn_223 (zb_ov o) b M = if (k : Int) = b then some 1 else some 0 := by
  have h6 : eb_lshr (zb_ov o) 32 = 6 := zb_sh32 (by unfold zb_ov; omega) (by unfold zb_ov; omega)
  unfold fn_223 fn_201
  rw [if_neg (by unfold zb_ov; omega), h6, if_neg (fun z => z rfl), Option.bind_some, if_neg (by decide), zb_f187 ho, Option.bind_some, if_pos (by omega), Int.toNat_natCast, h62]
  by_cases hq : (k : Int) = b
  · rw [if_neg (fun z => z hq), if_pos hq]
  · rw [if_pos hq, if_neg hq]
theorem zb_f223_no {w b : Int} (h : w < 0 ∨ eb_lshr w 32 ≠ 6) : fn_223 w b M = some 0 := by
  unfold fn_223 fn_201
  by_cases hw : w < 0
  · rw [if_pos hw, Option.bind_some, if_pos rfl]
  · rw [if_neg hw, if_pos (h.resolve_left hw), Option.bind_some, if_pos rfl]
theorem zb_apply_ok (ev : zb_EVOK B Q Z) (pr : zb_PROK B Q Z) {n : Nat} {a' : Int} (h : zb_SX B C R H rl ql fd (r :: l) fu) (hk : zb_rK r = 10) (hy : zb_rY r = -1) (hq : zb_rQ r = 1 + n) (hl : zb_RUNS B l) (hZ9 : Z ≤ 999990) (h0 : sp0 ≤ zb_sp) (hp : zb_sp + 20 * fu + 5 * (l.length + 1) ≤ Z + 2) (ha1 : 0 ≤ a') (ha2 : a' ≤ 20000) :
    (∃ R', fn_222 (zb_bb l : Int) (n : Int) R = some (2, R') ∧ R' 45 53 = ((zb_tt l + 1 + 1 : Nat) : Int) ∧ R' 78 (zb_tt l + 1) ≠ 5 ∧ zb_RESV B Q Z sp0 (zb_CL B.2.2.1 Q (zb_sp : Int) (eg_u (eg_u C 32 (l.length + 1) a') 30 (l.length + 1) 12)) (fn_184 (R' 80 (zb_tt l + 1)) (R' 82 (zb_tt l + 1)) R'))
    ∨ (∃ (g : Int) (R' : eM), fn_222 (zb_bb l : Int) (n : Int) R = some (g, R') ∧ g ≠ 2 ∧ zb_RESV B Q Z sp0 (zb_CL B.2.2.1 Q (zb_sp : Int) (eg_u (eg_u C 32 (l.length + 1) a') 30 (l.length + 1) 12)) (some (if g = 3 then 1 else g, R'))) := by
  obtain ⟨⟨i1, i2, i3, i4, i5⟩, ⟨a1, a2, a3, a4, a5⟩, ⟨b1, b2, b3, b4, b5⟩, b6⟩ := zb_top_at h
  obtain ⟨hN, _, _⟩ := zb_gs_N h.1.1
  have w := zb_gs_w h.1.1
  have hbl : zb_bb (r :: l) ≤ 9 * (l.length + 1) := zb_bb_le h.1.2.1
  have hbb : zb_bb (r :: l) = zb_bb l + zb_rQ r := rfl
  have rt := h.1.2.1.1
  have hn8 : n ≤ 8 := by have := rt.1.2.2.1; omega
  have hv : zb_VR (zb_vo H) (zb_hP H) B.2.2.2.1 (C 35 (9 * (l.length + 1))) (R 77 (zb_bb l)) := rt.2.2.1 0 (by omega)
  have fl := h.1.2.2.2.1
  have hgl : ∀ g, zb_vo H g → g < 20000 := fun g hg => by have := zb_hr_h (zb_gs_hr h.1.1) hg.1; omega
  have hgp : ∀ g, zb_vo H g → zb_hP H g < 6700 := fun g hg => zb_hr_p (zb_gs_hr h.1.1) hg.1
  obtain ⟨C2, hC2⟩ : ∃ C2, C2 = eg_u (eg_u C 32 (l.length + 1) a') 30 (l.length + 1) 12 := ⟨_, rfl⟩
  have zb_c2o : ∀ c, c ≠ 30 → c ≠ 32 → C2 c = C c := fun c p q => by rw [hC2, eg_u_ne p, eg_u_ne q]
  have c30 : C2 30 (l.length + 1) = 12 := by rw [hC2, eg_u_eq]
  have qc2 : zb_QC C C2 := by rw [hC2]; exact zb_QC_u (zb_QC_u zb_QC_rfl (by decide)) (by decide)
  have g2 : zb_GS B C2 R H rl ql fd := zb_gs_congr h.1.1 qc2 zb_QR_rfl
  rcases zb_vr_int hN hv hgl hgp with ⟨p, p1, p2, p3⟩ | ⟨nt, hcase⟩
  · right
    exact pr sp0 zb_sp C R H rl ql fd fu r l p n a' h hk hy hq hl p1 p2 p3 h0 hp ha1 ha2
  · -- no primitive
    have h72 : ∀ M : eM, zb_KEP C2 M → fn_72 ((l.length + 1 : Nat) : Int) M = some 0 := by
      intro M kM
      rw [zb_f72_ap (v := C 35 (9 * (l.length + 1))) (by omega) (by rw [kM.1 30 (by decide)]; exact c30) (by rw [kM.1 35 (by decide), zb_c2o 35 (by decide) (by decide)]), if_pos nt]
    have kepr : zb_KEP C2 C2 := ⟨fun _ _ => rfl, fun _ _ => rfl, fun _ _ => rfl, by rw [zb_c2o 43 (by decide) (by decide)]; exact fl.1.2.2.1⟩
    have hCL : ∀ (M : eM) (sp' : Nat), zb_KEP C2 M → sp' < 1000000 → zb_CL B.2.2.1 Q (sp' : Int) M = (fn_124 B.2.2.1 (B.2.2.1 / 3 + 1) ((l.length + 1 : Nat) : Int) M).bind (zb_AF B.2.2.1 Q (sp' : Int)) := by
      intro M sp' kM hs'
      rw [zb_cl_res' (top := l.length + 1) (by rw [kM.2.1 8 (by decide), zb_c2o 44 (by decide) (by decide)]; exact i4) hs' (by rw [kM.1 29 (by decide), zb_c2o 29 (by decide) (by decide)]; exact i3) (by omega) (h72 M kM), zb_d104_12 (by omega) (by rw [kM.1 30 (by decide)]; exact c30)]
    have q0 : ∀ M : eM, zb_KEP C2 M → fn_73 ((l.length + 1 : Nat) : Int) 0 M = some (C 35 (9 * (l.length + 1))) := by
      intro M kM
      have := zb_f73 (M := M) (i := l.length + 1) (q := 0) (by omega) (by omega)
      rw [kM.1 35 (by decide), show 9 * (l.length + 1) + 0 = 9 * (l.length + 1) from rfl, zb_c2o 35 (by decide) (by decide)] at this
      exact this
    have fault : ∀ k : Int, 1 ≤ k ∧ k ≤ 12 → fn_222 (zb_bb l : Int) (n : Int) R = some (-1, eg_u R 45 69 k) → fn_124 B.2.2.1 (B.2.2.1 / 3 + 1) ((l.length + 1 : Nat) : Int) C2 = some (eg_u C2 44 8 k) → (∃ (g : Int) (R' : eM), fn_222 (zb_bb l : Int) (n : Int) R = some (g, R') ∧ g ≠ 2 ∧ zb_RESV B Q Z sp0 (zb_CL B.2.2.1 Q (zb_sp : Int) C2) (some (if g = 3 then 1 else g, R'))) := by
      intro k hk1 e1 e2
      refine ⟨-1, _, e1, by decide, ?_⟩
      rw [hCL C2 zb_sp kepr (by omega), e2, Option.bind_some, if_neg (by decide)]
      exact zb_res_fault (k := k) (fu := fu) g2 (zb_QC_u zb_QC_rfl (by decide)) (zb_QR_45 zb_QR_rfl (by decide)) ⟨by rw [eg_u_nj (by decide), zb_c2o 44 (by decide) (by decide)]; exact i5, by rw [eg_u_nj (by decide)]; exact h.2.1.2.1, h.2.1.2.2⟩ eg_u_eq eg_u_eq hk1
    have noproc : fn_76 (B.2.2.1 / 3 + 1) (C 35 (9 * (l.length + 1))) 3 C2 = some 0 → fn_223 (R 77 (zb_bb l)) 2 R = some 0 → (R 77 (zb_bb l) < 0 ∨ eb_lshr (R 77 (zb_bb l)) 32 ≠ 5) → (∃ (g : Int) (R' : eM), fn_222 (zb_bb l : Int) (n : Int) R = some (g, R') ∧ g ≠ 2 ∧ zb_RESV B Q Z sp0 (zb_CL B.2.2.1 Q (zb_sp : Int) C2) (some (if g = 3 then 1 else g, R'))) := by
      intro e1 e2 e3
      refine fault 6 (by decide) ?_ ?_
      · unfold fn_222 fn_185
        rw [if_pos (by omega), Int.toNat_natCast, e2, Option.bind_some, if_pos rfl]
        by_cases hz : R 77 (zb_bb l) < 0
        · rw [if_pos hz, Option.bind_some]
        · rw [if_neg hz, if_neg (e3.resolve_left hz), Option.bind_some]
      · unfold fn_124
        rw [q0 C2 kepr, Option.bind_some, e1, Option.bind_some, if_neg (fun z => z rfl)]
    rw [← hC2]
    rcases hcase with ⟨g, gv, e1, e2⟩ | ⟨n4, n5⟩
    · have hgb := zb_hr_h (zb_gs_hr h.1.1) gv.1
      have hgp' := hgp g gv
      obtain ⟨o1, _⟩ := zb_hr_ob (zb_gs_hr h.1.1) gv.1
      have hgk := (zb_hr_k (zb_gs_hr h.1.1) gv.1).1
      have hz1 := (zb_nf_le (zb_hr_ob (zb_gs_hr h.1.1) gv.1).2.2.2.1).2.2.2.1
      have o1' : R 62 (zb_hP H g) = ((zb_hK H g - 1 : Nat) : Int) := by rw [o1]; omega
      clear o1
      by_cases hk3 : zb_hK H g = 3
      · obtain ⟨d, gf, y1, y2, y3, y4, y5, y6, y7⟩ := zb_proc_at (zb_gs_hr h.1.1) gv.1 hk3
        obtain ⟨n', x1, z1, z2, z3, z4, z5, z6, z7, z8, z9, z10⟩ := zb_lm_of y1
        have e223 : fn_223 (R 77 (zb_bb l)) 2 R = some 1 := by rw [e2, zb_f223_ob hgp' o1', if_pos (by omega)]
        have e222 : fn_222 (zb_bb l : Int) (n : Int) R = if n' = n then (fn_224 (R 77 (zb_bb l)) (zb_bb l : Int) (n : Int) R) else some (-1, eg_u R 45 69 7) := by
          unfold fn_222 fn_185
          rw [if_pos (by omega), Int.toNat_natCast, e223, Option.bind_some, if_neg (by decide), e2, zb_f187 hgp', Option.bind_some, if_pos (by omega), Int.toNat_natCast, y3, zb_w176 w, z1, Option.bind_some, if_pos (by omega), Int.toNat_natCast, w.2.2.2.2.2.2.2, z3]
          by_cases hq : n' = n
          · rw [if_pos (by omega), if_pos hq]
            cases fn_224 (zb_ov (zb_hP H g)) (zb_bb l : Int) (n : Int) R <;> rfl
          · rw [if_neg (by omega), if_neg hq, Option.bind_some]
        have e77 : ∀ (M R' : eM) (H' : zb_Hp) (rl' ql' : List (Nat × Nat)), zb_GS B M R' H' rl' ql' fd → zb_KEP C2 M → g ∈ zb_hO H' → zb_hK H' g = 3 → zb_cl M H' g 1 = (d : Int) → fn_124 B.2.2.1 (B.2.2.1 / 3 + 1) ((l.length + 1 : Nat) : Int) M = if n' = n then fn_125 B.2.2.1 (B.2.2.1 / 3 + 1) ((l.length + 1 : Nat) : Int) M else some (eg_u M 44 8 7) := by
          intro M R' H' rl' ql' gM kM hM hkM c1
          have hb := zb_hr_h (zb_gs_hr gM) hM
          have hz' : zb_hZ H' g = 4 := by have hz := (zb_hr_ob (zb_gs_hr gM) hM).2.2.2.1; unfold zb_szk at hz; omega
          have q1 : fn_78 B.2.2.1 (B.2.2.1 / 3 + 1) (g : Int) 1 M = some (d : Int) := by
            have := zb_hr_get (zb_gs_hr gM) (M := M) rfl rfl hM (i := 1) (by omega)
            unfold zb_cl at c1; rw [← c1]; exact this
          have hk9 : M 18 g = ((3 : Nat) : Int) := by rw [(zb_hr_k (zb_gs_hr gM) hM).1, hkM]
          have m34 : eg_wi (M 34 (l.length + 1) - 1) = (n : Int) := by
            rw [kM.1 34 (by decide), zb_c2o 34 (by decide) (by decide), a5, hq]; unfold eg_wi; omega
          have wM := zb_gs_w gM
          have q58 : fn_58 ((d + 2 : Nat) : Int) M = some (n' : Int) := by
            rw [← z4]; unfold fn_58 fn_58_6; rw [wM.1.2.1]
          unfold fn_124 fn_77
          rw [q0 M kM, Option.bind_some, e1, zb_f76_ob (by omega) (by omega) hk9, if_pos (by rfl), Option.bind_some, if_pos (by decide), zb_wi_obj (by omega), q1, Option.bind_some, zb_wi_n (a := d) (by omega), zb_wi_p2 (by omega), q58, Option.bind_some, Option.bind_some, if_pos (by omega), Int.toNat_natCast, m34]
          clear m34
          by_cases hq : n' = n
          · rw [if_pos (by omega), if_pos hq, zb_bsome]
          · rw [if_neg (by omega), if_neg hq]
        have hcl1 : zb_cl C2 H g 1 = (d : Int) := by rw [← y2]; unfold zb_cl; rw [zb_c2o 16 (by decide) (by decide)]
        by_cases hqn : n' = n
        · rw [if_pos hqn] at e222
          subst hqn
          have hse : zb_SE B C2 R H rl ql fd r l fu := by
            obtain ⟨⟨_, s, zb_ct, fl', t1, t2, t3⟩, f, ca, dp⟩ := h
            have low : zb_LOW C C2 R R l := by
              refine ⟨fun c i h1 h2 h3 => ?_, fun i _ => by rw [zb_c2o 35 (by decide) (by decide)], fun _ _ _ _ => rfl, fun _ _ => rfl⟩
              rw [hC2, eg_u_nj (by omega), eg_u_nj (by omega)]
            refine ⟨⟨g2, ?_, zb_low_ctl low zb_ct.2, ?_, ?_⟩, ?_, ?_, dp⟩
            · exact zb_str_tr s (fun i _ _ => by rw [zb_c2o 33 (by decide) (by decide), zb_c2o 34 (by decide) (by decide), zb_c2o 35 (by decide) (by decide)]; exact ⟨rfl, rfl, fun _ _ => rfl⟩) (fun _ _ => ⟨rfl, rfl⟩) (fun _ _ => rfl) (fun g hg _ => zb_trg_rfl hg)
            · exact zb_flg_congr fl' (by rw [zb_c2o 44 (by decide) (by decide)]; exact fl'.1.1) (zb_c2o 43 (by decide) (by decide)) (by rw [zb_c2o 15 (by decide) (by decide)]; exact ⟨fl'.1.2.2.2.1, fl'.1.2.2.2.2⟩) (zb_c2o 36 (by decide) (by decide)) (fun _ _ => rfl)
            · exact ⟨by rw [zb_c2o 29 (by decide) (by decide)]; exact t1, t2, t3⟩
            · exact ⟨by rw [zb_c2o 44 (by decide) (by decide)]; exact f.1, f.2⟩
            · exact ⟨by rw [zb_c2o 44 (by decide) (by decide)]; exact ca.1, ca.2.1, ca.2.2.1, zb_bud_le ca.2.2.2 rfl (by have := (zb_nc_le (r := r) (l := l)).1; omega)⟩
          have htt : zb_tt (r :: l) = zb_tt l + 1 := by simp only [zb_tt]; rw [if_neg (by omega)]
          rcases zb_enter_ok (k' := 13) (a := a'.toNat) (n := n') (h := g) (d := d) (fc := 12) (sp0 := sp0) (zb_sp := zb_sp) ev hse (Or.inl ⟨rfl, rfl, hk⟩) c30 (by rw [zb_c2o 31 (by decide) (by decide)]; exact a2) (by rw [hC2, eg_u_ne (by decide), eg_u_eq]; omega) (by rw [b1, hk]; rfl) b2 (fun z => by omega) hq hn8 gv.1 hk3 (by rw [zb_c2o 35 (by decide) (by decide)]; exact e1) e2 hcl1 z3 hl hZ9 h0 hp (fun M R' H' rl' ql' sp' gM kM hM hkM c1 hs' => by rw [hCL M sp' kM hs', e77 M R' H' rl' ql' gM kM hM hkM c1, if_pos rfl]) with ⟨R', k1, k2, k3, k4, k5⟩ | ⟨R', k1, k2⟩
          · left
            rw [htt] at k2 k4 k5
            exact ⟨R', by rw [e222]; exact k1, k2, k4, k5⟩
          · right
            exact ⟨-1, R', by rw [e222]; exact k1, by decide, by rw [if_neg (by decide)]; exact k2⟩
        · right
          rw [if_neg hqn] at e222
          refine fault 7 (by decide) e222 ?_
          rw [e77 C2 R H rl ql g2 kepr gv.1 hk3 hcl1, if_neg hqn]
      · right
        refine noproc ?_ ?_ ?_
        · rw [e1, zb_f76_ob (k := zb_hK H g) (by omega) (by omega) (by rw [zb_c2o 18 (by decide) (by decide)]; exact hgk), if_neg (by omega)]
        · rw [e2, zb_f223_ob hgp' o1', if_neg (by omega)]
        · right
          rw [e2, zb_sh32 (k := 6) (by unfold zb_ov; omega) (by unfold zb_ov; omega)]; decide
    · right
      refine noproc (zb_f76_no n4) (zb_f223_no ?_) ?_
      · rcases n5 with z | z
        · exact Or.inl z
        · exact Or.inr z.1
      · rcases n5 with z | z
        · exact Or.inl z
        · exact Or.inr z.2
end CALLS
