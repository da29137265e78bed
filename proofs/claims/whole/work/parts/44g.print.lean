noncomputable def zb_LPQ (x1 s1 s2 : Int) (R : eM) : Option eM := lp (fun z => fn_238_22 x1 z.1 z.2.1 z.2.2) (s1, s2, R)
def zb_WRA (C0 R0 : eM) (w : Int) (R : eM) (k b : Nat) (C' : eM) : Prop := ∃ (R' : eM) (k' : Nat), zb_PRS C0 R0 C' R' k' b ∧ k < k' ∧ (∀ i, i < b → R' 87 i = R 87 i) ∧ (fn_239 w R = some (1, R') ∨ ∃ R1, fn_239 w R = some (1, R1) ∧ R1 45 74 = ((b + 1 : Nat) : Int) ∧ ∀ x1, zb_LPQ x1 1 0 R1 = zb_LPQ x1 1 1 R')
def zb_WRB (C0 R0 : eM) (w : Int) (R : eM) (b : Nat) (C' : eM) : Prop := ∃ (R' R'' : eM) (m : Nat), zb_adR (List.replicate m 41) R' = some R'' ∧ zb_CUT C0 R0 C' R'' (b + m) ∧ (R' 45 74 = ((b + m : Nat) : Int) ∧ b + m ≤ 10) ∧ ((fn_239 w R = some (0, R') ∧ m = 0) ∨ ∃ R1, fn_239 w R = some (1, R1) ∧ R1 45 74 = ((b + 1 : Nat) : Int) ∧ ∀ x1, ∃ ph, zb_LPQ x1 1 0 R1 = zb_LPQ x1 0 ph R')
section OU
variable {C0 R0 C R C' R' M : eM} {H : zb_Hp} {cn N k b : Nat} {lam : Nat → Prop} {scp : Nat → Nat → Prop} {L B' : Nat → Nat}
theorem zb_prs_add {a : Int} (h : zb_PRS C0 R0 C R k b) (ha : 0 ≤ a ∧ a < 128) : ∃ C' R', fn_85 a C = some C' ∧ fn_240 a R = some R' ∧ zb_PRS C0 R0 C' R' k b ∧ R' 87 = R 87 := by
  obtain ⟨C1, R1, e1, e2, o1, f1, f2⟩ := zb_out_add h.1 ha
  exact ⟨C1, R1, e1, e2, zb_ps_f h o1 f1 f2, f2.1 87 (by decide) (by decide)⟩
theorem zb_prs_hr (hr : zb_HR C0 R0 H cn N lam scp) (p : zb_PF C0 R0 C R) : zb_HR C R H cn N lam scp :=
  zb_hr_congr hr (fun f _ => by rw [p.1 15 (by decide) (by decide) (by decide)]) (fun c hc => p.1 c (by revert hc; simp; omega) (by revert hc; simp; omega) (by revert hc; simp; omega)) (fun f hf => p.2.2.1 f (by revert hf; simp; omega) (by revert hf; simp; omega) (by revert hf; simp; omega)) (fun c hc => p.2.1 c (by revert hc; simp; omega) (by revert hc; simp; omega) (by revert hc; simp; omega))
theorem zb_ph_0 {x1 : Int} {g : Nat} (hr : zb_HR C0 R0 H cn N lam scp) (p : zb_PF C0 R0 C R) (h74 : R 45 74 = ((b + 1 : Nat) : Int)) (hb : b < 10) (h87 : R 87 b = zb_ov (zb_hP H g)) (hg : g ∈ zb_hO H) (hk : zb_hK H g = 1) :
    fn_238_22 x1 1 0 R = (fn_239 (zb_rf R0 H g 0) R).bind fun r54 => if ¬ (r54.2 45 74) = ((b + 1 : Nat) : Int) then some (.inl (r54.1, 0, r54.2)) else some (.inl (r54.1, 1, r54.2)) := by
  have hm : eg_wi (((b + 1 : Nat) : Int) - 1) = (b : Int) := by rw [zb_wi_m1 (by omega) (by omega)]; rfl
  have g0 := zb_hr_getr hr (M := R) (p.2.1 65 (by decide) (by decide) (by decide)) (p.2.1 70 (by decide) (by decide) (by decide)) (p.2.1 71 (by decide) (by decide) (by decide)) hg (j := 0) (by rw [hk]; exact Nat.succ_pos _)
  unfold fn_238_22
  rw [h74, hm]
  clear hm
  rw [if_neg (by decide), if_neg (by omega), if_pos (by omega), if_neg (fun z => z rfl), Int.toNat_natCast, h87, show fn_189 (zb_ov (zb_hP H g)) 0 R = _ from g0, Option.bind_some]
theorem zb_car_a {x1 : Int} {g : Nat} (hr : zb_HR C0 R0 H cn N lam scp) (p : zb_PF C0 R0 C R) (h74 : R 45 74 = ((b + 1 : Nat) : Int)) (hb : b < 10) (h87 : R 87 b = zb_ov (zb_hP H g)) (hg : g ∈ zb_hO H) (hk : zb_hK H g = 1) {R' : eM} {k' : Nat} (q : zb_PRS C0 R0 C' R' k' (b + 1)) (h : fn_239 (zb_rf R0 H g 0) R = some (1, R') ∨ ∃ R1, fn_239 (zb_rf R0 H g 0) R = some (1, R1) ∧ R1 45 74 = ((b + 1 + 1 : Nat) : Int) ∧ ∀ x1, zb_LPQ x1 1 0 R1 = zb_LPQ x1 1 1 R') : zb_LPQ x1 1 0 R = zb_LPQ x1 1 1 R' := by
  have e := zb_ph_0 (x1 := x1) hr p h74 hb h87 hg hk
  rcases h with h | ⟨R1, h1, h2, h3⟩
  · rw [h, Option.bind_some, if_neg (fun z => z q.2.2.2.1)] at e
    exact lp3_inl e
  · rw [h1, Option.bind_some, if_pos (show ¬ R1 45 74 = ((b + 1 : Nat) : Int) by rw [h2]; omega)] at e
    exact (lp3_inl e).trans (h3 x1)
theorem zb_car_b {x1 : Int} {g m : Nat} (hr : zb_HR C0 R0 H cn N lam scp) (p : zb_PF C0 R0 C R) (h74 : R 45 74 = ((b + 1 : Nat) : Int)) (hb : b < 10) (h87 : R 87 b = zb_ov (zb_hP H g)) (hg : g ∈ zb_hO H) (hk : zb_hK H g = 1) {R' : eM} (q : R' 45 74 = ((b + 1 + m : Nat) : Int)) (h : (fn_239 (zb_rf R0 H g 0) R = some (0, R') ∧ m = 0) ∨ ∃ R1, fn_239 (zb_rf R0 H g 0) R = some (1, R1) ∧ R1 45 74 = ((b + 1 + 1 : Nat) : Int) ∧ ∀ x1, ∃ ph, zb_LPQ x1 1 0 R1 = zb_LPQ x1 0 ph R') : ∃ ph, zb_LPQ x1 1 0 R = zb_LPQ x1 0 ph R' := by
  have e := zb_ph_0 (x1 := x1) hr p h74 hb h87 hg hk
  rcases h with ⟨h, hm⟩ | ⟨R1, h1, h2, h3⟩
  · subst hm
    rw [h, Option.bind_some, if_neg (fun z => z q)] at e
    exact ⟨1, lp3_inl e⟩
  · rw [h1, Option.bind_some, if_pos (show ¬ R1 45 74 = ((b + 1 : Nat) : Int) by rw [h2]; omega)] at e
    obtain ⟨ph, h4⟩ := h3 x1
    exact ⟨ph, (lp3_inl e).trans h4⟩
theorem zb_cut_add {R' R'' : eM} {m : Nat} (h : zb_adR (List.replicate m 41) R' = some R'') (hc : zb_CUT C0 R0 C R'' (b + 1 + m)) : ∃ C' R3, fn_85 41 C = some C' ∧ zb_adR (List.replicate (m + 1) 41) R' = some R3 ∧ zb_CUT C0 R0 C' R3 (b + (m + 1)) := by
  obtain ⟨C1, R1, e1, e2, o1, f1, f2⟩ := zb_out_add hc.1 (a := 41) (by decide)
  have app : ∀ (l : List Int) (M : eM), zb_adR (l ++ [41]) M = (zb_adR l M).bind (fn_240 41) := by
    intro l
    induction l with
    | nil => intro M; show (fn_240 41 M).bind some = fn_240 41 M; cases fn_240 41 M <;> rfl
    | cons a l ih =>
      intro M
      show (fn_240 a M).bind (zb_adR (l ++ [41])) = ((fn_240 a M).bind (zb_adR l)).bind _
      cases fn_240 a M with
      | none => rfl
      | some m => exact ih m
  refine ⟨C1, R1, e1, ?_, ?_⟩
  · rw [List.replicate_succ', app, h, Option.bind_some, e2]
  · rw [show b + (m + 1) = b + 1 + m by omega]; exact zb_cut_f hc o1 f1 f2
end OU
section OU
variable {C0 R0 C R C' R' M : eM} {H : zb_Hp} {cn N k b : Nat} {lam : Nat → Prop} {scp : Nat → Nat → Prop} {L B' : Nat → Nat}
theorem zb_prs_74 {b' : Nat} (h : zb_PRS C0 R0 C R k b) : zb_PRS C0 R0 C (eg_u R 45 74 (b' : Int)) k b' :=
  ⟨(zb_out_u (f := 5) (v := 0) h.1 (by decide) (by decide)).2, ⟨h.2.1.1, by rw [eg_u_nj (by decide)]; exact h.2.1.2.1, h.2.1.2.2⟩, h.2.2.1, eg_u_eq, h.2.2.2.2.1, fun c a b d => by rw [eg_u_ne a]; exact h.2.2.2.2.2.1 c a b d, fun f a b d => by rw [eg_u_nj (by omega)]; exact h.2.2.2.2.2.2.1 f a b d, h.2.2.2.2.2.2.2⟩
theorem zb_prs_87 {i : Nat} {x : Int} (h : zb_PRS C0 R0 C R k b) : zb_PRS C0 R0 C (eg_u R 87 i x) k b := by
  obtain ⟨⟨w, fb, q1, q2⟩, h2, h3, h4, h5, h6, h7, h8⟩ := h
  refine ⟨⟨w, fb, by rw [eg_u_ne (by decide)]; exact q1, by rw [eg_u_ne (by decide)]; exact q2⟩, by rw [eg_u_ne (by decide)]; exact h2, h3, by rw [eg_u_ne (by decide)]; exact h4, h5, fun c a b d => by rw [eg_u_ne d]; exact h6 c a b d, fun f a b d => by rw [eg_u_ne (by decide)]; exact h7 f a b d, h8⟩
theorem zb_pair_w {v w : Int} (hr : zb_HR C0 R0 H cn N lam scp) (hN : N ≤ 444) (hv : zb_VR (zb_vo H) (zb_hP H) N v w) : (∃ g, g ∈ zb_hO H ∧ zb_hK H g = 1 ∧ v = 17179869184 + (g : Int) ∧ w = zb_ov (zb_hP H g) ∧ g < 20000 ∧ (∀ M, M 18 = C0 18 → fn_76 (cn / 3 + 1) v 1 M = some 1) ∧ ∀ M, M 62 = R0 62 → fn_223 w 0 M = some 1)
    ∨ ((∀ g, zb_vo H g → v = 17179869184 + (g : Int) → zb_hK H g ≠ 1) ∧ (∀ M, M 18 = C0 18 → fn_76 (cn / 3 + 1) v 1 M = some 0) ∧ ∀ M, M 62 = R0 62 → fn_223 w 0 M = some 0) := by
  rcases zb_VR_ob hN hv with ⟨g, gv, e1, e2⟩ | ⟨n1, n2, n3, n4⟩
  · have hb := zb_hr_h hr gv.1
    have hg20 : g < 20000 := by omega
    have k18 := (zb_hr_k hr gv.1).1
    have k62 := (zb_hr_ob hr gv.1).1
    have kz := (zb_nf_le (zb_hr_ob hr gv.1).2.2.2.1).2.2.2.1
    have k62' : R0 62 (zb_hP H g) = ((zb_hK H g - 1 : Nat) : Int) := by rw [k62]; omega
    by_cases hk : zb_hK H g = 1
    · refine Or.inl ⟨g, gv.1, hk, e1, e2, hg20, fun M hM => ?_, fun M hM => ?_⟩
      · rw [e1, zb_f76_ob (k := zb_hK H g) (by omega) hg20 (by rw [hM]; exact k18), if_pos (by omega)]
      · rw [e2, zb_f223_ob (zb_hr_p hr gv.1) (by rw [hM]; exact k62'), if_pos (by omega)]
    · refine Or.inr ⟨fun g' hg' e => ?_, fun M hM => ?_, fun M hM => ?_⟩
      · have : g' = g := by omega
        rw [this]; exact hk
      · rw [e1, zb_f76_ob (k := zb_hK H g) (by omega) hg20 (by rw [hM]; exact k18), if_neg (by omega)]
      · rw [e2, zb_f223_ob (zb_hr_p hr gv.1) (by rw [hM]; exact k62'), if_neg (by omega)]
  · refine Or.inr ⟨fun g hg e => ?_, fun M _ => ?_, fun M _ => ?_⟩
    · have := zb_hr_h hr hg.1
      exact absurd (by rw [e]; exact zb_sh_obj (by omega)) n1
    · unfold fn_76; rw [if_pos n1]
    · unfold fn_223 fn_201
      by_cases h0 : w < 0
      · rw [if_pos h0]; rfl
      · rw [if_neg h0, if_pos (n2.resolve_left h0)]; rfl
end OU
section OU
variable {C0 R0 C R C' R' M : eM} {H : zb_Hp} {cn N k b : Nat} {lam : Nat → Prop} {scp : Nat → Nat → Prop} {L B' : Nat → Nat}
theorem zb_ph_1 {x1 : Int} {g : Nat} (hr : zb_HR C0 R0 H cn N lam scp) (p : zb_PF C0 R0 C R) (h74 : R 45 74 = ((b + 1 : Nat) : Int)) (hb : b < 10) (h87 : R 87 b = zb_ov (zb_hP H g)) (hg : g ∈ zb_hO H) (hk : zb_hK H g = 1) :
    fn_238_22 x1 1 1 R = (fn_223 (zb_rf R0 H g 1) 0 R).bind fun r23 => if r23 = 0 then (if zb_rf R0 H g 1 = 12884901888 then (fn_240 41 R).bind fun m29 => some (.inl (1, 1, eg_u m29 45 74 (eg_wi ((m29 45 74) - 1)))) else (fn_240 32 R).bind fun m32 => (fn_240 46 m32).bind fun m35 => (fn_240 32 m35).bind fun m38 => (fn_239 (zb_rf R0 H g 1) m38).bind fun r40 => if r40.1 = 0 then some (.inl (r40.1, 1, r40.2)) else (fn_240 41 r40.2).bind fun m45 => some (.inl (r40.1, 1, eg_u m45 45 74 (eg_wi ((m45 45 74) - 1)))))
      else (fn_240 32 R).bind fun m48 => if 0 ≤ (eg_wi ((m48 45 74) - 1)) ∧ (eg_wi ((m48 45 74) - 1)) < 10 then some (.inl (1, 0, eg_u m48 87 (eg_wi ((m48 45 74) - 1)).toNat (zb_rf R0 H g 1))) else none := by
  have hm : eg_wi (((b + 1 : Nat) : Int) - 1) = (b : Int) := by rw [zb_wi_m1 (by omega) (by omega)]; rfl
  have g0 := zb_hr_getr hr (M := R) (p.2.1 65 (by decide) (by decide) (by decide)) (p.2.1 70 (by decide) (by decide) (by decide)) (p.2.1 71 (by decide) (by decide) (by decide)) hg (j := 1) (by rw [hk]; exact (by decide : 1 < 2))
  unfold fn_238_22
  rw [h74, hm]
  clear hm
  rw [if_neg (by decide), if_neg (by omega), if_pos (by omega), if_pos (by decide), Int.toNat_natCast, h87, show fn_189 (zb_ov (zb_hP H g)) 1 R = _ from g0, Option.bind_some]
theorem zb_pair_f (hr : zb_HR C0 R0 H cn N lam scp) {g : Nat} (hg : g ∈ zb_hO H) (hk : zb_hK H g = 1) : (∀ M, M 16 = C0 16 → M 17 = C0 17 → fn_78 cn (cn / 3 + 1) (g : Int) 1 M = some (zb_cf C0 H g 0) ∧ fn_78 cn (cn / 3 + 1) (g : Int) 2 M = some (zb_cf C0 H g 1)) ∧ zb_VR (zb_vo H) (zb_hP H) N (zb_cf C0 H g 0) (zb_rf R0 H g 0) ∧ zb_VR (zb_vo H) (zb_hP H) N (zb_cf C0 H g 1) (zb_rf R0 H g 1) := by
  have hz : zb_hZ H g = 4 := by have := (zb_hr_ob hr hg).2.2.2.1; rw [hk] at this; unfold zb_szk at this; omega
  have hnf : zb_nf (zb_hK H g) (zb_hZ H g) = 2 := by rw [hk]; rfl
  have nl : ∀ j, ¬ zb_isl (zb_hK H g) j := fun j => by rw [hk]; unfold zb_isl; omega
  have c0 : zb_cf C0 H g 0 = C0 16 (zb_hS H g + 1) := by unfold zb_cf; rw [if_neg (nl 0), hk]; rfl
  have c1 : zb_cf C0 H g 1 = C0 16 (zb_hS H g + 2) := by unfold zb_cf; rw [if_neg (nl 1), hk]; rfl
  refine ⟨fun M a b => ⟨?_, ?_⟩, ((zb_hr_ob hr hg).2.2.2.2.1 0 (by omega)).2 (nl 0), ((zb_hr_ob hr hg).2.2.2.2.1 1 (by omega)).2 (nl 1)⟩
  · rw [c0]; exact zb_hr_get hr (M := M) a b hg (i := 1) (by omega)
  · rw [c1]; exact zb_hr_get hr (M := M) a b hg (i := 2) (by omega)
set_option maxHeartbeats 2000000 in
theorem zb_rest_w {v0 r0 : Int} {n : Nat} (hr : zb_HR C0 R0 H cn N lam scp) (zb_nm : zb_NM C0 R0 N L B') (hb : b < 10)
    (ih : ∀ (v w : Int) (C R : eM) (k : Nat), zb_VR (zb_vo H) (zb_hP H) N v w → zb_PRS C0 R0 C R k (b + 1) → ∃ C', fn_84 cn (cn / 3 + 1) (n + 1) v ((b + 1 : Nat) : Int) C = some C' ∧ (zb_WRA C0 R0 w R k (b + 1) C' ∨ zb_WRB C0 R0 w R (b + 1) C')) :
    ∀ (d k t : Nat) (C R : eM) (g : Nat), 40 - k < d → zb_PRS C0 R0 C R k (b + 1) → R 87 b = zb_ov (zb_hP H g) → g ∈ zb_hO H → zb_hK H g = 1 → t < k → ∃ C', lp (fun z => fn_84_34 cn (cn / 3 + 1) (fn_84 cn (cn / 3 + 1) (n + 1)) v0 (b : Int) r0 z.1 z.2.1 z.2.2) (zb_cf C0 H g 1, (t : Int), C) = some C'
      ∧ ((∃ (R' : eM) (k' : Nat), zb_PRS C0 R0 C' R' k' b ∧ k ≤ k' ∧ (∀ i, i < b → R' 87 i = R 87 i) ∧ ∀ x1, zb_LPQ x1 1 1 R = zb_LPQ x1 1 1 R') ∨ (∃ (R' R'' : eM) (m : Nat), zb_adR (List.replicate m 41) R' = some R'' ∧ zb_CUT C0 R0 C' R'' (b + m) ∧ (R' 45 74 = ((b + m : Nat) : Int) ∧ b + m ≤ 10) ∧ ∀ x1, ∃ ph, zb_LPQ x1 1 1 R = zb_LPQ x1 0 ph R')) := by
  have hN := zb_nm.1.2.2.2
  intro d
  induction d with
  | zero => intro k t C R g hd; omega
  | succ d ihd =>
    intro k t C R g hd ps h87 hg hk ht
    have pf := ps.2.2.2.2
    have hk40 := ps.2.1.2.2
    obtain ⟨pg1, pv0, pv1⟩ := zb_pair_f hr hg hk
    have p1 : ∀ x1, _ := fun x1 => zb_ph_1 (x1 := x1) hr pf ps.2.2.2.1 hb h87 hg hk
    have c18 : C 18 = C0 18 := pf.1 18 (by decide) (by decide) (by decide)
    have r62 : R 62 = R0 62 := pf.2.1 62 (by decide) (by decide) (by decide)
    rcases zb_pair_w hr hN pv1 with ⟨g2, hg2, hk2, e1, e2, e3, e4, e5⟩ | ⟨hnp, e4, e5⟩
    · -- another pair
      obtain ⟨C1, R1, a1, a2, ps1, a4⟩ := zb_prs_add ps (a := 32) (by decide)
      obtain ⟨qf, qv0, qv1⟩ := zb_pair_f hr hg2 hk2
      have hmm : eg_wi (R1 45 74 - 1) = (b : Int) := by rw [ps1.2.2.2.1, zb_wi_m1 (by omega) (by omega)]; rfl
      obtain ⟨R2, hR2⟩ : ∃ X, X = eg_u R1 87 b (zb_rf R0 H g 1) := ⟨_, rfl⟩
      have ps2 : zb_PRS C0 R0 C1 R2 k (b + 1) := by rw [hR2]; exact zb_prs_87 ps1
      have h872 : R2 87 b = zb_ov (zb_hP H g2) := by rw [hR2, eg_u_eq]; exact e2
      have h87o : ∀ i, i < b → R2 87 i = R 87 i := fun i hi => by rw [hR2, eg_u_nj (by omega), a4]
      have st : ∀ x1, zb_LPQ x1 1 1 R = zb_LPQ x1 1 0 R2 := fun x1 => by
        have e := p1 x1
        rw [e5 R r62, Option.bind_some, if_neg (by decide), a2, Option.bind_some, hmm, if_pos (by clear hmm; omega), Int.toNat_natCast, ← hR2] at e
        exact lp3_inl e
      clear hmm
      obtain ⟨C2, i1, i2⟩ := ih (zb_cf C0 H g2 0) (zb_rf R0 H g2 0) C1 R2 k qv0 ps2
      have pf1 := ps2.2.2.2.2
      have c16 : C1 16 = C0 16 ∧ C1 17 = C0 17 := ⟨pf1.1 16 (by decide) (by decide) (by decide), pf1.1 17 (by decide) (by decide) (by decide)⟩
      have stc : ∀ C2' : eM, C2' 16 = C0 16 → C2' 17 = C0 17 → C2' = C2 → fn_84_34 cn (cn / 3 + 1) (fn_84 cn (cn / 3 + 1) (n + 1)) v0 (b : Int) r0 (zb_cf C0 H g 1) (t : Int) C = some (.inl (zb_cf C0 H g2 1, ((t + 1 : Nat) : Int), C2)) := fun C2' q1 q2 q3 => by
        unfold fn_84_34
        rw [if_neg (by omega), if_neg (fun z => z ps.2.2.1), e4 C c18, Option.bind_some, if_neg (by decide), a1, Option.bind_some, e1, zb_wi_obj e3, (qf C1 c16.1 c16.2).1, Option.bind_some, zb_wi_1 (by omega), i1, Option.bind_some, (qf C2 (by rw [← q3]; exact q1) (by rw [← q3]; exact q2)).2, Option.bind_some, zb_wi_1 (by omega)]
      rcases i2 with ⟨R3, k3, ps3, hk3, h873, h239⟩ | ⟨R3, R4, m, had, hcut, h743, h239⟩
      · have pf3 := ps3.2.2.2.2
        have ec := stc C2 (pf3.1 16 (by decide) (by decide) (by decide)) (pf3.1 17 (by decide) (by decide) (by decide)) rfl
        have hk340 := ps3.2.1.2.2
        obtain ⟨C5, j1, j2⟩ := ihd k3 (t + 1) C2 R3 g2 (by omega) ps3 (by rw [h873 b (by omega)]; exact h872) hg2 hk2 (by omega)
        have sr : ∀ x1, zb_LPQ x1 1 1 R = zb_LPQ x1 1 1 R3 := fun x1 => (st x1).trans (zb_car_a hr pf1 ps2.2.2.2.1 hb h872 hg2 hk2 ps3 h239)
        refine ⟨C5, (lp3_inl ec).trans j1, ?_⟩
        rcases j2 with ⟨R5, k5, ps5, hk5, h875, h5⟩ | ⟨R5, R6, m, q1, q2, q3, q4⟩
        · exact Or.inl ⟨R5, k5, ps5, by omega, fun i hi => by rw [h875 i hi, h873 i (by omega), h87o i hi], fun x1 => (sr x1).trans (h5 x1)⟩
        · refine Or.inr ⟨R5, R6, m, q1, q2, q3, fun x1 => ?_⟩
          obtain ⟨ph, hph⟩ := q4 x1
          exact ⟨ph, (sr x1).trans hph⟩
      · have pf3 := hcut.2.2.2
        have ec := stc C2 (pf3.1 16 (by decide) (by decide) (by decide)) (pf3.1 17 (by decide) (by decide) (by decide)) rfl
        obtain ⟨C5, R5, j1, j2, j3⟩ := zb_cut_add had hcut
        refine ⟨C5, (lp3_inl ec).trans ?_, Or.inr ⟨R3, R5, m + 1, j2, j3, ⟨by rw [h743.1]; omega, by have := h743.2; omega⟩, fun x1 => ?_⟩⟩
        · refine lp3_map (X := some C5) ?_
          unfold fn_84_34
          have h69 : fn_84_69 cn (cn / 3 + 1) (fn_84 cn (cn / 3 + 1) (n + 1)) v0 (b : Int) (zb_cf C0 H g2 1) C2 = some C5 := by
            unfold fn_84_69
            rw [if_pos (by rw [hcut.2.1]; decide), j1]; rfl
          rw [h69]
          by_cases h40 : 40 < ((t + 1 : Nat) : Int)
          · rw [if_pos h40]
          · rw [if_neg h40, if_pos (by rw [hcut.2.1]; decide)]
        · obtain ⟨ph, hph⟩ := zb_car_b (x1 := x1) hr pf1 ps2.2.2.2.1 hb h872 hg2 hk2 h743.1 h239
          exact ⟨ph, (st x1).trans hph⟩
    · -- no pair
      have hnil : zb_cf C0 H g 1 = 4294967298 ↔ zb_rf R0 H g 1 = 12884901888 := zb_vr_eq hr hN pv1 (Or.inr (Or.inr (Or.inr (Or.inl ⟨rfl, rfl⟩))))
      have ec : ∀ X : Option eM, fn_84_69 cn (cn / 3 + 1) (fn_84 cn (cn / 3 + 1) (n + 1)) v0 (b : Int) (zb_cf C0 H g 1) C = X → lp (fun z => fn_84_34 cn (cn / 3 + 1) (fn_84 cn (cn / 3 + 1) (n + 1)) v0 (b : Int) r0 z.1 z.2.1 z.2.2) (zb_cf C0 H g 1, (t : Int), C) = X := fun X hX => by
        refine lp3_map (X := X) ?_
        unfold fn_84_34
        rw [if_neg (by omega), if_neg (fun z => z ps.2.2.1), e4 C c18, Option.bind_some, if_pos rfl, hX]
      by_cases hn0 : zb_cf C0 H g 1 = 4294967298
      · obtain ⟨C1, R1, a1, a2, ps1, a4⟩ := zb_prs_add ps (a := 41) (by decide)
        have hmm : eg_wi (R1 45 74 - 1) = (b : Int) := by rw [ps1.2.2.2.1, zb_wi_m1 (by omega) (by omega)]; rfl
        refine ⟨C1, ec _ ?_, Or.inl ⟨eg_u R1 45 74 (b : Int), k, zb_prs_74 ps1, Nat.le_refl _, fun i hi => by rw [eg_u_ne (by decide), a4], fun x1 => ?_⟩⟩
        · unfold fn_84_69
          rw [if_neg (fun z => z ps.2.2.1), if_pos hn0, a1]; rfl
        · have e := p1 x1
          rw [e5 R r62, Option.bind_some, if_pos rfl, if_pos (hnil.1 hn0), a2, Option.bind_some, hmm] at e
          exact lp3_inl e
      · obtain ⟨C1, R1, a1, a2, ps1, a4⟩ := zb_prs_add ps (a := 32) (by decide)
        obtain ⟨C2, R2, b1, b2, ps2, b4⟩ := zb_prs_add ps1 (a := 46) (by decide)
        obtain ⟨C3, R3, c1, c2, ps3, c4⟩ := zb_prs_add ps2 (a := 32) (by decide)
        have e86 : fn_86 1 C = some C3 := by
          rw [zb_f86 (by decide), zb_wd_ok2.1]
          show (fn_85 32 C).bind (fun m => (fn_85 46 m).bind fun m2 => (fn_85 32 m2).bind some) = _
          rw [a1, Option.bind_some, b1, Option.bind_some, c1]; rfl
        have pf3 := ps3.2.2.2.2
        have e84 : fn_84 cn (cn / 3 + 1) (n + 1) (zb_cf C0 H g 1) (eg_wi ((b : Int) + 1)) C3 = fn_84_89 cn (cn / 3 + 1) (fn_84 cn (cn / 3 + 1) n) (zb_cf C0 H g 1) (eg_wi ((b : Int) + 1)) 0 C3 := by
          show fb_84 cn (cn / 3 + 1) (fn_84 cn (cn / 3 + 1) n) _ _ C3 = _
          unfold fb_84
          rw [e4 C3 (pf3.1 18 (by decide) (by decide) (by decide)), Option.bind_some, if_pos rfl]
        have e239 : fn_239 (zb_rf R0 H g 1) R3 = fn_239_26 (zb_rf R0 H g 1) R3 := by
          unfold fn_239
          rw [e5 R3 (pf3.2.1 62 (by decide) (by decide) (by decide)), Option.bind_some, if_pos rfl]
        have h69 : fn_84_69 cn (cn / 3 + 1) (fn_84 cn (cn / 3 + 1) (n + 1)) v0 (b : Int) (zb_cf C0 H g 1) C = (fn_84_89 cn (cn / 3 + 1) (fn_84 cn (cn / 3 + 1) n) (zb_cf C0 H g 1) (eg_wi ((b : Int) + 1)) 0 C3).bind fun m56 => (fn_85 41 m56).bind fun m59 => some m59 := by
          unfold fn_84_69
          rw [if_neg (fun z => z ps.2.2.1), if_neg hn0, e86, Option.bind_some, e84]
        have er : ∀ x1, fn_238_22 x1 1 1 R = (fn_239_26 (zb_rf R0 H g 1) R3).bind fun r40 => if r40.1 = 0 then some (.inl (r40.1, 1, r40.2)) else (fn_240 41 r40.2).bind fun m45 => some (.inl (r40.1, 1, eg_u m45 45 74 (eg_wi ((m45 45 74) - 1)))) := fun x1 => by
          have e := p1 x1
          rw [e5 R r62, Option.bind_some, if_pos rfl, if_neg (fun z => hn0 (hnil.2 z)), a2, Option.bind_some, b2, Option.bind_some, c2, Option.bind_some, e239] at e
          exact e
        rcases zb_part_w (rec := fn_84 cn (cn / 3 + 1) n) (x3 := eg_wi ((b : Int) + 1)) hr zb_nm pv1 ps3 (Or.inl ⟨rfl, hnp⟩) e5 with ⟨k40, C4, R4, d1, d2, d3, d4⟩ | ⟨k40, C4, R4, d1, d2, d3, d4⟩
        · obtain ⟨C5, R5, f1, f2, ps5, f4⟩ := zb_prs_add d3 (a := 41) (by decide)
          have hmm : eg_wi (R5 45 74 - 1) = (b : Int) := by rw [ps5.2.2.2.1, zb_wi_m1 (by omega) (by omega)]; rfl
          refine ⟨C5, ec _ (by rw [h69, d1, Option.bind_some, f1]; rfl), Or.inl ⟨eg_u R5 45 74 (b : Int), k + 1, zb_prs_74 ps5, by clear hmm; omega, fun i hi => by rw [eg_u_ne (by decide), f4, d4, c4, b4, a4], fun x1 => ?_⟩⟩
          have e := er x1
          rw [d2, Option.bind_some, if_neg (show ¬ (1 : Int) = 0 by decide), f2, Option.bind_some, hmm] at e
          exact lp3_inl e
        · obtain ⟨C5, R5, j1, j2, j3⟩ := zb_cut_add (b := b) (m := 0) (R' := R4) (R'' := R4) rfl d3
          refine ⟨C5, ec _ (by rw [h69, d1, Option.bind_some, j1]; rfl), Or.inr ⟨R4, R5, 1, j2, j3, ⟨d3.2.2.1, by omega⟩, fun x1 => ⟨1, ?_⟩⟩⟩
          have e := er x1
          rw [d2, Option.bind_some, if_pos rfl] at e
          exact lp3_inl e
end OU
section OU
variable {C0 R0 C R C' R' M : eM} {H : zb_Hp} {cn N k b : Nat} {lam : Nat → Prop} {scp : Nat → Nat → Prop} {L B' : Nat → Nat}
set_option maxHeartbeats 2000000 in
theorem zb_wr_ok (hr : zb_HR C0 R0 H cn N lam scp) (zb_nm : zb_NM C0 R0 N L B') : ∀ (n b : Nat), 11 ≤ n + b → b ≤ 10 → ∀ (v w : Int) (C R : eM) (k : Nat), zb_VR (zb_vo H) (zb_hP H) N v w → zb_PRS C0 R0 C R k b → ∃ C', fn_84 cn (cn / 3 + 1) n v (b : Int) C = some C' ∧ (zb_WRA C0 R0 w R k b C' ∨ zb_WRB C0 R0 w R b C') := by
  have hN := zb_nm.1.2.2.2
  intro n
  induction n with
  | zero => intro b h1 h2; omega
  | succ n ihn =>
    intro b h1 h2 v w C R k hv ps
    have pf := ps.2.2.2.2
    have c18 : C 18 = C0 18 := pf.1 18 (by decide) (by decide) (by decide)
    have r62 : R 62 = R0 62 := pf.2.1 62 (by decide) (by decide) (by decide)
    have part : ∀ r2 : Int, ((r2 = 0 ∧ ∀ g, zb_vo H g → v = 17179869184 + (g : Int) → zb_hK H g ≠ 1) ∨ r2 = 1) → (∀ M, M 62 = R0 62 → fn_223 w 0 M = some r2) → fn_84 cn (cn / 3 + 1) (n + 1) v (b : Int) C = fn_84_89 cn (cn / 3 + 1) (fn_84 cn (cn / 3 + 1) n) v (b : Int) r2 C → fn_239 w R = fn_239_26 w R → ∃ C', fn_84 cn (cn / 3 + 1) (n + 1) v (b : Int) C = some C' ∧ (zb_WRA C0 R0 w R k b C' ∨ zb_WRB C0 R0 w R b C') := by
      intro r2 hp h223 e84 e239
      rcases zb_part_w (rec := fn_84 cn (cn / 3 + 1) n) (x3 := (b : Int)) hr zb_nm hv ps hp h223 with ⟨k40, C4, R4, d1, d2, d3, d4⟩ | ⟨k40, C4, R4, d1, d2, d3, d4⟩
      · exact ⟨C4, by rw [e84, d1], Or.inl ⟨R4, k + 1, d3, by omega, fun i _ => by rw [d4], Or.inl (by rw [e239, d2])⟩⟩
      · exact ⟨C4, by rw [e84, d1], Or.inr ⟨R4, R4, 0, rfl, d3, ⟨d3.2.2.1, by omega⟩, Or.inl ⟨by rw [e239, d2], rfl⟩⟩⟩
    rcases zb_pair_w hr hN hv with ⟨g, hg, hk, e1, e2, e3, e4, e5⟩ | ⟨hnp, e4, e5⟩
    · by_cases hb : b < 10
      rotate_left
      · refine part 1 (Or.inr rfl) e5 ?_ ?_
        · show fb_84 cn (cn / 3 + 1) (fn_84 cn (cn / 3 + 1) n) v (b : Int) C = _
          unfold fb_84
          rw [e4 C c18, Option.bind_some, if_neg (by decide), if_pos (by omega)]
        · unfold fn_239
          rw [e5 R r62, Option.bind_some, if_neg (by decide), ps.2.2.2.1, if_pos (by omega)]
      obtain ⟨n', hn'⟩ : ∃ n', n = n' + 1 := ⟨n - 1, by omega⟩
      obtain ⟨C1, R1, a1, a2, ps1, a4⟩ := zb_prs_add ps (a := 40) (by decide)
      obtain ⟨qf, qv0, qv1⟩ := zb_pair_f hr hg hk
      obtain ⟨R2, hR2⟩ : ∃ X, X = eg_u (eg_u R1 87 b w) 45 74 ((b + 1 : Nat) : Int) := ⟨_, rfl⟩
      have ps2 : zb_PRS C0 R0 C1 R2 k (b + 1) := by rw [hR2]; exact zb_prs_74 (zb_prs_87 ps1)
      have h872 : R2 87 b = zb_ov (zb_hP H g) := by rw [hR2, eg_u_ne (by decide), eg_u_eq]; exact e2
      have h87o : ∀ i, i < b → R2 87 i = R 87 i := fun i hi => by rw [hR2, eg_u_ne (by decide), eg_u_nj (by omega), a4]
      have e239 : fn_239 w R = some (1, R2) := by
        unfold fn_239
        rw [e5 R r62, Option.bind_some, if_neg (by decide), ps.2.2.2.1, if_neg (by omega), a2, Option.bind_some, ps1.2.2.2.1, if_pos (by omega), Int.toNat_natCast, zb_wi_1 (by omega), hR2]
      have h742 : R2 45 74 = ((b + 1 : Nat) : Int) := ps2.2.2.2.1
      have pf2 := ps2.2.2.2.2
      have c16 : C1 16 = C0 16 ∧ C1 17 = C0 17 := ⟨pf2.1 16 (by decide) (by decide) (by decide), pf2.1 17 (by decide) (by decide) (by decide)⟩
      obtain ⟨C2, i1, i2⟩ := ihn (b + 1) (by omega) (by omega) (zb_cf C0 H g 0) (zb_rf R0 H g 0) C1 R2 k qv0 ps2
      have e84 : C2 16 = C0 16 → C2 17 = C0 17 → fn_84 cn (cn / 3 + 1) (n + 1) v (b : Int) C = lp (fun z => fn_84_34 cn (cn / 3 + 1) (fn_84 cn (cn / 3 + 1) n) v (b : Int) 1 z.1 z.2.1 z.2.2) (zb_cf C0 H g 1, 0, C2) := fun q1 q2 => by
        show fb_84 cn (cn / 3 + 1) (fn_84 cn (cn / 3 + 1) n) v (b : Int) C = _
        unfold fb_84
        rw [e4 C c18, Option.bind_some, if_neg (by decide), if_neg (by omega), a1, Option.bind_some, show eg_wi v = (g : Int) by rw [e1]; exact zb_wi_obj e3, (qf C1 c16.1 c16.2).1, Option.bind_some, zb_wi_1 (by omega), i1, Option.bind_some, (qf C2 q1 q2).2, Option.bind_some]
      rcases i2 with ⟨R3, k3, ps3, hk3, h873, h239⟩ | ⟨R3, R4, m, had, hcut, h743, h239⟩
      · have pf3 := ps3.2.2.2.2
        have e84' := e84 (pf3.1 16 (by decide) (by decide) (by decide)) (pf3.1 17 (by decide) (by decide) (by decide))
        have sr : ∀ x1, zb_LPQ x1 1 0 R2 = zb_LPQ x1 1 1 R3 := fun x1 => zb_car_a hr pf2 h742 hb h872 hg hk ps3 h239
        subst hn'
        obtain ⟨C5, j1, j2⟩ := zb_rest_w (v0 := v) (r0 := 1) (n := n') hr zb_nm hb (fun v w C R k hv hp => ihn (b + 1) (by omega) (by omega) v w C R k hv hp) (40 - k3 + 1) k3 0 C2 R3 g (by omega) ps3 (by rw [h873 b (by omega)]; exact h872) hg hk (by omega)
        refine ⟨C5, e84'.trans j1, ?_⟩
        rcases j2 with ⟨R5, k5, ps5, hk5, h875, h5⟩ | ⟨R5, R6, m, q1, q2, q3, q4⟩
        · exact Or.inl ⟨R5, k5, ps5, by omega, fun i hi => by rw [h875 i hi, h873 i (by omega), h87o i hi], Or.inr ⟨R2, e239, h742, fun x1 => (sr x1).trans (h5 x1)⟩⟩
        · refine Or.inr ⟨R5, R6, m, q1, q2, q3, Or.inr ⟨R2, e239, h742, fun x1 => ?_⟩⟩
          obtain ⟨ph, hph⟩ := q4 x1
          exact ⟨ph, (sr x1).trans hph⟩
      · have pf3 := hcut.2.2.2
        have e84' := e84 (pf3.1 16 (by decide) (by decide) (by decide)) (pf3.1 17 (by decide) (by decide) (by decide))
        obtain ⟨C5, R5, j1, j2, j3⟩ := zb_cut_add had hcut
        refine ⟨C5, e84'.trans ?_, Or.inr ⟨R3, R5, m + 1, j2, j3, ⟨by rw [h743.1]; omega, by have := h743.2; omega⟩, Or.inr ⟨R2, e239, h742, fun x1 => zb_car_b hr pf2 h742 hb h872 hg hk h743.1 h239⟩⟩⟩
        refine lp3_map (X := some C5) ?_
        unfold fn_84_34
        have h69 : fn_84_69 cn (cn / 3 + 1) (fn_84 cn (cn / 3 + 1) n) v (b : Int) (zb_cf C0 H g 1) C2 = some C5 := by
          unfold fn_84_69
          rw [if_pos (by rw [hcut.2.1]; decide), j1]; rfl
        rw [h69, if_neg (by decide), if_pos (by rw [hcut.2.1]; decide)]
    · refine part 0 (Or.inl ⟨rfl, hnp⟩) e5 ?_ ?_
      · show fb_84 cn (cn / 3 + 1) (fn_84 cn (cn / 3 + 1) n) v (b : Int) C = _
        unfold fb_84
        rw [e4 C c18, Option.bind_some, if_pos rfl]
      · unfold fn_239
        rw [e5 R r62, Option.bind_some, if_pos rfl]
end OU
section OU
variable {C0 R0 C R C' R' M : eM} {H : zb_Hp} {cn N k b : Nat} {lam : Nat → Prop} {scp : Nat → Nat → Prop} {L B' : Nat → Nat}
theorem zb_close_l {x1 s1 s2 : Int} {m : Nat} (hm : m < 1000) : ∀ (d i : Nat) (R : eM), m - i = d → i ≤ m → R 45 74 = (m : Int) → lp (fun z => fn_238_111 x1 s1 s2 z.1 z.2) ((i : Int), R) = (zb_adR (List.replicate (m - i) 41) R).bind (fn_240 10) := by
  intro d
  induction d with
  | zero =>
    intro i R hd hi h74
    rw [hd]
    show _ = fn_240 10 R
    have e : fn_238_111 x1 s1 s2 (i : Int) R = (fn_240 10 R).bind fun m12 => some (.inr m12) := by unfold fn_238_111; rw [h74, if_pos (by omega)]
    cases h : fn_240 10 R with
    | none => rw [h] at e; exact lp_none e
    | some q => rw [h] at e; exact lp2_inr e
  | succ d ih =>
    intro i R hd hi h74
    rw [hd, List.replicate_succ]
    have e : fn_238_111 x1 s1 s2 (i : Int) R = (fn_240 41 R).bind fun m15 => some (.inl (((i + 1 : Nat) : Int), m15)) := by unfold fn_238_111; rw [h74, if_neg (by omega), zb_wi_1 (by omega)]
    show _ = ((fn_240 41 R).bind (zb_adR (List.replicate d 41))).bind (fn_240 10)
    cases h : fn_240 41 R with
    | none => rw [h] at e; exact lp_none e
    | some q =>
      rw [h, Option.bind_some] at e
      rw [lp2_inl e, Option.bind_some]
      have q74 : q 45 74 = (m : Int) := by
        unfold fn_240 at h
        split at h
        · split at h
          · rw [← Option.some.inj h, eg_u_nj (by decide), eg_u_ne (by decide)]; exact h74
          · cases h
        · rw [← Option.some.inj h]; exact h74
      have := ih (i + 1) q (by omega) (by omega) q74
      rw [show m - (i + 1) = d by omega] at this
      exact this
theorem zb_lpq_0 {x1 ph : Int} {m : Nat} (hm : m < 1000) (h74 : R 45 74 = (m : Int)) : zb_LPQ x1 0 ph R = (zb_adR (List.replicate m 41) R).bind (fn_240 10) := by
  refine (lp3_map (X := _) ?_).trans (zb_close_l (x1 := x1) (s1 := 0) (s2 := ph) hm m 0 R (by omega) (by omega) h74)
  unfold fn_238_22
  rw [if_pos rfl]; rfl
theorem zb_lpq_1 {x1 ph : Int} (h74 : R 45 74 = 0) : zb_LPQ x1 1 ph R = fn_240 10 R := by
  refine (lp3_map (X := _) ?_).trans (zb_close_l (x1 := x1) (s1 := 1) (s2 := ph) (m := 0) (by decide) 0 0 R (by omega) (by omega) h74)
  unfold fn_238_22
  rw [if_neg (by decide), h74, if_pos (by decide)]; rfl
theorem zb_prt_ok {v w : Int} (hr : zb_HR C R H cn N lam scp) (zb_nm : zb_NM C R N L B') (hv : zb_VR (zb_vo H) (zb_hP H) N v w) (ho : zb_OUT C R) : ∃ C' R', fn_83 cn (cn / 3 + 1) v C = some C' ∧ fn_238 w R = some R' ∧ zb_OUT C' R' ∧ zb_PF C R C' R' := by
  have hN := zb_nm.1.2.2.2
  obtain ⟨C1, hC1⟩ : ∃ X, X = eg_u (eg_u C 26 5 0) 26 6 0 := ⟨_, rfl⟩
  obtain ⟨R1, hR1⟩ : ∃ X, X = eg_u (eg_u R 45 73 0) 45 74 0 := ⟨_, rfl⟩
  have ps : zb_PRS C R C1 R1 0 0 := by
    refine ⟨?_, ⟨by rw [hC1, eg_u_nj (by decide), eg_u_eq]; rfl, by rw [hR1, eg_u_nj (by decide), eg_u_eq]; rfl, by decide⟩, by rw [hC1, eg_u_eq], by rw [hR1, eg_u_eq]; rfl, fun c a b d => by rw [hC1, eg_u_ne a, eg_u_ne a], fun c a b d => by rw [hR1, eg_u_ne a, eg_u_ne a], fun f a b d => by rw [hR1, eg_u_nj (by omega), eg_u_nj (by omega)], by rw [hC1, eg_u_nj (by decide), eg_u_nj (by decide)]⟩
    rw [hC1, hR1]
    exact (zb_out_u (f := 5) (v := 0) (zb_out_u (f := 5) (v := 0) (zb_out_u (g := 0) (w := 0) (zb_out_u (g := 0) (w := 0) ho (by decide) (by decide)).1 (by decide) (by decide)).1 (by decide) (by decide)).2 (by decide) (by decide)).2
  obtain ⟨C2, e84, hw⟩ := zb_wr_ok hr zb_nm 12 0 (by omega) (by omega) v w C1 R1 0 hv ps
  have e83 : fn_83 cn (cn / 3 + 1) v C = (fn_85 10 C2).bind fun m6 => some m6 := by
    unfold fn_83
    rw [← hC1, show fn_84 cn (cn / 3 + 1) 12 v 0 C1 = some C2 from e84, Option.bind_some]
  have e238 : ∀ f R2, fn_239 w R1 = some (f, R2) → R2 62 = R 62 → (fn_238 w R = zb_LPQ w f 0 R2 ∧ R2 45 74 ≠ 0) ∨ (∃ ph, fn_238 w R = zb_LPQ w f ph R2) := fun f R2 h h62 => by
    by_cases h0 : R2 45 74 = 0
    · refine Or.inr ?_
      unfold fn_238
      rw [← hR1, h, Option.bind_some]
      rcases zb_pair_w hr hN hv with ⟨g, hg, hk, e1, e2, e3, e4, e5⟩ | ⟨hnp, e4, e5⟩
      · rw [e5 R2 h62, Option.bind_some, if_neg (by decide), if_neg (fun z => z h0)]; exact ⟨1, rfl⟩
      · rw [e5 R2 h62, Option.bind_some, if_pos rfl]; exact ⟨0, rfl⟩
    · refine Or.inl ⟨?_, h0⟩
      unfold fn_238
      rw [← hR1, h, Option.bind_some]
      rcases zb_pair_w hr hN hv with ⟨g, hg, hk, e1, e2, e3, e4, e5⟩ | ⟨hnp, e4, e5⟩
      · rw [e5 R2 h62, Option.bind_some, if_neg (by decide), if_pos h0]; rfl
      · rw [e5 R2 h62, Option.bind_some, if_pos rfl]; rfl
  have h239f : ∀ f R2, fn_239 w R1 = some (f, R2) → R2 62 = R 62 := fun f R2 h => by
    have e : R2 62 = R1 62 := funext fun j => fw_239 (c := 62) h (by decide) j
    rw [e]; exact ps.2.2.2.2.2.1 62 (by decide) (by decide) (by decide)
  rcases hw with ⟨R3, k3, ps3, hk3, h873, h239⟩ | ⟨R3, R4, m, had, hcut, h743, h239⟩
  · obtain ⟨C5, R5, a1, a2, ps5, _⟩ := zb_prs_add ps3 (a := 10) (by decide)
    refine ⟨C5, R5, by rw [e83, a1]; rfl, ?_, ps5.1, ps5.2.2.2.2⟩
    rcases h239 with h | ⟨R2, h1, h2, h3⟩
    · rcases e238 _ _ h (h239f _ _ h) with ⟨e, z⟩ | ⟨ph, e⟩
      · exact absurd ps3.2.2.2.1 z
      · rw [e, zb_lpq_1 ps3.2.2.2.1, a2]
    · rcases e238 _ _ h1 (h239f _ _ h1) with ⟨e, z⟩ | ⟨ph, e⟩
      · rw [e, h3 w, zb_lpq_1 ps3.2.2.2.1, a2]
      · by_cases hph : R2 45 74 = 0
        · rw [h2] at hph; omega
        · unfold fn_238 at e ⊢
          rw [← hR1, h1, Option.bind_some] at e ⊢
          rcases zb_pair_w hr hN hv with ⟨g, hg, hk, e1, e2, e3, e4, e5⟩ | ⟨hnp, e4, e5⟩
          · rw [e5 R2 (h239f _ _ h1), Option.bind_some, if_neg (by decide), if_pos hph]
            exact (h3 w).trans (by rw [zb_lpq_1 ps3.2.2.2.1, a2])
          · rw [e5 R2 (h239f _ _ h1), Option.bind_some, if_pos rfl]
            exact (h3 w).trans (by rw [zb_lpq_1 ps3.2.2.2.1, a2])
  · obtain ⟨C5, R5, a1, a2, o1, f1, f2⟩ := zb_out_add hcut.1 (a := 10) (by decide)
    have h74m : R3 45 74 = (m : Int) := by rw [h743.1]; omega
    have hm : m < 1000 := by have := h743.2; omega
    have fin : ∀ ph, zb_LPQ w 0 ph R3 = some R5 := fun ph => by rw [zb_lpq_0 hm h74m, had, Option.bind_some, a2]
    refine ⟨C5, R5, by rw [e83, a1]; rfl, ?_, o1, zb_pf_f hcut.2.2.2 f1 f2⟩
    rcases h239 with ⟨h, hm0⟩ | ⟨R2, h1, h2, h3⟩
    · rcases e238 _ _ h (h239f _ _ h) with ⟨e, z⟩ | ⟨ph, e⟩
      · rw [e, fin]
      · rw [e, fin]
    · obtain ⟨ph, hph⟩ := h3 w
      rcases e238 _ _ h1 (h239f _ _ h1) with ⟨e, z⟩ | ⟨ph2, e⟩
      · rw [e, hph, fin]
      · have h20 : R2 45 74 ≠ 0 := by rw [h2]; decide
        unfold fn_238
        rw [← hR1, h1, Option.bind_some]
        rcases zb_pair_w hr hN hv with ⟨g, hg, hk, e1, e2, e3, e4, e5⟩ | ⟨hnp, e4, e5⟩
        · rw [e5 R2 (h239f _ _ h1), Option.bind_some, if_neg (by decide), if_pos h20]
          exact hph.trans (fin ph)
        · rw [e5 R2 (h239f _ _ h1), Option.bind_some, if_pos rfl]
          exact hph.trans (fin ph)
end OU
section PRM
variable {B : zb_Bs} {Q : zb_Pq} {Z sp0 zb_sp : Nat} {C R C' R' C3 R3 M : eM} {H H' : zb_Hp} {rl ql rl' ql' : List (Nat × Nat)} {fd fd' fu p n : Nat} {l : List zb_Rec} {r : zb_Rec} {a' : Int}
theorem zb_gs_out (g : zb_GS B C R H rl ql fd) (o : zb_OUT C' R') (p : zb_PF C R C' R') : zb_GS B C' R' H rl ql fd := by
  obtain ⟨g1, g2, g3, ⟨L, B', g4⟩, g5, g6, g7, g8, g9⟩ := g
  have hc := p.1
  have hr := p.2.1
  have hf := p.2.2.1
  refine ⟨zb_prs_hr g1 p, zb_fr_congr g2 (fun f _ => by rw [hc 21 (by decide) (by decide) (by decide)]) (fun c h => hc c (by revert h; simp; omega) (by revert h; simp; omega) (by revert h; simp; omega)) (fun f h => hf f (by revert h; simp; omega) (by revert h; simp; omega) (by revert h; simp; omega)) (fun c h => hr c (by revert h; simp; omega) (by revert h; simp; omega) (by revert h; simp; omega)),
    zb_rows_congr g3 (fun c h => hc c (by revert h; simp; omega) (by revert h; simp; omega) (by revert h; simp; omega)) (fun c h => hr c (by revert h; simp; omega) (by revert h; simp; omega) (by revert h; simp; omega)),
    ⟨L, B', zb_nm_congr g4 (hc 1 (by decide) (by decide) (by decide)) (hc 2 (by decide) (by decide) (by decide)) (hc 3 (by decide) (by decide) (by decide)) (hf 7 (by decide) (by decide) (by decide)) (hr 47 (by decide) (by decide) (by decide)) (hr 48 (by decide) (by decide) (by decide))⟩, fun m hm => ?_, by rw [hc 38 (by decide) (by decide) (by decide), hf 43 (by decide) (by decide) (by decide)]; exact g6, o, fun y hy => ?_, by rw [hc 15 (by decide) (by decide) (by decide)]; exact g9.1, fun h hh => by rw [hc 15 (by decide) (by decide) (by decide), hc 20 (by decide) (by decide) (by decide)]; exact g9.2 h hh⟩
  · rw [hc 37 (by decide) (by decide) (by decide), hr 72 (by decide) (by decide) (by decide)]; exact g5 m hm
  · unfold zb_cl; rw [hc 16 (by decide) (by decide) (by decide)]; exact g8 y hy
set_option maxHeartbeats 1000000 in
theorem zb_prim_print (h : zb_PCX B C R H rl ql fd fu r l p n Z sp0 zb_sp) (hp : p = 33) : zb_PRES B Q Z sp0 zb_sp C R l n a' := by
  by_cases hn : zb_arl.getD p 0 = n
  rotate_left
  · exact zb_pr_count h hn
  subst hp
  have hn2 : n = 1 := by rw [← hn]; rfl
  subst hn2
  have hl := zb_pc_len h
  have v1 := zb_pc_vr h (j := 0) (by omega)
  simp only [Nat.zero_add, Nat.add_zero, Nat.reduceAdd] at v1
  have se := zb_pc_se (a' := a') h
  have fl := se.1.2.2.2.1
  have gs := se.1.1
  obtain ⟨L, B', zb_nm⟩ := gs.2.2.2.1
  obtain ⟨C4, R4, e1, e2, o4, p4⟩ := zb_prt_ok (zb_gs_hr gs) zb_nm v1 gs.2.2.2.2.2.2.1
  have hc := zb_pc_1 (a' := a') (c := 120) h rfl (by decide) (zb_pc_kep h)
  rw [zb_d75_x, Option.bind_some, if_pos (by decide), zb_d79_33, e1, Option.bind_some, Option.bind_some] at hc
  have hr : fn_226 ((33 : Nat) : Int) ((zb_bb l + 1 : Nat) : Int) R = some (0, eg_u R4 45 70 12884901888) := by
    have e0 : fn_226 ((33 : Nat) : Int) ((zb_bb l + 1 : Nat) : Int) R = fn_237 33 ((zb_bb l + 1 : Nat) : Int) R := by
      show fn_226 33 _ R = _
      unfold fn_226; rw [if_pos (by decide), if_pos (by decide), if_pos (by decide), zb_bpair]
    rw [e0]
    unfold fn_237
    rw [if_pos (by decide), if_pos (by omega), if_neg (fun z => z rfl), Int.toNat_natCast, e2]; rfl
  have c4o := p4.1
  have c43 : C4 43 4 = 0 ∧ C4 43 5 = 0 := by rw [c4o 43 (by decide) (by decide) (by decide)]; exact ⟨fl.1.2.1, fl.1.2.2.1⟩
  have c15 : C4 15 11 = 0 ∧ C4 15 12 = 0 := by rw [c4o 15 (by decide) (by decide) (by decide)]; exact ⟨fl.1.2.2.2.1, fl.1.2.2.2.2⟩
  refine zb_pr_val (C3 := C4) (R3 := eg_u R4 45 70 12884901888) (v := 4294967298) (w := 12884901888) (H' := H) (rl' := rl) (ql' := ql) (fd' := fd) h (by rw [hc, zb_fin_v c43.2 c43.1 c15.1]) (by rw [zb_pc_222 h rfl (by decide), hr]; rfl) ?_ (Or.inr (Or.inr (Or.inr (Or.inl ⟨rfl, rfl⟩)))) eg_u_eq
  refine zb_se_gs se (zb_gs_congr (zb_gs_out gs o4 p4) zb_QC_rfl (zb_QR_45 zb_QR_rfl (by decide))) (fun c hc => c4o c (by revert hc; simp; omega) (by revert hc; simp; omega) (by revert hc; simp; omega)) (by rw [c4o 44 (by decide) (by decide) (by decide)]; exact ⟨rfl, rfl, rfl⟩) c43 c15 (fun c hc => by rw [eg_u_ne (by revert hc; simp; omega), p4.2.1 c (by revert hc; simp; omega) (by revert hc; simp; omega) (by revert hc; simp; omega)]) (fun f hf => by rw [eg_u_nj (by revert hf; simp; omega), p4.2.2.1 f (by revert hf; simp; omega) (by revert hf; simp; omega) (by revert hf; simp; omega)]) ?_ (fun g hg => zb_trg_rfl hg)
  refine zb_bud_le se.2.2.1.2.2.2 ?_ ?_
  · rw [eg_u_nj (by decide), p4.2.2.1 42 (by decide) (by decide) (by decide)]
  · rw [eg_u_nj (by decide), p4.2.2.1 67 (by decide) (by decide) (by decide)]; exact Int.le_refl _
theorem zb_prok (hZ9 : Z ≤ 999990) : zb_PROK B Q Z := by
  intro sp0 zb_sp C R H rl ql fd fu r l p n a' h1 h2 h3 h4 h5 h6 h7 h8 h9 h10 h11 h12
  have h : zb_PCX B C R H rl ql fd fu r l p n Z sp0 zb_sp := ⟨⟨h1, h2, h3, h4, h5⟩, ⟨h6, h7, h8⟩, h9, h10, hZ9⟩
  show zb_PRES B Q Z sp0 zb_sp C R l n a'
  by_cases q0 : p < 7
  · exact zb_prim_num h q0
  by_cases q1 : p = 7
  · subst q1; exact zb_prim_eq h
  by_cases q2 : p = 8 ∨ p = 9 ∨ p = 10
  · exact zb_prim_pred h q2
  by_cases q3 : p = 11
  · exact zb_prim_cons h q3
  by_cases q4 : p = 12 ∨ p = 13 ∨ p = 21 ∨ p = 23 ∨ p = 24
  · exact zb_prim_get h q4
  by_cases q5 : p = 14 ∨ p = 15
  · exact zb_prim_setc h q5
  by_cases q6 : p = 16
  · exact zb_prim_vnew h q6
  by_cases q7 : p = 17 ∨ p = 18
  · exact zb_prim_vec h q7
  by_cases q8 : p = 19
  · subst q8; exact zb_prim_vsize h
  by_cases q9 : p = 20
  · exact zb_prim_weak h q9
  by_cases q10 : p = 22
  · exact zb_prim_eph h q10
  by_cases q11 : p = 25
  · exact zb_prim_table h q11
  by_cases q12 : p = 26
  · exact zb_prim_tput h q12
  by_cases q13 : p = 27
  · exact zb_prim_tget h q13
  by_cases q14 : p = 28
  · exact zb_prim_tsize h q14
  by_cases q15 : p = 29
  · exact zb_prim_fin h q15
  by_cases q16 : p = 30
  · subst q16; exact zb_prim_hash h
  by_cases q17 : p = 31
  · subst q17; exact zb_prim_gc h h11
  by_cases q18 : p = 32
  · subst q18; exact zb_prim_cells h
  exact zb_prim_print h (by omega)
end PRM
