def zb_RWS (C R C' R' : eM) (S : Nat) : Prop := ∀ c, c < S → (C' 4 c = C 4 c ∧ C' 5 c = C 5 c ∧ C' 6 c = C 6 c) ∧ (R' 49 c = R 49 c ∧ R' 50 c = R 50 c ∧ R' 51 c = R 51 c ∧ R' 52 c = R 52 c ∧ R' 53 c = R 53 c ∧ R' 54 c = R 54 c ∧ R' 55 c = R 55 c)
theorem zb_vk_mono {zb_cv rk zb_rv : Int} {N N' : Nat} (h : zb_vk zb_cv rk zb_rv N) (hN : N ≤ N') : zb_vk zb_cv rk zb_rv N' := by
  rcases h with h | h | h | ⟨a, b, c, d⟩ | h
  · exact Or.inl h
  · exact Or.inr (Or.inl h)
  · exact Or.inr (Or.inr (Or.inl h))
  · exact Or.inr (Or.inr (Or.inr (Or.inl ⟨a, b, by omega, d⟩)))
  · exact Or.inr (Or.inr (Or.inr (Or.inr h)))
theorem zb_pg_mono {C R C' R' : eM} {F S N N' : Nat} {D E : Nat → Nat} (h : zb_PG C R F S N D E) (hw : zb_RWS C R C' R' S) (hN : N ≤ N') (h21 : R' 45 21 = R 45 21) (h22 : R' 45 22 = R 45 22) : zb_PG C' R' F S N' D E := by
  obtain ⟨hb, ⟨ht, htp⟩, hd⟩ := h
  refine ⟨hb, ⟨fun c h1 h2 => ?_, ?_⟩, fun c h1 h2 => ?_⟩
  · obtain ⟨a1, a2, a3, a4, a5, k1, k2, k3, k4, k5, k6⟩ := ht c h1 h2
    obtain ⟨w1, w49, w50, w51, w52, w53, w54, w55⟩ := hw c h2
    refine ⟨a1, a2, a3, a4, a5, by rw [w53]; exact k1, by rw [w51]; exact k2, ?_, by rw [w55]; exact k4, fun z => ?_, fun z1 z2 => ?_⟩
    · unfold zb_LS at k3 ⊢; rw [w52]; exact k3
    · rw [(hw (c + 1) (by omega)).2.2.2.2.2.2.1]; exact k5 z
    · rw [(hw (E c) z1).2.2.2.2.2.2.1]; exact k6 z1 z2
  · rcases htp with ⟨z1, z2, z3⟩ | ⟨z1, z2, z3, z4, l, z5⟩
    · exact Or.inl ⟨z1, by rw [h21]; exact z2, by rw [h22]; exact z3⟩
    · exact Or.inr ⟨z1, by rw [h21]; exact z2, z3, by rw [(hw F z1).2.2.2.2.2.2.1]; exact z4, l, by rw [h22]; exact z5⟩
  · obtain ⟨d1, d2, d3, d4, d5⟩ := hd c h1 h2
    obtain ⟨⟨w4, zb_w5, w6⟩, w49, w50, _⟩ := hw c h2
    exact ⟨by rw [w6]; exact d1, by rw [zb_w5]; exact d2, by rw [w4, w49, w50]; exact zb_vk_mono d3 hN, by rw [w49]; exact d4, d5⟩
theorem zb_ph_mono {C R C' R' : eM} {F S N N' : Nat} {D E : Nat → Nat} (h : zb_PH C R F S N D E) (hw : zb_RWS C R C' R' S) (hN : N ≤ N') : zb_PH C' R' F S N' D E := by
  obtain ⟨R1, h1, h2⟩ := h
  refine ⟨fun c => if c = 45 then R1 45 else R' c, fun c hc => if_neg hc, zb_pg_mono h2 (fun c hc => ?_) hN rfl rfl⟩
  obtain ⟨w1, w49, w50, w51, w52, w53, w54, w55⟩ := hw c hc
  refine ⟨w1, ?_, ?_, ?_, ?_, ?_, ?_, ?_⟩
  · show R' 49 c = _; rw [w49, h1 49 (by decide)]
  · show R' 50 c = _; rw [w50, h1 50 (by decide)]
  · show R' 51 c = _; rw [w51, h1 51 (by decide)]
  · show R' 52 c = _; rw [w52, h1 52 (by decide)]
  · show R' 53 c = _; rw [w53, h1 53 (by decide)]
  · show R' 54 c = _; rw [w54, h1 54 (by decide)]
  · show R' 55 c = _; rw [w55, h1 55 (by decide)]
section MON
variable {C R C' R' Cg : eM} {F S N N' T : Nat} {D E : Nat → Nat}
theorem zb_sp_eq {y : Nat} (h1 : R' 49 y = R 49 y) (h2 : R' 50 y = R 50 y) : zb_sp R' y ↔ zb_sp R y := by unfold zb_sp; rw [h1, h2]
theorem zb_fo_eq {d f : Nat} (h1 : R' 49 (d + 1) = R 49 (d + 1)) (h2 : R' 50 (d + 1) = R 50 (d + 1)) (h : zb_fo R d f) : zb_fo R' d f := by
  rcases h with ⟨a, b, c⟩ | ⟨a, b⟩
  · exact Or.inl ⟨a, (zb_sp_eq h1 h2).mpr b, by rw [h2]; exact c⟩
  · exact Or.inr ⟨a, fun z => b ((zb_sp_eq h1 h2).mp z)⟩
theorem zb_okB_eq (h : zb_PH C R F S N D E) (hw : ∀ c, c < S → R' 49 c = R 49 c ∧ R' 50 c = R 50 c) {y : Nat} (h1 : F ≤ y) (h2 : y < S) (hb : zb_okB R D E y) : zb_okB R' D E y ∧ y + 1 < S := by
  obtain ⟨b1, b2, b3⟩ := hb
  have := (zb_ph_ks h h1 h2).2.2.mp (by omega)
  have := zb_ph_o h h1 h2
  exact ⟨⟨by rw [(hw y h2).1]; exact b1, b2, by rw [(hw (y + 1) (by omega)).1]; exact b3⟩, by omega⟩
theorem zb_gv_mono (h : zb_PH C R F S N D E) (hw : ∀ c, c < S → R' 49 c = R 49 c ∧ R' 50 c = R 50 c) (hg : zb_GV Cg R F D E S) : zb_GV Cg R' F D E S := by
  intro y y1 y2
  obtain ⟨g1, g2⟩ := hg y y1 y2
  refine ⟨fun hc => ?_, fun hc => ?_⟩
  · rcases g1 hc with ⟨z1, z2⟩ | ⟨z1, z2, f, z3, z4, z5⟩
    · exact Or.inl ⟨by rw [(hw y y2).1]; exact z1, fun q => z2 ((zb_sp_eq (hw y y2).1 (hw y y2).2).mp q)⟩
    · have ho := zb_ph_o h y1 y2
      have h1 := hw (y + 1) (by omega)
      refine Or.inr ⟨by rw [(hw y y2).1]; exact z1, z2, f, zb_fo_eq h1.1 h1.2 z3, z4, ?_⟩
      have two : f < 10 → 2 ≤ zb_ks D E y → y + 2 < S ∧ F ≤ y + 2 := fun a b => by
        have := (zb_hd_at h y1 y2 z2 z3 a b).2.1
        have := zb_ph_in h y1 y2 this
        omega
      have hok := z4.1
      unfold zb_okb at hok
      rcases z5 with z | z | z | ⟨a, b, c, d⟩ | ⟨a, b, c, d⟩ | ⟨a, b, c, d⟩
      · exact Or.inl z
      · exact Or.inr (Or.inl z)
      · exact Or.inr (Or.inr (Or.inl z))
      · obtain ⟨t1, t2⟩ := two (by omega) (by omega)
        exact Or.inr (Or.inr (Or.inr (Or.inl ⟨a, by rw [(hw _ t1).1]; exact b, fun q => c ((zb_sp_eq (hw _ t1).1 (hw _ t1).2).mp q), d⟩)))
      · obtain ⟨t1, t2⟩ := two (by omega) (by omega)
        refine Or.inr (Or.inr (Or.inr (Or.inr (Or.inl ⟨a, by rw [(hw _ t1).1]; exact b, fun w w1 => ?_, d⟩))))
        obtain ⟨q1, q2, q3⟩ := c w w1
        have hwS := (zb_ph_in h t2 t1 w1).2.1
        refine ⟨by rw [(hw _ hwS).1]; exact q1, fun q => q2 ((zb_sp_eq (hw _ hwS).1 (hw _ hwS).2).mp q), q3.1, fun u u1 u2 => ?_⟩
        show R' 50 u ≠ R' 50 w
        rw [(hw u (by omega)).2, (hw w hwS).2]; exact q3.2 u u1 u2
      · obtain ⟨t1, t2⟩ := two (by omega) (by omega)
        exact Or.inr (Or.inr (Or.inr (Or.inr (Or.inr ⟨a, by rw [(hw _ t1).1]; exact b, c, d⟩))))
  · obtain ⟨l, l1, l2, l3, l4, v1, v2, v3, v4⟩ := g2 hc
    obtain ⟨o1, o2⟩ := zb_okB_eq h hw y1 y2 v1
    refine ⟨l, l1, l2, l3, l4, o1, fun q => v2 ((zb_sp_eq (hw _ o2).1 (hw _ o2).2).mp q), ⟨v3.1, fun u u1 u2 => ?_⟩, v4⟩
    show R' 50 (u + 1) ≠ R' 50 (y + 1)
    rw [(hw (u + 1) (by omega)).2, (hw (y + 1) o2).2]; exact v3.2 u u1 u2
theorem zb_RWS_le {S T : Nat} (h : zb_RWS C R C' R' S) (hT : T ≤ S) : zb_RWS C R C' R' T := fun c hc => h c (by omega)
theorem zb_px_mono {S' : Nat} (h : zb_PX C R N S F S' Cg D E) (hw : zb_RWS C R C' R' S) (hN : N ≤ N') (zb_hS : S ≤ T) : zb_PX C' R' N' T F S' Cg D E := by
  obtain ⟨h1, h2, h3⟩ := h
  exact ⟨zb_ph_mono h1 (zb_RWS_le hw h3) hN, zb_gv_mono h1 (fun c hc => ⟨(hw c (by omega)).2.1, (hw c (by omega)).2.2.1⟩) h2, by omega⟩
theorem zb_lam_mono (hw : zb_RWS C R C' R' S) (hN : N ≤ N') (zb_hS : S ≤ T) {d : Nat} (h : zb_lamW C R N S d) : zb_lamW C' R' N' T d := by
  obtain ⟨F, S', Cg, D, E, hx, h1, h2, hf, h4, hro⟩ := h
  have hS' := hx.2.2
  rcases (hx.2.1 d h1 h2).1 hro with ⟨z, _⟩ | ⟨_, h3, _⟩
  · exact absurd h4 z
  have ho := zb_ph_o hx.1 h1 h2
  exact ⟨F, S', Cg, D, E, zb_px_mono hx hw hN zb_hS, h1, h2, zb_fo_eq (hw (d + 1) (by omega)).2.1 (hw (d + 1) (by omega)).2.2.1 hf, by rw [(hw d (by omega)).2.1]; exact h4, hro⟩
theorem zb_lam_lt {d : Nat} (h : zb_lamW C R N S d) : d + 2 < S := by
  obtain ⟨F, S', Cg, D, E, hx, h1, h2, hf, h4, hro⟩ := h
  have hS' := hx.2.2
  rcases (hx.2.1 d h1 h2).1 hro with ⟨z, _⟩ | ⟨_, h3, f, z3, z4, z5⟩
  · exact absurd h4 z
  have hff : f = 4 := by
    rcases hf with ⟨a, b, c⟩ | ⟨a, b⟩
    · rcases z3 with ⟨a', b', c'⟩ | ⟨a', b'⟩
      · omega
      · exact absurd b b'
    · omega
  have hok := z4.1
  unfold zb_okb at hok
  have := (zb_hd_at hx.1 h1 h2 h3 z3 (by omega) (by omega)).2.1
  have := zb_ph_in hx.1 h1 h2 this
  omega
theorem zb_scp_mono (hw : zb_RWS C R C' R' S) (hN : N ≤ N') (zb_hS : S ≤ T) {d n : Nat} (h : zb_scpW C R N S d n) : zb_scpW C' R' N' T d n := by
  obtain ⟨F, S', Cg, D, E, hx, ⟨h1, h2, h3, h4, h5, h6, zb_lt, hm⟩, hn, hro⟩ := h
  have hS' := hx.2.2
  have ho := zb_ph_o hx.1 h1 h2
  have hE2 : ∀ b, zb_ch D E (d + 2) b → F ≤ b ∧ b < S' := fun b hb => by have := zb_ph_in hx.1 (show F ≤ d + 2 by omega) (show d + 2 < S' by omega) hb; omega
  have hq : ∀ c, c < S' → R' 49 c = R 49 c ∧ R' 50 c = R 50 c := fun c hc => ⟨(hw c (by omega)).2.1, (hw c (by omega)).2.2.1⟩
  refine ⟨F, S', Cg, D, E, zb_px_mono hx hw hN zb_hS, ⟨h1, h2, by rw [(hq d h2).1]; exact h3, h4, h5, by rw [(hq (d + 2) (by omega)).1]; exact h6, zb_lt, ?_⟩, hn, hro⟩
  have f1 := hq (d + 1) (by omega)
  rcases hm with ⟨a, b, c⟩ | ⟨a, b, c⟩
  · exact Or.inl ⟨a, zb_fo_eq f1.1 f1.2 b, fun x hx2 => ⟨(zb_okB_eq hx.1 hq (hE2 x hx2).1 (hE2 x hx2).2 (c x hx2).1).1, (c x hx2).2⟩⟩
  · exact Or.inr ⟨a, zb_fo_eq f1.1 f1.2 b, fun x hx2 => ⟨by rw [(hq x (hE2 x hx2).2).1]; exact (c x hx2).1, (c x hx2).2⟩⟩
end MON
theorem zb_hr_mono {C R : eM} {H : zb_Hp} {cn N N' : Nat} {lam lam' : Nat → Prop} {scp scp' : Nat → Nat → Prop} (h : zb_HR C R H cn N lam scp) (hl : ∀ d, lam d → lam' d) (hs : ∀ d n, scp d n → scp' d n) (hN : N ≤ N') : zb_HR C R H cn N' lam' scp' := by
  obtain ⟨a, b, c, d, e⟩ := h
  refine ⟨a, b, fun x hx => ?_, d, e⟩
  obtain ⟨o1, o2, o3, o4, o5, o6, o7⟩ := c x hx
  refine ⟨o1, o2, o3, o4, fun j hj => ⟨(o5 j hj).1, fun z => zb_VR_mono ((o5 j hj).2 z) hN (fun _ q => ⟨q, rfl⟩)⟩, fun z => ?_, fun z => ?_⟩
  · obtain ⟨y, y1, y2⟩ := o6 z
    exact ⟨y, hl y y1, y2⟩
  · obtain ⟨y, y1, y2⟩ := o7 z
    exact ⟨y, hs y _ y1, y2⟩
theorem zb_rws_rows {C R C0 R0 C' R' : eM} {S : Nat} (h : zb_ROWS C R C0 R0) (hw : zb_RWS C R C' R' S) : zb_RWS C0 R0 C' R' S := by
  intro c hc
  obtain ⟨⟨a1, a2, a3⟩, b1, b2, b3, b4, b5, b6, b7⟩ := h
  rw [← a1, ← a2, ← a3, ← b1, ← b2, ← b3, ← b4, ← b5, ← b6, ← b7]
  exact hw c hc
theorem zb_gs_base {B : zb_Bs} {C R C' R' : eM} {H : zb_Hp} {rl ql : List (Nat × Nat)} {fd N' S' : Nat} (g : zb_GS B C R H rl ql fd) (hw : zb_RWS C R C' R' B.2.2.2.2) (hN : B.2.2.2.1 ≤ N') (hT : B.2.2.2.2 ≤ S') (hnm : ∃ L B', zb_NM C' R' N' L B')
    (c15 : ∀ f, f ∈ ([0, 6, 7, 8, 9, 10] : List Nat) → C' 15 f = C 15 f) (cc : ∀ c, c ∈ ([16, 17, 18, 19, 20, 21, 22, 23, 24, 25, 26, 27, 37, 38] : List Nat) → C' c = C c)
    (r45 : ∀ f, f ∈ ([27, 28, 29, 38, 41, 42, 43, 45, 48, 72] : List Nat) → R' 45 f = R 45 f) (rc : ∀ c, c ∈ ([62, 63, 64, 65, 66, 68, 69, 70, 71, 72, 73, 74, 75, 76, 86] : List Nat) → R' c = R c) : zb_GS (C', R', B.2.2.1, N', S') C' R' H rl ql fd := by
  obtain ⟨g1, g2, g3, g4, g5, g6, g7, g8, g9⟩ := g
  have hw0 := zb_rws_rows g3 hw
  have e16 := cc 16 (by decide)
  have hr1 : zb_HR C' R' H B.2.2.1 N' (zb_lamW C' R' N' S') (zb_scpW C' R' N' S') := zb_hr_mono (zb_hr_congr g1 c15 (fun c hc => cc c (by revert hc; simp; omega)) (fun f hf => r45 f (by revert hf; simp; omega)) (fun c hc => rc c (by revert hc; simp; omega))) (fun d hd => zb_lam_mono hw0 hN hT hd) (fun d n hd => zb_scp_mono hw0 hN hT hd) hN
  refine ⟨hr1, zb_fr_congr g2 (fun f hf => by rw [cc 21 (by decide)]) (fun c hc => cc c (by revert hc; simp; omega)) (fun f hf => r45 f (by revert hf; simp; omega)) (fun c hc => rc c (by revert hc; simp; omega)), ⟨⟨rfl, rfl, rfl⟩, rfl, rfl, rfl, rfl, rfl, rfl, rfl⟩, hnm, fun n hn => ?_, ?_, ?_, fun x hx => ?_, ⟨?_, ?_⟩, fun h hh => ?_⟩
  · rw [cc 37 (by decide), rc 72 (by decide)]
    rcases g5 n hn with ⟨z1, z2⟩ | z
    · exact Or.inl ⟨show n < N' by omega, zb_VR_mono z2 hN (fun _ q => ⟨q, rfl⟩)⟩
    · exact Or.inr z
  · rw [cc 38 (by decide), r45 43 (by decide)]; exact g6
  · exact zb_out_congr g7 (cc 26 (by decide)) (cc 27 (by decide)) (r45 72 (by decide)) (rc 86 (by decide))
  · obtain ⟨k1, d, k2, k3⟩ := g8 x hx
    refine ⟨k1, d, by unfold zb_cl at k2 ⊢; rw [e16]; exact k2, ?_⟩
    have hmem := (g2.2.2.2.2.2 x hx).2.1
    obtain ⟨d', l1, l2, l3⟩ := (g1.2.2.1 x.2 hmem).2.2.2.2.2.1 k1
    have hd : d = d' := by unfold zb_cl at k2; rw [l2] at k2; omega
    have hlt := zb_lam_lt l1
    show R' 55 (d + 2) = 1
    rw [(hw0 (d + 2) (by omega)).2.2.2.2.2.2.2]; exact k3
  · rw [c15 10 (by decide)]; exact g9.1.1
  · show C' 15 10 ≤ R' 45 42 + 20000
    rw [c15 10 (by decide), r45 42 (by decide), g1.2.2.2.2]; omega
  · rw [c15 10 (by decide), cc 20 (by decide)]; exact g9.2 h hh
theorem zb_gs_congr0 {B : zb_Bs} {C R C' : eM} {H : zb_Hp} {rl ql : List (Nat × Nat)} {fd : Nat} (g : zb_GS B C R H rl ql fd) (c1 : ∀ c, c ∉ zb_CC → c ≠ 15 → C' c = C c) (c2 : ∀ f, f ≠ 11 → f ≠ 12 → C' 15 f = C 15 f) : zb_GS B C' R H rl ql fd := by
  obtain ⟨g1, g2, g3, ⟨L, B', g4⟩, g5, g6, g7, g8, g9⟩ := g
  refine ⟨zb_hr_congr g1 (fun f hf => c2 f (by revert hf; simp; omega) (by revert hf; simp; omega)) (fun c hc => c1 c (by revert hc; simp [zb_CC]; omega) (by revert hc; simp; omega)) (fun f hf => rfl) (fun c hc => rfl),
    zb_fr_congr g2 (fun f hf => by rw [c1 21 (by decide) (by decide)]) (fun c hc => c1 c (by revert hc; simp [zb_CC]; omega) (by revert hc; simp; omega)) (fun f hf => rfl) (fun c hc => rfl),
    zb_rows_congr g3 (fun c hc => c1 c (by revert hc; simp [zb_CC]; omega) (by revert hc; simp; omega)) (fun c hc => rfl),
    ⟨L, B', zb_nm_congr g4 (c1 1 (by decide) (by decide)) (c1 2 (by decide) (by decide)) (c1 3 (by decide) (by decide)) rfl rfl rfl⟩, fun n hn => ?_, ?_, zb_out_congr g7 (c1 26 (by decide) (by decide)) (c1 27 (by decide) (by decide)) rfl rfl, fun x hx => by unfold zb_cl; rw [c1 16 (by decide) (by decide)]; exact g8 x hx, by rw [c2 10 (by decide) (by decide)]; exact g9.1, fun h hh => by rw [c2 10 (by decide) (by decide), c1 20 (by decide) (by decide)]; exact g9.2 h hh⟩
  · rw [c1 37 (by decide) (by decide)]; exact g5 n hn
  · rw [c1 38 (by decide) (by decide)]; exact g6
def zb_RZ (R : eM) : Prop := R 45 53 = 0 ∧ R 45 51 = 0 ∧ R 45 59 = 0 ∧ R 45 68 = 0 ∧ R 45 62 = -1 ∧ R 45 63 = -1
theorem zb_start_sx {C R : eM} {cn N S : Nat} {H : zb_Hp} {rl ql : List (Nat × Nat)} {fd b : Nat} (g : zb_GS (C, R, cn, N, S) C R H rl ql fd) (hb : b ≤ 20000) (h67 : R 45 67 = (b : Int)) (hz : zb_RZ R) (h42 : R 45 42 ≤ 2000000000) :
    ∃ C1, fn_70 (b : Int) C = some C1 ∧ zb_SX (C, R, cn, N, S) C1 R H rl ql fd [] b := by
  obtain ⟨z1, z2, z3, z4, z5, z6⟩ := hz
  obtain ⟨C1, hC1⟩ : ∃ X, X = eg_u (eg_u (eg_u (eg_u (eg_fil (eg_u (eg_u (eg_u (eg_u C 44 7 (b : Int)) 44 8 0) 44 10 0) 29 0 0) 36 0 32 4294967298) 15 11 0) 15 12 0) 43 4 0) 43 5 0 := ⟨_, rfl⟩
  have c1 : ∀ c, c ∉ zb_CC → c ≠ 15 → C1 c = C c := fun c hc h15 => by
    have : c ≠ 44 ∧ c ≠ 29 ∧ c ≠ 36 ∧ c ≠ 43 := by revert hc; simp [zb_CC]; omega
    obtain ⟨q1, q2, q3, q4⟩ := this
    rw [hC1, eg_u_ne q4, eg_u_ne q4, eg_u_ne h15, eg_u_ne h15, ev_fil_ne q3, eg_u_ne q2, eg_u_ne q1, eg_u_ne q1, eg_u_ne q1]
  have c2 : ∀ f, f ≠ 11 → f ≠ 12 → C1 15 f = C 15 f := fun f f1 f2 => by
    rw [hC1, eg_u_ne (by decide), eg_u_ne (by decide), eg_u_nj (by omega), eg_u_nj (by omega), ev_fil_ne (by decide), eg_u_ne (by decide), eg_u_ne (by decide), eg_u_ne (by decide), eg_u_ne (by decide)]
  have e44 : C1 44 = (eg_u (eg_u (eg_u C 44 7 (b : Int)) 44 8 0) 44 10 0) 44 := by
    rw [hC1, eg_u_ne (by decide), eg_u_ne (by decide), eg_u_ne (by decide), eg_u_ne (by decide), ev_fil_ne (by decide), eg_u_ne (by decide)]
  refine ⟨C1, by rw [hC1]; rfl, ⟨zb_gs_congr0 g c1 c2, trivial, trivial, ⟨⟨?_, ?_, ?_, ?_, ?_⟩, ⟨z3, z5, z6⟩, fun i hi => ?_⟩, ?_, z1, z2⟩, ⟨?_, h67, hb⟩, ⟨?_, z4, Nat.zero_le _, ?_, h42⟩, trivial⟩
  · rw [e44]; rw [eg_u_nj (by decide), eg_u_eq]
  · rw [hC1, eg_u_nj (by decide), eg_u_eq]
  · rw [hC1, eg_u_eq]
  · rw [hC1, eg_u_ne (by decide), eg_u_ne (by decide), eg_u_nj (by decide), eg_u_eq]
  · rw [hC1, eg_u_ne (by decide), eg_u_ne (by decide), eg_u_eq]
  · rw [hC1, eg_u_ne (by decide), eg_u_ne (by decide), eg_u_ne (by decide), eg_u_ne (by decide)]
    unfold eg_fil
    exact if_pos ⟨rfl, Nat.zero_le _, by omega⟩
  · rw [hC1, eg_u_ne (by decide), eg_u_ne (by decide), eg_u_ne (by decide), eg_u_ne (by decide), ev_fil_ne (by decide), eg_u_eq]; rfl
  · rw [e44, eg_u_nj (by decide), eg_u_nj (by decide), eg_u_eq]
  · rw [e44, eg_u_eq]; rfl
  · show R 45 42 + R 45 67 + ((0 : Nat) : Int) ≤ R 45 42 + 20000
    omega
theorem zb_topd {C R Cg : eM} {cn N F S : Nat} {D E : Nat → Nat} (zb_pg : zb_PG C R F S N D E) (gv : zb_GV Cg R F D E S) (t2 : zb_T2 Cg F S D) : zb_TOPD (C, R, cn, N, S) S (fun d => F ≤ d ∧ D d = 0) := by
  intro d hd hdS
  obtain ⟨a1, a2, a3, a4, a5⟩ := zb_pg_o zb_pg hd.1 hdS
  have dr := zb_pg.2.2 d hd.1 hdS
  have lk := zb_pg_l zb_pg hd.1 hdS
  refine ⟨⟨F, S, Cg, D, E, ⟨⟨R, fun _ _ => rfl, zb_pg⟩, gv, Nat.le_refl _⟩, hd.1, hdS, t2 d hd.1 hdS hd.2, Or.inr rfl⟩, E d, dr.2.1, a1, a2, ?_⟩
  show (E d < S ∧ (F ≤ E d ∧ D (E d) = 0) ∧ R 53 d = (E d : Int)) ∨ (E d = S ∧ R 53 d = -1)
  have h53 := lk.1
  by_cases h : E d < S
  · have := a4 h
    have hz := hd.2
    refine Or.inl ⟨h, ⟨by omega, by omega⟩, ?_⟩
    rw [h53, if_pos ⟨h, by omega⟩]
  · refine Or.inr ⟨by omega, ?_⟩
    rw [h53, if_neg (fun z => h z.1)]
theorem zb_run_prog {C R Cg : eM} {cn N F S : Nat} {D E : Nat → Nat} {H : zb_Hp} {rl ql : List (Nat × Nat)} {fd b : Nat} (zb_pg : zb_PG C R F S N D E) (gv : zb_GV Cg R F D E S) (t2 : zb_T2 Cg F S D) (g : zb_GS (C, R, cn, N, S) C R H rl ql fd) (hb : b ≤ 20000) (h67 : R 45 67 = (b : Int)) (hz : zb_RZ R) (h42 : R 45 42 ≤ 2000000000) :
    zb_PGO (C, R, cn, N, S) (fn_69 cn (cn / 3 + 1) (F : Int) (S : Int) (b : Int) C) (fn_183 R) := by
  obtain ⟨C1, e1, sx⟩ := zb_start_sx g hb h67 hz h42
  have e69 : fn_69 cn (cn / 3 + 1) (F : Int) (S : Int) (b : Int) C = zb_CL cn ((F : Int), (S : Int), (b : Int), (F : Int), 0) ((0 : Nat) : Int) C1 := by
    unfold fn_69; rw [e1]; rfl
  rw [e69]
  unfold fn_183
  have hbd := zb_pg.1
  rcases zb_pg.2.1.2 with ⟨p1, p2, _⟩ | ⟨p1, p2, p3, _⟩
  · rw [p2]
    have fl := sx.1.2.2.2.1
    refine Or.inl ⟨C1, R, H, rl, ql, fd, b, zb_cl_fin fl.1.1 (by decide) sx.1.2.2.2.2.1 (by omega), lp2_inr ?_, sx⟩
    unfold fn_183_3; rw [if_pos (by decide)]
  · rw [p2]
    exact zb_prog_ok (B := (C, R, cn, N, S)) (by omega) (zb_topd zb_pg gv t2) (S - F) F 0 C1 R H rl ql fd b (Nat.le_refl _) p1 ⟨Nat.le_refl _, p3⟩ sx (by omega)
