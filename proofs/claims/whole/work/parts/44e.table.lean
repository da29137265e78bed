def zb_XT (C : eM) (H : zb_Hp) (C' : eM) (H' : zb_Hp) : Prop := ∀ t e, t ∈ zb_hO H' → zb_hK H t = 7 → e ∈ zb_hE H' t → e ∈ zb_hO H' → e ∈ zb_hE H t ∧ zb_cl C' H' e 1 = zb_cl C H e 1
section GC2
variable {C R : eM} {H : zb_Hp} {cn N top sk zb_fo bn fd : Nat} {lam : Nat → Prop} {scp : Nat → Nat → Prop} {rl ql : List (Nat × Nat)}
set_option maxHeartbeats 4000000 in
theorem zb_collect2 (hr : zb_HR C R H cn N lam scp) (hN : N ≤ 444) (zb_fr : zb_FRel C R H rl ql fd) (h11 : C 38 11 = ((cn / 3 + 1 : Nat) : Int)) (zb_rv : zb_RV0 C H N top) (rr : zb_RR0 R H sk zb_fo bn N) (hal : ∀ g, g ∈ zb_hO H → (zb_RT0C C N top g ↔ zb_RT0R R H sk zb_fo bn N g)) (h67 : 100 ≤ R 45 67) :
    ∃ (C' R' : eM) (H' : zb_Hp) (rl' ql' : List (Nat × Nat)), zb_XT C H C' H' ∧ fn_132 cn (cn / 3 + 1) C = some C' ∧ fn_197 R = some (1, R') ∧ zb_HR C' R' H' cn N lam scp ∧ zb_FRel C' R' H' rl' ql' fd ∧ (∀ x, x ∈ rl' ++ ql' → x ∈ rl ++ ql) ∧ rl'.length + ql'.length = rl.length + ql.length
      ∧ (∀ h, zb_hK H' h = zb_hK H h ∧ zb_hZ H' h = zb_hZ H h ∧ zb_hP H' h = zb_hP H h) ∧ (∀ h, h ∈ zb_hO H' → h ∈ zb_hO H) ∧ (∀ g, g ∈ zb_hO H → zb_RT0C C N top g → g ∈ zb_hO H')
      ∧ (∀ h i, h ∈ zb_hO H' → zb_hK H h ≤ 4 → i < zb_hZ H h → zb_cl C' H' h i = zb_cl C H h i)
      ∧ C' 38 5 = eg_wi (C 38 5 + 1) ∧ (∀ f, f ≠ 5 → f ≠ 8 → C' 38 f = C 38 f) ∧ (∀ f, f ≠ 6 → f ≠ 7 → f ≠ 9 → C' 15 f = C 15 f) ∧ (∀ c, c ∉ ([15, 16, 17, 18, 21, 22, 23, 24, 25, 38, 39, 40, 41, 42] : List Nat) → C' c = C c)
      ∧ R' 45 67 = eg_wi (R 45 67 - 100) ∧ R' 45 43 = eg_wi (R 45 43 + 1) ∧ (∀ f, f ∉ ([28, 29, 38, 41, 43, 45, 48, 64, 67] : List Nat) → R' 45 f = R 45 f) ∧ (∀ c, c ∉ ([45, 67, 68, 69, 70, 71, 73, 74, 75, 76, 85] : List Nat) → R' c = R c) := by
  have c0a : ∀ c, c ≠ 38 → (eg_u C 38 5 (eg_wi (C 38 5 + 1))) c = C c := fun c hc => eg_u_ne hc
  have c0b : ∀ f, f ≠ 5 → (eg_u C 38 5 (eg_wi (C 38 5 + 1))) 38 f = C 38 f := fun f hf => by simp [eg_u, hf]
  have c0c : (eg_u C 38 5 (eg_wi (C 38 5 + 1))) 38 5 = eg_wi (C 38 5 + 1) := by simp [eg_u]
  have r0a : ∀ c, c ≠ 45 → (eg_u (eg_u R 45 67 (eg_wi (R 45 67 - 100))) 45 43 (eg_wi (R 45 43 + 1))) c = R c := fun c hc => by rw [eg_u_ne hc, eg_u_ne hc]
  have r0b : ∀ f, f ≠ 67 → f ≠ 43 → (eg_u (eg_u R 45 67 (eg_wi (R 45 67 - 100))) 45 43 (eg_wi (R 45 43 + 1))) 45 f = R 45 f := fun f h1 h2 => by simp [eg_u, h1, h2]
  have r0c : (eg_u (eg_u R 45 67 (eg_wi (R 45 67 - 100))) 45 43 (eg_wi (R 45 43 + 1))) 45 67 = eg_wi (R 45 67 - 100) := by simp [eg_u]
  have r0d : (eg_u (eg_u R 45 67 (eg_wi (R 45 67 - 100))) 45 43 (eg_wi (R 45 43 + 1))) 45 43 = eg_wi (R 45 43 + 1) := by simp [eg_u]
  have fC : fn_132 cn (cn / 3 + 1) C = (fn_133 cn (cn / 3 + 1) (eg_u C 38 5 (eg_wi (C 38 5 + 1)))).bind fun m3 => (fn_144 cn (cn / 3 + 1) m3).bind fun m6 => (fn_146 (cn / 3 + 1) m6).bind fun m9 => if m9 21 6 ≤ m6 21 6 then (fn_147 cn (cn / 3 + 1) m9).bind fun m13 => some m13 else (fn_133 cn (cn / 3 + 1) m9).bind fun m16 => (fn_147 cn (cn / 3 + 1) m16).bind fun m19 => some m19 := rfl
  have fR : fn_197 R = (fn_198 (eg_u (eg_u R 45 67 (eg_wi (R 45 67 - 100))) 45 43 (eg_wi (R 45 43 + 1)))).bind fun m4 => lp (fun z => fn_197_25 z.1 z.2) (0, m4) := by
    unfold fn_197; rw [if_pos h67]
  generalize eg_u C 38 5 (eg_wi (C 38 5 + 1)) = C0 at c0a c0b c0c fC
  generalize eg_u (eg_u R 45 67 (eg_wi (R 45 67 - 100))) 45 43 (eg_wi (R 45 43 + 1)) = R0 at r0a r0b r0c r0d fR
  have hr0 : zb_HR C0 R0 H cn N lam scp := zb_hr_congr hr (fun f _ => by rw [c0a 15 (by decide)]) (fun c hc => c0a c (by intro e; subst e; simp at hc)) (fun f hf => r0b f (by intro e; subst e; simp at hf) (by intro e; subst e; simp at hf)) (fun c hc => r0a c (by intro e; subst e; simp at hc))
  have fr0 : zb_FRel C0 R0 H rl ql fd := zb_fr_congr zb_fr (fun f _ => by rw [c0a 21 (by decide)]) (fun c hc => c0a c (by intro e; subst e; simp at hc)) (fun f hf => r0b f (by intro e; subst e; simp at hf) (by intro e; subst e; simp at hf)) (fun c hc => r0a c (by intro e; subst e; simp at hc))
  obtain ⟨rvc, rve⟩ := zb_rv0_congr (C := C) (C' := C0) (H := H) (N := N) (top := top) (fun c hc => c0a c (by intro e; subst e; simp at hc))
  have rv0 := rvc zb_rv
  obtain ⟨rrc, rre⟩ := zb_rr0_congr (R := R) (R' := R0) (H := H) (sk := sk) (zb_fo := zb_fo) (bn := bn) (N := N) (fun c hc => r0a c (by intro e; subst e; simp at hc)) (fun f hf => r0b f (by intro e; subst e; simp at hf) (by intro e; subst e; simp at hf))
  have rr0 := rrc rr
  have hal0 : ∀ g, g ∈ zb_hO H → (zb_RT0C C0 N top g ↔ zb_RT0R R0 H sk zb_fo bn N g) := fun g hg => by rw [rve, rre]; exact hal g hg
  have h110 : C0 38 11 = ((cn / 3 + 1 : Nat) : Int) := by rw [c0b 11 (by decide)]; exact h11
  obtain ⟨⟨fl, hs, hH⟩, ⟨fs, fc, hQ⟩, _⟩ := id hr0
  have hlt : ∀ g, g ∈ zb_hO H → 1 ≤ g ∧ g < cn / 3 + 1 ∧ g < 20000 := fun g hg => by have := zb_hr_h hr0 hg; omega
  have hall : ∀ h, h ∈ zb_hO H → h < hs + 1 := fun h hh => by have := (hH.2.2.2.2.2.2 h).mp (List.mem_append_left _ hh); omega
  obtain ⟨L1, hL1⟩ : ∃ L1, L1 = zb_LV C0 H rl.length (fun g => zb_RT0C C0 N top g ∨ zb_QR ql g) := ⟨_, rfl⟩
  obtain ⟨M1, La, e133, ms, hLa⟩ := zb_find_live hr0 (zb_rgs_of fr0 h110) (zb_rtv_of fr0 rv0)
  rw [zb_LV_congr (fun g _ => zb_rtc_q fr0 g), ← hL1] at hLa
  obtain ⟨s1, s2, s3, s4, s5, s6, s7⟩ := ms
  have ltr1 : zb_LTR M1 H L1 := fun h hh => by
    have hx := hlt h hh
    rw [s5 h hx.1 hx.2.1]
    exact ⟨fun z => if_pos ((hLa h hh).mpr z), fun z => if_neg (fun q => z ((hLa h hh).mp q))⟩
  obtain ⟨m4, Lb, e198, q1, q2, q3, hLb⟩ := zb_reckon_ok hr0 (zb_rgr_of hr0 fr0) (zb_rrv_of fr0 rr0)
  rw [zb_LV_congr (fun g hg => (zb_rtr_q hr0 fr0 rfl rfl hg).trans (or_congr_left (hal0 g hg).symm)), ← hL1] at hLb
  have rlt1 : zb_RLT m4 H L1 := fun h hh => by
    rw [q3 h hh]
    exact ⟨fun z => if_pos ((hLb h hh).mpr z), fun z => if_neg (fun q => z ((hLb h hh).mp q))⟩
  have hHM1 : zb_HC M1 cn (zb_hO H) fl hs (zb_hU H) (zb_hS H) (zb_hZ H) (zb_hK H) := zb_hc_congr hH (fun f _ => by rw [s1 15 (by decide)]) (fun c hc => s1 c (by simp only [List.mem_cons, List.not_mem_nil, or_false] at hc ⊢; omega))
  obtain ⟨M2, e144, hH2, u2, clr⟩ := zb_clear_loop (M0 := M1) (Lp := L1) hr0 hN hH ltr1 (fun c c1 c2 c3 c4 c5 => s1 c (by simp [c1, c2, c3, c4, c5])) hs 1 M1 (Nat.le_refl _) (by omega) hHM1 (fun c _ => rfl) ⟨fun h i _ _ _ => by unfold zb_cl; rw [s1 16 (by decide)], fun h hh hx => by have := hlt h hh; omega, fun h hh hx => by have := hlt h hh; omega, fun h hh hx => by have := hlt h hh; omega⟩
  have hQ4 : zb_HQ m4 cn (zb_hU H) ((zb_hO H).map (zb_hP H)) fs fc (zb_hC H) := zb_hq_congr hQ (fun f hf => q2 f (by intro e; subst e; simp at hf)) (fun c hc => q1 c (by simp only [List.mem_cons, List.not_mem_nil, or_false] at hc ⊢; omega))
  obtain ⟨M2r, e25, hQ2, u2r, rclr⟩ := zb_rcl_loop (M0 := m4) (Lp := L1) hr0 hN rlt1 (fun c c1 c2 c3 => q1 c (by simp [c1, c2, c3])) 6700 0 m4 (by omega) hQ4 (fun c _ => rfl) ⟨fun h j _ _ _ => by unfold zb_rf; rw [q1 70 (by decide)], fun h hh hx => by omega, fun h hh hx => by omega, fun h hh hx => by omega⟩
  have hr2 : zb_HR M2 M2r (zb_Hcl C0 H L1) cn N lam scp := zb_hr_clear hr0 hH2 hQ2 clr rclr (by rw [u2 15 (by decide), s1 15 (by decide)]) (by rw [u2 20 (by decide), s1 20 (by decide)]) (by rw [u2r 62 (by decide), q1 62 (by decide)]) (by rw [u2r 64 (by decide), q1 64 (by decide)]) (by rw [u2r 66 (by decide), q1 66 (by decide)]) (by rw [u2r 45 (by decide), q2 42 (by decide)])
  have clx2 := zb_clx_of hr0 hall clr
  have ltr2 : zb_LTR M2 H L1 := fun h hh => by rw [u2 39 (by decide)]; exact ltr1 h hh
  have rlt2 : zb_RLT M2r H L1 := fun h hh => by rw [u2r 67 (by decide)]; exact rlt1 h hh
  obtain ⟨⟨f1, f2, f3, f4, f5, f6, f7⟩, r1, r2, r3, r4, r5⟩ := id fr0
  have c2c : ∀ c, c ∉ ([16, 38, 39, 40, 41, 42] : List Nat) → M2 c = C0 c := fun c hc => by
    simp only [List.mem_cons, List.not_mem_nil, or_false, not_or] at hc
    rw [u2 c hc.1, s1 c (by simp [hc])]
  have c2r : ∀ c, c ∉ ([45, 67, 70, 85] : List Nat) → M2r c = R0 c := fun c hc => by
    simp only [List.mem_cons, List.not_mem_nil, or_false, not_or] at hc
    rw [u2r c hc.2.2.1, q1 c (by simp [hc])]
  have c2f : ∀ f, f ≠ 64 → M2r 45 f = R0 45 f := fun f hf => by rw [u2r 45 (by decide), q2 f hf]
  have hqlen : ql.length + rl.length ≤ 500 := by omega
  obtain ⟨M3, e146, t1, t2, t3, t4, t5, t6⟩ := zb_rel_c (cn := cn) (fd := fd) (M0 := M2) hlt ltr2 (n := rl.length) (by omega) f4 rl [] ql 0 M2 (fun x hx => (r5 x (List.mem_append_left _ hx)).1.1) (fun i hi => absurd hi (by simp)) (zb_rowC_eq r1 (fun i _ => by rw [c2c 22 (by decide), c2c 23 (by decide)]; exact ⟨rfl, rfl⟩)) (by simp) (by omega) (zb_queC_eq r2 (fun i _ => by rw [c2c 24 (by decide), c2c 25 (by decide)]; exact ⟨rfl, rfl⟩)) (by rw [c2c 21 (by decide)]; exact f5) (by rw [c2c 21 (by decide)]; exact f1) (by rw [c2c 21 (by decide)]; exact f3) hqlen (fun c _ => rfl)
  obtain ⟨M3r, e95, v1, v2, v3, v4, v5, v6⟩ := zb_rel_r (M0 := M2r) (fun h hh => zb_hr_p hr0 hh) rlt2 (n := rl.length) (by omega) rl [] ql 0 M2r (fun x hx => (r5 x (List.mem_append_left _ hx)).1.1) (fun i hi => absurd hi (by simp)) (zb_rowR_eq r3 (fun i _ => by rw [c2r 73 (by decide), c2r 74 (by decide)]; exact ⟨rfl, rfl⟩)) (by simp) (by omega) (zb_queR_eq r4 (fun i _ => by rw [c2r 75 (by decide), c2r 76 (by decide)]; exact ⟨rfl, rfl⟩)) (by rw [c2f 48 (by decide)]; exact f6) (by rw [c2f 45 (by decide)]; exact f2) hqlen (fun c _ => rfl) (fun f _ => rfl)
  rw [List.nil_append] at t1 t3 v1 v3
  rw [List.nil_append] at e95
  have hlen2 : (zb_fst1 L1 rl).length + (ql ++ zb_fst0 L1 rl).length = rl.length + ql.length := by
    have := zb_fst_len (Lp := L1) (l := rl); rw [List.length_append]; omega
  have fr3 : zb_FRel M3 M3r (zb_Hcl C0 H L1) (zb_fst1 L1 rl) (ql ++ zb_fst0 L1 rl) fd := by
    refine ⟨⟨t3, v3, t5, f4, t4, v4, by omega⟩, t1, t2, v1, v2, fun x hx => ?_⟩
    rcases List.mem_append.mp hx with z | z
    · exact r5 x (List.mem_append_left _ (zb_fst_m (Or.inl z)))
    · rcases List.mem_append.mp z with z | z
      · exact r5 x (List.mem_append_right _ z)
      · exact r5 x (List.mem_append_left _ (zb_fst_m (Or.inr z)))
  have hr3 : zb_HR M3 M3r (zb_Hcl C0 H L1) cn N lam scp := zb_hr_congr hr2 (fun f _ => by rw [t6 15 (by decide)]) (fun c hc => t6 c (by simp only [List.mem_cons, List.not_mem_nil, or_false] at hc ⊢; omega)) (fun f hf => v6 f (by intro e; subst e; simp at hf) (by intro e; subst e; simp at hf)) (fun c hc => v5 c (by simp only [List.mem_cons, List.not_mem_nil, or_false] at hc ⊢; omega))
  have c3c : ∀ c, c ∉ ([16, 21, 22, 23, 24, 25, 38, 39, 40, 41, 42] : List Nat) → M3 c = C0 c := fun c hc => by
    simp only [List.mem_cons, List.not_mem_nil, or_false, not_or] at hc
    rw [t6 c (by simp [hc]), c2c c (by simp [hc])]
  have c3r : ∀ c, c ∉ ([45, 67, 70, 73, 74, 75, 76, 85] : List Nat) → M3r c = R0 c := fun c hc => by
    simp only [List.mem_cons, List.not_mem_nil, or_false, not_or] at hc
    rw [v5 c (by simp [hc]), c2r c (by simp [hc])]
  have c3f : ∀ f, f ≠ 64 → f ≠ 48 → f ≠ 45 → M3r 45 f = R0 45 f := fun f h1 h2 h3 => by rw [v6 f h2 h3, c2f f h1]
  have clx3 : zb_CLX C0 M3 H L1 := zb_clx_eq (t6 16 (by decide)) clx2
  obtain ⟨rvc3, rve3⟩ := zb_rv0_congr (C := C0) (C' := M3) (H := H) (N := N) (top := top) (fun c hc => c3c c (by simp only [List.mem_cons, List.not_mem_nil, or_false] at hc ⊢; omega))
  have rv3 : zb_RV0 M3 (zb_Hcl C0 H L1) N top := rvc3 rv0
  obtain ⟨rrc3, rre3⟩ := zb_rr0_congr (R := R0) (R' := M3r) (H := H) (sk := sk) (zb_fo := zb_fo) (bn := bn) (N := N) (fun c hc => c3r c (by simp only [List.mem_cons, List.not_mem_nil, or_false] at hc ⊢; omega)) (fun f hf => c3f f (by intro e; subst e; simp at hf) (by intro e; subst e; simp at hf) (by intro e; subst e; simp at hf))
  have rr3 : zb_RR0 M3r (zb_Hcl C0 H L1) sk zb_fo bn N := rrc3 rr0
  obtain ⟨L2, hL2⟩ : ∃ L2, L2 = zb_LV M3 (zb_Hcl C0 H L1) (zb_fst1 L1 rl).length (fun g => zb_RT0C M3 N top g ∨ zb_QR (ql ++ zb_fst0 L1 rl) g) := ⟨_, rfl⟩
  have hreg : ∀ i, i < rl.length → zb_lvs L1 (C0 22 i) → ∃ i', i' < (zb_fst1 L1 rl).length ∧ M3 22 i' = C0 22 i ∧ M3 23 i' = C0 23 i := fun i hi hl => by
    have a := r1 i hi
    rw [Nat.zero_add] at a
    have hm := (r5 rl[i] (List.mem_append_left _ (List.getElem_mem hi))).1.1
    have hin : rl[i] ∈ zb_fst1 L1 rl := zb_fst1_i.mpr ⟨List.getElem_mem hi, hl _ (hlt _ hm).2.2 a.1⟩
    obtain ⟨i', hi', e⟩ := List.getElem_of_mem hin
    have b := t1 i' hi'
    rw [Nat.zero_add, e] at b
    exact ⟨i', hi', by rw [b.1, a.1], by rw [b.2, a.2]⟩
  have h12 : ∀ h, L1 h → L2 h := fun h hh => by
    rw [hL1] at hh hL2 clx3 hreg
    rw [hL2]
    refine zb_sub12 hr0 clx3 (fun g hg z => ?_) hreg hh
    rcases z with z | ⟨x, x1, x2⟩
    · left; rw [rve3]; exact z
    · right; exact ⟨x, List.mem_append_left _ (by rw [← hL1] at *; exact x1), x2⟩
  have hk8 : ∀ h, h ∈ zb_hO H → (zb_RT0C M3 N top h ∨ zb_QR (ql ++ zb_fst0 L1 rl) h) → zb_hK H h ≠ 8 := fun h hh z => by
    rcases z with z | ⟨x, x1, x2⟩
    · rw [rve3] at z
      exact zb_rt_k8 hr0 rr0 hh ((hal0 h hh).mp z)
    · have hx := fr3.2.2.2.2.2 x (List.mem_append_right _ x1)
      rcases x2 with e | e
      · rw [← e]; exact hx.1.2.2
      · rw [← e]; exact hx.2.2.2
  have hg8 : ∀ i g, i < (zb_fst1 L1 rl).length → g ∈ zb_hO H → M3 23 i = 17179869184 + (g : Int) → zb_hK H g ≠ 8 := fun i g hi hg e => by
    have b := t1 i hi
    rw [Nat.zero_add] at b
    have hx := fr3.2.2.2.2.2 _ (List.mem_append_left _ (List.getElem_mem hi))
    have : (zb_fst1 L1 rl)[i].2 = g := by rw [b.2] at e; omega
    rw [← this]; exact hx.2.2.2
  have sv3 : zb_SV M3 (zb_Hcl C0 H L1) L2 := by
    rw [hL2]
    refine zb_surv (Rt2 := fun g => zb_RT0C M3 N top g ∨ zb_QR (ql ++ zb_fst0 L1 rl) g) hr0 hr3 hN clx3 hk8 hg8 (fun h hh => ?_)
    rw [← hL2]; exact h12 h hh
  have h113 : M3 38 11 = ((cn / 3 + 1 : Nat) : Int) := by rw [t6 38 (by decide), u2 38 (by decide), s2 11 (by decide)]; exact h110
  have hM4 : ∃ M4, fn_132 cn (cn / 3 + 1) C = ((fn_147 cn (cn / 3 + 1) M4).bind fun m13 => some m13) ∧ (∀ c, c ∉ ([38, 39, 40, 41, 42] : List Nat) → M4 c = M3 c) ∧ (∀ f, f ≠ 8 → M4 38 f = M3 38 f) ∧ zb_LTR M4 H L2 := by
    have e132 : fn_132 cn (cn / 3 + 1) C = if M3 21 6 ≤ M2 21 6 then (fn_147 cn (cn / 3 + 1) M3).bind fun m13 => some m13 else (fn_133 cn (cn / 3 + 1) M3).bind fun m16 => (fn_147 cn (cn / 3 + 1) m16).bind fun m19 => some m19 := by
      have e144' : fn_144 cn (cn / 3 + 1) M1 = some M2 := e144
      have e146' : fn_146 (cn / 3 + 1) M2 = some M3 := e146
      rw [fC, e133, Option.bind_some, e144', Option.bind_some, e146', Option.bind_some]
    have e26 : M2 21 6 = (ql.length : Int) := by rw [c2c 21 (by decide)]; exact f5
    by_cases hnew : zb_fst0 L1 rl = []
    · refine ⟨M3, ?_, fun c _ => rfl, fun f _ => rfl, fun h hh => ?_⟩
      · rw [e132, if_pos (by rw [t4, e26, hnew, List.append_nil]; exact Int.le_refl _)]
      · have h21 : ∀ h, L2 h → L1 h := fun h hh => by
          have hf := zb_fst0_nil hnew
          rw [hL2, hnew, List.append_nil] at hh
          rw [hL1]
          rw [hL1] at hh clx3
          refine zb_eq12 hr0 clx3 (fun g hg z => ?_) (fun i hi => ?_) hh
          · rcases z with z | z
            · left; rw [← rve3]; exact z
            · right; exact z
          · rw [← hL1, hf] at hi
            refine ⟨hi, ?_⟩
            have a := r1 i hi
            have b := t1 i (by rw [hf]; exact hi)
            rw [Nat.zero_add] at a b
            have e : (zb_fst1 L1 rl)[i]'(by rw [hf]; exact hi) = rl[i] := by congr 1
            rw [e] at b
            exact ⟨by rw [a.1, b.1], by rw [a.2, b.2]⟩
        have := ltr2 h hh
        rw [← t6 39 (by decide)] at this
        exact ⟨fun z => this.1 (h21 h z), fun z => this.2 (fun q => z (h12 h q))⟩
    · obtain ⟨M4, Lc, e133b, ms4, hLc⟩ := zb_find_live hr3 (zb_rgs_of fr3 h113) (zb_rtv_of fr3 rv3)
      rw [zb_LV_congr (fun g _ => zb_rtc_q fr3 g), ← hL2] at hLc
      obtain ⟨w1, w2, w3, w4, zb_w5, w6, w7⟩ := ms4
      refine ⟨M4, ?_, w1, w2, fun h hh => ?_⟩
      · have : 0 < (zb_fst0 L1 rl).length := List.length_pos_iff.mpr hnew
        rw [e132, if_neg (by rw [t4, e26, List.length_append]; omega), e133b, Option.bind_some]
      · have hx := hlt h hh
        rw [zb_w5 h hx.1 hx.2.1]
        exact ⟨fun z => if_pos ((hLc h hh).mpr z), fun z => if_neg (fun q => z ((hLc h hh).mp q))⟩
  obtain ⟨M4, eC, w1, w2, ltr4⟩ := hM4
  obtain ⟨m9, Ld, e198b, x1, x2, x3, hLd⟩ := zb_reckon_ok hr3 (zb_rgr_of hr3 fr3) (zb_rrv_of fr3 rr3)
  rw [zb_LV_congr (fun g hg => (zb_rtr_q hr3 fr3 rfl rfl hg).trans (or_congr_left (show zb_RT0R M3r (zb_Hcl C0 H L1) sk zb_fo bn N g ↔ zb_RT0C M3 N top g by rw [rve3]; exact (show zb_RT0R M3r H sk zb_fo bn N g ↔ zb_RT0C C0 N top g by rw [rre3]; exact (hal0 g hg).symm)))), ← hL2] at hLd
  have rlt9 : zb_RLT m9 (zb_Hcl C0 H L1) L2 := fun h hh => by
    rw [x3 h hh]
    exact ⟨fun z => if_pos ((hLd h hh).mpr z), fun z => if_neg (fun q => z ((hLd h hh).mp q))⟩
  obtain ⟨⟨fl3, hs3, hH3⟩, ⟨fs3, fc3, hQ3⟩, _⟩ := id hr3
  have hH4 : zb_HC M4 cn (zb_hO H) fl3 hs3 (zb_hU H) (zb_hS H) (zb_hZ H) (zb_hK H) := zb_hc_congr hH3 (fun f _ => by rw [w1 15 (by decide)]) (fun c hc => w1 c (by simp only [List.mem_cons, List.not_mem_nil, or_false] at hc ⊢; omega))
  obtain ⟨M5, e147, hH5, y1, y2, y3⟩ := zb_keep_c (Lp := L2) hH4 ltr4
  have hQ9 : zb_HQ m9 cn (zb_hU H) ((zb_hO H).map (zb_hP H)) fs3 fc3 (zb_hC H) := zb_hq_congr hQ3 (fun f hf => x2 f (by intro e; subst e; simp at hf)) (fun c hc => x1 c (by simp only [List.mem_cons, List.not_mem_nil, or_false] at hc ⊢; omega))
  have hsm : zb_hU H = zb_sm (zb_hZ H) (zb_hO H) := by have := zb_cum_sm hH.2.1; omega
  have hst0 : zb_lvl (zb_stl (zb_Hcl C0 H L1) L2 0) (zb_hO H) = zb_hO H := zb_lvl_all (fun x _ => Or.inl (Nat.zero_le _))
  obtain ⟨M5r, fs5, fc5, e160, hQ5, z1, z2⟩ := zb_drop_loop (H := zb_Hcl C0 H L1) (cn := cn) (Lp := L2) (M0 := m9) (x1 := ((zb_fst1 L1 rl).length : Int)) (zb_hr_nd hr3) (fun a b ha hb => zb_hr_inj hr3 ha hb) (fun h hh => zb_hr_p hr3 hh) (fun h hh => by
      obtain ⟨o1, o2, o3, o4, _⟩ := zb_hr_ob hr3 hh
      refine ⟨o4, by rw [x1 62 (by decide)]; exact o1, ?_⟩
      rw [x1 63 (by decide), ← o3]
      exact (hQ3.2.2.2.2.2.2.1 _ (List.mem_map_of_mem hh)).2) rlt9 6700 0 m9 fs3 fc3 (by omega) (by
      show zb_HQ m9 cn (zb_sm (zb_hZ H) (zb_lvl (zb_stl (zb_Hcl C0 H L1) L2 0) (zb_hO H))) ((zb_lvl (zb_stl (zb_Hcl C0 H L1) L2 0) (zb_hO H)).map (zb_hP H)) fs3 fc3 (zb_hC H)
      rw [hst0, ← hsm]; exact hQ9) (fun c _ => rfl) (fun f _ => rfl)
  have hr4 : zb_HR M4 m9 (zb_Hcl C0 H L1) cn N lam scp := zb_hr_congr hr3 (fun f _ => by rw [w1 15 (by decide)]) (fun c hc => w1 c (by simp only [List.mem_cons, List.not_mem_nil, or_false] at hc ⊢; omega)) (fun f hf => x2 f (by intro e; subst e; simp at hf)) (fun c hc => x1 c (by simp only [List.mem_cons, List.not_mem_nil, or_false] at hc ⊢; omega))
  have sv4 : zb_SV M4 (zb_Hcl C0 H L1) L2 := zb_sv_eq (w1 16 (by decide)) sv3
  have hr5 : zb_HR M5 M5r (zb_Hmv (zb_Hcl C0 H L1) L2) cn N lam scp := zb_hr_move hr4 hN sv4 hH5 hQ5 y1 (y3 10 (by decide) (by decide) (by decide)) (y2 20 (by decide)) (z1 62 (by decide)) (z1 64 (by decide)) (z1 66 (by decide)) (z1 70 (by decide)) (z2 42 (by decide))
  obtain ⟨d1, d2, d3, d4, d5, d6⟩ := zb_LV_clo (C := M3) (H := zb_Hcl C0 H L1) (rg := (zb_fst1 L1 rl).length) (Rt := fun g => zb_RT0C M3 N top g ∨ zb_QR (ql ++ zb_fst0 L1 rl) g)
  rw [← hL2] at d1 d2 d3 d4 d5 d6
  have c5c : ∀ c, c ∉ ([15, 16, 17, 18, 38, 39, 40, 41, 42] : List Nat) → M5 c = M3 c := fun c hc => by
    simp only [List.mem_cons, List.not_mem_nil, or_false, not_or] at hc
    rw [y2 c (by simp [hc]), w1 c (by simp [hc])]
  have c5r : ∀ c, c ∉ ([45, 67, 68, 69, 71, 85] : List Nat) → M5r c = M3r c := fun c hc => by
    simp only [List.mem_cons, List.not_mem_nil, or_false, not_or] at hc
    rw [z1 c (by simp [hc]), x1 c (by simp [hc])]
  have c5f : ∀ f, f ∉ ([28, 29, 38, 41, 64] : List Nat) → M5r 45 f = M3r 45 f := fun f hf => by
    simp only [List.mem_cons, List.not_mem_nil, or_false, not_or] at hf
    rw [z2 f (by simp [hf]), x2 f hf.2.2.2.2]
  have xt : zb_XT C H M5 (zb_Hmv (zb_Hcl C0 H L1) L2) := by
    intro t e ht hk he he2
    have he1 : e ∈ zb_hE H t := zb_flt_m (C := C0) (H := H) (Lp := L1) he
    have ht0 : t ∈ zb_hO H := (zb_lvl_m.mp ht).1
    have hk8e : zb_hK H e = 8 := ((hr.2.2.2.1.1 t ht0 hk).2.2 e he1).2
    have heO : e ∈ zb_hO H := (zb_lvl_m.mp he2).1
    have hz5 : zb_hZ H e = 5 := by have := (zb_hr_ob hr heO).2.2.2.1; rw [hk8e] at this; unfold zb_szk at this; omega
    have e1 : zb_cl M5 (zb_Hmv (zb_Hcl C0 H L1) L2) e 1 = M4 16 (zb_hS H e + 1) := y1 e he2 1 (by show 1 < zb_hZ H e; omega)
    have e2 := (clx3.2.2.2.1 e heO hk8e).1
    unfold zb_cf at e2
    rw [if_neg (by rw [hk8e]; unfold zb_isl; omega), if_neg (by rw [hk8e]; unfold zb_isl; omega), hk8e] at e2
    have e3 : M3 16 (zb_hS H e + 1) = C0 16 (zb_hS H e + 1) := e2
    refine ⟨he1, ?_⟩
    rw [e1, w1 16 (by decide), e3, c0a 16 (by decide)]; rfl
  refine ⟨M5, M5r, zb_Hmv (zb_Hcl C0 H L1) L2, zb_fst1 L1 rl, ql ++ zb_fst0 L1 rl, xt, ?_, ?_, hr5, ?_, fun x hx => ?_, hlen2, fun h => ⟨rfl, rfl, rfl⟩, fun h hh => (zb_lvl_m.mp hh).1, fun g hg z => zb_lvl_m.mpr ⟨hg, d1 g hg (Or.inl (by rw [rve3, rve]; exact z))⟩, fun h i hh hk hi => ?_, ?_, ?_, ?_, ?_, ?_, ?_, ?_, ?_⟩
  · rw [eC, e147, Option.bind_some]
  · have e25' : lp (fun z => fn_197_25 z.1 z.2) (0, m4) = lp (fun z => fn_197_95 z.1 z.2.1 z.2.2) (0, 0, M2r) := e25
    have e95' : lp (fun z => fn_197_95 z.1 z.2.1 z.2.2) (0, 0, M2r) = ((fn_198 M3r).bind fun m9 => lp (fun z => fn_197_160 ((zb_fst1 L1 rl).length : Int) z.1 z.2) (0, m9)) := e95
    have e160' : lp (fun z => fn_197_160 ((zb_fst1 L1 rl).length : Int) z.1 z.2) (0, m9) = some (1, M5r) := e160
    rw [fR, e198, Option.bind_some, e25', e95', e198b, Option.bind_some, e160']
  · have base : zb_FRel M5 M5r (zb_Hcl C0 H L1) (zb_fst1 L1 rl) (ql ++ zb_fst0 L1 rl) fd := zb_fr_congr fr3 (fun f _ => by rw [c5c 21 (by decide)]) (fun c hc => c5c c (by simp only [List.mem_cons, List.not_mem_nil, or_false] at hc ⊢; omega)) (fun f hf => c5f f (by simp only [List.mem_cons, List.not_mem_nil, or_false] at hf ⊢; omega)) (fun c hc => c5r c (by simp only [List.mem_cons, List.not_mem_nil, or_false] at hc ⊢; omega))
    obtain ⟨b1, b2, b3, b4, b5, b6⟩ := base
    refine ⟨b1, b2, b3, b4, b5, fun x hx => ?_⟩
    obtain ⟨g1, g2⟩ := b6 x hx
    have hlv : L2 x.1 ∧ L2 x.2 := by
      rcases List.mem_append.mp hx with z | z
      · have hx1 : L2 x.1 := h12 _ (zb_fst1_i.mp z).2
        refine ⟨hx1, ?_⟩
        obtain ⟨i, hi, e⟩ := List.getElem_of_mem z
        have b := t1 i hi
        rw [Nat.zero_add, e] at b
        refine d6 i x.2 hi ?_ g2.1 b.2
        rw [b.1]; intro g hg e9
        have : x.1 = g := by omega
        exact this ▸ hx1
      · exact ⟨d1 _ g1.1 (Or.inr ⟨x, z, Or.inl rfl⟩), d1 _ g2.1 (Or.inr ⟨x, z, Or.inr rfl⟩)⟩
    exact ⟨⟨zb_lvl_m.mpr ⟨g1.1, hlv.1⟩, g1.2⟩, ⟨zb_lvl_m.mpr ⟨g2.1, hlv.2⟩, g2.2⟩⟩
  · rcases List.mem_append.mp hx with z | z
    · exact List.mem_append_left _ (zb_fst_m (Or.inl z))
    · rcases List.mem_append.mp z with z | z
      · exact List.mem_append_right _ z
      · exact List.mem_append_left _ (zb_fst_m (Or.inr z))
  · have e1 : zb_cl M5 (zb_Hmv (zb_Hcl C0 H L1) L2) h i = M4 16 (zb_hS H h + i) := y1 h hh i hi
    rw [e1, w1 16 (by decide)]
    have e2 : M3 16 (zb_hS H h + i) = zb_cl C0 H h i := clx3.2.2.2.2 h i (zb_lvl_m.mp hh).1 hk hi
    rw [e2]; unfold zb_cl; rw [c0a 16 (by decide)]
  · rw [y2 38 (by decide), w2 5 (by decide), t6 38 (by decide), u2 38 (by decide), s2 5 (by decide)]; exact c0c
  · intro f h5 h8
    rw [y2 38 (by decide), w2 f h8, t6 38 (by decide), u2 38 (by decide), s2 f h8]; exact c0b f h5
  · intro f h6 h7 h9
    rw [y3 f h6 h7 h9, w1 15 (by decide), c3c 15 (by decide), c0a 15 (by decide)]
  · intro c hc
    simp only [List.mem_cons, List.not_mem_nil, or_false, not_or] at hc
    rw [c5c c (by simp [hc]), c3c c (by simp [hc]), c0a c hc.2.2.2.2.2.2.2.2.2.1]
  · rw [c5f 67 (by decide), c3f 67 (by decide) (by decide) (by decide)]; exact r0c
  · rw [c5f 43 (by decide), c3f 43 (by decide) (by decide) (by decide)]; exact r0d
  · intro f hf
    simp only [List.mem_cons, List.not_mem_nil, or_false, not_or] at hf
    rw [c5f f (by simp [hf]), c3f f hf.2.2.2.2.2.2.2.1 hf.2.2.2.2.2.2.1 hf.2.2.2.2.2.1, r0b f hf.2.2.2.2.2.2.2.2 hf.2.2.2.2.1]
  · intro c hc
    simp only [List.mem_cons, List.not_mem_nil, or_false, not_or] at hc
    rw [c5r c (by simp [hc]), c3r c (by simp [hc]), r0a c hc.1]
end GC2
set_option maxHeartbeats 4000000 in
theorem zb_coll2 {B : zb_Bs} {C R : eM} {H : zb_Hp} {rl ql : List (Nat × Nat)} {fd f e bn : Nat} (xs : Nat) {st : List zb_Rec} (g : zb_GS B C R H rl ql fd) (hs : zb_STR C R H B.2.2.2.1 st) (hst : st.length < 1999) (he : e ≤ 1) (htop : C 29 0 = ((st.length + e : Nat) : Int)) (hx : e = 1 → C 33 (st.length + 1) = (f : Int) ∧ C 34 (st.length + 1) = 0) (hf : zb_isF H f) (he0 : e = 0 → f = 0)
    (zb_r53 : R 45 53 = (zb_tt st : Int)) (zb_r51 : R 45 51 = ((zb_bb st + xs : Nat) : Int)) (hxs : xs ≤ 9) (hxo : ∀ j, zb_bb st ≤ j → j < zb_bb st + xs → R 77 j < 0 ∨ eb_lshr (R 77 j) 32 ≠ 6) (r62 : R 45 62 = zb_frm H f) (hq : zb_QB C R H bn) (h67 : 100 ≤ R 45 67) :
    ∃ (C' R' : eM) (H' : zb_Hp) (rl' ql' : List (Nat × Nat)), zb_XT C H C' H' ∧ fn_132 B.2.2.1 (B.2.2.1 / 3 + 1) C = some C' ∧ fn_197 R = some (1, R') ∧ zb_GS B C' R' H' rl' ql' fd ∧ zb_STR C' R' H' B.2.2.2.1 st ∧ (zb_isF H' f ∧ zb_frm H' f = zb_frm H f) ∧ (∀ g i, g ∈ zb_hO H → i < 32 → C 36 i = 17179869184 + (g : Int) → zb_TRg H H' g) ∧ zb_CLC C C' ∧ zb_CLRf R R' ∧ (∀ g, g ∈ zb_hO H' → g ∈ zb_hO H ∧ zb_hK H' g = zb_hK H g ∧ zb_hP H' g = zb_hP H g ∧ zb_hZ H' g = zb_hZ H g) ∧ (∀ g, g ∈ zb_hO H → zb_RTS C st.length g → zb_TRg H H' g)
      ∧ (∀ h i, h ∈ zb_hO H' → zb_hK H h ≤ 4 → i < zb_hZ H h → zb_cl C' H' h i = zb_cl C H h i) := by
  obtain ⟨hN, n1, n2⟩ := zb_gs_N g
  obtain ⟨g1, g2, g3, ⟨L, B', g4⟩, g5, g6, g7, g8, g9⟩ := g
  have hv := zb_str_val g1 hN hs
  have hfc := zb_frm_cv g1 hf
  obtain ⟨q1, ⟨q2, q3, q4, q5⟩, q6⟩ := hq
  have htb := zb_tt_le (l := st)
  have hbb := zb_bb_le hs
  have zb_rv : zb_RV0 C H B.2.2.2.1 (st.length + e) := by
    refine ⟨⟨htop, by omega⟩, fun i i1 i2 => ?_, q1, n1, hN, fun n hn => ?_⟩
    · by_cases hi : i ≤ st.length
      · exact hv.1 i i1 hi
      · have h9 : e = 1 ∧ i = st.length + 1 := by omega
        obtain ⟨x1, x2⟩ := hx h9.1
        rw [h9.2, x1]
        exact ⟨hfc.1, 0, by omega, x2, fun j hj => by omega⟩
    · rcases g5 n (by omega) with ⟨_, z⟩ | ⟨z, _⟩
      · exact (zb_vr_cv g1 hN z).1
      · rw [z]; exact Or.inr ⟨by decide, fun g _ => by omega⟩
  have rr : zb_RR0 R H (zb_bb st + xs) (zb_tt st) bn B.2.2.2.1 := by
    refine ⟨⟨zb_r51, by omega, fun i hi => ?_⟩, ⟨zb_r53, by omega, hv.2.2⟩, ⟨q2, q3, q4⟩, ⟨by rw [r62]; exact hfc.2, q5⟩, n2, hN, fun n hn => ?_⟩
    · by_cases hi2 : i < zb_bb st
      · exact hv.2.1 i hi2
      · exact Or.inr (hxo i (by omega) hi)
    · rcases g5 n (by omega) with ⟨_, z⟩ | ⟨_, z⟩
      · exact (zb_vr_cv g1 hN z).2
      · rw [z]; exact Or.inr (Or.inl (by decide))
  have hal : ∀ g, g ∈ zb_hO H → (zb_RT0C C B.2.2.2.1 (st.length + e) g ↔ zb_RT0R R H (zb_bb st + xs) (zb_tt st) bn B.2.2.2.1 g) := by
    intro g hg
    have hro := zb_str_roots g1 hN hg hs
    have hgl : (∃ n, n < B.2.2.2.1 ∧ C 37 n = 17179869184 + (g : Int)) ↔ (∃ n, n < B.2.2.2.1 ∧ R 72 n = zb_ov (zb_hP H g)) := by
      constructor
      · rintro ⟨n, a, b⟩
        refine ⟨n, a, ?_⟩
        rcases g5 n (by omega) with ⟨_, z⟩ | ⟨z, _⟩
        · exact (zb_vr_iff g1 hN z hg).mp b
        · have := zb_hr_h g1 hg; omega
      · rintro ⟨n, a, b⟩
        refine ⟨n, a, ?_⟩
        rcases g5 n (by omega) with ⟨_, z⟩ | ⟨_, z⟩
        · exact (zb_vr_iff g1 hN z hg).mpr b
        · rw [z] at b; unfold zb_ov at b; omega
    have hgb := zb_hr_h g1 hg
    constructor
    · intro h
      rcases h with ⟨i, i1, i2, i3⟩ | ⟨i, j, i1, i2, i3, i4⟩ | h | h
      · by_cases hi : i ≤ st.length
        · rcases hro.mp (Or.inl ⟨i, i1, hi, i3⟩) with z | ⟨j, z1, z2⟩
          · exact Or.inr (Or.inl z)
          · exact Or.inl ⟨j, by omega, z2⟩
        · have h9 : e = 1 ∧ i = st.length + 1 := by omega
          obtain ⟨x1, x2⟩ := hx h9.1
          rw [h9.2, x1] at i3
          refine Or.inr (Or.inr (Or.inr (Or.inl (Or.inl ?_))))
          rw [r62]; exact (zb_frm_iff g1 hf hg).mp i3
      · by_cases hi : i ≤ st.length
        · rcases hro.mp (Or.inr ⟨i, j, i1, hi, i3, i4⟩) with z | ⟨j, z1, z2⟩
          · exact Or.inr (Or.inl z)
          · exact Or.inl ⟨j, by omega, z2⟩
        · have h9 : e = 1 ∧ i = st.length + 1 := by omega
          obtain ⟨x1, x2⟩ := hx h9.1
          rw [h9.2, x2] at i3
          omega
      · rcases (q6 g hg).mp h with z | z
        · exact Or.inr (Or.inr (Or.inl z))
        · exact Or.inr (Or.inr (Or.inr (Or.inl (Or.inr z))))
      · exact Or.inr (Or.inr (Or.inr (Or.inr (hgl.mp h))))
    · intro h
      have old : zb_RTS C st.length g → zb_RT0C C B.2.2.2.1 (st.length + e) g := by
        intro h
        rcases h with ⟨i, a, b, c⟩ | ⟨i, j, a, b, c, d⟩
        · exact Or.inl ⟨i, a, by omega, c⟩
        · exact Or.inr (Or.inl ⟨i, j, a, by omega, c, d⟩)
      rcases h with h | h | h | h | h
      · obtain ⟨j, z1, z2⟩ := h
        by_cases hj : j < zb_bb st
        · exact old (hro.mpr (Or.inr ⟨j, hj, z2⟩))
        · exfalso
          have h1 := hxo j (by omega) z1
          have h2 := zb_hr_p g1 hg
          have h3 : eb_lshr (zb_ov (zb_hP H g)) 32 = 6 := zb_sh32 (by unfold zb_ov; omega) (by unfold zb_ov; omega)
          rw [z2, h3] at h1
          unfold zb_ov at h1; omega
      · exact old (hro.mpr (Or.inl h))
      · exact Or.inr (Or.inr (Or.inl ((q6 g hg).mpr (Or.inl h))))
      · rcases h with h | h
        · rw [r62] at h
          have hfg := (zb_frm_iff g1 hf hg).mpr h
          have h1 : e = 1 := by
            by_cases h0 : e = 0
            · have := he0 h0; omega
            · omega
          exact Or.inl ⟨st.length + 1, by omega, by omega, by rw [(hx h1).1]; exact hfg⟩
        · exact Or.inr (Or.inr (Or.inl ((q6 g hg).mpr (Or.inr h))))
      · exact Or.inr (Or.inr (Or.inr (hgl.mpr h)))
  obtain ⟨C', R', H', rl', ql', k0, k1, k2, k3, k4, k5, k6, k7, k8, k9, k10, k11, k12, k13, k14, k15, k16, k17, k18⟩ := zb_collect2 g1 hN g2 g6.1 zb_rv rr hal h67
  have trg : ∀ g, g ∈ zb_hO H → zb_RT0C C B.2.2.2.1 (st.length + e) g → zb_TRg H H' g := fun g a b => ⟨k9 g a b, (k7 g).1, (k7 g).2.2⟩
  have rts : ∀ g, g ∈ zb_hO H → zb_RTS C st.length g → zb_TRg H H' g := by
    intro g hg h
    refine trg g hg ?_
    rcases h with ⟨i, a, b, c⟩ | ⟨i, j, a, b, c, d⟩
    · exact Or.inl ⟨i, a, by omega, c⟩
    · exact Or.inr (Or.inl ⟨i, j, a, by omega, c, d⟩)
  refine ⟨C', R', H', rl', ql', k0, k1, k2, ⟨k3, k4, zb_rows_congr g3 (fun c hc => k14 c (by revert hc; simp; omega)) (fun c hc => k18 c (by revert hc; simp; omega)), ⟨L, B', zb_nm_congr g4 (k14 1 (by decide)) (k14 2 (by decide)) (k14 3 (by decide)) (k17 7 (by decide)) (k18 47 (by decide)) (k18 48 (by decide))⟩, fun n hn => ?_, ⟨by rw [k12 11 (by decide) (by decide)]; exact g6.1, by rw [k11, k16, g6.2]⟩, zb_out_congr g7 (k14 26 (by decide)) (k14 27 (by decide)) (k17 72 (by decide)) (k18 86 (by decide)), fun x hx => ?_, by rw [k13 10 (by decide) (by decide) (by decide)]; exact g9.1, fun h hh => by rw [k13 10 (by decide) (by decide) (by decide), k14 20 (by decide)]; exact g9.2 h (k8 h hh)⟩,
    zb_str_tr hs (fun i _ _ => by rw [k14 33 (by decide), k14 34 (by decide), k14 35 (by decide)]; exact ⟨rfl, rfl, fun _ _ => rfl⟩) (fun t _ => by rw [k18 81 (by decide), k18 82 (by decide)]; exact ⟨rfl, rfl⟩) (fun b _ => by rw [k18 77 (by decide)]) rts, zb_frm_tr hf (fun hm => trg f hm ?_), fun g i a b c => trg g a (Or.inr (Or.inr (Or.inl ⟨i, b, c⟩))), ⟨k13, k14⟩, ⟨k15, k17, k18⟩, fun g hg => ⟨k8 g hg, (k7 g).1, (k7 g).2.2, (k7 g).2.1⟩, rts, k10⟩
  · rw [k14 37 (by decide), k18 72 (by decide)]
    rcases g5 n hn with ⟨hnN, z⟩ | z
    · exact Or.inl ⟨hnN, zb_vr_tr z (fun g a b => trg g a (Or.inr (Or.inr (Or.inr ⟨n, hnN, b⟩))))⟩
    · exact Or.inr z
  · obtain ⟨z1, d, z2, z3⟩ := g8 x (k5 x hx)
    have hx2 := (k4.2.2.2.2.2 x hx).2.1
    have hz := (zb_hr_ob g1 (k8 _ hx2)).2.2.2.1
    refine ⟨by rw [(k7 _).1]; exact z1, d, ?_, z3⟩
    rw [k10 _ 1 hx2 (by omega) (by unfold zb_szk at hz; omega)]; exact z2
  · have hf0 := zb_hr_h g1 hm
    have h1 : e = 1 := by
      by_cases h0 : e = 0
      · have := he0 h0; omega
      · omega
    exact Or.inl ⟨st.length + 1, by omega, by omega, (hx h1).1⟩

section RM2
variable {B : zb_Bs} {Q : zb_Pq} {zb_sp : Nat} {C R : eM} {H : zb_Hp} {rl ql : List (Nat × Nat)} {fd fu f e bn : Nat} {st : List zb_Rec} {k s : Nat} {v : Int}
set_option maxHeartbeats 4000000 in
theorem zb_room2 (P : eM → Prop) (hP0 : P C) (hP1 : ∀ (M R1 : eM) (H1 : zb_Hp) (rl1 ql1 : List (Nat × Nat)), zb_GS B M R1 H1 rl1 ql1 fd → zb_XT C H M H1 → (∀ g, g ∈ zb_hO H → zb_RTS C st.length g → zb_TRg H H1 g) → P M) (g : zb_GS B C R H rl ql fd) (hs : zb_STR C R H B.2.2.2.1 st) (hst : st.length < 1999) (he : e ≤ 1) (htop : C 29 0 = ((st.length + e : Nat) : Int)) (hx : e = 1 → C 33 (st.length + 1) = (f : Int) ∧ C 34 (st.length + 1) = 0) (hf : zb_isF H f) (he0 : e = 0 → f = 0)
    (zb_r53 : R 45 53 = (zb_tt st : Int)) (zb_r51 : R 45 51 = (zb_bb st : Int)) (r62 : R 45 62 = zb_frm H f) (hq : zb_QB C R H bn) (hfu : zb_FUE C R fu) (h8 : C 44 8 = 0) (h11 : C 15 11 = 0) (h12 : C 15 12 = 0) (h5 : C 43 5 = 0) (hk : zb_szk k s) (hsp : zb_sp + 20 * fu < 999999)
    (hstep : ∀ (M R' : eM) (H' : zb_Hp) (rl' ql' : List (Nat × Nat)) (sp' : Nat), zb_GS B M R' H' rl' ql' fd → zb_KEP C M → P M → M 15 11 = 0 → ¬ zb_hU H' + s ≤ B.2.2.1 → sp' < 1000000 → (∀ g, g ∈ zb_hO H → zb_RTS C st.length g → zb_TRg H H' g) → (∀ h i, h ∈ zb_hO H' → zb_hK H h ≤ 4 → i < zb_hZ H h → zb_cl M H' h i = zb_cl C H h i) → zb_CL B.2.2.1 Q (sp' : Int) M = zb_AF B.2.2.1 Q (sp' : Int) (eg_u M 15 11 1)) :
    (∃ (M R1 : eM) (H1 : zb_Hp) (rl1 ql1 : List (Nat × Nat)) (fu1 sp1 : Nat), P M ∧ zb_CL B.2.2.1 Q (zb_sp : Int) C = zb_CL B.2.2.1 Q (sp1 : Int) M ∧ fn_195 ((k : Int) - 1) ((zb_nf k s : Nat) : Int) v R = fn_195_16 ((k : Int) - 1) ((zb_nf k s : Nat) : Int) v (s : Int) R1 ∧ zb_hU H1 + s ≤ B.2.2.1 ∧ zb_GS B M R1 H1 rl1 ql1 fd ∧ zb_STR M R1 H1 B.2.2.2.1 st ∧ zb_KEP C M ∧ zb_KER R R1 ∧ (zb_isF H1 f ∧ zb_frm H1 f = zb_frm H f)
      ∧ (∀ g i, g ∈ zb_hO H → i < 32 → C 36 i = 17179869184 + (g : Int) → zb_TRg H H1 g) ∧ (∀ g, g ∈ zb_hO H → zb_RTS C st.length g → zb_TRg H H1 g) ∧ M 15 11 = 0 ∧ zb_FUE M R1 fu1 ∧ zb_sp ≤ sp1 ∧ sp1 + 20 * fu1 ≤ zb_sp + 20 * fu ∧ (∀ g, g ∈ zb_hO H1 → g ∈ zb_hO H ∧ zb_hK H1 g = zb_hK H g ∧ zb_hP H1 g = zb_hP H g ∧ zb_hZ H1 g = zb_hZ H g) ∧ (∀ h i, h ∈ zb_hO H1 → zb_hK H h ≤ 4 → i < zb_hZ H h → zb_cl M H1 h i = zb_cl C H h i))
    ∨ (∃ (C' R' : eM) (H' : zb_Hp) (rl' ql' : List (Nat × Nat)) (fu' : Nat) (lk : Int), zb_CL B.2.2.1 Q (zb_sp : Int) C = some C' ∧ fn_195 ((k : Int) - 1) ((zb_nf k s : Nat) : Int) v R = some (-1, R') ∧ R' 45 66 = lk ∧ C' 44 8 = lk ∧ (lk = 4 ∨ lk = 12) ∧ zb_GS B C' R' H' rl' ql' fd ∧ zb_FUE C' R' fu') := by
  have hfu3 := hfu.2.2
  by_cases hroom : zb_hU H + s ≤ B.2.2.1
  · left
    refine ⟨C, R, H, rl, ql, fu, zb_sp, hP0, rfl, by rw [zb_f195 (zb_gs_hr g) hk, if_pos hroom], hroom, g, hs, ⟨fun _ _ => rfl, fun _ _ => rfl, fun _ _ => rfl, h5⟩, ⟨fun _ _ => rfl, fun _ _ => rfl⟩, ⟨hf, rfl⟩, fun _ _ h _ _ => zb_trg_rfl h, fun _ h _ => zb_trg_rfl h, h11, hfu, Nat.le_refl _, Nat.le_refl _, fun g hg => ⟨hg, rfl, rfl, rfl⟩, fun _ _ _ _ _ => rfl⟩
  · have zb_hC := hstep C R H rl ql zb_sp g ⟨fun _ _ => rfl, fun _ _ => rfl, fun _ _ => rfl, h5⟩ hP0 h11 hroom (by omega) (fun g hg _ => zb_trg_rfl hg) (fun _ _ _ _ _ => rfl)
    have hR := zb_f195 (v := v) (zb_gs_hr g) hk
    rw [if_neg hroom] at hR
    have m8 : (eg_u C 15 11 1) 44 8 = 0 := by rw [eg_u_ne (by decide)]; exact h8
    have m1 : ((eg_u C 15 11 1) 15 11 = 1 ∧ (eg_u C 15 11 1) 15 12 = 0) ∨ ((eg_u C 15 11 1) 15 11 = 0 ∧ (eg_u C 15 11 1) 43 5 ≠ 0) := Or.inl ⟨eg_u_eq, by rw [eg_u_nj (by decide)]; exact h12⟩
    have m7 : (eg_u C 15 11 1) 44 7 = (fu : Int) := by rw [eg_u_ne (by decide)]; exact hfu.1
    by_cases h100 : 100 ≤ fu
    · have hpq : zb_QC C (zb_pay (eg_u C 15 11 1)) := zb_QC_u (zb_QC_15 (zb_QC_15 (zb_QC_f (zb_QC_15 zb_QC_rfl (Or.inl rfl)) (by rw [m7, zb_wi_100 h100 hfu3]; omega)) (Or.inr rfl)) (Or.inl rfl)) (by decide)
      have hpc : ∀ c, c ∈ ([29, 30, 31, 32, 33, 34, 35, 36] : List Nat) → zb_pay (eg_u C 15 11 1) c = C c := by
        intro c hc
        have : c ≠ 44 ∧ c ≠ 15 ∧ c ≠ 43 := by revert hc; simp; omega
        unfold zb_pay
        simp (disch := omega) only [eg_u_ne]
      have hp29 := hpc 29 (by decide)
      have hp33 := hpc 33 (by decide)
      have hp34 := hpc 34 (by decide)
      have hp35 := hpc 35 (by decide)
      have hp36 := hpc 36 (by decide)
      have gp := zb_gs_congr g hpq (zb_QR_rfl (R := R))
      have sp1 : zb_STR (zb_pay (eg_u C 15 11 1)) R H B.2.2.2.1 st := zb_str_tr hs (fun i _ _ => by rw [hp33, hp34, hp35]; exact ⟨rfl, rfl, fun _ _ => rfl⟩) (fun _ _ => ⟨rfl, rfl⟩) (fun _ _ => rfl) (fun g hg _ => zb_trg_rfl hg)
      have hq2 : zb_QB (zb_pay (eg_u C 15 11 1)) R H bn := by unfold zb_QB at *; rw [hp36]; exact hq
      obtain ⟨M, R1, H1, rl1, ql1, k0, k1, k2, k3, k4, k5, k6, k7, k8, k9, k10, k11⟩   := zb_coll2 0 gp sp1 hst he (by rw [hp29]; exact htop) (by rw [hp33, hp34]; exact hx) hf he0 zb_r53 zb_r51 (by omega) (fun j a b => by omega) r62 hq2 (by rw [hfu.2.1]; omega)
      rw [zb_af_coll (by omega) m8 m1 (by rw [m7]; omega) k1] at zb_hC
      have kp : zb_KEP C M := by
        refine ⟨fun c hc => ?_, fun f hf => ?_, fun f hf => ?_, ?_⟩
        · rw [k7.2 c (by revert hc; simp; omega)]; exact hpc c hc
        · rw [k7.2 44 (by decide)]; unfold zb_pay; simp (disch := omega) only [eg_u_nj]
        · rw [k7.2 43 (by decide)]; unfold zb_pay; simp (disch := omega) only [eg_u_nj]
        · rw [k7.2 43 (by decide)]; unfold zb_pay; rw [eg_u_eq]
      have hM7 : M 44 7 = ((fu - 100 : Nat) : Int) := by
        rw [k7.2 44 (by decide)]; unfold zb_pay; rw [eg_u_nj (by decide), eg_u_nj (by decide), eg_u_nj (by decide), eg_u_eq, m7, zb_wi_100 h100 hfu3]
      have hM11 : M 15 11 = 0 := by
        rw [k7.1 11 (by decide) (by decide) (by decide)]; unfold zb_pay; rw [eg_u_nj (by decide), eg_u_eq]
      have hM12 : M 15 12 = 1 := by
        rw [k7.1 12 (by decide) (by decide) (by decide)]; unfold zb_pay; rw [eg_u_nj (by decide), eg_u_nj (by decide), eg_u_eq, eg_u_eq]
      have hfue : zb_FUE M R1 (fu - 100) := ⟨hM7, by rw [k8.1, hfu.2.1, zb_wi_100 h100 hfu3], by omega⟩
      rw [k2, Option.bind_some, if_pos (show ¬ (1 : Int) = 0 by decide)] at hR
      have trx : ∀ g, g ∈ zb_hO H → zb_RTS C st.length g → zb_TRg H H1 g := fun g a b => k10 g a (by unfold zb_RTS at *; rw [hp33, hp34, hp35]; exact b)
      have clx : ∀ h i, h ∈ zb_hO H1 → zb_hK H h ≤ 4 → i < zb_hZ H h → zb_cl M H1 h i = zb_cl C H h i := fun h i a b c => by rw [k11 h i a b c]; unfold zb_cl; rw [hpq.1 16 (by decide) (by decide)]
      have xt : zb_XT C H M H1 := fun t e a b c d => ⟨(k0 t e a b c d).1, by rw [(k0 t e a b c d).2]; unfold zb_cl; rw [hpq.1 16 (by decide) (by decide)]⟩
      have hPM : P M := hP1 M R1 H1 rl1 ql1 k3 xt trx
      by_cases hroom2 : zb_hU H1 + s ≤ B.2.2.1
      · left
        exact ⟨M, R1, H1, rl1, ql1, fu - 100, zb_sp + 1, hPM, zb_hC, hR, hroom2, k3, k4, kp, ⟨k8.2.1, k8.2.2⟩, k5, fun g i a b c => k6 g i a b (by rw [hp36]; exact c), trx, hM11, hfue, by omega, by omega, k9, clx⟩
      · right
        have h2 := hstep M R1 H1 rl1 ql1 (zb_sp + 1) k3 kp hPM hM11 hroom2 (by omega) trx clx
        rw [zb_af_full (by rw [eg_u_ne (by decide), kp.2.1 8 (by decide)]; exact h8) eg_u_eq (by rw [eg_u_nj (by decide), hM12]; decide)] at h2
        rw [h2] at zb_hC
        rw [zb_f195_no (zb_gs_hr k3) hroom2] at hR
        refine ⟨_, _, H1, rl1, ql1, fu - 100, 12, zb_hC, hR, eg_u_eq, eg_u_eq, Or.inr rfl, zb_gs_congr k3 (zb_QC_u (zb_QC_15 zb_QC_rfl (Or.inl rfl)) (by decide)) (zb_QR_45 zb_QR_rfl (by decide)), ?_, ?_, hfue.2.2⟩
        · rw [eg_u_nj (by decide), eg_u_ne (by decide)]; exact hM7
        · rw [eg_u_nj (by decide)]; exact hfue.2.1
    · right
      rw [zb_af_poor m8 m1 (by rw [m7]; omega)] at zb_hC
      have h197 : fn_197 R = some (0, eg_u R 45 66 4) := by unfold fn_197; rw [hfu.2.1, if_neg (by omega)]
      rw [h197, Option.bind_some, if_neg (fun z => z rfl)] at hR
      refine ⟨_, eg_u R 45 66 4, H, rl, ql, fu, 4, zb_hC, hR, eg_u_eq, eg_u_eq, Or.inl rfl, zb_gs_congr g (zb_QC_u (zb_QC_15 zb_QC_rfl (Or.inl rfl)) (by decide)) (zb_QR_45 zb_QR_rfl (by decide)), ?_, ?_, hfu3⟩
      · rw [eg_u_nj (by decide), eg_u_ne (by decide)]; exact hfu.1
      · rw [eg_u_nj (by decide)]; exact hfu.2.1
end RM2
def zb_Hte (H : zb_Hp) (t x : Nat) : zb_Hp := (H.1, H.2.1, H.2.2.1, H.2.2.2.1, H.2.2.2.2.1, H.2.2.2.2.2.1, H.2.2.2.2.2.2.1, fun y => if y = t then x :: zb_hE H t else zb_hE H y)
section TE
variable {C R C' R' M : eM} {H : zb_Hp} {cn N : Nat} {lam : Nat → Prop} {scp : Nat → Nat → Prop}
theorem zb_ech_te {t x : Nat} : ∀ {l : List Nat} {v : Int}, zb_ech C H l v → zb_ech C (zb_Hte H t x) l v := by
  intro l
  induction l with
  | nil => intro v h; exact h
  | cons e l ih => intro v h; exact ⟨h.1, ih h.2⟩
set_option maxHeartbeats 1000000 in
theorem zb_hr_tab (hr : zb_HR C R H cn N lam scp) {t x : Nat} (ht : t ∈ zb_hO H) (hk : zb_hK H t = 7) (hx : x ∈ zb_hO H) (hkx : zb_hK H x = 8) (hne : ∀ u, u ∈ zb_hO H → zb_hK H u = 7 → x ∉ zb_hE H u) (h3 : C 16 (zb_hS H x + 3) = C 16 (zb_hS H t + 1)) :
    zb_HR (eg_u (eg_u C 16 (zb_hS H t + 1) (x : Int)) 16 (zb_hS H t + 2) (((zb_hE H t).length + 1 : Nat) : Int)) (eg_u R 70 ((zb_hC H (zb_hP H t)).getD 0 0) (zb_ov (zb_hP H x))) (zb_Hte H t x) cn N lam scp := by
  have hxb := zb_hr_h hr hx
  obtain ⟨⟨fl, hs, hH⟩, ⟨fs, fc, hQ⟩, hob, htb, hnum⟩ := hr
  have o3 := (hob t ht).2.2.1
  have hzt : zb_hZ H t = 3 := by have := (hob t ht).2.2.2.1; unfold zb_szk at this; omega
  have hzx : zb_hZ H x = 5 := by have := (hob x hx).2.2.2.1; unfold zb_szk at this; omega
  have hnft : zb_nf (zb_hK H t) (zb_hZ H t) = 1 := by rw [hk]; rfl
  have hlen : 0 < (zb_hC H (zb_hP H t)).length := by rw [o3, hnft]; omega
  have hm : zb_hP H t ∈ (zb_hO H).map (zb_hP H) := List.mem_map_of_mem ht
  have hinj : ∀ a b, a ∈ zb_hO H → b ∈ zb_hO H → zb_hP H a = zb_hP H b → a = b := by
    have hn : ((zb_hO H).map (zb_hP H)).Nodup := (List.nodup_append.mp hQ.2.2.1).1
    exact zb_map_inj hn
  have hH1 := zb_put_H (v := (x : Int)) hH ht (i := 1) (by omega) (by omega)
  have hH2 := zb_put_H (v := (((zb_hE H t).length + 1 : Nat) : Int)) hH1 ht (i := 2) (by omega) (by omega)
  obtain ⟨C5, hC5⟩ : ∃ X, X = eg_u (eg_u C 16 (zb_hS H t + 1) (x : Int)) 16 (zb_hS H t + 2) (((zb_hE H t).length + 1 : Nat) : Int) := ⟨_, rfl⟩
  obtain ⟨R5, hR5⟩ : ∃ X, X = eg_u R 70 ((zb_hC H (zb_hP H t)).getD 0 0) (zb_ov (zb_hP H x)) := ⟨_, rfl⟩
  have zb_keepC : ∀ y i, y ∈ zb_hO H → i < zb_hZ H y → ¬ (y = t ∧ (i = 1 ∨ i = 2)) → C5 16 (zb_hS H y + i) = C 16 (zb_hS H y + i) := fun y i hy hi hne => by
    rw [hC5, zb_put_o hH1 ht (by omega) hy hi (fun z => hne ⟨z.1, Or.inr z.2⟩), zb_put_o hH ht (by omega) hy hi (fun z => hne ⟨z.1, Or.inl z.2⟩)]
  have c51 : C5 16 (zb_hS H t + 1) = (x : Int) := by rw [hC5, eg_u_nj (by omega), eg_u_eq]
  have c52 : C5 16 (zb_hS H t + 2) = (((zb_hE H t).length + 1 : Nat) : Int) := by rw [hC5, eg_u_eq]
  have keepR : ∀ y i, y ∈ zb_hO H → i < zb_nf (zb_hK H y) (zb_hZ H y) → ¬ (y = t ∧ i = 0) → zb_rf R5 H y i = zb_rf R H y i := by
    intro y i hy hi hne
    obtain ⟨p1, p2, p3, _⟩ := hob y hy
    unfold zb_rf
    rw [hR5, zb_gd hlen, zb_gd (by rw [p3]; exact hi)]
    exact zb_put_q hQ hm hlen (List.mem_map_of_mem hy) (by rw [p3]; exact hi) (fun z => hne ⟨hinj _ _ hy ht z.1, z.2⟩)
  have r5t : zb_rf R5 H t 0 = zb_ov (zb_hP H x) := by unfold zb_rf; rw [hR5, eg_u_eq]
  have c5o : ∀ c, c ≠ 16 → C5 c = C c := fun c hc => by rw [hC5, eg_u_ne hc, eg_u_ne hc]
  have r5o : ∀ c, c ≠ 70 → R5 c = R c := fun c hc => by rw [hR5, eg_u_ne hc]
  rw [← hC5, ← hR5]
  rw [← hC5] at hH2
  have hQ2 : zb_HQ R5 cn (zb_hU H) ((zb_hO H).map (zb_hP H)) fs fc (zb_hC H) := by rw [hR5]; exact zb_put_HQ hQ
  refine ⟨⟨fl, hs, hH2⟩, ⟨fs, fc, hQ2⟩, fun y hy => ?_, ⟨fun u hu hku => ?_, fun u v e hu hku hv hkv he1 he2 => ?_⟩, by rw [c5o 15 (by decide), r5o 45 (by decide)]; exact hnum⟩
  · obtain ⟨p1, p2, p3, p4, p5, p6, p7⟩ := hob y hy
    refine ⟨by rw [r5o 62 (by decide)]; exact p1, by rw [r5o 66 (by decide), c5o 20 (by decide)]; exact p2, p3, p4, fun i hi => ?_, fun hk9 => ?_, fun hk9 => ?_⟩
    · show zb_FD C5 R5 H N y i
      by_cases hc : y = t ∧ i = 0
      · obtain ⟨h1, h2⟩ := hc
        subst h1; subst h2
        refine ⟨fun _ => ?_, fun z => absurd (Or.inr (Or.inl hk)) z⟩
        have e1 : zb_cf C5 H y 0 = 17179869184 + (x : Int) := by
          unfold zb_cf
          rw [if_pos (Or.inr (Or.inl hk)), hk]
          show zb_lv (C5 16 (zb_hS H y + 1)) = _
          rw [c51, zb_lv_g (by omega) (by omega)]
        rw [e1, r5t]
        exact Or.inr ⟨x, ⟨hx, by rw [hkx, hk]; rfl, fun z => absurd hk z⟩, rfl, rfl⟩
      · have hcl := zb_nf_ci p4 hi
        have e1 : zb_cf C5 H y i = zb_cf C H y i := by
          unfold zb_cf
          rw [zb_keepC y (zb_ci (zb_hK H y) i) hy hcl.1 (fun z => hc ⟨z.1, ?_⟩)]
          have h1 := z.1
          have hi' : i < zb_nf (zb_hK H y) (zb_hZ H y) := hi
          rw [h1, hnft] at hi'; omega
        unfold zb_FD
        rw [e1, keepR y i hy hi hc]
        exact p5 i hi
    · have hk9' : zb_hK H y = 3 := hk9
      obtain ⟨d, d1, d2, d3⟩ := p6 hk9'
      have hz : 1 < zb_hZ H y := by unfold zb_szk at p4; omega
      refine ⟨d, d1, ?_, by rw [r5o 64 (by decide)]; exact d3⟩
      show C5 16 (zb_hS H y + 1) = _
      rw [zb_keepC y 1 hy hz (fun z => by have h1 := z.1; rw [h1] at hk9'; omega)]; exact d2
    · have hk9' : zb_hK H y = 4 := hk9
      obtain ⟨d, d1, d2, d3⟩ := p7 hk9'
      have hz : 1 < zb_hZ H y := by unfold zb_szk at p4; omega
      refine ⟨d, d1, ?_, by rw [r5o 64 (by decide)]; exact d3⟩
      show C5 16 (zb_hS H y + 1) = _
      rw [zb_keepC y 1 hy hz (fun z => by have h1 := z.1; rw [h1] at hk9'; omega)]; exact d2
  · have hku' : zb_hK H u = 7 := hku
    have hu' : u ∈ zb_hO H := hu
    obtain ⟨t1, t2, t3⟩ := htb.1 u hu' hku'
    have hzu : zb_hZ H u = 3 := by have := (hob u hu').2.2.2.1; unfold zb_szk at this; omega
    have ce : ∀ e, e ∈ zb_hO H → zb_hK H e = 8 → C5 16 (zb_hS H e + 3) = C 16 (zb_hS H e + 3) := fun e he h8 => by
      have hz8 : zb_hZ H e = 5 := by have := (hob e he).2.2.2.1; unfold zb_szk at this; omega
      exact zb_keepC e 3 he (by omega) (fun z => by omega)
    have ec : zb_ech C5 (zb_Hte H t x) (zb_hE H u) (C 16 (zb_hS H u + 1)) := zb_ech_te (zb_ech_pt (fun e he => ce e (t3 e he).1 (t3 e he).2) t1)
    by_cases hut : u = t
    · subst hut
      have hEu : zb_hE (zb_Hte H u x) u = x :: zb_hE H u := if_pos rfl
      rw [hEu]
      refine ⟨⟨c51, ?_⟩, ?_, fun e he => ?_⟩
      · show zb_ech C5 (zb_Hte H u x) (zb_hE H u) (C5 16 (zb_hS H x + 3))
        rw [ce x hx hkx, h3]; exact ec
      · show C5 16 (zb_hS H u + 2) = _
        rw [c52]; simp
      · rcases List.mem_cons.mp he with z | z
        · rw [z]; exact ⟨hx, hkx⟩
        · exact t3 e z
    · have hEu : zb_hE (zb_Hte H t x) u = zb_hE H u := if_neg hut
      rw [hEu]
      refine ⟨?_, ?_, t3⟩
      · show zb_ech C5 (zb_Hte H t x) (zb_hE H u) (C5 16 (zb_hS H u + 1))
        rw [zb_keepC u 1 hu' (by omega) (fun z => hut z.1)]; exact ec
      · show C5 16 (zb_hS H u + 2) = _
        rw [zb_keepC u 2 hu' (by omega) (fun z => hut z.1)]; exact t2
  · have hu' : u ∈ zb_hO H := hu
    have hv' : v ∈ zb_hO H := hv
    have hku' : zb_hK H u = 7 := hku
    have hkv' : zb_hK H v = 7 := hkv
    have hEt : ∀ y, zb_hE (zb_Hte H t x) y = if y = t then x :: zb_hE H t else zb_hE H y := fun y => rfl
    rw [hEt] at he1 he2
    by_cases hut : u = t
    · by_cases hvt : v = t
      · rw [hut, hvt]
      · rw [if_pos hut] at he1
        rw [if_neg hvt] at he2
        rcases List.mem_cons.mp he1 with z | z
        · exact absurd (z ▸ he2) (hne v hv' hkv')
        · rw [hut]; exact htb.2 t v e ht hk hv' hkv' z he2
    · rw [if_neg hut] at he1
      by_cases hvt : v = t
      · rw [if_pos hvt] at he2
        rcases List.mem_cons.mp he2 with z | z
        · exact absurd (z ▸ he1) (hne u hu' hku')
        · rw [hvt]; exact htb.2 u t e hu' hku' ht hk he1 z
      · rw [if_neg hvt] at he2
        exact htb.2 u v e hu' hku' hv' hkv' he1 he2
theorem zb_ts_c (hr : zb_HR C R H cn N lam scp) {kv a : Int} (h16 : M 16 = C 16) (h17 : M 17 = C 17) : ∀ (es : List Nat) (x : Int), zb_ech C H es x → (∀ e, e ∈ es → e ∈ zb_hO H ∧ zb_hK H e = 8) →
    (lp (fn_102_7 cn (cn / 3 + 1) a kv M) x = some 0 ∧ ∀ e, e ∈ es → C 16 (zb_hS H e + 1) ≠ kv) ∨ ∃ e, e ∈ es ∧ C 16 (zb_hS H e + 1) = kv ∧ lp (fn_102_7 cn (cn / 3 + 1) a kv M) x = some (e : Int) := by
  intro es
  induction es with
  | nil =>
    intro x h1 _
    refine Or.inl ⟨?_, fun e he => by cases he⟩
    rw [show x = 0 from h1]; exact lp_inr (by unfold fn_102_7; rw [if_pos rfl])
  | cons e es ih =>
    intro x h1 h3
    obtain ⟨x1, x2⟩ := h1
    have he := h3 e (by simp)
    have hb := zb_hr_h hr he.1
    have hz : zb_hZ H e = 5 := by have := (zb_hr_ob hr he.1).2.2.2.1; rw [he.2] at this; unfold zb_szk at this; omega
    have g1 := zb_hr_get hr (M := M) h16 h17 he.1 (i := 1) (by omega)
    have g3 := zb_hr_get hr (M := M) h16 h17 he.1 (i := 3) (by omega)
    by_cases hkey : C 16 (zb_hS H e + 1) = kv
    · refine Or.inr ⟨e, by simp, hkey, ?_⟩
      rw [x1]
      refine lp_inr ?_
      unfold fn_102_7
      rw [if_neg (by omega), show fn_78 cn (cn / 3 + 1) (e : Int) 1 M = _ from g1, Option.bind_some, if_pos hkey]
    · have hx3 : ∃ g : Nat, C 16 (zb_hS H e + 3) = (g : Int) ∧ g < 20000 := by
        cases es with
        | nil => exact ⟨0, x2, by decide⟩
        | cons f fs => exact ⟨f, x2.1, by have := zb_hr_h hr (h3 f (by simp)).1; omega⟩
      obtain ⟨g, hg, hg2⟩ := hx3
      have e1 : lp (fn_102_7 cn (cn / 3 + 1) a kv M) x = lp (fn_102_7 cn (cn / 3 + 1) a kv M) (C 16 (zb_hS H e + 3)) := by
        rw [x1]
        refine lp_inl ?_
        unfold fn_102_7
        rw [if_neg (by omega), show fn_78 cn (cn / 3 + 1) (e : Int) 1 M = _ from g1, Option.bind_some, if_neg hkey, show fn_78 cn (cn / 3 + 1) (e : Int) 3 M = _ from g3, Option.bind_some, hg, zb_wi_n (by omega)]
      rw [e1]
      rcases ih _ x2 (fun f hf => h3 f (by simp [hf])) with ⟨q1, q2⟩ | ⟨f, f1, f2, f3⟩
      · refine Or.inl ⟨q1, fun f hf => ?_⟩
        rcases List.mem_cons.mp hf with z | z
        · rw [z]; exact hkey
        · exact q2 f z
      · exact Or.inr ⟨f, by simp [f1], f2, f3⟩
theorem zb_f102 (hr : zb_HR C R H cn N lam scp) {kv : Int} {t : Nat} (ht : t ∈ zb_hO H) (hk : zb_hK H t = 7) (h16 : M 16 = C 16) (h17 : M 17 = C 17) : fn_102 cn (cn / 3 + 1) (t : Int) kv M = lp (fn_102_7 cn (cn / 3 + 1) (t : Int) kv M) (C 16 (zb_hS H t + 1)) := by
  obtain ⟨u1, u2, u3, u4, u5⟩ := zb_tab_all hr ht hk
  have hzt : zb_hZ H t = 3 := by have := (zb_hr_ob hr ht).2.2.2.1; rw [hk] at this; unfold zb_szk at this; omega
  have g1 := zb_hr_get hr (M := M) h16 h17 ht (i := 1) (by omega)
  have hx1 : eg_wi (C 16 (zb_hS H t + 1)) = C 16 (zb_hS H t + 1) := by
    rw [zb_ech_hd u1]
    cases hh : zb_hE H t with
    | nil => rfl
    | cons f fs =>
      have := zb_hr_h hr (u3 f (by rw [hh]; simp)).1
      exact zb_wi_n (by omega)
  unfold fn_102
  rw [show fn_78 cn (cn / 3 + 1) (t : Int) 1 M = _ from g1, Option.bind_some, hx1]
end TE
section TE
variable {C R C' R' M : eM} {H : zb_Hp} {cn N us hs : Nat} {ord fl ps fs fc : List Nat} {st sz kd : Nat → Nat} {cs : Nat → List Nat} {lam : Nat → Prop} {scp : Nat → Nat → Prop}
theorem zb_get_cm (H : zb_HC C cn ord fl hs us st sz kd) {h i : Nat} (h17 : M 17 = C 17) (hh : h ∈ ord) (hi : i < sz h) : fn_78 cn (cn / 3 + 1) (h : Int) (i : Int) M = some (M 16 (st h + i)) := by
  obtain ⟨x1, x2, x3⟩ := zb_hc_h H hh
  have a := H.1
  have y1 := (H.2.2.1 h hh).1
  unfold fn_78
  rw [if_pos (by omega), Int.toNat_natCast, h17, y1, zb_wi_add (by omega), if_pos (by omega), Int.toNat_natCast]
theorem zb_put_cm (H : zb_HC C cn ord fl hs us st sz kd) {h i : Nat} {v : Int} (h17 : M 17 = C 17) (hh : h ∈ ord) (hi : i < sz h) : fn_94 cn (cn / 3 + 1) (h : Int) (i : Int) v M = some (eg_u M 16 (st h + i) v) := by
  obtain ⟨x1, x2, x3⟩ := zb_hc_h H hh
  have a := H.1
  have y1 := (H.2.2.1 h hh).1
  unfold fn_94
  rw [if_pos (by omega), Int.toNat_natCast, h17, y1, zb_wi_add (by omega), if_pos (by omega), Int.toNat_natCast]
theorem zb_get_rm (H : zb_HQ R cn us ps fs fc cs) {o i : Nat} (h65 : M 65 = R 65) (h71 : M 71 = R 71) (ho : o ∈ ps) (hi : i < (cs o).length) : fn_189 (zb_ov o) (i : Int) M = some (M 70 (cs o)[i]) := by
  have hc := zb_cs_lt H ho (List.getElem_mem hi)
  have h2 : fn_190 (o : Int) (i : Int) M = fn_190 (o : Int) (i : Int) R := by unfold fn_190 fn_190_7; rw [h65, h71]
  unfold fn_189
  rw [zb_f187 (zb_ps_lt H ho), Option.bind_some, h2, zb_get_a H ho hi, Option.bind_some, if_pos (by omega), Int.toNat_natCast]
theorem zb_put_rm (H : zb_HQ R cn us ps fs fc cs) {o i : Nat} {v : Int} (h65 : M 65 = R 65) (h71 : M 71 = R 71) (ho : o ∈ ps) (hi : i < (cs o).length) : fn_205 (zb_ov o) (i : Int) v M = some (eg_u M 70 (cs o)[i] v) := by
  have hc := zb_cs_lt H ho (List.getElem_mem hi)
  have h2 : fn_190 (o : Int) (i : Int) M = fn_190 (o : Int) (i : Int) R := by unfold fn_190 fn_190_7; rw [h65, h71]
  unfold fn_205
  rw [zb_f187 (zb_ps_lt H ho), Option.bind_some, h2, zb_get_a H ho hi, Option.bind_some, if_pos (by omega), Int.toNat_natCast]
theorem zb_eg_u_comm {a i j : Nat} {v w : Int} (h : i ≠ j) : eg_u (eg_u M a i v) a j w = eg_u (eg_u M a j w) a i v := by
  funext b q
  by_cases h1 : b = a ∧ q = j
  · obtain ⟨rfl, rfl⟩ := h1
    rw [eg_u_eq, eg_u_nj (fun z => h z.2.symm), eg_u_eq]
  · rw [eg_u_nj h1]
    by_cases h2 : b = a ∧ q = i
    · obtain ⟨rfl, rfl⟩ := h2
      rw [eg_u_eq, eg_u_eq]
    · rw [eg_u_nj h2, eg_u_nj h2, eg_u_nj h1]
set_option maxHeartbeats 2000000 in
theorem zb_te_make {B : zb_Bs} (hr : zb_HR C R H cn N lam scp) (hnum : zb_NUM B C H) {t : Nat} (ht : t ∈ zb_hO H) (hk : zb_hK H t = 7) (hroom : zb_hU H + 5 ≤ cn) {y z yw zw : Int} (hy : zb_VR (zb_vo H) (zb_hP H) N y yw) (hz : zb_VR (zb_vo H) (zb_hP H) N z zw) (hnf : fn_102 cn (cn / 3 + 1) (t : Int) y C = some 0) :
    ∃ (o : Nat) (C5 R3 m26 m32 m35 R5 : eM) (r28 : Int) (H5 : zb_Hp), fn_101 cn (cn / 3 + 1) (t : Int) y z C = some C5 ∧ fn_195_16 7 3 (-1) 5 R = some (zb_ov o, R3) ∧ fn_205 (zb_ov o) 0 yw R3 = some m26 ∧ fn_189 (zb_ov (zb_hP H t)) 0 m26 = some r28 ∧ fn_205 (zb_ov o) 2 r28 m26 = some m32 ∧ fn_205 (zb_ov (zb_hP H t)) 0 (zb_ov o) m32 = some m35 ∧ fn_205 (zb_ov o) 1 zw m35 = some R5 ∧ (R3 77 = R 77 ∧ m35 77 = R 77)
      ∧ zb_HR C5 R5 H5 cn N lam scp ∧ (∀ g, g ∈ zb_hO H → zb_TRg H H5 g) ∧ (∀ h, h ∈ zb_hO H → zb_hK H h = 3 → zb_cl C5 H5 h 1 = zb_cl C H h 1) ∧ zb_NUM B C5 H5
      ∧ (∀ c, c ∉ ([15, 16, 17, 18, 19, 20] : List Nat) → C5 c = C c) ∧ C5 15 11 = C 15 11 ∧ C5 15 12 = 0 ∧ (∀ c, c ∉ ([45, 62, 63, 65, 66, 68, 70, 71] : List Nat) → R5 c = R c) ∧ (∀ f, f ∉ ([28, 29, 38, 41] : List Nat) → R5 45 f = R 45 f) := by
  obtain ⟨x, o, C1, R3, ls, m1, m2, m⟩ := zb_hr_make hr (k := 8) (s := 5) (by unfold zb_szk; omega) hroom (-1)
  have hm := m
  obtain ⟨⟨n1, n2, n3, n4, n5, n6⟩, ⟨flC, hsC, hHC⟩, ⟨fsQ, fcQ, hHQ⟩, ⟨p1, p2, p3, p4, p5, p6, p7⟩, ⟨q1, q2, q3, q4, q5, q6, q7, q8, q9, q10, q11⟩⟩ := hm
  have hmo := zb_mk_old (k := 8) (s := 5) (l := ls) n1 n5 ht
  have hnew := zb_mk_new (H := H) (x := x) (o := o) (k := 8) (s := 5) (l := ls)
  have hzt : zb_hZ H t = 3 := by have := (zb_hr_ob hr ht).2.2.2.1; rw [hk] at this; unfold zb_szk at this; omega
  have hbt := zb_hr_h hr ht
  obtain ⟨u1, u2, u3, u4, u5⟩ := zb_tab_all hr ht hk
  have hnft : zb_nf (zb_hK H t) (zb_hZ H t) = 1 := by rw [hk]; rfl
  have hls : ls.length = 3 := q6
  have htO : t ∈ zb_hO H ++ [x] := hmo.2.2.2.2.2.2
  obtain ⟨hd, hhd⟩ : ∃ hd, hd = C 16 (zb_hS H t + 1) := ⟨_, rfl⟩
  obtain ⟨C2, hC2⟩ : ∃ X, X = eg_u C1 16 (zb_hU H + 1) y := ⟨_, rfl⟩
  obtain ⟨C3, hC3⟩ : ∃ X, X = eg_u C2 16 (zb_hU H + 3) hd := ⟨_, rfl⟩
  obtain ⟨C4, hC4⟩ : ∃ X, X = eg_u C3 16 (zb_hU H + 2) z := ⟨_, rfl⟩
  obtain ⟨C5, hC5⟩ : ∃ X, X = eg_u (eg_u C4 16 (zb_hS H t + 1) (x : Int)) 16 (zb_hS H t + 2) (((zb_hE H t).length + 1 : Nat) : Int) := ⟨_, rfl⟩
  have c4lo : ∀ a, a ≤ zb_hU H ∨ zb_hU H + 5 ≤ a → C4 16 a = C1 16 a := fun a ha => by rw [hC4, hC3, hC2, eg_u_nj (by omega), eg_u_nj (by omega), eg_u_nj (by omega)]
  have c4o : ∀ c, c ≠ 16 → C4 c = C1 c := fun c hc => by rw [hC4, hC3, hC2, eg_u_ne hc, eg_u_ne hc, eg_u_ne hc]
  have c5o : ∀ c, c ≠ 16 → C5 c = C1 c := fun c hc => by rw [hC5, eg_u_ne hc, eg_u_ne hc]; exact c4o c hc
  have hst : zb_hS (zb_Hmk H x o 8 5 ls) t = zb_hS H t := hmo.1
  have hszt : zb_hZ (zb_Hmk H x o 8 5 ls) t = 3 := by rw [hmo.2.1]; exact hzt
  have e101 : fn_101 cn (cn / 3 + 1) (t : Int) y z C = some C5 := by
    unfold fn_101
    rw [hnf, Option.bind_some, if_neg (fun z => z rfl), show fn_93 cn (cn / 3 + 1) 8 5 C = _ from m1, Option.bind_some]
    show (if ¬ (x : Int) = 0 then (fn_94 cn (cn / 3 + 1) (x : Int) ((1 : Nat) : Int) y C1).bind fun m14 => (fn_78 cn (cn / 3 + 1) (t : Int) ((1 : Nat) : Int) m14).bind fun r16 => (fn_94 cn (cn / 3 + 1) (x : Int) ((3 : Nat) : Int) r16 m14).bind fun m20 => (fn_94 cn (cn / 3 + 1) (t : Int) ((1 : Nat) : Int) (x : Int) m20).bind fun m23 => (fn_78 cn (cn / 3 + 1) (t : Int) ((2 : Nat) : Int) m23).bind fun r25 => (fn_94 cn (cn / 3 + 1) (t : Int) ((2 : Nat) : Int) (eg_wl (r25 + 1)) m23).bind fun m29 => (fn_94 cn (cn / 3 + 1) (x : Int) ((2 : Nat) : Int) z m29).bind fun m32 => some m32 else some C1) = _
    rw [if_pos (by omega), zb_mk_put m rfl (by decide), Option.bind_some, ← hC2]
    have h17 : C2 17 = C1 17 := by rw [hC2, eg_u_ne (by decide)]
    rw [zb_get_cm hHC h17 htO (by rw [hszt]; decide), Option.bind_some, hst, show C2 16 (zb_hS H t + 1) = hd by rw [hC2, eg_u_nj (by omega), p3 _ (by omega), hhd], zb_mk_put m h17 (by decide), Option.bind_some, ← hC3]
    have h17b : C3 17 = C1 17 := by rw [hC3, eg_u_ne (by decide)]; exact h17
    rw [zb_put_cm hHC h17b htO (by rw [hszt]; decide), Option.bind_some, hst]
    have h17c : (eg_u C3 16 (zb_hS H t + 1) (x : Int)) 17 = C1 17 := by rw [eg_u_ne (by decide)]; exact h17b
    rw [zb_get_cm hHC h17c htO (by rw [hszt]; decide), Option.bind_some, hst, show (eg_u C3 16 (zb_hS H t + 1) (x : Int)) 16 (zb_hS H t + 2) = ((zb_hE H t).length : Int) by rw [eg_u_nj (by omega), hC3, hC2, eg_u_nj (by omega), eg_u_nj (by omega), p3 _ (by omega)]; exact u2]
    rw [show eg_wl (((zb_hE H t).length : Int) + 1) = (((zb_hE H t).length + 1 : Nat) : Int) by unfold eg_wl; omega, zb_put_cm hHC h17c htO (by rw [hszt]; decide), Option.bind_some, hst, zb_mk_put m (by rw [eg_u_ne (by decide)]; exact h17c) (by decide), Option.bind_some, hC5, hC4, zb_eg_u_comm (i := zb_hS H t + 2) (j := zb_hU H + 2) (by omega), zb_eg_u_comm (i := zb_hS H t + 1) (j := zb_hU H + 2) (by omega)]
  have hpm : zb_hP H t ∈ (zb_hO H).map (zb_hP H) ++ [o] := List.mem_append_left _ (List.mem_map_of_mem ht)
  have hCt : zb_hC (zb_Hmk H x o 8 5 ls) (zb_hP H t) = zb_hC H (zb_hP H t) := hmo.2.2.2.2.2.1
  have hlt : 0 < (zb_hC H (zb_hP H t)).length := by rw [(zb_hr_ob hr ht).2.2.1, hnft]; decide
  have hlt' : 0 < (zb_hC (zb_Hmk H x o 8 5 ls) (zb_hP H t)).length := by rw [hCt]; exact hlt
  obtain ⟨zb_ct, hct⟩ : ∃ zb_ct, zb_ct = (zb_hC H (zb_hP H t)).getD 0 0 := ⟨_, rfl⟩
  have hct2 : (zb_hC (zb_Hmk H x o 8 5 ls) (zb_hP H t))[0] = zb_ct := by rw [hct, zb_gd hlt]; simp only [hCt]
  have hctn : zb_ct ∉ ls := q9 (zb_hP H t) zb_ct (List.mem_map_of_mem ht) (by rw [hct, zb_gd hlt]; exact List.getElem_mem _)
  obtain ⟨lk, hlk⟩ : ∃ lk, lk = zb_rf R H t 0 := ⟨_, rfl⟩
  match ls, hls with
  | [l0, l1, l2], _ =>
  have hnd : (l0 ≠ l1 ∧ l0 ≠ l2) ∧ l1 ≠ l2 := by simp at q8; exact q8
  have hctn' : zb_ct ≠ l0 ∧ zb_ct ≠ l1 ∧ zb_ct ≠ l2 := by simp at hctn; exact hctn
  obtain ⟨m26, h26⟩ : ∃ X, X = eg_u R3 70 l0 yw := ⟨_, rfl⟩
  obtain ⟨m32, h32⟩ : ∃ X, X = eg_u m26 70 l2 lk := ⟨_, rfl⟩
  obtain ⟨m35, h35⟩ : ∃ X, X = eg_u m32 70 zb_ct (zb_ov o) := ⟨_, rfl⟩
  obtain ⟨R4, hR4⟩ : ∃ X, X = eg_u m32 70 l1 zw := ⟨_, rfl⟩
  obtain ⟨R5, hR5⟩ : ∃ X, X = eg_u R4 70 zb_ct (zb_ov o) := ⟨_, rfl⟩
  have r26 : ∀ c, c ≠ 70 → m26 c = R3 c := fun c hc => by rw [h26, eg_u_ne hc]
  have r32 : ∀ c, c ≠ 70 → m32 c = R3 c := fun c hc => by rw [h32, eg_u_ne hc]; exact r26 c hc
  have r35 : ∀ c, c ≠ 70 → m35 c = R3 c := fun c hc => by rw [h35, eg_u_ne hc]; exact r32 c hc
  have r4 : ∀ c, c ≠ 70 → R4 c = R3 c := fun c hc => by rw [hR4, eg_u_ne hc]; exact r32 c hc
  have r5 : ∀ c, c ≠ 70 → R5 c = R3 c := fun c hc => by rw [hR5, eg_u_ne hc]; exact r4 c hc
  have e1 : fn_205 (zb_ov o) 0 yw R3 = some m26 := by rw [h26]; exact zb_mk_set m rfl rfl (i := 0) (by decide)
  have e2 : fn_189 (zb_ov (zb_hP H t)) 0 m26 = some lk := by
    rw [show fn_189 (zb_ov (zb_hP H t)) 0 m26 = _ from zb_get_rm (i := 0) hHQ (r26 65 (by decide)) (r26 71 (by decide)) hpm hlt', hct2, h26, eg_u_nj (fun z => hctn'.1 z.2), q5 zb_ct hctn, hlk]
    unfold zb_rf; rw [← hct]
  have e3 : fn_205 (zb_ov o) 2 lk m26 = some m32 := by rw [h32]; exact zb_mk_set m (r26 65 (by decide)) (r26 71 (by decide)) (i := 2) (by decide)
  have e4 : fn_205 (zb_ov (zb_hP H t)) 0 (zb_ov o) m32 = some m35 := by
    rw [show fn_205 (zb_ov (zb_hP H t)) 0 (zb_ov o) m32 = _ from zb_put_rm (i := 0) hHQ (r32 65 (by decide)) (r32 71 (by decide)) hpm hlt', hct2, h35]
  have e5 : fn_205 (zb_ov o) 1 zw m35 = some R5 := by
    rw [show fn_205 (zb_ov o) 1 zw m35 = _ from zb_mk_set m (r35 65 (by decide)) (r35 71 (by decide)) (i := 1) (by decide), hR5, hR4, h35]
    show some (eg_u (eg_u m32 70 zb_ct (zb_ov o)) 70 l1 zw) = _
    rw [zb_eg_u_comm hctn'.2.1]
  have hvr : ∀ {v w : Int}, zb_VR (zb_vo H) (zb_hP H) N v w → zb_VR (zb_vo (zb_Hmk H x o 8 5 [l0, l1, l2])) (zb_hP (zb_Hmk H x o 8 5 [l0, l1, l2])) N v w := fun h => zb_VR_mono h (Nat.le_refl _) (fun g hg => zb_mk_vo n1 n5 hg)
  have hr4 : zb_HR C4 R4 (zb_Hmk H x o 8 5 [l0, l1, l2]) cn N lam scp := by
    refine zb_hr_made hr (by unfold zb_szk; omega) m (fun f _ => by rw [c4o 15 (by decide)]) (fun c hc => c4o c (by revert hc; simp; omega)) c4lo (fun f _ => by rw [r4 45 (by decide)]) (fun c hc => r4 c (by revert hc; simp; omega)) (fun q _ => by rw [r4 64 (by decide)]) (fun c hc => ?_) (fun j hj => ?_) (fun z => by omega) (fun z => by omega) (fun z => by omega)
    · simp only [List.mem_cons, List.not_mem_nil, or_false, not_or] at hc
      rw [hR4, h32, h26, eg_u_nj (fun z => hc.2.1 z.2), eg_u_nj (fun z => hc.2.2 z.2), eg_u_nj (fun z => hc.1 z.2)]
    · have hj3 : j < 3 := hj
      unfold zb_FD zb_cf zb_rf
      rw [hnew.2.2.1, hnew.1, hnew.2.2.2.1, hnew.2.2.2.2.2.1]
      rcases (show j = 0 ∨ j = 1 ∨ j = 2 by omega) with e | e | e <;> subst e
      · refine ⟨fun z => absurd z (by unfold zb_isl; omega), fun _ => ?_⟩
        rw [if_neg (by unfold zb_isl; omega)]
        show zb_VR _ _ N (C4 16 (zb_hU H + 1)) (R4 70 l0)
        rw [hC4, hC3, hC2, eg_u_nj (by omega), eg_u_nj (by omega), eg_u_eq, hR4, h32, h26, eg_u_nj (fun z => hnd.1.1 z.2), eg_u_nj (fun z => hnd.1.2 z.2), eg_u_eq]
        exact hvr hy
      · refine ⟨fun z => absurd z (by unfold zb_isl; omega), fun _ => ?_⟩
        rw [if_neg (by unfold zb_isl; omega)]
        show zb_VR _ _ N (C4 16 (zb_hU H + 2)) (R4 70 l1)
        rw [hC4, eg_u_eq, hR4, eg_u_eq]
        exact hvr hz
      · refine ⟨fun _ => ?_, fun z => absurd (Or.inr (Or.inr ⟨rfl, rfl⟩)) z⟩
        rw [if_pos (Or.inr (Or.inr ⟨rfl, rfl⟩))]
        show zb_LN _ _ (zb_lv (C4 16 (zb_hU H + 3))) (R4 70 l2)
        rw [hC4, hC3, eg_u_nj (by omega), eg_u_eq, hR4, h32, eg_u_nj (fun z => hnd.2 z.2.symm), eg_u_eq]
        have hfd := ((zb_hr_ob hr ht).2.2.2.2.1 0 (by omega)).1 (Or.inr (Or.inl hk))
        unfold zb_cf at hfd
        rw [if_pos (Or.inr (Or.inl hk)), hk] at hfd
        have hfd' : zb_LN (zb_lt H t) (zb_hP H) (zb_lv hd) lk := by rw [hhd, hlk]; exact hfd
        rcases hfd' with ⟨a, b⟩ | ⟨g, ⟨g1, g2, g3⟩, g4, g5⟩
        · exact Or.inl ⟨a, b⟩
        · have hgo := zb_mk_old (k := 8) (s := 5) (l := [l0, l1, l2]) n1 n5 g1
          have hgb := zb_hr_h hr g1
          have hgz := zb_nf_le (zb_hr_ob hr g1).2.2.2.1
          refine Or.inr ⟨g, ⟨hgo.2.2.2.2.2.2, ?_, fun _ => ?_⟩, g4, by rw [hgo.2.2.2.1]; exact g5⟩
          · rw [hgo.2.2.1, g2, hk, hnew.2.2.1]; rfl
          · rw [hgo.1, hnew.1]; omega
  have hEx : ∀ u, u ∈ zb_hO (zb_Hmk H x o 8 5 [l0, l1, l2]) → zb_hK (zb_Hmk H x o 8 5 [l0, l1, l2]) u = 7 → x ∉ zb_hE (zb_Hmk H x o 8 5 [l0, l1, l2]) u := by
    intro u hu hku hx
    rcases zb_mk_mem hu with z | z
    · have huo := zb_mk_old (k := 8) (s := 5) (l := [l0, l1, l2]) n1 n5 z
      rw [huo.2.2.2.2.1] at hx
      rw [huo.2.2.1] at hku
      exact n1 ((hr.2.2.2.1.1 u z hku).2.2 x hx).1
    · rw [z, hnew.2.2.1] at hku; omega
  have hr5 := zb_hr_tab hr4 (t := t) (x := x) hmo.2.2.2.2.2.2 (by rw [hmo.2.2.1]; exact hk) hnew.2.2.2.2.2.2 hnew.2.2.1 hEx (by
    rw [hnew.1, hmo.1, hC4, hC3, eg_u_nj (by omega), eg_u_eq, eg_u_nj (by omega), eg_u_nj (by omega), hC2, eg_u_nj (by omega), p3 _ (by omega), hhd])
  rw [hmo.1, hmo.2.2.2.2.1, hmo.2.2.2.1, hmo.2.2.2.2.2.1, hnew.2.2.2.1, ← hct, ← hC5, ← hR5] at hr5
  refine ⟨o, C5, R3, m26, m32, m35, R5, lk, zb_Hte (zb_Hmk H x o 8 5 [l0, l1, l2]) t x, e101, m2, e1, e2, e3, e4, e5, ⟨q10 77 (by decide), by rw [r35 77 (by decide)]; exact q10 77 (by decide)⟩, hr5, fun g hg => zb_mk_trg m g hg, fun h hh hk3 => ?_, ?_, fun c hc => ?_, by rw [c5o 15 (by decide)]; exact p6, by rw [c5o 15 (by decide)]; exact p4, fun c hc => ?_, fun f hf => ?_⟩
  · have hho := zb_mk_old (k := 8) (s := 5) (l := [l0, l1, l2]) n1 n5 hh
    have hb := zb_hr_h hr hh
    have hzh : zb_hZ H h = 4 := by have := (zb_hr_ob hr hh).2.2.2.1; rw [hk3] at this; unfold zb_szk at this; omega
    have hne : h ≠ t := fun e => by rw [e] at hk3; omega
    have hH4 := hr.1
    obtain ⟨flo, hso, hHo⟩ := hH4
    show C5 16 (zb_hS (zb_Hmk H x o 8 5 [l0, l1, l2]) h + 1) = C 16 (zb_hS H h + 1)
    have a1 := zb_put_o (v := (x : Int)) hHo ht (i := 1) (by omega) hh (j := 1) (by omega) (fun z => hne z.1)
    have a2 := zb_put_o (v := (x : Int)) hHo ht (i := 2) (by omega) hh (j := 1) (by omega) (fun z => hne z.1)
    have d1 : zb_hS H h + 1 ≠ zb_hS H t + 1 := fun e => by
      rw [e, eg_u_eq] at a1
      have a1' := zb_put_o (v := (x : Int) + 1) hHo ht (i := 1) (by omega) hh (j := 1) (by omega) (fun z => hne z.1)
      rw [e, eg_u_eq] at a1'
      omega
    have d2 : zb_hS H h + 1 ≠ zb_hS H t + 2 := fun e => by
      rw [e, eg_u_eq] at a2
      have a2' := zb_put_o (v := (x : Int) + 1) hHo ht (i := 2) (by omega) hh (j := 1) (by omega) (fun z => hne z.1)
      rw [e, eg_u_eq] at a2'
      omega
    rw [hho.1, hC5, eg_u_nj (fun z => d2 z.2), eg_u_nj (fun z => d1 z.2), c4lo _ (by omega), p3 _ (by omega)]
  · exact zb_mk_num hnum m (c5o 20 (by decide)) (by rw [c5o 15 (by decide)]) (by rw [c5o 44 (by decide), p7 44 (by decide)]; exact Int.le_refl _)
  · rw [c5o c (fun e => hc (by rw [e]; decide))]; exact p7 c hc
  · rw [r5 c (fun e => hc (by rw [e]; decide))]; exact q10 c hc
  · rw [r5 45 (by decide)]; exact q11 f (fun e => hf (by rw [e]; decide)) (fun e => hf (by rw [e]; decide)) (fun e => hf (by rw [e]; decide)) (fun e => hf (by rw [e]; decide))
end TE
section PRM
variable {B : zb_Bs} {Q : zb_Pq} {Z sp0 zb_sp : Nat} {C R C' R' C3 R3 M : eM} {H H' : zb_Hp} {rl ql rl' ql' : List (Nat × Nat)} {fd fd' fu p n : Nat} {l : List zb_Rec} {r : zb_Rec} {a' : Int}
set_option maxHeartbeats 2000000 in
theorem zb_prim_tput (h : zb_PCX B C R H rl ql fd fu r l p n Z sp0 zb_sp) (hp : p = 26) : zb_PRES B Q Z sp0 zb_sp C R l n a' := by
  by_cases hn : zb_arl.getD p 0 = n
  rotate_left
  · exact zb_pr_count h hn
  subst hp
  have hn2 : n = 3 := by rw [← hn]; rfl
  subst hn2
  have hl := zb_pc_len h
  have v1 := zb_pc_vr h (j := 0) (by omega)
  have v2 := zb_pc_vr h (j := 1) (by omega)
  have v3 := zb_pc_vr h (j := 2) (by omega)
  simp only [Nat.zero_add, Nat.add_zero, Nat.reduceAdd] at v1 v2 v3
  have hb : 0 ≤ ((zb_bb l + 1 : Nat) : Int) ∧ ((zb_bb l + 1 : Nat) : Int) < 19000 := by omega
  obtain ⟨x, hx⟩ : ∃ x, x = C 35 (9 * (l.length + 1) + 1) := ⟨_, rfl⟩
  obtain ⟨y, hy⟩ : ∃ y, y = C 35 (9 * (l.length + 1) + 2) := ⟨_, rfl⟩
  obtain ⟨z, hz⟩ : ∃ z, z = C 35 (9 * (l.length + 1) + 3) := ⟨_, rfl⟩
  have hsx := h.1.1
  have se := zb_pc_se (a' := a') h
  have hr0 := zb_gs_hr se.1.1
  have hc : ∀ M : eM, zb_KEP (zb_c2m C l a') M → fn_74 B.2.2.1 (B.2.2.1 / 3 + 1) ((l.length + 1 : Nat) : Int) M = ((fn_76 (B.2.2.1 / 3 + 1) x 7 M).bind fun r18 => if r18 = 0 ∨ r18 = 1 then some r18 else none).bind fun r1 => if ¬ r1 = 0 then (((fn_101 B.2.2.1 (B.2.2.1 / 3 + 1) (eg_wi x) y z M).bind fun m61 => some ((4294967298 : Int), m61)).bind (zb_fin74 (l.length + 1))) else some (eg_u M 44 8 9) := fun M kM => by
    rw [hx, hy, hz, zb_pc_3 (a' := a') (c := 116) (d := 120) (g := 120) h rfl (by decide) (by decide) (by decide) kM, zb_d75_t]
    congr 1; funext r1
    rw [zb_d75_x, zb_d75_x, Option.bind_some, if_pos (show ¬ (1 : Int) = 0 by decide), Option.bind_some, if_pos (show ¬ (1 : Int) = 0 by decide), zb_d79_26, zb_bpair, zb_d91_26]
  have hr : fn_226 ((26 : Nat) : Int) ((zb_bb l + 1 : Nat) : Int) R = fn_235 26 (R 77 (zb_bb l + 1)) ((zb_bb l + 1 : Nat) : Int) R := by
    rw [zb_d226_w (by decide) (by decide) (by decide) hb]
    show fn_233_9 26 _ _ R = _
    rw [zb_d233_26, Int.toNat_natCast, zb_bpair]
  unfold fn_235 at hr
  rw [← hx] at v1
  rw [← hy] at v2
  rw [← hz] at v3
  rcases zb_is_ok (k := 7) (M := zb_c2m C l a') h v1 (by omega) (zb_c2o (by decide) (by decide)) with ⟨g, gv, e1, e2, e3, e4, e5, e6, e7⟩ | ⟨e1, e2⟩
  rotate_left
  · have e1' : fn_76 (B.2.2.1 / 3 + 1) x 7 (zb_c2m C l a') = some 0 := e1
    have e2' : fn_223 (R 77 (zb_bb l + 1)) 6 R = some 0 := e2
    refine zb_pr_f (k := 9) h rfl (by decide) (by decide) (Or.inl ?_) ?_
    · rw [hc _ (zb_pc_kep h), e1', Option.bind_some, if_pos (Or.inl rfl), Option.bind_some, if_neg (fun z => z rfl)]
    · rw [hr, e2', Option.bind_some, if_neg (fun z => z rfl)]; rfl
  have e5' : fn_223 (R 77 (zb_bb l + 1)) 6 R = some 1 := e5
  rw [e5', Option.bind_some, if_pos (by decide), if_pos (by decide), zb_wi_1 (by omega), zb_wi_2 (by omega), if_pos (by omega), Int.toNat_natCast, Int.toNat_natCast, e2] at hr
  have hcl : ∀ (M R' : eM) (H' : zb_Hp) (rl' ql' : List (Nat × Nat)), zb_GS B M R' H' rl' ql' fd → zb_KEP (zb_c2m C l a') M → zb_TRg H H' g → fn_74 B.2.2.1 (B.2.2.1 / 3 + 1) ((l.length + 1 : Nat) : Int) M = ((fn_101 B.2.2.1 (B.2.2.1 / 3 + 1) (g : Int) y z M).bind fun m61 => some ((4294967298 : Int), m61)).bind (zb_fin74 (l.length + 1)) := by
    intro M R' H' rl' ql' gM kM tr
    have hk18 : M 18 g = ((7 : Nat) : Int) := by rw [(zb_hr_k (zb_gs_hr gM) tr.1).1, tr.2.1, e3]
    have hbg := zb_hr_h (zb_gs_hr gM) tr.1
    rw [hc M kM, e1, zb_f76_ob (by omega) e6 hk18, if_pos (by rfl), Option.bind_some, if_pos (Or.inr rfl), Option.bind_some, if_pos (show ¬ (1 : Int) = 0 by decide), zb_wi_obj e6]
  have hc0 := hcl _ _ _ _ _ se.1.1 (zb_pc_kep h) (zb_trg_rfl gv.1)
  obtain ⟨u1, u2, u3, u4, u5⟩ := zb_tab_all hr0 gv.1 e3
  have f2 := zb_f102 (kv := y) (M := zb_c2m C l a') hr0 gv.1 e3 rfl rfl
  have g2 := zb_hr_getr hr0 (M := R) rfl rfl rfl gv.1 (j := 0) (by rw [e3]; exact Nat.one_pos)
  have s2 : ∀ q, lp (fn_236_5 (zb_ov (zb_hP H g)) (R 77 (zb_bb l + 1 + 1)) R) (zb_rf R H g 0) = some q → fn_236 (zb_ov (zb_hP H g)) (R 77 (zb_bb l + 1 + 1)) R = some q := fun q e => by
    unfold fn_236
    rw [show fn_189 (zb_ov (zb_hP H g)) 0 R = _ from g2, Option.bind_some, e]
  rcases zb_tsr (M := zb_c2m C l a') (a := (g : Int)) (b := zb_ov (zb_hP H g)) hr0 (zb_pc_444 h) v2 rfl rfl (zb_hE H g) _ _ u1 u4 u3 with ⟨t1, t2⟩ | ⟨e, t0, t1, t2⟩
  rotate_left
  · -- the key is there
    have he := u3 e t0
    have hbe := zb_hr_h hr0 he.1
    have hnf : zb_nf (zb_hK H e) (zb_hZ H e) = 3 := by rw [he.2]; rfl
    have hnl : ¬ zb_isl (zb_hK H e) 1 := by rw [he.2]; unfold zb_isl; omega
    have hci : zb_ci (zb_hK H e) 1 = 2 := by rw [he.2]; rfl
    obtain ⟨q1, q2, _⟩ := zb_hr_put (j := 1) hr0 he.1 (by omega) hnl v3
    refine zb_pr_put (j := 1) h rfl (by decide) he.1 (by omega) (by omega) hnl v3 (Or.inl rfl) ?_ ?_
    · rw [hc0]
      unfold fn_101
      rw [f2, t1, Option.bind_some, if_pos (by omega), hci]
      rw [hci] at q1
      rw [show fn_94 B.2.2.1 (B.2.2.1 / 3 + 1) (e : Int) 2 z (zb_c2m C l a') = _ from q1]; rfl
    · rw [hr, s2 _ t2, Option.bind_some, if_pos (by decide), if_pos zb_ovn, if_pos (by omega), show fn_205 (zb_ov (zb_hP H e)) 1 (R 77 (zb_bb l + 1 + 2)) R = _ from q2]; rfl
  have hnf0 : fn_102 B.2.2.1 (B.2.2.1 / 3 + 1) (g : Int) y (zb_c2m C l a') = some 0 := by rw [f2]; exact t1
  have hall : ∀ e, e ∈ zb_hE H g → (zb_c2m C l a') 16 (zb_hS H e + 1) ≠ y := by
    rcases zb_ts_c (kv := y) (a := (g : Int)) (M := zb_c2m C l a') hr0 rfl rfl (zb_hE H g) _ u1 u3 with ⟨_, q⟩ | ⟨e, q1, q2, q3⟩
    · exact q
    · rw [t1] at q3
      have hbe := zb_hr_h hr0 (u3 e q1).1
      have := Option.some.inj q3; omega
  rw [s2 _ t2, Option.bind_some, if_pos (by decide), if_neg (fun z => z rfl)] at hr
  obtain ⟨⟨gg, s9, zb_ct, fl, tp1, tp2, tp3⟩, f, ca, dp⟩ := se
  have ops : ∀ {H1 : zb_Hp} (k10 : ∀ g, g ∈ zb_hO H → zb_RTS (zb_c2m C l a') (r :: l).length g → zb_TRg H H1 g) {i : Nat}, i < 3 → ∀ g', g' ∈ zb_hO H → C 35 (9 * (l.length + 1) + (i + 1)) = 17179869184 + (g' : Int) → zb_TRg H H1 g' := fun k10 i hi g' hg' e' => by
    refine k10 g' hg' (Or.inr ⟨l.length + 1, i + 1, by omega, by simp, ?_, ?_⟩)
    · rw [zb_c2o (by decide) (by decide), hsx.1.2.1.1.1.2.1, h.1.2.2.2.1]; omega
    · rw [zb_c2o (by decide) (by decide)]; exact e'
  have trg : ∀ {H1 : zb_Hp}, (∀ g, g ∈ zb_hO H → zb_RTS (zb_c2m C l a') (r :: l).length g → zb_TRg H H1 g) → zb_TRg H H1 g := fun k10 => ops k10 (i := 0) (by decide) g gv.1 (by rw [← e1, hx])
  have hP1 : ∀ (M R1 : eM) (H1 : zb_Hp) (rl1 ql1 : List (Nat × Nat)), zb_GS B M R1 H1 rl1 ql1 fd → zb_XT (zb_c2m C l a') H M H1 → (∀ g, g ∈ zb_hO H → zb_RTS (zb_c2m C l a') (r :: l).length g → zb_TRg H H1 g) → fn_102 B.2.2.1 (B.2.2.1 / 3 + 1) (g : Int) y M = some 0 := by
    intro M R1 H1 rl1 ql1 gM xt tr
    have tg := trg tr
    have hk7 : zb_hK H1 g = 7 := by rw [tg.2.1]; exact e3
    obtain ⟨w1, w2, w3, w4, zb_w5⟩ := zb_tab_all (zb_gs_hr gM) tg.1 hk7
    rw [zb_f102 (kv := y) (M := M) (zb_gs_hr gM) tg.1 hk7 rfl rfl]
    rcases zb_ts_c (kv := y) (a := (g : Int)) (M := M) (zb_gs_hr gM) rfl rfl (zb_hE H1 g) _ w1 w3 with ⟨q, _⟩ | ⟨e, q1, q2, q3⟩
    · exact q
    · obtain ⟨x1, x2⟩ := xt g e tg.1 e3 q1 (w3 e q1).1
      unfold zb_cl at x2
      rw [q2] at x2
      exact absurd x2.symm (hall e x1)
  have hstep : ∀ (M R' : eM) (H' : zb_Hp) (rl' ql' : List (Nat × Nat)) (sp' : Nat), zb_GS B M R' H' rl' ql' fd → zb_KEP (zb_c2m C l a') M → fn_102 B.2.2.1 (B.2.2.1 / 3 + 1) (g : Int) y M = some 0 → M 15 11 = 0 → ¬ zb_hU H' + 5 ≤ B.2.2.1 → sp' < 1000000 → (∀ g, g ∈ zb_hO H → zb_RTS (zb_c2m C l a') (r :: l).length g → zb_TRg H H' g) → (∀ h i, h ∈ zb_hO H' → zb_hK H h ≤ 4 → i < zb_hZ H h → zb_cl M H' h i = zb_cl (zb_c2m C l a') H h i) → zb_CL B.2.2.1 Q (sp' : Int) M = zb_AF B.2.2.1 Q (sp' : Int) (eg_u M 15 11 1) := by
    intro M R' H' rl' ql' sp' gM kM zb_hP h11 hno' hs' tr _
    obtain ⟨⟨fl', hs9, hH⟩, _⟩ := zb_gs_hr gM
    have e9 : fn_101 B.2.2.1 (B.2.2.1 / 3 + 1) (g : Int) y z M = some (eg_u M 15 11 1) := by
      unfold fn_101
      rw [zb_hP, Option.bind_some, if_neg (fun z => z rfl), show fn_93 B.2.2.1 (B.2.2.1 / 3 + 1) 8 5 M = _ from zb_make_no (k := 8) hH hno', Option.bind_some]
      show (if ¬ (0 : Int) = 0 then _ else some (eg_u M 15 11 1)) = _
      rw [if_neg (fun z => z rfl)]
    rw [zb_pc_cl h kM hs', hcl M R' H' rl' ql' gM kM (trg tr), e9, Option.bind_some, Option.bind_some, zb_fin_no kM.2.2.2 (by rw [kM.2.2.1 4 (by decide)]; exact fl.1.2.1) (by rw [kM.2.1 8 (by decide)]; exact fl.1.1), Option.bind_some]
  have hroom := zb_room2 (Q := Q) (zb_sp := zb_sp) (k := 8) (s := 5) (v := -1) (e := 0) (f := 0) (bn := 0) (fun M => fn_102 B.2.2.1 (B.2.2.1 / 3 + 1) (g : Int) y M = some 0) hnf0 hP1 gg s9 (by simp only [List.length_cons]; omega) (by omega) tp1 (fun z => by omega) (Or.inl rfl) (fun z => rfl) tp2 tp3 (by rw [fl.2.1.2.1]; rfl)
      (zb_qb_none fl.2.2 fl.2.1.1 fl.2.1.2.2) f fl.1.1 fl.1.2.2.2.1 fl.1.2.2.2.2 fl.1.2.2.1 (by unfold zb_szk; omega) (by have := h.2.2; omega) hstep
  rcases hroom with
    ⟨M, R1, H1, rl1, ql1, fu1, sp1, k0, k1, k2, k3, k4, k5, k6, k7, k8, k9, k10, k11, k12, k13, k14, k15, k16⟩ | ⟨C', R', H', rl', ql', fu', lk, k1, k2, k3, k4, k5, k6, k7⟩
  rotate_left
  · have k2' : fn_195 7 3 (-1) R = some (-1, R') := k2
    refine ⟨-1, eg_u R' 45 69 (R' 45 66), ?_, by decide, ?_⟩
    · rw [zb_pc_222 h rfl (by decide), hr, k2', Option.bind_some, if_neg (fun z => z rfl)]; rfl
    · have hcm : zb_CL B.2.2.1 Q (zb_sp : Int) (zb_c2m C l a') = some C' := k1
      rw [hcm, if_neg (by decide)]
      refine Or.inr ⟨C', _, lk, rfl, rfl, H', rl', ql', fd, fu', zb_gs_congr k6 zb_QC_rfl (zb_QR_45 zb_QR_rfl (by decide)), ⟨k7.1, ?_, k7.2.2⟩, k4, ?_, by omega, by omega⟩
      · rw [eg_u_nj (by decide)]; exact k7.2.1
      · rw [eg_u_eq]; exact k3
  have tg := trg k10
  have hk7 : zb_hK H1 g = 7 := by rw [tg.2.1]; exact e3
  have w2 : zb_VR (zb_vo H1) (zb_hP H1) B.2.2.2.1 y (R 77 (zb_bb l + 1 + 1)) := zb_vr_tr v2 (fun g' hg' e' => ops k10 (i := 1) (by decide) g' hg' (by rw [← hy]; exact e'))
  have w3 : zb_VR (zb_vo H1) (zb_hP H1) B.2.2.2.1 z (R 77 (zb_bb l + 1 + 2)) := zb_vr_tr v3 (fun g' hg' e' => ops k10 (i := 2) (by decide) g' hg' (by rw [← hz]; exact e'))
  obtain ⟨o, C5, R3, m26, m32, m35, R5, r28, H5, i1, i2, i3, i4, i5, i6, i7, ⟨i8, i9⟩, i10, i11, i12, i13, i14, i15, i16, i17, i18⟩ := zb_te_make (B := B) (zb_gs_hr k4) (zb_gs_num k4) tg.1 hk7 k3 w2 w3 k0
  rw [tg.2.2] at i4 i6
  have r177 : R1 77 = R 77 := k7.2 77 (by decide)
  have k2' : fn_195 7 3 (-1) R = some (zb_ov o, R3) := k2.trans i2
  have hr9 : fn_226 ((26 : Nat) : Int) ((zb_bb l + 1 : Nat) : Int) R = some (0, eg_u R5 45 70 12884901888) := by
    rw [hr, k2', Option.bind_some, if_pos zb_ovn]
    show ((fn_205 (zb_ov o) 0 (R3 77 (zb_bb l + 1 + 1)) R3).bind fun m26 => _) = _
    rw [i8, r177, i3, Option.bind_some, i4, Option.bind_some, i5, Option.bind_some, i6, Option.bind_some, if_pos (by omega), i9, r177, show fn_205 (zb_ov o, R3).fst 1 (R 77 (zb_bb l + 1 + 2)) m35 = some R5 from i7]; rfl
  have hM := k6.1
  have c4m := i14
  have r4g : ∀ f, f ∉ ([28, 29, 38, 41, 43, 45, 48, 64, 67] : List Nat) → R5 45 f = R 45 f := fun f hf => by rw [i18 f (fun z => hf (by revert z; simp; omega)), k7.1 f hf]
  have gs5 : zb_GS B C5 R5 H5 rl1 ql1 fd := zb_gs_tr k4 i10 i11 i12 i13 (fun c _ h2 => i14 c h2) (fun c _ h2 => i17 c (fun z => h2 (by revert z; simp; omega))) (fun f _ h2 => i18 f (fun z => h2 (by revert z; simp; omega)))
  have c43 : C5 43 4 = 0 ∧ C5 43 5 = 0 := by rw [i14 43 (by decide)]; exact ⟨by rw [k6.2.2.1 4 (by decide)]; exact fl.1.2.1, k6.2.2.2⟩
  have se4 : zb_SE B C5 (eg_u R5 45 70 12884901888) H5 rl1 ql1 fd r l fu1 := by
    have e45 : ∀ f, f ≠ 70 → (eg_u R5 45 70 12884901888) 45 f = R5 45 f := fun f hf => eg_u_nj (by omega)
    have e4o : ∀ c, c ≠ 45 → (eg_u R5 45 70 12884901888) c = R5 c := fun c hc => eg_u_ne hc
    have cc : ∀ c, c ∈ ([29, 30, 31, 32, 33, 34, 35, 36] : List Nat) → C5 c = zb_c2m C l a' c := fun c hc => by rw [i14 c (by revert hc; simp; omega), hM c hc]
    refine ⟨⟨zb_gs_congr gs5 zb_QC_rfl (zb_QR_45 zb_QR_rfl (by decide)), ?_, ?_, ⟨⟨?_, ?_, ?_, ?_, ?_⟩, ⟨?_, ?_, ?_⟩, fun i hi => ?_⟩, ?_, ?_, ?_⟩, ⟨?_, ?_, k12.2.2⟩, ⟨?_, ?_, ca.2.2.1, ?_⟩, dp⟩
    · exact zb_str_tr k5 (fun i _ _ => by rw [cc 33 (by decide), cc 34 (by decide), cc 35 (by decide), hM 33 (by decide), hM 34 (by decide), hM 35 (by decide)]; exact ⟨rfl, rfl, fun _ _ => rfl⟩) (fun t _ => by rw [e4o 81 (by decide), e4o 82 (by decide), i17 81 (by decide), i17 82 (by decide)]; exact ⟨rfl, rfl⟩) (fun b _ => by rw [e4o 77 (by decide), i17 77 (by decide)]) (fun g hg _ => i11 g hg)
    · exact zb_ctl_tr zb_ct (fun i _ _ => by rw [cc 30 (by decide), cc 31 (by decide), cc 32 (by decide)]; exact ⟨rfl, rfl, rfl⟩) (fun t _ => by rw [e4o 78 (by decide), e4o 79 (by decide), e4o 80 (by decide), i17 78 (by decide), i17 79 (by decide), i17 80 (by decide), k7.2 78 (by decide), k7.2 79 (by decide), k7.2 80 (by decide)]; exact ⟨rfl, rfl, rfl⟩)
    · rw [i14 44 (by decide), k6.2.1 8 (by decide)]; exact fl.1.1
    · exact c43.1
    · exact c43.2
    · rw [i15]; exact k11
    · exact i16
    · rw [e45 59 (by decide), r4g 59 (by decide)]; exact fl.2.1.1
    · rw [e45 62 (by decide), r4g 62 (by decide)]; exact fl.2.1.2.1
    · rw [e45 63 (by decide), r4g 63 (by decide)]; exact fl.2.1.2.2
    · rw [cc 36 (by decide)]; exact fl.2.2 i hi
    · rw [cc 29 (by decide)]; exact tp1
    · rw [e45 53 (by decide), r4g 53 (by decide)]; exact tp2
    · rw [e45 51 (by decide), r4g 51 (by decide)]; exact tp3
    · rw [i14 44 (by decide)]; exact k12.1
    · rw [e45 67 (by decide), i18 67 (by decide)]; exact k12.2.1
    · rw [i14 44 (by decide), k6.2.1 10 (by decide)]; exact ca.1
    · rw [e45 68 (by decide), r4g 68 (by decide)]; exact ca.2.1
    · refine zb_bud_le ca.2.2.2 (by rw [e45 42 (by decide), r4g 42 (by decide)]) ?_
      rw [e45 67 (by decide), i18 67 (by decide), k12.2.1, f.2.1]; omega
  obtain ⟨z0, R9, z1, z2⟩ := zb_se_pop (Q := Q) (sp0 := sp0) (zb_sp := sp1) (v := 4294967298) (w := 12884901888) se4 h.1.2.1 h.1.2.2.2.2 (Or.inr (Or.inr (Or.inr (Or.inl ⟨rfl, rfl⟩)))) eg_u_eq h.2.2.2.2 (by have := h.2.2.1; omega) (by have := h.2.2; omega)
  refine ⟨0, R9, ?_, by decide, ?_⟩
  · rw [zb_pc_222 h rfl (by decide), hr9, Option.bind_some, if_pos (show (0 : Int) ≤ 0 from Int.le_refl _)]
    exact z1
  · have hcm : zb_CL B.2.2.1 Q (zb_sp : Int) (zb_c2m C l a') = zb_CL B.2.2.1 Q (sp1 : Int) M := k1
    rw [hcm, zb_pc_cl h k6 (by have := h.2.2; omega), hcl M R1 H1 rl1 ql1 k4 k6 tg, i1, Option.bind_some, Option.bind_some, zb_fin_v c43.2 c43.1 (by rw [i15]; exact k11), z0, Option.bind_some, if_neg (by decide)]
    exact z2
end PRM
