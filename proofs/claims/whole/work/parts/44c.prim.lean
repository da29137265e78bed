theorem zb_eg_u_id {M : eM} {a i : Nat} {v : Int} (h : M a i = v) : eg_u M a i v = M := by
  funext b j
  unfold eg_u
  by_cases hq : b = a ∧ j = i
  · rw [if_pos hq, hq.1, hq.2, h]
  · rw [if_neg hq]
section PRM
variable {B : zb_Bs} {Q : zb_Pq} {Z sp0 zb_sp : Nat} {C R C' R' C3 R3 M : eM} {H H' : zb_Hp} {rl ql rl' ql' : List (Nat × Nat)} {fd fd' fu p n : Nat} {l : List zb_Rec} {r : zb_Rec} {a' : Int}
theorem zb_hr_num {cn N : Nat} {lam : Nat → Prop} {scp : Nat → Nat → Prop} (hr : zb_HR C R H cn N lam scp) {g : Nat} (hg : g ∈ zb_hO H) (k : Int) : zb_HR (eg_u (eg_u C 15 10 k) 20 g k) (eg_u (eg_u R 45 42 k) 66 (zb_hP H g) k) H cn N lam scp := by
  have hinj : ∀ a, a ∈ zb_hO H → zb_hP H a = zb_hP H g → a = g := fun a ha e => zb_hr_inj hr ha hg e
  obtain ⟨⟨fl, hs, hH⟩, ⟨fs, fc, hQ⟩, hob, htb, hnum⟩ := hr
  have co : ∀ c, c ≠ 15 → c ≠ 20 → (eg_u (eg_u C 15 10 k) 20 g k) c = C c := fun c a b => by rw [eg_u_ne b, eg_u_ne a]
  have cf15 : ∀ f, f ≠ 10 → (eg_u (eg_u C 15 10 k) 20 g k) 15 f = C 15 f := fun f hf => by rw [eg_u_ne (by decide), eg_u_nj (by omega)]
  have ro : ∀ c, c ≠ 45 → c ≠ 66 → (eg_u (eg_u R 45 42 k) 66 (zb_hP H g) k) c = R c := fun c a b => by rw [eg_u_ne b, eg_u_ne a]
  have rf45 : ∀ f, f ≠ 42 → (eg_u (eg_u R 45 42 k) 66 (zb_hP H g) k) 45 f = R 45 f := fun f hf => by rw [eg_u_ne (by decide), eg_u_nj (by omega)]
  refine ⟨⟨fl, hs, zb_hc_congr hH (fun f hf => cf15 f (by revert hf; simp; omega)) (fun c hc => co c (by revert hc; simp; omega) (by revert hc; simp; omega))⟩, ⟨fs, fc, zb_hq_congr hQ (fun f hf => rf45 f (by revert hf; simp; omega)) (fun c hc => ro c (by revert hc; simp; omega) (by revert hc; simp; omega))⟩, fun h hh => ?_, ?_, ?_⟩
  · obtain ⟨p1, p2, p3, p4, p5, p6, p7⟩ := hob h hh
    unfold zb_OB
    rw [ro 62 (by decide) (by decide), ro 64 (by decide) (by decide), co 16 (by decide) (by decide)]
    refine ⟨p1, ?_, p3, p4, fun j hj => ?_, p6, p7⟩
    · by_cases he : h = g
      · rw [he, eg_u_eq, eg_u_eq]
      · rw [eg_u_nj (fun z => he (hinj h hh z.2)), eg_u_nj (fun z => he z.2), eg_u_ne (by decide), eg_u_ne (by decide)]; exact p2
    · have := p5 j hj
      unfold zb_FD zb_cf zb_rf at this ⊢
      rw [co 16 (by decide) (by decide), ro 70 (by decide) (by decide)]; exact this
  · unfold zb_TB at htb ⊢
    rw [co 16 (by decide) (by decide)]
    exact ⟨fun t ht hk => ⟨zb_ech_16 (co 16 (by decide) (by decide)) (htb.1 t ht hk).1, (htb.1 t ht hk).2⟩, htb.2⟩
  · rw [eg_u_ne (by decide), eg_u_eq, eg_u_ne (by decide), eg_u_eq]
theorem zb_prim_hash (h : zb_PCX B C R H rl ql fd fu r l 30 n Z sp0 zb_sp) : zb_PRES B Q Z sp0 zb_sp C R l n a' := by
  by_cases hn : zb_arl.getD 30 0 = n
  rotate_left
  · exact zb_pr_count h hn
  have hn2 : n = 1 := hn.symm
  subst hn2
  have hl := zb_pc_len h
  have v1 := zb_pc_vr h (j := 0) (by omega)
  simp only [Nat.zero_add, Nat.add_zero] at v1
  have se := zb_pc_se (a' := a') h
  have hr0 := zb_gs_hr se.1.1
  have hN := (zb_gs_N se.1.1).1
  have num := zb_gs_num se.1.1
  have hnum : zb_c2m C l a' 15 10 = R 45 42 := hr0.2.2.2.2
  have hc := zb_pc_1 (a' := a') (c := 120) h rfl (by decide) (zb_pc_kep h)
  rw [zb_d75_x, Option.bind_some, if_pos (by decide), zb_d79_30] at hc
  have hr : fn_226 ((30 : Nat) : Int) ((zb_bb l + 1 : Nat) : Int) R = fn_237 30 ((zb_bb l + 1 : Nat) : Int) R := by
    show fn_226 30 _ R = _
    unfold fn_226; rw [if_pos (by decide), if_pos (by decide), if_pos (by decide), zb_bpair]
  unfold fn_237 at hr
  rw [if_pos (by decide), if_pos (by omega), if_pos (by decide), Int.toNat_natCast] at hr
  have fl := se.1.2.2.2.1
  rcases zb_VR_ob hN v1 with ⟨g, gv, e1, e2⟩ | ⟨n1, n2, n3, n4⟩
  rotate_left
  · -- no object
    refine zb_pr_same (v := 0) (w := 0) h hn (by decide) ?_ ?_ (Or.inl ⟨by omega, by omega, rfl⟩)
    · rw [hc, if_pos n1]
      unfold fn_49
      rw [zb_land_low (by omega)]; rfl
    · rw [hr]
      unfold fn_201
      by_cases h0 : R 77 (zb_bb l + 1) < 0
      · rw [if_pos h0]; rfl
      · rw [if_neg h0, if_pos (n2.resolve_left h0)]; rfl
  have hgb := zb_hr_h hr0 gv.1
  have hgp := zb_hr_p hr0 gv.1
  have hg20 : g < 20000 := by omega
  have o2 : R 66 (zb_hP H g) = zb_c2m C l a' 20 g := (zb_hr_ob hr0 gv.1).2.1
  have hng := num.2 g gv.1
  have hcal := h.1.1.2.2.1.2.2.2
  unfold zb_BUD at hcal
  have hncl : zb_nc (r :: l) = zb_nc l + 1 := by simp only [zb_nc]; rw [if_pos h.1.2.1]
  have hfu := h.1.1.2.1.2.1
  rw [hncl, hfu] at hcal
  have hk42 : 0 ≤ R 45 42 ∧ R 45 42 + 1 < 2147483648 := by have h0 := num.1; rw [hnum] at h0; omega
  rw [e1, if_neg (fun z => z (zb_sh_obj hg20)), zb_wi_obj hg20] at hc
  rw [e2] at hr
  have h201 : fn_201 (zb_ov (zb_hP H g)) R = some 1 := by
    unfold fn_201
    rw [if_neg (by unfold zb_ov; omega), zb_sh32 (k := 6) (by unfold zb_ov; omega) (by unfold zb_ov; omega), if_neg (fun z => z rfl)]
  rw [h201, Option.bind_some, if_pos (by decide), zb_f187 hgp, Option.bind_some, if_pos (by omega), Int.toNat_natCast, o2] at hr
  by_cases hz : zb_c2m C l a' 20 g = 0
  · -- a new number
    have hw : eg_wi (R 45 42 + 1) = R 45 42 + 1 := by unfold eg_wi; omega
    have e82 : fn_82 (B.2.2.1 / 3 + 1) (g : Int) (zb_c2m C l a') = some (R 45 42 + 1, eg_u (eg_u (zb_c2m C l a') 15 10 (R 45 42 + 1)) 20 g (R 45 42 + 1)) := by
      unfold fn_82
      rw [if_pos (by clear hw; omega), Int.toNat_natCast, if_neg (fun z => z hz), hnum, hw]
    obtain ⟨C4, hC4⟩ : ∃ C4, C4 = eg_u (eg_u (zb_c2m C l a') 15 10 (R 45 42 + 1)) 20 g (R 45 42 + 1) := ⟨_, rfl⟩
    obtain ⟨R4, hR4⟩ : ∃ R4, R4 = eg_u (eg_u R 45 42 (R 45 42 + 1)) 66 (zb_hP H g) (R 45 42 + 1) := ⟨_, rfl⟩
    have hr4 : zb_HR C4 R4 H B.2.2.1 B.2.2.2.1 (zb_lamW B.1 B.2.1 B.2.2.2.1 B.2.2.2.2) (zb_scpW B.1 B.2.1 B.2.2.2.1 B.2.2.2.2) := by rw [hC4, hR4]; exact zb_hr_num hr0 gv.1 _
    have c4o : ∀ c, c ≠ 15 → c ≠ 20 → C4 c = zb_c2m C l a' c := fun c a b => by rw [hC4, eg_u_ne b, eg_u_ne a]
    have c415 : ∀ f, f ≠ 10 → C4 15 f = zb_c2m C l a' 15 f := fun f hf => by rw [hC4, eg_u_ne (by decide), eg_u_nj (by omega)]
    have c41510 : C4 15 10 = R 45 42 + 1 := by rw [hC4, eg_u_ne (by decide), eg_u_eq]
    have r4o : ∀ c, c ≠ 45 → c ≠ 66 → R4 c = R c := fun c a b => by rw [hR4, eg_u_ne b, eg_u_ne a]
    have r4f : ∀ f, f ≠ 42 → R4 45 f = R 45 f := fun f hf => by rw [hR4, eg_u_ne (by decide), eg_u_nj (by omega)]
    have r442 : R4 45 42 = R 45 42 + 1 := by rw [hR4, eg_u_ne (by decide), eg_u_eq]
    have r466 : R4 66 (zb_hP H g) = R 45 42 + 1 := by rw [hR4, eg_u_eq]
    have nm4 : zb_NUM B C4 H := by
      refine ⟨by rw [c41510]; omega, fun x hx => ?_⟩
      rw [c41510]
      by_cases he : x = g
      · rw [he, hC4, eg_u_eq]; omega
      · have := num.2 x hx
        rw [hnum] at this
        rw [hC4, eg_u_nj (fun z => he z.2), eg_u_ne (by decide)]; omega
    have g4 : zb_GS B C4 R4 H rl ql fd := by
      refine zb_gs_tr se.1.1 hr4 (fun g hg => zb_trg_rfl hg) (fun x hx _ => by unfold zb_cl; rw [c4o 16 (by decide) (by decide)]) nm4 (fun c _ h2 => c4o c (fun e => h2 (by rw [e]; decide)) (fun e => h2 (by rw [e]; decide))) (fun c _ h2 => r4o c (fun e => h2 (by rw [e]; decide)) (fun e => h2 (by rw [e]; decide))) (fun f _ h2 => r4f f (fun e => h2 (by rw [e]; decide)))
    rw [← hC4] at e82
    rw [e82, Option.bind_some] at hc
    have hln : eb_land (R 45 42 + 1) 4294967295 = R 45 42 + 1 := by rw [zb_land_low (by clear hw; omega)]; clear hw; omega
    have hc9 : fn_74 B.2.2.1 (B.2.2.1 / 3 + 1) ((l.length + 1 : Nat) : Int) (zb_c2m C l a') = zb_fin74 (l.length + 1) (R 45 42 + 1, C4) := by
      rw [hc]
      show (((fn_49 (R 45 42 + 1) C4).bind fun r67 => some (r67, C4)).bind _) = _
      unfold fn_49
      rw [hln]; rfl
    rw [if_neg (fun z => z hz)] at hr
    have hr9 : fn_226 ((30 : Nat) : Int) ((zb_bb l + 1 : Nat) : Int) R = some (0, eg_u R4 45 70 (R 45 42 + 1)) := by
      rw [hr, hw]
      show ((fn_187 (zb_ov (zb_hP H g)) _).bind fun r21 => if 0 ≤ r21 ∧ r21 < 6700 then _ else none) = _
      rw [zb_f187 hgp, Option.bind_some, if_pos (by clear hw; omega), Int.toNat_natCast, ← hR4, zb_f187 hgp, Option.bind_some, if_pos (by clear hw; omega), Int.toNat_natCast, r466]
      rfl
    clear hw hln
    have c43 : C4 43 4 = 0 ∧ C4 43 5 = 0 := by rw [c4o 43 (by decide) (by decide)]; exact ⟨fl.1.2.1, fl.1.2.2.1⟩
    have c15 : C4 15 11 = 0 ∧ C4 15 12 = 0 := ⟨by rw [c415 11 (by decide)]; exact fl.1.2.2.2.1, by rw [c415 12 (by decide)]; exact fl.1.2.2.2.2⟩
    refine zb_pr_val (C3 := C4) (R3 := eg_u R4 45 70 (R 45 42 + 1)) (v := R 45 42 + 1) (w := R 45 42 + 1) (H' := H) (rl' := rl) (ql' := ql) (fd' := fd) h (by rw [hc9, zb_fin_v c43.2 c43.1 c15.1]) (by rw [zb_pc_222 h hn (by decide), hr9, Option.bind_some]; exact if_pos (show (0 : Int) ≤ 0 from Int.le_refl _)) ?_ (Or.inl ⟨by omega, by omega, rfl⟩) eg_u_eq
    refine zb_se_gs se (zb_gs_congr g4 zb_QC_rfl (zb_QR_45 zb_QR_rfl (by decide))) (fun c hc => c4o c (by revert hc; simp; omega) (by revert hc; simp; omega)) ⟨by rw [c4o 44 (by decide) (by decide)], by rw [c4o 44 (by decide) (by decide)], by rw [c4o 44 (by decide) (by decide)]⟩ c43 c15 (fun c hc => by rw [eg_u_ne (by revert hc; simp; omega), r4o c (by revert hc; simp; omega) (by revert hc; simp; omega)]) (fun f hf => by rw [eg_u_nj (by revert hf; simp; omega), r4f f (by revert hf; simp; omega)]) ?_ (fun g hg => zb_trg_rfl hg)
    unfold zb_BUD
    rw [eg_u_nj (by decide), eg_u_nj (by decide), r442, r4f 67 (by decide), hfu]
    omega
  · -- it has one
    rw [if_pos hz] at hr
    have e82 : fn_82 (B.2.2.1 / 3 + 1) (g : Int) (zb_c2m C l a') = some (zb_c2m C l a' 20 g, zb_c2m C l a') := by
      unfold fn_82
      rw [if_pos (by omega), Int.toNat_natCast, if_pos hz]
    rw [hnum] at hng
    have hln : eb_land (zb_c2m C l a' 20 g) 4294967295 = zb_c2m C l a' 20 g := by rw [zb_land_low (by omega)]; omega
    refine zb_pr_same (v := zb_c2m C l a' 20 g) (w := zb_c2m C l a' 20 g) h hn (by decide) ?_ ?_ (Or.inl ⟨by omega, by omega, rfl⟩)
    · rw [hc, e82, Option.bind_some]
      unfold fn_49
      rw [Option.bind_some, Option.bind_some, hln]
    · rw [hr, Option.bind_some, if_pos (by omega), Int.toNat_natCast, o2]
      rfl
end PRM
section PRM
variable {B : zb_Bs} {Q : zb_Pq} {Z sp0 zb_sp : Nat} {C R C' R' C3 R3 M : eM} {H H' : zb_Hp} {rl ql rl' ql' : List (Nat × Nat)} {fd fd' fu p n : Nat} {l : List zb_Rec} {r : zb_Rec} {a' : Int}
theorem zb_fin_no {i : Nat} {v : Int} (h5 : M 43 5 = 0) (h4 : M 43 4 = 0) (h8 : M 44 8 = 0) : zb_fin74 i (v, eg_u M 15 11 1) = some (eg_u M 15 11 1) := by
  unfold zb_fin74
  show (if (eg_u M 15 11 1) 43 5 = 0 then if ¬ (eg_u M 15 11 1) 43 4 = 0 then some (eg_u (eg_u M 15 11 1) 44 8 ((eg_u M 15 11 1) 43 4)) else if ¬ (eg_u M 15 11 1) 15 11 = 0 then some (eg_u (eg_u M 15 11 1) 44 8 ((eg_u M 15 11 1) 43 4)) else fn_103 v (eg_u (eg_u M 15 11 1) 44 8 ((eg_u M 15 11 1) 43 4)) else _) = _
  have e43 : (eg_u M 15 11 1) 43 = M 43 := eg_u_ne (by decide)
  rw [e43, if_pos h5, if_neg (fun z => z h4), eg_u_eq, if_pos (by decide), h4, zb_eg_u_id (by rw [eg_u_ne (by decide)]; exact h8)]
set_option maxHeartbeats 2000000 in
theorem zb_pr_make {k s : Nat} {v0 : Int} {X : Int × eM → Option (Int × eM)} (h : zb_PCX B C R H rl ql fd fu r l p n Z sp0 zb_sp) (hn : zb_arl.getD p 0 = n) (h31 : p ≠ 31) (hk : zb_szk k s) (hk34 : k ≠ 3 ∧ k ≠ 4 ∧ k ≠ 8) (hidx : k ≠ 7 → ∀ j, j < zb_nf k s → (if k = 2 then 1 else j) < n)
    (hno : ∀ M : eM, zb_KEP (zb_c2m C l a') M → M 43 5 = 0 → M 43 4 = 0 → M 44 8 = 0 → fn_93 B.2.2.1 (B.2.2.1 / 3 + 1) (k : Int) (s : Int) M = some (0, eg_u M 15 11 1) → fn_74 B.2.2.1 (B.2.2.1 / 3 + 1) ((l.length + 1 : Nat) : Int) M = some (eg_u M 15 11 1))
    (hyes : ∀ (M C1 : eM) (xh us : Nat), zb_KEP (zb_c2m C l a') M → 1 ≤ xh → xh < 20000 → fn_93 B.2.2.1 (B.2.2.1 / 3 + 1) (k : Int) (s : Int) M = some ((xh : Int), C1) → C1 43 5 = 0 → C1 43 4 = 0 → C1 15 11 = 0 → (∀ (M' : eM) (i : Nat) (w : Int), M' 17 = C1 17 → i < s → fn_94 B.2.2.1 (B.2.2.1 / 3 + 1) (xh : Int) (i : Int) w M' = some (eg_u M' 16 (us + i) w)) →
      ∃ C4, fn_74 B.2.2.1 (B.2.2.1 / 3 + 1) ((l.length + 1 : Nat) : Int) M = fn_103 (17179869184 + (xh : Int)) (eg_u C4 44 8 0) ∧ (∀ c, c ≠ 16 → C4 c = C1 c) ∧ (∀ a, a ≤ us ∨ us + s ≤ a → C4 16 a = C1 16 a) ∧ (k = 7 → C4 16 (us + 1) = 0 ∧ C4 16 (us + 2) = 0) ∧ (k ≠ 7 → ∀ j, j < zb_nf k s → C4 16 (us + (1 + j)) = C 35 (9 * (l.length + 1) + ((if k = 2 then 1 else j) + 1))))
    (href : fn_226 (p : Int) ((zb_bb l + 1 : Nat) : Int) R = (fn_195 ((k : Int) - 1) ((zb_nf k s : Nat) : Int) v0 R).bind X) (hX0 : ∀ R', X (-1, R') = some (-1, eg_u R' 45 69 (R' 45 66)))
    (hX : ∀ (R3 : eM) (o : Nat) (ls : List Nat), o < 6700 → ls.length = zb_nf k s → ls.Nodup → (∀ c, c ∈ ls → R3 70 c = v0) → R3 77 = R 77 → (∀ (M' : eM) (i : Nat) (w : Int), M' 65 = R3 65 → M' 71 = R3 71 → i < zb_nf k s → fn_205 (zb_ov o) (i : Int) w M' = some (eg_u M' 70 (ls.getD i 0) w)) →
      ∃ R4, X (zb_ov o, R3) = some (0, eg_u R4 45 70 (zb_ov o)) ∧ (∀ c, c ≠ 70 → R4 c = R3 c) ∧ (∀ c, c ∉ ls → R4 70 c = R3 70 c) ∧ (k = 7 → R4 70 (ls.getD 0 0) = -1) ∧ (k ≠ 7 → ∀ j, j < zb_nf k s → R4 70 (ls.getD j 0) = R 77 (zb_bb l + 1 + (if k = 2 then 1 else j)))) : zb_PRES B Q Z sp0 zb_sp C R l n a' := by
  have hl := zb_pc_len h
  have se := zb_pc_se (a' := a') h
  obtain ⟨⟨g, s2, zb_ct, fl, t1, t2, t3⟩, f, ca, dp⟩ := se
  have hsx := h.1.1
  have hstep : ∀ (M R' : eM) (H' : zb_Hp) (rl' ql' : List (Nat × Nat)) (sp' : Nat), zb_GS B M R' H' rl' ql' fd → zb_KEP (zb_c2m C l a') M → M 15 11 = 0 → ¬ zb_hU H' + s ≤ B.2.2.1 → sp' < 1000000 → (∀ g, g ∈ zb_hO H → zb_RTS (zb_c2m C l a') (r :: l).length g → zb_TRg H H' g) → (∀ h i, h ∈ zb_hO H' → zb_hK H h ≤ 4 → i < zb_hZ H h → zb_cl M H' h i = zb_cl (zb_c2m C l a') H h i) → zb_CL B.2.2.1 Q (sp' : Int) M = zb_AF B.2.2.1 Q (sp' : Int) (eg_u M 15 11 1) := by
    intro M R' H' rl' ql' sp' gM kM h11 hno' hs' _ _
    obtain ⟨⟨fl', hs9, hH⟩, _⟩ := zb_gs_hr gM
    rw [zb_pc_cl h kM hs', hno M kM kM.2.2.2 (by rw [kM.2.2.1 4 (by decide)]; exact fl.1.2.1) (by rw [kM.2.1 8 (by decide)]; exact fl.1.1) (zb_make_no hH hno'), Option.bind_some]
  rcases zb_room (Q := Q) (zb_sp := zb_sp) (k := k) (s := s) (v := v0) (e := 0) (f := 0) (bn := 0) g s2 (by simp only [List.length_cons]; omega) (by omega) t1 (fun z => by omega) (Or.inl rfl) (fun z => rfl) t2 t3 (by rw [fl.2.1.2.1]; rfl)
      (zb_qb_none fl.2.2 fl.2.1.1 fl.2.1.2.2) f fl.1.1 fl.1.2.2.2.1 fl.1.2.2.2.2 fl.1.2.2.1 hk (by have := h.2.2; omega) hstep with
    ⟨M, R1, H1, rl1, ql1, fu1, sp1, k1, k2, k3, k4, k5, k6, k7, k8, k9, k10, k11, k12, k13, k14, k15, k16⟩ | ⟨C', R', H', rl', ql', fu', lk, k1, k2, k3, k4, k5, k6, k7⟩
  · obtain ⟨x, o, C1, R3, ls, m1, m2, m⟩ := zb_hr_make (zb_gs_hr k4) (k := k) (s := s) hk k3 v0
    have hm := m
    obtain ⟨⟨n1, n2, n3, n4, n5, n6⟩, _, _, ⟨p1, p2, p3, p4, p5, p6, p7⟩, ⟨q1, q2, q3, q4, q5, q6, q7, q8, q9, q10, q11⟩⟩ := hm
    have hx20 : x < 20000 := by have := (zb_gs_hr k4).1.choose_spec.choose_spec.1.2.1; omega
    have hM := k6.1
    have c143 : C1 43 5 = 0 ∧ C1 43 4 = 0 := by rw [p7 43 (by decide)]; exact ⟨k6.2.2.2, by rw [k6.2.2.1 4 (by decide)]; exact fl.1.2.1⟩
    have c115 : C1 15 11 = 0 := by rw [p6]; exact k11
    obtain ⟨C4, u1, u2, u3, u4, u5⟩ := hyes M C1 x (zb_hU H1) k6 n2 hx20 m1 c143.1 c143.2 c115 (fun M' i w hM' hi => zb_mk_put m hM' hi)
    obtain ⟨R4, w1, w2, w3, w4, zb_w5⟩ := hX R3 o ls n4 q6 q8 q4 (by rw [q10 77 (by decide), k7.2 77 (by decide)]) (fun M' i w a b hi => zb_mk_set m a b hi)
    have hnew := zb_mk_new (H := H1) (x := x) (o := o) (k := k) (s := s) (l := ls)
    have c4m : ∀ c, c ∉ ([15, 16, 17, 18, 19, 20] : List Nat) → C4 c = M c := fun c hc => by rw [u2 c (fun e => hc (by rw [e]; decide)), p7 c hc]
    have r4o : ∀ c, c ∉ ([45, 62, 63, 65, 66, 68, 70, 71] : List Nat) → R4 c = R1 c := fun c hc => by rw [w2 c (fun e => hc (by rw [e]; decide)), q10 c hc]
    have r4f : ∀ f, f ∉ ([28, 29, 38, 41] : List Nat) → R4 45 f = R1 45 f := fun f hf => by rw [w2 45 (by decide), q11 f (fun e => hf (by rw [e]; decide)) (fun e => hf (by rw [e]; decide)) (fun e => hf (by rw [e]; decide)) (fun e => hf (by rw [e]; decide))]
    have r4g : ∀ f, f ∉ ([28, 29, 38, 41, 43, 45, 48, 64, 67] : List Nat) → R4 45 f = R 45 f := fun f hf => by rw [r4f f (fun z => hf (by revert z; simp; omega)), k7.1 f hf]
    have hnf := zb_nf_le hk
    have ops : ∀ i, i < n → zb_VR (zb_vo H1) (zb_hP H1) B.2.2.2.1 (C 35 (9 * (l.length + 1) + (i + 1))) (R 77 (zb_bb l + 1 + i)) := fun i hi => by
      refine zb_vr_tr (zb_pc_vr h hi) (fun g' hg' e' => k10 g' hg' (Or.inr ⟨l.length + 1, i + 1, by omega, by simp, ?_, ?_⟩))
      · rw [zb_c2o (by decide) (by decide), hsx.1.2.1.1.1.2.1, h.1.2.2.2.1]; omega
      · rw [zb_c2o (by decide) (by decide)]; exact e'
    have hr4 : zb_HR C4 R4 (zb_Hmk H1 x o k s ls) B.2.2.1 B.2.2.2.1 (zb_lamW B.1 B.2.1 B.2.2.2.1 B.2.2.2.2) (zb_scpW B.1 B.2.1 B.2.2.2.1 B.2.2.2.2) := by
      refine zb_hr_made (zb_gs_hr k4) hk m (fun f hf => by rw [u2 15 (by decide)]) (fun c hc => u2 c (by revert hc; simp; omega)) u3 (fun f hf => by rw [w2 45 (by decide)]) (fun c hc => w2 c (by revert hc; simp; omega)) (fun q hq => by rw [w2 64 (by decide)]) w3 (fun j hj => ?_) (fun z => absurd z hk34.1) (fun z => absurd z hk34.2.1) u4
      by_cases hk7 : k = 7
      · have hj0 : j = 0 := by rw [hk7] at hj; simp [zb_nf] at hj; omega
        subst hj0
        refine ⟨fun _ => ?_, fun z => absurd (Or.inr (Or.inl (by rw [hnew.2.2.1]; exact hk7))) z⟩
        refine Or.inl ⟨?_, ?_⟩
        · unfold zb_cf
          rw [if_pos (Or.inr (Or.inl (by rw [hnew.2.2.1]; exact hk7))), hnew.1, hnew.2.2.1, hk7]
          show zb_lv (C4 16 (zb_hU H1 + 1)) = _
          rw [(u4 hk7).1, zb_lv_0]
        · unfold zb_rf
          rw [hnew.2.2.2.1, hnew.2.2.2.2.2.1]; exact w4 hk7
      · have hnl : ¬ zb_isl (zb_hK (zb_Hmk H1 x o k s ls) x) j := by rw [hnew.2.2.1]; unfold zb_isl; omega
        refine ⟨fun z => absurd z hnl, fun _ => ?_⟩
        unfold zb_cf zb_rf
        rw [if_neg hnl, hnew.1, hnew.2.2.1, hnew.2.2.2.1, hnew.2.2.2.2.2.1, show zb_ci k j = 1 + j by unfold zb_ci; rw [if_neg (by omega)], u5 hk7 j hj, zb_w5 hk7 j hj]
        exact zb_vr_tr (ops _ (hidx hk7 j hj)) (fun g' hg' _ => zb_mk_trg m g' hg')
    have gs4 : zb_GS B C4 R4 (zb_Hmk H1 x o k s ls) rl1 ql1 fd := by
      refine zb_gs_tr k4 hr4 (zb_mk_trg m) (zb_mk_cl (zb_gs_hr k4) m (fun j hj => u3 j (by omega))) (zb_mk_num (zb_gs_num k4) m (u2 20 (by decide)) (by rw [u2 15 (by decide)]) (by rw [c4m 44 (by decide)]; exact Int.le_refl _)) (fun c hc h2 => c4m c h2) (fun c hc h2 => r4o c (fun z => h2 (by revert z; simp; omega))) (fun f hf h2 => r4f f (fun z => h2 (by revert z; simp; omega)))
    have vnew : zb_VR (zb_vo (zb_Hmk H1 x o k s ls)) (zb_hP (zb_Hmk H1 x o k s ls)) B.2.2.2.1 (17179869184 + (x : Int)) (zb_ov o) := by
      refine Or.inr (Or.inr (Or.inr (Or.inr (Or.inr (Or.inr ⟨x, ⟨hnew.2.2.2.2.2.2, ?_, ?_⟩, rfl, by rw [hnew.2.2.2.1]⟩)))))
      · rw [hnew.2.2.1]; exact hk34.2.1
      · rw [hnew.2.2.1]; exact hk34.2.2
    have se4 : zb_SE B C4 (eg_u R4 45 70 (zb_ov o)) (zb_Hmk H1 x o k s ls) rl1 ql1 fd r l fu1 := by
      have e45 : ∀ f, f ≠ 70 → (eg_u R4 45 70 (zb_ov o)) 45 f = R4 45 f := fun f hf => eg_u_nj (by omega)
      have e4o : ∀ c, c ≠ 45 → (eg_u R4 45 70 (zb_ov o)) c = R4 c := fun c hc => eg_u_ne hc
      have cc : ∀ c, c ∈ ([29, 30, 31, 32, 33, 34, 35, 36] : List Nat) → C4 c = zb_c2m C l a' c := fun c hc => by rw [c4m c (by revert hc; simp; omega), hM c hc]
      refine ⟨⟨zb_gs_congr gs4 zb_QC_rfl (zb_QR_45 zb_QR_rfl (by decide)), ?_, ?_, ⟨⟨?_, ?_, ?_, ?_, ?_⟩, ⟨?_, ?_, ?_⟩, fun i hi => ?_⟩, ?_, ?_, ?_⟩, ⟨?_, ?_, k12.2.2⟩, ⟨?_, ?_, ca.2.2.1, ?_⟩, dp⟩
      · exact zb_str_tr k5 (fun i _ _ => by rw [cc 33 (by decide), cc 34 (by decide), cc 35 (by decide), hM 33 (by decide), hM 34 (by decide), hM 35 (by decide)]; exact ⟨rfl, rfl, fun _ _ => rfl⟩) (fun t _ => by rw [e4o 81 (by decide), e4o 82 (by decide), r4o 81 (by decide), r4o 82 (by decide)]; exact ⟨rfl, rfl⟩) (fun b _ => by rw [e4o 77 (by decide), r4o 77 (by decide)]) (fun g hg _ => zb_mk_trg m g hg)
      · exact zb_ctl_tr zb_ct (fun i _ _ => by rw [cc 30 (by decide), cc 31 (by decide), cc 32 (by decide)]; exact ⟨rfl, rfl, rfl⟩) (fun t _ => by rw [e4o 78 (by decide), e4o 79 (by decide), e4o 80 (by decide), r4o 78 (by decide), r4o 79 (by decide), r4o 80 (by decide), k7.2 78 (by decide), k7.2 79 (by decide), k7.2 80 (by decide)]; exact ⟨rfl, rfl, rfl⟩)
      · rw [c4m 44 (by decide), k6.2.1 8 (by decide)]; exact fl.1.1
      · rw [u2 43 (by decide)]; exact c143.2
      · rw [u2 43 (by decide)]; exact c143.1
      · rw [u2 15 (by decide)]; exact c115
      · rw [u2 15 (by decide)]; exact p4
      · rw [e45 59 (by decide), r4g 59 (by decide)]; exact fl.2.1.1
      · rw [e45 62 (by decide), r4g 62 (by decide)]; exact fl.2.1.2.1
      · rw [e45 63 (by decide), r4g 63 (by decide)]; exact fl.2.1.2.2
      · rw [cc 36 (by decide)]; exact fl.2.2 i hi
      · rw [cc 29 (by decide)]; exact t1
      · rw [e45 53 (by decide), r4g 53 (by decide)]; exact t2
      · rw [e45 51 (by decide), r4g 51 (by decide)]; exact t3
      · rw [c4m 44 (by decide)]; exact k12.1
      · rw [e45 67 (by decide), r4f 67 (by decide)]; exact k12.2.1
      · rw [c4m 44 (by decide), k6.2.1 10 (by decide)]; exact ca.1
      · rw [e45 68 (by decide), r4g 68 (by decide)]; exact ca.2.1
      · refine zb_bud_le ca.2.2.2 (by rw [e45 42 (by decide), r4g 42 (by decide)]) ?_
        rw [e45 67 (by decide), r4f 67 (by decide), k12.2.1, f.2.1]; omega
    obtain ⟨z0, R9, z1, z2⟩ := zb_se_pop (Q := Q) (sp0 := sp0) (zb_sp := sp1) se4 h.1.2.1 h.1.2.2.2.2 vnew eg_u_eq h.2.2.2.2 (by have := h.2.2.1; omega) (by have := h.2.2; omega)
    refine ⟨0, R9, ?_, by decide, ?_⟩
    · rw [zb_pc_222 h hn h31, href, k2, m2, Option.bind_some, w1, Option.bind_some, if_pos (show (0 : Int) ≤ 0 from Int.le_refl _)]
      exact z1
    · have hcm : zb_CL B.2.2.1 Q (zb_sp : Int) (zb_c2m C l a') = zb_CL B.2.2.1 Q (sp1 : Int) M := k1
      rw [hcm, zb_pc_cl h k6 (by have := h.2.2; omega), u1, z0, Option.bind_some, if_neg (by decide)]
      exact z2
  · refine ⟨-1, eg_u R' 45 69 (R' 45 66), ?_, by decide, ?_⟩
    · rw [zb_pc_222 h hn h31, href, k2, Option.bind_some, hX0, Option.bind_some, if_neg (show ¬ (0 : Int) ≤ -1 by decide)]
    · have hcm : zb_CL B.2.2.1 Q (zb_sp : Int) (zb_c2m C l a') = some C' := k1
      rw [hcm, if_neg (by decide)]
      refine Or.inr ⟨C', _, lk, rfl, rfl, H', rl', ql', fd, fu', zb_gs_congr k6 zb_QC_rfl (zb_QR_45 zb_QR_rfl (by decide)), ⟨k7.1, ?_, k7.2.2⟩, k4, ?_, by omega, by omega⟩
      · rw [eg_u_nj (by decide)]; exact k7.2.1
      · rw [eg_u_eq]; exact k3
end PRM
section PRM
variable {B : zb_Bs} {Q : zb_Pq} {Z sp0 zb_sp : Nat} {C R C' R' C3 R3 M : eM} {H H' : zb_Hp} {rl ql rl' ql' : List (Nat × Nat)} {fd fd' fu p n : Nat} {l : List zb_Rec} {r : zb_Rec} {a' : Int}
theorem zb_f231 {o : Nat} : fn_231 (zb_ov o) M = some (0, eg_u M 45 70 (zb_ov o)) := by
  unfold fn_231; rw [if_pos (by unfold zb_ov; omega)]; rfl
theorem zb_f231n : fn_231 (-1) M = some (-1, eg_u M 45 69 (M 45 66)) := by
  unfold fn_231; rw [if_neg (fun z => z rfl)]; rfl
theorem zb_ovn {o : Nat} : zb_ov o ≠ -1 := by unfold zb_ov; omega
set_option maxHeartbeats 1000000 in
theorem zb_pr_two {k : Nat} (h : zb_PCX B C R H rl ql fd fu r l p 2 Z sp0 zb_sp) (hn : zb_arl.getD p 0 = 2) (h31 : p ≠ 31) (hk : k = 1 ∨ k = 6)
    (hc : ∀ M : eM, zb_KEP (zb_c2m C l a') M → fn_74 B.2.2.1 (B.2.2.1 / 3 + 1) ((l.length + 1 : Nat) : Int) M = (fn_92 B.2.2.1 (B.2.2.1 / 3 + 1) (k : Int) 4 (C 35 (9 * (l.length + 1) + 1)) (C 35 (9 * (l.length + 1) + 2)) M).bind (zb_fin74 (l.length + 1)))
    (hr : fn_226 (p : Int) ((zb_bb l + 1 : Nat) : Int) R = (fn_195 ((k : Int) - 1) 2 (R 77 (zb_bb l + 1)) R).bind fun r35 => if r35.1 = -1 then (fn_231 r35.1 r35.2).bind fun r39 => some (r39.1, r39.2) else if 0 ≤ (eg_wi (((zb_bb l + 1 : Nat) : Int) + 1)) ∧ (eg_wi (((zb_bb l + 1 : Nat) : Int) + 1)) < 19000 then (fn_205 r35.1 1 (r35.2 77 (eg_wi (((zb_bb l + 1 : Nat) : Int) + 1)).toNat) r35.2).bind fun m44 => (fn_231 r35.1 m44).bind fun r46 => some (r46.1, r46.2) else none) : zb_PRES B Q Z sp0 zb_sp C R l 2 a' := by
  have hl := zb_pc_len h
  have hnf : zb_nf k 4 = 2 := by rcases hk with z | z <;> subst z <;> rfl
  have ew : eg_wi (((zb_bb l + 1 : Nat) : Int) + 1) = ((zb_bb l + 2 : Nat) : Int) := zb_wi_1 (by omega)
  refine zb_pr_make (k := k) (s := 4) (v0 := R 77 (zb_bb l + 1)) (X := fun r35 => if r35.1 = -1 then (fn_231 r35.1 r35.2).bind fun r39 => some (r39.1, r39.2) else if 0 ≤ (eg_wi (((zb_bb l + 1 : Nat) : Int) + 1)) ∧ (eg_wi (((zb_bb l + 1 : Nat) : Int) + 1)) < 19000 then (fn_205 r35.1 1 (r35.2 77 (eg_wi (((zb_bb l + 1 : Nat) : Int) + 1)).toNat) r35.2).bind fun m44 => (fn_231 r35.1 m44).bind fun r46 => some (r46.1, r46.2) else none) h hn h31 (by unfold zb_szk; omega) (by omega) (fun _ j hj => by rw [hnf] at hj; rw [if_neg (by omega)]; exact hj) ?_ ?_ (by rw [hr, hnf]; rfl) ?_ ?_
  · intro M kM h5 h4 h8 e
    rw [hc M kM]
    unfold fn_92
    rw [show (4 : Int) = ((4 : Nat) : Int) from rfl, e, Option.bind_some]
    show (if (0 : Int) = 0 then (fn_95 0 (eg_u M 15 11 1)).bind fun r6 => some (r6, eg_u M 15 11 1) else _).bind _ = _
    rw [if_pos rfl]
    exact zb_fin_no h5 h4 h8
  · intro M C1 x us kM x1 x2 e h5 h4 h11 hp
    obtain ⟨C4, hC4⟩ : ∃ X, X = eg_u (eg_u C1 16 (us + 1) (C 35 (9 * (l.length + 1) + 1))) 16 (us + 2) (C 35 (9 * (l.length + 1) + 2)) := ⟨_, rfl⟩
    have c4 : ∀ c, c ≠ 16 → C4 c = C1 c := fun c hc => by rw [hC4, eg_u_ne hc, eg_u_ne hc]
    refine ⟨C4, ?_, c4, fun a ha => ?_, fun z => by omega, fun _ j hj => ?_⟩
    · rw [hc M kM]
      unfold fn_92
      rw [show (4 : Int) = ((4 : Nat) : Int) from rfl, e, Option.bind_some]
      show (if (x : Int) = 0 then _ else (fn_94 B.2.2.1 (B.2.2.1 / 3 + 1) (x : Int) ((1 : Nat) : Int) (C 35 (9 * (l.length + 1) + 1)) C1).bind fun m10 => (fn_94 B.2.2.1 (B.2.2.1 / 3 + 1) (x : Int) ((2 : Nat) : Int) (C 35 (9 * (l.length + 1) + 2)) m10).bind fun m13 => (fn_95 (x : Int) m13).bind fun r15 => some (r15, m13)).bind _ = _
      rw [if_neg (by omega), hp C1 1 _ rfl (by omega), Option.bind_some, hp _ 2 _ (eg_u_ne (by decide)) (by omega), Option.bind_some, ← hC4]
      unfold fn_95
      rw [zb_lor_obj x2, Option.bind_some, Option.bind_some]
      exact zb_fin_v (by rw [c4 43 (by decide)]; exact h5) (by rw [c4 43 (by decide)]; exact h4) (by rw [c4 15 (by decide)]; exact h11)
    · rw [hC4, eg_u_nj (by omega), eg_u_nj (by omega)]
    · rw [hnf] at hj
      rw [if_neg (by omega)]
      rcases (show j = 0 ∨ j = 1 by omega) with z | z <;> subst z
      · rw [hC4, eg_u_nj (by omega)]; exact eg_u_eq
      · rw [hC4]; exact eg_u_eq
  · intro R'
    show (if (-1 : Int) = -1 then (fn_231 (-1) R').bind fun r39 => some (r39.1, r39.2) else _) = _
    rw [if_pos rfl, zb_f231n, Option.bind_some]
  · intro R3 o ls ho hls hnd h0 h77 hs
    rw [hnf] at hls hs
    refine ⟨eg_u R3 70 (ls.getD 1 0) (R 77 (zb_bb l + 2)), ?_, fun c hc => eg_u_ne hc, fun c hc => eg_u_nj (fun z => hc ?_), fun z => by omega, fun _ j hj => ?_⟩
    · show (if zb_ov o = -1 then _ else if 0 ≤ (eg_wi (((zb_bb l + 1 : Nat) : Int) + 1)) ∧ (eg_wi (((zb_bb l + 1 : Nat) : Int) + 1)) < 19000 then (fn_205 (zb_ov o) ((1 : Nat) : Int) (R3 77 (eg_wi (((zb_bb l + 1 : Nat) : Int) + 1)).toNat) R3).bind fun m44 => (fn_231 (zb_ov o) m44).bind fun r46 => some (r46.1, r46.2) else none) = _
      rw [if_neg zb_ovn, ew, if_pos (by omega), Int.toNat_natCast, hs R3 1 _ rfl rfl (by omega), Option.bind_some, zb_f231, Option.bind_some, h77]
    · rw [z.2, List.getD_eq_getElem?_getD, List.getElem?_eq_getElem (by omega)]; exact List.getElem_mem _
    · rw [hnf] at hj
      rw [if_neg (by omega)]
      match ls, hls with
      | [a, b], _ =>
        have hab : a ≠ b := by simp at hnd; exact hnd
        rcases (show j = 0 ∨ j = 1 by omega) with z | z <;> subst z
        · show (eg_u R3 70 b _) 70 a = _
          rw [eg_u_nj (fun z => hab z.2)]; exact h0 a (by simp)
        · show (eg_u R3 70 b _) 70 b = _
          rw [eg_u_eq]
theorem zb_prim_cons (h : zb_PCX B C R H rl ql fd fu r l p n Z sp0 zb_sp) (hp : p = 11) : zb_PRES B Q Z sp0 zb_sp C R l n a' := by
  by_cases hn : zb_arl.getD p 0 = n
  rotate_left
  · exact zb_pr_count h hn
  subst hp
  have hn2 : n = 2 := by rw [← hn]; rfl
  subst hn2
  have hl := zb_pc_len h
  refine zb_pr_two (k := 1) h rfl (by decide) (Or.inl rfl) (fun M kM => ?_) ?_
  · rw [zb_pc_2 (a' := a') (c := 120) (d := 120) h rfl (by decide) (by decide) kM, zb_d75_x, Option.bind_some, if_pos (by decide), zb_d75_x, Option.bind_some, if_pos (by decide), zb_d79_11, zb_d91_11]
    show _ = (fn_92 B.2.2.1 (B.2.2.1 / 3 + 1) 1 4 _ _ M).bind _
    rw [zb_bpair, zb_bpair]
  · rw [zb_d226_l (by decide) (by decide)]
    show fn_230 11 _ R = _
    rw [zb_d230_11 (by omega), Int.toNat_natCast]; rfl
theorem zb_prim_eph (h : zb_PCX B C R H rl ql fd fu r l p n Z sp0 zb_sp) (hp : p = 22) : zb_PRES B Q Z sp0 zb_sp C R l n a' := by
  by_cases hn : zb_arl.getD p 0 = n
  rotate_left
  · exact zb_pr_count h hn
  subst hp
  have hn2 : n = 2 := by rw [← hn]; rfl
  subst hn2
  have hl := zb_pc_len h
  refine zb_pr_two (k := 6) h rfl (by decide) (Or.inr rfl) (fun M kM => ?_) ?_
  · rw [zb_pc_2 (a' := a') (c := 120) (d := 120) h rfl (by decide) (by decide) kM, zb_d75_x, Option.bind_some, if_pos (by decide), zb_d75_x, Option.bind_some, if_pos (by decide), zb_d79_22, zb_d91_22]
    show _ = (fn_92 B.2.2.1 (B.2.2.1 / 3 + 1) 6 4 _ _ M).bind _
    rw [zb_bpair, zb_bpair]
  · rw [zb_d226_w (by decide) (by decide) (by decide) (by omega)]
    show fn_233_9 22 _ _ R = _
    rw [zb_d233_22, Int.toNat_natCast]; rfl
end PRM
section PRM
variable {B : zb_Bs} {Q : zb_Pq} {Z sp0 zb_sp : Nat} {C R C' R' C3 R3 M : eM} {H H' : zb_Hp} {rl ql rl' ql' : List (Nat × Nat)} {fd fd' fu p n : Nat} {l : List zb_Rec} {r : zb_Rec} {a' : Int}
set_option maxHeartbeats 1000000 in
theorem zb_prim_weak (h : zb_PCX B C R H rl ql fd fu r l p n Z sp0 zb_sp) (hp : p = 20) : zb_PRES B Q Z sp0 zb_sp C R l n a' := by
  by_cases hn : zb_arl.getD p 0 = n
  rotate_left
  · exact zb_pr_count h hn
  subst hp
  have hn2 : n = 1 := by rw [← hn]; rfl
  subst hn2
  have hl := zb_pc_len h
  have hc : ∀ M : eM, zb_KEP (zb_c2m C l a') M → fn_74 B.2.2.1 (B.2.2.1 / 3 + 1) ((l.length + 1 : Nat) : Int) M = (fn_99 B.2.2.1 (B.2.2.1 / 3 + 1) (C 35 (9 * (l.length + 1) + 1)) M).bind (zb_fin74 (l.length + 1)) := fun M kM => by
    rw [zb_pc_1 (a' := a') (c := 120) h rfl (by decide) kM, zb_d75_x, Option.bind_some, if_pos (by decide), zb_d79_20, zb_d91_20, zb_bpair, zb_bpair]
  refine zb_pr_make (k := 5) (s := 3) (v0 := R 77 (zb_bb l + 1)) (X := fun r35 => fn_231 r35.1 r35.2) h rfl (by decide) (by unfold zb_szk; omega) (by omega) (fun _ j hj => by rw [if_neg (by decide)]; exact hj) ?_ ?_ ?_ (fun R' => zb_f231n) ?_
  · intro M kM h5 h4 h8 e
    rw [hc M kM]
    unfold fn_99
    rw [show fn_93 B.2.2.1 (B.2.2.1 / 3 + 1) 5 3 M = _ from e, Option.bind_some]
    show (if (0 : Int) = 0 then (fn_95 0 (eg_u M 15 11 1)).bind fun r6 => some (r6, eg_u M 15 11 1) else _).bind _ = _
    rw [if_pos rfl]
    exact zb_fin_no h5 h4 h8
  · intro M C1 x us kM x1 x2 e h5 h4 h11 hp
    obtain ⟨C4, hC4⟩ : ∃ X, X = eg_u C1 16 (us + 1) (C 35 (9 * (l.length + 1) + 1)) := ⟨_, rfl⟩
    have c4 : ∀ c, c ≠ 16 → C4 c = C1 c := fun c hc => by rw [hC4, eg_u_ne hc]
    refine ⟨C4, ?_, c4, fun a ha => ?_, fun z => by omega, fun _ j hj => ?_⟩
    · rw [hc M kM]
      unfold fn_99
      rw [show fn_93 B.2.2.1 (B.2.2.1 / 3 + 1) 5 3 M = _ from e, Option.bind_some]
      show (if (x : Int) = 0 then _ else (fn_94 B.2.2.1 (B.2.2.1 / 3 + 1) (x : Int) ((1 : Nat) : Int) (C 35 (9 * (l.length + 1) + 1)) C1).bind fun m10 => (fn_95 (x : Int) m10).bind fun r12 => some (r12, m10)).bind _ = _
      rw [if_neg (by omega), hp C1 1 _ rfl (by omega), Option.bind_some, ← hC4]
      unfold fn_95
      rw [zb_lor_obj x2, Option.bind_some, Option.bind_some]
      exact zb_fin_v (by rw [c4 43 (by decide)]; exact h5) (by rw [c4 43 (by decide)]; exact h4) (by rw [c4 15 (by decide)]; exact h11)
    · rw [hC4, eg_u_nj (by omega)]
    · have hj0 : j = 0 := by simp [zb_nf] at hj; exact hj
      subst hj0
      rw [hC4]; exact eg_u_eq
  · rw [zb_d226_w (by decide) (by decide) (by decide) (by omega)]
    show fn_233_9 20 _ _ R = _
    rw [zb_d233_20, Int.toNat_natCast]
    show (fn_195 4 1 (R 77 (zb_bb l + 1)) R).bind _ = (fn_195 4 1 (R 77 (zb_bb l + 1)) R).bind _
    congr 1; funext r4
    exact zb_bpair
  · intro R3 o ls ho hls hnd h0 h77 hs
    refine ⟨R3, zb_f231, fun c hc => rfl, fun c hc => rfl, fun z => by omega, fun _ j hj => ?_⟩
    have hj0 : j = 0 := by simp [zb_nf] at hj; exact hj
    subst hj0
    match ls, hls with
    | [a], _ => exact h0 a (by simp)
set_option maxHeartbeats 1000000 in
theorem zb_prim_table (h : zb_PCX B C R H rl ql fd fu r l p n Z sp0 zb_sp) (hp : p = 25) : zb_PRES B Q Z sp0 zb_sp C R l n a' := by
  by_cases hn : zb_arl.getD p 0 = n
  rotate_left
  · exact zb_pr_count h hn
  subst hp
  have hn2 : n = 0 := by rw [← hn]; rfl
  subst hn2
  have hl := zb_pc_len h
  have hc : ∀ M : eM, zb_KEP (zb_c2m C l a') M → fn_74 B.2.2.1 (B.2.2.1 / 3 + 1) ((l.length + 1 : Nat) : Int) M = (fn_100 B.2.2.1 (B.2.2.1 / 3 + 1) M).bind (zb_fin74 (l.length + 1)) := fun M kM => by
    rw [zb_pc_0 (a' := a') h rfl kM, zb_d79_25, zb_d91_25, zb_bpair, zb_bpair]
  refine zb_pr_make (k := 7) (s := 3) (v0 := -1) (X := fun r35 => fn_231 r35.1 r35.2) h rfl (by decide) (by unfold zb_szk; omega) (by omega) (fun z => absurd rfl z) ?_ ?_ ?_ (fun R' => zb_f231n) ?_
  · intro M kM h5 h4 h8 e
    rw [hc M kM]
    unfold fn_100
    rw [show fn_93 B.2.2.1 (B.2.2.1 / 3 + 1) 7 3 M = _ from e, Option.bind_some]
    show (if (0 : Int) = 0 then (fn_95 0 (eg_u M 15 11 1)).bind fun r6 => some (r6, eg_u M 15 11 1) else _).bind _ = _
    rw [if_pos rfl]
    exact zb_fin_no h5 h4 h8
  · intro M C1 x us kM x1 x2 e h5 h4 h11 hp
    obtain ⟨C4, hC4⟩ : ∃ X, X = eg_u (eg_u C1 16 (us + 1) 0) 16 (us + 2) 0 := ⟨_, rfl⟩
    have c4 : ∀ c, c ≠ 16 → C4 c = C1 c := fun c hc => by rw [hC4, eg_u_ne hc, eg_u_ne hc]
    refine ⟨C4, ?_, c4, fun a ha => ?_, fun z => ⟨?_, ?_⟩, fun z => absurd rfl z⟩
    · rw [hc M kM]
      unfold fn_100
      rw [show fn_93 B.2.2.1 (B.2.2.1 / 3 + 1) 7 3 M = _ from e, Option.bind_some]
      show (if (x : Int) = 0 then _ else (fn_94 B.2.2.1 (B.2.2.1 / 3 + 1) (x : Int) ((1 : Nat) : Int) 0 C1).bind fun m10 => (fn_94 B.2.2.1 (B.2.2.1 / 3 + 1) (x : Int) ((2 : Nat) : Int) 0 m10).bind fun m13 => (fn_95 (x : Int) m13).bind fun r15 => some (r15, m13)).bind _ = _
      rw [if_neg (by omega), hp C1 1 _ rfl (by omega), Option.bind_some, hp _ 2 _ (eg_u_ne (by decide)) (by omega), Option.bind_some, ← hC4]
      unfold fn_95
      rw [zb_lor_obj x2, Option.bind_some, Option.bind_some]
      exact zb_fin_v (by rw [c4 43 (by decide)]; exact h5) (by rw [c4 43 (by decide)]; exact h4) (by rw [c4 15 (by decide)]; exact h11)
    · rw [hC4, eg_u_nj (by omega), eg_u_nj (by omega)]
    · rw [hC4, eg_u_nj (by omega)]; exact eg_u_eq
    · rw [hC4]; exact eg_u_eq
  · unfold fn_226 fn_233
    rw [if_pos (by decide), if_pos (by decide), if_neg (by decide), zb_bpair, if_neg (by decide)]
    show fn_233_9 25 _ _ R = _
    rw [zb_d233_25]
    show (fn_195 6 1 (-1) R).bind _ = (fn_195 6 1 (-1) R).bind _
    congr 1; funext r4
    exact zb_bpair
  · intro R3 o ls ho hls hnd h0 h77 hs
    refine ⟨R3, zb_f231, fun c hc => rfl, fun c hc => rfl, fun z => ?_, fun z => absurd rfl z⟩
    match ls, hls with
    | [a], _ => exact h0 a (by simp)
end PRM
