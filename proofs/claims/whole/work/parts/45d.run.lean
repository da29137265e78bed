def zb_RI (cn k : Nat) (C R : eM) : Prop := ∃ (N F n : Nat) (H : zb_Hp) (rl ql : List (Nat × Nat)) (fd : Nat), zb_GS (C, R, cn, N, F) C R H rl ql fd
  ∧ (C 1 6 = (F : Int) ∧ R 45 17 = (F : Int) ∧ F ≤ 20000) ∧ (C 7 2 = (n : Int) ∧ R 45 1 = (n : Int) ∧ n ≤ 3000 ∧ zb_tx C R n) ∧ (C 0 8 = R 45 2 ∧ C 0 9 = R 45 67) ∧ zb_RZ R ∧ R 45 42 ≤ 20000 * (k : Int)
theorem zb_nm_congr2 {C R C' R' : eM} {N : Nat} {L B : Nat → Nat} (h : zb_NM C R N L B) (c1 : C' 1 2 = C 1 2) (c2 : C' 2 = C 2) (c3 : C' 3 = C 3) (r7 : R' 45 7 = R 45 7) (r47 : R' 47 = R 47) (r48 : R' 48 = R 48) : zb_NM C' R' N L B := by
  unfold zb_NM at *
  rw [c1, c2, c3, r7, r47, r48]; exact h
theorem zb_bl_rws {C0 R0 C R : eM} {F : Nat} (h : zb_BL C0 R0 C R F) : zb_RWS C0 R0 C R F := fun c hc => by
  obtain ⟨a, b1, b2, b3, b4, b5, b6, b7, b8⟩ := h c hc
  exact ⟨a, b1, b2, b3, b4, b5, b6, b7⟩
theorem zb_ri_congr {cn k : Nat} {C R C' R' : eM} (h : zb_RI cn k C R) (hc : ∀ c, c < 45 → C' c = C c) (hr : ∀ c, 45 ≤ c → R' c = R c) : zb_RI cn k C' R' := by
  obtain ⟨N, F, n, H, rl, ql, fd, g, ⟨f1, f2, f3⟩, ⟨t1, t2, t3, t4⟩, ⟨p1, p2⟩, hz, h42⟩ := h
  obtain ⟨L, B', zb_nm⟩ := g.2.2.2.1
  have e45 := hr 45 (by decide)
  refine ⟨N, F, n, H, rl, ql, fd, zb_gs_base g (fun c hx => ?_) (Nat.le_refl _) (Nat.le_refl _) ⟨L, B', zb_nm_congr2 zb_nm (by rw [hc 1 (by decide)]) (hc 2 (by decide)) (hc 3 (by decide)) (by rw [e45]) (hr 47 (by decide)) (hr 48 (by decide))⟩ (fun f _ => by rw [hc 15 (by decide)]) (fun c hx => hc c (by revert hx; simp; omega)) (fun f _ => by rw [e45]) (fun c hx => hr c (by revert hx; simp; omega)), ⟨by rw [hc 1 (by decide)]; exact f1, by rw [e45]; exact f2, f3⟩, ⟨by rw [hc 7 (by decide)]; exact t1, by rw [e45]; exact t2, t3, fun i hi => by rw [hc 8 (by decide), hr 46 (by decide)]; exact t4 i hi⟩, ⟨by rw [hc 0 (by decide), e45]; exact p1, by rw [hc 0 (by decide), e45]; exact p2⟩, ?_, by rw [e45]; exact h42⟩
  · rw [hc 4 (by decide), hc 5 (by decide), hc 6 (by decide), hr 49 (by decide), hr 50 (by decide), hr 51 (by decide), hr 52 (by decide), hr 53 (by decide), hr 54 (by decide), hr 55 (by decide)]
    exact ⟨⟨rfl, rfl, rfl⟩, rfl, rfl, rfl, rfl, rfl, rfl, rfl⟩
  · unfold zb_RZ at *; rw [e45]; exact hz
section RUNC
variable {cn k : Nat} {C R : eM}
theorem zb_ri_fault {N F N' : Nat} {H : zb_Hp} {rl ql : List (Nat × Nat)} {fd : Nat} {C' R' : eM} {b : Nat} (g : zb_GS (C, R, cn, N, F) C R H rl ql fd) (h42 : R 45 42 ≤ 20000 * (k : Int)) (hz : zb_RZ R) (hF : F ≤ 20000) (hb : C' 0 9 = (b : Int)) (hb2 : R' 45 67 = (b : Int))
    (hw : zb_RWS C R C' R' F) (hN : N ≤ N') (hnm : ∃ L B', zb_NM C' R' N' L B') (cc : ∀ c, 15 ≤ c → c < 45 → C' c = C c) (rc : ∀ c, 62 ≤ c → R' c = R c) (zb_rf : ∀ f, f ∉ ([1, 2, 67, 3, 4, 7, 16, 18, 21, 22, 23] : List Nat) → R' 45 f = R 45 f)
    (h6 : C' 1 6 = (F : Int)) (h17 : R' 45 17 = (F : Int)) (h72 : C' 7 2 = 0) (h1 : R' 45 1 = 0) (hp : C' 0 8 = R' 45 2) : zb_RI cn (k + 1) C' R' := by
  refine ⟨N', F, 0, H, rl, ql, fd, zb_gs_base g hw hN (Nat.le_refl _) hnm (fun f _ => by rw [cc 15 (by decide) (by decide)]) (fun c hc => cc c (by revert hc; simp; omega) (by revert hc; simp; omega)) (fun f hf => zb_rf f (by revert hf; simp; omega)) (fun c hc => rc c (by revert hc; simp; omega)), ⟨h6, h17, hF⟩, ⟨h72, h1, by omega, fun i hi => by omega⟩, ⟨hp, by rw [hb, hb2]⟩, ?_, ?_⟩
  · obtain ⟨z1, z2, z3, z4, z5, z6⟩ := hz
    exact ⟨by rw [zb_rf 53 (by decide)]; exact z1, by rw [zb_rf 51 (by decide)]; exact z2, by rw [zb_rf 59 (by decide)]; exact z3, by rw [zb_rf 68 (by decide)]; exact z4, by rw [zb_rf 62 (by decide)]; exact z5, by rw [zb_rf 63 (by decide)]; exact z6⟩
  · rw [zb_rf 42 (by decide)]; omega
theorem zb_ri_ran {B : zb_Bs} {H : zb_Hp} {rl ql : List (Nat × Nat)} {fd fu : Nat} {C' R' : eM} (hB : B.2.2.1 = cn) (g : zb_GS B C' R' H rl ql fd) (hf : zb_FUE C' R' fu) (h42 : B.2.1 45 42 ≤ 20000 * (k : Int)) (zb_hS : B.2.2.2.2 ≤ 20000)
    (h6 : C' 1 6 = (B.2.2.2.2 : Int)) (h17 : R' 45 17 = (B.2.2.2.2 : Int)) (h72 : C' 7 2 = 0) (h1 : R' 45 1 = 0) (hp : C' 0 8 = R' 45 2) :
    zb_RI cn (k + 1) (eg_u C' 0 9 (C' 44 7)) (eg_u (eg_u (eg_u (eg_u (eg_u (eg_u R' 45 53 0) 45 51 0) 45 59 0) 45 68 0) 45 62 (-1)) 45 63 (-1)) := by
  obtain ⟨C5, hC5⟩ : ∃ X, X = eg_u C' 0 9 (C' 44 7) := ⟨_, rfl⟩
  obtain ⟨R5, hR5⟩ : ∃ X, X = eg_u (eg_u (eg_u (eg_u (eg_u (eg_u R' 45 53 0) 45 51 0) 45 59 0) 45 68 0) 45 62 (-1)) 45 63 (-1) := ⟨_, rfl⟩
  rw [← hC5, ← hR5]
  have c5 : ∀ c, c ≠ 0 → C5 c = C' c := fun c hc => by rw [hC5, eg_u_ne hc]
  have r5 : ∀ c, c ≠ 45 → R5 c = R' c := fun c hc => by rw [hR5, eg_u_ne hc, eg_u_ne hc, eg_u_ne hc, eg_u_ne hc, eg_u_ne hc, eg_u_ne hc]
  have r5f : ∀ f, f ∉ ([53, 51, 59, 68, 62, 63] : List Nat) → R5 45 f = R' 45 f := fun f hf => by
    have : f ≠ 53 ∧ f ≠ 51 ∧ f ≠ 59 ∧ f ≠ 68 ∧ f ≠ 62 ∧ f ≠ 63 := by revert hf; simp
    obtain ⟨q1, q2, q3, q4, q5, q6⟩ := this
    rw [hR5, eg_u_nj (fun z => q6 z.2), eg_u_nj (fun z => q5 z.2), eg_u_nj (fun z => q4 z.2), eg_u_nj (fun z => q3 z.2), eg_u_nj (fun z => q2 z.2), eg_u_nj (fun z => q1 z.2)]
  obtain ⟨L, B', zb_nm⟩ := g.2.2.2.1
  have hnum := (g.2.2.2.2.2.2.2.2).1.2
  have h1042 := g.1.2.2.2.2
  refine ⟨B.2.2.2.1, B.2.2.2.2, 0, H, rl, ql, fd, ?_, ⟨by rw [c5 1 (by decide)]; exact h6, by rw [r5f 17 (by decide)]; exact h17, zb_hS⟩, ⟨by rw [c5 7 (by decide)]; exact h72, by rw [r5f 1 (by decide)]; exact h1, by omega, fun i hi => by omega⟩, ⟨?_, ?_⟩, ?_, ?_⟩
  · rw [← hB]
    exact zb_gs_base g (fun c _ => by rw [c5 4 (by decide), c5 5 (by decide), c5 6 (by decide), r5 49 (by decide), r5 50 (by decide), r5 51 (by decide), r5 52 (by decide), r5 53 (by decide), r5 54 (by decide), r5 55 (by decide)]; exact ⟨⟨rfl, rfl, rfl⟩, rfl, rfl, rfl, rfl, rfl, rfl, rfl⟩) (Nat.le_refl _) (Nat.le_refl _) ⟨L, B', zb_nm_congr2 zb_nm (by rw [c5 1 (by decide)]) (c5 2 (by decide)) (c5 3 (by decide)) (r5f 7 (by decide)) (r5 47 (by decide)) (r5 48 (by decide))⟩ (fun f _ => by rw [c5 15 (by decide)]) (fun c hc => c5 c (by revert hc; simp; omega)) (fun f hf => r5f f (by revert hf; simp; omega)) (fun c hc => r5 c (by revert hc; simp; omega))
  · rw [r5f 2 (by decide), hC5, eg_u_nj (by decide)]; exact hp
  · rw [r5f 67 (by decide), hC5, eg_u_eq, hf.1, hf.2.1]
  · refine ⟨?_, ?_, ?_, ?_, ?_, ?_⟩
    · rw [hR5, eg_u_nj (by decide), eg_u_nj (by decide), eg_u_nj (by decide), eg_u_nj (by decide), eg_u_nj (by decide), eg_u_eq]
    · rw [hR5, eg_u_nj (by decide), eg_u_nj (by decide), eg_u_nj (by decide), eg_u_nj (by decide), eg_u_eq]
    · rw [hR5, eg_u_nj (by decide), eg_u_nj (by decide), eg_u_nj (by decide), eg_u_eq]
    · rw [hR5, eg_u_nj (by decide), eg_u_nj (by decide), eg_u_eq]
    · rw [hR5, eg_u_nj (by decide), eg_u_eq]
    · rw [hR5, eg_u_eq]
  · rw [r5f 42 (by decide), ← h1042]
    have : C' 15 10 ≤ B.2.1 45 42 + 20000 := hnum
    omega
end RUNC
section RUNC
variable {cn k : Nat} {C R : eM}
set_option maxHeartbeats 2000000 in
theorem zb_run_ok (hk : k ≤ 1000) (h : zb_RI cn k C R) (a b : Int) : ∃ (v : Int) (C' R' : eM), fn_29 cn (cn / 3 + 1) a b C = some (v, C') ∧ fn_157 a b R = some (v, R') ∧ zb_RI cn (k + 1) C' R' := by
  have hI := h
  obtain ⟨N, F, n, H, rl, ql, fd, g, ⟨f1, f2, f3⟩, ⟨t1, t2, t3, t4⟩, ⟨p1, p2⟩, hz, h42⟩ := h
  have hI1 : zb_RI cn (k + 1) C R := ⟨N, F, n, H, rl, ql, fd, g, ⟨f1, f2, f3⟩, ⟨t1, t2, t3, t4⟩, ⟨p1, p2⟩, hz, by omega⟩
  unfold fn_29 fn_157
  by_cases ha : a < 0
  · exact ⟨-1, C, R, if_pos ha, if_pos ha, hI1⟩
  rw [if_neg ha, if_neg ha, t1, t2]
  by_cases ha2 : (n : Int) < a
  · exact ⟨-1, C, R, if_pos ha2, if_pos ha2, hI1⟩
  rw [if_neg ha2, if_neg ha2]
  by_cases hb : b < 0
  · exact ⟨-1, C, R, if_pos hb, if_pos hb, hI1⟩
  rw [if_neg hb, if_neg hb]
  by_cases hb2 : b ≤ 20000
  rotate_left
  · exact ⟨-1, C, R, if_neg hb2, if_neg hb2, hI1⟩
  rw [if_pos hb2, if_pos hb2]
  obtain ⟨m, rfl⟩ := Int.eq_ofNat_of_zero_le (Int.not_lt.mp ha)
  obtain ⟨q, rfl⟩ := Int.eq_ofNat_of_zero_le (Int.not_lt.mp hb)
  obtain ⟨Ca, hCa⟩ : ∃ X, X = eg_u C 0 9 (q : Int) := ⟨_, rfl⟩
  obtain ⟨Ra, hRa⟩ : ∃ X, X = eg_u (eg_u (eg_u R 45 1 0) 45 2 (-1)) 45 67 (q : Int) := ⟨_, rfl⟩
  have ca : ∀ c, c ≠ 0 → Ca c = C c := fun c hc => by rw [hCa, eg_u_ne hc]
  have ra : ∀ c, c ≠ 45 → Ra c = R c := fun c hc => by rw [hRa, eg_u_ne hc, eg_u_ne hc, eg_u_ne hc]
  have raf : ∀ f, f ∉ ([1, 2, 67] : List Nat) → Ra 45 f = R 45 f := fun f hf => by
    have : f ≠ 1 ∧ f ≠ 2 ∧ f ≠ 67 := by revert hf; simp
    obtain ⟨q1, q2, q3⟩ := this
    rw [hRa, eg_u_nj (fun z => q3 z.2), eg_u_nj (fun z => q2 z.2), eg_u_nj (fun z => q1 z.2)]
  obtain ⟨L, B', zb_nm⟩ := g.2.2.2.1
  have nm' : zb_NM C R N L B' := zb_nm
  have nma : zb_NM Ca Ra N L B' := zb_nm_congr2 nm' (by rw [ca 1 (by decide)]) (ca 2 (by decide)) (ca 3 (by decide)) (raf 7 (by decide)) (ra 47 (by decide)) (ra 48 (by decide))
  obtain ⟨C1, R1, f, e30, e158, rdr⟩ := zb_rd_all (C := Ca) (R := Ra) (n := m) (F := F) (N := N) (L := L) (B := B') (by rw [ca 1 (by decide)]; exact f1) (by rw [raf 17 (by decide)]; exact f2) f3 (by omega) (by rw [ca 7 (by decide), t1]; omega) (fun i hi => by rw [ca 8 (by decide), ra 46 (by decide)]; exact t4 i (by omega)) nma (by rw [hRa, eg_u_nj (by decide), eg_u_eq])
  rw [← hCa, ← hRa, e30, e158, Option.bind_some, Option.bind_some]
  have c1 : ∀ c, c ∉ ([1, 2, 3, 4, 5, 6, 7, 9, 10, 11] : List Nat) → C1 c = Ca c := fun c hc => funext fun j => fw_30 e30 hc j
  have r1 : ∀ c, c ∉ ([45, 47, 48, 49, 50, 51, 52, 53, 54, 55, 56, 57, 58] : List Nat) → R1 c = Ra c := fun c hc => funext fun j => fw_158 e158 hc j
  have r1f : ∀ j, j ∉ ([2, 3, 4, 7, 16, 18, 21, 22] : List Nat) → R1 45 j = Ra 45 j := fun j hj => fg_158 rfl e158 hj
  have h42' : R 45 42 ≤ 2000000000 := by omega
  obtain ⟨C2, hC2⟩ : ∃ X, X = eg_u (eg_u C1 7 2 0) 0 8 (C1 7 5) := ⟨_, rfl⟩
  have c2 : ∀ c, c ≠ 0 → c ≠ 7 → C2 c = C1 c := fun c h0 h7 => by rw [hC2, eg_u_ne h0, eg_u_ne h7]
  have c2f : ∀ f, f ≠ 2 → C2 7 f = C1 7 f := fun f hf => by rw [hC2, eg_u_ne (by decide), eg_u_nj (fun z => hf z.2)]
  have c272 : C2 7 2 = 0 := by rw [hC2, eg_u_ne (by decide), eg_u_eq]
  have c208 : C2 0 8 = C1 7 5 := by rw [hC2, eg_u_eq]
  have c209 : C2 0 9 = (q : Int) := by rw [hC2, eg_u_nj (by decide), eg_u_ne (by decide), c1 0 (by decide), hCa, eg_u_eq]
  have r167 : R1 45 67 = (q : Int) := by rw [r1f 67 (by decide), hRa, eg_u_eq]
  have r11 : R1 45 1 = 0 := by rw [r1f 1 (by decide), hRa, eg_u_nj (by decide), eg_u_nj (by decide), eg_u_eq]
  have c2cc : ∀ c, 15 ≤ c → c < 45 → C2 c = C c := fun c h1 h2 => by rw [c2 c (by omega) (by omega), c1 c (by simp <;> omega), ca c (by omega)]
  have r1rc : ∀ c, 62 ≤ c → R1 c = R c := fun c h1 => by rw [r1 c (by simp <;> omega), ra c (by omega)]
  have rwa : zb_RWS C R Ca Ra F := fun c _ => by rw [ca 4 (by decide), ca 5 (by decide), ca 6 (by decide), ra 49 (by decide), ra 50 (by decide), ra 51 (by decide), ra 52 (by decide), ra 53 (by decide), ra 54 (by decide), ra 55 (by decide)]; exact ⟨⟨rfl, rfl, rfl⟩, rfl, rfl, rfl, rfl, rfl, rfl, rfl⟩
  have rw1 : zb_BL Ca Ra C1 R1 F → zb_RWS C R C2 R1 F := fun hb c hc => by
    obtain ⟨⟨x1, x2, x3⟩, y1, y2, y3, y4, y5, y6, y7⟩ := zb_bl_rws hb c hc
    obtain ⟨⟨u1, u2, u3⟩, v1, v2, v3, v4, v5, v6, v7⟩ := rwa c hc
    exact ⟨⟨by rw [c2 4 (by decide) (by decide), x1, u1], by rw [c2 5 (by decide) (by decide), x2, u2], by rw [c2 6 (by decide) (by decide), x3, u3]⟩, by rw [y1, v1], by rw [y2, v2], by rw [y3, v3], by rw [y4, v4], by rw [y5, v5], by rw [y6, v6], by rw [y7, v7]⟩
  rcases rdr with ⟨hf0, S, D, E, op, N', L', B2, ⟨rs, bl, vk', nm1, k4, k5, k2⟩, hN⟩ | ⟨hf, k4, ⟨k5, k6⟩, bl, N', L', B2, nm1, hN⟩
  rotate_left
  · -- a fault of reading
    have hC74 : ¬ C1 7 4 = 0 := by omega
    have hf0 : ¬ f = 0 := by omega
    rw [f1]
    show ∃ v C' R', (if ¬ C1 7 4 = 0 then fn_29_47 cn (cn / 3 + 1) (m : Int) (q : Int) (F : Int) (eg_u (eg_u C1 7 2 0) 0 8 (C1 7 5)) else _) = some (v, C') ∧ (if ¬ f = 0 then fn_157_31 (m : Int) (q : Int) f R1 else _) = some (v, R') ∧ _
    rw [if_pos hC74, if_pos hf0, ← hC2]
    unfold fn_29_47 fn_157_31
    rw [if_neg (show ¬ C2 0 8 = -1 by rw [c208]; omega), if_pos (show ¬ C2 7 4 = 0 by rw [c2f 4 (by decide)]; exact hC74), if_neg (show ¬ f ≤ 0 by omega), c2f 4 (by decide), k4]
    refine ⟨f, _, R1, rfl, rfl, ?_⟩
    refine zb_ri_fault g h42 hz f3 (b := q) (by rw [eg_u_ne (by decide)]; exact c209) r167 (fun c hc => ?_) hN ⟨L', B2, zb_nm_congr2 nm1 (by rw [eg_u_nj (by decide), c2 1 (by decide) (by decide)]) (by rw [eg_u_ne (by decide), c2 2 (by decide) (by decide)]) (by rw [eg_u_ne (by decide), c2 3 (by decide) (by decide)]) rfl rfl rfl⟩ (fun c h1 h2 => by rw [eg_u_ne (by omega), c2cc c h1 h2]) r1rc (fun j hj => by rw [r1f j (by revert hj; simp <;> omega), raf j (by revert hj; simp <;> omega)]) eg_u_eq ?_ (by rw [eg_u_ne (by decide)]; exact c272) r11 (by rw [eg_u_ne (by decide), c208, k5])
    · have := rw1 bl c hc
      rw [eg_u_ne (by decide), eg_u_ne (by decide), eg_u_ne (by decide)]; exact this
    · rw [r1f 17 (by decide), raf 17 (by decide)]; exact f2
  have pg1 : zb_PG C1 R1 F S N' D E := zb_PG_of ⟨rs, bl, vk', nm1, k4, k5, k2⟩
  obtain ⟨ps, hX, hT, hO', hOM, hDM⟩ := rs
  have s16 := ps.2.2.1.1
  have s4516 := ps.2.2.1.2.1
  have s17 := ps.2.2.1.2.2.2.1
  have sF := ps.2.2.1.2.2.2.2.1
  have sS := ps.2.2.1.2.2.2.2.2.1
  have hNM := nm1.1
  have pg2 : zb_PG C2 R1 F S N' D E := zb_pg_mono pg1 (fun c _ => by rw [c2 4 (by decide) (by decide), c2 5 (by decide) (by decide), c2 6 (by decide) (by decide)]; exact ⟨⟨rfl, rfl, rfl⟩, rfl, rfl, rfl, rfl, rfl, rfl, rfl⟩) (Nat.le_refl _) rfl rfl
  have h56 : ∀ x, F ≤ x → x < S → C2 9 (x - F) = R1 56 x ∧ 0 ≤ R1 56 x := fun x x1 x2 => by
    obtain ⟨_, _, _, d4, d5, _⟩ := hDM x x1 x2
    exact ⟨by rw [c2 9 (by decide) (by decide)]; exact d4, d5⟩
  have c26 : C2 1 6 = (S : Int) := by rw [c2 1 (by decide) (by decide)]; exact s16
  have sh := zb_shape_all pg2 hNM.2.2.2 c26 (fun x x1 x2 => (h56 x x1 x2).1)
  subst hf0
  rw [f1]
  show ∃ v C' R', (if ¬ C1 7 4 = 0 then _ else (fn_54 (F : Int) (eg_u (eg_u C1 7 2 0) 0 8 (C1 7 5))).bind fun r15 => fn_29_47 cn (cn / 3 + 1) (m : Int) (q : Int) (F : Int) (eg_u r15.2 0 8 r15.1)) = some (v, C') ∧ (if ¬ (0 : Int) = 0 then _ else (fn_170 R1).bind fun r14 => fn_157_31 (m : Int) (q : Int) r14.1 r14.2) = some (v, R') ∧ _
  rw [if_neg (fun z => z k4), if_neg (fun z => z rfl), ← hC2]
  rcases sh with ⟨C3, R3, e54, e170, r3f, gv, t2'⟩ | ⟨x, C3, R3, x1, x2, e54, e170, h2, r3f⟩
  rotate_left
  · -- a fault of shape
    have c3 : ∀ c, c ∉ ([12, 13, 14] : List Nat) → C3 c = C2 c := fun c hc => funext fun j => fw_54 e54 hc j
    have r3 : ∀ c, c ∉ ([45, 59, 60, 61] : List Nat) → R3 c = R1 c := fun c hc => funext fun j => fw_170 e170 hc j
    rw [e54, e170, Option.bind_some, Option.bind_some]
    unfold fn_29_47 fn_157_31
    have hx0 := (h56 x x1 x2).2
    obtain ⟨C4, hC4⟩ : ∃ X, X = eg_u C3 0 8 (R1 56 x) := ⟨_, rfl⟩
    have c4 : ∀ c, c ≠ 0 → C4 c = C3 c := fun c hc => by rw [hC4, eg_u_ne hc]
    have c408 : C4 0 8 = R1 56 x := by rw [hC4, eg_u_eq]
    have c474 : C4 7 4 = 0 := by rw [c4 7 (by decide), c3 7 (by decide), c2f 4 (by decide)]; exact k4
    show ∃ v C' R', (if (eg_u C3 0 8 (R1 56 x)) 0 8 = -1 then _ else if ¬ (eg_u C3 0 8 (R1 56 x)) 7 4 = 0 then _ else some (3, eg_u (eg_u C3 0 8 (R1 56 x)) 1 6 (F : Int))) = some (v, C') ∧ (if (3 : Int) ≤ 0 then _ else some (3, R3)) = some (v, R') ∧ _
    rw [← hC4, if_neg (show ¬ C4 0 8 = -1 by rw [c408]; omega), if_neg (fun z => z c474), if_neg (by decide)]
    refine ⟨3, _, R3, rfl, rfl, ?_⟩
    have c4c1 : ∀ c, c ∉ ([0, 7, 12, 13, 14] : List Nat) → C4 c = C1 c := fun c hc => by
      rw [c4 c (by revert hc; simp <;> omega), c3 c (by revert hc; simp <;> omega), c2 c (by revert hc; simp <;> omega) (by revert hc; simp <;> omega)]
    refine zb_ri_fault g h42 hz f3 (b := q) ?_ ?_ (fun c hc => ?_) hN ⟨L', B2, zb_nm_congr2 nm1 (by rw [eg_u_nj (by decide), c4c1 1 (by decide)]) (by rw [eg_u_ne (by decide), c4c1 2 (by decide)]) (by rw [eg_u_ne (by decide), c4c1 3 (by decide)]) (r3f 7 (by decide) (by decide)) (r3 47 (by decide)) (r3 48 (by decide))⟩ (fun c h1 h2 => by rw [eg_u_ne (by omega), c4 c (by omega), c3 c (by simp <;> omega), c2cc c h1 h2]) (fun c hc => by rw [r3 c (by simp <;> omega), r1rc c hc]) (fun j hj => by rw [r3f j (by revert hj; simp <;> omega) (by revert hj; simp <;> omega), r1f j (by revert hj; simp <;> omega), raf j (by revert hj; simp <;> omega)]) eg_u_eq ?_ ?_ ?_ ?_
    · rw [eg_u_ne (by decide), hC4, eg_u_nj (by decide), c3 0 (by decide)]; exact c209
    · rw [r3f 67 (by decide) (by decide)]; exact r167
    · have := rw1 bl c hc
      rw [eg_u_ne (by decide), eg_u_ne (by decide), eg_u_ne (by decide), c4 4 (by decide), c4 5 (by decide), c4 6 (by decide), c3 4 (by decide), c3 5 (by decide), c3 6 (by decide), r3 49 (by decide), r3 50 (by decide), r3 51 (by decide), r3 52 (by decide), r3 53 (by decide), r3 54 (by decide), r3 55 (by decide)]; exact this
    · rw [r3f 17 (by decide) (by decide)]; exact s17
    · rw [eg_u_ne (by decide), c4 7 (by decide), c3 7 (by decide)]; exact c272
    · rw [r3f 1 (by decide) (by decide)]; exact r11
    · rw [eg_u_ne (by decide), c408, h2]
  have c3 : ∀ c, c ∉ ([12, 13, 14] : List Nat) → C3 c = C2 c := fun c hc => funext fun j => fw_54 e54 hc j
  have r3 : ∀ c, c ∉ ([45, 59, 60, 61] : List Nat) → R3 c = R1 c := fun c hc => funext fun j => fw_170 e170 hc j
  rw [e54, e170, Option.bind_some, Option.bind_some]
  obtain ⟨C4, hC4⟩ : ∃ X, X = eg_u C3 0 8 (-1) := ⟨_, rfl⟩
  have c4 : ∀ c, c ≠ 0 → C4 c = C3 c := fun c hc => by rw [hC4, eg_u_ne hc]
  have c408 : C4 0 8 = -1 := by rw [hC4, eg_u_eq]
  have c4c1 : ∀ c, c ∉ ([0, 7, 12, 13, 14] : List Nat) → C4 c = C1 c := fun c hc => by
    rw [c4 c (by revert hc; simp <;> omega), c3 c (by revert hc; simp <;> omega), c2 c (by revert hc; simp <;> omega) (by revert hc; simp <;> omega)]
  obtain ⟨R4, hR4⟩ : ∃ X, X = eg_u R3 45 17 (R3 45 16) := ⟨_, rfl⟩
  have r4 : ∀ c, c ≠ 45 → R4 c = R3 c := fun c hc => by rw [hR4, eg_u_ne hc]
  have r4f : ∀ j, j ≠ 17 → R4 45 j = R3 45 j := fun j hj => by rw [hR4, eg_u_nj (fun z => hj z.2)]
  have r417 : R4 45 17 = (S : Int) := by rw [hR4, eg_u_eq, r3f 16 (by decide)]; exact s4516
  have r4r1 : ∀ c, c ∉ ([45, 59, 60, 61] : List Nat) → R4 c = R1 c := fun c hc => by rw [r4 c (by revert hc; simp <;> omega), r3 c hc]
  have r4f1 : ∀ j, j ≠ 17 → j ≠ 23 → R4 45 j = R1 45 j := fun j j1 j2 => by rw [r4f j j1, r3f j j2]
  have c416 : C4 1 6 = (S : Int) := by rw [c4c1 1 (by decide)]; exact s16
  unfold fn_29_47 fn_157_31
  show ∃ v C' R', (if (eg_u C3 0 8 (-1)) 0 8 = -1 then (fn_69 cn (cn / 3 + 1) (F : Int) ((eg_u C3 0 8 (-1)) 1 6) (q : Int) (eg_u C3 0 8 (-1))).bind fun m12 => some (m12 44 8, eg_u m12 0 9 (m12 44 7)) else _) = some (v, C') ∧ (if (0 : Int) ≤ 0 then (fn_183 (eg_u R3 45 17 (R3 45 16))).bind fun r11 => some (r11.1, eg_u (eg_u (eg_u (eg_u (eg_u (eg_u r11.2 45 53 0) 45 51 0) 45 59 0) 45 68 0) 45 62 (-1)) 45 63 (-1)) else _) = some (v, R') ∧ _
  rw [← hC4, ← hR4, if_pos c408, if_pos (Int.le_refl 0), c416]
  have rw4 : ∀ T, zb_RWS C1 R1 C4 R4 T := fun T c _ => by rw [c4c1 4 (by decide), c4c1 5 (by decide), c4c1 6 (by decide), r4r1 49 (by decide), r4r1 50 (by decide), r4r1 51 (by decide), r4r1 52 (by decide), r4r1 53 (by decide), r4r1 54 (by decide), r4r1 55 (by decide)]; exact ⟨⟨rfl, rfl, rfl⟩, rfl, rfl, rfl, rfl, rfl, rfl, rfl⟩
  have pg4 : zb_PG C4 R4 F S N' D E := zb_pg_mono pg1 (rw4 S) (Nat.le_refl _) (r4f1 21 (by decide) (by decide)) (r4f1 22 (by decide) (by decide))
  have gv4 : zb_GV C3 R4 F D E S := zb_GV_r (r4r1 49 (by decide)) (r4r1 50 (by decide)) gv
  have g4 : zb_GS (C4, R4, cn, N', S) C4 R4 H rl ql fd := by
    refine zb_gs_base g (fun c hc => ?_) hN sF ⟨L', B2, zb_nm_congr2 nm1 (by rw [c4c1 1 (by decide)]) (c4c1 2 (by decide)) (c4c1 3 (by decide)) (r4f1 7 (by decide) (by decide)) (r4r1 47 (by decide)) (r4r1 48 (by decide))⟩ (fun f _ => by rw [c4 15 (by decide), c3 15 (by decide), c2cc 15 (by decide) (by decide)]) (fun c hc => by rw [c4 c (by revert hc; simp <;> omega), c3 c (by revert hc; simp <;> omega), c2cc c (by revert hc; simp <;> omega) (by revert hc; simp <;> omega)]) (fun j hj => by rw [r4f1 j (by revert hj; simp <;> omega) (by revert hj; simp <;> omega), r1f j (by revert hj; simp <;> omega), raf j (by revert hj; simp <;> omega)]) (fun c hc => by rw [r4r1 c (by revert hc; simp <;> omega), r1rc c (by revert hc; simp <;> omega)])
    obtain ⟨⟨x1, x2, x3⟩, y1, y2, y3, y4, y5, y6, y7⟩ := rw1 bl c hc
    obtain ⟨⟨u1, u2, u3⟩, v1, v2, v3, v4, v5, v6, v7⟩ := rw4 F c hc
    rw [c2 4 (by decide) (by decide)] at x1
    rw [c2 5 (by decide) (by decide)] at x2
    rw [c2 6 (by decide) (by decide)] at x3
    exact ⟨⟨u1.trans x1, u2.trans x2, u3.trans x3⟩, v1.trans y1, v2.trans y2, v3.trans y3, v4.trans y4, v5.trans y5, v6.trans y6, v7.trans y7⟩
  have r4R : ∀ j, j ∉ ([1, 2, 67, 3, 4, 7, 16, 17, 18, 21, 22, 23] : List Nat) → R4 45 j = R 45 j := fun j hj => by rw [r4f1 j (by revert hj; simp <;> omega) (by revert hj; simp <;> omega), r1f j (by revert hj; simp <;> omega), raf j (by revert hj; simp <;> omega)]
  have rz4 : zb_RZ R4 := by
    obtain ⟨z1, z2, z3, z4, z5, z6⟩ := hz
    exact ⟨by rw [r4R 53 (by decide)]; exact z1, by rw [r4R 51 (by decide)]; exact z2, by rw [r4R 59 (by decide)]; exact z3, by rw [r4R 68 (by decide)]; exact z4, by rw [r4R 62 (by decide)]; exact z5, by rw [r4R 63 (by decide)]; exact z6⟩
  have h442 : R4 45 42 = R 45 42 := r4R 42 (by decide)
  have pgo := zb_run_prog pg4 gv4 t2' g4 (b := q) (by omega) (by rw [r4f1 67 (by decide) (by decide)]; exact r167) rz4 (by rw [h442]; exact h42')
  have fin : ∀ (C9 R9 : eM) (v : Int) (H9 : zb_Hp) (rl9 ql9 : List (Nat × Nat)) (fd9 fu9 : Nat), fn_69 cn (cn / 3 + 1) (F : Int) (S : Int) (q : Int) C4 = some C9 → fn_183 R4 = some (v, R9) → zb_GS (C4, R4, cn, N', S) C9 R9 H9 rl9 ql9 fd9 → zb_FUE C9 R9 fu9 → zb_RI cn (k + 1) (eg_u C9 0 9 (C9 44 7)) (eg_u (eg_u (eg_u (eg_u (eg_u (eg_u R9 45 53 0) 45 51 0) 45 59 0) 45 68 0) 45 62 (-1)) 45 63 (-1)) := by
    intro C9 R9 v H9 rl9 ql9 fd9 fu9 e69 e183 g9 fue
    have c9 : ∀ c, c < 15 → C9 c = C4 c := fun c hc => funext fun j => fw_69 e69 (by simp <;> omega) j
    have r9 : ∀ j, j ∉ ([28, 29, 38, 41, 42, 43, 45, 48, 51, 53, 59, 62, 63, 64, 66, 67, 68, 69, 70, 72, 73, 74] : List Nat) → R9 45 j = R4 45 j := fun j hj => fg_183 rfl e183 hj
    refine zb_ri_ran (B := (C4, R4, cn, N', S)) rfl g9 fue (show R4 45 42 ≤ _ by rw [h442]; exact h42) sS (by rw [c9 1 (by decide)]; exact c416) (by rw [r9 17 (by decide)]; exact r417) (by rw [c9 7 (by decide), c4 7 (by decide), c3 7 (by decide)]; exact c272) (by rw [r9 1 (by decide), r4f1 1 (by decide) (by decide)]; exact r11) ?_
    rw [c9 0 (by decide), c408, r9 2 (by decide), r4f1 2 (by decide) (by decide)]; exact k2.symm
  rcases pgo with ⟨C9, R9, H9, rl9, ql9, fd9, fu9, e69, e183, sx⟩ | ⟨C9, R9, v, e69, e183, en⟩
  · rw [e69, e183, Option.bind_some, Option.bind_some]
    refine ⟨0, _, _, ?_, rfl, fin C9 R9 0 H9 rl9 ql9 fd9 fu9 e69 e183 sx.1.1 sx.2.1⟩
    have h8 : C9 44 8 = 0 := sx.1.2.2.2.1.1.1
    rw [h8]
  · obtain ⟨H9, rl9, ql9, fd9, fu9, g9, fue, h8, _, _, _⟩ := en
    rw [e69, e183, Option.bind_some, Option.bind_some]
    refine ⟨v, _, _, ?_, rfl, fin C9 R9 v H9 rl9 ql9 fd9 fu9 e69 e183 g9 fue⟩
    rw [h8]
end RUNC
