section FRE
variable {cn mo : Nat}
theorem zb_m0_lt {c j : Nat} (h : c < 45) : eh_M0 cn mo c j = ec_M (eg_z (fun _ _ => 0) 0 0) cn mo c j := by
  unfold eh_M0
  rw [em_M_ne (by omega) (by omega) (by omega) (by omega) (by omega) (fun z => by omega) (fun z => by omega) (fun z => by omega) (fun z => by omega)]
  unfold em_M0
  repeat (first | rw [zb_z_ne (by omega)] | rw [eg_u_ne (by omega)])
theorem zb_c_src {c j : Nat} (h : c = 1 ∨ c = 2 ∨ c = 3) : ec_M (eg_z (fun _ _ => 0) 0 0) cn mo c j = zb_kns (eg_z (eg_z (eg_z (eg_z (eg_z (eg_z (eg_z (fun _ _ => 0) 0 0) 1 0) 2 0) 3 0) 4 0) 5 0) 6 0) zb_wds c j := by
  unfold ec_M
  repeat (first | rw [zb_z_ne (by omega)] | rw [eg_u_ne (by omega)] | rw [zb_lay_ne (by omega)] | rw [ev_fil_ne (by omega)])
  rw [zb_src_kns]
theorem zb_or37 : ∀ j, j < 34 → (Int64.ofInt 12884901888 ||| Int64.ofInt ((j : Nat) : Int)).toInt = 12884901888 + (j : Int) := by decide +kernel
theorem zb_or72 : ∀ j, j < 34 → (Int64.ofInt 21474836480 ||| Int64.ofInt (((10 + j : Nat) : Nat) : Int)).toInt = 21474836490 + (j : Int) := by decide +kernel
theorem zb_c_37 {n : Nat} (hn : n < 444) : eh_M0 cn mo 37 n = if 10 ≤ n ∧ n < 44 then 12884901888 + ((n - 10 : Nat) : Int) else 21474836480 := by
  rw [zb_m0_lt (by decide)]
  unfold ec_M
  rw [eg_u_ne (by decide), zb_z_ne (by decide), zb_z_ne (by decide), zb_z_ne (by decide), zb_z_ne (by decide), zb_z_ne (by decide), zb_z_ne (by decide), eg_u_ne (by decide), zb_z_ne (by decide)]
  unfold eg_lay9
  by_cases h : 10 ≤ n ∧ n < 44
  · rw [if_pos ⟨rfl, h.1, by omega⟩, if_pos h]; exact zb_or37 (n - 10) (by omega)
  · rw [if_neg (fun z => h ⟨z.2.1, by omega⟩), if_neg h]
    unfold eg_fil
    rw [if_pos ⟨rfl, Nat.zero_le _, hn⟩]
theorem zb_r_72 {n : Nat} (hn : n < 444) : eh_M0 cn mo 72 n = if 10 ≤ n ∧ n < 44 then 21474836490 + ((n - 10 : Nat) : Int) else -1 := by
  unfold eh_M0 em_M em_E em_G
  rw [eg_u_ne (by decide), zb_lay_ne (by decide), eg_u_ne (by decide), zb_lay_ne (by decide)]
  unfold eg_lay9
  by_cases h : 10 ≤ n ∧ n < 44
  · rw [if_pos ⟨rfl, h.1, by omega⟩, if_pos h]; exact zb_or72 (n - 10) (by omega)
  · rw [if_neg (fun z => h ⟨z.2.1, by omega⟩), if_neg h]
    unfold eg_fil
    rw [if_pos ⟨rfl, Nat.zero_le _, by omega⟩]
theorem zb_r_69 {k : Nat} (hk : k < 6700) : eh_M0 cn mo 69 k = 6699 - (k : Int) := by
  unfold eh_M0 em_M em_E
  rw [eg_u_ne (by decide), zb_lay_ne (by decide), eg_u_ne (by decide)]
  unfold eg_lay9
  rw [if_pos ⟨rfl, Nat.zero_le _, by omega⟩]; rfl
theorem zb_r_71 {k : Nat} (hk : k < 20000) : eh_M0 cn mo 71 k = if k + 1 < 20000 then ((k + 1 : Nat) : Int) else -1 := by
  unfold eh_M0 em_M em_E
  rw [eg_u_ne (by decide)]
  unfold eg_lay9
  rw [if_pos ⟨rfl, Nat.zero_le _, by omega⟩]
  show (if ((k - 0 : Nat) : Int) + 1 < 20000 then ((k - 0 : Nat) : Int) + 1 else -1) = _
  rw [Nat.sub_zero]
  by_cases h : k + 1 < 20000
  · rw [if_pos (by omega), if_pos h]; omega
  · rw [if_neg (by omega), if_neg h]
theorem zb_r_s1 {c j : Nat} (h : c = 47 ∨ c = 48 ∨ (c = 45 ∧ (j = 7 ∨ j = 27))) : ∃ m : eM, m 45 7 = 0 ∧ m 45 27 = (cn : Int) ∧ m 48 0 = 0 ∧ (∀ c j, (c = 47 ∨ c = 48 ∨ (c = 45 ∧ (j = 7 ∨ j = 27))) → eh_M0 cn mo c j = (em_s1 m 295).2 c j) := by
  refine ⟨eg_u (em_M0 (eg_z (ec_M (eg_z (fun _ _ => 0) 0 0) cn mo) 45 0)) 45 27 (cn : Int), rfl, rfl, rfl, fun c j h => ?_⟩
  unfold eh_M0 em_M em_E em_G
  rw [eg_u_nj (by omega), zb_lay_ne (by omega), eg_u_nj (by omega), zb_lay_ne (by omega), zb_lay_ne (by omega), ev_fil_ne (by omega)]
theorem zb_r_nm : zb_NM (eh_M0 cn mo) (eh_M0 cn mo) 44 (fun k => zb_nmL.getD k 0) (fun k => zb_nmB.getD k 0) := by
  obtain ⟨m, m1, m2, m3, m4⟩ := zb_r_s1 (cn := cn) (mo := mo) (c := 47) (j := 0) (Or.inl rfl)
  obtain ⟨a1, a2, a3, a4, a5⟩ := zb_em1 m1 295
  have hY : (eg_z (eg_z (eg_z (eg_z (eg_z (eg_z (eg_z (fun _ _ => (0 : Int)) 0 0) 1 0) 2 0) 3 0) 4 0) 5 0) 6 0) 1 2 = 0 := rfl
  have hw20 : ∀ w, w ∈ zb_wds → w.2.2 - w.2.1 ≤ 20 := by decide +kernel
  have hlen : zb_wds.length = 44 := by decide +kernel
  have hkw := zb_kns_w hY zb_wds hw20
  refine ⟨⟨?_, ?_, Nat.le_refl _, by decide⟩, rfl, fun k hk => ?_, fun k hk => ?_⟩
  · rw [zb_m0_lt (by decide), zb_c_src (Or.inl rfl), zb_kns_n, hY, hlen]; rfl
  · rw [m4 45 7 (Or.inr (Or.inr ⟨rfl, Or.inl rfl⟩)), a2, zb_pn_end]
  · dsimp only
    cases k with
    | zero => refine ⟨?_, Nat.le_refl _⟩; rw [m4 48 0 (Or.inr (Or.inl rfl)), a5, m3]; rfl
    | succ k =>
      obtain ⟨t1, t2, t3, t4, t5, t6, t7⟩ := zb_nm_tab k (by omega)
      have := a4 _ t5 t6
      rw [t7] at this
      refine ⟨by rw [m4 48 (k + 1) (Or.inr (Or.inl rfl))]; exact this, ?_⟩
      rw [t1]; omega
  · obtain ⟨t1, t2, t3, t4, t5, t6, t7⟩ := zb_nm_tab k hk
    obtain ⟨w1, w2⟩ := hkw k (by rw [hlen]; exact hk)
    rw [t4] at w1 w2
    dsimp only
    refine ⟨by rw [zb_m0_lt (by decide), zb_c_src (Or.inr (Or.inr rfl))]; exact w1, t2, t1, fun i hi => ?_⟩
    obtain ⟨l1, l2, l3, l4, l5⟩ := zb_nm_let k hk i hi
    have h47 := a3 (zb_nmq.getD k 0 + i) (by omega) l1
    rw [l2] at h47
    rw [m4 47 _ (Or.inl rfl), h47, zb_m0_lt (by decide), zb_c_src (Or.inr (Or.inl rfl)), w2 i hi, l3]
    exact ⟨rfl, l4, l5⟩
theorem zb_r_68 {j : Nat} : eh_M0 cn mo 68 j = 0 := by
  unfold eh_M0
  rw [em_M_ne (by decide) (by decide) (by decide) (by decide) (by decide) (by omega) (by omega) (by omega) (by omega)]
  rfl
theorem zb_f45_27 : eh_M0 cn mo 45 27 = (cn : Int) := by
  obtain ⟨m, m1, m2, m3, m4⟩ := zb_r_s1 (cn := cn) (mo := mo) (c := 47) (j := 0) (Or.inl rfl)
  rw [m4 45 27 (Or.inr (Or.inr ⟨rfl, Or.inr rfl⟩)), em_s1_ne (by decide) (by decide) (by decide)]; exact m2
theorem zb_f45_38 : eh_M0 cn mo 45 38 = 6700 := by
  unfold eh_M0 em_M em_E
  rw [eg_u_nj (by decide), zb_lay_ne (by decide), eg_u_eq]
theorem zb_f45_41 : eh_M0 cn mo 45 41 = 0 := by
  unfold eh_M0 em_M em_E
  rw [eg_u_eq]
theorem zb_f1_6 : eh_M0 cn mo 1 6 = 0 := by
  rw [zb_m0_lt (by decide), zb_c_src (Or.inl rfl), zb_kns_o (by decide) (by decide) (by decide)]; rfl

theorem zb_f45_17 : eh_M0 cn mo 45 17 = 0 := by
  unfold eh_M0
  rw [em_M_ne (by decide) (by decide) (by decide) (by decide) (by decide) (by decide) (by decide) (by decide) (by decide)]
  rfl

theorem zb_f45_53 : eh_M0 cn mo 45 53 = 0 := by
  unfold eh_M0
  rw [em_M_ne (by decide) (by decide) (by decide) (by decide) (by decide) (by decide) (by decide) (by decide) (by decide)]
  rfl

theorem zb_f45_51 : eh_M0 cn mo 45 51 = 0 := by
  unfold eh_M0
  rw [em_M_ne (by decide) (by decide) (by decide) (by decide) (by decide) (by decide) (by decide) (by decide) (by decide)]
  rfl

theorem zb_f45_59 : eh_M0 cn mo 45 59 = 0 := by
  unfold eh_M0
  rw [em_M_ne (by decide) (by decide) (by decide) (by decide) (by decide) (by decide) (by decide) (by decide) (by decide)]
  rfl

theorem zb_f45_68 : eh_M0 cn mo 45 68 = 0 := by
  unfold eh_M0
  rw [em_M_ne (by decide) (by decide) (by decide) (by decide) (by decide) (by decide) (by decide) (by decide) (by decide)]
  rfl

theorem zb_f45_62 : eh_M0 cn mo 45 62 = -1 := by
  unfold eh_M0
  rw [em_M_ne (by decide) (by decide) (by decide) (by decide) (by decide) (by decide) (by decide) (by decide) (by decide)]
  rfl

theorem zb_f45_63 : eh_M0 cn mo 45 63 = -1 := by
  unfold eh_M0
  rw [em_M_ne (by decide) (by decide) (by decide) (by decide) (by decide) (by decide) (by decide) (by decide) (by decide)]
  rfl

theorem zb_f15_0 : eh_M0 cn mo 15 0 = (cn : Int) := by
  unfold eh_M0
  rw [em_M_ne (by decide) (by decide) (by decide) (by decide) (by decide) (by decide) (by decide) (by decide) (by decide)]
  rfl

theorem zb_f15_8 : eh_M0 cn mo 15 8 = 0 := by
  unfold eh_M0
  rw [em_M_ne (by decide) (by decide) (by decide) (by decide) (by decide) (by decide) (by decide) (by decide) (by decide)]
  rfl

theorem zb_f15_9 : eh_M0 cn mo 15 9 = 0 := by
  unfold eh_M0
  rw [em_M_ne (by decide) (by decide) (by decide) (by decide) (by decide) (by decide) (by decide) (by decide) (by decide)]
  rfl

theorem zb_f21_5 : eh_M0 cn mo 21 5 = 0 := by
  unfold eh_M0
  rw [em_M_ne (by decide) (by decide) (by decide) (by decide) (by decide) (by decide) (by decide) (by decide) (by decide)]
  rfl

theorem zb_f38_11 : eh_M0 cn mo 38 11 = (mo : Int) := by
  unfold eh_M0
  rw [em_M_ne (by decide) (by decide) (by decide) (by decide) (by decide) (by decide) (by decide) (by decide) (by decide)]
  rfl

theorem zb_frs_up {R : eM} (h : ∀ k, k < 6700 → R 69 k = 6699 - (k : Int)) : ∀ n a : Nat, a + n = 6700 → zb_frs R (List.range' a n) := by
  intro n
  induction n with
  | zero => intro a _; exact trivial
  | succ n ih =>
    intro a ha
    rw [List.range'_succ]
    refine ⟨?_, ih (a + 1) (by omega)⟩
    rw [List.length_range', h n (by omega)]; omega
theorem zb_chn_up {R : eM} (h : ∀ k, k < 20000 → R 71 k = if k + 1 < 20000 then ((k + 1 : Nat) : Int) else -1) : ∀ n a : Nat, a + n = 20000 → zb_chn R (List.range' a n) (if a < 20000 then (a : Int) else -1) := by
  intro n
  induction n with
  | zero => intro a ha; exact if_neg (by omega)
  | succ n ih =>
    intro a ha
    rw [List.range'_succ, if_pos (by omega)]
    refine ⟨rfl, ?_⟩
    rw [h a (by omega)]
    exact ih (a + 1) (by omega)
theorem zb_ri_fresh (hcn : cn ≤ 20000) : zb_RI cn 0 (eh_M0 cn (cn / 3 + 1)) (eh_M0 cn (cn / 3 + 1)) := by
  obtain ⟨M, hM⟩ : ∃ M, M = eh_M0 cn (cn / 3 + 1) := ⟨_, rfl⟩
  rw [← hM]
  obtain ⟨H, hH⟩ : ∃ H : zb_Hp, H = ([], 0, fun _ => 0, fun _ => 0, fun _ => 0, fun _ => 0, fun _ => [], fun _ => []) := ⟨_, rfl⟩
  have o0 : zb_hO H = [] := by rw [hH]; rfl
  have u0 : zb_hU H = 0 := by rw [hH]; rfl
  have no : ∀ h, ¬ h ∈ zb_hO H := fun h => by rw [o0]; exact List.not_mem_nil
  refine ⟨44, 0, 0, H, [], [], 0, ⟨⟨⟨[], 0, ?_⟩, ⟨List.range' 0 6700, List.range' 0 20000, ?_⟩, fun h hh => absurd hh (no h), ⟨fun t ht => absurd ht (no t), fun t u e ht => absurd ht (no t)⟩, ?_⟩, ⟨⟨?_, ?_, ?_, by decide, ?_, ?_, by decide⟩, fun i hi => absurd hi (by simp), fun i hi => absurd hi (by simp), fun i hi => absurd hi (by simp), fun i hi => absurd hi (by simp), fun x hx => absurd hx (by simp)⟩, ⟨⟨rfl, rfl, rfl⟩, rfl, rfl, rfl, rfl, rfl, rfl, rfl⟩, ⟨_, _, by rw [hM]; exact zb_r_nm⟩, fun n hn => ?_, ⟨?_, ?_⟩, ⟨0, 0, ⟨?_, ?_, by decide, ?_, by decide⟩, fun i hi => by omega⟩, fun x hx => absurd hx (by simp), ⟨⟨?_, ?_⟩, fun h hh => absurd hh (no h)⟩⟩, ⟨?_, ?_, by decide⟩, ⟨?_, ?_, by decide, fun i hi => by omega⟩, ⟨?_, ?_⟩, ⟨?_, ?_, ?_, ?_, ?_, ?_⟩, ?_⟩
  · rw [o0, u0]
    refine ⟨⟨by rw [hM]; exact zb_f15_0, hcn, by rw [hM]; exact eh_f15_6, Nat.zero_le _, by rw [hM]; exact eh_f15_7, by rw [hM]; exact zb_f15_8, Nat.zero_le _⟩, rfl, fun h hh => absurd hh (by simp), by rw [hM]; exact zb_f15_9, fun h hh => absurd hh (by simp), by simp, fun h => ⟨fun z => absurd z (by simp), fun z => by omega⟩⟩
  · rw [o0, u0]
    refine ⟨⟨by rw [hM]; exact zb_f45_27, hcn, by rw [hM]; exact eh_f45_28, Nat.zero_le _, by rw [hM]; exact eh_f45_29, by rw [hM, List.length_range']; exact zb_f45_38⟩, zb_frs_up (fun k hk => by rw [hM]; exact zb_r_69 hk) 6700 0 (by decide), ?_, fun o => ?_, fun o ho => absurd ho (by simp), fun o _ => by rw [hM]; exact zb_r_68, fun o ho => absurd ho (by simp), ?_, ?_, ?_, fun c hc => ?_⟩
    · exact List.nodup_range'
    · show o ∈ List.range' 0 6700 ↔ _
      rw [List.mem_range'_1]; omega
    · have := zb_chn_up (R := M) (fun k hk => by rw [hM]; exact zb_r_71 hk) 20000 0 (by decide)
      rw [if_pos (by decide)] at this
      rw [show M 45 41 = 0 by rw [hM]; exact zb_f45_41]; exact this
    · exact List.nodup_range'
    · show (List.range' 0 20000).length = 20000
      rw [List.length_range']
    · have hc' : c ∈ List.range' 0 20000 := hc
      rw [List.mem_range'_1] at hc'; omega
  · rw [hM, eh_f15_10, eh_f45_42]
  · rw [hM]; exact eh_f21_2
  · rw [hM]; exact eh_f45_45
  · rw [hM]; exact zb_f21_5
  · rw [hM]; exact eh_f21_6
  · rw [hM]; exact eh_f45_48
  · rw [hM, zb_c_37 hn, zb_r_72 hn]
    by_cases h : 10 ≤ n ∧ n < 44
    · rw [if_pos h, if_pos h]
      exact Or.inl ⟨h.2, Or.inr (Or.inr (Or.inr (Or.inr (Or.inr (Or.inl ⟨n - 10, by omega, rfl, rfl⟩)))))⟩
    · rw [if_neg h, if_neg h]
      exact Or.inr ⟨rfl, rfl⟩
  · rw [hM]; exact zb_f38_11
  · rw [hM, eh_f38_5, eh_f45_43]
  · rw [hM]; exact eh_f26_4
  · rw [hM]; exact eh_f45_72
  · rw [hM]; exact eh_f26_3
  · rw [hM, eh_f15_10]; decide
  · show M 15 10 ≤ M 45 42 + 20000
    rw [hM, eh_f15_10, eh_f45_42]; decide
  · rw [hM]; exact zb_f1_6
  · rw [hM]; exact zb_f45_17
  · rw [hM]; exact eh_f7_2
  · rw [hM]; exact eh_f45_1
  · rw [hM, eh_f0_8, eh_f45_2]
  · rw [hM, eh_f0_9, eh_f45_67]
  · rw [hM]; exact zb_f45_53
  · rw [hM]; exact zb_f45_51
  · rw [hM]; exact zb_f45_59
  · rw [hM]; exact zb_f45_68
  · rw [hM]; exact zb_f45_62
  · rw [hM]; exact zb_f45_63
  · rw [hM, eh_f45_42]; decide
end FRE
