theorem zb_lor_sym {r : Int} (h0 : 0 ≤ r) (h1 : r < 444) : eb_lor 8589934592 r = 8589934592 + r := by
  have key : ∀ k, k < 444 → eb_lor 8589934592 ((k : Nat) : Int) = 8589934592 + ((k : Nat) : Int) := by decide +kernel
  have := key r.toNat (by omega)
  rw [Int.toNat_of_nonneg h0] at this
  exact this
theorem zb_tok_open {C0 R0 C R : eM} {n F S zb_lv a N : Nat} {D E op L B : Nat → Nat} (h : zb_STT C0 R0 C R n F S zb_lv a D E op N L B) (ht : zb_TK R zb_lv op) (ha : a < n) {t : Int} (h01 : t = 0 ∨ t = 1) :
    ∃ C' R' f, fn_34 t C = some C' ∧ fn_162 t R = some (f, R') ∧ zb_TOK C0 R0 n F a N C' R' f := by
  have zb_hS := h
  obtain ⟨hR, hB, hV, hN, f1, f2, f3⟩ := h
  have hR0 := hR
  obtain ⟨⟨⟨p1, p2, p3⟩, ⟨q1, q2, q3⟩, ⟨s1, s2, s3, s4, s5, s6, s7⟩, l1, l2⟩, hX, hT, zb_hO, hOM, hDM⟩ := hR
  by_cases h30 : zb_lv = 30
  · subst h30
    have eC : fn_34 t C = some (eg_u (eg_u C 7 4 2) 7 5 (a : Int)) := by
      unfold fn_34; rw [if_neg (by rw [l1]; decide), q1]; rfl
    have eR : fn_162 t R = some (2, eg_u R 45 2 (a : Int)) := by
      unfold fn_162; rw [if_neg (by rw [l2]; decide), q2]; rfl
    exact ⟨_, _, 2, eC, eR, zb_tok_fail (Or.inr rfl) hB hN⟩
  · have h30' : zb_lv < 30 := by have := zb_hO.1; omega
    by_cases zb_room : S < F + 2000 ∧ S < 20000
    · have he : 0 ≤ (a : Int) ∧ (a : Int) < 3000 := by omega
      obtain ⟨R1, g1, g2, g3, g4, g5, g6, g7⟩ := zb_STT_add (zb_cv := 25769803776) (rk := 4) (zb_rv := 0) (e := (a : Int)) zb_hS ht zb_room (by decide) he (by unfold zb_vk; omega)
      have hR1 := g3.1
      obtain ⟨⟨⟨p1', p2', p3'⟩, ⟨q1', q2', q3'⟩, ⟨s1', s2', s3', s4', s5', s6', s7'⟩, l1', l2'⟩, hX', hT', hO', hOM', hDM'⟩ := g3.1
      obtain ⟨_, hB1, hV1, hN1, f1', f2', f3'⟩ := g3
      have eC : fn_34 t C = if t = 0 then some (eg_u (eg_u (eg_u (eg_u (zb_AC C F S zb_lv 25769803776 (a : Int)) 10 zb_lv (S : Int)) 11 zb_lv t) 7 9 ((zb_lv + 1 : Nat) : Int)) 7 7 ((a + 1 : Nat) : Int)) else (fn_36 8589934592 (a : Int) (eg_u (eg_u (eg_u (zb_AC C F S zb_lv 25769803776 (a : Int)) 10 zb_lv (S : Int)) 11 zb_lv t) 7 9 ((zb_lv + 1 : Nat) : Int))).bind fun r => some (eg_u r.2 7 7 (eg_wi (r.2 7 7 + 1))) := by
        have e38 : ∀ M : eM, fn_38 0 M = some 8589934592 := fun M => by
          unfold fn_38; rw [zb_lor_sym (by decide) (by decide)]; rfl
        unfold fn_34
        rw [if_pos (by rw [l1]; omega), q1, g1, Option.bind_some, if_neg (by show ¬ (1 : Int) = 0; decide)]
        show (if 0 ≤ zb_AC C F S zb_lv 25769803776 (a : Int) 7 9 ∧ zb_AC C F S zb_lv 25769803776 (a : Int) 7 9 < 30 then _ else _) = _
        rw [if_pos (by omega), if_pos (by show 0 ≤ zb_AC C F S zb_lv 25769803776 (a : Int) 7 9 ∧ zb_AC C F S zb_lv 25769803776 (a : Int) 7 9 < 30 ∧ _; omega)]
        dsimp only
        rw [l1', s1', q1', zb_wi_m1 (by omega) (by omega), zb_wi_1 (by omega), zb_wi_1 (by omega), Nat.add_sub_cancel]
        by_cases h0 : t = 0
        · rw [if_pos h0, if_pos h0]; rfl
        · rw [if_neg h0, if_neg h0, e38, Option.bind_some]; rfl
      have eR : fn_162 t R = if t = 0 then some (0, eg_u (eg_u (eg_u (eg_u R1 57 zb_lv (S : Int)) 58 zb_lv t) 45 18 ((zb_lv + 1 : Nat) : Int)) 45 3 ((a + 1 : Nat) : Int)) else (fn_163 3 0 (a : Int) (eg_u (eg_u (eg_u R1 57 zb_lv (S : Int)) 58 zb_lv t) 45 18 ((zb_lv + 1 : Nat) : Int))).bind fun r => some (r.1, eg_u r.2 45 3 (eg_wi (r.2 45 3 + 1))) := by
        unfold fn_162
        rw [if_pos (by rw [l2]; omega), q2, g2, Option.bind_some, if_pos (by show (0 : Int) ≤ 0; decide)]
        show (if 0 ≤ R1 45 18 ∧ R1 45 18 < 31 then _ else _) = _
        rw [if_pos (by omega), if_pos (by show 0 ≤ R1 45 18 ∧ R1 45 18 < 31 ∧ _; omega)]
        dsimp only
        rw [l2', s2', q2', zb_wi_m1 (by omega) (by omega), zb_wi_1 (by omega), zb_wi_1 (by omega), Nat.add_sub_cancel]
        by_cases h0 : t = 0
        · rw [if_pos h0, if_pos h0]; rfl
        · rw [if_neg h0, if_neg h0]; rfl
      rw [eC, eR]
      have hD1 : zb_DA D S zb_lv S = zb_lv := if_pos rfl
      have hE1 : zb_EA D E F S zb_lv S = S + 1 := if_pos rfl
      have hRo := zb_RS_open (t := t) hR1 h30' s5 hD1 hE1 g5 h01
      have hTo : ∀ i, i < zb_lv → zb_OA op zb_lv S i = op i := fun i hi => if_neg (by omega)
      rcases h01 with h01 | h01
      · subst h01
        rw [if_pos rfl, if_pos rfl]
        refine ⟨_, _, 0, rfl, rfl, Or.inl ⟨rfl, S + 1, zb_lv + 1, a + 1, _, _, _, N, L, B, ⟨zb_RS_at (a' := a + 1) hRo (by omega), hB1, hV1, hN1, f1', f2', f3'⟩, fun i hi h1 => ?_, by omega, Nat.le_refl _⟩⟩
        by_cases hq : i = zb_lv
        · subst hq
          exact absurd h1 (by simp [eg_u])
        · have h1' : R1 58 i = 1 := by
            have : (eg_u (eg_u (eg_u (eg_u R1 57 zb_lv (S : Int)) 58 zb_lv 0) 45 18 ((zb_lv + 1 : Nat) : Int)) 45 3 ((a + 1 : Nat) : Int)) 58 i = R1 58 i := by simp [eg_u, hq]
            rw [← this]; exact h1
          rw [hTo i (by omega), if_neg (by omega)]
          exact g4 i (by omega) h1'
      · subst h01
        rw [if_neg (by decide), if_neg (by decide)]
        have hTK : zb_TK (eg_u (eg_u (eg_u R1 57 zb_lv (S : Int)) 58 zb_lv 1) 45 18 ((zb_lv + 1 : Nat) : Int)) (zb_lv + 1) (zb_OA op zb_lv S) → True := fun _ => trivial
        have hSo : zb_STT C0 R0 (eg_u (eg_u (eg_u (zb_AC C F S zb_lv 25769803776 (a : Int)) 10 zb_lv (S : Int)) 11 zb_lv 1) 7 9 ((zb_lv + 1 : Nat) : Int)) (eg_u (eg_u (eg_u R1 57 zb_lv (S : Int)) 58 zb_lv 1) 45 18 ((zb_lv + 1 : Nat) : Int)) n F (S + 1) (zb_lv + 1) a (zb_DA D S zb_lv) (zb_EA D E F S zb_lv) (zb_OA op zb_lv S) N L B := ⟨hRo, hB1, hV1, hN1, f1', f2', f3'⟩
        have hRo2 := hRo
        by_cases zb_room2 : S + 1 < F + 2000 ∧ S + 1 < 20000
        · obtain ⟨R2, k1, k2, k3, k4⟩ := zb_add_ok (zb_cv := 8589934592) (rk := 3) (zb_rv := 0) (e := (a : Int)) hRo zb_room2 (by decide) he
          have e49 : R2 49 (S + 1) = 3 := by rw [k3.2.2.2.2.2.2.2.1, if_pos rfl]
          have e50 : R2 50 (S + 1) = 0 := by rw [k3.2.2.2.2.2.2.2.2.1, if_pos rfl]
          have hv : zb_vk 8589934592 3 0 N := by
            have := hN.1.2.2.1
            unfold zb_vk; omega
          rw [k1, k2, Option.bind_some, Option.bind_some]
          dsimp only
          rw [k4.1.2.1.1, k4.1.2.1.2.1, zb_wi_1 (by omega)]
          have b2 := zb_BL_add (zb_cv := 8589934592) hRo hSo.2.1 k3
          have v2 : zb_VK (zb_AC (eg_u (eg_u (eg_u (zb_AC C F S zb_lv 25769803776 (a : Int)) 10 zb_lv (S : Int)) 11 zb_lv 1) 7 9 ((zb_lv + 1 : Nat) : Int)) F (S + 1) (zb_lv + 1) 8589934592 (a : Int)) R2 F (S + 1 + 1) N := zb_VK_snoc (zb_VK_add k3 hSo.2.2.1) (by rw [zb_AC_4, e49, e50]; exact hv)
          have n2 := zb_NM_add (F := F) (zb_cv := 8589934592) hSo.2.2.2.1 k3
          have f32 : R2 45 2 = -1 := by rw [k3.2.2.2.2.2.2.2.2.2.2.2.1 2 (by decide) (by decide) (by decide)]; exact f3'
          have st2 : zb_STT C0 R0 _ R2 n F (S + 1 + 1) (zb_lv + 1) a _ _ (zb_OA op zb_lv S) N L B := ⟨k4, b2, v2, n2, f1', f2', f32⟩
          refine ⟨_, _, 0, rfl, rfl, Or.inl ⟨rfl, S + 1 + 1, zb_lv + 1, a + 1, _, _, _, N, L, B, zb_STT_at (a' := a + 1) st2 (by omega), fun i hi h1 => ?_, by omega, Nat.le_refl _⟩⟩
          · obtain ⟨a53, a54, a51, a52, a55, a21, a22, a49, a50, a56, a16, a45, aF⟩ := k3
            show R2 55 (zb_OA op zb_lv S i) = _
            have h1' : R2 58 i = 1 := h1
            rw [aF 58 (by decide)] at h1'
            have hlv : zb_OA op zb_lv S (zb_lv + 1 - 1) = S := by rw [Nat.add_sub_cancel]; exact if_pos rfl
            by_cases hq : i = zb_lv
            · subst hq
              rw [if_pos rfl, a55, if_neg (by rw [show zb_OA op i S i = S from if_pos rfl]; omega), if_pos ⟨by omega, by rw [Nat.add_sub_cancel]⟩]
              rw [show zb_OA op i S i = S from if_pos rfl]
              show R1 55 S + 1 = 1
              rw [g6]; decide
            · have h1'' : R1 58 i = 1 := by
                have : (eg_u (eg_u (eg_u R1 57 zb_lv (S : Int)) 58 zb_lv 1) 45 18 ((zb_lv + 1 : Nat) : Int)) 58 i = R1 58 i := by simp [eg_u, hq]
                rw [← this]; exact h1'
              have hoi := (zb_hO.2 i (by omega)).2.1
              rw [hTo i (by omega), if_neg (by omega), a55, if_neg (by omega), if_neg (by rw [hlv]; omega)]
              exact g4 i (by omega) h1''
        · obtain ⟨k1, k2⟩ := zb_add_full (zb_cv := 8589934592) (rk := 3) (zb_rv := 0) (e := (a : Int)) hRo zb_room2
          rw [k1, k2, Option.bind_some, Option.bind_some]
          refine ⟨_, _, 2, rfl, rfl, Or.inr ⟨Or.inr rfl, rfl, ⟨rfl, Int.natCast_nonneg _⟩, hB1, N, L, B, hN1, Nat.le_refl _⟩⟩
    · obtain ⟨k1, k2⟩ := zb_add_full (zb_cv := 25769803776) (rk := 4) (zb_rv := 0) (e := (a : Int)) hR0 zb_room
      have eC : fn_34 t C = some (eg_u (eg_u C 7 4 2) 7 5 (a : Int)) := by
        unfold fn_34; rw [if_pos (by rw [l1]; omega), q1, k1]; rfl
      have eR : fn_162 t R = some (2, eg_u R 45 2 (a : Int)) := by
        unfold fn_162; rw [if_pos (by rw [l2]; omega), q2, k2]; rfl
      exact ⟨_, _, 2, eC, eR, zb_tok_fail (Or.inr rfl) hB hN⟩
theorem zb_RS_close {C R : eM} {n F S k a : Nat} {D E op : Nat → Nat} (h : zb_RS C R n F S (k + 1) a D E op) : zb_RS (eg_u (eg_u C 7 9 (k : Int)) 5 (op k) (S : Int)) (eg_u R 45 18 (k : Int)) n F S k a D E op := by
  obtain ⟨⟨⟨p1, p2, p3⟩, ⟨q1, q2, q3⟩, ⟨s1, s2, s3, s4, s5, s6, s7⟩, l1, l2⟩, hX, hT, zb_hO, hOM, hD⟩ := h
  obtain ⟨v1, v2, v3, v4⟩ := zb_hO.2 k (by omega)
  have hD' : zb_DM (eg_u (eg_u C 7 9 (k : Int)) 5 (op k) (S : Int)) (eg_u R 45 18 (k : Int)) F S k D E op := by
    intro c hc1 hc2
    obtain ⟨d1, d2, d3, d4, d5, d6, d7⟩ := hD c hc1 hc2
    refine ⟨d1, d2, fun ho => ?_, d4, d5, d6, d7⟩
    by_cases hq : c = op k
    · subst hq
      rw [v4]; simp [eg_u]
    · rw [← d3 (fun i hi => ?_)]
      · simp [eg_u, hq]
      · by_cases hik : i = k
        · subst hik; exact fun z => hq z.symm
        · exact ho i (by omega)
  have h30 := zb_hO.1
  exact ⟨⟨⟨p1, p2, p3⟩, ⟨q1, q2, q3⟩, ⟨s1, s2, s3, s4, s5, s6, s7⟩, rfl, rfl⟩, hX, hT, ⟨by omega, fun i hi => zb_hO.2 i (by omega)⟩, fun i hi => hOM i (by omega), hD'⟩
theorem zb_STT_ticks {C0 R0 C R : eM} {n F S zb_lv a N : Nat} {D E op L B : Nat → Nat} (h : zb_STT C0 R0 C R n F S zb_lv a D E op N L B) (ht : zb_TK2 R zb_lv op) :
    ∃ (lv' : Nat) (C' R' : eM), fn_40 C = some C' ∧ fn_167 R = some R' ∧ zb_STT C0 R0 C' R' n F S lv' a D E op N L B ∧ zb_TK R' lv' op := by
  obtain ⟨hR, hB, hV, hN, f1, f2, f3⟩ := h
  obtain ⟨lv', C', R', g1, g2, g3, g4, g5, g6, g7, g8⟩ := zb_ticks zb_lv hR ht
  have c4 : ∀ j, C' 4 j = C 4 j := fun j => fw_40 g1 (by decide) j
  have c6 : ∀ j, C' 6 j = C 6 j := fun j => fw_40 g1 (by decide) j
  have c1 : ∀ j, C' 1 j = C 1 j := fun j => fw_40 g1 (by decide) j
  have c2 : ∀ j, C' 2 j = C 2 j := fun j => fw_40 g1 (by decide) j
  have c3 : ∀ j, C' 3 j = C 3 j := fun j => fw_40 g1 (by decide) j
  have r : ∀ k, k ≠ 45 → ∀ j, R' k j = R k j := fun k hk j => fw_167 g2 (by simp [hk]) j
  refine ⟨lv', C', R', g1, g2, ⟨g3, fun c hc => ?_, fun c hc1 hc2 => ?_, ?_, ?_, ?_, ?_⟩, g4⟩
  · obtain ⟨⟨x1, x2, x3⟩, y1, y2, y3, y4, y5, y6, y7, y8⟩ := hB c hc
    rw [c4, c6, g8 c hc, r 49 (by decide), r 50 (by decide), r 51 (by decide), r 52 (by decide), r 53 (by decide), r 54 (by decide), r 55 (by decide), r 56 (by decide)]
    exact ⟨⟨x1, x2, x3⟩, y1, y2, y3, y4, y5, y6, y7, y8⟩
  · rw [c4, r 49 (by decide), r 50 (by decide)]; exact hV c hc1 hc2
  · obtain ⟨⟨h1, h2, h3, h4⟩, h5, h6, h7⟩ := hN
    refine ⟨⟨by rw [c1]; exact h1, by rw [g6 7 (by decide)]; exact h2, h3, h4⟩, h5, fun k hk => by rw [r 48 (by decide)]; exact h6 k hk, fun k hk => ?_⟩
    obtain ⟨k1, k2, k3, k4⟩ := h7 k hk
    refine ⟨by rw [c3]; exact k1, k2, k3, fun i hi => ?_⟩
    rw [c2, r 47 (by decide)]; exact k4 i hi
  · rw [g5 4 (by decide)]; exact f1
  · rw [g5 5 (by decide)]; exact f2
  · rw [g6 2 (by decide)]; exact f3
theorem zb_ticks_stop {C R R2 : eM} {n F S zb_lv a : Nat} {D E op : Nat → Nat} (h : zb_RS C R n F S zb_lv a D E op) (ht : zb_TK R zb_lv op) (e58 : R2 58 = R 58) (e57 : R2 57 = R 57) (e55 : R2 55 = R 55) (e18 : R2 45 18 = R 45 18) : fn_167 R2 = some R2 := by
  obtain ⟨⟨⟨p1, p2, p3⟩, ⟨q1, q2, q3⟩, ⟨s1, s2, s3, s4, s5, s6, s7⟩, l1, l2⟩, hX, hT, zb_hO, hOM, hD⟩ := h
  refine lp_inr ?_
  unfold fn_167_0
  rw [e18, l2, e58, e57, e55]
  by_cases h0 : zb_lv = 0
  · rw [if_pos (by omega)]
  · have h30 := zb_hO.1
    obtain ⟨o1, o2, o3, o4, o5⟩ := hOM (zb_lv - 1) (by omega)
    have o := (zb_hO.2 (zb_lv - 1) (by omega)).2.1
    rw [if_neg (by omega), zb_wi_m1 (by omega) (by omega), if_pos (by omega), Int.toNat_natCast]
    by_cases hq : R 58 (zb_lv - 1) = 0
    · rw [if_pos hq]
    · have ht1 := ht (zb_lv - 1) (by omega) (by omega)
      rw [if_pos (by omega)] at ht1
      rw [if_neg hq, o2, if_pos (by omega), Int.toNat_natCast, if_pos (by omega)]
theorem zb_tok_close {C0 R0 C R : eM} {n F S zb_lv a N : Nat} {D E op L B : Nat → Nat} (h : zb_STT C0 R0 C R n F S zb_lv a D E op N L B) (ht : zb_TK R zb_lv op) (ha : a < n) :
    (fn_39 C = some (eg_u (eg_u C 7 4 1) 7 5 (a : Int)) ∧ (zb_lv = 0 ∨ (0 < zb_lv ∧ R 58 (zb_lv - 1) = 1))) ∨ (0 < zb_lv ∧ R 58 (zb_lv - 1) = 0 ∧ ∃ C' R', fn_39 C = some C' ∧ fn_167 (eg_u (eg_u R 45 18 ((zb_lv - 1 : Nat) : Int)) 45 3 ((a + 1 : Nat) : Int)) = some R' ∧ zb_TOK C0 R0 n F a N C' R' 0) := by
  obtain ⟨hR, hB, hV, hN, f1, f2, f3⟩ := h
  have hR0 := hR
  obtain ⟨⟨⟨p1, p2, p3⟩, ⟨q1, q2, q3⟩, ⟨s1, s2, s3, s4, s5, s6, s7⟩, l1, l2⟩, hX, hT, zb_hO, hOM, hD⟩ := hR
  by_cases h0 : zb_lv = 0
  · left
    refine ⟨?_, Or.inl h0⟩
    unfold fn_39
    rw [if_pos (by rw [l1]; omega), q1]; rfl
  · have h30 := zb_hO.1
    obtain ⟨k, rfl⟩ : ∃ k, zb_lv = k + 1 := ⟨zb_lv - 1, by omega⟩
    obtain ⟨o1, o2, o3, o4, o5⟩ := hOM k (by omega)
    have o := (zb_hO.2 k (by omega)).2.1
    have oF := (zb_hO.2 k (by omega)).1
    rcases o4 with o4 | o4
    · right
      refine ⟨by omega, by rw [Nat.add_sub_cancel]; omega, ?_⟩
      have st : zb_STT C0 R0 (eg_u (eg_u (eg_u C 7 9 (k : Int)) 5 (op k) (S : Int)) 7 7 ((a + 1 : Nat) : Int)) (eg_u (eg_u R 45 18 (k : Int)) 45 3 ((a + 1 : Nat) : Int)) n F S k (a + 1) D E op N L B := by
        refine zb_STT_at ⟨zb_RS_close hR0, fun c hc => ?_, hV, hN, f1, f2, f3⟩ (by omega)
        obtain ⟨⟨x1, x2, x3⟩, y⟩ := hB c hc
        have : c ≠ op k := by omega
        refine ⟨⟨x1, ?_, x3⟩, y⟩
        rw [← x2]; simp [eg_u, this]
      have ht2 : zb_TK2 (eg_u (eg_u R 45 18 (k : Int)) 45 3 ((a + 1 : Nat) : Int)) k op := fun i hi h1 => by
        have := ht i (by omega) h1
        rw [if_neg (by omega)] at this
        exact this
      obtain ⟨lv', C', R', g1, g2, g3, g4⟩ := zb_STT_ticks st ht2
      refine ⟨C', R', ?_, by rw [Nat.add_sub_cancel]; exact g2, Or.inl ⟨rfl, S, lv', a + 1, D, E, op, N, L, B, g3, g4, by omega, Nat.le_refl _⟩⟩
      unfold fn_39
      rw [if_neg (by rw [l1]; omega), l1, zb_wi_m1 (by omega) (by omega), Nat.add_sub_cancel, if_pos (by omega), Int.toNat_natCast, if_pos o4, o1, if_pos (by omega), Int.toNat_natCast, s1, q1, zb_wi_1 (by omega), g1]
      rfl
    · left
      refine ⟨?_, Or.inr ⟨by omega, by rw [Nat.add_sub_cancel]; omega⟩⟩
      unfold fn_39
      rw [if_neg (by rw [l1]; omega), l1, zb_wi_m1 (by omega) (by omega), Nat.add_sub_cancel, if_pos (by omega), Int.toNat_natCast, if_neg (by omega), q1]
      rfl
theorem zb_AC_at {C : eM} {F S zb_lv a : Nat} {zb_cv e : Int} : eg_u (zb_AC C F S zb_lv zb_cv e) 7 7 (a : Int) = zb_AC (eg_u C 7 7 (a : Int)) F S zb_lv zb_cv e := by
  funext x j
  simp only [zb_AC, eg_u]
  by_cases h : x = 7 ∧ j = 7
  · obtain ⟨rfl, rfl⟩ := h; simp
  · rw [if_neg h]; simp only [h, if_false]
theorem zb_tok_atom {C0 R0 C R : eM} {n F S zb_lv a a' N : Nat} {D E op L B : Nat → Nat} (h : zb_STT C0 R0 C R n F S zb_lv a D E op N L B) (ht : zb_TK R zb_lv op) (ha : a < a') (ha2 : a' ≤ n) {zb_cv rk zb_rv : Int} (hrk : 0 ≤ rk ∧ rk ≤ 4) (hv : zb_vk zb_cv rk zb_rv N) :
    ∃ C' R' f, fn_45 zb_cv (a' : Int) C = some C' ∧ ((fn_163 rk zb_rv (a : Int) (eg_u R 45 3 (a' : Int))).bind fun r => (fn_167 r.2).bind fun m => some (r.1, m)) = some (f, R') ∧ zb_TOK C0 R0 n F a N C' R' f := by
  have hx := zb_STT_at h ha2
  obtain ⟨hR, hB, hV, hN, f1, f2, f3⟩ := h
  have hR0 := hR
  obtain ⟨⟨⟨p1, p2, p3⟩, ⟨q1, q2, q3⟩, ⟨s1, s2, s3, s4, s5, s6, s7⟩, l1, l2⟩, hX, hT, zb_hO, hOM, hD⟩ := hR
  have he : 0 ≤ (a : Int) ∧ (a : Int) < 3000 := by omega
  by_cases zb_room : S < F + 2000 ∧ S < 20000
  · obtain ⟨R1, g1, g2, g3, g4, g5, g6, g7⟩ := zb_STT_add (zb_cv := zb_cv) (zb_rv := zb_rv) (e := (a : Int)) hx ht zb_room hrk he hv
    have c1 := zb_f36_ok (zb_cv := zb_cv) (e := (a : Int)) s1 s3 l1 s5 zb_room.1 zb_room.2 zb_hO.1
    obtain ⟨lv', C', R', k1, k2, k3, k4⟩ := zb_STT_ticks g3 g4
    refine ⟨C', R', 0, ?_, ?_, Or.inl ⟨rfl, S + 1, lv', a', _, _, op, N, L, B, k3, k4, ha, Nat.le_refl _⟩⟩
    · unfold fn_45
      rw [q1, c1, Option.bind_some, if_neg (by show ¬ (1 : Int) = 0; decide)]
      dsimp only
      rw [zb_AC_at, k1]; rfl
    · rw [g2, Option.bind_some]
      dsimp only
      rw [k2]; rfl
  · have k1 := (zb_add_full (zb_cv := zb_cv) (rk := rk) (zb_rv := zb_rv) (e := (a : Int)) hR0 zb_room).1
    have k2 := (zb_add_full (zb_cv := zb_cv) (rk := rk) (zb_rv := zb_rv) (e := (a : Int)) hx.1 zb_room).2
    refine ⟨eg_u (eg_u C 7 4 2) 7 5 (a : Int), eg_u (eg_u R 45 3 (a' : Int)) 45 2 (a : Int), 2, ?_, ?_, Or.inr ⟨Or.inr rfl, rfl, ⟨rfl, Int.natCast_nonneg _⟩, hB, N, L, B, hN, Nat.le_refl _⟩⟩
    · unfold fn_45
      rw [q1, k1]; rfl
    · rw [k2, Option.bind_some]
      dsimp only
      rw [zb_ticks_stop (R2 := eg_u (eg_u R 45 3 (a' : Int)) 45 2 (a : Int)) hR0 ht rfl rfl rfl rfl]; rfl
theorem zb_eg_uu {M : eM} {a i : Nat} {v w : Int} : eg_u (eg_u M a i v) a i w = eg_u M a i w := by
  funext x j
  unfold eg_u
  by_cases h : x = a ∧ j = i
  · rw [if_pos h, if_pos h]
  · rw [if_neg h, if_neg h, if_neg h]
theorem zb_eg_u_self {M : eM} {a i : Nat} {v : Int} (h : M a i = v) : eg_u M a i v = M := by
  funext x j
  unfold eg_u
  by_cases h2 : x = a ∧ j = i
  · obtain ⟨rfl, rfl⟩ := h2; rw [if_pos ⟨rfl, rfl⟩]; exact h.symm
  · rw [if_neg h2]
theorem zb_tok_truth {C0 R0 C R : eM} {n F S zb_lv a N : Nat} {D E op L B : Nat → Nat} (h : zb_STT C0 R0 C R n F S zb_lv a D E op N L B) (ht : zb_TK R zb_lv op) (ha : a < n) :
    ∃ C' R' f, fn_41 C = some C' ∧ fn_164 R = some (f, R') ∧ zb_TOK C0 R0 n F a N C' R' f := by
  have zb_hS := h
  obtain ⟨hR, hB, hV, hN, f1, f2, f3⟩ := h
  obtain ⟨⟨⟨p1, p2, p3⟩, ⟨q1, q2, q3⟩, ⟨s1, s2, s3, s4, s5, s6, s7⟩, l1, l2⟩, hX, hT, zb_hO, hOM, hD⟩ := hR
  have w1 : eg_wi (C 7 7 + 1) = ((a + 1 : Nat) : Int) := by rw [q1]; exact zb_wi_1 (by omega)
  have w2 : eg_wi (C 7 7 + 2) = ((a + 2 : Nat) : Int) := by rw [q1]; exact zb_wi_2 (by omega)
  have v1 : eg_wi (R 45 3 + 1) = ((a + 1 : Nat) : Int) := by rw [q2]; exact zb_wi_1 (by omega)
  have hp1 : fn_165 (eg_u R 45 3 ((a + 1 : Nat) : Int)) = some (if a + 1 < n then R 46 (a + 1) else -1) := zb_f165 rfl p2 p3
  have fc1 : ∀ p : Int, ∀ M : eM, fn_35 1 p M = some (eg_u (eg_u M 7 4 1) 7 5 p) := fun _ _ => rfl
  have tail : a + 1 < n → ∀ y : Int, (y = 0 ∨ y = 1) → ∀ x2 : Int, (x2 = 116 ↔ y = 1) → ∃ C' R' f, fn_41_46 y C = some C' ∧ fn_164_24 (a : Int) x2 (eg_u R 45 3 ((a + 1 : Nat) : Int)) = some (f, R') ∧ zb_TOK C0 R0 n F a N C' R' f := by
    intro hn1 y hy x2 hx2
    have e3 : eg_u (eg_u R 45 3 ((a + 1 : Nat) : Int)) 45 3 (eg_wi ((eg_u R 45 3 ((a + 1 : Nat) : Int)) 45 3 + 1)) = eg_u R 45 3 ((a + 2 : Nat) : Int) := by
      rw [show (eg_u R 45 3 ((a + 1 : Nat) : Int)) 45 3 = ((a + 1 : Nat) : Int) from rfl, zb_wi_1 (by omega), zb_eg_uu]
    have hp2 : fn_165 (eg_u R 45 3 ((a + 2 : Nat) : Int)) = some (if a + 2 < n then R 46 (a + 2) else -1) := zb_f165 rfl p2 p3
    obtain ⟨b, k1, k2⟩ := zb_f42 (C := C) (i := a + 2) p1 p3
    obtain ⟨b', k1', k2'⟩ := zb_f166 (R := eg_u R 45 3 ((a + 2 : Nat) : Int)) (c := if a + 2 < n then R 46 (a + 2) else -1)
    have hbb : b = b' := by
      by_cases hq : a + 2 < n
      · rw [if_pos hq] at k2'
        obtain ⟨x1, x2, x3⟩ := hX (a + 2) hq
        rw [x3] at k2'
        have := zb_isL_mod ⟨x1, x2⟩
        rcases k2 with ⟨k2, k3⟩ | ⟨k2, k3⟩ <;> rcases k2' with ⟨k2', k3'⟩ | ⟨k2', k3'⟩
        · omega
        · exact absurd (this.mpr k3.2) k3'
        · exact absurd ⟨hq, this.mp k3'⟩ k3
        · omega
      · rw [if_neg hq] at k2'
        rcases k2' with ⟨k2', k3'⟩ | ⟨k2', k3'⟩
        · exact absurd k3' zb_isL_neg
        · rcases k2 with ⟨k2, k3⟩ | ⟨k2, k3⟩
          · omega
          · omega
    subst hbb
    unfold fn_41_46 fn_164_24
    rw [e3, hp2, Option.bind_some, k1', Option.bind_some, w2, k1, Option.bind_some]
    by_cases hb0 : b = 0
    · rw [if_pos hb0, if_pos hb0]
      have hn2 : a + 2 ≤ n := by omega
      · rcases hy with hy | hy
        · subst hy
          have hx3 : ¬ x2 = 116 := fun z => absurd (hx2.mp z) (by decide)
          obtain ⟨C', R', f, t1, t2, t3⟩ := zb_tok_atom (a' := a + 2) (zb_cv := 4294967296) (rk := 2) (zb_rv := 0) zb_hS ht (by omega) hn2 (by decide) (by unfold zb_vk; omega)
          refine ⟨C', R', f, ?_, ?_, t3⟩
          · rw [show fn_44 0 C = some 4294967296 from rfl, Option.bind_some, t1]; rfl
          · rw [if_pos hx3]; exact t2
        · subst hy
          obtain ⟨C', R', f, t1, t2, t3⟩ := zb_tok_atom (a' := a + 2) (zb_cv := 4294967297) (rk := 1) (zb_rv := 0) zb_hS ht (by omega) hn2 (by decide) (by unfold zb_vk; omega)
          refine ⟨C', R', f, ?_, ?_, t3⟩
          · rw [show fn_44 1 C = some 4294967297 from rfl, Option.bind_some, t1]; rfl
          · rw [if_neg (fun z => z (hx2.mpr rfl))]; exact t2
    · rw [if_neg hb0, if_neg hb0]
      refine ⟨eg_u (eg_u C 7 4 1) 7 5 ((a + 2 : Nat) : Int), eg_u (eg_u R 45 3 ((a + 2 : Nat) : Int)) 45 2 ((a + 2 : Nat) : Int), 1, rfl, ?_, Or.inr ⟨Or.inl rfl, rfl, ?_, hB, N, L, B, hN, Nat.le_refl _⟩⟩
      · rw [show (eg_u R 45 3 ((a + 1 : Nat) : Int)) 45 3 = ((a + 1 : Nat) : Int) from rfl, zb_wi_1 (by omega)]
        rfl
      · exact ⟨rfl, Int.natCast_nonneg _⟩
  unfold fn_41 fn_164
  rw [w1, v1, hp1, Option.bind_some, p1, q2]
  by_cases hn1 : a + 1 < n
  · rw [if_pos hn1, if_neg (by omega), if_pos (by omega), Int.toNat_natCast]
    obtain ⟨x1, x2, x3⟩ := hX (a + 1) hn1
    by_cases h116 : C 8 (a + 1) = 116
    · have hc : R 46 (a + 1) = 116 := by omega
      rw [if_neg (by omega), if_pos hc]
      obtain ⟨C', R', f, t1, t2, t3⟩ := tail hn1 1 (Or.inr rfl) (R 46 (a + 1)) (by omega)
      refine ⟨C', R', f, ?_, t2, t3⟩
      unfold fn_41_19
      rw [w1, p1, if_neg (by omega), if_pos (by decide)]
      exact t1
    · have hc : ¬ R 46 (a + 1) = 116 := by omega
      rw [if_pos h116, if_neg hc]
      unfold fn_41_18 fn_41_19
      rw [w1, p1, if_neg (by omega), if_neg (by decide), if_pos (by omega), Int.toNat_natCast]
      by_cases h102 : C 8 (a + 1) = 102
      · have hc2 : R 46 (a + 1) = 102 := by omega
        rw [if_pos h102, if_pos hc2]
        obtain ⟨C', R', f, t1, t2, t3⟩ := tail hn1 0 (Or.inl rfl) (R 46 (a + 1)) (by omega)
        exact ⟨C', R', f, t1, t2, t3⟩
      · have hc2 : ¬ R 46 (a + 1) = 102 := by omega
        rw [if_neg h102, if_neg hc2]
        exact ⟨_, _, 1, rfl, rfl, Or.inr ⟨Or.inl rfl, rfl, ⟨rfl, Int.natCast_nonneg _⟩, hB, N, L, B, hN, Nat.le_refl _⟩⟩
  · rw [if_neg hn1, if_pos (by omega), if_neg (by decide), if_neg (by decide)]
    unfold fn_41_18 fn_41_19
    rw [w1, p1, if_pos (by omega)]
    exact ⟨_, _, 1, rfl, rfl, Or.inr ⟨Or.inl rfl, rfl, ⟨rfl, Int.natCast_nonneg _⟩, hB, N, L, B, hN, Nat.le_refl _⟩⟩
theorem zb_tok_rem {C0 R0 : eM} {n F S zb_lv N : Nat} {D E op L B : Nat → Nat} {x : Int} : ∀ (m : Nat) {a : Nat} {C R : eM}, n - a = m → zb_STT C0 R0 C R n F S zb_lv a D E op N L B →
    ∃ a', a ≤ a' ∧ a' ≤ n ∧ fn_33 C = some (eg_u C 7 7 (a' : Int)) ∧ ((a' = n ∨ (a' < n ∧ C 8 a' = 10)) ∧ lp (fn_159_23 x) R = some (0, eg_u R 45 3 (a' : Int)) ∨ (a' < n ∧ (C 8 a' < 32 ∨ 126 < C 8 a') ∧ C 8 a' ≠ 10 ∧ lp (fn_159_23 x) R = some (1, eg_u (eg_u R 45 3 (a' : Int)) 45 2 (a' : Int)))) := by
  intro m
  induction m with
  | zero =>
    intro a C R hm h
    obtain ⟨hR, hB, hV, hN, f1, f2, f3⟩ := h
    obtain ⟨⟨⟨p1, p2, p3⟩, ⟨q1, q2, q3⟩, ⟨s1, s2, s3, s4, s5, s6, s7⟩, l1, l2⟩, hX, hT, zb_hO, hOM, hD⟩ := hR
    refine ⟨a, Nat.le_refl _, q3, ?_, Or.inl ⟨Or.inl (by omega), ?_⟩⟩
    · refine lp_inr ?_
      unfold fn_33_0
      rw [p1, q1, if_pos (by omega), zb_eg_u_self q1]
    · refine lp_inr ?_
      unfold fn_159_23
      rw [p2, q2, if_pos (by omega), zb_eg_u_self q2]
  | succ m ih =>
    intro a C R hm h
    have h0 := h
    obtain ⟨hR, hB, hV, hN, f1, f2, f3⟩ := h
    obtain ⟨⟨⟨p1, p2, p3⟩, ⟨q1, q2, q3⟩, ⟨s1, s2, s3, s4, s5, s6, s7⟩, l1, l2⟩, hX, hT, zb_hO, hOM, hD⟩ := hR
    obtain ⟨x1, x2, x3⟩ := hX a (by omega)
    by_cases hb : C 8 a < 32 ∨ 126 < C 8 a
    · refine ⟨a, Nat.le_refl _, q3, ?_, ?_⟩
      · refine lp_inr ?_
        unfold fn_33_0
        rw [p1, q1, if_neg (by omega), if_pos (by omega), Int.toNat_natCast, zb_eg_u_self q1]
        by_cases h1 : C 8 a < 32
        · rw [if_pos h1]
        · rw [if_neg h1, if_pos (by omega)]
      · by_cases h10 : C 8 a = 10
        · refine Or.inl ⟨Or.inr ⟨by omega, h10⟩, lp_inr ?_⟩
          unfold fn_159_23
          rw [p2, q2, if_neg (by omega), if_pos (by omega), Int.toNat_natCast, if_pos (by omega), zb_eg_u_self q2]
        · refine Or.inr ⟨by omega, hb, h10, lp_inr ?_⟩
          unfold fn_159_23
          have e160 : fn_160 (R 46 a) R = some 0 := by
            unfold fn_160
            rw [if_neg (by omega)]
            by_cases h1 : R 46 a < 32
            · rw [if_pos h1]
            · rw [if_neg h1, if_pos (by omega)]
          rw [p2, q2, if_neg (by omega), if_pos (by omega), Int.toNat_natCast, if_neg (by omega), e160, Option.bind_some, if_neg (by decide), zb_eg_u_self q2]
          rfl
    · obtain ⟨a', g1, g2, g3, g4⟩ := ih (a := a + 1) (by omega) (zb_STT_at (a' := a + 1) h0 (by omega))
      refine ⟨a', by omega, g2, ?_, ?_⟩
      · have e : fn_33_0 C = some (.inl (eg_u C 7 7 ((a + 1 : Nat) : Int))) := by
          unfold fn_33_0
          rw [p1, q1, if_neg (by omega), if_pos (by omega), Int.toNat_natCast, if_neg (by omega), if_neg (by omega), zb_wi_1 (by omega)]
        show lp fn_33_0 C = _
        rw [lp_inl e]
        rw [zb_eg_uu] at g3
        exact g3
      · have e : fn_159_23 x R = some (.inl (eg_u R 45 3 ((a + 1 : Nat) : Int))) := by
          unfold fn_159_23
          have e160 : fn_160 (R 46 a) R = some 1 := by
            unfold fn_160
            rw [if_neg (by omega), if_neg (by omega), if_neg (by omega)]
          rw [p2, q2, if_neg (by omega), if_pos (by omega), Int.toNat_natCast, if_neg (by omega), e160, Option.bind_some, if_pos (by decide), zb_wi_1 (by omega)]
        rw [lp_inl e]
        rw [zb_eg_uu] at g4
        exact g4
theorem zb_word_end {C R : eM} {n a : Nat} (p1 : C 7 6 = (n : Int)) (p2 : R 45 4 = (n : Int)) (p3 : n ≤ 3000) (hX : zb_tx C R n) : ∀ (m i : Nat), n - i = m → i ≤ n → ∃ e, i ≤ e ∧ e ≤ n ∧ (∀ j, i ≤ j → j < e → zb_isL (C 8 j)) ∧ ¬ (e < n ∧ zb_isL (C 8 e)) ∧ lp (fn_46_3 C) (i : Int) = fn_46_13 (e : Int) C
    ∧ ∀ X : Option (Int × eM), fn_168_3 (a : Int) (eg_u R 45 3 (e : Int)) = X.map Sum.inr → lp (fn_168_3 (a : Int)) (eg_u R 45 3 (i : Int)) = X := by
  intro m
  induction m with
  | zero =>
    intro i hm hi
    have : i = n := by omega
    subst this
    refine ⟨i, Nat.le_refl _, hi, fun j h1 h2 => by omega, fun z => by omega, ?_, fun X hX => lp_map hX⟩
    refine lp_map ?_
    unfold fn_46_3
    rw [p1, if_pos (by omega)]
  | succ m ih =>
    intro i hm hi
    obtain ⟨b, k1, k2⟩ := zb_f42 (C := C) (i := i) p1 p3
    by_cases hl : zb_isL (C 8 i)
    · obtain ⟨e, g1, g2, g3, g4, g5, g6⟩ := ih (i + 1) (by omega) (by omega)
      have hb : b = 1 := by
        rcases k2 with ⟨k2, _⟩ | ⟨_, k3⟩
        · exact k2
        · exact absurd ⟨by omega, hl⟩ k3
      refine ⟨e, by omega, g2, fun j h1 h2 => ?_, g4, ?_, fun X hX9 => ?_⟩
      · by_cases hj : j = i
        · rw [hj]; exact hl
        · exact g3 j (by omega) h2
      · have e : fn_46_3 C (i : Int) = some (.inl ((i + 1 : Nat) : Int)) := by
          unfold fn_46_3
          rw [p1, if_neg (by omega), k1, Option.bind_some, hb, if_neg (by decide), zb_wi_1 (by omega)]
        rw [lp_inl e]; exact g5
      · have e : fn_168_3 (a : Int) (eg_u R 45 3 (i : Int)) = some (.inl (eg_u R 45 3 ((i + 1 : Nat) : Int))) := by
          unfold fn_168_3
          obtain ⟨b', k1', k2'⟩ := zb_f166 (R := eg_u R 45 3 (i : Int)) (c := if i < n then R 46 i else -1)
          rw [if_pos (by omega), (hX i (by omega)).2.2] at k2'
          have hm := zb_isL_mod ⟨(hX i (by omega)).1, (hX i (by omega)).2.1⟩
          have hb' : b' = 1 := by
            rcases k2' with ⟨k2, _⟩ | ⟨_, k3⟩
            · exact k2
            · exact absurd (hm.mpr hl) k3
          rw [zb_f165 (R := eg_u R 45 3 (i : Int)) (a := i) rfl p2 p3, Option.bind_some]
          show (fn_166 (if i < n then R 46 i else -1) (eg_u R 45 3 (i : Int))).bind _ = _
          rw [k1', Option.bind_some, hb', if_neg (by decide), show (eg_u R 45 3 (i : Int)) 45 3 = (i : Int) from rfl, zb_wi_1 (by omega), zb_eg_uu]
        rw [lp_inl e]; exact g6 X hX9
    · refine ⟨i, Nat.le_refl _, hi, fun j h1 h2 => by omega, fun z => hl z.2, ?_, fun X hX => lp_map hX⟩
      have hb : b = 0 := by
        rcases k2 with ⟨_, _, k3⟩ | ⟨k2, _⟩
        · exact absurd k3 hl
        · exact k2
      refine lp_map ?_
      unfold fn_46_3
      rw [p1, if_neg (by omega), k1, Option.bind_some, hb, if_pos rfl]
theorem zb_word_ref {C R : eM} {n a e : Nat} (p2 : R 45 4 = (n : Int)) (p3 : n ≤ 3000) (hX : zb_tx C R n) (ha : a < e) (he : e ≤ n) (hl : ¬ (e < n ∧ zb_isL (C 8 e))) :
    fn_168_3 (a : Int) (eg_u R 45 3 (e : Int)) = (if R 46 a = 45 ∧ 1 < e - a then lp (fun z => fn_168_40 (a : Int) ((e - a : Nat) : Int) ((a + 1 : Nat) : Int) (eg_u R 45 3 (e : Int)) z.1 z.2.1 z.2.2) (1, 0, ((a + 1 : Nat) : Int)) else lp (fun z => fn_168_40 (a : Int) ((e - a : Nat) : Int) (a : Int) (eg_u R 45 3 (e : Int)) z.1 z.2.1 z.2.2) (1, 0, (a : Int))).map Sum.inr := by
  unfold fn_168_3
  obtain ⟨b', k1', k2'⟩ := zb_f166 (R := eg_u R 45 3 (e : Int)) (c := if e < n then R 46 e else -1)
  have hb : b' = 0 := by
    rcases k2' with ⟨_, k3⟩ | ⟨k2, _⟩
    · by_cases hq : e < n
      · rw [if_pos hq, (hX e hq).2.2] at k3
        exact absurd ⟨hq, (zb_isL_mod ⟨(hX e hq).1, (hX e hq).2.1⟩).mp k3⟩ hl
      · rw [if_neg hq] at k3; exact absurd k3 zb_isL_neg
    · exact k2
  rw [zb_f165 (R := eg_u R 45 3 (e : Int)) (a := e) rfl p2 p3, Option.bind_some]
  show (fn_166 (if e < n then R 46 e else -1) (eg_u R 45 3 (e : Int))).bind _ = _
  rw [k1', Option.bind_some, hb, if_pos rfl, if_pos (by omega), Int.toNat_natCast]
  show (if ¬ R 46 a = 45 then _ else _) = _
  rw [show (eg_u R 45 3 (e : Int)) 45 3 = (e : Int) from rfl, zb_wi_sub (by omega) (by omega)]
  by_cases h45 : R 46 a = 45
  · rw [if_neg (by omega)]
    by_cases h1 : 1 < e - a
    · rw [if_neg (by omega), if_pos ⟨h45, h1⟩, zb_wi_1 (by omega)]
    · rw [if_pos (by omega), if_neg (fun z => h1 z.2)]
  · rw [if_pos h45, if_neg (fun z => h45 z.1)]
theorem zb_word_cls {C : eM} {n a e : Nat} (q1 : C 7 7 = (a : Int)) (p3 : n ≤ 3000) (ha : a < e) (he : e ≤ n) :
    fn_46_13 (e : Int) C = if C 8 a = 45 ∧ 1 < e - a then fn_46_40 (e : Int) 1 ((a + 1 : Nat) : Int) C else fn_46_40 (e : Int) 0 (a : Int) C := by
  unfold fn_46_13 fn_46_28 fn_46_29
  rw [q1, if_pos (by omega), Int.toNat_natCast, zb_wi_sub (by omega) (by omega), zb_wi_1 (by omega)]
  by_cases h45 : C 8 a = 45
  · rw [if_neg (fun z => z h45)]
    by_cases h1 : 1 < e - a
    · rw [if_neg (by omega), if_neg (by decide), if_pos ⟨h45, h1⟩]
    · rw [if_pos (by omega), if_pos rfl, if_neg (fun z => h1 z.2)]
  · rw [if_pos h45, if_pos rfl, if_neg (fun z => h45 z.1)]
def zb_dg (C : eM) (f e : Nat) : Prop := ∀ j, f ≤ j → j < e → 48 ≤ C 8 j ∧ C 8 j ≤ 57
theorem zb_f47 {C : eM} {e : Nat} {x : Int} (he : e ≤ 3000) : ∀ (m i : Nat), e - i = m → i ≤ e → ∃ b : Int, lp (fn_47_2 x (e : Int) C) (i : Int) = some b ∧ ((b = 1 ∧ zb_dg C i e) ∨ (b = 0 ∧ ¬ zb_dg C i e)) := by
  intro m
  induction m with
  | zero =>
    intro i hm hi
    refine ⟨1, lp_inr ?_, Or.inl ⟨rfl, fun j h1 h2 => by omega⟩⟩
    unfold fn_47_2
    rw [if_pos (by omega)]
  | succ m ih =>
    intro i hm hi
    by_cases hd : 48 ≤ C 8 i ∧ C 8 i ≤ 57
    · obtain ⟨b, g1, g2⟩ := ih (i + 1) (by omega) (by omega)
      have e1 : fn_47_2 x (e : Int) C (i : Int) = some (.inl ((i + 1 : Nat) : Int)) := by
        unfold fn_47_2
        rw [if_neg (by omega), zb_f43 (by omega), Option.bind_some, if_pos hd, if_pos (by decide), zb_wi_1 (by omega)]
      refine ⟨b, (lp_inl e1).trans g1, ?_⟩
      rcases g2 with ⟨g2, g3⟩ | ⟨g2, g3⟩
      · refine Or.inl ⟨g2, fun j h1 h2 => ?_⟩
        by_cases hj : j = i
        · rw [hj]; exact hd
        · exact g3 j (by omega) h2
      · exact Or.inr ⟨g2, fun z => g3 (fun j h1 h2 => z j (by omega) h2)⟩
    · refine ⟨0, lp_inr ?_, Or.inr ⟨rfl, fun z => hd (z i (Nat.le_refl _) (by omega))⟩⟩
      unfold fn_47_2
      rw [if_neg (by omega), zb_f43 (by omega), Option.bind_some, if_neg hd, if_neg (by decide)]
def zb_dv (C : eM) (f : Nat) : Nat → Nat
  | 0 => 0
  | t + 1 => 10 * zb_dv C f t + (C 8 (f + t) - 48).toNat
theorem zb_dv_succ {C : eM} {f t : Nat} : zb_dv C f (t + 1) = 10 * zb_dv C f t + (C 8 (f + t) - 48).toNat := rfl
theorem zb_dv_mono {C : eM} {f : Nat} {t k : Nat} : zb_dv C f t ≤ zb_dv C f (t + k) := by
  induction k with
  | zero => exact Nat.le_refl _
  | succ k ih => rw [← Nat.add_assoc, zb_dv_succ]; omega
theorem zb_f48 {C : eM} {a f e bd : Nat} {x : Int} (q1 : C 7 7 = (a : Int)) (he : e ≤ 3000) (hbd : bd ≤ 2147483648) (hd : zb_dg C f e) : ∀ (m t : Nat), e - (f + t) = m → f + t ≤ e →
    lp (fun z => fn_48_18 x (e : Int) (bd : Int) C z.1 z.2) (((zb_dv C f t : Nat) : Int), ((f + t : Nat) : Int)) = if zb_dv C f (e - f) ≤ bd then fn_48_39 x (e : Int) (bd : Int) ((zb_dv C f (e - f) : Nat) : Int) C else some (eg_u (eg_u C 7 4 1) 7 5 (a : Int)) := by
  intro m
  induction m with
  | zero =>
    intro t hm ht
    have e1 : e - f = t := by omega
    rw [e1]
    refine lp2_map ?_
    unfold fn_48_18
    rw [if_pos (by omega)]
    by_cases h : zb_dv C f t ≤ bd
    · rw [if_pos h]
    · rw [if_neg h]
      unfold fn_48_39
      rw [if_neg (by omega), q1]; rfl
  | succ m ih =>
    intro t hm ht
    by_cases h : bd < zb_dv C f t
    · have h2 : ¬ zb_dv C f (e - f) ≤ bd := by
        have := zb_dv_mono (C := C) (f := f) (t := t) (k := e - f - t)
        rw [show t + (e - f - t) = e - f by omega] at this
        omega
      rw [if_neg h2]
      refine lp2_map ?_
      unfold fn_48_18
      rw [if_neg (by omega), if_pos (by omega)]
      unfold fn_48_39
      rw [if_neg (by omega), q1]; rfl
    · have hdt := hd (f + t) (by omega) (by omega)
      have e1 : fn_48_18 x (e : Int) (bd : Int) C ((zb_dv C f t : Nat) : Int) ((f + t : Nat) : Int) = some (.inl (((zb_dv C f (t + 1) : Nat) : Int), ((f + (t + 1) : Nat) : Int))) := by
        unfold fn_48_18
        rw [if_neg (by omega), if_neg (by omega), if_pos (by omega), Int.toNat_natCast, zb_wi_1 (by omega)]
        have e2 : eg_wl (eg_wl (eg_wl (((zb_dv C f t : Nat) : Int) * 10) + C 8 (f + t)) - 48) = ((zb_dv C f (t + 1) : Nat) : Int) := by
          rw [zb_dv_succ, eg_wl_id (n := ((zb_dv C f t : Nat) : Int) * 10) (by omega) (by omega), eg_wl_id (n := ((zb_dv C f t : Nat) : Int) * 10 + C 8 (f + t)) (by omega) (by omega), eg_wl_id (by omega) (by omega)]; omega
        rw [e2]; rfl
      rw [lp2_inl e1]
      exact ih (t + 1) (by omega) (by omega)
def zb_rv (v : Int) (d : Nat) : Prop := (v = (d : Int) ∧ d < 100000000000) ∨ (10000000000 ≤ v ∧ v < 100000000000 ∧ 10000000000 ≤ d)
theorem zb_f168d {C R : eM} {n a f e : Nat} {x9 : Int} (hX : zb_tx C R n) (he : e ≤ n) (he2 : n ≤ 3000) (hd : zb_dg C f e) : ∀ (m t : Nat) (v : Int), e - (f + t) = m → f + t ≤ e → zb_rv v (zb_dv C f t) → ∃ v', zb_rv v' (zb_dv C f (e - f)) ∧
    lp (fun z => fn_168_40 (a : Int) x9 (f : Int) (eg_u R 45 3 (e : Int)) z.1 z.2.1 z.2.2) (1, v, ((f + t : Nat) : Int)) = if (f : Int) ≤ (a : Int) then fn_168_93 (a : Int) v' (eg_u R 45 3 (e : Int)) else fn_168_93 (a : Int) (eg_wl (-v')) (eg_u R 45 3 (e : Int)) := by
  intro m
  induction m with
  | zero =>
    intro t v hm ht hr
    have e1 : e - f = t := by omega
    rw [e1]
    refine ⟨v, hr, lp3_map ?_⟩
    unfold fn_168_40
    rw [if_pos (by show (e : Int) ≤ _; omega), if_neg (by decide)]
    by_cases h : (f : Int) ≤ (a : Int)
    · rw [if_pos h, if_pos h]
    · rw [if_neg h, if_neg h]
  | succ m ih =>
    intro t v hm ht hr
    have hdt := hd (f + t) (by omega) (by omega)
    obtain ⟨x1, x2, x3⟩ := hX (f + t) (by omega)
    have hc : R 46 (f + t) = C 8 (f + t) := by omega
    have hstep : ∃ v2, zb_rv v2 (zb_dv C f (t + 1)) ∧ fn_168_40 (a : Int) x9 (f : Int) (eg_u R 45 3 (e : Int)) 1 v ((f + t : Nat) : Int) = some (.inl (1, v2, ((f + (t + 1) : Nat) : Int))) := by
      unfold fn_168_40
      rw [if_neg (by show ¬ (e : Int) ≤ _; omega), if_neg (by decide), if_pos (by omega), Int.toNat_natCast, if_neg (by show ¬ R 46 (f + t) < 48; omega), if_neg (by show ¬ 57 < R 46 (f + t); omega)]
      unfold fn_168_61
      rw [if_neg (by decide)]
      by_cases hv : 10000000000 ≤ v
      · refine ⟨v, ?_, ?_⟩
        · rcases hr with ⟨hr, hr2⟩ | ⟨r1, r2, r3⟩
          · have := zb_dv_succ (C := C) (f := f) (t := t)
            exact Or.inr ⟨hv, by omega, by omega⟩
          · have := zb_dv_succ (C := C) (f := f) (t := t)
            exact Or.inr ⟨r1, r2, by omega⟩
        · rw [if_pos hv, zb_wi_1 (by omega)]; rfl
      · rcases hr with ⟨hr, hr2⟩ | ⟨r1, r2, r3⟩
        · refine ⟨((zb_dv C f (t + 1) : Nat) : Int), Or.inl ⟨rfl, by rw [zb_dv_succ]; omega⟩, ?_⟩
          rw [if_neg hv, if_pos (by omega), Int.toNat_natCast, zb_wi_1 (by omega)]
          show some (Sum.inl (1, eg_wl (eg_wl (eg_wl (10 * v) + R 46 (f + t)) - 48), _)) = _
          rw [hc, hr, eg_wl_id (n := 10 * ((zb_dv C f t : Nat) : Int)) (by omega) (by omega), eg_wl_id (n := 10 * ((zb_dv C f t : Nat) : Int) + C 8 (f + t)) (by omega) (by omega), eg_wl_id (by omega) (by omega), zb_dv_succ]
          congr 4
          omega
        · omega
    obtain ⟨v2, g1, g2⟩ := hstep
    obtain ⟨v', g3, g4⟩ := ih (t + 1) v2 (by omega) (by omega) g1
    exact ⟨v', g3, (lp3_inl g2).trans g4⟩
theorem zb_f168z {R : eM} {n a f e : Nat} {x9 : Int} {X : Option (Int × eM)} (he : e ≤ n) (he2 : n ≤ 3000) (hX : ∀ v : Int, fn_168_40 (a : Int) x9 (f : Int) (eg_u R 45 3 (e : Int)) 0 v (e : Int) = X.map Sum.inr) : ∀ (m k : Nat) (v : Int), e - k = m → k ≤ e → lp (fun z => fn_168_40 (a : Int) x9 (f : Int) (eg_u R 45 3 (e : Int)) z.1 z.2.1 z.2.2) (0, v, (k : Int)) = X := by
  intro m
  induction m with
  | zero =>
    intro k v hm hk
    have : k = e := by omega
    subst this
    exact lp3_map (hX v)
  | succ m ih =>
    intro k v hm hk
    have e1 : fn_168_40 (a : Int) x9 (f : Int) (eg_u R 45 3 (e : Int)) 0 v (k : Int) = some (.inl (0, v, ((k + 1 : Nat) : Int))) := by
      unfold fn_168_40
      rw [if_neg (by show ¬ (e : Int) ≤ _; omega), if_pos rfl]
      unfold fn_168_60 fn_168_61
      rw [if_pos rfl, zb_wi_1 (by omega)]
    rw [lp3_inl e1]
    exact ih (k + 1) v (by omega) (by omega)
theorem zb_f168n {C R : eM} {n a f e : Nat} {x9 : Int} {X : Option (Int × eM)} (hT : zb_tx C R n) (he : e ≤ n) (he2 : n ≤ 3000) (hX : ∀ v : Int, fn_168_40 (a : Int) x9 (f : Int) (eg_u R 45 3 (e : Int)) 0 v (e : Int) = X.map Sum.inr) : ∀ (m k : Nat) (v : Int), e - k = m → k ≤ e → ¬ zb_dg C k e → lp (fun z => fn_168_40 (a : Int) x9 (f : Int) (eg_u R 45 3 (e : Int)) z.1 z.2.1 z.2.2) (1, v, (k : Int)) = X := by
  intro m
  induction m with
  | zero => intro k v hm hk hn; exact absurd (fun j h1 h2 => by omega) hn
  | succ m ih =>
    intro k v hm hk hn
    obtain ⟨x1, x2, x3⟩ := hT k (by omega)
    by_cases hd : 48 ≤ C 8 k ∧ C 8 k ≤ 57
    · have e1 : ∃ v2, fn_168_40 (a : Int) x9 (f : Int) (eg_u R 45 3 (e : Int)) 1 v (k : Int) = some (.inl (1, v2, ((k + 1 : Nat) : Int))) := by
        unfold fn_168_40
        rw [if_neg (by show ¬ (e : Int) ≤ _; omega), if_neg (by decide), if_pos (by omega), Int.toNat_natCast, if_neg (by show ¬ R 46 k < 48; omega), if_neg (by show ¬ 57 < R 46 k; omega)]
        unfold fn_168_61
        rw [if_neg (by decide), zb_wi_1 (by omega)]
        by_cases hv : 10000000000 ≤ v
        · rw [if_pos hv]; exact ⟨_, rfl⟩
        · rw [if_neg hv, if_pos (by omega)]; exact ⟨_, rfl⟩
      obtain ⟨v2, e1⟩ := e1
      rw [lp3_inl e1]
      refine ih (k + 1) v2 (by omega) (by omega) (fun z => hn (fun j h1 h2 => ?_))
      by_cases hj : j = k
      · rw [hj]; exact hd
      · exact z j (by omega) h2
    · have e1 : fn_168_40 (a : Int) x9 (f : Int) (eg_u R 45 3 (e : Int)) 1 v (k : Int) = some (.inl (0, v, ((k + 1 : Nat) : Int))) := by
        unfold fn_168_40
        rw [if_neg (by show ¬ (e : Int) ≤ _; omega), if_neg (by decide), if_pos (by omega), Int.toNat_natCast]
        unfold fn_168_60 fn_168_61
        rw [if_pos rfl, zb_wi_1 (by omega)]
        by_cases h1 : R 46 k < 48
        · rw [if_pos (by exact h1)]
        · rw [if_neg (by exact h1), if_pos (by show 57 < R 46 k; omega)]
      rw [lp3_inl e1]
      exact zb_f168z he he2 hX _ (k + 1) v rfl (by omega)
theorem zb_tok_number {C0 R0 C R : eM} {n F S zb_lv a e N : Nat} {D E op L B : Nat → Nat} (h : zb_STT C0 R0 C R n F S zb_lv a D E op N L B) (ht : zb_TK R zb_lv op) (ha : a < e) (he : e ≤ n) (mi : Bool) (hd : zb_dg C (if mi then a + 1 else a) e) (hmi : mi = true → 1 < e - a) :
    ∃ C' R' f, fn_48 (if mi then 1 else 0) (e : Int) C = some C' ∧ lp (fun z => fn_168_40 (a : Int) ((e - a : Nat) : Int) ((if mi then a + 1 else a : Nat) : Int) (eg_u R 45 3 (e : Int)) z.1 z.2.1 z.2.2) (1, 0, ((if mi then a + 1 else a : Nat) : Int)) = some (f, R') ∧ zb_TOK C0 R0 n F a N C' R' f := by
  have zb_hS := h
  obtain ⟨hR, hB, hV, hN, f1, f2, f3⟩ := h
  obtain ⟨⟨⟨p1, p2, p3⟩, ⟨q1, q2, q3⟩, ⟨s1, s2, s3, s4, s5, s6, s7⟩, l1, l2⟩, hX, hT, zb_hO, hOM, hD⟩ := hR
  have fail : ∃ C' R' f, some (eg_u (eg_u C 7 4 1) 7 5 (a : Int)) = some C' ∧ (some (1, eg_u (eg_u R 45 3 (e : Int)) 45 2 (a : Int)) : Option (Int × eM)) = some (f, R') ∧ zb_TOK C0 R0 n F a N C' R' f :=
    ⟨_, _, 1, rfl, rfl, Or.inr ⟨Or.inl rfl, rfl, ⟨rfl, Int.natCast_nonneg _⟩, hB, N, L, B, hN, Nat.le_refl _⟩⟩
  cases mi with
  | false =>
    simp only [Bool.false_eq_true, if_false] at hd ⊢
    have c1 := zb_f48 (x := 0) (bd := 2147483647) q1 (by omega) (by decide) hd _ 0 rfl (by omega)
    obtain ⟨v, r1, r2⟩ := zb_f168d (a := a) (x9 := ((e - a : Nat) : Int)) hX he p3 hd _ 0 0 rfl (by omega) (Or.inl ⟨rfl, by show 0 < _; decide⟩)
    have c0 : fn_48 0 (e : Int) C = lp (fun z => fn_48_18 0 (e : Int) 2147483647 C z.1 z.2) (0, (a : Int)) := by
      unfold fn_48; rw [if_pos rfl, q1]
    rw [c0]
    rw [if_pos (by omega)] at r2
    rw [show lp (fun z => fn_48_18 0 (e : Int) 2147483647 C z.1 z.2) (0, (a : Int)) = _ from c1, show lp (fun z => fn_168_40 (a : Int) ((e - a : Nat) : Int) (a : Int) (eg_u R 45 3 (e : Int)) z.1 z.2.1 z.2.2) (1, 0, (a : Int)) = _ from r2]
    unfold fn_168_93
    by_cases hb : zb_dv C a (e - a) ≤ 2147483647
    · have hv : v = ((zb_dv C a (e - a) : Nat) : Int) := by unfold zb_rv at r1; omega
      rw [if_pos hb, if_neg (by omega), if_pos (by omega)]
      unfold fn_48_39 fn_49
      rw [if_pos (by omega), if_pos rfl, Option.bind_some, eg_wi_id (n := ((zb_dv C a (e - a) : Nat) : Int)) (by omega) (by omega), zb_land_low (by omega), eg_wi_id (n := v) (by omega) (by omega)]
      obtain ⟨C', R', f, t1, t2, t3⟩ := zb_tok_atom (a' := e) (zb_cv := ((zb_dv C a (e - a) : Nat) : Int) % 4294967296) (rk := 0) (zb_rv := v) zb_hS ht ha he (by decide) (by unfold zb_vk; omega)
      exact ⟨C', R', f, by rw [t1]; rfl, t2, t3⟩
    · have hv : 2147483647 < v := by unfold zb_rv at r1; omega
      rw [if_neg hb, if_neg (by omega), if_neg (by omega)]
      exact fail
  | true =>
    simp only [if_true] at hd ⊢
    have h1 := hmi rfl
    have c1 := zb_f48 (x := 1) (bd := 2147483648) q1 (by omega) (by decide) hd _ 0 rfl (by omega)
    obtain ⟨v, r1, r2⟩ := zb_f168d (a := a) (x9 := ((e - a : Nat) : Int)) hX he p3 hd _ 0 0 rfl (by omega) (Or.inl ⟨rfl, by show 0 < _; decide⟩)
    have c0 : fn_48 1 (e : Int) C = lp (fun z => fn_48_18 1 (e : Int) 2147483648 C z.1 z.2) (0, ((a + 1 : Nat) : Int)) := by
      unfold fn_48; rw [if_neg (by decide), q1, zb_wi_1 (by omega)]
    rw [c0]
    rw [if_neg (by omega)] at r2
    rw [show lp (fun z => fn_48_18 1 (e : Int) 2147483648 C z.1 z.2) (0, ((a + 1 : Nat) : Int)) = _ from c1, show lp (fun z => fn_168_40 (a : Int) ((e - a : Nat) : Int) ((a + 1 : Nat) : Int) (eg_u R 45 3 (e : Int)) z.1 z.2.1 z.2.2) (1, 0, ((a + 1 : Nat) : Int)) = _ from r2]
    have hv0 : 0 ≤ v ∧ v < 100000000000 := by unfold zb_rv at r1; omega
    rw [eg_wl_id (n := -v) (by omega) (by omega)]
    unfold fn_168_93
    by_cases hb : zb_dv C (a + 1) (e - (a + 1)) ≤ 2147483648
    · have hv : v = ((zb_dv C (a + 1) (e - (a + 1)) : Nat) : Int) := by unfold zb_rv at r1; omega
      rw [if_pos hb, if_neg (by omega), if_pos (by omega)]
      unfold fn_48_39 fn_49
      rw [if_pos (by omega), if_neg (by decide), Option.bind_some, eg_wl_id (n := -((zb_dv C (a + 1) (e - (a + 1)) : Nat) : Int)) (by omega) (by omega), eg_wi_id (n := -((zb_dv C (a + 1) (e - (a + 1)) : Nat) : Int)) (by omega) (by omega), zb_land_low (by omega), eg_wi_id (n := -v) (by omega) (by omega)]
      obtain ⟨C', R', f, t1, t2, t3⟩ := zb_tok_atom (a' := e) (zb_cv := (-((zb_dv C (a + 1) (e - (a + 1)) : Nat) : Int)) % 4294967296) (rk := 0) (zb_rv := -v) zb_hS ht ha he (by decide) (by unfold zb_vk; omega)
      exact ⟨C', R', f, by rw [t1]; rfl, t2, t3⟩
    · have hv : 2147483648 < v := by unfold zb_rv at r1; omega
      rw [if_neg hb, if_pos (by omega)]
      exact fail
