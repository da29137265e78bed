def zb_MT (C : eM) (L : Nat → Nat) (a e k : Nat) : Prop := L k = e - a ∧ ∀ i, i < e - a → C 2 (20 * k + i) = C 8 (a + i)
theorem zb_f52 {C : eM} {N k a l : Nat} (hk : k < 444) (h3 : C 3 k = (l : Int)) (hl : l ≤ 20) (ha : a + l ≤ 3000) : ∀ (m i : Nat), l - i = m → i ≤ l → ∃ b : Int, lp (fn_52_2 (k : Int) (a : Int) C) (i : Int) = some b ∧ ((b = 1 ∧ ∀ j, i ≤ j → j < l → C 2 (20 * k + j) = C 8 (a + j)) ∨ (b = 0 ∧ ¬ ∀ j, i ≤ j → j < l → C 2 (20 * k + j) = C 8 (a + j))) := by
  intro m
  induction m with
  | zero =>
    intro i hm hi
    refine ⟨1, lp_inr ?_, Or.inl ⟨rfl, fun j h1 h2 => by omega⟩⟩
    unfold fn_52_2
    rw [if_pos (by omega), Int.toNat_natCast, h3, if_pos (by omega)]
  | succ m ih =>
    intro i hm hi
    have w1 : eg_wi (eg_wi ((k : Int) * 20) + (i : Int)) = ((20 * k + i : Nat) : Int) := by
      rw [eg_wi_id (n := (k : Int) * 20) (by omega) (by omega), eg_wi_id (by omega) (by omega)]; omega
    have w2 : eg_wi ((a : Int) + (i : Int)) = ((a + i : Nat) : Int) := zb_wi_add (by omega)
    by_cases hq : C 2 (20 * k + i) = C 8 (a + i)
    · obtain ⟨b, g1, g2⟩ := ih (i + 1) (by omega) (by omega)
      have e1 : fn_52_2 (k : Int) (a : Int) C (i : Int) = some (.inl ((i + 1 : Nat) : Int)) := by
        unfold fn_52_2
        rw [if_pos (by omega), Int.toNat_natCast, h3, if_neg (by omega), w1, if_pos (by omega), w2, if_pos (by omega), Int.toNat_natCast, Int.toNat_natCast, if_pos hq, zb_wi_1 (by omega)]
      refine ⟨b, (lp_inl e1).trans g1, ?_⟩
      rcases g2 with ⟨g2, g3⟩ | ⟨g2, g3⟩
      · refine Or.inl ⟨g2, fun j h1 h2 => ?_⟩
        by_cases hj : j = i
        · rw [hj]; exact hq
        · exact g3 j (by omega) h2
      · exact Or.inr ⟨g2, fun z => g3 (fun j h1 h2 => z j (by omega) h2)⟩
    · refine ⟨0, lp_inr ?_, Or.inr ⟨rfl, fun z => hq (z i (Nat.le_refl _) (by omega))⟩⟩
      unfold fn_52_2
      rw [if_pos (by omega), Int.toNat_natCast, h3, if_neg (by omega), w1, if_pos (by omega), w2, if_pos (by omega), Int.toNat_natCast, Int.toNat_natCast, if_neg hq]
def zb_FN (C : eM) (L : Nat → Nat) (a e N k : Nat) (r : Int) : Prop := (∃ x : Nat, k ≤ x ∧ x < N ∧ zb_MT C L a e x ∧ (∀ y, k ≤ y → y < x → ¬ zb_MT C L a e y) ∧ r = (x : Int)) ∨ (r = -1 ∧ ∀ y, k ≤ y → y < N → ¬ zb_MT C L a e y)
theorem zb_f51 {C R : eM} {N a e n : Nat} {L B : Nat → Nat} (hN : zb_NM C R N L B) (ha : a < e) (he : e ≤ n) (hn : n ≤ 3000) : ∀ (m k : Nat), N - k = m → k ≤ N → ∃ r : Int, lp (fn_51_2 (a : Int) (e : Int) C) (k : Int) = some r ∧ zb_FN C L a e N k r := by
  obtain ⟨⟨h1, h2, h3, h4⟩, h5, h6, h7⟩ := hN
  intro m
  induction m with
  | zero =>
    intro k hm hk
    refine ⟨-1, lp_inr ?_, Or.inr ⟨rfl, fun y y1 y2 => by omega⟩⟩
    unfold fn_51_2
    rw [h1, if_pos (by omega)]
  | succ m ih =>
    intro k hm hk
    obtain ⟨n1, n2, n3, n4⟩ := h7 k (by omega)
    have step : ¬ zb_MT C L a e k → fn_51_2 (a : Int) (e : Int) C (k : Int) = some (.inl ((k + 1 : Nat) : Int)) → ∃ r : Int, lp (fn_51_2 (a : Int) (e : Int) C) (k : Int) = some r ∧ zb_FN C L a e N k r := by
      intro hn1 hs
      obtain ⟨r, g1, g2⟩ := ih (k + 1) (by omega) (by omega)
      refine ⟨r, (lp_inl hs).trans g1, ?_⟩
      rcases g2 with ⟨x, x1, x2, x3, x4, x5⟩ | ⟨g2, g3⟩
      · refine Or.inl ⟨x, by omega, x2, x3, fun y y1 y2 => ?_, x5⟩
        by_cases hy : y = k
        · rw [hy]; exact hn1
        · exact x4 y (by omega) y2
      · refine Or.inr ⟨g2, fun y y1 y2 => ?_⟩
        by_cases hy : y = k
        · rw [hy]; exact hn1
        · exact g3 y (by omega) y2
    by_cases hl : L k = e - a
    · obtain ⟨b, g1, g2⟩ := zb_f52 (N := N) (a := a) (by omega) n1 n2 (by omega) _ 0 rfl (by omega)
      rcases g2 with ⟨g2, g3⟩ | ⟨g2, g3⟩
      · refine ⟨(k : Int), lp_inr ?_, Or.inl ⟨k, Nat.le_refl _, by omega, ⟨hl, fun i hi => g3 i (by omega) (by omega)⟩, fun y y1 y2 => by omega, rfl⟩⟩
        unfold fn_51_2 fn_52
        rw [h1, if_neg (by omega), if_pos (by omega), Int.toNat_natCast, n1, zb_wi_sub (by omega) (by omega), if_neg (by omega), show lp (fn_52_2 (k : Int) (a : Int) C) 0 = some b from g1, Option.bind_some, if_neg (by omega)]
      · refine step (fun z => g3 (fun j j1 j2 => z.2 j (by omega))) ?_
        unfold fn_51_2 fn_52
        rw [h1, if_neg (by omega), if_pos (by omega), Int.toNat_natCast, n1, zb_wi_sub (by omega) (by omega), if_neg (by omega), show lp (fn_52_2 (k : Int) (a : Int) C) 0 = some b from g1, Option.bind_some, if_pos (by omega), zb_wi_1 (by omega)]
    · refine step (fun z => hl z.1) ?_
      unfold fn_51_2
      rw [h1, if_neg (by omega), if_pos (by omega), Int.toNat_natCast, n1, zb_wi_sub (by omega) (by omega), if_pos (by omega), zb_wi_1 (by omega)]
theorem zb_f169i {C M : eM} {N k a e n : Nat} {L B : Nat → Nat} (hN : zb_NM C M N L B) (hX : zb_tx C M n) (hk : k < N) (ha : a < e) (he : e ≤ n) (hn : n ≤ 3000) (hlet : ∀ j, a ≤ j → j < e → 0 ≤ C 8 j) : ∀ (m i : Nat) (lk : Int), (e - a) - i = m → i ≤ e - a → ((lk = 1 ∧ L k = e - a) ∨ lk = 0) →
    ∃ r, lp (fun z => fn_169_29 (a : Int) (e : Int) ((e - a : Nat) : Int) (k : Int) M z.1 z.2) (lk, (i : Int)) = some r ∧ ((r = .inr ((k : Int), M) ∧ lk = 1 ∧ ∀ j, i ≤ j → j < e - a → C 2 (20 * k + j) = C 8 (a + j)) ∨ (r = .inl ((k + 1 : Nat) : Int) ∧ ¬ (lk = 1 ∧ ∀ j, i ≤ j → j < e - a → C 2 (20 * k + j) = C 8 (a + j)))) := by
  obtain ⟨⟨h1, h2, h3, h4⟩, h5, h6, h7⟩ := hN
  obtain ⟨n1, n2, n3, n4⟩ := h7 k hk
  obtain ⟨b1, b2⟩ := h6 k (by omega)
  intro m
  induction m with
  | zero =>
    intro i lk hm hi hlk
    rcases hlk with ⟨hlk, hl⟩ | hlk
    · refine ⟨_, lp2_inr (r := .inr ((k : Int), M)) ?_, Or.inl ⟨rfl, hlk, fun j j1 j2 => by omega⟩⟩
      unfold fn_169_29
      rw [if_pos (by omega), if_neg (by omega)]
    · refine ⟨_, lp2_inr (r := .inl ((k + 1 : Nat) : Int)) ?_, Or.inr ⟨rfl, fun z => by omega⟩⟩
      unfold fn_169_29
      rw [if_pos (by omega), if_pos hlk, zb_wi_1 (by omega)]
  | succ m ih =>
    intro i lk hm hi hlk
    rcases hlk with ⟨hlk, hl⟩ | hlk
    · subst hlk
      have hcmp : (M 47 (B k + i) = M 46 (a + i)) = (C 2 (20 * k + i) = C 8 (a + i)) := by
        have hi2 : i < L k := by omega
        have ha2 : a + i < n := by omega
        have ha3 : a + i < e := by omega
        have x4 := hlet (a + i) (Nat.le_add_right _ _) ha3
        have x := hX (a + i) ha2
        rw [(n4 i hi2).1, x.2.2, Int.emod_eq_of_lt x4 (Int.lt_trans x.2.1 (by decide))]
      by_cases hq : C 2 (20 * k + i) = C 8 (a + i)
      · have e1 : fn_169_29 (a : Int) (e : Int) ((e - a : Nat) : Int) (k : Int) M 1 (i : Int) = some (.inl (1, ((i + 1 : Nat) : Int))) := by
          unfold fn_169_29
          rw [if_neg (by omega), if_neg (by decide), if_pos (by omega), Int.toNat_natCast, b1, zb_wi_add (a := B k) (b := i) (by omega), if_pos (by omega), zb_wi_add (a := a) (b := i) (by omega), if_pos (by omega), Int.toNat_natCast, Int.toNat_natCast, if_neg (by rw [hcmp]; exact fun z => z hq), zb_wi_1 (by omega)]
        obtain ⟨r, g1, g2⟩ := ih (i + 1) 1 (by omega) (by omega) (Or.inl ⟨rfl, hl⟩)
        refine ⟨r, (lp2_inl e1).trans g1, ?_⟩
        rcases g2 with ⟨g2, g3, g4⟩ | ⟨g2, g3⟩
        · refine Or.inl ⟨g2, rfl, fun j j1 j2 => ?_⟩
          by_cases hj : j = i
          · rw [hj]; exact hq
          · exact g4 j (by omega) j2
        · exact Or.inr ⟨g2, fun z => g3 ⟨rfl, fun j j1 j2 => z.2 j (by omega) j2⟩⟩
      · have e1 : fn_169_29 (a : Int) (e : Int) ((e - a : Nat) : Int) (k : Int) M 1 (i : Int) = some (.inl (0, ((i + 1 : Nat) : Int))) := by
          unfold fn_169_29
          rw [if_neg (by omega), if_neg (by decide), if_pos (by omega), Int.toNat_natCast, b1, zb_wi_add (a := B k) (b := i) (by omega), if_pos (by omega), zb_wi_add (a := a) (b := i) (by omega), if_pos (by omega), Int.toNat_natCast, Int.toNat_natCast, if_pos (by rw [hcmp]; exact hq), zb_wi_1 (by omega)]
        obtain ⟨r, g1, g2⟩ := ih (i + 1) 0 (by omega) (by omega) (Or.inr rfl)
        refine ⟨r, (lp2_inl e1).trans g1, ?_⟩
        rcases g2 with ⟨g2, g3, g4⟩ | ⟨g2, g3⟩
        · omega
        · exact Or.inr ⟨g2, fun z => hq (z.2 i (Nat.le_refl _) (by omega))⟩
    · subst hlk
      refine ⟨_, lp2_inr (r := .inl ((k + 1 : Nat) : Int)) ?_, Or.inr ⟨rfl, fun z => by omega⟩⟩
      unfold fn_169_29
      rw [if_neg (by omega), if_pos rfl, zb_wi_1 (by omega)]
theorem zb_f169s {C M : eM} {N a e n : Nat} {L B : Nat → Nat} (hN : zb_NM C M N L B) (hX : zb_tx C M n) (ha : a < e) (he : e ≤ n) (hn : n ≤ 3000) (hlet : ∀ j, a ≤ j → j < e → 0 ≤ C 8 j) : ∀ (m k : Nat), N - k = m → k ≤ N →
    (∃ x : Nat, zb_FN C L a e N k (x : Int) ∧ lp (fn_169_6 (a : Int) (e : Int) ((e - a : Nat) : Int) M) (k : Int) = some ((x : Int), M)) ∨ (zb_FN C L a e N k (-1) ∧ lp (fn_169_6 (a : Int) (e : Int) ((e - a : Nat) : Int) M) (k : Int) = if N = 444 then some (-1, M) else lp (fun z => fn_169_70 (a : Int) (e : Int) ((e - a : Nat) : Int) z.1 z.2) (0, M)) := by
  have hN0 := hN
  obtain ⟨⟨h1, h2, h3, h4⟩, h5, h6, h7⟩ := hN
  intro m
  induction m with
  | zero =>
    intro k hm hk
    refine Or.inr ⟨Or.inr ⟨rfl, fun y y1 y2 => by omega⟩, lp_map ?_⟩
    unfold fn_169_6
    rw [h2, if_pos (by omega)]
    by_cases h : N = 444
    · rw [if_neg (by omega), if_pos h]; rfl
    · rw [if_pos (by omega), if_neg h]
  | succ m ih =>
    intro k hm hk
    obtain ⟨n1, n2, n3, n4⟩ := h7 k (by omega)
    obtain ⟨b1, b2⟩ := h6 k (by omega)
    obtain ⟨b3, b4⟩ := h6 (k + 1) (by omega)
    have hlk : ∃ lk : Int, ((lk = 1 ∧ L k = e - a) ∨ (lk = 0 ∧ L k ≠ e - a)) ∧ fn_169_6 (a : Int) (e : Int) ((e - a : Nat) : Int) M (k : Int) = lp (fun z => fn_169_29 (a : Int) (e : Int) ((e - a : Nat) : Int) (k : Int) M z.1 z.2) (lk, 0) := by
      by_cases hl : L k = e - a
      · refine ⟨1, Or.inl ⟨rfl, hl⟩, ?_⟩
        unfold fn_169_6
        rw [h2, if_neg (by omega), zb_wi_1 (by omega), if_pos (by omega), if_pos (by omega), Int.toNat_natCast, Int.toNat_natCast, b1, b3, n3, zb_wi_sub (by omega) (by omega), if_neg (by omega)]
      · refine ⟨0, Or.inr ⟨rfl, hl⟩, ?_⟩
        unfold fn_169_6
        rw [h2, if_neg (by omega), zb_wi_1 (by omega), if_pos (by omega), if_pos (by omega), Int.toNat_natCast, Int.toNat_natCast, b1, b3, n3, zb_wi_sub (by omega) (by omega), if_pos (by omega)]
    obtain ⟨lk, k1, k2⟩ := hlk
    obtain ⟨r, g1, g2⟩ := zb_f169i hN0 hX (by omega) ha he hn hlet _ 0 lk rfl (by omega) (by omega : (lk = 1 ∧ L k = e - a) ∨ lk = 0)
    rw [show ((0 : Nat) : Int) = 0 from rfl] at g1
    rw [g1] at k2
    rcases g2 with ⟨g2, g3, g4⟩ | ⟨g2, g3⟩
    · subst g2
      refine Or.inl ⟨k, Or.inl ⟨k, Nat.le_refl _, by omega, ⟨by omega, fun i hi => g4 i (by omega) hi⟩, fun y y1 y2 => by omega, rfl⟩, lp_inr k2⟩
    · subst g2
      have hnm : ¬ zb_MT C L a e k := by
        rintro ⟨z1, z2⟩
        exact g3 ⟨by omega, fun j j1 j2 => z2 j j2⟩
      have hl := lp_inl k2
      have ext : ∀ r : Int, zb_FN C L a e N (k + 1) r → zb_FN C L a e N k r := by
        intro r hr
        rcases hr with ⟨x, x1, x2, x3, x4, x5⟩ | ⟨g2, g3⟩
        · refine Or.inl ⟨x, by omega, x2, x3, fun y y1 y2 => ?_, x5⟩
          by_cases hy : y = k
          · rw [hy]; exact hnm
          · exact x4 y (by omega) y2
        · refine Or.inr ⟨g2, fun y y1 y2 => ?_⟩
          by_cases hy : y = k
          · rw [hy]; exact hnm
          · exact g3 y (by omega) y2
      rcases ih (k + 1) (by omega) (by omega) with ⟨x, x1, x2⟩ | ⟨x1, x2⟩
      · exact Or.inl ⟨x, ext _ x1, hl.trans x2⟩
      · exact Or.inr ⟨ext _ x1, hl.trans x2⟩
theorem zb_FN_uniq {C : eM} {L : Nat → Nat} {a e N k : Nat} {r t : Int} (h1 : zb_FN C L a e N k r) (h2 : zb_FN C L a e N k t) : r = t := by
  rcases h1 with ⟨x, x1, x2, x3, x4, x5⟩ | ⟨x1, x2⟩
  · rcases h2 with ⟨y, y1, y2, y3, y4, y5⟩ | ⟨y1, y2⟩
    · by_cases h : x < y
      · exact absurd x3 (y4 x x1 h)
      · by_cases h' : y < x
        · exact absurd y3 (x4 y y1 h')
        · omega
    · exact absurd x3 (y2 x x1 x2)
  · rcases h2 with ⟨y, y1, y2, y3, y4, y5⟩ | ⟨y1, y2⟩
    · exact absurd y3 (x2 y y1 y2)
    · omega
theorem zb_NM_le {C R : eM} {N : Nat} {L B : Nat → Nat} (hN : zb_NM C R N L B) {k : Nat} : ∀ j, k + j ≤ N → B k ≤ B (k + j) := by
  obtain ⟨_, h5, h6, h7⟩ := hN
  intro j
  induction j with
  | zero => intro _; exact Nat.le_refl _
  | succ j ih =>
    intro hj
    have := (h7 (k + j) (by omega)).2.2.1
    have := ih (by omega)
    rw [← Nat.add_assoc]; omega
theorem zb_cp_step {M : eM} {a b zb_sp dp i : Nat} (hab : a ≠ b) : eg_u (eg_cp M a b zb_sp dp i) b (dp + i) ((eg_cp M a b zb_sp dp i) a (zb_sp + i)) = eg_cp M a b zb_sp dp (i + 1) := by
  funext x j
  unfold eg_u eg_cp
  by_cases h : x = b ∧ j = dp + i
  · obtain ⟨rfl, rfl⟩ := h
    rw [if_pos ⟨rfl, rfl⟩, if_neg (fun z => hab z.1), if_pos ⟨rfl, by omega, by omega⟩]
    congr 1; omega
  · rw [if_neg h]
    by_cases h2 : x = b ∧ dp ≤ j ∧ j < dp + i
    · rw [if_pos h2, if_pos ⟨h2.1, h2.2.1, by omega⟩]
    · rw [if_neg h2, if_neg (fun z => h2 ⟨z.1, z.2.1, by
        by_cases hj : j = dp + i
        · exact absurd ⟨z.1, hj⟩ h
        · omega⟩)]
theorem zb_cp_0 {M : eM} {a b zb_sp dp : Nat} : eg_cp M a b zb_sp dp 0 = M := by
  funext x j
  unfold eg_cp
  rw [if_neg (by omega)]
theorem zb_f169e {M : eM} {N a e n b : Nat} (h2 : M 45 7 = (N : Int)) (hb : M 48 N = (b : Int)) (hN : N < 444) (hb2 : b ≤ 20 * N) (ha : a < e) (hea : e - a ≤ 20) (he : e ≤ n) (hn : n ≤ 3000) : ∀ (m i : Nat), (e - a) - i = m → i ≤ e - a →
    lp (fun z => fn_169_70 (a : Int) (e : Int) ((e - a : Nat) : Int) z.1 z.2) ((i : Int), eg_cp M 46 47 a b i) = some ((N : Int), eg_u (eg_u (eg_cp M 46 47 a b (e - a)) 48 (N + 1) ((b + (e - a) : Nat) : Int)) 45 7 ((N + 1 : Nat) : Int)) := by
  intro m
  induction m with
  | zero =>
    intro i hm hi
    have : i = e - a := by omega
    subst this
    refine lp2_inr ?_
    unfold fn_169_70
    rw [show (eg_cp M 46 47 a b (e - a)) 45 7 = M 45 7 from rfl, show ∀ x, (eg_cp M 46 47 a b (e - a)) 48 x = M 48 x from fun _ => rfl, h2, if_pos (by omega), if_pos (by omega), zb_wi_1 (by omega), if_pos (by omega), Int.toNat_natCast, Int.toNat_natCast, hb, zb_wi_add (by omega), zb_wi_m1 (by omega) (by omega), Nat.add_sub_cancel]
  | succ m ih =>
    intro i hm hi
    have e1 : fn_169_70 (a : Int) (e : Int) ((e - a : Nat) : Int) (i : Int) (eg_cp M 46 47 a b i) = some (.inl (((i + 1 : Nat) : Int), eg_cp M 46 47 a b (i + 1))) := by
      unfold fn_169_70
      rw [show (eg_cp M 46 47 a b i) 45 7 = M 45 7 from rfl, show ∀ x, (eg_cp M 46 47 a b i) 48 x = M 48 x from fun _ => rfl, h2, if_neg (by omega), if_pos (by omega), zb_wi_add (a := a) (b := i) (by omega), if_pos (by omega), Int.toNat_natCast, Int.toNat_natCast, hb, zb_wi_add (a := b) (b := i) (by omega), if_pos (by omega), Int.toNat_natCast, zb_wi_1 (by omega), zb_cp_step (by decide)]
    rw [lp2_inl e1]
    exact ih (i + 1) (by omega) (by omega)
theorem zb_f53 {C : eM} {N a e n : Nat} (h1 : C 1 2 = (N : Int)) (hN : N < 444) (ha : a < e) (hea : e - a ≤ 20) (he : e ≤ n) (hn : n ≤ 3000) : fn_53 (a : Int) (e : Int) C = some ((N : Int), eg_u (eg_u (eg_cp C 8 2 a (20 * N) (e - a)) 3 N ((e - a : Nat) : Int)) 1 2 ((N + 1 : Nat) : Int)) := by
  unfold fn_53
  have w1 : ((N : Nat) : Int) * 20 = ((20 * N : Nat) : Int) := by omega
  rw [h1, if_neg (by omega), zb_wi_sub (by omega) (by omega), if_pos (by omega), w1, eg_wi_id (n := ((20 * N : Nat) : Int)) (by omega) (by omega), if_pos (by omega), if_pos (by omega)]
  simp only [Int.toNat_natCast]
  rw [zb_wi_1 (by omega), zb_wi_m1 (by omega) (by omega), Nat.add_sub_cancel]
def zb_NC (C : eM) (N a l : Nat) : eM := eg_u (eg_u (eg_cp C 8 2 a (20 * N) l) 3 N (l : Int)) 1 2 ((N + 1 : Nat) : Int)
def zb_NR (R : eM) (N a b l : Nat) : eM := eg_u (eg_u (eg_cp R 46 47 a b l) 48 (N + 1) ((b + l : Nat) : Int)) 45 7 ((N + 1 : Nat) : Int)
theorem zb_NM_new {C R : eM} {N a l n : Nat} {L B : Nat → Nat} (hN : zb_NM C R N L B) (hX : zb_tx C R n) (h444 : N < 444) (hl : l ≤ 20) (ha : a + l ≤ n) (hlet : ∀ j, a ≤ j → j < a + l → 0 ≤ C 8 j) : zb_NM (zb_NC C N a l) (zb_NR R N a (B N) l) (N + 1) (fun k => if k = N then l else L k) (fun k => if k = N + 1 then B N + l else B k) := by
  have hN0 := hN
  obtain ⟨⟨h1, h2, h3, h4⟩, h5, h6, h7⟩ := hN
  obtain ⟨b1, b2⟩ := h6 N (Nat.le_refl _)
  refine ⟨⟨rfl, rfl, by omega, by omega⟩, ?_, fun k hk => ?_, fun k hk => ?_⟩
  · dsimp only; rw [if_neg (by omega)]; exact h5
  · by_cases hq : k = N + 1
    · subst hq
      dsimp only
      rw [if_pos rfl]
      refine ⟨?_, by omega⟩
      simp [zb_NR, eg_u]
    · dsimp only
      rw [if_neg hq]
      obtain ⟨x1, x2⟩ := h6 k (by omega)
      refine ⟨?_, x2⟩
      rw [← x1]; simp [zb_NR, eg_u, eg_cp, hq]
  · by_cases hq : k = N
    · subst hq
      dsimp only
      rw [if_pos rfl, if_pos rfl, if_neg (by omega)]
      refine ⟨by simp [zb_NC, eg_u], hl, rfl, fun i hi => ?_⟩
      have hc : zb_NC C k a l 2 (20 * k + i) = C 8 (a + i) := by
        simp only [zb_NC, eg_u, eg_cp]
        rw [if_neg (by omega), if_neg (by omega), if_pos ⟨trivial, by omega, by omega⟩]
        congr 1; omega
      have hr : zb_NR R k a (B k) l 47 (B k + i) = R 46 (a + i) := by
        simp only [zb_NR, eg_u, eg_cp]
        rw [if_neg (by omega), if_neg (by omega), if_pos ⟨trivial, by omega, by omega⟩]
        congr 1; omega
      have x := hX (a + i) (by omega)
      have x4 := hlet (a + i) (by omega) (by omega)
      rw [hc, hr, x.2.2, Int.emod_eq_of_lt x4 (Int.lt_trans x.2.1 (by decide))]
      exact ⟨rfl, x4, x.2.1⟩
    · obtain ⟨x1, x2, x3, x4⟩ := h7 k (by omega)
      dsimp only
      rw [if_neg hq, if_neg (by omega), if_neg (by omega)]
      have hBk : B (k + 1) ≤ B N := by
        have := zb_NM_le hN0 (k := k + 1) (N - (k + 1)) (by omega)
        rw [show k + 1 + (N - (k + 1)) = N by omega] at this
        exact this
      refine ⟨?_, x2, x3, fun i hi => ?_⟩
      · rw [← x1]; simp [zb_NC, eg_u, eg_cp, hq]
      · have hc : zb_NC C N a l 2 (20 * k + i) = C 2 (20 * k + i) := by
          simp only [zb_NC, eg_u, eg_cp]
          rw [if_neg (by omega), if_neg (by omega), if_neg (by omega)]
        have hr : zb_NR R N a (B N) l 47 (B k + i) = R 47 (B k + i) := by
          simp only [zb_NR, eg_u, eg_cp]
          rw [if_neg (by omega), if_neg (by omega), if_neg (by omega)]
        rw [hc, hr]; exact x4 i hi
theorem zb_vk_more {c k v : Int} {N N' : Nat} (h : zb_vk c k v N) (hN : N ≤ N') : zb_vk c k v N' := by unfold zb_vk at h ⊢; omega
theorem zb_VK_more {C R : eM} {F S N N' : Nat} (h : zb_VK C R F S N) (hN : N ≤ N') : zb_VK C R F S N' := fun c h1 h2 => zb_vk_more (h c h1 h2) hN
theorem zb_tok_name {C0 R0 C R : eM} {n F S zb_lv a e N : Nat} {D E op L B : Nat → Nat} (h : zb_STT C0 R0 C R n F S zb_lv a D E op N L B) (ht : zb_TK R zb_lv op) (ha : a < e) (he : e ≤ n) (h20 : e - a ≤ 20) (hlet : ∀ j, a ≤ j → j < e → 0 ≤ C 8 j) :
    ∃ C' R' f, fn_50 (e : Int) C = some C' ∧ fn_168_135 (a : Int) (eg_u R 45 3 (e : Int)) = some (f, R') ∧ zb_TOK C0 R0 n F a N C' R' f := by
  have hx := zb_STT_at h he
  have zb_hS := h
  obtain ⟨hR, hB, hV, hN, f1, f2, f3⟩ := h
  have hR0 := hR
  obtain ⟨⟨⟨p1, p2, p3⟩, ⟨q1, q2, q3⟩, ⟨s1, s2, s3, s4, s5, s6, s7⟩, l1, l2⟩, hX, hT, zb_hO, hOM, hD⟩ := hR
  have hN1 := hN.1
  have he3 : 0 ≤ (a : Int) ∧ (a : Int) < 3000 := by omega
  obtain ⟨r, c51, hF⟩ := zb_f51 hN ha he p3 _ 0 rfl (Nat.zero_le _)
  have c51' : fn_51 (C 7 7) (e : Int) C = some r := by rw [q1]; exact c51
  have e38 : ∀ x : Nat, x < 444 → ∀ M : eM, fn_38 (x : Int) M = some (8589934592 + (x : Int)) := fun x hx M => by
    unfold fn_38; rw [zb_lor_sym (by omega) (by omega)]
  have hr : (∃ x : Nat, r = (x : Int) ∧ x < N) ∨ r = -1 := by
    rcases hF with ⟨x, _, x2, _, _, x5⟩ | ⟨x1, _⟩
    · exact Or.inl ⟨x, x5, x2⟩
    · exact Or.inr x1
  by_cases zb_room : S < F + 2000 ∧ S < 20000
  · -- there is zb_room
    have hx1 := hx.1
    obtain ⟨R1, g1, g2, g3, g4⟩ := zb_add_ok (zb_cv := 8589934592 + r) (rk := 3) (zb_rv := 0) (e := (a : Int)) hx.1 zb_room (by decide) he3
    have g3' := g3
    obtain ⟨a53, a54, a51, a52, a55, a21, a22, a49, a50, a56, a16, a45, aF⟩ := g3'
    have hTK2 : zb_TK2 R1 zb_lv op := zb_TK_add g3 (fun i hi h1 => ht i hi h1) (fun i hi => (zb_hO.2 i hi).2.1) (zb_OP_inj zb_hO)
    have x46 : R1 46 = R 46 := aF 46 (by decide)
    have x47 : R1 47 = R 47 := aF 47 (by decide)
    have x48 : R1 48 = R 48 := aF 48 (by decide)
    have x7 : R1 45 7 = R 45 7 := a45 7 (by decide) (by decide) (by decide)
    have x3 : R1 45 3 = (e : Int) := a45 3 (by decide) (by decide) (by decide)
    have x2 : R1 45 2 = -1 := (a45 2 (by decide) (by decide) (by decide)).trans f3
    have hNM1 : zb_NM C R1 N L B := by
      obtain ⟨⟨h1, h2, h3, h4⟩, h5, h6, h7⟩ := hN
      exact ⟨⟨h1, by rw [x7]; exact h2, h3, h4⟩, h5, by rw [x48]; exact h6, by rw [x47]; exact h7⟩
    have hX1 : zb_tx C R1 n := fun i hi => by rw [x46]; exact hX i hi
    have hs := zb_f169s hNM1 hX1 ha he p3 hlet _ 0 rfl (Nat.zero_le _)
    have c1 : ∀ zb_cv : Int, fn_36 zb_cv (a : Int) C = some (1, zb_AC C F S zb_lv zb_cv (a : Int)) := fun zb_cv => zb_f36_ok s1 s3 l1 s5 zb_room.1 zb_room.2 zb_hO.1
    have e169 : fn_169 (a : Int) (e : Int) R1 = lp (fn_169_6 (a : Int) (e : Int) ((e - a : Nat) : Int) R1) 0 := by
      unfold fn_169; rw [zb_wi_sub (by omega) (by omega)]
    have e135 : ∀ (y : Int) (M : eM), fn_169 (a : Int) (e : Int) R1 = some (y, M) → fn_168_135 (a : Int) (eg_u R 45 3 (e : Int)) = fn_168_150 (a : Int) 0 y M := by
      intro y M hy
      unfold fn_168_135
      rw [g2, Option.bind_some, if_pos (by show (0 : Int) ≤ 0; decide)]
      dsimp only
      rw [x3, hy]; rfl
    rcases hr with ⟨x, hrx, hxN⟩ | hr1
    · -- the name is known
      subst hrx
      have hy : fn_169 (a : Int) (e : Int) R1 = some ((x : Int), R1) := by
        rw [e169]
        rcases hs with ⟨y, y1, y2⟩ | ⟨y1, _⟩
        · have := zb_FN_uniq hF y1
          rw [this]; exact y2
        · have := zb_FN_uniq hF y1; omega
      have hBL := zb_BL_add (zb_cv := 8589934592 + (x : Int)) hx.1 hx.2.1 g3
      have hVK := zb_VK_add (zb_cv := 8589934592 + (x : Int)) (F := F) g3 hx.2.2.1
      have hNM := zb_NM_add (zb_cv := 8589934592 + (x : Int)) (F := F) hx.2.2.2.1 g3
      have st : zb_STT C0 R0 (zb_AC (eg_u C 7 7 (e : Int)) F S zb_lv (8589934592 + (x : Int)) (a : Int)) (eg_u R1 50 S (x : Int)) n F (S + 1) zb_lv e (zb_DA D S zb_lv) (zb_EA D E F S zb_lv) op N L B := by
        refine ⟨g4, fun c hc => ?_, zb_VK_snoc (fun c h1 h2 => ?_) ?_, hNM, f1, f2, x2⟩
        · obtain ⟨y, z1, z2, z⟩ := hBL c hc
          refine ⟨y, z1, ?_, z⟩
          rw [← z2]; simp [eg_u]; omega
        · have := hVK c h1 h2
          have e50 : (eg_u R1 50 S (x : Int)) 50 c = R1 50 c := by simp [eg_u]; omega
          rw [e50]; exact this
        · rw [zb_AC_4, show (eg_u R1 50 S (x : Int)) 50 S = (x : Int) by simp [eg_u], show (eg_u R1 50 S (x : Int)) 49 S = R1 49 S from rfl, a49, if_pos rfl]
          unfold zb_vk; omega
      obtain ⟨lv', C', R', k1, k2, k3, k4⟩ := zb_STT_ticks st hTK2
      refine ⟨C', R', 0, ?_, ?_, Or.inl ⟨rfl, S + 1, lv', e, _, _, op, N, L, B, k3, k4, ha, Nat.le_refl _⟩⟩
      · unfold fn_50
        rw [c51', Option.bind_some, if_pos (by omega), e38 x (by omega), Option.bind_some]
        unfold fn_45
        rw [q1, c1, Option.bind_some, if_neg (by show ¬ (1 : Int) = 0; decide)]
        dsimp only
        rw [zb_AC_at, k1]; rfl
      · rw [e135 _ _ hy]
        unfold fn_168_150
        rw [if_pos (by omega), if_neg (by decide), a16, zb_wi_m1 (by omega) (by omega), Nat.add_sub_cancel, if_pos (by omega), Int.toNat_natCast, k2]; rfl
    · subst hr1
      by_cases h444 : N = 444
      · -- no zb_room for names
        have hy : fn_169 (a : Int) (e : Int) R1 = some (-1, R1) := by
          rw [e169]
          rcases hs with ⟨y, y1, y2⟩ | ⟨y1, y2⟩
          · have := zb_FN_uniq hF y1; omega
          · rw [if_pos h444] at y2; exact y2
        have hBL := zb_BL_add (zb_cv := 8589934592 + (-1)) hx.1 hx.2.1 g3
        refine ⟨eg_u (eg_u C 7 4 2) 7 5 (a : Int), eg_u R1 45 2 (a : Int), 2, ?_, ?_, Or.inr ⟨Or.inr rfl, rfl, ⟨rfl, Int.natCast_nonneg _⟩, fun c hc => ⟨(hB c hc).1, (hBL c hc).2⟩, N, L, B, hNM1, Nat.le_refl _⟩⟩
        · have e37 : fn_37 C = some 1 := by
            unfold fn_37
            rw [s1, s3, zb_wi_sub s5 (by omega), if_neg (by omega), if_neg (by omega)]
          have e53 : fn_53 (a : Int) (e : Int) C = some (-1, C) := by
            unfold fn_53
            rw [hN1.1, if_pos (by omega)]
          unfold fn_50
          rw [c51', Option.bind_some, if_neg (by decide), e37, Option.bind_some, if_neg (by decide), q1, e53, Option.bind_some, if_neg (by show ¬ (0 : Int) ≤ -1; decide)]
          dsimp only
          rw [q1]; rfl
        · rw [e135 _ _ hy]
          unfold fn_168_150
          rw [if_neg (by decide)]; rfl
      · -- a new name
        have hN4 : N < 444 := by omega
        obtain ⟨b1, b2⟩ := hNM1.2.2.1 N (Nat.le_refl _)
        have hy : fn_169 (a : Int) (e : Int) R1 = some ((N : Int), zb_NR R1 N a (B N) (e - a)) := by
          rw [e169]
          rcases hs with ⟨y, y1, y2⟩ | ⟨y1, y2⟩
          · have := zb_FN_uniq hF y1; omega
          · rw [if_neg h444] at y2
            have := zb_f169e hNM1.1.2.1 b1 hN4 b2 ha h20 he p3 _ 0 rfl (Nat.zero_le _)
            rw [zb_cp_0] at this
            exact y2.trans this
        have e53 := zb_f53 hN1.1 hN4 ha h20 he p3
        have c2 : ∀ zb_cv : Int, fn_36 zb_cv (a : Int) (zb_NC C N a (e - a)) = some (1, zb_AC (zb_NC C N a (e - a)) F S zb_lv zb_cv (a : Int)) := fun zb_cv => zb_f36_ok s1 s3 l1 s5 zb_room.1 zb_room.2 zb_hO.1
        have hBL := zb_BL_add (zb_cv := 8589934592 + (-1)) hx.1 hx.2.1 g3
        have hVK := zb_VK_add (zb_cv := 8589934592 + (-1)) (F := F) g3 hx.2.2.1
        have hnm := zb_NM_new hNM1 hX1 hN4 h20 (by omega) (fun j j1 j2 => hlet j j1 (by omega))
        have hBL2 : zb_BL C0 R0 (zb_AC (eg_u (zb_NC C N a (e - a)) 7 7 (e : Int)) F S zb_lv (8589934592 + (N : Int)) (a : Int)) (eg_u (zb_NR R1 N a (B N) (e - a)) 50 S (N : Int)) F := by
          intro c hc
          obtain ⟨y, z1, z2, z⟩ := hBL c hc
          obtain ⟨⟨y1, y2, y3⟩, _⟩ := hB c hc
          have hcS : c ≠ S := by omega
          refine ⟨⟨?_, ?_, ?_⟩, z1, ?_, z⟩
          · rw [← y1]; simp [zb_AC, zb_NC, eg_u, eg_cp, hcS]
          · rw [← y2]; simp [zb_AC, zb_NC, eg_u, eg_cp, hcS]
          · rw [← y3]; simp [zb_AC, zb_NC, eg_u, eg_cp, hcS]
          · rw [← z2]; simp [zb_NR, eg_u, eg_cp, hcS]
        have hVK2 : zb_VK (zb_AC (eg_u (zb_NC C N a (e - a)) 7 7 (e : Int)) F S zb_lv (8589934592 + (N : Int)) (a : Int)) (eg_u (zb_NR R1 N a (B N) (e - a)) 50 S (N : Int)) F (S + 1) (N + 1) := by
          refine zb_VK_snoc (fun c h1 h2 => ?_) ?_
          · have := zb_vk_more (hVK c h1 h2) (Nat.le_succ N)
            have hcS : c ≠ S := by omega
            have e4 : zb_AC (eg_u (zb_NC C N a (e - a)) 7 7 (e : Int)) F S zb_lv (8589934592 + (N : Int)) (a : Int) 4 c = zb_AC (eg_u C 7 7 (e : Int)) F S zb_lv (8589934592 + (-1)) (a : Int) 4 c := by
              simp [zb_AC, zb_NC, eg_u, eg_cp, hcS]
            have e50 : (eg_u (zb_NR R1 N a (B N) (e - a)) 50 S (N : Int)) 50 c = R1 50 c := by simp [zb_NR, eg_u, eg_cp, hcS]
            rw [e4, e50]; exact this
          · rw [zb_AC_4, show (eg_u (zb_NR R1 N a (B N) (e - a)) 50 S (N : Int)) 50 S = (N : Int) by simp [eg_u], show (eg_u (zb_NR R1 N a (B N) (e - a)) 50 S (N : Int)) 49 S = R1 49 S from rfl, a49, if_pos rfl]
            unfold zb_vk; omega
        have hRS2 : zb_RS (zb_AC (eg_u (zb_NC C N a (e - a)) 7 7 (e : Int)) F S zb_lv (8589934592 + (N : Int)) (a : Int)) (eg_u (zb_NR R1 N a (B N) (e - a)) 50 S (N : Int)) n F (S + 1) zb_lv e (zb_DA D S zb_lv) (zb_EA D E F S zb_lv) op := by
          obtain ⟨P, X, T, O, OM9, DM9⟩ := g4
          exact ⟨P, X, T, O, OM9, fun c hc1 hc2 => DM9 c hc1 hc2⟩
        have st : zb_STT C0 R0 (zb_AC (eg_u (zb_NC C N a (e - a)) 7 7 (e : Int)) F S zb_lv (8589934592 + (N : Int)) (a : Int)) (eg_u (zb_NR R1 N a (B N) (e - a)) 50 S (N : Int)) n F (S + 1) zb_lv e (zb_DA D S zb_lv) (zb_EA D E F S zb_lv) op (N + 1) (fun k => if k = N then e - a else L k) (fun k => if k = N + 1 then B N + (e - a) else B k) :=
          ⟨hRS2, hBL2, hVK2, hnm, f1, f2, x2⟩
        obtain ⟨lv', C', R', k1, k2, k3, k4⟩ := zb_STT_ticks st (fun i hi h1 => hTK2 i hi h1)
        refine ⟨C', R', 0, ?_, ?_, Or.inl ⟨rfl, S + 1, lv', e, _, _, op, N + 1, _, _, k3, k4, ha, by omega⟩⟩
        · have e37 : fn_37 C = some 1 := by
            unfold fn_37
            rw [s1, s3, zb_wi_sub s5 (by omega), if_neg (by omega), if_neg (by omega)]
          unfold fn_50
          rw [c51', Option.bind_some, if_neg (by decide), e37, Option.bind_some, if_neg (by decide), q1, e53, Option.bind_some, if_pos (by show (0 : Int) ≤ (N : Int); omega)]
          dsimp only
          rw [e38 N (by omega), Option.bind_some]
          unfold fn_45
          show ((fn_36 (8589934592 + (N : Int)) (C 7 7) (zb_NC C N a (e - a))).bind _).bind _ = _
          rw [q1, c2, Option.bind_some, if_neg (by show ¬ (1 : Int) = 0; decide)]
          dsimp only
          rw [zb_AC_at, k1]; rfl
        · rw [e135 _ _ hy]
          unfold fn_168_150
          rw [if_pos (by omega), if_neg (by decide), show (zb_NR R1 N a (B N) (e - a)) 45 16 = R1 45 16 from rfl, a16, zb_wi_m1 (by omega) (by omega), Nat.add_sub_cancel, if_pos (by omega), Int.toNat_natCast, k2]; rfl
  · -- there is none
    have k2 := (zb_add_full (zb_cv := 0) (rk := 3) (zb_rv := 0) (e := (a : Int)) hx.1 zb_room).2
    refine ⟨eg_u (eg_u C 7 4 2) 7 5 (a : Int), eg_u (eg_u R 45 3 (e : Int)) 45 2 (a : Int), 2, ?_, ?_, Or.inr ⟨Or.inr rfl, rfl, ⟨rfl, Int.natCast_nonneg _⟩, hB, N, L, B, hN, Nat.le_refl _⟩⟩
    · unfold fn_50
      rw [c51', Option.bind_some]
      rcases hr with ⟨x, hrx, hxN⟩ | hr1
      · subst hrx
        rw [if_pos (by omega), e38 x (by omega), Option.bind_some]
        unfold fn_45
        rw [q1, (zb_add_full (zb_cv := 8589934592 + (x : Int)) (rk := 3) (zb_rv := 0) (e := (a : Int)) hR0 zb_room).1]; rfl
      · subst hr1
        have e37 : fn_37 C = some 0 := by
          unfold fn_37
          rw [s1, s3, zb_wi_sub s5 (by omega)]
          by_cases h : S < F + 2000
          · rw [if_neg (by omega), if_pos (by omega)]
          · rw [if_pos (by omega)]
        rw [if_neg (by decide), e37, Option.bind_some, if_pos rfl, q1]; rfl
    · unfold fn_168_135
      rw [k2, Option.bind_some, if_neg (by show ¬ (2 : Int) ≤ 0; decide)]
      unfold fn_168_150
      rw [if_pos (by decide), if_pos (by show ¬ (2 : Int) = 0; decide)]
      dsimp only
      rw [zb_ticks_stop (R2 := eg_u (eg_u R 45 3 (e : Int)) 45 2 (a : Int)) hR0 ht rfl rfl rfl rfl]; rfl
theorem zb_tok_word {C0 R0 C R : eM} {n F S zb_lv a N : Nat} {D E op L B : Nat → Nat} (h : zb_STT C0 R0 C R n F S zb_lv a D E op N L B) (ht : zb_TK R zb_lv op) (ha : a < n) (hl : zb_isL (C 8 a)) :
    ∃ C' R' f, fn_46 C = some C' ∧ fn_168 R = some (f, R') ∧ zb_TOK C0 R0 n F a N C' R' f := by
  have zb_hS := h
  obtain ⟨hR, hB, hV, hN, f1, f2, f3⟩ := h
  obtain ⟨⟨⟨p1, p2, p3⟩, ⟨q1, q2, q3⟩, ⟨s1, s2, s3, s4, s5, s6, s7⟩, l1, l2⟩, hX, hT, zb_hO, hOM, hD⟩ := hR
  obtain ⟨e, e1, e2, e3, e4, e5, e6⟩ := zb_word_end (a := a) p1 p2 p3 hX _ a rfl q3
  have hae : a < e := by
    by_cases hq : a = e
    · rw [← hq] at e4; exact absurd ⟨ha, hl⟩ e4
    · omega
  have hlet : ∀ j, a ≤ j → j < e → 0 ≤ C 8 j := fun j j1 j2 => by
    have := e3 j j1 j2
    unfold zb_isL at this; omega
  have hc : fn_46 C = fn_46_13 (e : Int) C := by
    unfold fn_46; rw [q1]; exact e5
  have x45 : (R 46 a = 45) = (C 8 a = 45) := by
    obtain ⟨x1, x2, x3⟩ := hX a ha
    apply propext; omega
  have hr := e6 _ (zb_word_ref p2 p3 hX hae e2 e4)
  simp only [zb_eg_u_self q2, x45] at hr
  have hr' : fn_168 R = lp (fn_168_3 (a : Int)) R := by
    unfold fn_168; rw [q2]
  rw [hc, hr', hr, zb_word_cls q1 p3 hae e2]
  clear hc hr hr' e5 e6
  have main : ∀ mi : Bool, (mi = true → 1 < e - a) → ∃ C' R' f, fn_46_40 (e : Int) (if mi then 1 else 0) ((if mi then a + 1 else a : Nat) : Int) C = some C' ∧ lp (fun z => fn_168_40 (a : Int) ((e - a : Nat) : Int) ((if mi then a + 1 else a : Nat) : Int) (eg_u R 45 3 (e : Int)) z.1 z.2.1 z.2.2) (1, 0, ((if mi then a + 1 else a : Nat) : Int)) = some (f, R') ∧ zb_TOK C0 R0 n F a N C' R' f := by
    intro mi hmi
    have hf : (if mi then a + 1 else a) ≤ e := by cases mi <;> simp <;> omega
    obtain ⟨b, b1, b2⟩ := zb_f47 (C := C) (x := ((if mi then a + 1 else a : Nat) : Int)) (e := e) (by omega) _ (if mi then a + 1 else a) rfl hf
    have b1' : fn_47 ((if mi then a + 1 else a : Nat) : Int) (e : Int) C = some b := b1
    rcases b2 with ⟨hb, hd⟩ | ⟨hb, hd⟩
    · obtain ⟨C', R', f, t1, t2, t3⟩ := zb_tok_number zb_hS ht hae e2 mi hd hmi
      refine ⟨C', R', f, ?_, t2, t3⟩
      unfold fn_46_40
      rw [b1', Option.bind_some, if_neg (by omega), t1]; rfl
    · have fail : ∃ C' R' f, some (eg_u (eg_u C 7 4 1) 7 5 (a : Int)) = some C' ∧ (some (1, eg_u (eg_u R 45 3 (e : Int)) 45 2 (a : Int)) : Option (Int × eM)) = some (f, R') ∧ zb_TOK C0 R0 n F a N C' R' f :=
        ⟨_, _, 1, rfl, rfl, Or.inr ⟨Or.inl rfl, rfl, ⟨rfl, Int.natCast_nonneg _⟩, hB, N, L, B, hN, Nat.le_refl _⟩⟩
      obtain ⟨x1, x2, x3⟩ := hX a ha
      have hdig : (48 ≤ R 46 a ∧ R 46 a ≤ 57) ↔ (48 ≤ C 8 a ∧ C 8 a ≤ 57) := by omega
      by_cases hbad : 20 < e - a ∨ (48 ≤ C 8 a ∧ C 8 a ≤ 57)
      · have hx : lp (fun z => fn_168_40 (a : Int) ((e - a : Nat) : Int) ((if mi then a + 1 else a : Nat) : Int) (eg_u R 45 3 (e : Int)) z.1 z.2.1 z.2.2) (1, 0, ((if mi then a + 1 else a : Nat) : Int)) = some (1, eg_u (eg_u R 45 3 (e : Int)) 45 2 (a : Int)) := by
          refine zb_f168n hX e2 p3 (fun v => ?_) _ _ 0 rfl hf hd
          unfold fn_168_40
          rw [if_pos (by show (e : Int) ≤ (e : Int); omega), if_pos rfl]
          by_cases h20 : 20 < e - a
          · rw [if_pos (by omega)]; rfl
          · rw [if_neg (by omega), if_pos (by omega), Int.toNat_natCast, if_neg (by show ¬ R 46 a < 48; omega), if_neg (by show ¬ 57 < R 46 a; omega)]; rfl
        rw [hx]
        have hc : fn_46_40 (e : Int) (if mi then 1 else 0) ((if mi then a + 1 else a : Nat) : Int) C = some (eg_u (eg_u C 7 4 1) 7 5 (a : Int)) := by
          unfold fn_46_40
          rw [b1', Option.bind_some, if_pos (by omega), q1, zb_f43 (by omega), Option.bind_some]
          by_cases hdg : 48 ≤ C 8 a ∧ C 8 a ≤ 57
          · rw [if_pos hdg, if_pos (by decide)]; rfl
          · rw [if_neg hdg, if_neg (by decide), zb_wi_sub (by omega) (by omega), if_neg (by omega)]; rfl
        rw [hc]; exact fail
      · obtain ⟨C', R', f, t1, t2, t3⟩ := zb_tok_name zb_hS ht hae e2 (by omega) hlet
        refine ⟨C', R', f, ?_, ?_, t3⟩
        · unfold fn_46_40
          rw [b1', Option.bind_some, if_pos (by omega), q1, zb_f43 (by omega), Option.bind_some, if_neg (show ¬ (48 ≤ C 8 a ∧ C 8 a ≤ 57) by omega), if_neg (by decide), zb_wi_sub (by omega) (by omega), if_pos (by omega), t1]; rfl
        · rw [← t2]
          refine zb_f168n hX e2 p3 (fun v => ?_) _ _ 0 rfl hf hd
          unfold fn_168_40
          rw [if_pos (by show (e : Int) ≤ (e : Int); omega), if_pos rfl, if_neg (by omega), if_pos (by omega), Int.toNat_natCast]
          by_cases h48 : R 46 a < 48
          · rw [if_pos (by exact h48)]
          · rw [if_neg (by exact h48), if_pos (by show 57 < R 46 a; omega)]
  by_cases hm : C 8 a = 45 ∧ 1 < e - a
  · rw [if_pos hm, if_pos hm]
    exact main true (fun _ => hm.2)
  · rw [if_neg hm, if_neg hm]
    exact main false (fun z => by cases z)
theorem zb_tok_all {C0 R0 C R : eM} {n F S zb_lv a N : Nat} {D E op L B : Nat → Nat} (h : zb_STT C0 R0 C R n F S zb_lv a D E op N L B) (ht : zb_TK R zb_lv op) (ha : a < n) :
    (∃ C' R' f, fn_32 C = some C' ∧ fn_159 R = some (f, R') ∧ zb_TOK C0 R0 n F a N C' R' f)
    ∨ (∃ a' : Nat, a < a' ∧ a' < n ∧ (C 8 a' < 32 ∨ 126 < C 8 a') ∧ C 8 a' ≠ 10 ∧ fn_32 C = some (eg_u C 7 7 (a' : Int)) ∧ fn_159 R = some (1, eg_u (eg_u R 45 3 (a' : Int)) 45 2 (a' : Int))) := by
  have zb_hS := h
  obtain ⟨hR, hB, hV, hN, f1, f2, f3⟩ := h
  have hR0 := hR
  obtain ⟨⟨⟨p1, p2, p3⟩, ⟨q1, q2, q3⟩, ⟨s1, s2, s3, s4, s5, s6, s7⟩, l1, l2⟩, hX, hT, zb_hO, hOM, hD⟩ := hR
  obtain ⟨x1, x2, x3⟩ := hX a ha
  have hk : ∀ k : Int, 0 ≤ k → k < 128 → ((R 46 a = k) = (C 8 a = k)) := fun k k0 k1 => by apply propext; omega
  have fail : ∃ C' R' f, some (eg_u (eg_u C 7 4 1) 7 5 (a : Int)) = some C' ∧ (some (1, eg_u R 45 2 (a : Int)) : Option (Int × eM)) = some (f, R') ∧ zb_TOK C0 R0 n F a N C' R' f := ⟨_, _, 1, rfl, rfl, zb_tok_fail (Or.inl rfl) hB hN⟩
  have blank : ∃ C' R' f, some (eg_u C 7 7 ((a + 1 : Nat) : Int)) = some C' ∧ (some (0, eg_u R 45 3 ((a + 1 : Nat) : Int)) : Option (Int × eM)) = some (f, R') ∧ zb_TOK C0 R0 n F a N C' R' f :=
    ⟨_, _, 0, rfl, rfl, Or.inl ⟨rfl, S, zb_lv, a + 1, D, E, op, N, L, B, zb_STT_at zb_hS (by omega), ht, by omega, Nat.le_refl _⟩⟩
  unfold fn_32 fn_159
  rw [q1, q2, if_pos (show 0 ≤ (a : Int) ∧ (a : Int) < 3000 by omega), if_pos (show 0 ≤ (a : Int) ∧ (a : Int) < 3020 by omega), Int.toNat_natCast, zb_wi_1 (by omega)]
  simp only [hk 10 (by decide) (by decide), hk 32 (by decide) (by decide), hk 59 (by decide) (by decide), hk 40 (by decide) (by decide), hk 39 (by decide) (by decide), hk 35 (by decide) (by decide), hk 41 (by decide) (by decide)]
  by_cases h10 : C 8 a = 10
  · rw [if_pos h10, if_pos h10]; exact Or.inl blank
  · rw [if_neg h10, if_neg h10]
    by_cases h32 : C 8 a = 32
    · rw [if_neg (fun z => z h32), if_neg (fun z => z h32)]; exact Or.inl blank
    · rw [if_pos h32, if_pos h32]
      by_cases h59 : C 8 a = 59
      · rw [if_neg (fun z => z h59), if_neg (fun z => z h59)]
        obtain ⟨a', g1, g2, g3, g4⟩ := zb_tok_rem (x := R 46 a) _ rfl zb_hS
        rw [g3, Option.bind_some]
        have hne : a ≠ a' := by
          intro e
          subst e
          rcases g4 with ⟨z | ⟨_, z⟩, _⟩ | ⟨_, z, _⟩ <;> omega
        rcases g4 with ⟨_, z⟩ | ⟨z1, z2, z3, z4⟩
        · left
          refine ⟨_, _, 0, rfl, z, Or.inl ⟨rfl, S, zb_lv, a', D, E, op, N, L, B, zb_STT_at zb_hS g2, ht, by omega, Nat.le_refl _⟩⟩
        · right
          exact ⟨a', by omega, z1, z2, z3, rfl, z4⟩
      · left
        rw [if_pos h59, if_pos h59]
        by_cases h40 : C 8 a = 40
        · rw [if_neg (fun z => z h40), if_neg (fun z => z h40)]
          obtain ⟨C', R', f, t1, t2, t3⟩ := zb_tok_open (t := 0) zb_hS ht ha (Or.inl rfl)
          exact ⟨C', R', f, by rw [t1]; rfl, by rw [t2]; rfl, t3⟩
        · rw [if_pos h40, if_pos h40]
          by_cases h39 : C 8 a = 39
          · rw [if_neg (fun z => z h39), if_neg (fun z => z h39)]
            obtain ⟨C', R', f, t1, t2, t3⟩ := zb_tok_open (t := 1) zb_hS ht ha (Or.inr rfl)
            exact ⟨C', R', f, by rw [t1]; rfl, by rw [t2]; rfl, t3⟩
          · rw [if_pos h39, if_pos h39]
            by_cases h35 : C 8 a = 35
            · rw [if_pos (show ¬ C 8 a = 41 by omega), if_neg (show ¬ ¬ C 8 a = 35 from fun z => z h35), if_neg (show ¬ ¬ C 8 a = 35 from fun z => z h35)]
              obtain ⟨C', R', f, t1, t2, t3⟩ := zb_tok_truth zb_hS ht ha
              exact ⟨C', R', f, by rw [t1]; rfl, by rw [t2]; rfl, t3⟩
            · rw [if_pos (show ¬ C 8 a = 35 from h35), if_pos (show ¬ C 8 a = 35 from h35)]
              obtain ⟨b', k1', k2'⟩ := zb_f166 (R := R) (c := R 46 a)
              obtain ⟨b, k1, k2⟩ := zb_f42 (C := C) (i := a) p1 p3
              have hmod := zb_isL_mod ⟨x1, x2⟩
              rw [← x3] at hmod
              rw [k1', Option.bind_some]
              by_cases hL : zb_isL (C 8 a)
              · have hb' : b' = 1 := by
                  rcases k2' with ⟨z, _⟩ | ⟨_, z⟩
                  · exact z
                  · exact absurd (hmod.mpr hL) z
                have hb : b = 1 := by
                  rcases k2 with ⟨z, _⟩ | ⟨_, z⟩
                  · exact z
                  · exact absurd ⟨ha, hL⟩ z
                have h41 : ¬ C 8 a = 41 := by unfold zb_isL at hL; omega
                rw [if_pos (show ¬ C 8 a = 41 from h41), k1, Option.bind_some, if_neg (show ¬ b = 0 by omega), if_neg (show ¬ b' = 0 by omega)]
                obtain ⟨C', R', f, t1, t2, t3⟩ := zb_tok_word zb_hS ht ha hL
                exact ⟨C', R', f, by rw [t1]; rfl, by rw [t2]; rfl, t3⟩
              · have hb' : b' = 0 := by
                  rcases k2' with ⟨_, z⟩ | ⟨z, _⟩
                  · exact absurd (hmod.mp z) hL
                  · exact z
                have hb : b = 0 := by
                  rcases k2 with ⟨_, _, z⟩ | ⟨z, _⟩
                  · exact absurd z hL
                  · exact z
                rw [if_pos hb']
                by_cases h41 : C 8 a = 41
                · rw [if_neg (show ¬ ¬ C 8 a = 41 from fun z => z h41), if_neg (show ¬ ¬ C 8 a = 41 from fun z => z h41)]
                  rcases zb_tok_close zb_hS ht ha with ⟨g1, g2⟩ | ⟨g1, g2, C', R', g3, g4, g5⟩
                  · rw [g1]
                    rcases g2 with g2 | ⟨g2, g3⟩
                    · rw [l2, if_pos (by omega)]; exact fail
                    · have := zb_hO.1
                      rw [l2, if_neg (by omega), zb_wi_m1 (by omega) (by omega), if_pos (by omega), Int.toNat_natCast, if_neg (by omega)]; exact fail
                  · have := zb_hO.1
                    rw [g3, l2, if_neg (by omega), zb_wi_m1 (by omega) (by omega), if_pos (by omega), Int.toNat_natCast, if_pos g2, g4]
                    exact ⟨C', R', 0, rfl, rfl, g5⟩
                · rw [if_pos (show ¬ C 8 a = 41 from h41), if_pos (show ¬ C 8 a = 41 from h41), k1, Option.bind_some, if_pos hb]
                  exact fail
theorem zb_rd_exit {C : eM} {x t : Int} (h : C 7 4 ≠ 0) : lp (fun z => fn_30_25 x z.1 z.2) (t, C) = some C := by
  refine lp2_inr ?_
  unfold fn_30_25
  by_cases h1 : C 7 6 ≤ t
  · rw [if_pos h1, if_pos h]
  · rw [if_neg h1]
    by_cases h2 : C 7 6 ≤ C 7 7
    · rw [if_pos h2, if_pos h]
    · rw [if_neg h2, if_pos h]
theorem zb_rd_exit2 {R : eM} {x f : Int} (h : f ≠ 0) : lp (fun z => fn_158_21 x z.1 z.2) (f, R) = some (f, R) := by
  refine lp2_inr ?_
  unfold fn_158_21
  rw [if_pos h]
def zb_RDR (C0 R0 : eM) (n F N : Nat) (C' R' : eM) (f : Int) : Prop := (f = 0 ∧ ∃ (S : Nat) (D E op : Nat → Nat) (N' : Nat) (L' B' : Nat → Nat), zb_STT C0 R0 C' R' n F S 0 n D E op N' L' B' ∧ N ≤ N') ∨ zb_FL C0 R0 C' R' F N f
theorem zb_rd_loop {C0 R0 : eM} {n F : Nat} {x : Int} : ∀ (m : Nat) {C R : eM} {S zb_lv a N t : Nat} {D E op L B : Nat → Nat}, n - a = m → t ≤ a → zb_STT C0 R0 C R n F S zb_lv a D E op N L B → zb_TK R zb_lv op →
    ∃ C' R' f, lp (fun z => fn_30_25 x z.1 z.2) ((t : Int), C) = some C' ∧ lp (fun z => fn_158_21 (n : Int) z.1 z.2) (0, R) = some (f, R') ∧ zb_RDR C0 R0 n F N C' R' f := by
  intro m
  induction m using Nat.strongRecOn with
  | ind m ih =>
    intro C R S zb_lv a N t D E op L B hm hta h ht
    have zb_hS := h
    obtain ⟨hR, hB, hV, hN, f1, f2, f3⟩ := h
    obtain ⟨⟨⟨p1, p2, p3⟩, ⟨q1, q2, q3⟩, ⟨s1, s2, s3, s4, s5, s6, s7⟩, l1, l2⟩, hX, hT, zb_hO, hOM, hD⟩ := hR
    by_cases ha : a < n
    · have stepC : ∀ C' : eM, fn_32 C = some C' → lp (fun z => fn_30_25 x z.1 z.2) ((t : Int), C) = lp (fun z => fn_30_25 x z.1 z.2) (((t + 1 : Nat) : Int), C') := by
        intro C' zb_hC
        refine lp2_inl ?_
        unfold fn_30_25
        rw [p1, q1, f1, if_neg (by omega), if_neg (by omega), if_neg (by decide), zb_hC, Option.bind_some, zb_wi_1 (by omega)]
      have stepR : ∀ (f : Int) (R' : eM), fn_159 R = some (f, R') → lp (fun z => fn_158_21 (n : Int) z.1 z.2) (0, R) = lp (fun z => fn_158_21 (n : Int) z.1 z.2) (f, R') := by
        intro f R' hr
        refine lp2_inl ?_
        unfold fn_158_21
        rw [p2, q2, if_neg (by decide), if_neg (by omega), hr]; rfl
      rcases zb_tok_all zb_hS ht ha with ⟨C', R', f, t1, t2, t3⟩ | ⟨a', z1, z2, z3, z4, z5, z6⟩
      · rw [stepC C' t1, stepR f R' t2]
        rcases t3 with ⟨hf, S', lv', a', D', E', op', N', L', B', g1, g2, g3, g4⟩ | hF
        · subst hf
          obtain ⟨C2, R2, f, k1, k2, k3⟩ := ih (n - a') (by have := g1.1.1.2.1.2.2; omega) rfl (by omega : t + 1 ≤ a') g1 g2
          refine ⟨C2, R2, f, k1, k2, ?_⟩
          rcases k3 with ⟨j1, S9, D9, E9, op9, N9, L9, B9, j2, j3⟩ | ⟨j1, j2, j3, j4, N9, L9, B9, j5, j6⟩
          · exact Or.inl ⟨j1, S9, D9, E9, op9, N9, L9, B9, j2, by omega⟩
          · exact Or.inr ⟨j1, j2, j3, j4, N9, L9, B9, j5, by omega⟩
        · have hf0 : f ≠ 0 := by rcases hF.1 with z | z <;> omega
          have hc0 : C' 7 4 ≠ 0 := by rw [hF.2.1]; exact hf0
          exact ⟨C', R', f, zb_rd_exit hc0, zb_rd_exit2 hf0, Or.inr hF⟩
      · rw [stepC _ z5, stepR _ _ z6, zb_rd_exit2 (by decide)]
        have e32 : fn_32 (eg_u C 7 7 (a' : Int)) = some (eg_u (eg_u (eg_u C 7 7 (a' : Int)) 7 4 1) 7 5 (a' : Int)) := by
          obtain ⟨b, k1, k2⟩ := zb_f42 (C := eg_u C 7 7 (a' : Int)) (i := a') (n := n) p1 p3
          have hb : b = 0 := by
            rcases k2 with ⟨_, _, z⟩ | ⟨z, _⟩
            · have z' : zb_isL (C 8 a') := z
              unfold zb_isL at z'; omega
            · exact z
          unfold fn_32
          rw [show (eg_u C 7 7 (a' : Int)) 7 7 = (a' : Int) from rfl, if_pos (show 0 ≤ (a' : Int) ∧ (a' : Int) < 3000 by omega), Int.toNat_natCast, show (eg_u C 7 7 (a' : Int)) 8 a' = C 8 a' from rfl, if_neg (show ¬ C 8 a' = 10 from z4), if_pos (show ¬ C 8 a' = 32 by omega), if_pos (show ¬ C 8 a' = 59 by omega), if_pos (show ¬ C 8 a' = 40 by omega), if_pos (show ¬ C 8 a' = 39 by omega), if_pos (show ¬ C 8 a' = 41 by omega), if_pos (show ¬ C 8 a' = 35 by omega), k1, Option.bind_some, if_pos hb]
          rfl
        have step2 : lp (fun z => fn_30_25 x z.1 z.2) (((t + 1 : Nat) : Int), eg_u C 7 7 (a' : Int)) = lp (fun z => fn_30_25 x z.1 z.2) (((t + 1 + 1 : Nat) : Int), eg_u (eg_u (eg_u C 7 7 (a' : Int)) 7 4 1) 7 5 (a' : Int)) := by
          refine lp2_inl ?_
          unfold fn_30_25
          rw [show (eg_u C 7 7 (a' : Int)) 7 6 = C 7 6 from rfl, show (eg_u C 7 7 (a' : Int)) 7 7 = (a' : Int) from rfl, show (eg_u C 7 7 (a' : Int)) 7 4 = C 7 4 from rfl, p1, f1, if_neg (by omega), if_neg (by omega), if_neg (by decide), e32, Option.bind_some, zb_wi_1 (by omega)]
        rw [step2, zb_rd_exit (by show (1 : Int) ≠ 0; decide)]
        exact ⟨_, _, 1, rfl, rfl, Or.inr ⟨Or.inl rfl, rfl, ⟨rfl, Int.natCast_nonneg _⟩, hB, N, L, B, hN, Nat.le_refl _⟩⟩
    · have han : a = n := by omega
      subst han
      by_cases h0 : zb_lv = 0
      · subst h0
        refine ⟨C, R, 0, lp2_inr ?_, lp2_inr ?_, Or.inl ⟨rfl, S, D, E, op, N, L, B, zb_hS, Nat.le_refl _⟩⟩
        · unfold fn_30_25
          rw [p1, q1, f1, l1]
          by_cases h1 : (a : Int) ≤ (t : Int)
          · rw [if_pos h1, if_neg (by decide), if_pos (by decide)]
          · rw [if_neg h1, if_pos (by omega), if_neg (by decide), if_pos (by decide)]
        · unfold fn_158_21
          rw [p2, q2, l2, if_neg (by decide), if_pos (by omega), if_pos (by decide)]
      · refine ⟨eg_u (eg_u C 7 4 1) 7 5 (a : Int), eg_u R 45 2 (a : Int), 1, lp2_inr ?_, lp2_inr ?_, Or.inr ⟨Or.inl rfl, rfl, ⟨rfl, Int.natCast_nonneg _⟩, hB, N, L, B, hN, Nat.le_refl _⟩⟩
        · unfold fn_30_25
          rw [p1, q1, f1, l1]
          by_cases h1 : (a : Int) ≤ (t : Int)
          · rw [if_pos h1, if_neg (by decide), if_neg (by omega)]; rfl
          · rw [if_neg h1, if_pos (by omega), if_neg (by decide), if_neg (by omega)]; rfl
        · unfold fn_158_21
          rw [p2, q2, l2, if_neg (by decide), if_pos (by omega), if_neg (by omega)]; rfl
theorem zb_rd_all {C R : eM} {n F N : Nat} {L B : Nat → Nat} (hF1 : C 1 6 = (F : Int)) (hF2 : R 45 17 = (F : Int)) (hF3 : F ≤ 20000) (hn : n ≤ 3000) (hlen : (n : Int) ≤ C 7 2) (hX : zb_tx C R n) (hN : zb_NM C R N L B) (hp : R 45 2 = -1) :
    ∃ C' R' f, fn_30 (n : Int) C = some C' ∧ fn_158 (n : Int) R = some (f, R') ∧ zb_RDR C R n F N C' R' f := by
  have e1 : (if C 7 2 < (n : Int) then C 7 2 else (n : Int)) = (n : Int) := if_neg (by omega)
  have st : zb_STT C R (eg_u (eg_u (eg_u (eg_u (eg_u (eg_u C 7 6 (n : Int)) 7 7 0) 7 8 (F : Int)) 7 9 0) 7 4 0) 7 5 (-1)) (eg_u (eg_u (eg_u (eg_u (eg_u (eg_u R 45 3 0) 45 4 (n : Int)) 45 18 0) 45 21 (-1)) 45 22 (-1)) 45 16 (F : Int)) n F F 0 0 (fun _ => 0) (fun _ => 0) (fun _ => 0) N L B := by
    refine ⟨⟨⟨⟨rfl, rfl, hn⟩, ⟨rfl, rfl, Nat.zero_le _⟩, ⟨hF1, rfl, rfl, hF2, Nat.le_refl _, hF3, by omega⟩, rfl, rfl⟩, hX, ⟨fun c h1 h2 => by omega, Or.inl ⟨rfl, rfl, rfl⟩⟩, ⟨by decide, fun i hi => by omega⟩, fun i hi => by omega, fun c h1 h2 => by omega⟩, fun c hc => ⟨⟨rfl, rfl, rfl⟩, rfl, rfl, rfl, rfl, rfl, rfl, rfl, rfl⟩, fun c h1 h2 => by omega, hN, rfl, rfl, hp⟩
  obtain ⟨C', R', f, k1, k2, k3⟩ := zb_rd_loop (x := (n : Int)) _ (t := 0) rfl (Nat.le_refl _) st (fun i hi => by omega)
  refine ⟨C', R', f, ?_, ?_, k3⟩
  · unfold fn_30
    rw [e1, hF1]; exact k1
  · unfold fn_158
    rw [hF2]; exact k2
