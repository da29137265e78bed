def zb_PH (C R : eM) (F S N : Nat) (D E : Nat → Nat) : Prop := ∃ R' : eM, (∀ c, c ≠ 45 → R' c = R c) ∧ zb_PG C R' F S N D E
section DAT
variable {C R : eM} {F S N : Nat} {D E : Nat → Nat}
theorem zb_ph_o (h : zb_PH C R F S N D E) {c : Nat} (h1 : F ≤ c) (h2 : c < S) : c < E c ∧ E c ≤ S ∧ S ≤ 20000 := by
  obtain ⟨R', hR, hp⟩ := h
  have := zb_pg_o hp h1 h2
  exact ⟨this.1, this.2.1, hp.1.2.1⟩
theorem zb_ph_first (h : zb_PH C R F S N D E) {c : Nat} (h1 : F ≤ c) (h2 : c < S) (h3 : c + 1 < E c) : zb_ch D E c (c + 1) := by
  obtain ⟨R', hR, hp⟩ := h
  exact zb_ch_first hp h1 h2 h3
theorem zb_ph_in (h : zb_PH C R F S N D E) {c x : Nat} (h1 : F ≤ c) (h2 : c < S) (hx : zb_ch D E c x) : F ≤ x ∧ x < S ∧ E x ≤ E c ∧ x < E x := by
  obtain ⟨R', hR, hp⟩ := h
  obtain ⟨a, b, c⟩ := zb_ch_in hp h1 h2 hx
  exact ⟨a, b, c, (zb_pg_o hp a b).1⟩
theorem zb_ph_next (h : zb_PH C R F S N D E) {c x : Nat} (h1 : F ≤ c) (h2 : c < S) (hx : zb_ch D E c x) (h3 : E x < E c) : zb_ch D E c (E x) := by
  obtain ⟨R', hR, hp⟩ := h
  exact zb_ch_next hp h1 h2 hx h3
theorem zb_ph_skip (h : zb_PH C R F S N D E) {c x y : Nat} (h1 : F ≤ c) (h2 : c < S) (hx : zb_ch D E c x) (hy : x < y) (hy2 : y < E x) : ¬ zb_ch D E c y := by
  obtain ⟨R', hR, hp⟩ := h
  exact zb_ch_skip hp h1 h2 hx hy hy2
theorem zb_ph_dr (h : zb_PH C R F S N D E) {c : Nat} (h1 : F ≤ c) (h2 : c < S) : C 6 c = (D c : Int) ∧ C 5 c = (E c : Int) ∧ zb_vk (C 4 c) (R 49 c) (R 50 c) N ∧ (R 49 c = 4 ∨ E c = c + 1) ∧ D c ≤ 30 := by
  obtain ⟨R', hR, hp⟩ := h
  have := hp.2.2 c h1 h2
  unfold zb_DR at this
  rw [hR 49 (by decide), hR 50 (by decide)] at this
  exact this
theorem zb_ph_lk (h : zb_PH C R F S N D E) {c : Nat} (h1 : F ≤ c) (h2 : c < S) : zb_LK R S D E c := by
  obtain ⟨R', hR, hp⟩ := h
  have := zb_pg_l hp h1 h2
  unfold zb_LK zb_LS at this
  unfold zb_LK zb_LS
  rw [hR 51 (by decide), hR 52 (by decide), hR 53 (by decide), hR 54 (by decide), hR 55 (by decide)] at this
  exact this
theorem zb_ph_nx (h : zb_PH C R F S N D E) {c x : Nat} (h1 : F ≤ c) (h2 : c < S) (hx : zb_ch D E c x) : R 53 x = if E x < E c then (E x : Int) else -1 := by
  obtain ⟨a1, a2, a3, a4⟩ := zb_ph_in h h1 h2 hx
  have hl := (zb_ph_lk h a1 a2).1
  rw [hl]
  obtain ⟨R', hR, hp⟩ := h
  have ho := zb_pg_o hp h1 h2
  by_cases hq : E x < E c
  · have hn := zb_ch_next hp h1 h2 hx hq
    rw [if_pos ⟨by omega, by rw [hn.2.2, hx.2.2]⟩, if_pos hq]
  · have he : E x = E c := by omega
    rw [if_neg hq, if_neg (fun z => ?_)]
    obtain ⟨z1, z2⟩ := z
    rw [he] at z1 z2
    have := ho.2.2.2.1 z1
    have := hx.2.2
    omega
theorem zb_ph_51 (h : zb_PH C R F S N D E) {c : Nat} (h1 : F ≤ c) (h2 : c < S) : R 51 c = if c + 1 < E c then ((c + 1 : Nat) : Int) else -1 := (zb_ph_lk h h1 h2).2.1
theorem zb_ph_55 (h : zb_PH C R F S N D E) {c : Nat} (h1 : F ≤ c) (h2 : c < S) : R 55 c = ((zb_ks D E c : Nat) : Int) := (zb_ph_lk h h1 h2).2.2.2.1
theorem zb_ph_form (h : zb_PH C R F S N D E) (hN : N ≤ 444) {c f : Nat} (h1 : F ≤ c) (h2 : c < S) (h4 : R 49 c = 4) (h3 : c + 1 < E c) (hf : zb_fo R c f) : fn_175 (c : Int) R = some (if f = 10 then -1 else (f : Int)) := by
  obtain ⟨R', hR, hp⟩ := h
  have e49 := hR 49 (by decide)
  have e50 := hR 50 (by decide)
  have e51 := hR 51 (by decide)
  have e55 := hR 55 (by decide)
  have hf' : zb_fo R' c f := by unfold zb_fo zb_sp at hf ⊢; rw [e49, e50]; exact hf
  have := zb_f175 hp hN h1 h2 (by rw [e49]; exact h4) h3 hf'
  rw [← this]
  unfold fn_175 fn_172
  rw [e49, e50, e51, e55]
theorem zb_ph_cform (h : zb_PH C R F S N D E) (hN : N ≤ 444) {c f : Nat} (h1 : F ≤ c) (h2 : c < S) (h3 : c + 1 < E c) (hf : zb_fo R c f) : fn_59 (c : Int) C = some (f : Int) := by
  obtain ⟨R', hR, hp⟩ := h
  have := zb_pg_o hp h1 h2
  obtain ⟨f', g1, g2⟩ := zb_f59 hp hN (c := c) h1 (by omega)
  have : f' = f := by
    unfold zb_fo zb_sp at g2 hf
    rw [hR 49 (by decide), hR 50 (by decide)] at g2
    rcases g2 with ⟨a, b, c⟩ | ⟨a, b⟩
    · rcases hf with ⟨a', b', c'⟩ | ⟨a', b'⟩
      · omega
      · exact absurd b b'
    · rcases hf with ⟨a', b', c'⟩ | ⟨a', b'⟩
      · exact absurd b' b
      · omega
  rw [g1, this]
theorem zb_ph_second (h : zb_PH C R F S N D E) {c : Nat} (h1 : F ≤ c) (h2 : c < S) (h3 : c + 1 < E c) : fn_176 (c : Int) R = some (if E (c + 1) < E c then ((E (c + 1) : Nat) : Int) else -1) := by
  have ho := zb_ph_o h h1 h2
  have h51 := zb_ph_51 h h1 h2
  rw [if_pos h3] at h51
  unfold fn_176
  rw [if_pos (by omega), Int.toNat_natCast, h51, if_pos (by omega), Int.toNat_natCast, zb_ph_nx h h1 h2 (zb_ph_first h h1 h2 h3)]
theorem zb_ph_qn (h : zb_PH C R F S N D E) {l x : Nat} (h1 : F ≤ l) (h2 : l < S) (hx : zb_ch D E l x) : zb_qx D l (E x) = zb_qx D l x + 1 := by
  obtain ⟨R', hR, hp⟩ := h
  exact zb_qx_next hp h1 h2 hx
theorem zb_ph_ks (h : zb_PH C R F S N D E) {l : Nat} (h1 : F ≤ l) (h2 : l < S) : zb_ks D E l ≤ 2000 ∧ zb_qx D l (E l) = zb_ks D E l ∧ ((0 < zb_ks D E l) ↔ l + 1 < E l) := by
  obtain ⟨R', hR, hp⟩ := h
  exact ⟨zb_ks_le hp h1 h2, rfl, zb_ks_pos hp h1 h2⟩
def zb_NML (R : eM) (D E : Nat → Nat) (d : Nat) (zb_lt : Bool) : Prop := (zb_lt = true ∧ zb_fo R d 5 ∧ ∀ b, zb_ch D E (d + 2) b → zb_okB R D E b ∧ zb_qx D (d + 2) b < 8) ∨ (zb_lt = false ∧ zb_fo R d 4 ∧ ∀ b, zb_ch D E (d + 2) b → R 49 b = 3 ∧ zb_qx D (d + 2) b < 8)
def zb_SCD (R : eM) (F S : Nat) (D E : Nat → Nat) (d : Nat) : Prop := F ≤ d ∧ d < S ∧ R 49 d = 4 ∧ E (d + 1) = d + 2 ∧ d + 2 < E d ∧ R 49 (d + 2) = 4 ∧ ∃ zb_lt, zb_NML R D E d zb_lt
theorem zb_slot_loop (h : zb_PH C R F S N D E) (hN : N ≤ 444) {d n : Nat} {zb_lt : Bool} (hd : F ≤ d) (hd2 : d < S) (h4 : R 49 d = 4) (hd3 : E (d + 1) = d + 2) (hl : d + 2 < E d) (hm : zb_NML R D E d zb_lt) {x3 : Int} : ∀ (m x : Nat), E (d + 2) - x = m → (zb_ch D E (d + 2) x ∨ x = E (d + 2)) →
    ∃ k : Int, lp (fun z => fn_67_6 ((d + 2 : Nat) : Int) (8589934592 + (n : Int)) C z.1 z.2) ((zb_qx D (d + 2) x : Int), (x : Int)) = some k ∧ lp (fun z => fn_188_11 (d : Int) (n : Int) x3 R z.1 z.2) ((zb_qx D (d + 2) x : Int), if x < E (d + 2) then (x : Int) else -1) = some k ∧ (k = -1 ∨ ∃ q : Nat, k = (q : Int) ∧ q < zb_ks D E (d + 2) ∧ q < 8) := by
  have ho := zb_ph_o h hd hd2
  have hch2 : zb_ch D E d (d + 2) := by
    have := zb_ph_next h hd hd2 (zb_ph_first h hd hd2 (by omega)) (by rw [hd3]; exact hl)
    rw [hd3] at this; exact this
  obtain ⟨i1, i2, i3, i4⟩ := zb_ph_in h hd hd2 hch2
  have hks := zb_ph_ks h i1 i2
  have e5l := (zb_ph_dr h i1 i2).2.1
  intro m
  induction m using Nat.strongRecOn with
  | ind m ih =>
    intro x hm2 hx
    rcases hx with hx | hx
    · obtain ⟨j1, j2, j3, j4⟩ := zb_ph_in h i1 i2 hx
      have hxl := hx.2.1
      obtain ⟨k6, k5, k4, k7, k8⟩ := zb_ph_dr h j1 j2
      have hq := zb_ph_qn h i1 i2 hx
      have hqle : zb_qx D (d + 2) x < zb_ks D E (d + 2) := by
        have h9 : zb_qx D (d + 2) (E x) ≤ zb_qx D (d + 2) (E (d + 2)) := by
          unfold zb_qx
          have hx1 := hx.1
          rw [show E (d + 2) - (d + 2 + 1) = (E x - (d + 2 + 1)) + (E (d + 2) - E x) by omega, zb_ct_add]; omega
        omega
      have hnx : (if E x < E (d + 2) then (E x : Int) else -1) = R 53 x := (zb_ph_nx h i1 i2 hx).symm
      have h175 : fn_175 (d : Int) R = some (if zb_lt then 5 else 4) := by
        rcases hm with ⟨z1, z2, _⟩ | ⟨z1, z2, _⟩
        · rw [z1, zb_ph_form h hN hd hd2 h4 (by omega) z2]; rfl
        · rw [z1, zb_ph_form h hN hd hd2 h4 (by omega) z2]; rfl
      have hnm : ∃ y : Nat, F ≤ y ∧ y < S ∧ R 49 y = 3 ∧ (if zb_lt then R 51 x else (x : Int)) = (y : Int) ∧ zb_qx D (d + 2) x < 8 ∧ ((C 4 x = 25769803776 ∧ y = x + 1) ∨ (C 4 x ≠ 25769803776 ∧ y = x)) := by
        rcases hm with ⟨z1, z2, z3⟩ | ⟨z1, z2, z3⟩
        · obtain ⟨⟨b1, b2, b3⟩, b4⟩ := z3 x hx
          have hx2 : x + 1 < E x := ((zb_ph_ks h j1 j2).2.2).mp (by omega)
          refine ⟨x + 1, by omega, by omega, b3, ?_, b4, Or.inl ⟨?_, rfl⟩⟩
          · rw [z1, if_pos rfl, zb_ph_51 h j1 j2, if_pos hx2]
          · exact (zb_vk_tag k4 hN).2.1.mpr b1
        · obtain ⟨b1, b2⟩ := z3 x hx
          refine ⟨x, j1, j2, b1, ?_, b2, Or.inr ⟨fun z => ?_, rfl⟩⟩
          · rw [z1]; rfl
          · have := (zb_vk_tag k4 hN).2.1.mp z; omega
      obtain ⟨y, y1, y2, y3, y4, y5, y6⟩ := hnm
      have hvy := (zb_ph_dr h y1 y2).2.2.1
      have hyv : C 4 y = 8589934592 + R 50 y ∧ 0 ≤ R 50 y := by unfold zb_vk at hvy; omega
      have cstep : fn_67_6 ((d + 2 : Nat) : Int) (8589934592 + (n : Int)) C (zb_qx D (d + 2) x : Int) (x : Int) = if R 50 y = (n : Int) then some (.inr (zb_qx D (d + 2) x : Int)) else some (.inl ((zb_qx D (d + 2) (E x) : Int), (E x : Int))) := by
        unfold fn_67_6
        rw [if_pos (by omega), Int.toNat_natCast, e5l, if_neg (by omega), if_pos (by omega), Int.toNat_natCast]
        rcases y6 with ⟨w1, w2⟩ | ⟨w1, w2⟩
        · rw [if_neg (fun z => z w1), zb_wi_1 (a := x) (by omega), if_pos (by omega), Int.toNat_natCast, ← w2, hyv.1, zb_wi_1 (a := zb_qx D (d + 2) x) (by omega), k5, hq]
          by_cases hv : R 50 y = (n : Int)
          · rw [if_pos hv, if_neg (by omega)]
          · rw [if_neg hv, if_pos (by omega)]
        · rw [w2] at hyv
          rw [if_pos w1, hyv.1, zb_wi_1 (a := zb_qx D (d + 2) x) (by omega), k5, hq, w2]
          by_cases hv : R 50 x = (n : Int)
          · rw [if_pos hv, if_neg (by omega)]
          · rw [if_neg hv, if_pos (by omega)]
      have rstep : fn_188_11 (d : Int) (n : Int) x3 R (zb_qx D (d + 2) x : Int) (x : Int) = if R 50 y = (n : Int) then some (.inr (zb_qx D (d + 2) x : Int)) else some (.inl ((zb_qx D (d + 2) (E x) : Int), if E x < E (d + 2) then (E x : Int) else -1)) := by
        have r24 : fn_188_24 (d : Int) (n : Int) x3 (zb_qx D (d + 2) x : Int) (x : Int) (y : Int) R = if R 50 y = (n : Int) then some (.inr (zb_qx D (d + 2) x : Int)) else some (.inl ((zb_qx D (d + 2) (E x) : Int), if E x < E (d + 2) then (E x : Int) else -1)) := by
          unfold fn_188_24
          rw [if_pos (by omega), Int.toNat_natCast, zb_wi_1 (a := zb_qx D (d + 2) x) (by omega), hnx, hq]
          by_cases hv : R 50 y = (n : Int)
          · rw [if_pos hv, if_neg (fun z => z hv)]
          · rw [if_neg hv, if_pos hv, if_pos (by omega), Int.toNat_natCast]
        rw [← r24]
        unfold fn_188_11
        rw [if_neg (by omega), h175, Option.bind_some]
        cases zb_lt with
        | true =>
          have y4' : R 51 x = (y : Int) := y4
          rw [if_neg (show ¬ ¬ (if true = true then (5 : Int) else 4) = 5 by decide), if_pos (by omega), Int.toNat_natCast, y4']
        | false =>
          have y4' : (x : Int) = (y : Int) := y4
          rw [if_pos (show ¬ (if false = true then (5 : Int) else 4) = 5 by decide)]
          show fn_188_24 (d : Int) (n : Int) x3 (zb_qx D (d + 2) x : Int) (x : Int) (x : Int) R = _
          rw [← y4']
      rw [if_pos hxl]
      by_cases hv : R 50 y = (n : Int)
      · rw [if_pos hv] at cstep rstep
        exact ⟨_, lp2_inr cstep, lp2_inr rstep, Or.inr ⟨_, rfl, hqle, y5⟩⟩
      · rw [if_neg hv] at cstep rstep
        rw [lp2_inl cstep, lp2_inl rstep]
        refine ih (E (d + 2) - E x) (by omega) (E x) rfl ?_
        by_cases hq2 : E x < E (d + 2)
        · exact Or.inl (zb_ph_next h i1 i2 hx hq2)
        · exact Or.inr (by omega)
    · subst hx
      refine ⟨-1, lp2_inr ?_, lp2_inr ?_, Or.inl rfl⟩
      · unfold fn_67_6
        rw [if_pos (by omega), Int.toNat_natCast, e5l, if_pos (by omega)]
      · unfold fn_188_11
        rw [if_neg (by omega : ¬ E (d + 2) < E (d + 2)), if_pos (by omega)]
theorem zb_scope_ok (h : zb_PH C R F S N D E) (hN : N ≤ 444) {d n : Nat} (hs : zb_SCD R F S D E d) :
    ∃ k : Int, fn_67 ((d : Int) + 2) (8589934592 + (n : Int)) C = some k ∧ fn_188 (d : Int) (n : Int) R = some k ∧ (k = -1 ∨ ∃ q : Nat, k = (q : Int) ∧ q < zb_ks D E (d + 2) ∧ q < 8) := by
  obtain ⟨hd, hd2, h4, hd3, hl, hr4, zb_lt, hm⟩ := hs
  have ho := zb_ph_o h hd hd2
  have hch2 : zb_ch D E d (d + 2) := by
    have := zb_ph_next h hd hd2 (zb_ph_first h hd hd2 (by omega)) (by rw [hd3]; exact hl)
    rw [hd3] at this; exact this
  obtain ⟨i1, i2, i3, i4⟩ := zb_ph_in h hd hd2 hch2
  obtain ⟨k, e1, e2, e3⟩ := zb_slot_loop (n := n) (x3 := ((d + 2 : Nat) : Int)) h hN hd hd2 h4 hd3 hl hm _ (d + 2 + 1) rfl (by
    by_cases hq : d + 2 + 1 < E (d + 2)
    · exact Or.inl (zb_ph_first h i1 i2 hq)
    · exact Or.inr (by omega))
  rw [zb_qx_first] at e1 e2
  refine ⟨k, ?_, ?_, e3⟩
  · unfold fn_67
    rw [show ((d : Int) + 2) = ((d + 2 : Nat) : Int) by omega, zb_wi_1 (by omega)]
    exact e1
  · unfold fn_188
    rw [zb_ph_second h hd hd2 (by omega), Option.bind_some, hd3, if_pos hl, if_pos (by omega), Int.toNat_natCast, zb_ph_51 h i1 i2]
    exact e2
end DAT
def zb_PX (C R : eM) (N S F S' : Nat) (Cg : eM) (D E : Nat → Nat) : Prop := zb_PH C R F S' N D E ∧ zb_GV Cg R F D E S' ∧ S' ≤ S
def zb_scpW (C R : eM) (N S : Nat) (d n : Nat) : Prop := ∃ (F S' : Nat) (Cg : eM) (D E : Nat → Nat), zb_PX C R N S F S' Cg D E ∧ zb_SCD R F S' D E d ∧ n = zb_ks D E (d + 2) ∧ (Cg 13 (d - F) = 1 ∨ Cg 13 (d - F) = 2)
def zb_lamW (C R : eM) (N S : Nat) (d : Nat) : Prop := ∃ (F S' : Nat) (Cg : eM) (D E : Nat → Nat), zb_PX C R N S F S' Cg D E ∧ F ≤ d ∧ d < S' ∧ zb_fo R d 4 ∧ R 49 d = 4 ∧ (Cg 13 (d - F) = 1 ∨ Cg 13 (d - F) = 2)
def zb_ROWS (C R C0 R0 : eM) : Prop := (C 4 = C0 4 ∧ C 5 = C0 5 ∧ C 6 = C0 6) ∧ (R 49 = R0 49 ∧ R 50 = R0 50 ∧ R 51 = R0 51 ∧ R 52 = R0 52 ∧ R 53 = R0 53 ∧ R 54 = R0 54 ∧ R 55 = R0 55)
section DAT
variable {C R C0 R0 : eM}
theorem zb_w59 (h : zb_ROWS C R C0 R0) (a : Int) : fn_59 a C = fn_59 a C0 := by unfold fn_59 fn_60; rw [h.1.1]
theorem zb_w64 (h : zb_ROWS C R C0 R0) (a : Int) : fn_64 a C = fn_64 a C0 := by unfold fn_64; rw [h.1.1]
theorem zb_w67 (h : zb_ROWS C R C0 R0) (a b : Int) : fn_67 a b C = fn_67 a b C0 := by unfold fn_67 fn_67_6; rw [h.1.1, h.1.2.1]
theorem zb_w175 (h : zb_ROWS C R C0 R0) (a : Int) : fn_175 a R = fn_175 a R0 := by
  obtain ⟨_, h1, h2, h3, _, h4, _, h5⟩ := h
  unfold fn_175 fn_172; rw [h1, h2, h3, h5]
theorem zb_w176 (h : zb_ROWS C R C0 R0) (a : Int) : fn_176 a R = fn_176 a R0 := by
  obtain ⟨_, h1, h2, h3, _, h4, _, h5⟩ := h
  unfold fn_176; rw [h3, h4]
theorem zb_w188 (h : zb_ROWS C R C0 R0) (a b : Int) : fn_188 a b R = fn_188 a b R0 := by
  have e1 := zb_w175 h
  have e2 := zb_w176 h
  obtain ⟨_, h1, h2, h3, _, h4, _, h5⟩ := h
  unfold fn_188 fn_188_11 fn_188_24; rw [e2, e1, h2, h3, h4]
variable {H : zb_Hp} {cn N S : Nat} {lam : Nat → Prop}
def zb_frm (H : zb_Hp) (h : Nat) : Int := if h = 0 then -1 else zb_ov (zb_hP H h)
def zb_isF (H : zb_Hp) (h : Nat) : Prop := h = 0 ∨ (h ∈ zb_hO H ∧ zb_hK H h = 4)
theorem zb_frm_ne {H : zb_Hp} {h : Nat} (hh : h ≠ 0) : zb_frm H h = zb_ov (zb_hP H h) ∧ zb_frm H h ≠ -1 := by
  unfold zb_frm; rw [if_neg hh]; exact ⟨rfl, by unfold zb_ov; omega⟩
theorem zb_frm_0 {H : zb_Hp} : zb_frm H 0 = -1 := rfl
theorem zb_frame_at (hr : zb_HR C R H cn N lam (zb_scpW C0 R0 N S)) {h : Nat} (hh : h ∈ zb_hO H) (hk : zb_hK H h = 4) :
    ∃ d : Nat, zb_scpW C0 R0 N S d (zb_hZ H h - 3) ∧ C 16 (zb_hS H h + 1) = (d : Int) + 2 ∧ R 64 (zb_hP H h) = (d : Int) ∧ ∃ g : Nat, zb_isF H g ∧ C 16 (zb_hS H h + 2) = (g : Int) ∧ zb_rf R H h 0 = zb_frm H g ∧ (g ≠ 0 → zb_hS H g < zb_hS H h) := by
  obtain ⟨o1, o2, o3, o4, o5, o6, o7⟩ := zb_hr_ob hr hh
  obtain ⟨d, d1, d2, d3⟩ := o7 hk
  refine ⟨d, d1, d2, d3, ?_⟩
  have hz : 3 ≤ zb_hZ H h := by unfold zb_szk at o4; omega
  have hl : zb_isl (zb_hK H h) 0 := Or.inl ⟨Or.inr hk, rfl⟩
  have fd := (o5 0 (by rw [hk]; simp [zb_nf]; omega)).1 hl
  have ec : zb_cf C H h 0 = zb_lv (C 16 (zb_hS H h + 2)) := by unfold zb_cf zb_ci; rw [hk]; rfl
  rw [ec] at fd
  rcases fd with ⟨a, b⟩ | ⟨g, ⟨g1, g2, g3⟩, g4, g5⟩
  · exact ⟨0, Or.inl rfl, zb_lv_none a, b, fun z => absurd rfl z⟩
  · have hg := zb_hr_h hr g1
    have k4 : zb_hK H g = 4 := by rw [g2, if_pos (Or.inr hk)]
    refine ⟨g, Or.inr ⟨g1, k4⟩, zb_lv_ob g4 (by omega), ?_, fun _ => g3 (by omega)⟩
    rw [g5, (zb_frm_ne (by omega)).1]
theorem zb_wi_d2 {d : Nat} (h : d < 20000) : eg_wi ((d : Int) + 2) = (d : Int) + 2 := by unfold eg_wi; omega
theorem zb_wi_h8 {h q : Nat} (h1 : h < 20000) (h2 : q < 8) : eg_wi (eg_wi ((h : Int) * 8) + (q : Int)) = ((h * 8 + q : Nat) : Int) := by
  have : eg_wi ((h : Int) * 8) = ((h * 8 : Nat) : Int) := by unfold eg_wi; omega
  rw [this]; clear this; exact zb_wi_add (by omega)
theorem zb_find_ok (hr : zb_HR C R H cn N lam (zb_scpW C0 R0 N S)) (hN : N ≤ 444) (hw : zb_ROWS C R C0 R0) {a n : Nat} (ha : a < 20000) (h4 : C 4 a = 8589934592 + (n : Int)) {x1 x2 : Int} :
    ∀ (m h : Nat), (if h = 0 then 0 else zb_hS H h + 1) = m → zb_isF H h →
    (fn_115 cn (cn / 3 + 1) (a : Int) (h : Int) C = some (-1) ∧ fn_186 (zb_frm H h) (n : Int) R = some (-1))
    ∨ ∃ g q : Nat, g ∈ zb_hO H ∧ zb_hK H g = 4 ∧ q < 8 ∧ q < zb_hZ H g - 3 ∧ fn_115 cn (cn / 3 + 1) (a : Int) (h : Int) C = some ((g * 8 + q : Nat) : Int) ∧ fn_186 (zb_frm H h) (n : Int) R = some (zb_ov (zb_hP H g)) ∧ fn_188 (R 64 (zb_hP H g)) (n : Int) R = some (q : Int) := by
  have key : ∀ (m h : Nat), (if h = 0 then 0 else zb_hS H h + 1) = m → zb_isF H h → ∀ (b9 : Int) (w9 : Int),
    (lp (fn_115_2 cn (cn / 3 + 1) (a : Int) b9 C) (h : Int) = some (-1) ∧ lp (fn_186_2 w9 (n : Int) R) (zb_frm H h) = some (-1))
    ∨ ∃ g q : Nat, g ∈ zb_hO H ∧ zb_hK H g = 4 ∧ q < 8 ∧ q < zb_hZ H g - 3 ∧ lp (fn_115_2 cn (cn / 3 + 1) (a : Int) b9 C) (h : Int) = some ((g * 8 + q : Nat) : Int) ∧ lp (fn_186_2 w9 (n : Int) R) (zb_frm H h) = some (zb_ov (zb_hP H g)) ∧ fn_188 (R 64 (zb_hP H g)) (n : Int) R = some (q : Int) := by
    intro m
    induction m using Nat.strongRecOn with
    | ind m ih =>
      intro h hm hf b9 w9
      by_cases h0 : h = 0
      · subst h0
        left
        refine ⟨lp_inr ?_, lp_inr ?_⟩
        · unfold fn_115_2; rw [if_pos (by decide)]
        · unfold fn_186_2; rw [zb_frm_0, if_pos rfl]
      · obtain ⟨hh, hk⟩ := hf.resolve_left h0
        rw [if_neg h0] at hm
        obtain ⟨d, d1, d2, d3, g, g1, g2, g3, g4⟩ := zb_frame_at hr hh hk
        obtain ⟨F, S', Cg, D, E, hx, hsc, hn, _⟩ := d1
        obtain ⟨k, e1, e2, e3⟩ := zb_scope_ok (n := n) hx.1 hN hsc
        have hhb := zb_hr_h hr hh
        have hdS : d < 20000 := by have := zb_ph_o hx.1 hsc.1 hsc.2.1; omega
        obtain ⟨⟨fl, hs, hH⟩, ⟨fs, fc, hQ⟩, _⟩ := id hr
        have hz3 := (hH.2.2.1 h hh).2.2.2.2.1
        obtain ⟨o1, o2, o3, o4, _⟩ := zb_hr_ob hr hh
        have hl0 : 0 < (zb_hC H (zb_hP H h)).length := by rw [o3, hk]; simp [zb_nf]; omega
        have hph := zb_hr_p hr hh
        have c1 : fn_78 cn (cn / 3 + 1) (h : Int) 1 C = some ((d : Int) + 2) := by rw [← d2]; exact zb_get_c hH (i := 1) hh (by omega)
        have c2 : fn_78 cn (cn / 3 + 1) (h : Int) 2 C = some (g : Int) := by rw [← g2]; exact zb_get_c hH (i := 2) hh (by omega)
        have r0 : fn_189 (zb_ov (zb_hP H h)) 0 R = some (zb_frm H g) := by
          have := zb_get_r hQ (i := 0) (List.mem_map_of_mem hh) hl0
          rw [← g3]; unfold zb_rf
          rw [List.getD_eq_getElem?_getD, List.getElem?_eq_getElem hl0, Option.getD_some]; exact this
        have cst : fn_115_2 cn (cn / 3 + 1) (a : Int) b9 C (h : Int) = if k < 0 then some (.inl (g : Int)) else some (.inr (eg_wi (eg_wi ((h : Int) * 8) + k))) := by
          have hg20 : g < 20000 := by
            rcases g1 with z | z
            · omega
            · have := zb_hr_h hr z.1; omega
          unfold fn_115_2
          rw [if_neg (by omega), c1, Option.bind_some, if_pos (by omega), Int.toNat_natCast, h4, zb_wi_d2 hdS, zb_w67 hw, e1, Option.bind_some, c2, Option.bind_some, zb_wi_n (by omega)]
        have rst : fn_186_2 w9 (n : Int) R (zb_frm H h) = if 0 ≤ k then some (.inr (zb_frm H h)) else some (.inl (zb_frm H g)) := by
          unfold fn_186_2
          rw [if_neg (zb_frm_ne h0).2, (zb_frm_ne h0).1, zb_f187 hph, Option.bind_some, if_pos (by omega), Int.toNat_natCast, d3, zb_w188 hw, e2, Option.bind_some, r0, Option.bind_some]
        rcases e3 with e3 | ⟨q, q1, q2, q3⟩
        · subst e3
          rw [if_pos (by decide)] at cst
          rw [if_neg (by decide)] at rst
          rw [lp_inl cst, lp_inl rst]
          refine ih _ ?_ g rfl g1 b9 w9
          by_cases hg0 : g = 0
          · rw [if_pos hg0]; omega
          · rw [if_neg hg0]; have := g4 hg0; omega
        · subst q1
          rw [if_neg (by omega)] at cst
          rw [if_pos (by omega)] at rst
          rw [zb_wi_h8 (by omega) q3] at cst
          right
          exact ⟨h, q, hh, hk, q3, by omega, lp_inr cst, by rw [lp_inr rst, (zb_frm_ne h0).1], by rw [d3, zb_w188 hw]; exact e2⟩
  intro m h hm hf
  exact key m h hm hf (h : Int) (zb_frm H h)
end DAT
def zb_EX (C R : eM) (N S d ro : Nat) : Prop := ∃ (F S' : Nat) (Cg : eM) (D E : Nat → Nat), zb_PX C R N S F S' Cg D E ∧ F ≤ d ∧ d < S' ∧ Cg 13 (d - F) = (ro : Int) ∧ (ro = 1 ∨ ro = 2)
def zb_KX (C R : eM) (N S d x q : Nat) : Prop := ∃ (F S' : Nat) (Cg : eM) (D E : Nat → Nat), zb_PX C R N S F S' Cg D E ∧ (F ≤ d ∧ d < S' ∧ R 49 d = 4) ∧ zb_ch D E d x ∧ q = zb_qx D d x ∧ ∀ y, zb_ch D E d y → x ≤ y → Cg 13 (y - F) = 1
def zb_KB (C R : eM) (N S d b q : Nat) : Prop := ∃ (F S' : Nat) (Cg : eM) (D E : Nat → Nat), zb_PX C R N S F S' Cg D E ∧ (F ≤ d ∧ d < S' ∧ R 49 d = 4) ∧ zb_ch D E d (d + 2) ∧ zb_ch D E (d + 2) b ∧ q = zb_qx D (d + 2) b ∧ ∀ y, zb_ch D E (d + 2) y → Cg 13 (y - F) = 7
def zb_QT (C R : eM) (N S d : Nat) : Prop := ∃ (F S' : Nat) (Cg : eM) (D E : Nat → Nat), zb_PX C R N S F S' Cg D E ∧ (F ≤ d ∧ d < S') ∧ zb_ch D E d (d + 2) ∧ E (d + 2) = E d
section DAT
variable {C R : eM} {N S : Nat}
theorem zb_ph_last {F S : Nat} {D E : Nat → Nat} (h : zb_PH C R F S N D E) {c : Nat} (h1 : F ≤ c) (h2 : c < S) (h3 : c + 1 < E c) : ∃ l : Nat, zb_ch D E c l ∧ E l = E c := by
  obtain ⟨R', hR, hp⟩ := h
  obtain ⟨l, a, b, _⟩ := zb_r52 hp h1 h2 h3
  exact ⟨l, a, b⟩
theorem zb_ph_cnt {F S : Nat} {D E : Nat → Nat} (h : zb_PH C R F S N D E) {c k : Nat} (h1 : F ≤ c) (h2 : c < S) (h3 : ∀ y, zb_ch D E c y → zb_qx D c y < k) : zb_ks D E c ≤ k := by
  by_cases hq : c + 1 < E c
  · obtain ⟨l, a, b⟩ := zb_ph_last h h1 h2 hq
    have := zb_ph_qn h h1 h2 a
    rw [b, (zb_ph_ks h h1 h2).2.1] at this
    have := h3 l a
    omega
  · have := (zb_ph_ks h h1 h2).2.2
    omega
theorem zb_kx_at {d x q : Nat} (h : zb_KX C R N S d x q) : ∃ e ed zb_dd : Nat, C 5 x = (e : Int) ∧ C 5 d = (ed : Int) ∧ d < x ∧ x < e ∧ e ≤ ed ∧ ed ≤ 20000 ∧ C 6 d = (zb_dd : Int) ∧ C 6 x = ((zb_dd + 1 : Nat) : Int) ∧ zb_dd + 1 ≤ 30 ∧ zb_EX C R N S x 1
    ∧ ((e < ed ∧ R 53 x = (e : Int) ∧ zb_KX C R N S d e (q + 1)) ∨ (e = ed ∧ R 53 x = -1 ∧ R 55 d = ((q + 1 : Nat) : Int))) := by
  obtain ⟨F, S', Cg, D, E, hx, ⟨d1, d2, d3⟩, hc, hq, hr⟩ := h
  obtain ⟨i1, i2, i3, i4⟩ := zb_ph_in hx.1 d1 d2 hc
  have ho := zb_ph_o hx.1 d1 d2
  have a1 := zb_ph_dr hx.1 d1 d2
  have a2 := zb_ph_dr hx.1 i1 i2
  have hD := hc.2.2
  refine ⟨E x, E d, D d, a2.2.1, a1.2.1, hc.1, i4, i3, by omega, a1.1, by rw [a2.1, hD], by omega, ⟨F, S', Cg, D, E, hx, i1, i2, hr x hc (Nat.le_refl _), Or.inl rfl⟩, ?_⟩
  have hn := zb_ph_nx hx.1 d1 d2 hc
  by_cases hlt : E x < E d
  · left
    refine ⟨hlt, by rw [hn, if_pos hlt], F, S', Cg, D, E, hx, ⟨d1, d2, d3⟩, zb_ph_next hx.1 d1 d2 hc hlt, ?_, fun y y1 y2 => hr y y1 (by omega)⟩
    rw [zb_ph_qn hx.1 d1 d2 hc, hq]
  · right
    refine ⟨by omega, by rw [hn, if_neg hlt], ?_⟩
    rw [zb_ph_55 hx.1 d1 d2, hq, ← zb_ph_qn hx.1 d1 d2 hc, show E x = E d by omega, (zb_ph_ks hx.1 d1 d2).2.1]
theorem zb_kb_at {d b q : Nat} (h : zb_KB C R N S d b q) : ∃ e el zb_dd : Nat, C 5 b = (e : Int) ∧ C 5 (d + 2) = (el : Int) ∧ d + 2 < b ∧ b + 2 < e ∧ e ≤ el ∧ el ≤ 20000 ∧ C 6 d = (zb_dd : Int) ∧ C 6 (b + 2) = ((zb_dd + 3 : Nat) : Int) ∧ zb_dd + 3 ≤ 30 ∧ zb_EX C R N S (b + 2) 1 ∧ fn_176 (b : Int) R = some ((b + 2 : Nat) : Int) ∧ q < 8
    ∧ ((e < el ∧ R 53 b = (e : Int) ∧ zb_KB C R N S d e (q + 1)) ∨ (e = el ∧ R 53 b = -1 ∧ R 55 (d + 2) = ((q + 1 : Nat) : Int))) := by
  obtain ⟨F, S', Cg, D, E, hx, ⟨d1, d2, d3⟩, hc2, hc, hq, hr⟩ := h
  obtain ⟨j1, j2, j3, j4⟩ := zb_ph_in hx.1 d1 d2 hc2
  obtain ⟨i1, i2, i3, i4⟩ := zb_ph_in hx.1 j1 j2 hc
  have ho := zb_ph_o hx.1 d1 d2
  have a1 := zb_ph_dr hx.1 d1 d2
  have a2 := zb_ph_dr hx.1 i1 i2
  have a3 := zb_ph_dr hx.1 j1 j2
  have hD := hc.2.2
  have hD2 := hc2.2.2
  obtain ⟨l, l1, l2, l3, l4, ⟨b1, b2, b3⟩, b4, b5, b6⟩ := (hx.2.1 b i1 i2).2 (hr b hc)
  have hks := zb_ph_ks hx.1 i1 i2
  have hb1 : b + 1 < E b := hks.2.2.mp (by omega)
  have k1 := zb_ph_first hx.1 i1 i2 hb1
  obtain ⟨m1, m2, m3, m4⟩ := zb_ph_in hx.1 i1 i2 k1
  have a4 := zb_ph_dr hx.1 m1 m2
  have hE1 : E (b + 1) = b + 2 := by rcases a4.2.2.2.1 with z | z <;> omega
  have hb2 : E (b + 1) < E b := by
    by_cases hz : E (b + 1) < E b
    · exact hz
    · exfalso
      have q1 := zb_ph_qn hx.1 i1 i2 k1
      rw [show E (b + 1) = E b by omega, hks.2.1, zb_qx_first] at q1
      omega
  have k2 := zb_ph_next hx.1 i1 i2 k1 hb2
  rw [hE1] at k2
  obtain ⟨n1, n2, n3, n4⟩ := zb_ph_in hx.1 i1 i2 k2
  have a5 := zb_ph_dr hx.1 n1 n2
  have hD3 := k2.2.2
  have hln : l = d + 2 := by
    have lo := zb_ph_o hx.1 l1 (by omega)
    obtain ⟨R', hR, hp⟩ := hx.1
    have p1 := (zb_pg_o hp l1 (by omega)).2.2.1
    have p2 := (zb_pg_o hp j1 j2).2.2.1
    have q1 := l3.1
    have q2 := l3.2.1
    have q3 := l3.2.2
    have q4 := hc.1
    have q5 := hc.2.1
    rcases Nat.lt_trichotomy l (d + 2) with z | z | z
    · have := p1 (d + 2) z (by omega); omega
    · exact z
    · have := p2 l z (by omega); omega
  refine ⟨E b, E (d + 2), D d, a2.2.1, a3.2.1, hc.1, by omega, i3, by omega, a1.1, by rw [a5.1]; omega, by omega, ⟨F, S', Cg, D, E, hx, n1, n2, b6, Or.inl rfl⟩, ?_, ?_, ?_⟩
  · rw [zb_ph_second hx.1 i1 i2 hb1, if_pos hb2, hE1]
  · rw [hq, ← hln]; exact b5.1
  · have hn := zb_ph_nx hx.1 j1 j2 hc
    by_cases hlt : E b < E (d + 2)
    · left
      refine ⟨hlt, by rw [hn, if_pos hlt], F, S', Cg, D, E, hx, ⟨d1, d2, d3⟩, hc2, zb_ph_next hx.1 j1 j2 hc hlt, ?_, hr⟩
      rw [zb_ph_qn hx.1 j1 j2 hc, hq]
    · right
      refine ⟨by omega, by rw [hn, if_neg hlt], ?_⟩
      rw [zb_ph_55 hx.1 j1 j2, hq, ← zb_ph_qn hx.1 j1 j2 hc, show E b = E (d + 2) by omega, (zb_ph_ks hx.1 j1 j2).2.1]
end DAT
section DAT
variable {C R : eM} {N S : Nat}
def zb_LM (C R : eM) (N S d : Nat) : Prop := ∃ n x : Nat, fn_176 (d : Int) R = some ((d + 2 : Nat) : Int) ∧ d + 2 < 20000 ∧ R 55 (d + 2) = (n : Int) ∧ fn_58 ((d + 2 : Nat) : Int) C = some (n : Int) ∧ n ≤ 8 ∧ zb_scpW C R N S d n ∧ R 53 (d + 2) = (x : Int) ∧ C 5 (d + 2) = (x : Int) ∧ zb_KX C R N S d x 2 ∧ d + 2 < x
def zb_LETX (C R : eM) (N S d : Nat) : Prop := ∃ n x : Nat, fn_176 (d : Int) R = some ((d + 2 : Nat) : Int) ∧ d + 2 < 20000 ∧ R 55 (d + 2) = (n : Int) ∧ n ≤ 8 ∧ zb_scpW C R N S d n ∧ R 53 (d + 2) = (x : Int) ∧ C 5 (d + 2) = (x : Int) ∧ zb_KX C R N S d x 2 ∧ ((n = 0 ∧ R 51 (d + 2) = -1 ∧ x = d + 3) ∨ (R 51 (d + 2) = ((d + 3 : Nat) : Int) ∧ zb_KB C R N S d (d + 3) 0))
def zb_NMD (C R : eM) (N d : Nat) : Prop := fn_176 (d : Int) R = some ((d + 2 : Nat) : Int) ∧ d + 3 < 20000 ∧ R 53 (d + 2) = ((d + 3 : Nat) : Int) ∧ ∃ n : Nat, n < N ∧ R 50 (d + 2) = (n : Int) ∧ C 4 (d + 2) = 8589934592 + (n : Int)
def zb_FX (C R : eM) (N S d ro f : Nat) : Prop :=
  (f = 0 ∧ zb_QT C R N S d ∧ fn_176 (d : Int) R = some ((d + 2 : Nat) : Int))
  ∨ (f = 1 ∧ zb_KX C R N S d (d + 2) 1 ∧ fn_208 (d : Int) R = some ((d + 2 : Nat) : Int) ∧ (R 55 d = 3 ∨ R 55 d = 4))
  ∨ ((f = 2 ∨ (f = 3 ∧ ro = 2)) ∧ zb_NMD C R N d ∧ zb_KX C R N S d (d + 3) 2)
  ∨ (f = 4 ∧ zb_lamW C R N S d)
  ∨ (f = 5 ∧ zb_LETX C R N S d)
  ∨ ((f = 6 ∨ f = 7) ∧ zb_KX C R N S d (d + 2) 1 ∧ fn_208 (d : Int) R = some ((d + 2 : Nat) : Int) ∧ fn_176 (d : Int) R = some ((d + 2 : Nat) : Int))
  ∨ ((f = 8 ∨ f = 9) ∧ ((fn_208 (d : Int) R = some (-1) ∧ C 5 d = C 5 (d + 1)) ∨ (zb_KX C R N S d (d + 2) 1 ∧ fn_208 (d : Int) R = some ((d + 2 : Nat) : Int))))
  ∨ (f = 10 ∧ zb_KX C R N S d (d + 1) 0 ∧ R 51 d = ((d + 1 : Nat) : Int) ∧ R 55 d ≤ 9)
theorem zb_hd_at {F S : Nat} {D E : Nat → Nat} (h : zb_PH C R F S N D E) {d f : Nat} (h1 : F ≤ d) (h2 : d < S) (h3 : d + 1 < E d) (hf : zb_fo R d f) (hf1 : f < 10) (hk : 2 ≤ zb_ks D E d) : E (d + 1) = d + 2 ∧ zb_ch D E d (d + 2) ∧ zb_qx D d (d + 2) = 1 ∧ fn_176 (d : Int) R = some ((d + 2 : Nat) : Int) := by
  have k1 := zb_ph_first h h1 h2 h3
  obtain ⟨m1, m2, m3, m4⟩ := zb_ph_in h h1 h2 k1
  have a4 := zb_ph_dr h m1 m2
  have hsp : R 49 (d + 1) = 3 := by
    rcases hf with ⟨_, z, _⟩ | ⟨z, _⟩
    · exact z.1
    · omega
  have hE1 : E (d + 1) = d + 2 := by rcases a4.2.2.2.1 with z | z <;> omega
  have q1 := zb_ph_qn h h1 h2 k1
  rw [zb_qx_first, hE1] at q1
  have hb2 : E (d + 1) < E d := by
    by_cases hz : E (d + 1) < E d
    · exact hz
    · exfalso
      rw [← hE1, show E (d + 1) = E d by omega, (zb_ph_ks h h1 h2).2.1] at q1
      omega
  have k2 := zb_ph_next h h1 h2 k1 hb2
  refine ⟨hE1, by rw [← hE1]; exact k2, q1, ?_⟩
  rw [zb_ph_second h h1 h2 h3, if_pos hb2, hE1]
theorem zb_f208 {F S : Nat} {D E : Nat → Nat} (h : zb_PH C R F S N D E) {d : Nat} (h1 : F ≤ d) (h2 : d < S) : fn_208 (d : Int) R = if zb_ks D E d ≤ 1 then some (-1) else (fn_176 (d : Int) R).bind fun r4 => some r4 := by
  have ho := zb_ph_o h h1 h2
  unfold fn_208
  rw [if_pos (by omega), Int.toNat_natCast, zb_ph_55 h h1 h2]
  by_cases hq : zb_ks D E d ≤ 1
  · rw [if_pos hq, if_pos (by omega)]
  · rw [if_neg hq, if_neg (by omega)]
theorem zb_ph_58 {F S : Nat} {D E : Nat → Nat} (h : zb_PH C R F S N D E) {d : Nat} (h1 : F ≤ d) (h2 : d < S) : fn_58 (d : Int) C = some ((zb_ks D E d : Nat) : Int) := by
  obtain ⟨R', hR, hp⟩ := h
  exact zb_f58_ok hp h1 h2
theorem zb_scope_at {F S' : Nat} {Cg : eM} {D E : Nat → Nat} (hx : zb_PX C R N S F S' Cg D E) {d f : Nat} {zb_lt : Bool} (h1 : F ≤ d) (h2 : d < S') (h4 : R 49 d = 4) (h3 : d + 1 < E d) (hf : zb_fo R d f) (hf1 : f < 10) (hk : 3 ≤ zb_ks D E d) (h24 : R 49 (d + 2) = 4)
    (hro : Cg 13 (d - F) = 1 ∨ Cg 13 (d - F) = 2) (hm : zb_NML R D E d zb_lt) (hb : ∀ c, zb_ch D E d c → E (d + 2) ≤ c → Cg 13 (c - F) = 1) :
    ∃ n x : Nat, n = zb_ks D E (d + 2) ∧ fn_176 (d : Int) R = some ((d + 2 : Nat) : Int) ∧ d + 2 < 20000 ∧ R 55 (d + 2) = (n : Int) ∧ fn_58 ((d + 2 : Nat) : Int) C = some (n : Int) ∧ n ≤ 8 ∧ zb_scpW C R N S d n ∧ R 53 (d + 2) = (x : Int) ∧ x = E (d + 2) ∧ C 5 (d + 2) = (x : Int) ∧ zb_KX C R N S d x 2 ∧ zb_ch D E d (d + 2) := by
  obtain ⟨a1, a2, a3, a4⟩ := zb_hd_at hx.1 h1 h2 h3 hf hf1 (by omega)
  obtain ⟨j1, j2, j3, j4⟩ := zb_ph_in hx.1 h1 h2 a2
  have ho := zb_ph_o hx.1 h1 h2
  have hd2 : d + 2 < E d := a2.2.1
  have q2 := zb_ph_qn hx.1 h1 h2 a2
  have hlt : E (d + 2) < E d := by
    by_cases hz : E (d + 2) < E d
    · exact hz
    · exfalso
      rw [show E (d + 2) = E d by omega, (zb_ph_ks hx.1 h1 h2).2.1] at q2
      omega
  have k3 := zb_ph_next hx.1 h1 h2 a2 hlt
  refine ⟨_, E (d + 2), rfl, a4, by omega, zb_ph_55 hx.1 j1 j2, zb_ph_58 hx.1 j1 j2, ?_, ⟨F, S', Cg, D, E, hx, ⟨h1, h2, h4, a1, hd2, h24, zb_lt, hm⟩, rfl, hro⟩, ?_, rfl, (zb_ph_dr hx.1 j1 j2).2.1, ⟨F, S', Cg, D, E, hx, ⟨h1, h2, h4⟩, k3, by omega, fun y y1 y2 => hb y y1 y2⟩, a2⟩
  · refine zb_ph_cnt hx.1 j1 j2 (fun y hy => ?_)
    rcases hm with ⟨_, _, z⟩ | ⟨_, _, z⟩
    · exact (z y hy).2
    · exact (z y hy).2
  · rw [zb_ph_nx hx.1 h1 h2 a2, if_pos hlt]
theorem zb_lm_of {d : Nat} (h : zb_lamW C R N S d) : zb_LM C R N S d := by
  obtain ⟨F, S', Cg, D, E, hx, h1, h2, hf, h4, hro⟩ := h
  have hv := (hx.2.1 d h1 h2).1 hro
  rcases hv with ⟨z, _⟩ | ⟨_, h3, f', hf', hok, hv⟩
  · exact absurd h4 z
  have hff : f' = 4 := by
    rcases hf with ⟨a, b, c⟩ | ⟨a, b⟩
    · rcases hf' with ⟨a', b', c'⟩ | ⟨a', b'⟩
      · omega
      · exact absurd b b'
    · omega
  subst hff
  have hok1 := hok.1
  unfold zb_okb at hok1
  rcases hv with ⟨z, _⟩ | z | ⟨z, _⟩ | ⟨z, _⟩ | ⟨_, v1, v2, v3⟩ | ⟨z, _⟩
  any_goals omega
  obtain ⟨n, x, e0, e1, e2, e3, e4, e5, e6, e7, e8, e9, e10, e11⟩ := zb_scope_at (zb_lt := false) hx h1 h2 h4 h3 hf' (by omega) (by omega) v1 hro (Or.inr ⟨rfl, hf', fun b hb => ⟨(v2 b hb).1, (v2 b hb).2.2.1⟩⟩) v3
  exact ⟨n, x, e1, e2, e3, e4, e5, e6, e7, e9, e10, by rw [e8]; exact (zb_ph_in hx.1 h1 h2 e11).2.2.2⟩
theorem zb_ex_form {d ro : Nat} (h : zb_EX C R N S d ro) (hN : N ≤ 444) (h4 : R 49 d = 4) : ∃ f : Nat, f ≤ 10 ∧ fn_59 (d : Int) C = some (f : Int) ∧ fn_175 (d : Int) R = some (if f = 10 then -1 else (f : Int)) ∧ (f < 10 → C 5 (d + 1) = ((d + 2 : Nat) : Int)) ∧ d + 1 < 20000 ∧ zb_FX C R N S d ro f := by
  obtain ⟨F, S', Cg, D, E, hx, h1, h2, hro, hr12⟩ := h
  have hv := (hx.2.1 d h1 h2).1 (by omega)
  rcases hv with ⟨z, _⟩ | ⟨_, h3, f, hf, ⟨hok, hok3⟩, hv⟩
  · exact absurd h4 z
  have ho := zb_ph_o hx.1 h1 h2
  have hf10 : f ≤ 10 := by rcases hf with z | z <;> omega
  have k1 := zb_ph_first hx.1 h1 h2 h3
  obtain ⟨m1, m2, m3, m4⟩ := zb_ph_in hx.1 h1 h2 k1
  have a4 := zb_ph_dr hx.1 m1 m2
  refine ⟨f, hf10, zb_ph_cform hx.1 hN h1 h2 h3 hf, zb_ph_form hx.1 hN h1 h2 h4 h3 hf, fun hlt => ?_, by omega, ?_⟩
  · have hsp : R 49 (d + 1) = 3 := by
      rcases hf with ⟨_, z, _⟩ | ⟨z, _⟩
      · exact z.1
      · omega
    have hE1 : E (d + 1) = d + 2 := by rcases a4.2.2.2.1 with z | z <;> omega
    rw [a4.2.1, hE1]
  unfold zb_okb at hok
  have q0 := zb_ph_qn hx.1 h1 h2 k1
  rw [zb_qx_first] at q0
  have h208 := zb_f208 hx.1 h1 h2
  rcases hv with ⟨z, v⟩ | z | ⟨z, v⟩ | ⟨z, v1, v2, v3⟩ | ⟨z, v1, v2, v3⟩ | ⟨z, v1, v2, v3⟩
  · -- a call
    refine Or.inr (Or.inr (Or.inr (Or.inr (Or.inr (Or.inr (Or.inr ⟨z, ⟨F, S', Cg, D, E, hx, ⟨h1, h2, h4⟩, k1, zb_qx_first.symm, fun y y1 y2 => v y y1⟩, ?_, ?_⟩))))))
    · rw [zb_ph_51 hx.1 h1 h2, if_pos h3]
    · rw [zb_ph_55 hx.1 h1 h2]; omega
  · obtain ⟨a1, a2, a3, a5⟩ := zb_hd_at hx.1 h1 h2 h3 hf (by omega) (by omega)
    refine Or.inl ⟨z, ⟨F, S', Cg, D, E, hx, ⟨h1, h2⟩, a2, ?_⟩, a5⟩
    have q2 := zb_ph_qn hx.1 h1 h2 a2
    obtain ⟨j1, j2, j3, j4⟩ := zb_ph_in hx.1 h1 h2 a2
    by_cases hz : E (d + 2) < E d
    · exfalso
      have k3 := zb_ph_next hx.1 h1 h2 a2 hz
      have q3 := zb_ph_qn hx.1 h1 h2 k3
      have k4 := zb_ph_in hx.1 h1 h2 k3
      have h9 : zb_qx D d (E (E (d + 2))) ≤ zb_qx D d (E d) := by
        unfold zb_qx
        rw [show E d - (d + 1) = (E (E (d + 2)) - (d + 1)) + (E d - E (E (d + 2))) by omega, zb_ct_add]; omega
      rw [(zb_ph_ks hx.1 h1 h2).2.1] at h9
      omega
    · omega
  · by_cases hk2 : 2 ≤ zb_ks D E d
    · obtain ⟨a1, a2, a3, a5⟩ := zb_hd_at hx.1 h1 h2 h3 hf (by omega) hk2
      rw [if_neg (by omega), a5, Option.bind_some] at h208
      have kx : zb_KX C R N S d (d + 2) 1 := ⟨F, S', Cg, D, E, hx, ⟨h1, h2, h4⟩, a2, a3.symm, fun y y1 y2 => v y y1 (by omega)⟩
      rcases z with z | z | z | z | z
      · exact Or.inr (Or.inl ⟨z, kx, h208, by rw [zb_ph_55 hx.1 h1 h2]; omega⟩)
      · exact Or.inr (Or.inr (Or.inr (Or.inr (Or.inr (Or.inl ⟨Or.inl z, kx, h208, a5⟩)))))
      · exact Or.inr (Or.inr (Or.inr (Or.inr (Or.inr (Or.inl ⟨Or.inr z, kx, h208, a5⟩)))))
      · exact Or.inr (Or.inr (Or.inr (Or.inr (Or.inr (Or.inr (Or.inl ⟨Or.inl z, Or.inr ⟨kx, h208⟩⟩))))))
      · exact Or.inr (Or.inr (Or.inr (Or.inr (Or.inr (Or.inr (Or.inl ⟨Or.inr z, Or.inr ⟨kx, h208⟩⟩))))))
    · rw [if_pos (by omega)] at h208
      have he : E (d + 1) = E d := by
        by_cases hz : E (d + 1) < E d
        · exfalso
          have k3 := zb_ph_next hx.1 h1 h2 k1 hz
          have q3 := zb_ph_qn hx.1 h1 h2 k3
          have k4 := zb_ph_in hx.1 h1 h2 k3
          have h9 : zb_qx D d (E (E (d + 1))) ≤ zb_qx D d (E d) := by
            unfold zb_qx
            rw [show E d - (d + 1) = (E (E (d + 1)) - (d + 1)) + (E d - E (E (d + 1))) by omega, zb_ct_add]; omega
          rw [(zb_ph_ks hx.1 h1 h2).2.1] at h9
          omega
        · omega
      have e5 : C 5 d = C 5 (d + 1) := by rw [(zb_ph_dr hx.1 h1 h2).2.1, a4.2.1, he]
      rcases z with z | z | z | z | z
      · omega
      · omega
      · omega
      · exact Or.inr (Or.inr (Or.inr (Or.inr (Or.inr (Or.inr (Or.inl ⟨Or.inl z, Or.inl ⟨h208, e5⟩⟩))))))
      · exact Or.inr (Or.inr (Or.inr (Or.inr (Or.inr (Or.inr (Or.inl ⟨Or.inr z, Or.inl ⟨h208, e5⟩⟩))))))
  · obtain ⟨a1, a2, a3, a5⟩ := zb_hd_at hx.1 h1 h2 h3 hf (by omega) (by omega)
    obtain ⟨j1, j2, j3, j4⟩ := zb_ph_in hx.1 h1 h2 a2
    have b4 := zb_ph_dr hx.1 j1 j2
    have hE2 : E (d + 2) = d + 3 := by rcases b4.2.2.2.1 with w | w <;> omega
    have q2 := zb_ph_qn hx.1 h1 h2 a2
    have hlt : E (d + 2) < E d := by
      by_cases hw : E (d + 2) < E d
      · exact hw
      · exfalso
        rw [show E (d + 2) = E d by omega, (zb_ph_ks hx.1 h1 h2).2.1] at q2
        omega
    have k3 := zb_ph_next hx.1 h1 h2 a2 hlt
    rw [hE2] at k3 q2
    have hvk := b4.2.2.1
    refine Or.inr (Or.inr (Or.inl ⟨?_, ⟨a5, by omega, ?_, ?_⟩, ⟨F, S', Cg, D, E, hx, ⟨h1, h2, h4⟩, k3, by omega, fun y y1 y2 => ?_⟩⟩))
    · rcases z with z | z
      · exact Or.inl z
      · have := hok3 z; exact Or.inr ⟨z, by omega⟩
    · rw [zb_ph_nx hx.1 h1 h2 a2, if_pos hlt, hE2]
    · refine ⟨(R 50 (d + 2)).toNat, ?_, ?_, ?_⟩
      all_goals unfold zb_vk at hvk; omega
    · have q3 := zb_ph_qn hx.1 h1 h2 k3
      by_cases hy : y = d + 3
      · rw [hy]; exact v3
      · exfalso
        have l1 := zb_ph_in hx.1 h1 h2 k3
        have hE3 : ¬ E (d + 3) ≤ y := by
          intro w
          have ky := zb_ph_in hx.1 h1 h2 y1
          have qy := zb_ph_qn hx.1 h1 h2 y1
          have h8 : zb_qx D d (E (d + 3)) ≤ zb_qx D d y := by
            unfold zb_qx
            rw [show y - (d + 1) = (E (d + 3) - (d + 1)) + (y - E (d + 3)) by omega, zb_ct_add]; omega
          have h9 : zb_qx D d (E y) ≤ zb_qx D d (E d) := by
            unfold zb_qx
            rw [show E d - (d + 1) = (E y - (d + 1)) + (E d - E y) by omega, zb_ct_add]; omega
          rw [(zb_ph_ks hx.1 h1 h2).2.1] at h9
          omega
        exact zb_ph_skip hx.1 h1 h2 k3 (by omega) (by omega) y1
  · exact Or.inr (Or.inr (Or.inr (Or.inl ⟨z, F, S', Cg, D, E, hx, h1, h2, by rw [z] at hf; exact hf, h4, by omega⟩)))
  · -- let
    have hVb : ∀ b, zb_ch D E (d + 2) b → ∃ l, F ≤ l ∧ l < b ∧ zb_ch D E l b ∧ Cg 14 (b - F) = (l : Int) ∧ zb_VLb R F D E b l Cg := by
      intro b hb
      have a2 := (zb_hd_at hx.1 h1 h2 h3 hf (by omega) (by omega)).2.1
      obtain ⟨j1, j2, j3, j4⟩ := zb_ph_in hx.1 h1 h2 a2
      obtain ⟨i1, i2, i3, i4⟩ := zb_ph_in hx.1 j1 j2 hb
      exact (hx.2.1 b i1 i2).2 (v2 b hb).1
    have hm : zb_NML R D E d true := by
      refine Or.inl ⟨rfl, by rw [z] at hf; exact hf, fun b hb => ?_⟩
      obtain ⟨l, l1, l2, l3, l4, l5, l6, l7, l8⟩ := hVb b hb
      have hl : l = d + 2 := by have := (v2 b hb).2; omega
      rw [hl] at l7
      exact ⟨l5, l7.1⟩
    obtain ⟨n, x, e0, e1, e2, e3, e4, e5, e6, e7, e8, e9, e10, e11⟩ := zb_scope_at (zb_lt := true) hx h1 h2 h4 h3 hf (by omega) (by omega) v1 (by omega) hm v3
    refine Or.inr (Or.inr (Or.inr (Or.inr (Or.inl ⟨z, n, x, e1, e2, e3, e5, e6, e7, e9, e10, ?_⟩))))
    obtain ⟨j1, j2, j3, j4⟩ := zb_ph_in hx.1 h1 h2 e11
    have h51 := zb_ph_51 hx.1 j1 j2
    by_cases hw : d + 2 + 1 < E (d + 2)
    · right
      rw [if_pos hw] at h51
      exact ⟨h51, F, S', Cg, D, E, hx, ⟨h1, h2, h4⟩, e11, zb_ph_first hx.1 j1 j2 hw, zb_qx_first.symm, fun y y1 => (v2 y y1).1⟩
    · left
      rw [if_neg hw] at h51
      have := (zb_ph_ks hx.1 j1 j2).2.2
      exact ⟨by omega, h51, by omega⟩
theorem zb_ex_at {d ro : Nat} (h : zb_EX C R N S d ro) : d < 20000 ∧ ∃ zb_dd : Nat, C 6 d = (zb_dd : Int) ∧ zb_dd ≤ 30 ∧ zb_vk (C 4 d) (R 49 d) (R 50 d) N := by
  obtain ⟨F, S', Cg, D, E, hx, h1, h2, hro, hr12⟩ := h
  have ho := zb_ph_o hx.1 h1 h2
  have hd := zb_ph_dr hx.1 h1 h2
  exact ⟨by omega, D d, hd.1, hd.2.2.2.2, hd.2.2.1⟩
end DAT
