section SHP
variable {C R : eM} {F S N : Nat} {D E : Nat → Nat}
def zb_gb (R : eM) (E : Nat → Nat) (zb_lt : Bool) (y : Nat) : Prop := R 49 (zb_nm zb_lt y) = 3 ∧ (zb_lt = true → R 49 y = 4 ∧ y + 1 < E y)
theorem zb_val_eq (h : zb_PG C R F S N D E) (hN : N ≤ 444) {a b : Nat} (a1 : F ≤ a) (a2 : a < S) (b1 : F ≤ b) (b2 : b < S) (ha : R 49 a = 3) (hb : R 49 b = 3) : (C 4 a = C 4 b) ↔ (R 50 a = R 50 b) := by
  have h1 := (h.2.2 a a1 a2).2.2.1
  have h2 := (h.2.2 b b1 b2).2.2.1
  have e1 : C 4 a = 8589934592 + R 50 a := by unfold zb_vk at h1; omega
  have e2 : C 4 b = 8589934592 + R 50 b := by unfold zb_vk at h2; omega
  rw [e1, e2]; omega
theorem zb_f67 (h : zb_PG C R F S N D E) (hN : N ≤ 444) {l x0 : Nat} {zb_lt : Bool} (h1 : F ≤ l) (h2 : l < S) (hx0 : zb_ch D E l x0) (hg : ∀ y, zb_ch D E l y → y ≤ x0 → zb_gb R E zb_lt y) : ∀ (m y : Nat), x0 - y = m → zb_ch D E l y → y ≤ x0 → ∃ z, y ≤ z ∧ z ≤ x0 ∧ zb_ch D E l z ∧ R 50 (zb_nm zb_lt z) = R 50 (zb_nm zb_lt x0) ∧ (∀ w, zb_ch D E l w → y ≤ w → w < z → R 50 (zb_nm zb_lt w) ≠ R 50 (zb_nm zb_lt x0)) ∧ lp (fun q => fn_67_6 (l : Int) (C 4 (zb_nm zb_lt x0)) C q.1 q.2) ((zb_qx D l y : Int), (y : Int)) = some (zb_qx D l z : Int) := by
  have zb_hS := h.1
  obtain ⟨x1, x2, x3⟩ := zb_ch_in h h1 h2 hx0
  have gx := hg x0 hx0 (Nat.le_refl _)
  have hnx : F ≤ zb_nm zb_lt x0 ∧ zb_nm zb_lt x0 < S := by
    cases zb_lt with
    | false => exact ⟨x1, x2⟩
    | true =>
      have := (gx.2 rfl).2
      have zb_hE := (zb_pg_o h x1 x2).2.1
      exact ⟨by show F ≤ x0 + 1; omega, by show x0 + 1 < S; omega⟩
  intro m
  induction m using Nat.strongRecOn with
  | ind m ih =>
    intro y hm hy hyx
    obtain ⟨y1, y2, y3⟩ := zb_ch_in h h1 h2 hy
    obtain ⟨u1, u2, _⟩ := zb_pg_o h y1 y2
    have gy := hg y hy hyx
    have hny : F ≤ zb_nm zb_lt y ∧ zb_nm zb_lt y < S := by
      cases zb_lt with
      | false => exact ⟨y1, y2⟩
      | true =>
        have := (gy.2 rfl).2
        exact ⟨by show F ≤ y + 1; omega, by show y + 1 < S; omega⟩
    have hve := zb_val_eq h hN hny.1 hny.2 hnx.1 hnx.2 gy.1 gx.1
    obtain ⟨v1, v2, v3, v4⟩ := zb_vk_tag (h.2.2 y y1 y2).2.2.1 hN
    have hlE := hy.2.1
    have hq : zb_qx D l y ≤ 2000 := Nat.le_trans zb_ct_le (by omega)
    have body : fn_67_6 (l : Int) (C 4 (zb_nm zb_lt x0)) C (zb_qx D l y : Int) (y : Int) = if ¬ C 4 (zb_nm zb_lt y) = C 4 (zb_nm zb_lt x0) then some (.inl (((zb_qx D l y + 1 : Nat) : Int), (E y : Int))) else some (.inr (zb_qx D l y : Int)) := by
      unfold fn_67_6
      rw [if_pos (by omega), Int.toNat_natCast, (h.2.2 l h1 h2).2.1, if_neg (by omega), if_pos (by omega), Int.toNat_natCast, (h.2.2 y y1 y2).2.1, zb_wi_1 (by omega)]
      cases zb_lt with
      | false =>
        have h3 : R 49 y = 3 := gy.1
        rw [if_pos (fun z => by have := v2.mp z; omega)]; rfl
      | true =>
        rw [if_neg (fun z => z (v2.mpr (gy.2 rfl).1)), zb_wi_1 (by omega), if_pos (by have := (gy.2 rfl).2; omega), Int.toNat_natCast]; rfl
    by_cases hq2 : R 50 (zb_nm zb_lt y) = R 50 (zb_nm zb_lt x0)
    · refine ⟨y, Nat.le_refl _, hyx, hy, hq2, fun w w1 w2 w3 => by omega, lp2_inr ?_⟩
      rw [body, if_neg (fun z => z (hve.mpr hq2))]
    · have hne : y ≠ x0 := fun e => hq2 (by rw [e])
      have hle := zb_ch_le h h1 h2 hy hx0 (by omega)
      have hlx := hx0.2.1
      obtain ⟨z, z1, z2, z3, z4, z5, z6⟩ := ih (x0 - E y) (by omega) (E y) rfl (zb_ch_next h h1 h2 hy (by omega)) hle
      refine ⟨z, by omega, z2, z3, z4, fun w w1 w2 w3 => ?_, ?_⟩
      · by_cases hw : w = y
        · rw [hw]; exact hq2
        · exact z5 w w1 (zb_ch_le h h1 h2 hy w1 (by omega)) w3
      · have e1 : fn_67_6 (l : Int) (C 4 (zb_nm zb_lt x0)) C (zb_qx D l y : Int) (y : Int) = some (.inl ((zb_qx D l (E y) : Int), (E y : Int))) := by
          rw [body, if_pos (fun z => hq2 (hve.mp z)), zb_qx_next h h1 h2 hy]
        exact (lp2_inl e1).trans z6
theorem zb_f66l (h : zb_PG C R F S N D E) {l x0 xn : Nat} {r : Int} (h1 : F ≤ l) (h2 : l < S) (hx0 : zb_ch D E l x0) (hxn : x0 ≤ xn) (hxn2 : xn < E x0) (hq8 : True) : ∀ (m y : Nat), x0 - y = m → zb_ch D E l y → y ≤ x0 → lp (fun q => fn_66_24 (xn : Int) (l : Int) r C q.1 q.2) ((zb_qx D l y : Int), (y : Int)) = some (if r = (zb_qx D l x0 : Int) ∧ zb_qx D l x0 < 8 then 1 else 0) := by
  have zb_hS := h.1
  obtain ⟨x1, x2, x3⟩ := zb_ch_in h h1 h2 hx0
  intro m
  induction m using Nat.strongRecOn with
  | ind m ih =>
    intro y hm hy hyx
    obtain ⟨y1, y2, y3⟩ := zb_ch_in h h1 h2 hy
    obtain ⟨u1, u2, _⟩ := zb_pg_o h y1 y2
    have hlE := hy.2.1
    have hq : zb_qx D l y ≤ 2000 := Nat.le_trans zb_ct_le (by omega)
    by_cases hyy : y = x0
    · subst hyy
      refine lp2_inr ?_
      unfold fn_66_24
      rw [if_pos (by omega), Int.toNat_natCast, (h.2.2 y y1 y2).2.1, if_pos (by omega)]
      by_cases ha : r = (zb_qx D l y : Int)
      · rw [if_neg (fun z => z ha)]
        by_cases hb : zb_qx D l y < 8
        · rw [if_neg (by omega), if_pos ⟨ha, hb⟩]
        · rw [if_pos (by omega), if_neg (fun z => hb z.2)]
      · rw [if_pos ha, if_neg (fun z => ha z.1)]
    · have hle := zb_ch_le h h1 h2 hy hx0 (by omega)
      have hlx := hx0.2.1
      have e1 : fn_66_24 (xn : Int) (l : Int) r C (zb_qx D l y : Int) (y : Int) = some (.inl ((zb_qx D l (E y) : Int), (E y : Int))) := by
        unfold fn_66_24
        rw [if_pos (by omega), Int.toNat_natCast, (h.2.2 y y1 y2).2.1, if_neg (by omega), zb_wi_1 (by omega), zb_qx_next h h1 h2 hy]
      rw [lp2_inl e1]
      exact ih (x0 - E y) (by omega) (E y) rfl (zb_ch_next h h1 h2 hy (by omega)) hle
theorem zb_f66 (h : zb_PG C R F S N D E) (hN : N ≤ 444) (hcx : zb_CX C R F S) {l x0 : Nat} {zb_lt : Bool} (h1 : F ≤ l) (h2 : l < S) (hx0 : zb_ch D E l x0) (hg : ∀ y, zb_ch D E l y → y ≤ x0 → zb_gb R E zb_lt y) (h14 : C 14 (zb_nm zb_lt x0 - F) = (l : Int)) : ∃ b : Int, fn_66 ((zb_nm zb_lt x0 : Nat) : Int) C = some b ∧ ((b = 1 ∧ zb_fr R D E l x0 zb_lt) ∨ (b = 0 ∧ ¬ zb_fr R D E l x0 zb_lt)) := by
  have zb_hS := h.1
  obtain ⟨x1, x2, x3⟩ := zb_ch_in h h1 h2 hx0
  obtain ⟨u1, u2, _⟩ := zb_pg_o h x1 x2
  have gx := hg x0 hx0 (Nat.le_refl _)
  have hnx : x0 ≤ zb_nm zb_lt x0 ∧ zb_nm zb_lt x0 < E x0 := by
    cases zb_lt with
    | false => exact ⟨Nat.le_refl _, u1⟩
    | true =>
      have := (gx.2 rfl).2
      exact ⟨by show x0 ≤ x0 + 1; omega, this⟩
  have hlE := hx0.2.1
  have hl0 := hx0.1
  have hf := zb_ch_first h h1 h2 (by omega)
  obtain ⟨z, z1, z2, z3, z4, z5, z6⟩ := zb_f67 h hN h1 h2 hx0 hg _ (l + 1) rfl hf (by omega)
  have hcnt := zb_f66l (C := C) (xn := zb_nm zb_lt x0) (r := (zb_qx D l z : Int)) h h1 h2 hx0 hnx.1 hnx.2 trivial _ (l + 1) rfl hf (by omega)
  rw [zb_qx_first] at z6 hcnt
  refine ⟨if (zb_qx D l z : Int) = (zb_qx D l x0 : Int) ∧ zb_qx D l x0 < 8 then 1 else 0, ?_, ?_⟩
  · unfold fn_66 fn_67
    rw [hcx.1, zb_wi_sub (by omega) (by omega), if_pos (by omega), if_pos (by omega), Int.toNat_natCast, Int.toNat_natCast, h14, zb_wi_1 (by omega)]
    rw [show ((0 : Nat) : Int) = 0 from rfl] at z6 hcnt
    rw [z6, Option.bind_some]
    exact hcnt
  · by_cases hq : (zb_qx D l z : Int) = (zb_qx D l x0 : Int) ∧ zb_qx D l x0 < 8
    · rw [if_pos hq]
      left
      refine ⟨rfl, hq.2, fun w w1 w2 => ?_⟩
      have hzx : z = x0 := by
        by_cases hz : z < x0
        · have := zb_ch_le h h1 h2 z3 hx0 hz
          have e2 := zb_qx_next h h1 h2 z3
          have : zb_qx D l (E z) ≤ zb_qx D l x0 := by
            unfold zb_qx
            rw [show x0 - (l + 1) = (E z - (l + 1)) + (x0 - E z) by have := z3.1; have := (zb_ch_in h h1 h2 z3).1; have := (zb_pg_o h (zb_ch_in h h1 h2 z3).1 (zb_ch_in h h1 h2 z3).2.1).1; omega, zb_ct_add]
            omega
          omega
        · omega
      rw [hzx] at z5
      exact z5 w w1 (by have := w1.1; omega) w2
    · rw [if_neg hq]
      right
      refine ⟨rfl, fun hfr => hq ⟨?_, hfr.1⟩⟩
      have hzx : z = x0 := by
        by_cases hz : z < x0
        · exact absurd z4 (hfr.2 z z3 hz)
        · omega
      rw [hzx]
theorem zb_f180l (h : zb_PG C R F S N D E) {l x0 : Nat} {zb_lt : Bool} {x2 : Int} (h1 : F ≤ l) (h2 : l < S) (hx0 : zb_ch D E l x0) (hg : ∀ y, zb_ch D E l y → y ≤ x0 → zb_gb R E zb_lt y) : ∀ (m y : Nat), x0 - y = m → zb_ch D E l y → y ≤ x0 →
    ((∀ w, zb_ch D E l w → y ≤ w → w < x0 → R 50 (zb_nm zb_lt w) ≠ R 50 (zb_nm zb_lt x0)) ∧ lp (fun q => fn_180_31 (l : Int) x2 (zb_qx D l x0 : Int) (if zb_lt then 1 else 0) ((zb_nm zb_lt x0 : Nat) : Int) R q.1 q.2) ((y : Int), (zb_qx D l y : Int)) = some (0, R)) ∨ ((¬ ∀ w, zb_ch D E l w → y ≤ w → w < x0 → R 50 (zb_nm zb_lt w) ≠ R 50 (zb_nm zb_lt x0)) ∧ lp (fun q => fn_180_31 (l : Int) x2 (zb_qx D l x0 : Int) (if zb_lt then 1 else 0) ((zb_nm zb_lt x0 : Nat) : Int) R q.1 q.2) ((y : Int), (zb_qx D l y : Int)) = some (3, eg_u R 45 2 (R 56 (zb_nm zb_lt x0)))) := by
  have zb_hS := h.1
  obtain ⟨x1, x2', x3⟩ := zb_ch_in h h1 h2 hx0
  have gx := hg x0 hx0 (Nat.le_refl _)
  have hnx : zb_nm zb_lt x0 < S := by
    cases zb_lt with
    | false => exact x2'
    | true =>
      have := (gx.2 rfl).2
      have zb_hE := (zb_pg_o h x1 x2').2.1
      show x0 + 1 < S; omega
  intro m
  induction m using Nat.strongRecOn with
  | ind m ih =>
    intro y hm hy hyx
    obtain ⟨y1, y2, y3⟩ := zb_ch_in h h1 h2 hy
    obtain ⟨u1, u2, _⟩ := zb_pg_o h y1 y2
    have gy := hg y hy hyx
    have hlE := hy.2.1
    have hq : zb_qx D l y ≤ 2000 := Nat.le_trans zb_ct_le (by omega)
    by_cases hyy : y = x0
    · subst hyy
      left
      refine ⟨fun w w1 w2 w3 => by omega, lp2_inr ?_⟩
      unfold fn_180_31
      rw [if_pos (by omega)]
    · have hle := zb_ch_le h h1 h2 hy hx0 (by omega)
      have hlx := hx0.2.1
      have hny : zb_nm zb_lt y < S := by
        cases zb_lt with
        | false => exact y2
        | true =>
          have := (gy.2 rfl).2
          show y + 1 < S; omega
      have hq1 := zb_qx_next h h1 h2 hy
      have hqx : zb_qx D l (E y) ≤ zb_qx D l x0 := by
        have hlt := (zb_pg_o h y1 y2).1
        have hly := hy.1
        unfold zb_qx
        rw [show x0 - (l + 1) = (E y - (l + 1)) + (x0 - E y) by omega, zb_ct_add]
        omega
      have body : fn_180_31 (l : Int) x2 (zb_qx D l x0 : Int) (if zb_lt then 1 else 0) ((zb_nm zb_lt x0 : Nat) : Int) R (y : Int) (zb_qx D l y : Int) = if ¬ R 50 (zb_nm zb_lt y) = R 50 (zb_nm zb_lt x0) then some (.inl ((E y : Int), (zb_qx D l (E y) : Int))) else some (.inr (3, eg_u R 45 2 (R 56 (zb_nm zb_lt x0)))) := by
        have h53 : R 53 y = (E y : Int) := by rw [zb_r53 h h1 h2 hy, if_pos (by omega)]
        have tail : ∀ a b : Int, fn_180_42 (l : Int) a b (if zb_lt then 1 else 0) ((zb_nm zb_lt x0 : Nat) : Int) (y : Int) (zb_qx D l y : Int) ((zb_nm zb_lt y : Nat) : Int) R = if ¬ R 50 (zb_nm zb_lt y) = R 50 (zb_nm zb_lt x0) then some (.inl ((E y : Int), (zb_qx D l (E y) : Int))) else some (.inr (3, eg_u R 45 2 (R 56 (zb_nm zb_lt x0)))) := by
          intro a b
          unfold fn_180_42
          rw [if_pos (by omega), if_pos (by omega), Int.toNat_natCast, Int.toNat_natCast]
          by_cases hv : R 50 (zb_nm zb_lt y) = R 50 (zb_nm zb_lt x0)
          · rw [if_neg (fun z => z hv), if_neg (fun z => z hv), zb_f173 (by omega)]; rfl
          · rw [if_pos hv, if_pos hv, if_pos (by omega), Int.toNat_natCast, h53, zb_wi_1 (by omega), hq1]
        unfold fn_180_31
        rw [if_neg (by omega)]
        cases zb_lt with
        | false =>
          rw [if_pos (show (if false = true then (1 : Int) else 0) = 0 from rfl)]
          exact tail _ _
        | true =>
          rw [if_neg (by decide), if_pos (by omega), Int.toNat_natCast, zb_r51 h y1 y2 (gy.2 rfl).2]
          exact tail _ _
      by_cases hv : R 50 (zb_nm zb_lt y) = R 50 (zb_nm zb_lt x0)
      · right
        refine ⟨fun z => z y hy (Nat.le_refl _) (by omega) hv, lp2_inr ?_⟩
        rw [body, if_neg (fun z => z hv)]
      · rw [if_pos hv] at body
        have nx := zb_ch_next h h1 h2 hy (by omega)
        rcases ih (x0 - E y) (by omega) (E y) rfl nx hle with ⟨z1, z2⟩ | ⟨z1, z2⟩
        · left
          refine ⟨fun w w1 w2 w3 => ?_, (lp2_inl body).trans z2⟩
          by_cases hw : w = y
          · rw [hw]; exact hv
          · exact z1 w w1 (zb_ch_le h h1 h2 hy w1 (by omega)) w3
        · right
          exact ⟨fun z => z1 (fun w w1 w2 w3 => z w w1 (by omega) w3), (lp2_inl body).trans z2⟩
theorem zb_f180 (h : zb_PG C R F S N D E) (hN : N ≤ 444) {l x0 : Nat} {zb_lt : Bool} (h1 : F ≤ l) (h2 : l < S) (hx0 : zb_ch D E l x0) (hg : ∀ y, zb_ch D E l y → y < x0 → zb_gb R E zb_lt y) (hlt : zb_lt = true → R 49 x0 = 4 ∧ x0 + 1 < E x0) (hq8 : zb_qx D l x0 ≤ 8) :
    (R 49 (zb_nm zb_lt x0) = 3 ∧ ¬ zb_sp R (zb_nm zb_lt x0) ∧ zb_fr R D E l x0 zb_lt ∧ fn_180 (l : Int) (x0 : Int) (zb_qx D l x0 : Int) (if zb_lt then 1 else 0) R = some (0, R)) ∨ (¬ (R 49 (zb_nm zb_lt x0) = 3 ∧ ¬ zb_sp R (zb_nm zb_lt x0) ∧ zb_fr R D E l x0 zb_lt) ∧ fn_180 (l : Int) (x0 : Int) (zb_qx D l x0 : Int) (if zb_lt then 1 else 0) R = some (3, eg_u R 45 2 (R 56 (zb_nm zb_lt x0)))) := by
  have zb_hS := h.1
  obtain ⟨x1, x2, x3⟩ := zb_ch_in h h1 h2 hx0
  obtain ⟨u1, u2, _⟩ := zb_pg_o h x1 x2
  have hlE := hx0.2.1
  have hl0 := hx0.1
  have hnx : F ≤ zb_nm zb_lt x0 ∧ zb_nm zb_lt x0 < S := by
    cases zb_lt with
    | false => exact ⟨x1, x2⟩
    | true =>
      have := (hlt rfl).2
      exact ⟨by show F ≤ x0 + 1; omega, by show x0 + 1 < S; omega⟩
  have e8 : fn_180 (l : Int) (x0 : Int) (zb_qx D l x0 : Int) (if zb_lt then 1 else 0) R = fn_180_8 (l : Int) (x0 : Int) (zb_qx D l x0 : Int) (if zb_lt then 1 else 0) ((zb_nm zb_lt x0 : Nat) : Int) R := by
    unfold fn_180
    cases zb_lt with
    | false => rw [if_pos (show (if false = true then (1 : Int) else 0) = 0 from rfl)]; rfl
    | true => rw [if_neg (by decide), if_pos (by omega), Int.toNat_natCast, zb_r51 h x1 x2 (hlt rfl).2]; rfl
  rw [e8]
  obtain ⟨b, b1, b2, b3⟩ := zb_f64 h hN hnx.1 hnx.2
  obtain ⟨a, a1, a2, a3⟩ := zb_f60 h hN hnx.1 hnx.2
  have hbad : ∀ X : Option (Int × eM), (X = ((fn_173 ((zb_nm zb_lt x0 : Nat) : Int) R).bind fun r => some (r.1, r.2))) → X = some (3, eg_u R 45 2 (R 56 (zb_nm zb_lt x0))) := by
    intro X hX
    rw [hX, zb_f173 (by omega)]; rfl
  unfold fn_180_8
  rw [b2, Option.bind_some]
  by_cases hk : R 49 (zb_nm zb_lt x0) = 3
  · have hb : b = 1 := by
      rcases b3 with ⟨z, _⟩ | ⟨_, z⟩
      · exact z
      · exact absurd hk z
    rw [if_neg (by omega), a2, Option.bind_some]
    by_cases hs : zb_sp R (zb_nm zb_lt x0)
    · have ha : a = 1 := by
        rcases a3 with ⟨z, _⟩ | ⟨_, z⟩
        · exact z
        · exact absurd hs z
      rw [if_pos (by omega)]
      exact Or.inr ⟨fun z => z.2.1 hs, hbad _ rfl⟩
    · have ha : a = 0 := by
        rcases a3 with ⟨_, z⟩ | ⟨z, _⟩
        · exact absurd z hs
        · exact z
      rw [if_neg (by omega)]
      by_cases h8 : zb_qx D l x0 = 8
      · rw [if_neg (by omega)]
        exact Or.inr ⟨fun z => by have := z.2.2.1; omega, hbad _ rfl⟩
      · rw [if_pos (by omega), if_pos (by omega), Int.toNat_natCast, zb_r51 h h1 h2 (by omega)]
        have hg' : ∀ y, zb_ch D E l y → y ≤ x0 → zb_gb R E zb_lt y := by
          intro y y1 y2
          by_cases hy : y = x0
          · rw [hy]; exact ⟨hk, hlt⟩
          · exact hg y y1 (by omega)
        have := zb_f180l (x2 := (x0 : Int)) h h1 h2 hx0 hg' _ (l + 1) rfl (zb_ch_first h h1 h2 (by omega)) (by omega)
        rw [zb_qx_first] at this
        rcases this with ⟨z1, z2⟩ | ⟨z1, z2⟩
        · exact Or.inl ⟨hk, hs, ⟨by omega, fun w w1 w2 => z1 w w1 (by have := w1.1; omega) w2⟩, z2⟩
        · exact Or.inr ⟨fun z => z1 (fun w w1 w2 w3 => z.2.2.2 w w1 w3), z2⟩
  · have hb : b = 0 := by
      rcases b3 with ⟨_, z⟩ | ⟨z, _⟩
      · exact absurd z hk
      · exact z
    rw [if_pos hb]
    exact Or.inr ⟨fun z => hk z.1, hbad _ rfl⟩
end SHP
section SHP
variable {C R : eM} {F S N : Nat} {D E : Nat → Nat}
theorem zb_f56_r (h : zb_PG C R F S N D E) (hN : N ≤ 444) (hcx : zb_CX C R F S) {d : Nat} {r : Int} (hF : F ≤ d) (hd : d < S) (hr : C 13 (d - F) = r) : fn_56 (d : Int) C = 
    (if r = 3 then (fn_63 (d : Int) C).bind fun q => if q = 0 ∨ q = 1 then some (q, C) else none
     else if r = 4 then (fn_65 (d : Int) 5 C).bind fun m => some ((if R 49 d = 4 then 1 else 0), m)
     else if r = 5 then (fn_63 (d : Int) C).bind fun q => if q = 0 then some (0, C) else (fn_66 (d : Int) C).bind fun p => if p = 0 then some (0, C) else some (1, C)
     else if r = 6 then (fn_65 (d : Int) 7 C).bind fun m => some ((if R 49 d = 4 then 1 else 0), m)
     else if r = 7 then (if R 49 d = 4 then (fn_68 (d : Int) C).bind fun q => if q.1 = 0 then some (0, q.2) else some (1, q.2) else some (0, C))
     else fn_56 (d : Int) C) := by
  have zb_hS := h.1
  obtain ⟨g1, g2, g3, g4⟩ := zb_vk_tag (h.2.2 d hF hd).2.2.1 hN
  have key : r = 3 ∨ r = 4 ∨ r = 5 ∨ r = 6 ∨ r = 7 → fn_56 (d : Int) C = fn_56_11 (d : Int) (if R 49 d = 4 then 1 else 0) C := by
    intro _
    unfold fn_56
    rw [if_pos (by omega), Int.toNat_natCast]
    by_cases h4 : R 49 d = 4
    · rw [if_neg (fun z => z (g2.mpr h4)), if_pos h4]
    · rw [if_pos (fun z => h4 (g2.mp z)), if_neg h4]
  have k11 : ∀ y : Int, fn_56_11 (d : Int) y C = (if C 13 (d - F) = 1 then fn_56_11 (d : Int) y C else if C 13 (d - F) = 2 then fn_56_11 (d : Int) y C else if C 13 (d - F) = 3 then (fn_63 (d : Int) C).bind fun q => if q = 0 ∨ q = 1 then some (q, C) else none
     else if C 13 (d - F) = 4 then (fn_65 (d : Int) 5 C).bind fun m => if y = 0 ∨ y = 1 then some (y, m) else none
     else if C 13 (d - F) = 5 then (fn_63 (d : Int) C).bind fun q => if q = 0 then some (0, C) else (fn_66 (d : Int) C).bind fun p => if p = 0 then some (0, C) else some (1, C)
     else if C 13 (d - F) = 6 then (fn_65 (d : Int) 7 C).bind fun m => if y = 0 ∨ y = 1 then some (y, m) else none
     else if C 13 (d - F) = 7 then (if y = 0 then some (0, C) else (fn_68 (d : Int) C).bind fun q => if q.1 = 0 then some (0, q.2) else some (1, q.2)) else fn_56_11 (d : Int) y C) := by
    intro y
    by_cases c1 : C 13 (d - F) = 1
    · rw [if_pos c1]
    · rw [if_neg c1]
      by_cases c2 : C 13 (d - F) = 2
      · rw [if_pos c2]
      · rw [if_neg c2]
        have : fn_56_11 (d : Int) y C = fn_56_11 (d : Int) y C := rfl
        conv => lhs; unfold fn_56_11
        rw [hcx.1, zb_wi_sub hF (by omega), if_pos (by omega), Int.toNat_natCast, if_neg c1, if_neg c2]
        by_cases c3 : C 13 (d - F) = 3
        · rw [if_pos c3, if_pos c3]
        · rw [if_neg c3, if_neg c3]
          by_cases c4 : C 13 (d - F) = 4
          · rw [if_pos c4, if_pos c4]
          · rw [if_neg c4, if_neg c4]
            by_cases c5 : C 13 (d - F) = 5
            · rw [if_pos c5, if_pos c5]
            · rw [if_neg c5, if_neg c5]
              by_cases c6 : C 13 (d - F) = 6
              · rw [if_pos c6, if_pos c6]
              · rw [if_neg c6, if_neg c6]
                by_cases c7 : C 13 (d - F) = 7
                · rw [if_pos c7, if_pos c7]
                · rw [if_neg c7, if_neg c7]
                  conv => rhs; unfold fn_56_11
                  rw [hcx.1, zb_wi_sub hF (by omega), if_pos (by omega), Int.toNat_natCast, if_neg c1, if_neg c2, if_neg c3, if_neg c4, if_neg c5, if_neg c6, if_neg c7]
  by_cases c3 : r = 3
  · rw [if_pos c3, key (by omega), k11, hr, c3]; rfl
  · rw [if_neg c3]
    by_cases c4 : r = 4
    · rw [if_pos c4, key (by omega), k11, hr, c4]
      by_cases h4 : R 49 d = 4
      · rw [if_pos h4]; rfl
      · rw [if_neg h4]; rfl
    · rw [if_neg c4]
      by_cases c5 : r = 5
      · rw [if_pos c5, key (by omega), k11, hr, c5]; rfl
      · rw [if_neg c5]
        by_cases c6 : r = 6
        · rw [if_pos c6, key (by omega), k11, hr, c6]
          by_cases h4 : R 49 d = 4
          · rw [if_pos h4]; rfl
          · rw [if_neg h4]; rfl
        · rw [if_neg c6]
          by_cases c7 : r = 7
          · rw [if_pos c7, key (by omega), k11, hr, c7]
            by_cases h4 : R 49 d = 4
            · rw [if_pos h4, if_pos h4]; rfl
            · rw [if_neg h4, if_neg h4]; rfl
          · rw [if_neg c7]
end SHP
section SHP
variable {C R : eM} {F S N : Nat} {D E : Nat → Nat}
theorem zb_PG_45 (h : zb_PG C R F S N D E) {p : Int} : zb_PG C (eg_u R 45 2 p) F S N D E := h
theorem zb_form_go (h : zb_PG C R F S N D E) (hN : N ≤ 444) (hcx : zb_CX C R F S) {d f : Nat} {x : Int} (hF : F ≤ d) (hd : d < S) (hr : C 13 (d - F) = 1 ∨ C 13 (d - F) = 2) (h4 : R 49 d = 4) (hne : d + 1 < E d) (hf : zb_fo R d f) (hok : zb_okf f (zb_ks D E d) (C 13 (d - F) = 2)) {C' : eM} (zb_hC : fn_57_40 (d : Int) (f : Int) C = some (1, C')) : zb_clw x d C = zb_clw x (d + 1) C' := by
  have zb_hS := h.1
  refine zb_clw_ok hcx zb_hS.2.1 hd (r := 1) ?_ (by decide)
  have e57 : fn_57 (d : Int) C = fn_57_40 (d : Int) (f : Int) C := by
    rcases zb_f57 h hN hcx.1 hF hd hne hf with ⟨_, z⟩ | ⟨z, _⟩
    · exact z
    · exact absurd hok z
  rw [zb_f56_l h hN hcx hF hd hr h4, e57, zb_hC]; rfl
theorem zb_ev_set (h : zb_PG C R F S N D E) (hN : N ≤ 444) (hcx : zb_CX C R F S) {d k f : Nat} {x o : Int} {zb_pd : Nat → Nat} (hF : F ≤ d) (hd : d < S) (hr : C 13 (d - F) = 1 ∨ C 13 (d - F) = 2) (ho : (¬ o = 0) ↔ C 13 (d - F) = 2) (hz : ∀ y, d < y → y < E d → C 13 (y - F) = 0) (hk : R 45 23 = (k : Int)) (hk2 : k ≤ 2000)
    (h4 : R 49 d = 4) (hne : d + 1 < E d) (hf : zb_fo R d f) (hok : zb_okf f (zb_ks D E d) (C 13 (d - F) = 2)) (hfs : f = 2 ∨ f = 3) : zb_ER C R F S D E d k zb_pd (zb_VLs R F D E d) (zb_clw x d C) (zb_clw x) (fn_171 (d : Int) o R) := by
  have zb_hS := h.1
  obtain ⟨t1, t2, t3, t4, t5⟩ := zb_pg_o h hF hd
  have h174 := zb_f171_f (o := o) h hN hF hd h4 hne hf ⟨hok.1, fun z => ho.mpr (hok.2 z)⟩
  have h175 := zb_f175 h hN hF hd h4 hne hf
  rw [if_neg (by omega)] at h175
  obtain ⟨f1, f2, f3⟩ : f < 10 ∧ zb_sp R (d + 1) ∧ R 50 (d + 1) = (f : Int) := by
    rcases hf with z | ⟨z, _⟩
    · exact z
    · omega
  have hks : zb_ks D E d = 3 := by
    have := hok.1
    unfold zb_okb at this; omega
  obtain ⟨s1, s2⟩ := zb_two_in h hF hd f2.1 (by omega)
  obtain ⟨s3, s4⟩ := zb_three_in h hF hd f2.1 (by omega)
  obtain ⟨e176, c1, c2, c3⟩ := zb_f176 h hF hd f2.1 s1
  have c4 := zb_ch_next h hF hd c2 s3
  obtain ⟨d1, d2, d3⟩ := zb_ch_in h hF hd c4
  have hE2 := (zb_pg_o h (c := d + 2) (by omega) (by omega)).1
  have hlast : E (E (d + 2)) = E d := by
    have q := zb_qx_next h hF hd c4
    rw [s4] at q
    by_cases hq : E (E (d + 2)) < E d
    · have c5 := zb_ch_next h hF hd c4 hq
      have q2 := zb_qx_next h hF hd c5
      obtain ⟨g1, g2, g3⟩ := zb_ch_in h hF hd c5
      have gE := (zb_pg_o h g1 g2).1
      have : zb_qx D d (E (E (E (d + 2)))) ≤ zb_qx D d (E d) := by
        unfold zb_qx
        rw [show E d - (d + 1) = (E (E (E (d + 2))) - (d + 1)) + (E d - E (E (E (d + 2)))) by omega, zb_ct_add]
        omega
      rw [← zb_ks_qx, hks] at this
      omega
    · omega
  have hro1 : zb_RO C (eg_u C 13 (d + 2 - F) 3) := fun c a b => eg_u_ne a
  obtain ⟨C', g1, g2, g3, g4⟩ := zb_f61 (R := R) (b := ((E (d + 2) : Nat) : Int)) hF hd _ (E (d + 2)) (zb_PG_ro h hro1) (zb_CX_ro hcx hro1).1 rfl (Or.inl c4)
  have hro : zb_RO C C' := zb_RO_trans hro1 g2
  have hcx' := zb_CX_ro hcx hro
  have hpg' := zb_PG_ro h hro
  have eC : fn_57_40 (d : Int) (f : Int) C = some (1, C') := by
    unfold fn_57_40
    rw [if_pos (show ¬ (f : Int) = 10 by omega)]
    by_cases hf2 : f = 2
    · rw [if_pos (show (f : Int) = 2 by omega), zb_f62 h hcx hF (by omega), g1]; rfl
    · rw [if_neg (show ¬ (f : Int) = 2 by omega), if_neg (show ¬ ¬ (f : Int) = 3 by omega), zb_f62 h hcx hF (by omega), g1]; rfl
  have r13 : ∀ y, F ≤ y → y < S → y ≠ d + 2 → C' 13 (y - F) = if E (d + 2) ≤ y ∧ zb_ch D E d y then 1 else C 13 (y - F) := by
    intro y y1 y2 y3
    rw [g4 y y1 y2]
    have : (eg_u C 13 (d + 2 - F) 3) 13 (y - F) = C 13 (y - F) := by simp [eg_u]; omega
    rw [this]
  have r2 : C' 13 (d + 2 - F) = 3 := by
    rw [g4 (d + 2) (by omega) (by omega), if_neg (by omega)]; simp [eg_u]
  have w1 : zb_clw x d C = zb_clw x (d + 2) C' := by
    rw [zb_form_go h hN hcx hF hd hr h4 hne hf hok eC]
    refine zb_clw_0 hcx' zb_hS.2.1 zb_hS.2.2 (by omega) (by omega) ?_
    rw [r13 (d + 1) (by omega) (by omega) (by omega), if_neg (by omega)]
    exact hz (d + 1) (by omega) (by omega)
  obtain ⟨b, b1, b2⟩ := zb_f63 hpg' hN (c := d + 2) (by omega) (by omega)
  have e56 := zb_f56_r hpg' hN hcx' (d := d + 2) (by omega) (by omega) r2
  rw [if_pos rfl, b1, Option.bind_some] at e56
  obtain ⟨n1, m1, m2, m3⟩ := zb_f64 h hN (c := d + 2) (by omega) (by omega)
  obtain ⟨n2, m4, m5, m6⟩ := zb_f60 h hN (c := d + 2) (by omega) (by omega)
  have h53 : R 53 (d + 2) = (E (d + 2) : Int) := by rw [zb_r53 h hF hd c2, if_pos s3]
  have key : ∀ X : Option (Int × eM), ((fn_176 (d : Int) R).bind fun r20 => (fn_177 r20 R).bind fun r23 => if r23 = 0 then (fn_173 r20 R).bind fun r27 => some (r27.1, r27.2) else (fn_172 r20 R).bind fun r30 => if r30 = 0 then (if 0 ≤ r20 ∧ r20 < 20100 then (fn_178 (R 53 r20.toNat) 0 0 R).bind fun m36 => some (0, m36) else none) else (fn_173 r20 R).bind fun r38 => some (r38.1, r38.2)) = X → fn_171 (d : Int) o R = X := by
    intro X hX
    unfold fn_171
    rw [if_pos (by omega), Int.toNat_natCast, if_pos h4, h174, Option.bind_some, if_pos (by decide), h175, Option.bind_some, if_neg (show ¬ (f : Int) = -1 by omega), if_neg (show ¬ (f : Int) = 0 by omega), if_neg (show ¬ (f : Int) = 1 by omega)]
    by_cases hf2 : f = 2
    · rw [if_pos (show (f : Int) = 2 by omega)]; exact hX
    · rw [if_neg (show ¬ (f : Int) = 2 by omega), if_pos (show (f : Int) = 3 by omega)]; exact hX
  have eR1 : (R 49 (d + 2) = 3 ∧ ¬ zb_sp R (d + 2)) → fn_171 (d : Int) o R = some (0, zb_PU R k (E (d + 2) : Int) 0 0) := by
    intro hg
    refine key _ ?_
    have z1 : n1 = 1 := by
      rcases m3 with ⟨z, _⟩ | ⟨_, z⟩
      · exact z
      · exact absurd hg.1 z
    have z2 : n2 = 0 := by
      rcases m6 with ⟨_, z⟩ | ⟨z, _⟩
      · exact absurd z hg.2
      · exact z
    rw [e176, Option.bind_some, m2, Option.bind_some, if_neg (by omega), m5, Option.bind_some, if_pos z2, if_pos (by omega), Int.toNat_natCast, h53, zb_f178 hk (by omega)]; rfl
  have eR0 : ¬ (R 49 (d + 2) = 3 ∧ ¬ zb_sp R (d + 2)) → fn_171 (d : Int) o R = some (3, eg_u R 45 2 (R 56 (d + 2))) := by
    intro hg
    refine key _ ?_
    rw [e176, Option.bind_some, m2, Option.bind_some]
    by_cases hn : R 49 (d + 2) = 3
    · have z1 : n1 = 1 := by
        rcases m3 with ⟨z, _⟩ | ⟨_, z⟩
        · exact z
        · exact absurd hn z
      have z2 : n2 = 1 := by
        rcases m6 with ⟨z, _⟩ | ⟨_, z⟩
        · exact z
        · exact absurd ⟨hn, z⟩ hg
      rw [if_neg (by omega), m5, Option.bind_some, if_neg (by omega), zb_f173 (by omega)]; rfl
    · have z1 : n1 = 0 := by
        rcases m3 with ⟨_, z⟩ | ⟨z, _⟩
        · exact absurd z hn
        · exact z
      rw [if_pos z1, zb_f173 (by omega)]; rfl
  rcases b2 with ⟨b2, b3⟩ | ⟨b2, b3⟩
  · left
    have hatom := zb_sp_end h (c := d + 2) (by omega) (by omega) b3.1
    refine ⟨d + 3, C', zb_PU R k (E (d + 2) : Int) 0 0, k + 1, fun j => if j = k then E (d + 2) else zb_pd j, ?_, ?_, ?_, fun j hj => if_neg (by omega), ?_, fun y y1 y2 => ?_⟩
    · rw [w1]
      subst b2
      exact zb_clw_ok hcx' zb_hS.2.1 (by omega) e56 (by decide)
    · exact eR1 b3
    · refine ⟨by omega, by omega, hro, fun y y1 y2 y3 => ⟨?_, ?_⟩, by omega, rfl, ⟨?_, ?_, ?_⟩, fun j j1 j2 => ?_, fun j j1 j2 => by omega, fun y y1 y2 y3 => ?_⟩
      · rw [r13 y y1 y2 (by omega), if_neg (fun z => y3 ⟨z.2.1, z.2.2.1⟩)]
      · rw [g3]; rfl
      · intro c hc
        simp only [List.mem_cons, List.not_mem_nil, or_false, not_or] at hc
        funext j; simp [zb_PU, eg_u, hc]
      · intro f hf9; simp [zb_PU, eg_u, hf9]
      · intro j hj
        have : j ≠ k := by omega
        simp [zb_PU, eg_u, this]
      · have : j = k := by omega
        subst this
        dsimp only
        rw [if_pos rfl]
        refine ⟨by omega, c4.2.1, d3, Or.inl ⟨?_, by simp [zb_PU, eg_u]⟩⟩
        rw [r13 _ d1 d2 (by omega), if_pos ⟨Nat.le_refl _, c4⟩]
      · refine ⟨k, Nat.le_refl _, by omega, ?_⟩
        dsimp only
        rw [if_pos rfl]
        rw [r13 y (by omega) (by omega) (by omega)] at y3
        by_cases hq : E (d + 2) ≤ y ∧ zb_ch D E d y
        · by_cases hyy : y = E (d + 2)
          · exact hyy.symm
          · have := zb_ch_le h hF hd c4 hq.2 (by omega)
            omega
        · rw [if_neg hq, hz y (by omega) y2] at y3
          exact absurd rfl y3
    · refine Or.inr ⟨h4, hne, f, hf, ?_, Or.inr (Or.inr (Or.inr (Or.inl ⟨hfs, b3.1, b3.2, ?_⟩)))⟩
      · rw [r13 d hF hd (by omega), if_neg (by omega)]; exact hok
      · rw [show d + 3 = E (d + 2) by omega, r13 _ d1 d2 (by omega), if_pos ⟨Nat.le_refl _, c4⟩]
    · by_cases hy : y = d + 2
      · rw [hy, r2]; decide
      · rw [r13 y (by omega) (by omega) hy, if_neg (by omega), hz y y1 (by omega)]; decide
  · right
    subst b2
    refine ⟨d + 2, C', eg_u R 45 2 (R 56 (d + 2)), by omega, by omega, ?_, ?_, rfl, hro, zb_u2f⟩
    · rw [w1]
      exact zb_clw_bad hcx' zb_hS.2.1 zb_hS.2.2 (by omega) (by omega) zb_RO_refl e56
    · exact eR0 b3
end SHP
section SHP
variable {C R : eM} {F S N : Nat} {D E : Nat → Nat}
theorem zb_names_ev (h : zb_PG C R F S N D E) (hN : N ≤ 444) (hcx : zb_CX C R F S) {l : Nat} {x : Int} (h1 : F ≤ l) (h2 : l < S) (h13 : ∀ y, zb_ch D E l y → C 13 (y - F) = 5) (h14 : ∀ y, zb_ch D E l y → C 14 (y - F) = (l : Int)) : ∀ (m y : Nat), E l - y = m → zb_ch D E l y → zb_qx D l y ≤ 8 → (∀ w, zb_ch D E l w → w < y → zb_gb R E false w) →
    (zb_clw x y C = zb_clw x (E l) C ∧ lp (fun q => fn_179_17 (l : Int) q.1 q.2.1 q.2.2) ((y : Int), (zb_qx D l y : Int), R) = some (0, R) ∧ ∀ w, zb_ch D E l w → y ≤ w → R 49 w = 3 ∧ ¬ zb_sp R w ∧ zb_fr R D E l w false) ∨ (∃ z, zb_ch D E l z ∧ zb_clw x y C = some (R 56 z, C) ∧ lp (fun q => fn_179_17 (l : Int) q.1 q.2.1 q.2.2) ((y : Int), (zb_qx D l y : Int), R) = some (3, eg_u R 45 2 (R 56 z))) := by
  have zb_hS := h.1
  intro m
  induction m using Nat.strongRecOn with
  | ind m ih =>
    intro y hm hy hq8 hg
    obtain ⟨y1, y2, y3⟩ := zb_ch_in h h1 h2 hy
    obtain ⟨u1, u2, _⟩ := zb_pg_o h y1 y2
    have hlE := hy.2.1
    have hks : zb_qx D l y < zb_ks D E l := by
      have := zb_qx_next h h1 h2 hy
      have hle : zb_qx D l (E y) ≤ zb_ks D E l := by
        rw [zb_ks_qx]
        have hly := hy.1
        unfold zb_qx
        rw [show E l - (l + 1) = (E y - (l + 1)) + (E l - E y) by omega, zb_ct_add]
        omega
      omega
    have e56 := zb_f56_r h hN hcx y1 y2 (h13 y hy)
    rw [if_neg (by decide), if_neg (by decide), if_pos rfl] at e56
    obtain ⟨b, b1, b2⟩ := zb_f63 h hN y1 y2
    rw [b1, Option.bind_some] at e56
    have e179 : ∀ (g : Int) (R' : eM), fn_180 (l : Int) (y : Int) (zb_qx D l y : Int) 0 R = some (g, R') → fn_179_17 (l : Int) (y : Int) (zb_qx D l y : Int) R = if g ≤ 0 then some (.inl (R' 53 y, ((zb_qx D l y + 1 : Nat) : Int), R')) else some (.inr (g, R')) := by
      intro g R' hg9
      unfold fn_179_17
      rw [if_pos (by omega), Int.toNat_natCast, zb_r55 h h1 h2, if_neg (by omega), hg9, Option.bind_some, zb_wi_1 (by omega)]
      rw [if_pos (show 0 ≤ (y : Int) ∧ (y : Int) < 20100 by omega), Int.toNat_natCast]
    have hfr := zb_f180 (zb_lt := false) h hN h1 h2 hy hg (fun z => by cases z) hq8
    have bad : ¬ (R 49 y = 3 ∧ ¬ zb_sp R y ∧ zb_fr R D E l y false) → fn_56 (y : Int) C = some (0, C) → fn_180 (l : Int) (y : Int) (zb_qx D l y : Int) 0 R = some (3, eg_u R 45 2 (R 56 y)) → ∃ z, zb_ch D E l z ∧ zb_clw x y C = some (R 56 z, C) ∧ lp (fun q => fn_179_17 (l : Int) q.1 q.2.1 q.2.2) ((y : Int), (zb_qx D l y : Int), R) = some (3, eg_u R 45 2 (R 56 z)) := by
      intro _ hc hr
      refine ⟨y, hy, zb_clw_bad hcx zb_hS.2.1 zb_hS.2.2 y1 y2 zb_RO_refl hc, lp3_inr ?_⟩
      rw [e179 _ _ hr, if_neg (by decide)]
    rcases hfr with ⟨k1, k2, k3, k4⟩ | ⟨k1, k2⟩
    · have hb : b = 1 := by
        rcases b2 with ⟨z, _⟩ | ⟨_, z⟩
        · exact z
        · exact absurd ⟨k1, k2⟩ z
      have hgy : ∀ w, zb_ch D E l w → w ≤ y → zb_gb R E false w := by
        intro w w1 w2
        by_cases hw : w = y
        · rw [hw]; exact ⟨k1, fun z => by cases z⟩
        · exact hg w w1 (by omega)
      obtain ⟨p, p1, p2⟩ := zb_f66 (zb_lt := false) h hN hcx h1 h2 hy hgy (h14 y hy)
      have hp : p = 1 := by
        rcases p2 with ⟨z, _⟩ | ⟨_, z⟩
        · exact z
        · exact absurd k3 z
      have p1' : fn_66 (y : Int) C = some p := p1
      rw [if_neg (by omega), p1', Option.bind_some, if_neg (by omega)] at e56
      have hE1 := zb_sp_end h y1 y2 k1
      have st := zb_clw_ok (x := x) hcx zb_hS.2.1 y2 e56 (by decide)
      by_cases hlast : E y < E l
      · have nx := zb_ch_next h h1 h2 hy hlast
        have s2 : fn_179_17 (l : Int) (y : Int) (zb_qx D l y : Int) R = some (.inl ((E y : Int), (zb_qx D l (E y) : Int), R)) := by
          rw [e179 _ _ k4, if_pos (by decide), zb_r53 h h1 h2 hy, if_pos hlast, zb_qx_next h h1 h2 hy]
        have hq9 : zb_qx D l (E y) ≤ 8 := by rw [zb_qx_next h h1 h2 hy]; have := k3.1; omega
        have hg9 : ∀ w, zb_ch D E l w → w < E y → zb_gb R E false w := by
          intro w w1 w2
          exact hgy w w1 (by
            by_cases hw : y < w
            · exact absurd w1 (zb_ch_skip h h1 h2 hy hw w2)
            · omega)
        rcases ih (E l - E y) (by omega) (E y) rfl nx hq9 hg9 with ⟨z1, z2, z3⟩ | ⟨z, z1, z2, z3⟩
        · left
          refine ⟨?_, (lp3_inl s2).trans z2, fun w w1 w2 => ?_⟩
          · rw [st, ← hE1]; exact z1
          · by_cases hw : w = y
            · rw [hw]; exact ⟨k1, k2, k3⟩
            · exact z3 w w1 (zb_ch_le h h1 h2 hy w1 (by omega))
        · right
          refine ⟨z, z1, ?_, (lp3_inl s2).trans z3⟩
          rw [st, ← hE1]; exact z2
      · left
        have hEE : E y = E l := by omega
        refine ⟨by rw [st, ← hE1, hEE], ?_, fun w w1 w2 => ?_⟩
        · have s2 : fn_179_17 (l : Int) (y : Int) (zb_qx D l y : Int) R = some (.inl (-1, (zb_qx D l (E y) : Int), R)) := by
            rw [e179 _ _ k4, if_pos (by decide), zb_r53 h h1 h2 hy, if_neg hlast, zb_qx_next h h1 h2 hy]
          rw [lp3_inl s2]
          refine lp3_inr ?_
          unfold fn_179_17
          rw [if_pos (by omega), Int.toNat_natCast, zb_r55 h h1 h2, zb_ks_qx, hEE, if_pos (by omega)]
        · have hwy : w = y := by
            by_cases hw : y < w
            · have := zb_ch_le h h1 h2 hy w1 hw
              have := w1.2.1
              omega
            · omega
          rw [hwy]; exact ⟨k1, k2, k3⟩
    · right
      refine bad k1 ?_ k2
      rw [e56]
      rcases b2 with ⟨z1, z2⟩ | ⟨z1, z2⟩
      · rw [if_neg (by omega)]
        have hgy : ∀ w, zb_ch D E l w → w ≤ y → zb_gb R E false w := by
          intro w w1 w2
          by_cases hw : w = y
          · rw [hw]; exact ⟨z2.1, fun z => by cases z⟩
          · exact hg w w1 (by omega)
        obtain ⟨p, p1, p2⟩ := zb_f66 (zb_lt := false) h hN hcx h1 h2 hy hgy (h14 y hy)
        have p1' : fn_66 (y : Int) C = some p := p1
        have hp : p = 0 := by
          rcases p2 with ⟨_, z⟩ | ⟨z, _⟩
          · exact absurd ⟨z2.1, z2.2, z⟩ k1
          · exact z
        rw [p1', Option.bind_some, if_pos hp]
      · rw [if_pos z1]
end SHP
section SHP
variable {C R : eM} {F S N : Nat} {D E : Nat → Nat}
theorem zb_br_head (h : zb_PG C R F S N D E) (hN : N ≤ 444) (hcx : zb_CX C R F S) {d f : Nat} {x o : Int} (hF : F ≤ d) (hd : d < S) (hr : C 13 (d - F) = 1 ∨ C 13 (d - F) = 2) (hz : ∀ y, d < y → y < E d → C 13 (y - F) = 0)
    (h4 : R 49 d = 4) (hne : d + 1 < E d) (hf : zb_fo R d f) (hok : zb_okf f (zb_ks D E d) (C 13 (d - F) = 2)) (hfs : f = 4 ∨ f = 5) {rl rb : Int} (hrl : (f = 4 ∧ rl = 4 ∧ rb = 5) ∨ (f = 5 ∧ rl = 6 ∧ rb = 7)) :
    zb_ch D E d (d + 2) ∧ E (d + 2) < E d ∧ fn_176 (d : Int) R = some ((d + 2 : Nat) : Int) ∧ ∃ C'' : eM, zb_RO C C'' ∧ C'' 13 (d + 2 - F) = rl ∧ (∀ y, F ≤ y → y < S → y ≠ d + 2 → C'' 13 (y - F) = if zb_ch D E (d + 2) y then rb else if E (d + 2) ≤ y ∧ zb_ch D E d y then 1 else C 13 (y - F)) ∧ (∀ y, F ≤ y → y < S → C'' 14 (y - F) = if zb_ch D E (d + 2) y then ((d + 2 : Nat) : Int) else C 14 (y - F))
      ∧ ((R 49 (d + 2) = 4 ∧ zb_clw x d C = zb_clw x (d + 3) C'') ∨ (¬ R 49 (d + 2) = 4 ∧ zb_clw x d C = some (R 56 (d + 2), C''))) := by
  have zb_hS := h.1
  obtain ⟨t1, t2, t3, t4, t5⟩ := zb_pg_o h hF hd
  obtain ⟨f1, f2, f3⟩ : f < 10 ∧ zb_sp R (d + 1) ∧ R 50 (d + 1) = (f : Int) := by
    rcases hf with z | ⟨z, _⟩
    · exact z
    · omega
  have hks : 3 ≤ zb_ks D E d := by
    have := hok.1
    unfold zb_okb at this; omega
  obtain ⟨s1, s2⟩ := zb_two_in h hF hd f2.1 (by omega)
  obtain ⟨s3, s4⟩ := zb_three_in h hF hd f2.1 (by omega)
  obtain ⟨e176, c1, c2, c3⟩ := zb_f176 h hF hd f2.1 s1
  have c4 := zb_ch_next h hF hd c2 s3
  have hE2 := (zb_pg_o h (c := d + 2) (by omega) (by omega)).1
  refine ⟨c2, s3, e176, ?_⟩
  have hro1 : zb_RO C (eg_u C 13 (d + 2 - F) rl) := fun c a b => eg_u_ne a
  obtain ⟨C', g1, g2, g3, g4⟩ := zb_f61 (R := R) (b := ((E (d + 2) : Nat) : Int)) hF hd _ (E (d + 2)) (zb_PG_ro h hro1) (zb_CX_ro hcx hro1).1 rfl (Or.inl c4)
  have hro : zb_RO C C' := zb_RO_trans hro1 g2
  have hcx' := zb_CX_ro hcx hro
  have hpg' := zb_PG_ro h hro
  have eC : fn_57_40 (d : Int) (f : Int) C = some (1, C') := by
    unfold fn_57_40
    rw [if_pos (show ¬ (f : Int) = 10 by omega), if_neg (show ¬ (f : Int) = 2 by omega), if_pos (show ¬ (f : Int) = 3 by omega)]
    rcases hrl with ⟨z1, z2, z3⟩ | ⟨z1, z2, z3⟩
    · rw [if_neg (show ¬ ¬ (f : Int) = 4 by omega), ← z2, zb_f62 h hcx hF (by omega), g1]; rfl
    · rw [if_pos (show ¬ (f : Int) = 4 by omega), if_neg (show ¬ ¬ (f : Int) = 5 by omega), ← z2, zb_f62 h hcx hF (by omega), g1]; rfl
  have r13 : ∀ y, F ≤ y → y < S → y ≠ d + 2 → C' 13 (y - F) = if E (d + 2) ≤ y ∧ zb_ch D E d y then 1 else C 13 (y - F) := by
    intro y y1 y2 y3
    rw [g4 y y1 y2]
    have : (eg_u C 13 (d + 2 - F) rl) 13 (y - F) = C 13 (y - F) := by simp [eg_u]; omega
    rw [this]
  have r2 : C' 13 (d + 2 - F) = rl := by
    rw [g4 (d + 2) (by omega) (by omega), if_neg (by omega)]; simp [eg_u]
  have w1 : zb_clw x d C = zb_clw x (d + 2) C' := by
    rw [zb_form_go h hN hcx hF hd hr h4 hne hf hok eC]
    refine zb_clw_0 hcx' zb_hS.2.1 zb_hS.2.2 (by omega) (by omega) ?_
    rw [r13 (d + 1) (by omega) (by omega) (by omega), if_neg (by omega)]
    exact hz (d + 1) (by omega) (by omega)
  have hst : zb_ch D E (d + 2) (d + 3) ∨ d + 3 = E (d + 2) := by
    by_cases hq : d + 3 < E (d + 2)
    · exact Or.inl (zb_ch_first h (c := d + 2) (by omega) (by omega) hq)
    · exact Or.inr (by omega)
  obtain ⟨C'', k1, k2, k3, k4⟩ := zb_f65 (R := R) (b := rb) (c := d + 2) (by omega) (by omega) _ (d + 3) hpg' hcx'.1 rfl hst
  have hro2 := zb_RO_trans hro k2
  have e65 : fn_65 ((d + 2 : Nat) : Int) rb C' = some C'' := by
    unfold fn_65
    rw [zb_wi_1 (by omega)]; exact k1
  have e56 : fn_56 ((d + 2 : Nat) : Int) C' = some ((if R 49 (d + 2) = 4 then 1 else 0), C'') := by
    have := zb_f56_r hpg' hN hcx' (d := d + 2) (by omega) (by omega) r2
    rcases hrl with ⟨z1, z2, z3⟩ | ⟨z1, z2, z3⟩
    · subst z2; subst z3
      rw [if_neg (by decide), if_pos rfl, e65] at this; exact this
    · subst z2; subst z3
      rw [if_neg (by decide), if_neg (by decide), if_neg (by decide), if_pos rfl, e65] at this; exact this
  refine ⟨C'', hro2, ?_, fun y y1 y2 y3 => ?_, fun y y1 y2 => ?_, ?_⟩
  · rw [k3 (d + 2) (by omega) (by omega), if_neg (by omega)]; exact r2
  · rw [k3 y y1 y2]
    by_cases hc : zb_ch D E (d + 2) y
    · rw [if_pos ⟨by have := hc.1; omega, hc⟩, if_pos hc]
    · rw [if_neg (fun z => hc z.2), if_neg hc, r13 y y1 y2 y3]
  · rw [k4 y y1 y2]
    by_cases hc : zb_ch D E (d + 2) y
    · rw [if_pos ⟨by have := hc.1; omega, hc⟩, if_pos hc]
    · rw [if_neg (fun z => hc z.2), if_neg hc, g3]; rfl
  · by_cases h49 : R 49 (d + 2) = 4
    · left
      rw [if_pos h49] at e56
      exact ⟨h49, w1.trans (zb_clw_ok hcx' zb_hS.2.1 (by omega) e56 (by decide))⟩
    · right
      rw [if_neg h49] at e56
      exact ⟨h49, w1.trans (zb_clw_bad hcx' zb_hS.2.1 zb_hS.2.2 (by omega) (by omega) k2 e56)⟩
theorem zb_ev_lambda (h : zb_PG C R F S N D E) (hN : N ≤ 444) (hcx : zb_CX C R F S) {d k : Nat} {x o : Int} {zb_pd : Nat → Nat} (hF : F ≤ d) (hd : d < S) (hr : C 13 (d - F) = 1 ∨ C 13 (d - F) = 2) (ho : (¬ o = 0) ↔ C 13 (d - F) = 2) (hz : ∀ y, d < y → y < E d → C 13 (y - F) = 0) (hk : R 45 23 = (k : Int)) (hk2 : k ≤ 2000)
    (h4 : R 49 d = 4) (hne : d + 1 < E d) (hf : zb_fo R d 4) (hok : zb_okf 4 (zb_ks D E d) (C 13 (d - F) = 2)) : zb_ER C R F S D E d k zb_pd (zb_VLs R F D E d) (zb_clw x d C) (zb_clw x) (fn_171 (d : Int) o R) := by
  have zb_hS := h.1
  obtain ⟨t1, t2, t3, t4, t5⟩ := zb_pg_o h hF hd
  have h174 := zb_f171_f (o := o) h hN hF hd h4 hne hf ⟨hok.1, fun z => ho.mpr (hok.2 z)⟩
  have h175 := zb_f175 h hN hF hd h4 hne hf
  obtain ⟨c2, s3, e176, C'', ro2, rl2, r13, r14, hw⟩ := zb_br_head (x := x) (o := o) h hN hcx hF hd hr hz h4 hne hf hok (Or.inl rfl) (rl := 4) (rb := 5) (Or.inl ⟨rfl, rfl, rfl⟩)
  have hE2 := (zb_pg_o h (c := d + 2) (by omega) (by omega)).1
  obtain ⟨l1, l2, l3⟩ := zb_ch_in h hF hd c2
  have ref : ∀ (g : Int) (Rx : eM), fn_179 ((d + 2 : Nat) : Int) R = some (g, Rx) → (Rx = R ∨ ∃ p, Rx = eg_u R 45 2 p) → ∃ (R' : eM) (k' : Nat) (pd' : Nat → Nat), fn_171 (d : Int) o R = some (g, R') ∧ k ≤ k' ∧ R' 45 23 = (k' : Int) ∧ zb_RX Rx R' k ∧ (∀ j, j < k → pd' j = zb_pd j) ∧ (∀ j, k ≤ j → j < k' → E (d + 2) ≤ pd' j ∧ zb_ch D E d (pd' j) ∧ R' 59 j = (pd' j : Int)) ∧ (∀ j, k ≤ j → j + 1 < k' → E (pd' (j + 1)) ≤ pd' j) ∧ (∀ y, E (d + 2) ≤ y → zb_ch D E d y → ∃ j, k ≤ j ∧ j < k' ∧ pd' j = y) := by
    intro g Rx hg hRx
    have hpx : zb_PG C Rx F S N D E := by
      rcases hRx with z | ⟨p, z⟩
      · rw [z]; exact h
      · rw [z]; exact zb_PG_45 h
    have hkx : Rx 45 23 = (k : Int) := by
      rcases hRx with z | ⟨p, z⟩
      · rw [z]; exact hk
      · rw [z]; exact hk
    have hcxx : zb_CX C Rx F S := by
      rcases hRx with z | ⟨p, z⟩
      · rw [z]; exact hcx
      · rw [z]; exact hcx
    have e176x : fn_176 (d : Int) Rx = some ((d + 2 : Nat) : Int) := by
      rcases hRx with z | ⟨p, z⟩
      · rw [z]; exact e176
      · rw [z]; exact e176
    obtain ⟨C9, R', k', pd', _, _, _, _, g5, g6, g7, g8, g9, g10, g11, g12⟩ := zb_tell_push (x9 := Rx 52 d) (b := 0) (zb_pd := zb_pd) hpx hcxx hF hd hne (Or.inr ⟨d + 2, rfl, c2, rfl⟩) hkx hk2
    refine ⟨R', k', pd', ?_, g6, g7, g8, g9, g10, g11, g12⟩
    unfold fn_171 fn_181
    rw [if_pos (by omega), Int.toNat_natCast, if_pos h4, h174, Option.bind_some, if_pos (by decide), h175, Option.bind_some, if_neg (by decide), if_neg (by decide), if_neg (by decide), if_neg (by decide), if_neg (by decide), if_pos (by decide), e176, Option.bind_some, hg, Option.bind_some]
    dsimp only
    rw [e176x, Option.bind_some, g5]; rfl
  have fault : ∀ z, F ≤ z → z < S → fn_179 ((d + 2 : Nat) : Int) R = some (3, eg_u R 45 2 (R 56 z)) → zb_clw x d C = some (R 56 z, C'') → zb_ER C R F S D E d k zb_pd (zb_VLs R F D E d) (zb_clw x d C) (zb_clw x) (fn_171 (d : Int) o R) := by
    intro z z1 z2 z3 z4
    obtain ⟨R', k', pd', a1, a2, a3, a4, _⟩ := ref _ _ z3 (Or.inr ⟨_, rfl⟩)
    right
    exact ⟨z, C'', R', z1, z2, z4, a1, (a4.2.1 2 (by decide)).trans rfl, ro2, fun f f1 f2 => (a4.2.1 f f1).trans (zb_u2f f f1 f2)⟩
  rcases hw with ⟨w1, w2⟩ | ⟨w1, w2⟩
  · -- a list of names
    have e179 : fn_179 ((d + 2 : Nat) : Int) R = lp (fun q => fn_179_17 ((d + 2 : Nat) : Int) q.1 q.2.1 q.2.2) (R 51 (d + 2), 0, R) := by
      unfold fn_179
      rw [if_pos (by omega), Int.toNat_natCast, if_pos w1]
    have good : fn_179 ((d + 2 : Nat) : Int) R = some (0, R) → zb_clw x d C = zb_clw x (E (d + 2)) C'' → zb_NMS R D E (d + 2) → zb_ER C R F S D E d k zb_pd (zb_VLs R F D E d) (zb_clw x d C) (zb_clw x) (fn_171 (d : Int) o R) := by
      intro z3 z4 z5
      obtain ⟨R', k', pd', a1, a2, a3, a4, a5, a6, a7, a8⟩ := ref _ _ z3 (Or.inl rfl)
      left
      refine ⟨E (d + 2), C'', R', k', pd', z4, a1, zb_EV_of (C1 := C) (lo := E (d + 2)) h hF hd hz (by omega) (Nat.le_refl _) (by omega) ro2 (fun y y1 y2 y3 => ?_) (fun y y1 y2 y3 => ?_) a2 a3 a4 a6 a7 a8, a5, Or.inr ⟨h4, hne, 4, hf, ?_, Or.inr (Or.inr (Or.inr (Or.inr (Or.inl ⟨rfl, w1, z5, fun c hc hc2 => ?_⟩))))⟩, fun y y1 y2 => ?_⟩
      · rw [r14 y y1 y2, if_neg (fun z => y3 ⟨by have := z.1; omega, by have := z.2.1; omega⟩)]
      · rw [r13 y y1 y2 (by omega), if_neg (fun z => by have := z.1; have := z.2.1; omega)]
      · rw [r13 d hF hd (by omega), if_neg (fun z => by have := z.1; omega), if_neg (by omega)]; exact hok
      · obtain ⟨i1, i2, i3⟩ := zb_ch_in h hF hd hc
        rw [r13 c i1 i2 (by omega), if_neg (fun z => by have := z.2.1; omega), if_pos ⟨hc2, hc⟩]
      · by_cases hy : y = d + 2
        · rw [hy, rl2]; decide
        · rw [r13 y (by omega) (by omega) hy]
          by_cases hc : zb_ch D E (d + 2) y
          · rw [if_pos hc]; decide
          · rw [if_neg hc, if_neg (by omega), hz y y1 (by omega)]; decide
    by_cases hemp : d + 3 < E (d + 2)
    · have hf1 := zb_ch_first h (c := d + 2) (by omega) (by omega) hemp
      have n13 : ∀ y, zb_ch D E (d + 2) y → C'' 13 (y - F) = 5 := by
        intro y hy
        obtain ⟨q1, q2, q3⟩ := zb_ch_in h (c := d + 2) (by omega) (by omega) hy
        rw [r13 y q1 q2 (by have := hy.1; omega), if_pos hy]
      have n14 : ∀ y, zb_ch D E (d + 2) y → C'' 14 (y - F) = ((d + 2 : Nat) : Int) := by
        intro y hy
        obtain ⟨q1, q2, q3⟩ := zb_ch_in h (c := d + 2) (by omega) (by omega) hy
        rw [r14 y q1 q2, if_pos hy]
      have r51' : R 51 (d + 2) = ((d + 2 + 1 : Nat) : Int) := zb_r51 h (by omega) (by omega) hemp
      have q0 : zb_qx D (d + 2) (d + 2 + 1) = 0 := zb_qx_first
      rcases zb_names_ev (x := x) (zb_PG_ro h ro2) hN (zb_CX_ro hcx ro2) (l := d + 2) (by omega) (by omega) n13 n14 _ (d + 2 + 1) rfl hf1 (by rw [q0]; decide) (fun w w1 w2 => by have := w1.1; omega) with ⟨z1, z2, z3⟩ | ⟨z, z1, z2, z3⟩
      · rw [q0, ← r51'] at z2
        exact good (e179.trans z2) (w2.trans z1) (fun w w1 => z3 w w1 (by have := w1.1; omega))
      · rw [q0, ← r51'] at z3
        obtain ⟨q1, q2, q3⟩ := zb_ch_in h (c := d + 2) (by omega) (by omega) z1
        exact fault z q1 q2 (e179.trans z3) (w2.trans z2)
    · have hE3 : E (d + 2) = d + 3 := by omega
      refine good ?_ (by rw [hE3]; exact w2) (fun w w1 => by have := w1.1; have := w1.2.1; omega)
      rw [e179]
      refine lp3_inr ?_
      unfold fn_179_17
      have hk0 : zb_ks D E (d + 2) = 0 := by
        by_cases hq : 0 < zb_ks D E (d + 2)
        · exact absurd ((zb_ks_pos h (c := d + 2) (by omega) (by omega)).mp hq) hemp
        · omega
      rw [if_pos (by omega), Int.toNat_natCast, zb_r55 h (by omega) (by omega), hk0, if_pos (by decide)]
  · refine fault (d + 2) (by omega) (by omega) ?_ w2
    unfold fn_179
    rw [if_pos (by omega), Int.toNat_natCast, if_neg w1, zb_f173 (by omega)]; rfl
end SHP
section SHP
variable {C R : eM} {F S N : Nat} {D E : Nat → Nat}
theorem zb_RX_trans {R1 R2 : eM} {k k1 : Nat} (h1 : zb_RX R R1 k) (h2 : zb_RX R1 R2 k1) (hk : k ≤ k1) : zb_RX R R2 k :=
  ⟨fun c hc => (h2.1 c hc).trans (h1.1 c hc), fun f hf => (h2.2.1 f hf).trans (h1.2.1 f hf), fun j hj => by
    obtain ⟨a1, a2, a3⟩ := h1.2.2 j hj
    obtain ⟨b1, b2, b3⟩ := h2.2.2 j (by omega)
    exact ⟨b1.trans a1, b2.trans a2, b3.trans a3⟩⟩
theorem zb_ev_let (h : zb_PG C R F S N D E) (hN : N ≤ 444) (hcx : zb_CX C R F S) {d k : Nat} {x o : Int} {zb_pd : Nat → Nat} (hF : F ≤ d) (hd : d < S) (hr : C 13 (d - F) = 1 ∨ C 13 (d - F) = 2) (ho : (¬ o = 0) ↔ C 13 (d - F) = 2) (hz : ∀ y, d < y → y < E d → C 13 (y - F) = 0) (hk : R 45 23 = (k : Int)) (hk3 : k ≤ 1999)
    (h4 : R 49 d = 4) (hne : d + 1 < E d) (hf : zb_fo R d 5) (hok : zb_okf 5 (zb_ks D E d) (C 13 (d - F) = 2)) : zb_ER C R F S D E d k zb_pd (zb_VLs R F D E d) (zb_clw x d C) (zb_clw x) (fn_171 (d : Int) o R) := by
  have zb_hS := h.1
  obtain ⟨t1, t2, t3, t4, t5⟩ := zb_pg_o h hF hd
  have h174 := zb_f171_f (o := o) h hN hF hd h4 hne hf ⟨hok.1, fun z => ho.mpr (hok.2 z)⟩
  have h175 := zb_f175 h hN hF hd h4 hne hf
  obtain ⟨c2, s3, e176, C'', ro2, rl2, r13, r14, hw⟩ := zb_br_head (x := x) (o := o) h hN hcx hF hd hr hz h4 hne hf hok (Or.inr rfl) (rl := 6) (rb := 7) (Or.inr ⟨rfl, rfl, rfl⟩)
  have hE2 := (zb_pg_o h (c := d + 2) (by omega) (by omega)).1
  obtain ⟨l1, l2, l3⟩ := zb_ch_in h hF hd c2
  have head : ∀ X : Option (Int × eM), (if R 49 (d + 2) = 4 then (fn_181 (R 52 d) ((d + 2 : Nat) : Int) R).bind fun m82 => lp (fun z => fn_171_109 (d : Int) o 0 ((d + 2 : Nat) : Int) z.1 z.2.1 z.2.2) (m82 52 (d + 2), eg_wi ((m82 55 (d + 2)) - 1), m82) else (fn_173 ((d + 2 : Nat) : Int) R).bind fun r91 => some (r91.1, r91.2)) = X → fn_171 (d : Int) o R = X := by
    intro X hX
    unfold fn_171
    rw [if_pos (by omega), Int.toNat_natCast, if_pos h4, h174, Option.bind_some, if_pos (by decide), h175, Option.bind_some, if_neg (by decide), if_neg (by decide), if_neg (by decide), if_neg (by decide), if_neg (by decide), if_neg (by decide), if_pos (by decide), e176, Option.bind_some, if_pos (by omega), Int.toNat_natCast]
    exact hX
  rcases hw with ⟨w1, w2⟩ | ⟨w1, w2⟩
  · left
    obtain ⟨C9, R1, k1, pd1, _, _, _, _, g5, g6, g7, g8, g9, g10, g11, g12⟩ := zb_tell_push (x9 := R 52 d) (b := 0) (zb_pd := zb_pd) h hcx hF hd hne (Or.inr ⟨d + 2, rfl, c2, rfl⟩) hk (by omega)
    have hp1 : zb_PG C R1 F S N D E := zb_PG_r h g8.1 (g8.2.1 21 (by decide)) (g8.2.1 22 (by decide))
    have e181 : fn_181 (R 52 d) ((d + 2 : Nat) : Int) R = some R1 := g5
    have hk1 : k1 ≤ k + (E d - E (d + 2)) := by
      by_cases hq : k = k1
      · omega
      · have key : ∀ j, k ≤ j → j < k1 → pd1 j + (j - k) < E d := by
          intro j
          induction j with
          | zero => intro a b; have := (g10 0 a b).2.1.2.1; omega
          | succ j ih =>
            intro a b
            by_cases hjk : k = j + 1
            · have := (g10 (j + 1) a b).2.1.2.1; omega
            · have i1 := ih (by omega) (by omega)
              have i2 := g11 j (by omega) b
              have c9 := (g10 (j + 1) a b).2.1
              obtain ⟨v1, v2, v3⟩ := zb_ch_in h hF hd c9
              have := (zb_pg_o h v1 v2).1
              omega
        have := key (k1 - 1) (by omega) (by omega)
        have c9 := (g10 (k1 - 1) (by omega) (by omega)).1
        omega
    have b13 : ∀ y, F ≤ y → y < S → (y ≤ d ∨ d + 3 ≤ y) → C'' 13 (y - F) = if zb_ch D E (d + 2) y then 7 else if E (d + 2) ≤ y ∧ zb_ch D E d y then 1 else C 13 (y - F) := fun y y1 y2 y3 => r13 y y1 y2 (by omega)
    have notboth : ∀ y, zb_ch D E (d + 2) y → ¬ (E (d + 2) ≤ y) := fun y hy z => by have := hy.2.1; omega
    have outer : ∀ y, F ≤ y → y < S → ¬ (d < y ∧ y < E d) → C'' 13 (y - F) = C 13 (y - F) ∧ C'' 14 (y - F) = C 14 (y - F) := by
      intro y y1 y2 y3
      have n1 : ¬ zb_ch D E (d + 2) y := fun z => y3 ⟨by have := z.1; omega, by have := z.2.1; omega⟩
      refine ⟨?_, ?_⟩
      · rw [b13 y y1 y2 (by omega), if_neg n1, if_neg (fun z => y3 ⟨z.2.1, z.2.2.1⟩)]
      · rw [r14 y y1 y2, if_neg n1]
    have bodies : ∀ (R2 : eM) (pd2 : Nat → Nat), zb_RX R1 R2 k1 → (∀ j, j < k1 → pd2 j = pd1 j) → ∀ j, k ≤ j → j < k1 → d + 3 ≤ pd2 j ∧ pd2 j < E d ∧ E (pd2 j) ≤ E d ∧ zb_EN C'' R2 F D E (d + 3) j (pd2 j) := by
      intro R2 pd2 hx hpd j j1 j2
      obtain ⟨a1, a2, a3⟩ := g10 j j1 j2
      rw [hpd j j2]
      obtain ⟨v1, v2, v3⟩ := zb_ch_in h hF hd a2
      refine ⟨by omega, a2.2.1, v3, Or.inl ⟨?_, ?_⟩⟩
      · rw [b13 _ v1 v2 (by omega), if_neg (fun z => notboth _ z a1), if_pos ⟨a1, a2⟩]
      · rw [(hx.2.2 j j2).1]; exact a3
    have valid : zb_VLs R F D E d C'' := by
      refine Or.inr ⟨h4, hne, 5, hf, ?_, Or.inr (Or.inr (Or.inr (Or.inr (Or.inr ⟨rfl, w1, fun b hb => ⟨?_, ?_⟩, fun c hc hc2 => ?_⟩))))⟩
      · rw [(outer d hF hd (by omega)).1]; exact hok
      · obtain ⟨i1, i2, i3⟩ := zb_ch_in h (c := d + 2) (by omega) (by omega) hb
        rw [b13 b i1 i2 (by have := hb.1; omega), if_pos hb]
      · obtain ⟨i1, i2, i3⟩ := zb_ch_in h (c := d + 2) (by omega) (by omega) hb
        rw [r14 b i1 i2, if_pos hb]
      · obtain ⟨i1, i2, i3⟩ := zb_ch_in h hF hd hc
        rw [b13 c i1 i2 (by omega), if_neg (fun z => notboth c z hc2), if_pos ⟨hc2, hc⟩]
    have mid : zb_MD C'' F d (d + 3) := fun y y1 y2 => by
      by_cases hy : y = d + 2
      · rw [hy, rl2]; decide
      · rw [r13 y (by omega) (by omega) hy, if_neg (fun z => by have := z.1; omega), if_neg (by omega), hz y y1 (by omega)]; decide
    by_cases hemp : d + 3 < E (d + 2)
    · obtain ⟨bl, m1, m2, m3⟩ := zb_r52 hp1 (c := d + 2) (by omega) (by omega) hemp
      obtain ⟨v1, v2, v3⟩ := zb_ch_in h (c := d + 2) (by omega) (by omega) m1
      have hqb : R1 55 (d + 2) - 1 = ((zb_qx D (d + 2) bl : Nat) : Int) := by
        rw [zb_r55 hp1 (by omega) (by omega), zb_ks_qx, ← m2, zb_qx_next h (l := d + 2) (by omega) (by omega) m1]
        omega
      obtain ⟨R2, k3, pd2, p1, p2, p3, p4, p5, p6, p7, p8, p9, p10, p11⟩ := zb_f109 (x1 := (d : Int)) (x2 := o) (x3 := 0) (zb_pd := pd1) (l := d + 2) (by omega) (by omega) _ bl k1 hp1 rfl m1 g7 (by have := m1.2.1; omega)
      have hx2 : zb_RX R1 R2 k1 := ⟨p9, p10, p11⟩
      have bod := bodies R2 pd2 hx2 p4
      refine ⟨d + 3, C'', R2, k3, pd2, w2, ?_, ⟨by omega, by omega, ro2, outer, by omega, p3, zb_RX_trans g8 hx2 g6, fun j j1 j2 => ?_, fun j j1 j2 => ?_, fun y y1 y2 y3 => ?_⟩, fun j hj => (p4 j (by omega)).trans (g9 j hj), valid, mid⟩
      · refine head _ ?_
        rw [if_pos w1, e181, Option.bind_some, m3, hqb, eg_wi_id (by omega) (by have := Nat.le_trans (zb_ct_le (D := D) (v := D (d + 2) + 1) (a := d + 2 + 1) (n := bl - (d + 2 + 1))) (Nat.le_refl _); unfold zb_qx; omega)]
        exact p1
      · by_cases hj : j < k1
        · exact bod j j1 hj
        · obtain ⟨a1, a2, a3, a4, a5⟩ := p6 j (by omega) j2
          obtain ⟨q1, q2, q3⟩ := zb_ch_in h (c := d + 2) (by omega) (by omega) a2
          have hq1 := a2.1
          refine ⟨by omega, by have := a2.2.1; omega, by omega, Or.inr ⟨?_, a3, d + 2, by omega, by omega, a2, ?_, a5, a4, fun y y1 y2 => by have := y1.1; omega, fun y y1 y2 => ?_⟩⟩
          · rw [b13 _ q1 q2 (by omega), if_pos a2]
          · rw [r14 _ q1 q2, if_pos a2]
          · obtain ⟨o1, o2, o3⟩ := zb_ch_in h (c := d + 2) (by omega) (by omega) y1
            rw [b13 _ o1 o2 (by omega), if_pos y1]
      · by_cases hj : j + 1 < k1
        · rw [p4 j (by omega), p4 (j + 1) hj]; exact g11 j j1 hj
        · by_cases hj2 : j < k1
          · have hjk : j + 1 = k1 := by omega
            rw [hjk, p5, p4 j hj2, m2]
            exact (g10 j j1 hj2).1
          · exact p7 j (by omega) j2
      · rw [b13 y (by omega) (by omega) (by omega)] at y3
        by_cases hc : zb_ch D E (d + 2) y
        · obtain ⟨j, a1, a2, a3⟩ := p8 y (by
            by_cases hq : bl < y
            · have := zb_ch_le h (c := d + 2) (by omega) (by omega) m1 hc hq
              have := hc.2.1
              omega
            · omega) hc
          exact ⟨j, by omega, a2, a3⟩
        · rw [if_neg hc] at y3
          by_cases hq : E (d + 2) ≤ y ∧ zb_ch D E d y
          · obtain ⟨j, a1, a2, a3⟩ := g12 y hq.1 hq.2
            exact ⟨j, a1, by omega, by rw [p4 j a2]; exact a3⟩
          · rw [if_neg hq, hz y (by omega) y2] at y3
            exact absurd rfl y3
    · -- no bindings
      have hE3 : E (d + 2) = d + 3 := by omega
      have nob : ∀ y, ¬ zb_ch D E (d + 2) y := fun y hy => by have := hy.1; have := hy.2.1; omega
      have hk0 : zb_ks D E (d + 2) = 0 := by
        by_cases hq : 0 < zb_ks D E (d + 2)
        · exact absurd ((zb_ks_pos h (c := d + 2) (by omega) (by omega)).mp hq) hemp
        · omega
      have bod := bodies R1 pd1 ⟨fun _ _ => rfl, fun _ _ => rfl, fun _ _ => ⟨rfl, rfl, rfl⟩⟩ (fun _ _ => rfl)
      refine ⟨d + 3, C'', R1, k1, pd1, w2, ?_, ⟨by omega, by omega, ro2, outer, g6, g7, g8, bod, g11, fun y y1 y2 y3 => ?_⟩, g9, valid, mid⟩
      · refine head _ ?_
        rw [if_pos w1, e181, Option.bind_some, zb_r55 hp1 (by omega) (by omega), hk0]
        refine lp3_inr ?_
        unfold fn_171_109
        rw [if_pos (by decide)]
      · rw [b13 y (by omega) (by omega) (by omega), if_neg (nob y)] at y3
        by_cases hq : E (d + 2) ≤ y ∧ zb_ch D E d y
        · exact g12 y hq.1 hq.2
        · rw [if_neg hq, hz y (by omega) y2] at y3
          exact absurd rfl y3
  · right
    refine ⟨d + 2, C'', eg_u R 45 2 (R 56 (d + 2)), by omega, by omega, w2, head _ ?_, rfl, ro2, zb_u2f⟩
    rw [if_neg w1, zb_f173 (by omega)]; rfl
end SHP
section SHP
variable {C R : eM} {F S N : Nat} {D E : Nat → Nat}
theorem zb_ev_expr (h : zb_PG C R F S N D E) (hN : N ≤ 444) (hcx : zb_CX C R F S) {d k : Nat} {x o : Int} {zb_pd : Nat → Nat} (hF : F ≤ d) (hd : d < S) (hr : C 13 (d - F) = 1 ∨ C 13 (d - F) = 2) (ho : (¬ o = 0) ↔ C 13 (d - F) = 2) (hz : ∀ y, d < y → y < E d → C 13 (y - F) = 0) (hk : R 45 23 = (k : Int)) (hk3 : k ≤ 1999) : zb_ER C R F S D E d k zb_pd (zb_VLs R F D E d) (zb_clw x d C) (zb_clw x) (fn_171 (d : Int) o R) := by
  by_cases hno : R 49 d = 4 ∧ d + 1 < E d ∧ ∃ f, zb_fo R d f ∧ zb_okf f (zb_ks D E d) (C 13 (d - F) = 2)
  · obtain ⟨h4, hne, f, hf, hok⟩ := hno
    have hf10 : f ≤ 10 := by
      rcases hf with ⟨z, _⟩ | ⟨z, _⟩ <;> omega
    by_cases hs : f = 2 ∨ f = 3
    · exact zb_ev_set h hN hcx hF hd hr ho hz hk (by omega) h4 hne hf hok hs
    · by_cases h44 : f = 4
      · subst h44; exact zb_ev_lambda h hN hcx hF hd hr ho hz hk (by omega) h4 hne hf hok
      · by_cases h55 : f = 5
        · subst h55; exact zb_ev_let h hN hcx hF hd hr ho hz hk hk3 h4 hne hf hok
        · exact zb_ev_easy h hN hcx hF hd hr ho hz hk (by omega) h4 hne hf hok (by omega)
  · exact zb_ev_plain h hN hcx hF hd hr ho hz hk hno
theorem zb_ev_bind (h : zb_PG C R F S N D E) (hN : N ≤ 444) (hcx : zb_CX C R F S) {d k l : Nat} {x : Int} {zb_pd : Nat → Nat} (hF : F ≤ d) (hd : d < S) (hr : C 13 (d - F) = 7) (hz : ∀ y, d < y → y < E d → C 13 (y - F) = 0) (hk : R 45 23 = (k : Int)) (hk3 : k ≤ 1999)
    (l1 : F ≤ l) (l2 : l < S) (hl : zb_ch D E l d) (h14 : C 14 (d - F) = (l : Int)) (hold : ∀ y, zb_ch D E l y → y < d → zb_okB R D E y ∧ zb_qx D l y < 8) : zb_ER C R F S D E d k zb_pd (zb_VLb R F D E d l) (zb_clw x d C) (zb_clw x) (fn_182 (d : Int) (zb_qx D l d : Int) (l : Int) R) ∧ (∀ e C', zb_clw x d C = zb_clw x e C' → True) ∧ ((∃ R', fn_182 (d : Int) (zb_qx D l d : Int) (l : Int) R = some (0, R')) → zb_okB R D E d ∧ zb_qx D l d < 8) := by
  have zb_hS := h.1
  obtain ⟨t1, t2, t3, t4, t5⟩ := zb_pg_o h hF hd
  have e56 := zb_f56_r h hN hcx hF hd hr
  rw [if_neg (by decide), if_neg (by decide), if_neg (by decide), if_neg (by decide), if_pos rfl] at e56
  have badref : fn_182 (d : Int) (zb_qx D l d : Int) (l : Int) R = some (3, eg_u R 45 2 (R 56 d)) → fn_56 (d : Int) C = some (0, C) → zb_ER C R F S D E d k zb_pd (zb_VLb R F D E d l) (zb_clw x d C) (zb_clw x) (fn_182 (d : Int) (zb_qx D l d : Int) (l : Int) R) ∧ (∀ e C', zb_clw x d C = zb_clw x e C' → True) ∧ ((∃ R', fn_182 (d : Int) (zb_qx D l d : Int) (l : Int) R = some (0, R')) → zb_okB R D E d ∧ zb_qx D l d < 8) := by
    intro z1 z2
    refine ⟨Or.inr ⟨d, C, _, hF, hd, zb_clw_bad hcx zb_hS.2.1 zb_hS.2.2 hF hd zb_RO_refl z2, z1, rfl, zb_RO_refl, zb_u2f⟩, fun _ _ _ => trivial, ?_⟩
    rintro ⟨R', hR'⟩
    rw [z1] at hR'
    have := (Prod.mk.inj (Option.some.inj hR')).1
    omega
  have e21 : fn_182_21 (d : Int) (zb_qx D l d : Int) (l : Int) R = some (3, eg_u R 45 2 (R 56 d)) := by
    unfold fn_182_21 fn_182_22
    rw [if_neg (by decide), zb_f173 (by omega)]; rfl
  by_cases h4 : R 49 d = 4
  · rw [if_pos h4] at e56
    by_cases hks : zb_ks D E d = 2
    · have hne := (zb_ks_pos h hF hd).mp (by omega)
      obtain ⟨b, b1, b2, b3⟩ := zb_f64 h hN (c := d + 1) (by omega) (by omega)
      by_cases hn : R 49 (d + 1) = 3
      · -- a proper binding
        have hb : b = 1 := by
          rcases b3 with ⟨z, _⟩ | ⟨_, z⟩
          · exact z
          · exact absurd hn z
        obtain ⟨s1, s2⟩ := zb_two_in h hF hd hn (by omega)
        obtain ⟨e176, c1, c2, c3⟩ := zb_f176 h hF hd hn s1
        have hE2 : E (d + 2) = E d := by
          have q := zb_qx_next h hF hd c2
          rw [s2] at q
          obtain ⟨v1, v2, v3⟩ := zb_ch_in h hF hd c2
          by_cases hq : E (d + 2) < E d
          · have c5 := zb_ch_next h hF hd c2 hq
            have q2 := zb_qx_next h hF hd c5
            obtain ⟨g1, g2, g3⟩ := zb_ch_in h hF hd c5
            have gE := (zb_pg_o h g1 g2).1
            have gE2 := (zb_pg_o h v1 v2).1
            have : zb_qx D d (E (E (d + 2))) ≤ zb_qx D d (E d) := by
              unfold zb_qx
              rw [show E d - (d + 1) = (E (E (d + 2)) - (d + 1)) + (E d - E (E (d + 2))) by omega, zb_ct_add]
              omega
            rw [← zb_ks_qx, hks] at this
            omega
          · omega
        have e68 : fn_68 (d : Int) C = some (1, eg_u (eg_u (eg_u C 13 (d + 1 - F) 5) 14 (d + 1 - F) (l : Int)) 13 (d + 2 - F) 1) := by
          unfold fn_68
          rw [zb_f58_ok h hF hd, Option.bind_some, hks, if_neg (by decide), zb_wi_1 (by omega), b1, Option.bind_some, if_pos (by omega), hcx.1, zb_wi_sub (by omega) (by omega), if_pos (by omega), zb_wi_sub (by omega) (by omega), if_pos (by omega), zb_wi_2 (by omega), zb_wi_sub (by omega) (by omega), if_pos (by omega)]
          simp only [Int.toNat_natCast]
          rw [h14]
        rw [e68, Option.bind_some] at e56
        have e56' : fn_56 (d : Int) C = some (1, eg_u (eg_u (eg_u C 13 (d + 1 - F) 5) 14 (d + 1 - F) (l : Int)) 13 (d + 2 - F) 1) := by
          rw [e56]; rfl
        have hro : zb_RO C (eg_u (eg_u (eg_u C 13 (d + 1 - F) 5) 14 (d + 1 - F) (l : Int)) 13 (d + 2 - F) 1) := fun c a b => (eg_u_ne a).trans ((eg_u_ne b).trans (eg_u_ne a))
        have hcx' := zb_CX_ro hcx hro
        have hpg' := zb_PG_ro h hro
        have r13 : ∀ y, F ≤ y → y < S → (eg_u (eg_u (eg_u C 13 (d + 1 - F) 5) 14 (d + 1 - F) (l : Int)) 13 (d + 2 - F) 1) 13 (y - F) = if y = d + 2 then 1 else if y = d + 1 then 5 else C 13 (y - F) := by
          intro y y1 y2
          by_cases ya : y = d + 2
          · subst ya; rw [if_pos rfl]; simp [eg_u]
          · rw [if_neg ya]
            by_cases yb : y = d + 1
            · subst yb
              rw [if_pos rfl]
              have : ¬ (d + 1 - F = d + 2 - F) := by omega
              simp [eg_u, this]
            · rw [if_neg yb]
              have n1 : ¬ (y - F = d + 2 - F) := by omega
              have n2 : ¬ (y - F = d + 1 - F) := by omega
              simp [eg_u, n1, n2]
        have r14 : ∀ y, F ≤ y → y < S → (eg_u (eg_u (eg_u C 13 (d + 1 - F) 5) 14 (d + 1 - F) (l : Int)) 13 (d + 2 - F) 1) 14 (y - F) = if y = d + 1 then (l : Int) else C 14 (y - F) := by
          intro y y1 y2
          by_cases yb : y = d + 1
          · subst yb; rw [if_pos rfl]; simp [eg_u]
          · rw [if_neg yb]
            have n2 : ¬ (y - F = d + 1 - F) := by omega
            simp [eg_u, n2]
        generalize hC' : eg_u (eg_u (eg_u C 13 (d + 1 - F) 5) 14 (d + 1 - F) (l : Int)) 13 (d + 2 - F) 1 = C' at *
        have w1 : zb_clw x d C = zb_clw x (d + 1) C' := zb_clw_ok hcx zb_hS.2.1 hd e56' (by decide)
        have hq8 : zb_qx D l d ≤ 8 := by
          by_cases hfst : d = l + 1
          · rw [hfst, zb_qx_first]; decide
          · obtain ⟨p, p1, p2⟩ := zb_ch_prev h l1 l2 hl hfst
            obtain ⟨v1, v2, v3⟩ := zb_ch_in h l1 l2 p1
            have gE := (zb_pg_o h v1 v2).1
            have q := zb_qx_next h l1 l2 p1
            rw [p2] at q
            have := (hold p p1 (by omega)).2
            omega
        have gold : ∀ y, zb_ch D E l y → y < d → zb_gb R E true y := by
          intro y y1 y2
          obtain ⟨o1, o2, o3⟩ := (hold y y1 y2).1
          obtain ⟨v1, v2, v3⟩ := zb_ch_in h l1 l2 y1
          exact ⟨o3, fun _ => ⟨o1, (zb_ks_pos h v1 v2).mp (by omega)⟩⟩
        have hfr := zb_f180 (zb_lt := true) h hN l1 l2 hl gold (fun _ => ⟨h4, hne⟩) hq8
        have gall : ∀ y, zb_ch D E l y → y ≤ d → zb_gb R E true y := by
          intro y y1 y2
          by_cases hy : y = d
          · rw [hy]; exact ⟨hn, fun _ => ⟨h4, hne⟩⟩
          · exact gold y y1 (by omega)
        obtain ⟨p, p1, p2⟩ := zb_f66 (zb_lt := true) hpg' hN hcx' l1 l2 hl gall (by show C' 14 (d + 1 - F) = _; rw [r14 (d + 1) (by omega) (by omega), if_pos rfl])
        have p1' : fn_66 ((d + 1 : Nat) : Int) C' = some p := p1
        obtain ⟨q, q1, q2⟩ := zb_f63 hpg' hN (c := d + 1) (by omega) (by omega)
        have e5 := zb_f56_r hpg' hN hcx' (d := d + 1) (r := 5) (by omega) (by omega) (by rw [r13 (d + 1) (by omega) (by omega), if_neg (by omega), if_pos rfl])
        rw [if_neg (by decide), if_neg (by decide), if_pos rfl, q1, Option.bind_some] at e5
        have e182 : fn_182 (d : Int) (zb_qx D l d : Int) (l : Int) R = fn_182_22 (d : Int) (zb_qx D l d : Int) (l : Int) 1 R := by
          unfold fn_182
          rw [if_pos (by omega), Int.toNat_natCast, if_neg (by omega), zb_r55 h hF hd, hks, if_neg (by decide), zb_r51 h hF hd hne, b2, Option.bind_some, if_neg (by omega)]
        rcases hfr with ⟨k1, k2, k3, k4⟩ | ⟨k1, k2⟩
        · have hq : q = 1 := by
            rcases q2 with ⟨z, _⟩ | ⟨_, z⟩
            · exact z
            · exact absurd ⟨k1, k2⟩ z
          have hp : p = 1 := by
            rcases p2 with ⟨z, _⟩ | ⟨_, z⟩
            · exact z
            · exact absurd k3 z
          rw [if_neg (by omega), p1', Option.bind_some, if_neg (by omega)] at e5
          have w2 := zb_clw_ok (x := x) hcx' zb_hS.2.1 (by omega) e5 (by decide)
          have eR : fn_182 (d : Int) (zb_qx D l d : Int) (l : Int) R = some (0, zb_PU R k ((d + 2 : Nat) : Int) 0 0) := by
            rw [e182]
            unfold fn_182_22
            have k4' : fn_180 (l : Int) (d : Int) (zb_qx D l d : Int) 1 R = some (0, R) := k4
            rw [if_pos (by decide), k4', Option.bind_some, if_neg (by show ¬ ¬ (0 : Int) = 0; decide), e176, Option.bind_some, zb_f178 hk (by omega)]; rfl
          obtain ⟨v1, v2, v3⟩ := zb_ch_in h hF hd c2
          refine ⟨Or.inl ⟨d + 2, C', zb_PU R k ((d + 2 : Nat) : Int) 0 0, k + 1, fun j => if j = k then d + 2 else zb_pd j, w1.trans w2, eR, ⟨by omega, by omega, hro, fun y y1 y2 y3 => ⟨?_, ?_⟩, by omega, rfl, ⟨?_, ?_, ?_⟩, fun j j1 j2 => ?_, fun j j1 j2 => by omega, fun y y1 y2 y3 => ?_⟩, fun j hj => if_neg (by omega), ⟨⟨h4, hks, hn⟩, k2, k3, ?_⟩, fun y y1 y2 => ?_⟩, fun _ _ _ => trivial, fun _ => ⟨⟨h4, hks, hn⟩, k3.1⟩⟩
          · rw [r13 y y1 y2, if_neg (by omega), if_neg (by omega)]
          · rw [r14 y y1 y2, if_neg (by omega)]
          · intro c hc
            simp only [List.mem_cons, List.not_mem_nil, or_false, not_or] at hc
            funext j; simp [zb_PU, eg_u, hc]
          · intro f hf9; simp [zb_PU, eg_u, hf9]
          · intro j hj
            have : j ≠ k := by omega
            simp [zb_PU, eg_u, this]
          · have : j = k := by omega
            subst this
            dsimp only
            rw [if_pos rfl]
            refine ⟨Nat.le_refl _, s1, by omega, Or.inl ⟨?_, by simp [zb_PU, eg_u]⟩⟩
            rw [r13 (d + 2) (by omega) (by omega), if_pos rfl]
          · refine ⟨k, Nat.le_refl _, by omega, ?_⟩
            dsimp only
            rw [if_pos rfl]
            rw [r13 y (by omega) (by omega)] at y3
            by_cases hyy : y = d + 2
            · exact hyy.symm
            · rw [if_neg hyy, if_neg (by omega), hz y (by omega) y2] at y3
              exact absurd rfl y3
          · rw [r13 (d + 2) (by omega) (by omega), if_pos rfl]
          · rw [r13 y (by omega) (by omega), if_neg (by omega), if_pos (by omega)]; decide
        · -- the name is not new, or special
          have e5' : fn_56 ((d + 1 : Nat) : Int) C' = some (0, C') := by
            rw [e5]
            rcases q2 with ⟨z1, z2⟩ | ⟨z1, z2⟩
            · rw [if_neg (by omega), p1', Option.bind_some]
              have hp : p = 0 := by
                rcases p2 with ⟨_, z⟩ | ⟨z, _⟩
                · exact absurd ⟨z2.1, z2.2, z⟩ k1
                · exact z
              rw [if_pos hp]
            · rw [if_pos z1]
          have w2 := zb_clw_bad (x := x) hcx' zb_hS.2.1 zb_hS.2.2 (by omega) (by omega) zb_RO_refl e5'
          have eR : fn_182 (d : Int) (zb_qx D l d : Int) (l : Int) R = some (3, eg_u R 45 2 (R 56 (d + 1))) := by
            rw [e182]
            unfold fn_182_22
            have k2' : fn_180 (l : Int) (d : Int) (zb_qx D l d : Int) 1 R = some (3, eg_u R 45 2 (R 56 (d + 1))) := k2
            rw [if_pos (by decide), k2', Option.bind_some, if_pos (by show ¬ (3 : Int) = 0; decide)]
          refine ⟨Or.inr ⟨d + 1, C', _, by omega, by omega, w1.trans w2, eR, rfl, hro, zb_u2f⟩, fun _ _ _ => trivial, ?_⟩
          rintro ⟨R', hR'⟩
          rw [eR] at hR'
          have := (Prod.mk.inj (Option.some.inj hR')).1
          omega
      · have hb : b = 0 := by
          rcases b3 with ⟨_, z⟩ | ⟨z, _⟩
          · exact absurd z hn
          · exact z
        refine badref ?_ ?_
        · unfold fn_182
          rw [if_pos (by omega), Int.toNat_natCast, if_neg (by omega), zb_r55 h hF hd, hks, if_neg (by decide), zb_r51 h hF hd hne, b2, Option.bind_some, if_pos hb, e21]
        · rw [e56]
          unfold fn_68
          rw [zb_f58_ok h hF hd, Option.bind_some, hks, if_neg (by decide), zb_wi_1 (by omega), b1, Option.bind_some, if_neg (by omega)]; rfl
    · refine badref ?_ ?_
      · unfold fn_182
        rw [if_pos (by omega), Int.toNat_natCast, if_neg (by omega), zb_r55 h hF hd, if_pos (by omega), e21]
      · rw [e56]
        unfold fn_68
        rw [zb_f58_ok h hF hd, Option.bind_some, if_pos (by omega)]; rfl
  · rw [if_neg h4] at e56
    refine badref ?_ e56
    unfold fn_182
    rw [if_pos (by omega), Int.toNat_natCast, if_pos h4, e21]
end SHP
section SHP
variable {C R : eM} {F S N : Nat} {D E : Nat → Nat}
noncomputable def zb_outx (y : Option ((Int × eM) ⊕ (Int × eM))) : Option (Int × eM) := match y with
  | none => none
  | some (.inl s) => lp (fun z => fn_170_3 z.1 z.2) s
  | some (.inr r) => some r
theorem zb_lp_out {a : Int} : lp (fun z => fn_170_3 z.1 z.2) (a, R) = zb_outx (fn_170_3 a R) := by
  cases hc : fn_170_3 a R with
  | none => exact lp_none hc
  | some y =>
    cases y with
    | inl s => exact lp_inl (c := fun z => fn_170_3 z.1 z.2) (s := (a, R)) hc
    | inr r => exact lp_inr (c := fun z => fn_170_3 z.1 z.2) (s := (a, R)) hc
noncomputable def zb_inn (T : Nat) (g : Int) (R : eM) : Option ((Int × eM) ⊕ (Int × eM)) := lp (fun z => fn_170_13 (T : Int) z.1 z.2) (g, R)
theorem zb_inn_bad {T : Nat} : zb_outx (zb_inn T 3 R) = some (3, R) := by
  have : zb_inn T 3 R = some (.inr (3, R)) := by
    refine lp2_inr ?_
    unfold fn_170_13
    rw [if_pos (by decide), if_neg (by decide)]
  rw [this]; rfl
theorem zb_inn_end {T : Nat} (hT : T < 20100) (h : R 45 23 = 0) : zb_outx (zb_inn T 0 R) = lp (fun z => fn_170_3 z.1 z.2) (R 53 T, R) := by
  have : zb_inn T 0 R = some (.inl (R 53 T, R)) := by
    refine lp2_inr ?_
    unfold fn_170_13
    rw [if_neg (by decide), h, if_pos (by decide), if_pos (by decide), if_pos (by omega), Int.toNat_natCast]
  rw [this]; rfl
def zb_TO (C : eM) (F S ET : Nat) (D : Nat → Nat) : Prop := ∀ y, ET ≤ y → y < S → C 13 (y - F) = if D y = 0 then 2 else 0
theorem zb_clw_skip (hcx : zb_CX C R F S) (zb_hS : S ≤ 20000) (hS2 : S ≤ F + 2000) {x : Int} : ∀ (m d t : Nat), t - d = m → F ≤ d → d ≤ t → t ≤ S → (∀ y, d ≤ y → y < t → C 13 (y - F) = 0) → zb_clw x d C = zb_clw x t C := by
  intro m
  induction m with
  | zero => intro d t h1 h2 h3 h4 h5; rw [show d = t by omega]
  | succ m ih =>
    intro d t h1 h2 h3 h4 h5
    rw [zb_clw_0 hcx zb_hS hS2 h2 (by omega) (h5 d (Nat.le_refl _) (by omega))]
    exact ih (d + 1) t (by omega) (by omega) (by omega) h4 (fun y y1 y2 => h5 y (by omega) y2)
theorem zb_SK_len (h : zb_PG C R F S N D E) {ET d k : Nat} {zb_pd : Nat → Nat} (hF : F ≤ d) (hET : ET ≤ S) (hs : zb_SK C R F ET d k zb_pd D E) : ∀ j, j < k → zb_pd j + j < ET := by
  intro j
  induction j with
  | zero => intro hj; have := (hs.2.1 0 hj).2.1; omega
  | succ j ih =>
    intro hj
    have h1 := ih (by omega)
    have h2 := hs.2.2.1 j hj
    obtain ⟨a1, a2, _⟩ := hs.2.1 (j + 1) hj
    have := (zb_pg_o h (c := zb_pd (j + 1)) (by omega) (by omega)).1
    omega
theorem zb_SK_skip (h : zb_PG C R F S N D E) {ET d k : Nat} {zb_pd : Nat → Nat} (hF : F ≤ d) (hET : ET ≤ S) (hs : zb_SK C R F ET d (k + 1) zb_pd D E) : (∀ y, d ≤ y → y < zb_pd k → C 13 (y - F) = 0) ∧ (∀ y, zb_pd k < y → y < E (zb_pd k) → C 13 (y - F) = 0) ∧ zb_SK C R F ET (zb_pd k) (k + 1) zb_pd D E := by
  have hdec := zb_SK_dec h hF hET hs
  obtain ⟨s1, s2, s3, s4, s5⟩ := hs
  obtain ⟨a1, a2, a3⟩ := s2 k (by omega)
  have hmin : ∀ j, j < k + 1 → zb_pd k ≤ zb_pd j := by
    intro j hj
    by_cases hq : j = k
    · rw [hq]; exact Nat.le_refl _
    · have h1 := hdec j k (by omega) (by omega)
      have := (zb_pg_o h (c := zb_pd k) (by omega) (by omega)).1
      omega
  have z1 : ∀ y, d ≤ y → y < zb_pd k → C 13 (y - F) = 0 := by
    intro y y1 y2
    by_cases hq : C 13 (y - F) = 0
    · exact hq
    · obtain ⟨j, j1, j2⟩ := s5 y y1 (by omega) hq
      have := hmin j j1; omega
  have hEk : E (zb_pd k) ≤ ET := by
    by_cases h0 : k = 0
    · subst h0; exact s4 (by omega)
    · have h1 := hdec (k - 1) k (by omega) (by omega)
      have h2 := (s2 (k - 1) (by omega)).2.1
      omega
  refine ⟨z1, fun y y1 y2 => ?_, s1, fun j hj => ?_, s3, s4, fun y y1 y2 y3 => s5 y (by omega) y2 y3⟩
  · by_cases hq : C 13 (y - F) = 0
    · exact hq
    · obtain ⟨j, j1, j2⟩ := s5 y (by omega) (by omega) hq
      by_cases hjk : j = k
      · rw [hjk] at j2; omega
      · have := hdec j k (by omega) (by omega); omega
  · obtain ⟨b1, b2, b3⟩ := s2 j hj
    refine ⟨hmin j hj, b2, ?_⟩
    rcases b3 with z | ⟨c1, c2, l, l1, l2, l3, l4, l5, l6, l7, l8⟩
    · exact Or.inl z
    · refine Or.inr ⟨c1, c2, l, l1, by omega, l3, l4, l5, l6, fun y y1 y2 => ?_, fun y y1 y2 => l8 y y1 (by omega)⟩
      by_cases hyd : y < d
      · exact l7 y y1 hyd
      · have e7 := l8 y y1 (by omega)
        rw [z1 y (by omega) y2] at e7
        exact absurd e7 (by decide)
def zb_GV (C R : eM) (F : Nat) (D E : Nat → Nat) (d : Nat) : Prop := ∀ y, F ≤ y → y < d → (C 13 (y - F) = 1 ∨ C 13 (y - F) = 2 → zb_VLs R F D E y C) ∧ (C 13 (y - F) = 7 → ∃ l, F ≤ l ∧ l < y ∧ zb_ch D E l y ∧ C 14 (y - F) = (l : Int) ∧ zb_VLb R F D E y l C)
def zb_T2 (C : eM) (F S : Nat) (D : Nat → Nat) : Prop := ∀ y, F ≤ y → y < S → D y = 0 → C 13 (y - F) = 2
def zb_KP (C C' : eM) (F S : Nat) : Prop := ∀ y, F ≤ y → y < S → C 13 (y - F) ≠ 0 → C' 13 (y - F) = C 13 (y - F) ∧ C' 14 (y - F) = C 14 (y - F)
theorem zb_EV_kp {C' R' : eM} {d e k k' : Nat} {pd' : Nat → Nat} (hev : zb_EV C R C' R' F S D E d e k k' pd') (hz : ∀ y, d < y → y < E d → C 13 (y - F) = 0) : zb_KP C C' F S := by
  intro y y1 y2 y3
  obtain ⟨v1, v2, v3, v4, _⟩ := hev
  refine v4 y y1 y2 (fun z => y3 (hz y z.1 z.2))
theorem zb_T2_kp {C' : eM} (h : zb_T2 C F S D) (kp : zb_KP C C' F S) : zb_T2 C' F S D := fun y y1 y2 y3 => by
  have h2 := h y y1 y2 y3
  rw [(kp y y1 y2 (by rw [h2]; decide)).1]; exact h2
theorem zb_VLs_kp {C' : eM} (h : zb_PG C R F S N D E) {y : Nat} (y1 : F ≤ y) (y2 : y < S) (hy : C 13 (y - F) ≠ 0) (kp : zb_KP C C' F S) (hv : zb_VLs R F D E y C) : zb_VLs R F D E y C' := by
  have one : ∀ c, F ≤ c → c < S → C 13 (c - F) = 1 → C' 13 (c - F) = 1 := fun c c1 c2 c3 => by
    rw [(kp c c1 c2 (by rw [c3]; decide)).1]; exact c3
  rcases hv with hv | ⟨a1, a2, f, a3, a4, a5⟩
  · exact Or.inl hv
  · have zb_hE := (zb_pg_o h y1 y2).2.1
    refine Or.inr ⟨a1, a2, f, a3, ?_, ?_⟩
    · rw [(kp y y1 y2 hy).1]; exact a4
    · rcases a5 with ⟨b1, b2⟩ | b1 | ⟨b1, b2⟩ | ⟨b1, b2, b3, b4⟩ | ⟨b1, b2, b3, b4⟩ | ⟨b1, b2, b3, b4⟩
      · exact Or.inl ⟨b1, fun c hc => by obtain ⟨i1, i2, _⟩ := zb_ch_in h y1 y2 hc; exact one c i1 i2 (b2 c hc)⟩
      · exact Or.inr (Or.inl b1)
      · exact Or.inr (Or.inr (Or.inl ⟨b1, fun c hc hc1 => by obtain ⟨i1, i2, _⟩ := zb_ch_in h y1 y2 hc; exact one c i1 i2 (b2 c hc hc1)⟩))
      · refine Or.inr (Or.inr (Or.inr (Or.inl ⟨b1, b2, b3, ?_⟩)))
        have hks : zb_ks D E y = 3 := by
          have := a4.1
          unfold zb_okb at this; omega
        have hsp : R 49 (y + 1) = 3 := by
          rcases a3 with ⟨_, z, _⟩ | ⟨z, _⟩
          · exact z.1
          · omega
        obtain ⟨s1, s2⟩ := zb_two_in h y1 y2 hsp (by omega)
        obtain ⟨s3, s4⟩ := zb_three_in h y1 y2 hsp (by omega)
        have e1 := zb_sp_end h (c := y + 2) (by omega) (by omega) b2
        exact one (y + 3) (by omega) (by omega) b4
      · exact Or.inr (Or.inr (Or.inr (Or.inr (Or.inl ⟨b1, b2, b3, fun c hc hc1 => by obtain ⟨i1, i2, _⟩ := zb_ch_in h y1 y2 hc; exact one c i1 i2 (b4 c hc hc1)⟩))))
      · have hsp : R 49 (y + 1) = 3 := by
          rcases a3 with ⟨_, z, _⟩ | ⟨z, _⟩
          · exact z.1
          · omega
        have hks : 3 ≤ zb_ks D E y := by
          have := a4.1
          unfold zb_okb at this; omega
        obtain ⟨s1, s2⟩ := zb_two_in h y1 y2 hsp (by omega)
        refine Or.inr (Or.inr (Or.inr (Or.inr (Or.inr ⟨b1, b2, fun b hb => ?_, fun c hc hc1 => by obtain ⟨i1, i2, _⟩ := zb_ch_in h y1 y2 hc; exact one c i1 i2 (b4 c hc hc1)⟩))))
        obtain ⟨i1, i2, _⟩ := zb_ch_in h (c := y + 2) (by omega) (by omega) hb
        obtain ⟨c1, c2⟩ := b3 b hb
        obtain ⟨d1, d2⟩ := kp b i1 i2 (by rw [c1]; decide)
        exact ⟨d1.trans c1, d2.trans c2⟩
theorem zb_GV_kp {C' : eM} (h : zb_PG C R F S N D E) {d : Nat} (hd : d ≤ S) (kp : zb_KP C C' F S) (hz : ∀ y, F ≤ y → y < d → C 13 (y - F) = 0 → C' 13 (y - F) = 0) (hg : zb_GV C R F D E d) : zb_GV C' R F D E d := by
  intro y y1 y2
  obtain ⟨g1, g2⟩ := hg y y1 y2
  by_cases h0 : C 13 (y - F) = 0
  · have := hz y y1 y2 h0
    refine ⟨fun z => by rw [this] at z; rcases z with z | z <;> exact absurd z (by decide), fun z => by rw [this] at z; exact absurd z (by decide)⟩
  · obtain ⟨k1, k2⟩ := kp y y1 (by omega) h0
    refine ⟨fun z => zb_VLs_kp h y1 (by omega) h0 kp (g1 (by rw [← k1]; exact z)), fun z => ?_⟩
    obtain ⟨l, l1, l2, l3, l4, l5, l6, l7, l8⟩ := g2 (by rw [← k1]; exact z)
    obtain ⟨c1, c2, c3⟩ := l5
    have zb_hE := (zb_pg_o h y1 (by omega)).2.1
    have hs := zb_two_in h y1 (by omega) c3 (by omega)
    refine ⟨l, l1, l2, l3, by rw [k2]; exact l4, ⟨c1, c2, c3⟩, l6, l7, ?_⟩
    rw [(kp (y + 2) (by omega) (by omega) (by rw [l8]; decide)).1]; exact l8
theorem zb_GV_ev {C' R' : eM} (h : zb_PG C R F S N D E) {d e k k' : Nat} {pd' : Nat → Nat} (hF : F ≤ d) (hd : d < S) (hev : zb_EV C R C' R' F S D E d e k k' pd') (hz : ∀ y, d < y → y < E d → C 13 (y - F) = 0) (hm : zb_MD C' F d e) (hg : zb_GV C R F D E d)
    (hv : ((C 13 (d - F) = 1 ∨ C 13 (d - F) = 2) ∧ zb_VLs R F D E d C') ∨ (C 13 (d - F) = 7 ∧ ∃ l, F ≤ l ∧ l < d ∧ zb_ch D E l d ∧ C 14 (d - F) = (l : Int) ∧ zb_VLb R F D E d l C')) : zb_GV C' R F D E e := by
  have kp := zb_EV_kp hev hz
  obtain ⟨v1, v2, v3, v4, _⟩ := hev
  have zb_hE := (zb_pg_o h hF hd).2.1
  have old := zb_GV_kp h (by omega) kp (fun y y1 y2 y3 => by rw [(v4 y y1 (by omega) (by omega)).1]; exact y3) hg
  intro y y1 y2
  by_cases hyd : y < d
  · exact old y y1 hyd
  · by_cases hye : y = d
    · subst hye
      rcases hv with ⟨a1, a2⟩ | ⟨a1, l, l1, l2, l3, l4, l5⟩
      · obtain ⟨k1, k2⟩ := kp y y1 hd (by rcases a1 with z | z <;> rw [z] <;> decide)
        refine ⟨fun _ => a2, fun z => ?_⟩
        rw [k1] at z
        rcases a1 with w | w <;> rw [w] at z <;> exact absurd z (by decide)
      · obtain ⟨k1, k2⟩ := kp y y1 hd (by rw [a1]; decide)
        refine ⟨fun z => ?_, fun _ => ⟨l, l1, l2, l3, by rw [k2]; exact l4, l5⟩⟩
        rw [k1, a1] at z
        rcases z with z | z <;> exact absurd z (by decide)
    · obtain ⟨m1, m2, m3⟩ := hm y (by omega) y2
      exact ⟨fun z => z.elim (fun w => absurd w m1) (fun w => absurd w m2), fun z => absurd z m3⟩
theorem zb_GV_skip {d t : Nat} (hg : zb_GV C R F D E d) (hz : ∀ y, d ≤ y → y < t → C 13 (y - F) = 0) : zb_GV C R F D E t := by
  intro y y1 y2
  by_cases hyd : y < d
  · exact hg y y1 hyd
  · have h0 := hz y (by omega) y2
    refine ⟨fun z => by rw [h0] at z; rcases z with z | z <;> exact absurd z (by decide), fun z => by rw [h0] at z; exact absurd z (by decide)⟩
theorem zb_GV_r {R' : eM} {d : Nat} (h49 : R' 49 = R 49) (h50 : R' 50 = R 50) (hg : zb_GV C R F D E d) : zb_GV C R' F D E d := by
  unfold zb_GV zb_VLs zb_VLf zb_VLb zb_okB zb_NMS zb_fr zb_fo zb_sp at hg ⊢
  rw [h49, h50]; exact hg
def zb_SR (C R : eM) (S F : Nat) (D E : Nat → Nat) (zb_cl : Option (Int × eM)) (zb_rf : Option (Int × eM)) : Prop :=
  (∃ C' R', zb_cl = some (-1, C') ∧ zb_rf = some (0, R') ∧ (∀ f, f ≠ 23 → R' 45 f = R 45 f) ∧ zb_GV C' R F D E S ∧ zb_T2 C' F S D) ∨ (∃ (x : Nat) (C' R' : eM), F ≤ x ∧ x < S ∧ zb_cl = some (R 56 x, C') ∧ zb_rf = some (3, R') ∧ R' 45 2 = R 56 x ∧ ∀ f, f ≠ 23 → f ≠ 2 → R' 45 f = R 45 f)
theorem zb_SR_of {C1 R1 : eM} {zb_cl zb_rf : Option (Int × eM)} (h : zb_SR C1 R1 S F D E zb_cl zb_rf) (hf : ∀ f, f ≠ 23 → R1 45 f = R 45 f) (h56 : R1 56 = R 56) (h49 : R1 49 = R 49) (h50 : R1 50 = R 50) : zb_SR C R S F D E zb_cl zb_rf := by
  rcases h with ⟨C', R', a1, a2, a3, a4, a5⟩ | ⟨y, C', R', a0, a1, a2, a3, a4, a5⟩
  · exact Or.inl ⟨C', R', a1, a2, fun f f1 => (a3 f f1).trans (hf f f1), zb_GV_r h49.symm h50.symm a4, a5⟩
  · exact Or.inr ⟨y, C', R', a0, a1, by rw [a2, h56], a3, by rw [a4, h56], fun f f1 f2 => (a5 f f1 f2).trans (hf f f1)⟩
theorem zb_PG_rx {R' : eM} {k : Nat} (h : zb_PG C R F S N D E) (hx : zb_RX R R' k) : zb_PG C R' F S N D E := zb_PG_r h hx.1 (hx.2.1 21 (by decide)) (hx.2.1 22 (by decide))
theorem zb_CX_rx {R' : eM} {k : Nat} (h : zb_CX C R F S) (hx : zb_RX R R' k) : zb_CX C R' F S := ⟨h.1, h.2.1, fun y a b => by rw [hx.1 56 (by decide)]; exact h.2.2 y a b⟩
theorem zb_shape_walk (hN : N ≤ 444) {x : Int} : ∀ (m : Nat),
    (∀ (T : Nat) (C R : eM), S - T = m → zb_PG C R F S N D E → zb_CX C R F S → F ≤ T → T ≤ S → (T < S → D T = 0) → zb_TO C F S T D → zb_GV C R F D E T → zb_T2 C F S D → zb_SR C R S F D E (zb_clw x T C) (lp (fun z => fn_170_3 z.1 z.2) ((if T < S then (T : Int) else -1), R)))
    ∧ (∀ (T d k : Nat) (zb_pd : Nat → Nat) (C R : eM), S - d = m → zb_PG C R F S N D E → zb_CX C R F S → F ≤ T → T < S → D T = 0 → T < d → d ≤ E T → zb_TO C F S (E T) D → zb_SK C R F (E T) d k zb_pd D E → zb_GV C R F D E d → zb_T2 C F S D → zb_SR C R S F D E (zb_clw x d C) (zb_outx (zb_inn T 0 R))) := by
  intro m
  induction m using Nat.strongRecOn with
  | ind m ih =>
    have top : ∀ (T : Nat) (C R : eM), S - T = m → zb_PG C R F S N D E → zb_CX C R F S → F ≤ T → T ≤ S → (T < S → D T = 0) → zb_TO C F S T D → zb_GV C R F D E T → zb_T2 C F S D → zb_SR C R S F D E (zb_clw x T C) (lp (fun z => fn_170_3 z.1 z.2) ((if T < S then (T : Int) else -1), R)) := by
      intro T C R hm h hcx hF hT hD hTO hGV hT2
      have zb_hS := h.1
      by_cases hTS : T < S
      · rw [if_pos hTS, zb_lp_out]
        obtain ⟨t1, t2, t3, t4, t5⟩ := zb_pg_o h hF hTS
        have hx0 : zb_RX R (eg_u R 45 23 0) 0 := by
          refine ⟨fun c hc => eg_u_ne (vne hc (a := 45) (by decide)), fun f hf => by simp [eg_u, hf], fun j hj => by omega⟩
        have hpg := zb_PG_rx h hx0
        have hr2 : C 13 (T - F) = 2 := by rw [hTO T (Nat.le_refl _) hTS, if_pos (hD hTS)]
        have hz : ∀ y, T < y → y < E T → C 13 (y - F) = 0 := by
          intro y y1 y2
          have := t3 y y1 y2
          rw [hTO y (by omega) (by omega), if_neg (by omega)]
        have ev := zb_ev_expr (x := x) (o := 1) (k := 0) (zb_pd := fun _ => 0) hpg hN (zb_CX_rx hcx hx0) hF hTS (Or.inr hr2) ⟨fun _ => hr2, fun _ => by decide⟩ hz rfl (by decide)
        have e3 : ∀ g R', fn_171 (T : Int) 1 (eg_u R 45 23 0) = some (g, R') → fn_170_3 (T : Int) R = zb_inn T g R' := by
          intro g R' hg
          unfold fn_170_3
          rw [if_neg (by omega), hg, Option.bind_some]; rfl
        rcases ev with ⟨e, C', R', k', pd', a1, a2, a3, a4, a5, a6⟩ | ⟨y, C', R', a0, a1, a2, a3, a4, a5, a6⟩
        · rw [e3 _ _ a2, a1]
          have gv0 := zb_GV_ev hpg hF hTS a3 hz a6 (zb_GV_r (R := R) (R' := eg_u R 45 23 0) rfl rfl hGV) (Or.inl ⟨Or.inr hr2, a5⟩)
          have t20 := zb_T2_kp hT2 (zb_EV_kp a3 hz)
          obtain ⟨v1, v2, v3, v4, v5, v6, v7, v8, v9, v10⟩ := a3
          have v7' : zb_RX R R' 0 := ⟨fun c hc => (v7.1 c hc).trans (hx0.1 c hc), fun f hf => (v7.2.1 f hf).trans (hx0.2.1 f hf), fun j hj => by omega⟩
          have hpg' := zb_PG_rx (zb_PG_ro h v3) v7'
          have hcx' := zb_CX_rx (zb_CX_ro hcx v3) v7'
          have hTO' : zb_TO C' F S (E T) D := fun y y1 y2 => by
            rw [(v4 y (by omega) y2 (by omega)).1]; exact hTO y (by omega) y2
          have hsk : zb_SK C' R' F (E T) e k' pd' D E := by
            refine ⟨v6, fun j hj => ?_, fun j hj => v9 j (by omega) hj, fun h0 => (v8 0 (by omega) h0).2.2.1, fun y y1 y2 y3 => ?_⟩
            · obtain ⟨b1, b2, b3, b4⟩ := v8 j (by omega) hj
              exact ⟨b1, b2, b4⟩
            · obtain ⟨j, j1, j2, j3⟩ := v10 y y1 y2 y3
              exact ⟨j, j2, j3⟩
          refine zb_SR_of ((ih (S - e) (by omega)).2 T e k' pd' C' R' rfl hpg' hcx' hF hTS (hD hTS) v1 v2 hTO' hsk (zb_GV_r (v7'.1 49 (by decide)) (v7'.1 50 (by decide)) gv0) t20) (fun f hf => v7'.2.1 f hf) (v7'.1 56 (by decide)) (v7'.1 49 (by decide)) (v7'.1 50 (by decide))
        · rw [e3 _ _ a3, a2, zb_inn_bad]
          exact Or.inr ⟨y, C', R', a0, a1, rfl, rfl, a4, fun f f1 f2 => (a6 f f1 f2).trans (hx0.2.1 f f1)⟩
      · have hTe : T = S := by omega
        rw [if_neg hTS, hTe]
        left
        refine ⟨C, R, zb_cl_end hcx.2.1, lp2_inr ?_, fun _ _ => rfl, by rw [← hTe]; exact hGV, hT2⟩
        unfold fn_170_3
        rw [if_pos (by decide)]
    refine ⟨top, ?_⟩
    intro T d k zb_pd C R hm h hcx hF hTS hD hTd hdE hTO hs hGV hT2
    have zb_hS := h.1
    obtain ⟨t1, t2, t3, t4, t5⟩ := zb_pg_o h hF hTS
    cases k with
    | zero =>
      have z : ∀ y, d ≤ y → y < E T → C 13 (y - F) = 0 := by
        intro y y1 y2
        by_cases hq : C 13 (y - F) = 0
        · exact hq
        · obtain ⟨j, j1, _⟩ := hs.2.2.2.2 y y1 y2 hq; omega
      rw [zb_clw_skip hcx zb_hS.2.1 zb_hS.2.2 _ d (E T) rfl (by omega) hdE t2 z, zb_inn_end (by omega) hs.1]
      have h53 : R 53 T = if E T < S then (E T : Int) else -1 := by
        rw [(zb_pg_l h hF hTS).1]
        by_cases hq : E T < S
        · have := t4 hq
          rw [if_pos hq, if_pos ⟨hq, by omega⟩]
        · rw [if_neg hq, if_neg (fun z => hq z.1)]
      rw [h53]
      have hnx : E T < S → D (E T) = 0 := fun hq => by have := t4 hq; omega
      by_cases hde : d = E T
      · exact top (E T) C R (by omega) h hcx (by omega) t2 hnx hTO (zb_GV_skip hGV z) hT2
      · exact (ih (S - E T) (by omega)).1 (E T) C R rfl h hcx (by omega) t2 hnx hTO (zb_GV_skip hGV z) hT2
    | succ k =>
      obtain ⟨z1, z2, hs2⟩ := zb_SK_skip h (by omega) t2 hs
      obtain ⟨a1, a2, a3⟩ := hs.2.1 k (by omega)
      have hlen := zb_SK_len h (by omega) t2 hs k (by omega)
      rw [zb_clw_skip hcx zb_hS.2.1 zb_hS.2.2 _ d (zb_pd k) rfl (by omega) a1 (by omega) z1]
      have hx0 : zb_RX R (eg_u R 45 23 (k : Int)) 4200 := by
        refine ⟨fun c hc => eg_u_ne (vne hc (a := 45) (by decide)), fun f hf => by simp [eg_u, hf], fun j hj => ⟨rfl, rfl, rfl⟩⟩
      have hpg := zb_PG_rx h hx0
      have hcx0 := zb_CX_rx hcx hx0
      have hstep : ∀ g R', (if R 59 k < 0 then fn_182 (eg_wi ((-1) - R 59 k)) (R 60 k) (R 61 k) (eg_u R 45 23 (k : Int)) else fn_171 (R 59 k) 0 (eg_u R 45 23 (k : Int))) = some (g, R') → zb_inn T 0 R = zb_inn T g R' := by
        intro g R' hg
        refine lp2_inl ?_
        unfold fn_170_13
        rw [if_neg (by decide), hs.1, if_neg (by omega), zb_wi_m1 (by omega) (by omega), Nat.add_sub_cancel, if_pos (by omega), Int.toNat_natCast]
        by_cases hq : R 59 k < 0
        · rw [if_pos hq] at hg ⊢
          rw [hg]; rfl
        · rw [if_neg hq] at hg ⊢
          rw [hg]; rfl
      have gvk := zb_GV_r (R := R) (R' := eg_u R 45 23 (k : Int)) rfl rfl (zb_GV_skip hGV z1)
      have fin : ∀ V zb_rf, zb_ER C (eg_u R 45 23 (k : Int)) F S D E (zb_pd k) k zb_pd V (zb_clw x (zb_pd k) C) (zb_clw x) zb_rf → (∀ C', V C' → ((C 13 (zb_pd k - F) = 1 ∨ C 13 (zb_pd k - F) = 2) ∧ zb_VLs (eg_u R 45 23 (k : Int)) F D E (zb_pd k) C') ∨ (C 13 (zb_pd k - F) = 7 ∧ ∃ l, F ≤ l ∧ l < zb_pd k ∧ zb_ch D E l (zb_pd k) ∧ C 14 (zb_pd k - F) = (l : Int) ∧ zb_VLb (eg_u R 45 23 (k : Int)) F D E (zb_pd k) l C')) → (if R 59 k < 0 then fn_182 (eg_wi ((-1) - R 59 k)) (R 60 k) (R 61 k) (eg_u R 45 23 (k : Int)) else fn_171 (R 59 k) 0 (eg_u R 45 23 (k : Int))) = zb_rf → (C 13 (zb_pd k - F) = 7 → (∃ R', zb_rf = some (0, R')) → ∀ l, F ≤ l → zb_ch D E l (zb_pd k) → zb_okB R D E (zb_pd k) ∧ zb_qx D l (zb_pd k) < 8) → zb_SR C R S F D E (zb_clw x (zb_pd k) C) (zb_outx (zb_inn T 0 R)) := by
        intro V zb_rf hev hVV hrf h7
        rcases hev with ⟨e, C', R', k', pd', b1, b2, b3, b4, b5, b6⟩ | ⟨y, C', R', b0, b1, b2, b3, b4, b5, b6⟩
        · rw [hstep 0 R' (hrf.trans b2), b1]
          have hb3 := b3
          have gv0 := zb_GV_ev hpg (by omega) (by omega) b3 z2 b6 gvk (hVV C' b5)
          have t20 := zb_T2_kp hT2 (zb_EV_kp b3 z2)
          obtain ⟨v1, v2, v3, v4, v5, v6, v7, v8, v9, v10⟩ := b3
          have v7' : zb_RX R R' k := ⟨fun c hc => (v7.1 c hc).trans (hx0.1 c hc), fun f hf => (v7.2.1 f hf).trans (hx0.2.1 f hf), fun j hj => v7.2.2 j hj⟩
          have hpg' := zb_PG_rx (zb_PG_ro h v3) v7'
          have hcx' := zb_CX_rx (zb_CX_ro hcx v3) v7'
          have hEk : E (zb_pd k) ≤ E T := by
            by_cases h0 : k = 0
            · subst h0; exact hs.2.2.2.1 (by omega)
            · have g1 := zb_SK_dec h (by omega) t2 hs (k - 1) k (by omega) (by omega)
              have g2 := (hs.2.1 (k - 1) (by omega)).2.1
              omega
          have hTO' : zb_TO C' F S (E T) D := fun y y1 y2 => by
            rw [(v4 y (by omega) y2 (by omega)).1]; exact hTO y y1 y2
          have hsk : zb_SK C' R' F (E T) e k' pd' D E := zb_SK_step h (by omega) t2 hs2 rfl b4 hb3 (fun z => h7 z ⟨R', b2⟩) (v7'.1 49 (by decide))
          exact zb_SR_of ((ih (S - e) (by omega)).2 T e k' pd' C' R' rfl hpg' hcx' hF hTS hD (by omega) (by omega) hTO' hsk (zb_GV_r (v7'.1 49 (by decide)) (v7'.1 50 (by decide)) gv0) t20) (fun f hf => v7'.2.1 f hf) (v7'.1 56 (by decide)) (v7'.1 49 (by decide)) (v7'.1 50 (by decide))
        · rw [hstep 3 R' (hrf.trans b3), b2, zb_inn_bad]
          exact Or.inr ⟨y, C', R', b0, b1, rfl, rfl, b4, fun f f1 f2 => (b6 f f1 f2).trans (hx0.2.1 f f1)⟩
      obtain ⟨c1, c2, c3⟩ := hs2.2.1 k (by omega)
      rcases c3 with ⟨e1, e2⟩ | ⟨e1, e2, l, l1, l2, l3, l4, l5, l6, l7, l8⟩
      · have ev := zb_ev_expr (x := x) (o := 0) (k := k) (zb_pd := zb_pd) hpg hN hcx0 (d := zb_pd k) (by omega) (by omega) (Or.inl e1) ⟨fun z => absurd rfl z, fun z => by rw [e1] at z; exact absurd z (by decide)⟩ z2 rfl (by omega)
        refine fin _ _ ev (fun C' hC' => Or.inl ⟨Or.inl e1, hC'⟩) ?_ (fun z => by rw [e1] at z; exact absurd z (by decide))
        rw [if_neg (by omega), e2]
      · have ev := zb_ev_bind (x := x) (k := k) (zb_pd := zb_pd) (l := l) hpg hN hcx0 (d := zb_pd k) (by omega) (by omega) e1 z2 rfl (by omega) l1 (by omega) l3 l4 l7
        refine fin _ _ ev.1 (fun C' hC' => Or.inr ⟨e1, l, l1, by omega, l3, l4, hC'⟩) ?_ (fun _ hR l' hl' hc' => ?_)
        · rw [if_pos (by omega), e2, l5, l6, eg_wi_id (by omega) (by omega)]
          congr 1; omega
        · have := ev.2.2 hR
          have hll : l' = l := by
            have d1 := hc'.2.2
            have d2 := l3.2.2
            have g1 := (zb_pg_o h hl' (by have := hc'.1; omega)).2.2.1
            have g2 := (zb_pg_o h l1 (by omega)).2.2.1
            by_cases ha : l' < l
            · have := g1 l ha (by have := hc'.2.1; have := l3.1; omega); omega
            · by_cases hb : l < l'
              · have := g2 l' hb (by have := l3.2.1; have := hc'.1; omega); omega
              · omega
          rw [hll]; exact this
end SHP
section SHP
variable {C R : eM} {F S N : Nat} {D E : Nat → Nat}
theorem zb_f54t {x : Int} : ∀ (m T : Nat) (C : eM), S - T = m → zb_PG C R F S N D E → zb_CX C R F S → F ≤ T → T ≤ S → (T < S → D T = 0) → (∀ y, F ≤ y → y < S → C 13 (y - F) = if y < T ∧ D y = 0 then 2 else 0) → ∃ C', zb_RO C C' ∧ zb_TO C' F S F D ∧ lp (fun z => fn_54_10 x z.1 z.2) ((T : Int), C) = zb_clw x F C' := by
  intro m
  induction m using Nat.strongRecOn with
  | ind m ih =>
    intro T C hm h hcx hF hT hD hro
    have zb_hS := h.1
    by_cases hTS : T < S
    · obtain ⟨t1, t2, t3, t4, t5⟩ := zb_pg_o h hF hTS
      have hr : zb_RO C (eg_u C 13 (T - F) 2) := fun c a b => eg_u_ne a
      have e1 : fn_54_10 x (T : Int) C = some (.inl ((E T : Int), eg_u C 13 (T - F) 2)) := by
        unfold fn_54_10
        rw [hcx.2.1, if_neg (by omega), hcx.1, zb_wi_sub hF (by omega), if_pos (by omega), if_pos (by omega), Int.toNat_natCast, Int.toNat_natCast, (h.2.2 T hF hTS).2.1]
      obtain ⟨C', g1, g2, g3⟩ := ih (S - E T) (by omega) (E T) (eg_u C 13 (T - F) 2) rfl (zb_PG_ro h hr) (zb_CX_ro hcx hr) (by omega) t2 (fun hq => by have := t4 hq; have := hD hTS; omega) (fun y y1 y2 => by
        by_cases hy : y = T
        · subst hy
          rw [if_pos ⟨t1, hD hTS⟩]; simp [eg_u]
        · have n1 : ¬ (y - F = T - F) := by omega
          have : (eg_u C 13 (T - F) 2) 13 (y - F) = C 13 (y - F) := by simp [eg_u, n1]
          rw [this, hro y y1 y2]
          by_cases ha : y < T ∧ D y = 0
          · rw [if_pos ha, if_pos ⟨by omega, ha.2⟩]
          · rw [if_neg ha, if_neg (fun z => ?_)]
            by_cases hb : y < T
            · exact ha ⟨hb, z.2⟩
            · have := t3 y (by omega) z.1
              have := z.2
              omega)
      exact ⟨C', zb_RO_trans hr g1, g2, (lp2_inl e1).trans g3⟩
    · have hTe : T = S := by omega
      subst hTe
      refine ⟨C, zb_RO_refl, fun y y1 y2 => ?_, lp2_map ?_⟩
      · rw [hro y y1 y2]
        by_cases hd : D y = 0
        · rw [if_pos ⟨y2, hd⟩, if_pos hd]
        · rw [if_neg (fun z => hd z.2), if_neg hd]
      · unfold fn_54_10
        rw [hcx.2.1, if_pos (by omega), hcx.1]; rfl
theorem zb_shape_all (h : zb_PG C R F S N D E) (hN : N ≤ 444) (h6 : C 1 6 = (S : Int)) (hp : ∀ x, F ≤ x → x < S → C 9 (x - F) = R 56 x) : zb_SR C R S F D E (fn_54 (F : Int) C) (fn_170 R) := by
  have zb_hS := h.1
  have hD : F < S → D F = 0 := by
    intro hq
    rcases h.2.1.2 with ⟨z, _⟩ | ⟨_, _, z, _⟩
    · omega
    · exact z
  have h21 : R 45 21 = if F < S then (F : Int) else -1 := by
    rcases h.2.1.2 with ⟨z1, z2, _⟩ | ⟨z1, z2, _⟩
    · rw [if_neg (by omega)]; exact z2
    · rw [if_pos z1]; exact z2
  have hc1 : zb_PG (eg_fil (eg_u C 12 3 (F : Int)) 13 0 2000 0) R F S N D E := h
  have hc2 : zb_CX (eg_fil (eg_u C 12 3 (F : Int)) 13 0 2000 0) R F S := ⟨rfl, h6, hp⟩
  obtain ⟨C', g1, g2, g3⟩ := zb_f54t (x := (F : Int)) (S := S) (R := R) (N := N) (D := D) (E := E) _ F _ rfl hc1 hc2 (Nat.le_refl _) zb_hS.1 hD (fun y y1 y2 => by
    rw [if_neg (fun z => by have := z.1; omega)]
    show eg_fil _ 13 0 2000 0 13 (y - F) = 0
    unfold eg_fil
    rw [if_pos ⟨rfl, by omega, by omega⟩])
  have := (zb_shape_walk (F := F) (D := D) (E := E) hN (x := (F : Int)) (S - F)).1 F C' R rfl (zb_PG_ro hc1 g1) (zb_CX_ro hc2 g1) (Nat.le_refl _) zb_hS.1 hD g2 (fun y y1 y2 => by omega) (fun y y1 y2 y3 => by rw [g2 y y1 y2, if_pos y3])
  have e54 : fn_54 (F : Int) C = zb_clw (F : Int) F C' := by
    unfold fn_54; exact g3
  have e170 : fn_170 R = lp (fun z => fn_170_3 z.1 z.2) ((if F < S then (F : Int) else -1), R) := by
    unfold fn_170; rw [h21]
  rw [e54, e170]
  rcases this with ⟨C1, R1, a1, a2, a3, a4, a5⟩ | ⟨y, C1, R1, a0, a1, a2, a3, a4, a5⟩
  · exact Or.inl ⟨C1, R1, a1, a2, a3, a4, a5⟩
  · exact Or.inr ⟨y, C1, R1, a0, a1, a2, a3, a4, a5⟩
end SHP
