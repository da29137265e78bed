def zb_DR (C R : eM) (F N : Nat) (D E : Nat → Nat) (c : Nat) : Prop := C 6 c = (D c : Int) ∧ C 5 c = (E c : Int) ∧ zb_vk (C 4 c) (R 49 c) (R 50 c) N ∧ (R 49 c = 4 ∨ E c = c + 1) ∧ D c ≤ 30
def zb_PG (C R : eM) (F S N : Nat) (D E : Nat → Nat) : Prop := (F ≤ S ∧ S ≤ 20000 ∧ S ≤ F + 2000) ∧ zb_TR R F S D E ∧ ∀ c, F ≤ c → c < S → zb_DR C R F N D E c
theorem zb_PG_of {C0 R0 C R : eM} {n F S a N : Nat} {D E op L B : Nat → Nat} (h : zb_STT C0 R0 C R n F S 0 a D E op N L B) : zb_PG C R F S N D E := by
  obtain ⟨⟨⟨⟨p1, p2, p3⟩, ⟨q1, q2, q3⟩, ⟨s1, s2, s3, s4, s5, s6, s7⟩, l1, l2⟩, hX, hT, zb_hO, hOM, hD⟩, hB, hV, hN, f1, f2, f3⟩ := h
  refine ⟨⟨s5, s6, s7⟩, hT, fun c h1 h2 => ?_⟩
  obtain ⟨d1, d2, d3, d4, d5, d6, d7⟩ := hD c h1 h2
  exact ⟨d1, d3 (fun i hi => by omega), hV c h1 h2, d7, d2⟩
section SHP
variable {C R : eM} {F S N : Nat} {D E : Nat → Nat}
theorem zb_pg_o (h : zb_PG C R F S N D E) {c : Nat} (h1 : F ≤ c) (h2 : c < S) : c < E c ∧ E c ≤ S ∧ (∀ x, c < x → x < E c → D c < D x) ∧ (E c < S → D (E c) ≤ D c) ∧ (c + 1 < S → D (c + 1) ≤ D c + 1) := by
  obtain ⟨t1, t2, t3, t4, t5, _⟩ := h.2.1.1 c h1 h2
  exact ⟨t1, t2, t3, t4, t5⟩
theorem zb_pg_l (h : zb_PG C R F S N D E) {c : Nat} (h1 : F ≤ c) (h2 : c < S) : zb_LK R S D E c := (h.2.1.1 c h1 h2).2.2.2.2.2
abbrev zb_ch (D E : Nat → Nat) (c x : Nat) : Prop := c < x ∧ x < E c ∧ D x = D c + 1
theorem zb_ch_first (h : zb_PG C R F S N D E) {c : Nat} (h1 : F ≤ c) (h2 : c < S) (h3 : c + 1 < E c) : zb_ch D E c (c + 1) := by
  obtain ⟨t1, t2, t3, t4, t5⟩ := zb_pg_o h h1 h2
  refine ⟨by omega, h3, ?_⟩
  have := t3 (c + 1) (by omega) h3
  have := t5 (by omega)
  omega
theorem zb_ch_in (h : zb_PG C R F S N D E) {c x : Nat} (h1 : F ≤ c) (h2 : c < S) (hx : zb_ch D E c x) : F ≤ x ∧ x < S ∧ E x ≤ E c := by
  obtain ⟨t1, t2, t3, t4, t5⟩ := zb_pg_o h h1 h2
  obtain ⟨x1, x2, x3⟩ := hx
  refine ⟨by omega, by omega, ?_⟩
  obtain ⟨u1, u2, u3, u4, u5⟩ := zb_pg_o h (c := x) (by omega) (by omega)
  by_cases hq : E c < E x
  · have := u3 (E c) x2 hq
    have := t4 (by omega)
    omega
  · omega
theorem zb_ch_next (h : zb_PG C R F S N D E) {c x : Nat} (h1 : F ≤ c) (h2 : c < S) (hx : zb_ch D E c x) (h3 : E x < E c) : zb_ch D E c (E x) := by
  obtain ⟨t1, t2, t3, t4, t5⟩ := zb_pg_o h h1 h2
  obtain ⟨y1, y2, y3⟩ := zb_ch_in h h1 h2 hx
  obtain ⟨x1, x2, x3⟩ := hx
  obtain ⟨u1, u2, u3, u4, u5⟩ := zb_pg_o h y1 y2
  refine ⟨by omega, h3, ?_⟩
  have := t3 (E x) (by omega) h3
  have := u4 (by omega)
  omega
theorem zb_ch_skip (h : zb_PG C R F S N D E) {c x y : Nat} (h1 : F ≤ c) (h2 : c < S) (hx : zb_ch D E c x) (hy : x < y) (hy2 : y < E x) : ¬ zb_ch D E c y := by
  obtain ⟨y1, y2, y3⟩ := zb_ch_in h h1 h2 hx
  obtain ⟨u1, u2, u3, u4, u5⟩ := zb_pg_o h y1 y2
  intro z
  have := u3 y hy hy2
  have := z.2.2
  have := hx.2.2
  omega
def zb_ks (D E : Nat → Nat) (c : Nat) : Nat := zb_ct D (D c + 1) (c + 1) (E c - (c + 1))
theorem zb_ct_succ {D : Nat → Nat} {v a n : Nat} : zb_ct D v a (n + 1) = zb_ct D v a n + (if D (a + n) = v then 1 else 0) := rfl
theorem zb_ct_add {D : Nat → Nat} {v a m k : Nat} : zb_ct D v a (m + k) = zb_ct D v a m + zb_ct D v (a + m) k := by
  induction k with
  | zero => rfl
  | succ k ih => rw [← Nat.add_assoc, zb_ct_succ, zb_ct_succ, ih, Nat.add_assoc a m k]; omega
theorem zb_ct_zero {D : Nat → Nat} {v a k : Nat} (h : ∀ x, a ≤ x → x < a + k → D x ≠ v) : zb_ct D v a k = 0 := by
  induction k with
  | zero => rfl
  | succ k ih => rw [zb_ct_succ, ih (fun x h1 h2 => h x h1 (by omega)), if_neg (h _ (by omega) (by omega))]
theorem zb_ct_one {D : Nat → Nat} {v a k : Nat} (hk : 0 < k) (h0 : D a = v) (h : ∀ x, a < x → x < a + k → D x ≠ v) : zb_ct D v a k = 1 := by
  obtain ⟨k, rfl⟩ : ∃ j, k = 1 + j := ⟨k - 1, by omega⟩
  rw [zb_ct_add, zb_ct_zero (a := a + 1) (fun x h1 h2 => h x (by omega) (by omega)), show (1 : Nat) = 0 + 1 from rfl, zb_ct_succ, if_pos (by rw [Nat.add_zero]; exact h0)]
  rfl
theorem zb_ks_step (h : zb_PG C R F S N D E) {c x : Nat} (h1 : F ≤ c) (h2 : c < S) (hx : zb_ch D E c x) : zb_ct D (D c + 1) (c + 1) (E x - (c + 1)) = zb_ct D (D c + 1) (c + 1) (x - (c + 1)) + 1 := by
  obtain ⟨y1, y2, y3⟩ := zb_ch_in h h1 h2 hx
  obtain ⟨u1, u2, u3, u4, u5⟩ := zb_pg_o h y1 y2
  obtain ⟨x1, x2, x3⟩ := hx
  rw [show E x - (c + 1) = (x - (c + 1)) + (E x - x) by omega, zb_ct_add, show c + 1 + (x - (c + 1)) = x by omega, zb_ct_one (by omega) x3 (fun y g1 g2 => ?_)]
  have := u3 y g1 (by omega); omega
theorem zb_ks_le (h : zb_PG C R F S N D E) {c : Nat} (h1 : F ≤ c) (h2 : c < S) : zb_ks D E c ≤ 2000 := by
  obtain ⟨t1, t2, t3, t4, t5⟩ := zb_pg_o h h1 h2
  have := h.1
  exact Nat.le_trans zb_ct_le (by omega)
theorem zb_ks_pos (h : zb_PG C R F S N D E) {c : Nat} (h1 : F ≤ c) (h2 : c < S) : (0 < zb_ks D E c) ↔ c + 1 < E c := by
  obtain ⟨t1, t2, t3, t4, t5⟩ := zb_pg_o h h1 h2
  constructor
  · intro z
    by_cases hq : c + 1 < E c
    · exact hq
    · exfalso
      unfold zb_ks at z
      rw [show E c - (c + 1) = 0 by omega] at z
      exact absurd z (by unfold zb_ct; omega)
  · intro z
    have hf := zb_ch_first h h1 h2 z
    have e1 := zb_ks_step h h1 h2 hf
    obtain ⟨y1, y2, y3⟩ := zb_ch_in h h1 h2 hf
    have y4 := (zb_pg_o h y1 y2).1
    unfold zb_ks
    rw [show E c - (c + 1) = (E (c + 1) - (c + 1)) + (E c - E (c + 1)) by omega, zb_ct_add, e1]
    omega
theorem zb_f58 (h : zb_PG C R F S N D E) {c : Nat} (h1 : F ≤ c) (h2 : c < S) : ∀ (m x : Nat), E c - x = m → (zb_ch D E c x ∨ x = E c) → lp (fun z => fn_58_6 (c : Int) C z.1 z.2) (((zb_ct D (D c + 1) (c + 1) (x - (c + 1)) : Nat) : Int), (x : Int)) = some ((zb_ks D E c : Nat) : Int) := by
  obtain ⟨t1, t2, t3, t4, t5⟩ := zb_pg_o h h1 h2
  have zb_hS := h.1
  have hc := h.2.2 c h1 h2
  intro m
  induction m using Nat.strongRecOn with
  | ind m ih =>
    intro x hm hx
    rcases hx with hx | hx
    · obtain ⟨y1, y2, y3⟩ := zb_ch_in h h1 h2 hx
      obtain ⟨u1, u2, _⟩ := zb_pg_o h y1 y2
      have hxc := h.2.2 x y1 y2
      have hle : zb_ct D (D c + 1) (c + 1) (x - (c + 1)) ≤ 2000 := Nat.le_trans zb_ct_le (by omega)
      have e1 : fn_58_6 (c : Int) C ((zb_ct D (D c + 1) (c + 1) (x - (c + 1)) : Nat) : Int) (x : Int) = some (.inl (((zb_ct D (D c + 1) (c + 1) (E x - (c + 1)) : Nat) : Int), (E x : Int))) := by
        unfold fn_58_6
        rw [if_pos (by omega), Int.toNat_natCast, hc.2.1, if_neg (by have := hx.2.1; omega), if_pos (by omega), Int.toNat_natCast, hxc.2.1, zb_wi_1 (by omega), zb_ks_step h h1 h2 hx]
      rw [lp2_inl e1]
      refine ih (E c - E x) (by have := hx.2.1; omega) (E x) rfl ?_
      by_cases hq : E x < E c
      · exact Or.inl (zb_ch_next h h1 h2 hx hq)
      · exact Or.inr (by omega)
    · subst hx
      refine lp2_inr ?_
      unfold fn_58_6
      rw [if_pos (by omega), Int.toNat_natCast, hc.2.1, if_pos (by omega)]
      rfl
theorem zb_f58_ok (h : zb_PG C R F S N D E) {c : Nat} (h1 : F ≤ c) (h2 : c < S) : fn_58 (c : Int) C = some ((zb_ks D E c : Nat) : Int) := by
  obtain ⟨t1, t2, t3, t4, t5⟩ := zb_pg_o h h1 h2
  have zb_hS := h.1
  unfold fn_58
  rw [zb_wi_1 (by omega)]
  have := zb_f58 h h1 h2 _ (c + 1) rfl (by
    by_cases hq : c + 1 < E c
    · exact Or.inl (zb_ch_first h h1 h2 hq)
    · exact Or.inr (by omega))
  rw [Nat.sub_self] at this
  exact this
theorem zb_vk_tag {c k v : Int} {N : Nat} (h : zb_vk c k v N) (hN : N ≤ 444) : (eb_lshr c 32 = 2 ↔ k = 3) ∧ (c = 25769803776 ↔ k = 4) ∧ (k = 3 → eg_wi c = v ∧ 0 ≤ v ∧ v < (N : Int)) ∧ 0 ≤ k ∧ k ≤ 4 := by
  have hr : 0 ≤ c ∧ c < 9223372036854775808 := by unfold zb_vk at h; omega
  rw [zb_lshr_hi (by omega)]
  refine ⟨?_, ?_, ?_, ?_⟩
  · unfold zb_vk at h; omega
  · unfold zb_vk at h; omega
  · intro hk
    have : 0 ≤ v ∧ v < (N : Int) ∧ c = 8589934592 + v := by unfold zb_vk at h; omega
    refine ⟨?_, this.1, this.2.1⟩
    rw [this.2.2]; unfold eg_wi; omega
  · unfold zb_vk at h; omega
def zb_sp (R : eM) (c : Nat) : Prop := R 49 c = 3 ∧ R 50 c < 10
theorem zb_f60 (h : zb_PG C R F S N D E) (hN : N ≤ 444) {c : Nat} (h1 : F ≤ c) (h2 : c < S) : ∃ b : Int, fn_60 (c : Int) C = some b ∧ fn_172 (c : Int) R = some b ∧ ((b = 1 ∧ zb_sp R c) ∨ (b = 0 ∧ ¬ zb_sp R c)) := by
  have zb_hS := h.1
  obtain ⟨g1, g2, g3, g4⟩ := zb_vk_tag (h.2.2 c h1 h2).2.2.1 hN
  unfold fn_60 fn_172 zb_sp
  rw [if_pos (show 0 ≤ (c : Int) ∧ (c : Int) < 20000 by omega), if_pos (show 0 ≤ (c : Int) ∧ (c : Int) < 20100 by omega), Int.toNat_natCast]
  by_cases hk : R 49 c = 3
  · rw [if_neg (show ¬ ¬ eb_lshr (C 4 c) 32 = 2 from fun z => z (g1.mpr hk)), if_neg (show ¬ ¬ R 49 c = 3 from fun z => z hk), (g3 hk).1]
    by_cases hv : 10 ≤ R 50 c
    · rw [if_pos hv]; exact ⟨0, rfl, rfl, Or.inr ⟨rfl, by omega⟩⟩
    · rw [if_neg hv]; exact ⟨1, rfl, rfl, Or.inl ⟨rfl, hk, by omega⟩⟩
  · rw [if_pos (fun z => hk (g1.mp z)), if_pos hk]
    exact ⟨0, rfl, rfl, Or.inr ⟨rfl, fun z => hk z.1⟩⟩
theorem zb_f64 (h : zb_PG C R F S N D E) (hN : N ≤ 444) {c : Nat} (h1 : F ≤ c) (h2 : c < S) : ∃ b : Int, fn_64 (c : Int) C = some b ∧ fn_177 (c : Int) R = some b ∧ ((b = 1 ∧ R 49 c = 3) ∨ (b = 0 ∧ ¬ R 49 c = 3)) := by
  have zb_hS := h.1
  obtain ⟨g1, g2, g3, g4⟩ := zb_vk_tag (h.2.2 c h1 h2).2.2.1 hN
  unfold fn_64 fn_177
  rw [if_pos (show 0 ≤ (c : Int) ∧ (c : Int) < 20000 by omega), if_pos (show 0 ≤ (c : Int) ∧ (c : Int) < 20100 by omega), Int.toNat_natCast]
  by_cases hk : R 49 c = 3
  · rw [if_neg (fun z => z (g1.mpr hk)), if_neg (fun z => z hk)]; exact ⟨1, rfl, rfl, Or.inl ⟨rfl, hk⟩⟩
  · rw [if_pos (fun z => hk (g1.mp z)), if_pos hk]; exact ⟨0, rfl, rfl, Or.inr ⟨rfl, hk⟩⟩
end SHP
section SHP
variable {C R : eM} {F S N : Nat} {D E : Nat → Nat}
def zb_fo (R : eM) (c f : Nat) : Prop := (f < 10 ∧ zb_sp R (c + 1) ∧ R 50 (c + 1) = (f : Int)) ∨ (f = 10 ∧ ¬ zb_sp R (c + 1))
def zb_okb (f n : Nat) : Prop := 1 ≤ n ∧ ((f = 0 ∧ n = 2) ∨ (f = 1 ∧ (n = 3 ∨ n = 4)) ∨ (f = 2 ∧ n = 3) ∨ (f = 3 ∧ n = 3) ∨ ((f = 4 ∨ f = 5) ∧ 3 ≤ n) ∨ ((f = 6 ∨ f = 7) ∧ 2 ≤ n) ∨ f = 8 ∨ f = 9 ∨ (f = 10 ∧ n ≤ 9))
def zb_okf (f n : Nat) (o : Prop) : Prop := zb_okb f n ∧ (f = 3 → o)
theorem zb_f59 (h : zb_PG C R F S N D E) (hN : N ≤ 444) {c : Nat} (h1 : F ≤ c) (h2 : c + 1 < S) : ∃ f : Nat, fn_59 (c : Int) C = some (f : Int) ∧ zb_fo R c f := by
  have zb_hS := h.1
  obtain ⟨b, k1, k2, k3⟩ := zb_f60 h hN (c := c + 1) (by omega) h2
  obtain ⟨g1, g2, g3, g4⟩ := zb_vk_tag (h.2.2 (c + 1) (by omega) h2).2.2.1 hN
  unfold fn_59
  rw [zb_wi_1 (by omega), k1, Option.bind_some]
  rcases k3 with ⟨k3, k4⟩ | ⟨k3, k4⟩
  · rw [if_neg (by omega), if_pos (by omega), Int.toNat_natCast, (g3 k4.1).1]
    obtain ⟨g5, g6, g7⟩ := g3 k4.1
    have := k4.2
    exact ⟨(R 50 (c + 1)).toNat, by rw [Int.toNat_of_nonneg g6], Or.inl ⟨by omega, k4, by omega⟩⟩
  · rw [if_pos k3]
    exact ⟨10, rfl, Or.inr ⟨rfl, k4⟩⟩
theorem zb_r55 (h : zb_PG C R F S N D E) {c : Nat} (h1 : F ≤ c) (h2 : c < S) : R 55 c = ((zb_ks D E c : Nat) : Int) := (zb_pg_l h h1 h2).2.2.2.1
theorem zb_r51 (h : zb_PG C R F S N D E) {c : Nat} (h1 : F ≤ c) (h2 : c < S) (h3 : c + 1 < E c) : R 51 c = ((c + 1 : Nat) : Int) := by
  rw [(zb_pg_l h h1 h2).2.1, if_pos h3]
theorem zb_f175 (h : zb_PG C R F S N D E) (hN : N ≤ 444) {c f : Nat} (h1 : F ≤ c) (h2 : c < S) (h4 : R 49 c = 4) (h3 : c + 1 < E c) (hf : zb_fo R c f) : fn_175 (c : Int) R = some (if f = 10 then -1 else (f : Int)) := by
  have zb_hS := h.1
  have zb_hE := (zb_pg_o h h1 h2).2.1
  obtain ⟨b, k1, k2, k3⟩ := zb_f60 h hN (c := c + 1) (by omega) (by omega)
  have hk := (zb_ks_pos h h1 h2).mpr h3
  unfold fn_175
  rw [if_pos (by omega), Int.toNat_natCast, if_neg (by omega), zb_r55 h h1 h2, if_neg (by omega), zb_r51 h h1 h2 h3, k2, Option.bind_some]
  rcases hf with ⟨f1, f2, f3⟩ | ⟨f1, f2⟩
  · have hb : b = 1 := by
      rcases k3 with ⟨z, _⟩ | ⟨_, z⟩
      · exact z
      · exact absurd f2 z
    rw [if_neg (by omega), if_pos (by omega), Int.toNat_natCast, f3, if_neg (by omega)]
  · have hb : b = 0 := by
      rcases k3 with ⟨_, z⟩ | ⟨z, _⟩
      · exact absurd z f2
      · exact z
    rw [if_pos hb, if_pos f1]
theorem zb_f175e (h : zb_PG C R F S N D E) {c : Nat} (h1 : F ≤ c) (h2 : c < S) (h3 : ¬ c + 1 < E c) : fn_175 (c : Int) R = some (-1) := by
  have zb_hS := h.1
  have hk : zb_ks D E c = 0 := by
    by_cases hq : 0 < zb_ks D E c
    · exact absurd ((zb_ks_pos h h1 h2).mp hq) h3
    · omega
  unfold fn_175
  rw [if_pos (by omega), Int.toNat_natCast]
  by_cases h4 : R 49 c = 4
  · rw [if_neg (by omega), zb_r55 h h1 h2, hk, if_pos (by decide)]
  · rw [if_pos h4]
theorem zb_f174 (h : zb_PG C R F S N D E) (hN : N ≤ 444) {c f : Nat} {o : Int} (h1 : F ≤ c) (h2 : c < S) (h4 : R 49 c = 4) (h3 : c + 1 < E c) (hf : zb_fo R c f) : ∃ b : Int, fn_174 (c : Int) o R = some b ∧ ((b = 1 ∧ zb_okf f (zb_ks D E c) (¬ o = 0)) ∨ (b = 0 ∧ ¬ zb_okf f (zb_ks D E c) (¬ o = 0))) := by
  have zb_hS := h.1
  have hk := (zb_ks_pos h h1 h2).mpr h3
  have hf10 : f ≤ 10 := by
    rcases hf with ⟨z, _⟩ | ⟨z, _⟩ <;> omega
  unfold fn_174
  rw [if_pos (by omega), zb_f175 h hN h1 h2 h4 h3 hf, Option.bind_some, Int.toNat_natCast, zb_r55 h h1 h2]
  generalize zb_ks D E c = n at hk
  clear hf h4 h3 h2 h1 zb_hS h hN
  by_cases h10 : f = 10
  · subst h10
    rw [if_pos rfl, if_neg (by decide), if_neg (by decide), if_neg (by decide), if_neg (by decide), if_neg (by decide), if_neg (by decide), if_neg (by decide), if_neg (by decide), if_neg (by decide), if_neg (by decide)]
    unfold zb_okf zb_okb
    repeat' (refine zb_ite_ex (fun _ => ?_) (fun _ => ?_))
    all_goals first | exact ⟨1, rfl, by omega⟩ | exact ⟨0, rfl, by omega⟩
  · rw [if_neg h10]
    unfold zb_okf zb_okb
    repeat' (refine zb_ite_ex (fun _ => ?_) (fun _ => ?_))
    all_goals first | exact ⟨1, rfl, by omega⟩ | exact ⟨0, rfl, by omega⟩
theorem zb_f174e (h : zb_PG C R F S N D E) {c : Nat} {o : Int} (h1 : F ≤ c) (h2 : c < S) (h3 : ¬ c + 1 < E c) : fn_174 (c : Int) o R = some 0 := by
  have zb_hS := h.1
  have hk : zb_ks D E c = 0 := by
    by_cases hq : 0 < zb_ks D E c
    · exact absurd ((zb_ks_pos h h1 h2).mp hq) h3
    · omega
  unfold fn_174
  rw [if_pos (by omega), zb_f175e h h1 h2 h3, Option.bind_some, Int.toNat_natCast, zb_r55 h h1 h2, hk]
  simp
theorem zb_least_most : ∀ f : Nat, f ≤ 10 → ∀ n : Nat, n ≤ 2000 → ((¬ (n : Int) < eg_least.getD f 0 ∧ (n : Int) ≤ eg_most.getD f 0) ↔ zb_okb f n) := by
  unfold zb_okb
  intro f hf n hn
  have : f = 0 ∨ f = 1 ∨ f = 2 ∨ f = 3 ∨ f = 4 ∨ f = 5 ∨ f = 6 ∨ f = 7 ∨ f = 8 ∨ f = 9 ∨ f = 10 := by omega
  rcases this with rfl | rfl | rfl | rfl | rfl | rfl | rfl | rfl | rfl | rfl | rfl <;> simp [eg_least, eg_most] <;> omega
theorem zb_f57 (h : zb_PG C R F S N D E) (hN : N ≤ 444) {c f : Nat} (h12 : C 12 3 = (F : Int)) (h1 : F ≤ c) (h2 : c < S) (h3 : c + 1 < E c) (hf : zb_fo R c f) : (zb_okf f (zb_ks D E c) (C 13 (c - F) = 2) ∧ fn_57 (c : Int) C = fn_57_40 (c : Int) (f : Int) C) ∨ (¬ zb_okf f (zb_ks D E c) (C 13 (c - F) = 2) ∧ fn_57 (c : Int) C = some (0, C)) := by
  have zb_hS := h.1
  have zb_hE := (zb_pg_o h h1 h2).2.1
  obtain ⟨f', k1, k2⟩ := zb_f59 h hN h1 (by omega)
  have hff : f' = f := by
    rcases hf with ⟨z1, z2, z3⟩ | ⟨z1, z2⟩ <;> rcases k2 with ⟨y1, y2, y3⟩ | ⟨y1, y2⟩
    · omega
    · exact absurd z2 y2
    · exact absurd y2 z2
    · omega
  subst hff
  have hf10 : f' ≤ 10 := by
    rcases hf with ⟨z, _⟩ | ⟨z, _⟩ <;> omega
  have hk := (zb_ks_pos h h1 h2).mpr h3
  have hlm := zb_least_most f' hf10 (zb_ks D E c) (zb_ks_le h h1 h2)
  unfold fn_57
  rw [zb_f58_ok h h1 h2, Option.bind_some, if_pos (by omega), k1, Option.bind_some, if_pos (by omega), Int.toNat_natCast, h12, zb_wi_sub h1 (by omega)]
  by_cases hok : ¬ ((zb_ks D E c : Nat) : Int) < eg_least.getD f' 0 ∧ ((zb_ks D E c : Nat) : Int) ≤ eg_most.getD f' 0
  · rw [if_neg hok.1, if_pos hok.2]
    have hk2 := hlm.mp hok
    by_cases hf3 : f' = 3
    · rw [if_neg (by omega), if_pos (by omega), Int.toNat_natCast]
      by_cases ho : C 13 (c - F) = 2
      · left; rw [if_pos ho]; exact ⟨⟨hk2, fun _ => ho⟩, rfl⟩
      · right; rw [if_neg ho]; exact ⟨fun z => ho (z.2 hf3), rfl⟩
    · left
      rw [if_pos (by omega)]; exact ⟨⟨hk2, fun z => absurd z hf3⟩, rfl⟩
  · right
    refine ⟨fun z => hok (hlm.mpr z.1), ?_⟩
    by_cases hl : ((zb_ks D E c : Nat) : Int) < eg_least.getD f' 0
    · rw [if_pos hl]
    · rw [if_neg hl, if_neg (fun z => hok ⟨hl, z⟩)]
theorem zb_f57e (h : zb_PG C R F S N D E) {c : Nat} (h1 : F ≤ c) (h2 : c < S) (h3 : ¬ c + 1 < E c) : fn_57 (c : Int) C = some (0, C) := by
  have hk : zb_ks D E c = 0 := by
    by_cases hq : 0 < zb_ks D E c
    · exact absurd ((zb_ks_pos h h1 h2).mp hq) h3
    · omega
  unfold fn_57
  rw [zb_f58_ok h h1 h2, Option.bind_some, hk, if_neg (by decide)]
end SHP
section SHP
variable {C R : eM} {F S N : Nat} {D E : Nat → Nat}
def zb_RO (C C' : eM) : Prop := ∀ c, c ≠ 13 → c ≠ 14 → C' c = C c
theorem zb_RO_refl : zb_RO C C := fun _ _ _ => rfl
theorem zb_RO_trans {C1 C2 : eM} (h1 : zb_RO C C1) (h2 : zb_RO C1 C2) : zb_RO C C2 := fun c a b => (h2 c a b).trans (h1 c a b)
theorem zb_PG_ro {C' : eM} (h : zb_PG C R F S N D E) (hr : zb_RO C C') : zb_PG C' R F S N D E := by
  refine ⟨h.1, h.2.1, fun c h1 h2 => ?_⟩
  unfold zb_DR
  rw [hr 6 (by decide) (by decide), hr 5 (by decide) (by decide), hr 4 (by decide) (by decide)]
  exact h.2.2 c h1 h2
theorem zb_f61 {c : Nat} {b : Int} (h1 : F ≤ c) (h2 : c < S) : ∀ (m x : Nat) {C : eM}, zb_PG C R F S N D E → C 12 3 = (F : Int) → E c - x = m → (zb_ch D E c x ∨ x = E c) → ∃ C', lp (fun z => fn_61_2 (c : Int) b z.1 z.2) ((x : Int), C) = some C' ∧ zb_RO C C' ∧ C' 14 = C 14 ∧ ∀ y, F ≤ y → y < S → C' 13 (y - F) = if x ≤ y ∧ zb_ch D E c y then 1 else C 13 (y - F) := by
  intro m
  induction m using Nat.strongRecOn with
  | ind m ih =>
    intro x C h h12 hm hx
    have zb_hS := h.1
    obtain ⟨t1, t2, t3, t4, t5⟩ := zb_pg_o h h1 h2
    have hc := h.2.2 c h1 h2
    rcases hx with hx | hx
    · obtain ⟨y1, y2, y3⟩ := zb_ch_in h h1 h2 hx
      obtain ⟨u1, u2, _⟩ := zb_pg_o h y1 y2
      have hxc := h.2.2 x y1 y2
      have hro : zb_RO C (eg_u C 13 (x - F) 1) := fun c a b => eg_u_ne a
      have e1 : fn_61_2 (c : Int) b (x : Int) C = some (.inl ((E x : Int), eg_u C 13 (x - F) 1)) := by
        unfold fn_61_2
        rw [if_pos (by omega), Int.toNat_natCast, hc.2.1, if_neg (by have := hx.2.1; omega), h12, zb_wi_sub (by omega) (by omega), if_pos (by omega), if_pos (by omega), Int.toNat_natCast, Int.toNat_natCast, hxc.2.1]
      have hnx : zb_ch D E c (E x) ∨ E x = E c := by
        by_cases hq : E x < E c
        · exact Or.inl (zb_ch_next h h1 h2 hx hq)
        · exact Or.inr (by omega)
      obtain ⟨C', g1, g2, g3, g4⟩ := ih (E c - E x) (by have := hx.2.1; omega) (E x) (zb_PG_ro h hro) h12 rfl hnx
      refine ⟨C', (lp2_inl e1).trans g1, zb_RO_trans hro g2, g3.trans (eg_u_ne (by decide)), fun y a1 a2 => ?_⟩
      rw [g4 y a1 a2]
      by_cases hyx : y = x
      · subst hyx
        rw [if_neg (by omega), if_pos ⟨Nat.le_refl _, hx⟩]; simp [eg_u]
      · have e2 : (eg_u C 13 (x - F) 1) 13 (y - F) = C 13 (y - F) := by simp [eg_u]; omega
        rw [e2]
        by_cases hq : E x ≤ y ∧ zb_ch D E c y
        · rw [if_pos hq, if_pos ⟨by omega, hq.2⟩]
        · rw [if_neg hq, if_neg (fun z => ?_)]
          by_cases hyE : y < E x
          · exact zb_ch_skip h h1 h2 hx (by omega) hyE z.2
          · exact hq ⟨by omega, z.2⟩
    · subst hx
      refine ⟨C, lp2_inr ?_, zb_RO_refl, rfl, fun y a1 a2 => ?_⟩
      · unfold fn_61_2
        rw [if_pos (by omega), Int.toNat_natCast, hc.2.1, if_pos (by omega)]
      · rw [if_neg (fun z => by have := z.2.2.1; omega)]
theorem zb_f65 {c : Nat} {b : Int} (h1 : F ≤ c) (h2 : c < S) : ∀ (m x : Nat) {C : eM}, zb_PG C R F S N D E → C 12 3 = (F : Int) → E c - x = m → (zb_ch D E c x ∨ x = E c) → ∃ C', lp (fun z => fn_65_4 (c : Int) b z.1 z.2) ((x : Int), C) = some C' ∧ zb_RO C C' ∧ (∀ y, F ≤ y → y < S → C' 13 (y - F) = if x ≤ y ∧ zb_ch D E c y then b else C 13 (y - F)) ∧ (∀ y, F ≤ y → y < S → C' 14 (y - F) = if x ≤ y ∧ zb_ch D E c y then (c : Int) else C 14 (y - F)) := by
  intro m
  induction m using Nat.strongRecOn with
  | ind m ih =>
    intro x C h h12 hm hx
    have zb_hS := h.1
    obtain ⟨t1, t2, t3, t4, t5⟩ := zb_pg_o h h1 h2
    have hc := h.2.2 c h1 h2
    rcases hx with hx | hx
    · obtain ⟨y1, y2, y3⟩ := zb_ch_in h h1 h2 hx
      obtain ⟨u1, u2, _⟩ := zb_pg_o h y1 y2
      have hxc := h.2.2 x y1 y2
      have hro : zb_RO C (eg_u (eg_u C 13 (x - F) b) 14 (x - F) (c : Int)) := fun c a b => (eg_u_ne b).trans (eg_u_ne a)
      have e1 : fn_65_4 (c : Int) b (x : Int) C = some (.inl ((E x : Int), eg_u (eg_u C 13 (x - F) b) 14 (x - F) (c : Int))) := by
        unfold fn_65_4
        rw [if_pos (by omega), Int.toNat_natCast, hc.2.1, if_neg (by have := hx.2.1; omega), h12, zb_wi_sub (by omega) (by omega), if_pos (by omega), if_pos (by omega), Int.toNat_natCast, Int.toNat_natCast, hxc.2.1]
      have hnx : zb_ch D E c (E x) ∨ E x = E c := by
        by_cases hq : E x < E c
        · exact Or.inl (zb_ch_next h h1 h2 hx hq)
        · exact Or.inr (by omega)
      obtain ⟨C', g1, g2, g3, g4⟩ := ih (E c - E x) (by have := hx.2.1; omega) (E x) (zb_PG_ro h hro) h12 rfl hnx
      have key : ∀ y, F ≤ y → y < S → y ≠ x → ((E x ≤ y ∧ zb_ch D E c y) ↔ (x ≤ y ∧ zb_ch D E c y)) := by
        intro y a1 a2 hyx
        constructor
        · intro z; exact ⟨by omega, z.2⟩
        · intro z
          by_cases hyE : y < E x
          · exact absurd z.2 (zb_ch_skip h h1 h2 hx (by omega) hyE)
          · exact ⟨by omega, z.2⟩
      refine ⟨C', (lp2_inl e1).trans g1, zb_RO_trans hro g2, fun y a1 a2 => ?_, fun y a1 a2 => ?_⟩
      · rw [g3 y a1 a2]
        by_cases hyx : y = x
        · subst hyx
          rw [if_neg (by omega), if_pos ⟨Nat.le_refl _, hx⟩]; simp [eg_u]
        · have e2 : (eg_u (eg_u C 13 (x - F) b) 14 (x - F) (c : Int)) 13 (y - F) = C 13 (y - F) := by simp [eg_u]; omega
          rw [e2]
          by_cases hq : E x ≤ y ∧ zb_ch D E c y
          · rw [if_pos hq, if_pos ((key y a1 a2 hyx).mp hq)]
          · rw [if_neg hq, if_neg (fun z => hq ((key y a1 a2 hyx).mpr z))]
      · rw [g4 y a1 a2]
        by_cases hyx : y = x
        · subst hyx
          rw [if_neg (by omega), if_pos ⟨Nat.le_refl _, hx⟩]; simp [eg_u]
        · have e2 : (eg_u (eg_u C 13 (x - F) b) 14 (x - F) (c : Int)) 14 (y - F) = C 14 (y - F) := by simp [eg_u]; omega
          rw [e2]
          by_cases hq : E x ≤ y ∧ zb_ch D E c y
          · rw [if_pos hq, if_pos ((key y a1 a2 hyx).mp hq)]
          · rw [if_neg hq, if_neg (fun z => hq ((key y a1 a2 hyx).mpr z))]
    · subst hx
      refine ⟨C, lp2_inr ?_, zb_RO_refl, fun y a1 a2 => ?_, fun y a1 a2 => ?_⟩
      · unfold fn_65_4
        rw [if_pos (by omega), Int.toNat_natCast, hc.2.1, if_pos (by omega)]
      · rw [if_neg (fun z => by have := z.2.2.1; omega)]
      · rw [if_neg (fun z => by have := z.2.2.1; omega)]
theorem zb_cl_ok {x : Int} {d : Nat} {r : Int} {C' : eM} (h6 : C 1 6 = (S : Int)) (hd : d < S) (zb_hS : S ≤ 20000) (he : fn_56 (d : Int) C = some (r, C')) (hr : r ≠ 0) : lp (fun z => fn_54_33 x z.1 z.2) ((d : Int), C) = lp (fun z => fn_54_33 x z.1 z.2) (((d + 1 : Nat) : Int), C') := by
  refine lp2_inl ?_
  unfold fn_54_33
  rw [h6, if_neg (by omega), he, Option.bind_some, if_pos hr, zb_wi_1 (by omega)]
theorem zb_cl_bad {x : Int} {d : Nat} {C' : eM} (h6 : C 1 6 = (S : Int)) (hd : d < S) (hF : F ≤ d) (zb_hS : S ≤ 20000) (hS2 : S ≤ F + 2000) (h12 : C' 12 3 = (F : Int)) (he : fn_56 (d : Int) C = some (0, C')) : lp (fun z => fn_54_33 x z.1 z.2) ((d : Int), C) = some (C' 9 (d - F), C') := by
  refine lp2_inr ?_
  unfold fn_54_33
  rw [h6, if_neg (by omega), he, Option.bind_some, if_neg (by show ¬ ¬ (0 : Int) = 0; decide), if_pos (by show 0 ≤ eg_wi ((d : Int) - C' 12 3) ∧ eg_wi ((d : Int) - C' 12 3) < 2000; rw [h12, zb_wi_sub hF (by omega)]; omega)]
  dsimp only
  rw [h12, zb_wi_sub hF (by omega), Int.toNat_natCast]
theorem zb_cl_end {x : Int} (h6 : C 1 6 = (S : Int)) : lp (fun z => fn_54_33 x z.1 z.2) ((S : Int), C) = some (-1, C) := by
  refine lp2_inr ?_
  unfold fn_54_33
  rw [h6, if_pos (by omega)]
theorem zb_f56_0 {d : Nat} (hF : F ≤ d) (hd : d < S) (zb_hS : S ≤ 20000) (hS2 : S ≤ F + 2000) (h12 : C 12 3 = (F : Int)) (hr : C 13 (d - F) = 0) : fn_56 (d : Int) C = some (1, C) := by
  unfold fn_56 fn_56_11
  rw [if_pos (by omega), h12, zb_wi_sub hF (by omega), Int.toNat_natCast, Int.toNat_natCast, hr]
  simp
  omega
end SHP
section SHP
variable {C R : eM} {F S N : Nat} {D E : Nat → Nat}
theorem zb_ch_le (h : zb_PG C R F S N D E) {c x y : Nat} (h1 : F ≤ c) (h2 : c < S) (hx : zb_ch D E c x) (hy : zb_ch D E c y) (hxy : x < y) : E x ≤ y := by
  by_cases hq : y < E x
  · exact absurd hy (zb_ch_skip h h1 h2 hx hxy hq)
  · omega
theorem zb_ch_prev (h : zb_PG C R F S N D E) {c x : Nat} (h1 : F ≤ c) (h2 : c < S) (hx : zb_ch D E c x) (hx1 : x ≠ c + 1) : ∃ p, zb_ch D E c p ∧ E p = x := by
  have key : ∀ (m y : Nat), x - y = m → zb_ch D E c y → y < x → ∃ p, zb_ch D E c p ∧ E p = x := by
    intro m
    induction m using Nat.strongRecOn with
    | ind m ih =>
      intro y hm hy hyx
      have hle := zb_ch_le h h1 h2 hy hx hyx
      by_cases hq : E y = x
      · exact ⟨y, hy, hq⟩
      · obtain ⟨y1, y2, y3⟩ := zb_ch_in h h1 h2 hy
        have hlt := (zb_pg_o h y1 y2).1
        have hlt2 := hx.2.1
        exact ih (x - E y) (by omega) (E y) rfl (zb_ch_next h h1 h2 hy (by omega)) (by omega)
  have hlt := hx.1
  have hlt2 := hx.2.1
  exact key _ (c + 1) rfl (zb_ch_first h h1 h2 (by omega)) (by omega)
theorem zb_PG_r {R' : eM} (h : zb_PG C R F S N D E) (hr : ∀ c, c ∉ ([45, 59, 60, 61] : List Nat) → R' c = R c) (h21 : R' 45 21 = R 45 21) (h22 : R' 45 22 = R 45 22) : zb_PG C R' F S N D E := by
  have r49 := hr 49 (by decide)
  have r50 := hr 50 (by decide)
  have zb_r51 := hr 51 (by decide)
  have zb_r52 := hr 52 (by decide)
  have zb_r53 := hr 53 (by decide)
  have r54 := hr 54 (by decide)
  have zb_r55 := hr 55 (by decide)
  obtain ⟨h1, h2, h3⟩ := h
  refine ⟨h1, ?_, fun c a b => ?_⟩
  · unfold zb_TR zb_LK zb_LS zb_TP at h2 ⊢
    rw [zb_r51, zb_r52, zb_r53, r54, zb_r55, h21, h22]; exact h2
  · unfold zb_DR
    rw [r49, r50]; exact h3 c a b
def zb_PU (R : eM) (k : Nat) (a b e : Int) : eM := eg_u (eg_u (eg_u (eg_u R 59 k a) 60 k b) 61 k e) 45 23 ((k + 1 : Nat) : Int)
theorem zb_f178 {k : Nat} {a b e : Int} (h : R 45 23 = (k : Int)) (hk : k < 4100) : fn_178 a b e R = some (zb_PU R k a b e) := by
  unfold fn_178
  rw [h, if_pos (by omega), Int.toNat_natCast, zb_wi_1 (by omega)]; rfl
theorem zb_f181 {c lo : Nat} {to x9 : Int} (h1 : F ≤ c) (h2 : c < S) (hlo : (to = -1 ∧ lo = c + 1) ∨ ∃ t : Nat, to = (t : Int) ∧ zb_ch D E c t ∧ lo = E t) : ∀ (m x k : Nat) {R : eM} {zb_pd : Nat → Nat}, zb_PG C R F S N D E → x - lo = m → zb_ch D E c x → lo ≤ x → R 45 23 = (k : Int) → k + (x - lo) < 4000 →
    ∃ (R' : eM) (k' : Nat) (pd' : Nat → Nat), lp (fun z => fn_181_2 x9 to z.1 z.2) ((x : Int), R) = some R' ∧ k < k' ∧ R' 45 23 = (k' : Int) ∧ (∀ j, j < k → pd' j = zb_pd j) ∧ pd' k = x ∧ (∀ j, k ≤ j → j < k' → lo ≤ pd' j ∧ pd' j ≤ x ∧ zb_ch D E c (pd' j) ∧ R' 59 j = (pd' j : Int)) ∧ (∀ j, k ≤ j → j + 1 < k' → E (pd' (j + 1)) ≤ pd' j) ∧ (∀ y, lo ≤ y → y ≤ x → zb_ch D E c y → ∃ j, k ≤ j ∧ j < k' ∧ pd' j = y)
      ∧ (∀ c, c ∉ ([45, 59, 60, 61] : List Nat) → R' c = R c) ∧ (∀ f, f ≠ 23 → R' 45 f = R 45 f) ∧ (∀ j, j < k → R' 59 j = R 59 j ∧ R' 60 j = R 60 j ∧ R' 61 j = R 61 j) := by
  intro m
  induction m using Nat.strongRecOn with
  | ind m ih =>
    intro x k R zb_pd h hm hx hlx hk hk4
    have zb_hS := h.1
    obtain ⟨x1, x2, x3⟩ := zb_ch_in h h1 h2 hx
    have hxE := (zb_pg_o h x1 x2).1
    have hne : ¬ (x : Int) = to := by
      rcases hlo with ⟨z, _⟩ | ⟨t, z1, z2, z3⟩
      · omega
      · obtain ⟨t1, t2, t3⟩ := zb_ch_in h h1 h2 z2
        have := (zb_pg_o h t1 t2).1; omega
    have hfr : ∀ c, c ∉ ([45, 59, 60, 61] : List Nat) → (zb_PU R k (x : Int) 0 0) c = R c := by
      intro c hc
      simp only [List.mem_cons, List.not_mem_nil, or_false, not_or] at hc
      funext j; simp [zb_PU, eg_u, hc]
    have hff : ∀ f, f ≠ 23 → (zb_PU R k (x : Int) 0 0) 45 f = R 45 f := by
      intro f hf; simp [zb_PU, eg_u, hf]
    have hpg : zb_PG C (zb_PU R k (x : Int) 0 0) F S N D E := zb_PG_r h hfr (hff 21 (by decide)) (hff 22 (by decide))
    have step : ∀ nx : Int, R 54 x = nx → lp (fun z => fn_181_2 x9 to z.1 z.2) ((x : Int), R) = lp (fun z => fn_181_2 x9 to z.1 z.2) (nx, zb_PU R k (x : Int) 0 0) := by
      intro nx hnx
      refine lp2_inl ?_
      unfold fn_181_2
      rw [if_neg hne, zb_f178 hk (by omega), Option.bind_some, if_pos (by omega), Int.toNat_natCast, show (zb_PU R k (x : Int) 0 0) 54 x = R 54 x from rfl, hnx]
    have stop : lp (fun z => fn_181_2 x9 to z.1 z.2) (to, zb_PU R k (x : Int) 0 0) = some (zb_PU R k (x : Int) 0 0) := by
      refine lp2_inr ?_
      unfold fn_181_2
      rw [if_pos rfl]
    have fin : R 54 x = to → (∀ y, lo ≤ y → y ≤ x → zb_ch D E c y → y = x) → ∃ (R' : eM) (k' : Nat) (pd' : Nat → Nat), lp (fun z => fn_181_2 x9 to z.1 z.2) ((x : Int), R) = some R' ∧ k < k' ∧ R' 45 23 = (k' : Int) ∧ (∀ j, j < k → pd' j = zb_pd j) ∧ pd' k = x ∧ (∀ j, k ≤ j → j < k' → lo ≤ pd' j ∧ pd' j ≤ x ∧ zb_ch D E c (pd' j) ∧ R' 59 j = (pd' j : Int)) ∧ (∀ j, k ≤ j → j + 1 < k' → E (pd' (j + 1)) ≤ pd' j) ∧ (∀ y, lo ≤ y → y ≤ x → zb_ch D E c y → ∃ j, k ≤ j ∧ j < k' ∧ pd' j = y)
      ∧ (∀ c, c ∉ ([45, 59, 60, 61] : List Nat) → R' c = R c) ∧ (∀ f, f ≠ 23 → R' 45 f = R 45 f) ∧ (∀ j, j < k → R' 59 j = R 59 j ∧ R' 60 j = R 60 j ∧ R' 61 j = R 61 j) := by
      intro hto honly
      refine ⟨zb_PU R k (x : Int) 0 0, k + 1, fun j => if j = k then x else zb_pd j, (step to hto).trans stop, by omega, rfl, fun j hj => if_neg (by omega), if_pos rfl, fun j j1 j2 => ?_, fun j j1 j2 => by omega, fun y y1 y2 y3 => ⟨k, Nat.le_refl _, by omega, ?_⟩, hfr, hff, fun j hj => ?_⟩
      · have : j = k := by omega
        subst this
        dsimp only
        rw [if_pos rfl]
        exact ⟨hlx, Nat.le_refl _, hx, by simp [zb_PU, eg_u]⟩
      · dsimp only; rw [if_pos rfl]; exact (honly y y1 y2 y3).symm
      · have : j ≠ k := by omega
        simp [zb_PU, eg_u, this]
    by_cases hfirst : x = c + 1
    · have hlast : R 54 x = -1 := by
        rw [hfirst]
        exact (zb_pg_l h h1 h2).2.2.2.2.1 (by have := hx.2.1; omega)
      rcases hlo with ⟨z1, z2⟩ | ⟨t, z1, z2, z3⟩
      · exact fin (hlast.trans z1.symm) (fun y y1 y2 y3 => by omega)
      · obtain ⟨t1, t2, t3⟩ := zb_ch_in h h1 h2 z2
        have := (zb_pg_o h t1 t2).1
        have := z2.1
        omega
    · obtain ⟨p, hp, hpx⟩ := zb_ch_prev h h1 h2 hx hfirst
      obtain ⟨p1, p2, p3⟩ := zb_ch_in h h1 h2 hp
      have hpE := (zb_pg_o h p1 p2).1
      have h54 : R 54 x = (p : Int) := by
        have := (zb_pg_l h p1 p2).2.2.2.2.2 (by omega) (by rw [hpx, hx.2.2, hp.2.2])
        rw [hpx] at this; exact this
      by_cases hplo : lo ≤ p
      · obtain ⟨R', k', pd', g1, g2, g3, g4, g5, g6, g7, g8, g9, g10, g11⟩ := ih (p - lo) (by omega) p (k + 1) (zb_pd := fun j => if j = k then x else zb_pd j) hpg rfl hp hplo rfl (by omega)
        have hpk : pd' k = x := by rw [g4 k (by omega)]; exact if_pos rfl
        refine ⟨R', k', pd', (step _ h54).trans g1, by omega, g3, fun j hj => by rw [g4 j (by omega)]; exact if_neg (by omega), hpk, fun j j1 j2 => ?_, fun j j1 j2 => ?_, fun y y1 y2 y3 => ?_, fun c hc => (g9 c hc).trans (hfr c hc), fun f hf => (g10 f hf).trans (hff f hf), fun j hj => ?_⟩
        · by_cases hjk : j = k
          · subst hjk
            rw [hpk]
            refine ⟨hlx, Nat.le_refl _, hx, ?_⟩
            rw [(g11 j (by omega)).1]; simp [zb_PU, eg_u]
          · obtain ⟨a1, a2, a3, a4⟩ := g6 j (by omega) j2
            exact ⟨a1, by omega, a3, a4⟩
        · by_cases hjk : j = k
          · subst hjk
            rw [hpk, g5, hpx]; exact Nat.le_refl _
          · exact g7 j (by omega) j2
        · by_cases hyx : y = x
          · exact ⟨k, Nat.le_refl _, by omega, by rw [hpk, hyx]⟩
          · have hyp : y ≤ p := by
              by_cases hq : p < y
              · have := zb_ch_le h h1 h2 hp y3 hq
                omega
              · omega
            obtain ⟨j, a1, a2, a3⟩ := g8 y y1 hyp y3
            exact ⟨j, by omega, a2, a3⟩
        · obtain ⟨a1, a2, a3⟩ := g11 j (by omega)
          have : j ≠ k := by omega
          rw [a1, a2, a3]; simp [zb_PU, eg_u, this]
      · rcases hlo with ⟨z1, z2⟩ | ⟨t, z1, z2, z3⟩
        · have := hp.1; omega
        · have hpt : p = t := by
            by_cases ha : p < t
            · have := zb_ch_le h h1 h2 hp z2 ha
              obtain ⟨t1, t2, t3⟩ := zb_ch_in h h1 h2 z2
              have := (zb_pg_o h t1 t2).1
              omega
            · by_cases hb : t < p
              · have := zb_ch_le h h1 h2 z2 hp hb; omega
              · omega
          subst hpt
          refine fin (h54.trans z1.symm) (fun y y1 y2 y3 => ?_)
          by_cases hq : y = x
          · exact hq
          · have := zb_ch_le h h1 h2 y3 hx (by omega)
            by_cases hpy : p < y
            · have h3 := zb_ch_le h h1 h2 hp y3 hpy
              obtain ⟨q1, q2, q3⟩ := zb_ch_in h h1 h2 y3
              have := (zb_pg_o h q1 q2).1
              omega
            · omega
end SHP
section SHP
variable {C R : eM} {F S N : Nat} {D E : Nat → Nat}
def zb_qx (D : Nat → Nat) (l x : Nat) : Nat := zb_ct D (D l + 1) (l + 1) (x - (l + 1))
theorem zb_qx_next (h : zb_PG C R F S N D E) {l x : Nat} (h1 : F ≤ l) (h2 : l < S) (hx : zb_ch D E l x) : zb_qx D l (E x) = zb_qx D l x + 1 := zb_ks_step h h1 h2 hx
theorem zb_qx_first {l : Nat} : zb_qx D l (l + 1) = 0 := by unfold zb_qx; rw [Nat.sub_self]; rfl
theorem zb_f109 {l : Nat} {x1 x2 x3 : Int} (h1 : F ≤ l) (h2 : l < S) : ∀ (m x k : Nat) {R : eM} {zb_pd : Nat → Nat}, zb_PG C R F S N D E → x - l = m → zb_ch D E l x → R 45 23 = (k : Int) → k + (x - l) < 4000 →
    ∃ (R' : eM) (k' : Nat) (pd' : Nat → Nat), lp (fun z => fn_171_109 x1 x2 x3 (l : Int) z.1 z.2.1 z.2.2) ((x : Int), (zb_qx D l x : Int), R) = some (0, R') ∧ k < k' ∧ R' 45 23 = (k' : Int) ∧ (∀ j, j < k → pd' j = zb_pd j) ∧ pd' k = x ∧ (∀ j, k ≤ j → j < k' → pd' j ≤ x ∧ zb_ch D E l (pd' j) ∧ R' 59 j = -1 - (pd' j : Int) ∧ R' 60 j = (zb_qx D l (pd' j) : Int) ∧ R' 61 j = (l : Int)) ∧ (∀ j, k ≤ j → j + 1 < k' → E (pd' (j + 1)) ≤ pd' j) ∧ (∀ y, y ≤ x → zb_ch D E l y → ∃ j, k ≤ j ∧ j < k' ∧ pd' j = y)
      ∧ (∀ c, c ∉ ([45, 59, 60, 61] : List Nat) → R' c = R c) ∧ (∀ f, f ≠ 23 → R' 45 f = R 45 f) ∧ (∀ j, j < k → R' 59 j = R 59 j ∧ R' 60 j = R 60 j ∧ R' 61 j = R 61 j) := by
  intro m
  induction m using Nat.strongRecOn with
  | ind m ih =>
    intro x k R zb_pd h hm hx hk hk4
    have zb_hS := h.1
    obtain ⟨y1, y2, y3⟩ := zb_ch_in h h1 h2 hx
    have hxE := (zb_pg_o h y1 y2).1
    have hq2 : zb_qx D l x ≤ 2000 := Nat.le_trans zb_ct_le (by omega)
    have hfr : ∀ c, c ∉ ([45, 59, 60, 61] : List Nat) → (zb_PU R k (-1 - (x : Int)) (zb_qx D l x : Int) (l : Int)) c = R c := by
      intro c hc
      simp only [List.mem_cons, List.not_mem_nil, or_false, not_or] at hc
      funext j; simp [zb_PU, eg_u, hc]
    have hff : ∀ f, f ≠ 23 → (zb_PU R k (-1 - (x : Int)) (zb_qx D l x : Int) (l : Int)) 45 f = R 45 f := by
      intro f hf; simp [zb_PU, eg_u, hf]
    have hpg : zb_PG C (zb_PU R k (-1 - (x : Int)) (zb_qx D l x : Int) (l : Int)) F S N D E := zb_PG_r h hfr (hff 21 (by decide)) (hff 22 (by decide))
    have step : ∀ nx : Int, R 54 x = nx → lp (fun z => fn_171_109 x1 x2 x3 (l : Int) z.1 z.2.1 z.2.2) ((x : Int), (zb_qx D l x : Int), R) = lp (fun z => fn_171_109 x1 x2 x3 (l : Int) z.1 z.2.1 z.2.2) (nx, (zb_qx D l x : Int) - 1, zb_PU R k (-1 - (x : Int)) (zb_qx D l x : Int) (l : Int)) := by
      intro nx hnx
      refine lp3_inl ?_
      unfold fn_171_109
      rw [if_neg (by omega), eg_wi_id (n := -1 - (x : Int)) (by omega) (by omega), zb_f178 hk (by omega), Option.bind_some, if_pos (by omega), Int.toNat_natCast, eg_wi_id (n := (zb_qx D l x : Int) + -1) (by omega) (by omega), show (zb_PU R k (-1 - (x : Int)) (zb_qx D l x : Int) (l : Int)) 54 x = R 54 x from rfl, hnx]
      rfl
    by_cases hfirst : x = l + 1
    · have hlast : R 54 x = -1 := by
        rw [hfirst]
        exact (zb_pg_l h h1 h2).2.2.2.2.1 (by have := hx.2.1; omega)
      have hq0 : zb_qx D l x = 0 := by rw [hfirst]; exact zb_qx_first
      have stop : lp (fun z => fn_171_109 x1 x2 x3 (l : Int) z.1 z.2.1 z.2.2) (-1, (zb_qx D l x : Int) - 1, zb_PU R k (-1 - (x : Int)) (zb_qx D l x : Int) (l : Int)) = some (0, zb_PU R k (-1 - (x : Int)) (zb_qx D l x : Int) (l : Int)) := by
        refine lp3_inr ?_
        unfold fn_171_109
        rw [if_pos (by omega)]
      refine ⟨_, k + 1, fun j => if j = k then x else zb_pd j, (step _ hlast).trans stop, by omega, rfl, fun j hj => if_neg (by omega), if_pos rfl, fun j j1 j2 => ?_, fun j j1 j2 => by omega, fun y g2 g3 => ⟨k, Nat.le_refl _, by omega, ?_⟩, hfr, hff, fun j hj => ?_⟩
      · have : j = k := by omega
        subst this
        dsimp only
        rw [if_pos rfl]
        exact ⟨Nat.le_refl _, hx, by simp [zb_PU, eg_u], by simp [zb_PU, eg_u], by simp [zb_PU, eg_u]⟩
      · dsimp only; rw [if_pos rfl]; have := g3.1; omega
      · have : j ≠ k := by omega
        simp [zb_PU, eg_u, this]
    · obtain ⟨p, hp, hpx⟩ := zb_ch_prev h h1 h2 hx hfirst
      obtain ⟨p1, p2, p3⟩ := zb_ch_in h h1 h2 hp
      have hpE := (zb_pg_o h p1 p2).1
      have h54 : R 54 x = (p : Int) := by
        have := (zb_pg_l h p1 p2).2.2.2.2.2 (by omega) (by rw [hpx, hx.2.2, hp.2.2])
        rw [hpx] at this; exact this
      have hqp : zb_qx D l x = zb_qx D l p + 1 := by rw [← hpx]; exact zb_qx_next h h1 h2 hp
      have hpl := hp.1
      obtain ⟨R', k', pd', g1, g2, g3, g4, g5, g6, g7, g8, g9, g10, g11⟩ := ih (p - l) (by omega) p (k + 1) (zb_pd := fun j => if j = k then x else zb_pd j) hpg rfl hp rfl (by omega)
      have hpk : pd' k = x := by rw [g4 k (by omega)]; exact if_pos rfl
      have st := step _ h54
      rw [show (zb_qx D l x : Int) - 1 = (zb_qx D l p : Int) by omega] at st
      refine ⟨R', k', pd', st.trans g1, by omega, g3, fun j hj => by rw [g4 j (by omega)]; exact if_neg (by omega), hpk, fun j j1 j2 => ?_, fun j j1 j2 => ?_, fun y z2 z3 => ?_, fun c hc => (g9 c hc).trans (hfr c hc), fun f hf => (g10 f hf).trans (hff f hf), fun j hj => ?_⟩
      · by_cases hjk : j = k
        · subst hjk
          obtain ⟨b1, b2, b3⟩ := g11 j (by omega)
          rw [hpk, b1, b2, b3]
          exact ⟨Nat.le_refl _, hx, by simp [zb_PU, eg_u], by simp [zb_PU, eg_u], by simp [zb_PU, eg_u]⟩
        · obtain ⟨a1, a2, a3⟩ := g6 j (by omega) j2
          exact ⟨by omega, a2, a3⟩
      · by_cases hjk : j = k
        · subst hjk
          rw [hpk, g5, hpx]; exact Nat.le_refl _
        · exact g7 j (by omega) j2
      · by_cases hyx : y = x
        · exact ⟨k, Nat.le_refl _, by omega, by rw [hpk, hyx]⟩
        · have hyp : y ≤ p := by
            by_cases hq : p < y
            · have := zb_ch_le h h1 h2 hp z3 hq
              omega
            · omega
          obtain ⟨j, a1, a2, a3⟩ := g8 y hyp z3
          exact ⟨j, by omega, a2, a3⟩
      · obtain ⟨a1, a2, a3⟩ := g11 j (by omega)
        have : j ≠ k := by omega
        rw [a1, a2, a3]; simp [zb_PU, eg_u, this]
end SHP
section SHP
variable {C R : eM} {F S N : Nat} {D E : Nat → Nat}
theorem zb_r53 (h : zb_PG C R F S N D E) {c x : Nat} (h1 : F ≤ c) (h2 : c < S) (hx : zb_ch D E c x) : R 53 x = if E x < E c then (E x : Int) else -1 := by
  obtain ⟨y1, y2, y3⟩ := zb_ch_in h h1 h2 hx
  obtain ⟨t1, t2, t3, t4, t5⟩ := zb_pg_o h h1 h2
  rw [(zb_pg_l h y1 y2).1]
  by_cases hq : E x < E c
  · have hn := zb_ch_next h h1 h2 hx hq
    rw [if_pos hq, if_pos ⟨by omega, by rw [hn.2.2, hx.2.2]⟩]
  · rw [if_neg hq, if_neg ?_]
    rintro ⟨z1, z2⟩
    have e : E x = E c := by omega
    rw [e] at z1 z2
    have := t4 z1
    have := hx.2.2
    omega
theorem zb_r52 (h : zb_PG C R F S N D E) {c : Nat} (h1 : F ≤ c) (h2 : c < S) (h3 : c + 1 < E c) : ∃ l : Nat, zb_ch D E c l ∧ E l = E c ∧ R 52 c = (l : Int) := by
  rcases (zb_pg_l h h1 h2).2.2.1 with ⟨z, _⟩ | ⟨l, l1, l2, l3, l4, l5⟩
  · omega
  · have zb_hE := (zb_pg_o h (c := l) (by omega) l2).1
    exact ⟨l, ⟨l1, by omega, l3⟩, l4, l5⟩
theorem zb_r51n (h : zb_PG C R F S N D E) {c : Nat} (h1 : F ≤ c) (h2 : c < S) (h3 : ¬ c + 1 < E c) : R 51 c = -1 := by
  rw [(zb_pg_l h h1 h2).2.1, if_neg h3]
theorem zb_at_end (h : zb_PG C R F S N D E) {c : Nat} (h1 : F ≤ c) (h2 : c < S) (hk : R 49 c ≠ 4) : E c = c + 1 := by
  rcases (h.2.2 c h1 h2).2.2.2.1 with z | z
  · exact absurd z hk
  · exact z
theorem zb_sp_end (h : zb_PG C R F S N D E) {c : Nat} (h1 : F ≤ c) (h2 : c < S) (hk : R 49 c = 3) : E c = c + 1 := zb_at_end h h1 h2 (by omega)
theorem zb_f176 (h : zb_PG C R F S N D E) {c : Nat} (h1 : F ≤ c) (h2 : c < S) (hsp : R 49 (c + 1) = 3) (h3 : c + 2 < E c) : fn_176 (c : Int) R = some ((c + 2 : Nat) : Int) ∧ zb_ch D E c (c + 1) ∧ zb_ch D E c (c + 2) ∧ E (c + 1) = c + 2 := by
  have zb_hS := h.1
  obtain ⟨t1, t2, t3, t4, t5⟩ := zb_pg_o h h1 h2
  have hf := zb_ch_first h h1 h2 (by omega)
  have e1 := zb_sp_end h (c := c + 1) (by omega) (by omega) hsp
  have hn := zb_ch_next h h1 h2 hf (by omega)
  rw [e1] at hn
  refine ⟨?_, hf, hn, e1⟩
  unfold fn_176
  rw [if_pos (by omega), Int.toNat_natCast, zb_r51 h h1 h2 (by omega), if_pos (by omega), Int.toNat_natCast, zb_r53 h h1 h2 hf, e1, if_pos (by omega)]
theorem zb_f173 {x : Nat} (hx : x < 20100) : fn_173 (x : Int) R = some (3, eg_u R 45 2 (R 56 x)) := by
  unfold fn_173
  rw [if_pos (by omega), Int.toNat_natCast]; rfl
def zb_CX (C R : eM) (F S : Nat) : Prop := C 12 3 = (F : Int) ∧ C 1 6 = (S : Int) ∧ ∀ x, F ≤ x → x < S → C 9 (x - F) = R 56 x
theorem zb_CX_ro {C' : eM} (h : zb_CX C R F S) (hr : zb_RO C C') : zb_CX C' R F S := by
  obtain ⟨h1, h2, h3⟩ := h
  refine ⟨?_, ?_, fun x a b => ?_⟩
  · rw [hr 12 (by decide) (by decide)]; exact h1
  · rw [hr 1 (by decide) (by decide)]; exact h2
  · rw [hr 9 (by decide) (by decide)]; exact h3 x a b
def zb_RX (R R' : eM) (k : Nat) : Prop := (∀ c, c ∉ ([45, 59, 60, 61] : List Nat) → R' c = R c) ∧ (∀ f, f ≠ 23 → R' 45 f = R 45 f) ∧ (∀ j, j < k → R' 59 j = R 59 j ∧ R' 60 j = R 60 j ∧ R' 61 j = R 61 j)
def zb_okB (R : eM) (D E : Nat → Nat) (y : Nat) : Prop := R 49 y = 4 ∧ zb_ks D E y = 2 ∧ R 49 (y + 1) = 3
def zb_EN (C R : eM) (F : Nat) (D E : Nat → Nat) (d j x : Nat) : Prop :=
  (C 13 (x - F) = 1 ∧ R 59 j = (x : Int)) ∨ (C 13 (x - F) = 7 ∧ R 59 j = -1 - (x : Int) ∧ ∃ l : Nat, F ≤ l ∧ l < d ∧ zb_ch D E l x ∧ C 14 (x - F) = (l : Int) ∧ R 61 j = (l : Int) ∧ R 60 j = (zb_qx D l x : Int) ∧ (∀ y, zb_ch D E l y → y < d → zb_okB R D E y ∧ zb_qx D l y < 8) ∧ (∀ y, zb_ch D E l y → d ≤ y → C 13 (y - F) = 7))
def zb_SK (C R : eM) (F ET d k : Nat) (zb_pd D E : Nat → Nat) : Prop :=
  R 45 23 = (k : Int) ∧ (∀ j, j < k → d ≤ zb_pd j ∧ zb_pd j < ET ∧ zb_EN C R F D E d j (zb_pd j)) ∧ (∀ j, j + 1 < k → E (zb_pd (j + 1)) ≤ zb_pd j) ∧ (0 < k → E (zb_pd 0) ≤ ET) ∧ (∀ x, d ≤ x → x < ET → C 13 (x - F) ≠ 0 → ∃ j, j < k ∧ zb_pd j = x)
def zb_EV (C R C' R' : eM) (F S : Nat) (D E : Nat → Nat) (d e k k' : Nat) (pd' : Nat → Nat) : Prop :=
  d < e ∧ e ≤ E d ∧ zb_RO C C' ∧ (∀ y, F ≤ y → y < S → ¬ (d < y ∧ y < E d) → C' 13 (y - F) = C 13 (y - F) ∧ C' 14 (y - F) = C 14 (y - F))
  ∧ k ≤ k' ∧ R' 45 23 = (k' : Int) ∧ zb_RX R R' k
  ∧ (∀ j, k ≤ j → j < k' → e ≤ pd' j ∧ pd' j < E d ∧ E (pd' j) ≤ E d ∧ zb_EN C' R' F D E e j (pd' j)) ∧ (∀ j, k ≤ j → j + 1 < k' → E (pd' (j + 1)) ≤ pd' j) ∧ (∀ x, e ≤ x → x < E d → C' 13 (x - F) ≠ 0 → ∃ j, k ≤ j ∧ j < k' ∧ pd' j = x)
theorem zb_SK_dec (h : zb_PG C R F S N D E) {ET d k : Nat} {zb_pd : Nat → Nat} (hF : F ≤ d) (hET : ET ≤ S) (hs : zb_SK C R F ET d k zb_pd D E) : ∀ i j, i < j → j < k → E (zb_pd j) ≤ zb_pd i := by
  intro i j hij
  induction j with
  | zero => omega
  | succ j ih =>
    intro hj
    have h1 := hs.2.2.1 j hj
    by_cases hq : i = j
    · rw [hq]; exact h1
    · have h2 := ih (by omega) (by omega)
      obtain ⟨a1, a2, _⟩ := hs.2.1 j (by omega)
      have := (zb_pg_o h (c := zb_pd j) (by omega) (by omega)).1
      omega
theorem zb_SK_step {C' R' : eM} (h : zb_PG C R F S N D E) {ET d e k k' : Nat} {zb_pd pd' : Nat → Nat} (hF : F ≤ d) (hET : ET ≤ S) (hs : zb_SK C R F ET d (k + 1) zb_pd D E) (hd : zb_pd k = d) (hpd : ∀ j, j < k → pd' j = zb_pd j) (hev : zb_EV C (eg_u R 45 23 (k : Int)) C' R' F S D E d e k k' pd') (h7 : C 13 (d - F) = 7 → ∀ l, F ≤ l → zb_ch D E l d → zb_okB R D E d ∧ zb_qx D l d < 8) (hR49 : R' 49 = R 49) : zb_SK C' R' F ET e k' pd' D E := by
  obtain ⟨s1, s2, s3, s4, s5⟩ := hs
  have hdec := zb_SK_dec h hF hET ⟨s1, s2, s3, s4, s5⟩
  obtain ⟨v1, v2, v3, v4, v5, v6, v7, v8, v9, v10⟩ := hev
  obtain ⟨a1, a2, a3⟩ := s2 k (by omega)
  rw [hd] at a1 a2 a3
  have hEd : E d ≤ ET := by
    by_cases h0 : k = 0
    · subst h0; rw [← hd]; exact s4 (by omega)
    · have h1 := hdec (k - 1) k (by omega) (by omega)
      have h2 := (s2 (k - 1) (by omega)).2.1
      rw [hd] at h1; omega
  have hbig : ∀ j, j < k → E d ≤ zb_pd j := fun j hj => by
    have := hdec j k hj (by omega)
    rw [hd] at this; exact this
  have hsame : ∀ y, F ≤ y → y < S → (y ≤ d ∨ E d ≤ y) → C' 13 (y - F) = C 13 (y - F) ∧ C' 14 (y - F) = C 14 (y - F) := fun y y1 y2 y3 => v4 y y1 y2 (by omega)
  refine ⟨v6, fun j hj => ?_, fun j hj => ?_, fun h0 => ?_, fun x x1 x2 x3 => ?_⟩
  · by_cases hjk : j < k
    · rw [hpd j hjk]
      obtain ⟨b1, b2, b3⟩ := s2 j (by omega)
      have hb := hbig j hjk
      refine ⟨by omega, b2, ?_⟩
      obtain ⟨c1, c2⟩ := hsame (zb_pd j) (by omega) (by omega) (Or.inr hb)
      obtain ⟨r1, r2, r3⟩ := v7.2.2 j hjk
      have r1' : R' 59 j = R 59 j := r1
      have r2' : R' 60 j = R 60 j := r2
      have r3' : R' 61 j = R 61 j := r3
      rcases b3 with ⟨z1, z2⟩ | ⟨z1, z2, l, l1, l2, l3, l4, l5, l6, l7, l8⟩
      · exact Or.inl ⟨by rw [c1]; exact z1, by rw [r1']; exact z2⟩
      · refine Or.inr ⟨by rw [c1]; exact z1, by rw [r1']; exact z2, l, l1, by omega, l3, by rw [c2]; exact l4, by rw [r3']; exact l5, by rw [r2']; exact l6, fun y y1 y2 => ?_, fun y y1 y2 => ?_⟩
        · have hok : zb_okB R D E y ∧ zb_qx D l y < 8 := by
            by_cases hyd : y < d
            · exact l7 y y1 hyd
            · have hy7 := l8 y y1 (by omega)
              have hyE := y1.2.1
              obtain ⟨hl1, hl2, hl3⟩ := zb_ch_in h (c := l) l1 (by omega) l3
              obtain ⟨q1, q2, q3⟩ := zb_ch_in h (c := l) l1 (by omega) y1
              obtain ⟨i, i1, i2⟩ := s5 y (by omega) (by omega) (by rw [hy7]; decide)
              by_cases hik : i = k
              · have : y = d := by rw [← i2, hik]; exact hd
                subst this
                exact h7 hy7 l l1 y1
              · have := hbig i (by omega); omega
          unfold zb_okB at hok ⊢
          rw [hR49]; exact hok
        · obtain ⟨q1, q2, q3⟩ := zb_ch_in h (c := l) l1 (by omega) y1
          have hy7 := l8 y y1 (by omega)
          by_cases hyE : y < E d
          · obtain ⟨hl1, hl2, hl3⟩ := zb_ch_in h (c := l) l1 (by omega) l3
            obtain ⟨i, i1, i2⟩ := s5 y (by omega) (by omega) (by rw [hy7]; decide)
            by_cases hik : i = k
            · have : y = d := by rw [← i2, hik]; exact hd
              omega
            · have := hbig i (by omega); omega
          · rw [(hsame y q1 q2 (Or.inr (by omega))).1]; exact hy7
    · obtain ⟨b1, b2, b3, b4⟩ := v8 j (by omega) hj
      exact ⟨b1, by omega, b4⟩
  · by_cases hjk : j + 1 < k
    · rw [hpd j (by omega), hpd (j + 1) hjk]; exact s3 j (by omega)
    · by_cases hjk2 : j < k
      · have hj1 : j + 1 = k := by omega
        obtain ⟨b1, b2, b3, b4⟩ := v8 (j + 1) (by omega) hj
        rw [hpd j hjk2]
        have := hbig j hjk2
        omega
      · exact v9 j (by omega) hj
  · by_cases hk0 : 0 < k
    · rw [hpd 0 hk0]; exact s4 (by omega)
    · obtain ⟨b1, b2, b3, b4⟩ := v8 0 (by omega) h0
      omega
  · by_cases hxE : x < E d
    · obtain ⟨j, j1, j2, j3⟩ := v10 x x1 hxE x3
      exact ⟨j, j2, j3⟩
    · rw [(hsame x (by omega) (by omega) (Or.inr (by omega))).1] at x3
      obtain ⟨i, i1, i2⟩ := s5 x (by omega) x2 x3
      by_cases hik : i = k
      · rw [hik, hd] at i2; omega
      · exact ⟨i, by omega, by rw [hpd i (by omega)]; exact i2⟩
end SHP
section SHP
variable {C R : eM} {F S N : Nat} {D E : Nat → Nat}
theorem zb_tell_push (h : zb_PG C R F S N D E) (hcx : zb_CX C R F S) {d lo k : Nat} {to x9 b : Int} {zb_pd : Nat → Nat} (hF : F ≤ d) (hd : d < S) (hne : d + 1 < E d) (hlo : (to = -1 ∧ lo = d + 1) ∨ ∃ t : Nat, to = (t : Int) ∧ zb_ch D E d t ∧ lo = E t) (hk : R 45 23 = (k : Int)) (hk2 : k ≤ 2000) :
    ∃ (C' R' : eM) (k' : Nat) (pd' : Nat → Nat), lp (fun z => fn_61_2 (d : Int) b z.1 z.2) ((lo : Int), C) = some C' ∧ zb_RO C C' ∧ C' 14 = C 14 ∧ (∀ y, F ≤ y → y < S → C' 13 (y - F) = if lo ≤ y ∧ zb_ch D E d y then 1 else C 13 (y - F))
      ∧ lp (fun z => fn_181_2 x9 to z.1 z.2) (R 52 d, R) = some R' ∧ k ≤ k' ∧ R' 45 23 = (k' : Int) ∧ zb_RX R R' k ∧ (∀ j, j < k → pd' j = zb_pd j) ∧ (∀ j, k ≤ j → j < k' → lo ≤ pd' j ∧ zb_ch D E d (pd' j) ∧ R' 59 j = (pd' j : Int)) ∧ (∀ j, k ≤ j → j + 1 < k' → E (pd' (j + 1)) ≤ pd' j) ∧ (∀ y, lo ≤ y → zb_ch D E d y → ∃ j, k ≤ j ∧ j < k' ∧ pd' j = y) := by
  have zb_hS := h.1
  obtain ⟨t1, t2, t3, t4, t5⟩ := zb_pg_o h hF hd
  obtain ⟨l, l1, l2, l3⟩ := zb_r52 h hF hd hne
  have hst : zb_ch D E d lo ∨ lo = E d := by
    rcases hlo with ⟨z1, z2⟩ | ⟨t, z1, z2, z3⟩
    · left; rw [z2]; exact zb_ch_first h hF hd hne
    · obtain ⟨y1, y2, y3⟩ := zb_ch_in h hF hd z2
      by_cases hq : E t < E d
      · left; rw [z3]; exact zb_ch_next h hF hd z2 hq
      · right; omega
  obtain ⟨C', g1, g2, g3, g4⟩ := zb_f61 (b := b) hF hd _ lo h hcx.1 rfl hst
  by_cases hq : lo < E d
  · have hcl : zb_ch D E d lo := by
      rcases hst with z | z
      · exact z
      · omega
    have hll : lo ≤ l := by
      by_cases hz : l < lo
      · have := zb_ch_le h hF hd l1 hcl hz; omega
      · omega
    have hlE := l1.2.1
    obtain ⟨R', k', pd', p1, p2, p3, p4, p5, p6, p7, p8, p9, p10, p11⟩ := zb_f181 (x9 := x9) (zb_pd := zb_pd) hF hd hlo _ l k h rfl l1 hll hk (by omega)
    refine ⟨C', R', k', pd', g1, g2, g3, g4, by rw [l3]; exact p1, by omega, p3, ⟨p9, p10, p11⟩, p4, fun j j1 j2 => ?_, p7, fun y y1 y2 => ?_⟩
    · obtain ⟨a1, a2, a3, a4⟩ := p6 j j1 j2
      exact ⟨a1, a3, a4⟩
    · refine p8 y y1 ?_ y2
      by_cases hz : l < y
      · have := zb_ch_le h hF hd l1 y2 hz
        have := y2.2.1
        omega
      · omega
  · have hloE : lo = E d := by
      rcases hst with z | z
      · exact absurd z.2.1 hq
      · exact z
    rcases hlo with ⟨z1, z2⟩ | ⟨t, z1, z2, z3⟩
    · omega
    · have hlt : l = t := by
        by_cases ha : l < t
        · have := zb_ch_le h hF hd l1 z2 ha
          have := z2.2.1
          omega
        · by_cases hb : t < l
          · have := zb_ch_le h hF hd z2 l1 hb
            have := l1.2.1
            omega
          · omega
      refine ⟨C', R, k, zb_pd, g1, g2, g3, g4, ?_, Nat.le_refl _, hk, ⟨fun _ _ => rfl, fun _ _ => rfl, fun _ _ => ⟨rfl, rfl, rfl⟩⟩, fun _ _ => rfl, fun j j1 j2 => by omega, fun j j1 j2 => by omega, fun y y1 y2 => ?_⟩
      · rw [l3, hlt, ← z1]
        refine lp2_inr ?_
        unfold fn_181_2
        rw [if_pos rfl]
      · have := y2.2.1; omega
def zb_nm (zb_lt : Bool) (y : Nat) : Nat := if zb_lt then y + 1 else y
def zb_fr (R : eM) (D E : Nat → Nat) (l x0 : Nat) (zb_lt : Bool) : Prop := zb_qx D l x0 < 8 ∧ ∀ w, zb_ch D E l w → w < x0 → R 50 (zb_nm zb_lt w) ≠ R 50 (zb_nm zb_lt x0)
def zb_NMS (R : eM) (D E : Nat → Nat) (l : Nat) : Prop := ∀ w, zb_ch D E l w → R 49 w = 3 ∧ ¬ zb_sp R w ∧ zb_fr R D E l w false
def zb_VLf (C R : eM) (F : Nat) (D E : Nat → Nat) (d f : Nat) : Prop :=
  (f = 10 ∧ ∀ c, zb_ch D E d c → C 13 (c - F) = 1) ∨ f = 0 ∨ ((f = 1 ∨ f = 6 ∨ f = 7 ∨ f = 8 ∨ f = 9) ∧ ∀ c, zb_ch D E d c → c ≠ d + 1 → C 13 (c - F) = 1)
  ∨ ((f = 2 ∨ f = 3) ∧ R 49 (d + 2) = 3 ∧ ¬ zb_sp R (d + 2) ∧ C 13 (d + 3 - F) = 1)
  ∨ (f = 4 ∧ R 49 (d + 2) = 4 ∧ zb_NMS R D E (d + 2) ∧ ∀ c, zb_ch D E d c → E (d + 2) ≤ c → C 13 (c - F) = 1)
  ∨ (f = 5 ∧ R 49 (d + 2) = 4 ∧ (∀ b, zb_ch D E (d + 2) b → C 13 (b - F) = 7 ∧ C 14 (b - F) = ((d + 2 : Nat) : Int)) ∧ ∀ c, zb_ch D E d c → E (d + 2) ≤ c → C 13 (c - F) = 1)
def zb_VLs (R : eM) (F : Nat) (D E : Nat → Nat) (d : Nat) (C : eM) : Prop := (R 49 d ≠ 4 ∧ ¬ zb_sp R d) ∨ (R 49 d = 4 ∧ d + 1 < E d ∧ ∃ f, zb_fo R d f ∧ zb_okf f (zb_ks D E d) (C 13 (d - F) = 2) ∧ zb_VLf C R F D E d f)
def zb_VLb (R : eM) (F : Nat) (D E : Nat → Nat) (d l : Nat) (C : eM) : Prop := zb_okB R D E d ∧ ¬ zb_sp R (d + 1) ∧ zb_fr R D E l d true ∧ C 13 (d + 2 - F) = 1
theorem zb_u2f {p : Int} : ∀ f, f ≠ 23 → f ≠ 2 → (eg_u R 45 2 p) 45 f = R 45 f := fun f _ h => by simp [eg_u, h]
def zb_MD (C : eM) (F d e : Nat) : Prop := ∀ y, d < y → y < e → C 13 (y - F) ≠ 1 ∧ C 13 (y - F) ≠ 2 ∧ C 13 (y - F) ≠ 7
def zb_ER (C R : eM) (F S : Nat) (D E : Nat → Nat) (d k : Nat) (zb_pd : Nat → Nat) (V : eM → Prop) (zb_cl : Option (Int × eM)) (clf : Nat → eM → Option (Int × eM)) (zb_rf : Option (Int × eM)) : Prop :=
  (∃ (e : Nat) (C' R' : eM) (k' : Nat) (pd' : Nat → Nat), zb_cl = clf e C' ∧ zb_rf = some (0, R') ∧ zb_EV C R C' R' F S D E d e k k' pd' ∧ (∀ j, j < k → pd' j = zb_pd j) ∧ V C' ∧ zb_MD C' F d e)
  ∨ (∃ (x : Nat) (C' R' : eM), F ≤ x ∧ x < S ∧ zb_cl = some (R 56 x, C') ∧ zb_rf = some (3, R') ∧ R' 45 2 = R 56 x ∧ zb_RO C C' ∧ ∀ f, f ≠ 23 → f ≠ 2 → R' 45 f = R 45 f)
noncomputable def zb_clw (x : Int) (d : Nat) (C : eM) : Option (Int × eM) := lp (fun z => fn_54_33 x z.1 z.2) ((d : Int), C)
theorem zb_EV_of (h : zb_PG C R F S N D E) {C1 C' R' : eM} {d e lo k k' : Nat} {pd' : Nat → Nat} (hF : F ≤ d) (hd : d < S) (hz : ∀ y, d < y → y < E d → C 13 (y - F) = 0) (he : d < e) (he2 : e ≤ lo) (hlo : lo ≤ E d) (hro : zb_RO C C') (h14 : ∀ y, F ≤ y → y < S → ¬ (d < y ∧ y < E d) → C' 14 (y - F) = C 14 (y - F)) (h13 : ∀ y, F ≤ y → y < S → (y ≤ d ∨ e ≤ y) → C' 13 (y - F) = if lo ≤ y ∧ zb_ch D E d y then 1 else C 13 (y - F))
    (hk : k ≤ k') (hk' : R' 45 23 = (k' : Int)) (hx : zb_RX R R' k) (hn : ∀ j, k ≤ j → j < k' → lo ≤ pd' j ∧ zb_ch D E d (pd' j) ∧ R' 59 j = (pd' j : Int)) (hc : ∀ j, k ≤ j → j + 1 < k' → E (pd' (j + 1)) ≤ pd' j) (hp : ∀ y, lo ≤ y → zb_ch D E d y → ∃ j, k ≤ j ∧ j < k' ∧ pd' j = y) : zb_EV C R C' R' F S D E d e k k' pd' := by
  obtain ⟨t1, t2, t3, t4, t5⟩ := zb_pg_o h hF hd
  refine ⟨he, by omega, hro, fun y y1 y2 y3 => ⟨?_, h14 y y1 y2 y3⟩, hk, hk', hx, fun j j1 j2 => ?_, hc, fun x x1 x2 x3 => ?_⟩
  · rw [h13 y y1 y2 (by omega), if_neg (fun z => y3 ⟨z.2.1, z.2.2.1⟩)]
  · obtain ⟨a1, a2, a3⟩ := hn j j1 j2
    obtain ⟨b1, b2, b3⟩ := zb_ch_in h hF hd a2
    refine ⟨by omega, a2.2.1, b3, Or.inl ⟨?_, a3⟩⟩
    rw [h13 _ b1 b2 (by omega), if_pos ⟨a1, a2⟩]
  · rw [h13 x (by omega) (by omega) (by omega)] at x3
    by_cases hq : lo ≤ x ∧ zb_ch D E d x
    · exact hp x hq.1 hq.2
    · rw [if_neg hq, hz x (by omega) x2] at x3
      exact absurd rfl x3
end SHP
section SHP
variable {C R : eM} {F S N : Nat} {D E : Nat → Nat}
theorem zb_f56_l (h : zb_PG C R F S N D E) (hN : N ≤ 444) (hcx : zb_CX C R F S) {d : Nat} (hF : F ≤ d) (hd : d < S) (hr : C 13 (d - F) = 1 ∨ C 13 (d - F) = 2) (h4 : R 49 d = 4) : fn_56 (d : Int) C = (fn_57 (d : Int) C).bind fun r => if r.1 = 0 ∨ r.1 = 1 then some (r.1, r.2) else none := by
  have zb_hS := h.1
  obtain ⟨g1, g2, g3, g4⟩ := zb_vk_tag (h.2.2 d hF hd).2.2.1 hN
  unfold fn_56 fn_56_11
  rw [if_pos (by omega), Int.toNat_natCast, if_neg (fun z => z (g2.mpr h4)), hcx.1, zb_wi_sub hF (by omega), if_pos (by omega), Int.toNat_natCast]
  rcases hr with hr | hr
  · rw [if_pos hr, if_neg (by decide)]
  · rw [if_neg (by rw [hr]; decide), if_pos hr, if_neg (by decide)]
theorem zb_f56_a (h : zb_PG C R F S N D E) (hN : N ≤ 444) (hcx : zb_CX C R F S) {d : Nat} (hF : F ≤ d) (hd : d < S) (hr : C 13 (d - F) = 1 ∨ C 13 (d - F) = 2) (h4 : ¬ R 49 d = 4) : fn_56 (d : Int) C = (fn_60 (d : Int) C).bind fun r => if ¬ r = 0 then some (0, C) else some (1, C) := by
  have zb_hS := h.1
  obtain ⟨g1, g2, g3, g4⟩ := zb_vk_tag (h.2.2 d hF hd).2.2.1 hN
  unfold fn_56 fn_56_11
  rw [if_pos (by omega), Int.toNat_natCast, if_pos (fun z => h4 (g2.mp z)), hcx.1, zb_wi_sub hF (by omega), if_pos (by omega), Int.toNat_natCast]
  rcases hr with hr | hr
  · rw [if_pos hr, if_pos rfl]
  · rw [if_neg (by rw [hr]; decide), if_pos hr, if_pos rfl]
theorem zb_clw_ok (hcx : zb_CX C R F S) (zb_hS : S ≤ 20000) {x : Int} {d : Nat} {r : Int} {C' : eM} (hd : d < S) (he : fn_56 (d : Int) C = some (r, C')) (hr : r ≠ 0) : zb_clw x d C = zb_clw x (d + 1) C' := zb_cl_ok hcx.2.1 hd zb_hS he hr
theorem zb_clw_bad (hcx : zb_CX C R F S) (zb_hS : S ≤ 20000) (hS2 : S ≤ F + 2000) {x : Int} {d : Nat} {C' : eM} (hF : F ≤ d) (hd : d < S) (hro : zb_RO C C') (he : fn_56 (d : Int) C = some (0, C')) : zb_clw x d C = some (R 56 d, C') := by
  have h2 := zb_CX_ro hcx hro
  unfold zb_clw
  rw [zb_cl_bad hcx.2.1 hd hF zb_hS hS2 h2.1 he, h2.2.2 d hF hd]
theorem zb_clw_0 (hcx : zb_CX C R F S) (zb_hS : S ≤ 20000) (hS2 : S ≤ F + 2000) {x : Int} {d : Nat} (hF : F ≤ d) (hd : d < S) (hr : C 13 (d - F) = 0) : zb_clw x d C = zb_clw x (d + 1) C :=
  zb_clw_ok hcx zb_hS hd (zb_f56_0 hF hd zb_hS hS2 hcx.1 hr) (by decide)
theorem zb_f62 (h : zb_PG C R F S N D E) (hcx : zb_CX C R F S) {d : Nat} {b : Int} (hF : F ≤ d) (hd : d + 2 < S) : fn_62 (d : Int) b C = lp (fun z => fn_61_2 (d : Int) ((E (d + 2) : Nat) : Int) z.1 z.2) ((E (d + 2) : Int), eg_u C 13 (d + 2 - F) b) := by
  have zb_hS := h.1
  unfold fn_62 fn_61
  rw [zb_wi_2 (by omega), hcx.1, zb_wi_sub (by omega) (by omega), if_pos (by omega), if_pos (by omega), Int.toNat_natCast, Int.toNat_natCast, (h.2.2 (d + 2) (by omega) hd).2.1]
  cases lp (fun z => fn_61_2 (d : Int) ((E (d + 2) : Nat) : Int) z.1 z.2) (((E (d + 2) : Nat) : Int), eg_u C 13 (d + 2 - F) b) <;> rfl
theorem zb_ev_plain (h : zb_PG C R F S N D E) (hN : N ≤ 444) (hcx : zb_CX C R F S) {d k : Nat} {x o : Int} {zb_pd : Nat → Nat} (hF : F ≤ d) (hd : d < S) (hr : C 13 (d - F) = 1 ∨ C 13 (d - F) = 2) (ho : (¬ o = 0) ↔ C 13 (d - F) = 2) (hz : ∀ y, d < y → y < E d → C 13 (y - F) = 0) (hk : R 45 23 = (k : Int))
    (hno : ¬ (R 49 d = 4 ∧ d + 1 < E d ∧ ∃ f, zb_fo R d f ∧ zb_okf f (zb_ks D E d) (C 13 (d - F) = 2))) : zb_ER C R F S D E d k zb_pd (zb_VLs R F D E d) (zb_clw x d C) (zb_clw x) (fn_171 (d : Int) o R) := by
  have zb_hS := h.1
  obtain ⟨t1, t2, t3, t4, t5⟩ := zb_pg_o h hF hd
  have stay : E d = d + 1 → zb_EV C R C R F S D E d (d + 1) k k zb_pd := fun zb_hE =>
    zb_EV_of (C1 := C) (lo := E d) h hF hd hz (by omega) (by omega) (Nat.le_refl _) zb_RO_refl (fun _ _ _ _ => rfl) (fun y y1 y2 y3 => by rw [if_neg (fun z => by have := z.2.2.1; omega)]) (Nat.le_refl _) hk ⟨fun _ _ => rfl, fun _ _ => rfl, fun _ _ => ⟨rfl, rfl, rfl⟩⟩ (fun j j1 j2 => by omega) (fun j j1 j2 => by omega) (fun y y1 y2 => by have := y2.2.1; omega)
  by_cases h4 : R 49 d = 4
  · right
    have bad57 : fn_57 (d : Int) C = some (0, C) := by
      by_cases hne : d + 1 < E d
      · obtain ⟨f, k1, k2⟩ := zb_f59 h hN hF (by omega)
        rcases zb_f57 h hN hcx.1 hF hd hne k2 with ⟨z, _⟩ | ⟨_, z⟩
        · exact absurd ⟨h4, hne, f, k2, z⟩ hno
        · exact z
      · exact zb_f57e h hF hd hne
    have bad174 : fn_174 (d : Int) o R = some 0 := by
      by_cases hne : d + 1 < E d
      · obtain ⟨f, k1, k2⟩ := zb_f59 h hN hF (by omega)
        obtain ⟨b, b1, b2⟩ := zb_f174 (o := o) h hN hF hd h4 hne k2
        rcases b2 with ⟨_, z⟩ | ⟨z, _⟩
        · refine absurd ⟨h4, hne, f, k2, z.1, fun y => ho.mp (z.2 y)⟩ hno
        · rw [b1, z]
      · exact zb_f174e h hF hd hne
    have e56 : fn_56 (d : Int) C = some (0, C) := by rw [zb_f56_l h hN hcx hF hd hr h4, bad57]; rfl
    refine ⟨d, C, eg_u R 45 2 (R 56 d), hF, hd, zb_clw_bad hcx zb_hS.2.1 zb_hS.2.2 hF hd zb_RO_refl e56, ?_, rfl, zb_RO_refl, zb_u2f⟩
    unfold fn_171
    rw [if_pos (by omega), Int.toNat_natCast, if_pos h4, bad174, Option.bind_some, if_neg (by decide), zb_f173 (by omega)]; rfl
  · obtain ⟨b, b1, b2, b3⟩ := zb_f60 h hN hF hd
    have zb_hE := zb_at_end h hF hd h4
    have e171 : fn_171 (d : Int) o R = if b = 0 then some (0, R) else some (3, eg_u R 45 2 (R 56 d)) := by
      unfold fn_171
      rw [if_pos (by omega), Int.toNat_natCast, if_neg h4, b2, Option.bind_some]
      by_cases hb : b = 0
      · rw [if_pos hb, if_pos hb]
      · rw [if_neg hb, if_neg hb, zb_f173 (by omega)]; rfl
    have e56 := zb_f56_a h hN hcx hF hd hr h4
    rw [b1, Option.bind_some] at e56
    by_cases hb : b = 0
    · left
      rw [if_neg (fun z => z hb)] at e56
      rw [if_pos hb] at e171
      have hns : ¬ zb_sp R d := by
        rcases b3 with ⟨z, _⟩ | ⟨_, z⟩
        · omega
        · exact z
      exact ⟨d + 1, C, R, k, zb_pd, zb_clw_ok hcx zb_hS.2.1 hd e56 (by decide), e171, stay zb_hE, fun _ _ => rfl, Or.inl ⟨h4, hns⟩, fun y y1 y2 => by omega⟩
    · right
      rw [if_pos hb] at e56
      rw [if_neg hb] at e171
      exact ⟨d, C, _, hF, hd, zb_clw_bad hcx zb_hS.2.1 zb_hS.2.2 hF hd zb_RO_refl e56, e171, rfl, zb_RO_refl, zb_u2f⟩
end SHP
section SHP
variable {C R : eM} {F S N : Nat} {D E : Nat → Nat}
theorem zb_ks_qx {c : Nat} : zb_ks D E c = zb_qx D c (E c) := rfl
theorem zb_two_in (h : zb_PG C R F S N D E) {d : Nat} (hF : F ≤ d) (hd : d < S) (hsp : R 49 (d + 1) = 3) (hks : 2 ≤ zb_ks D E d) : d + 2 < E d ∧ zb_qx D d (d + 2) = 1 := by
  have hne := (zb_ks_pos h hF hd).mp (by omega)
  have hf := zb_ch_first h hF hd hne
  have zb_hE := (zb_pg_o h hF hd).2.1
  have e1 := zb_sp_end h (c := d + 1) (by omega) (by omega) hsp
  have q1 := zb_qx_next h hF hd hf
  rw [zb_qx_first, e1] at q1
  refine ⟨?_, q1⟩
  by_cases hq : d + 2 < E d
  · exact hq
  · have : E d = d + 2 := by omega
    rw [zb_ks_qx, this, q1] at hks; omega
theorem zb_three_in (h : zb_PG C R F S N D E) {d : Nat} (hF : F ≤ d) (hd : d < S) (hsp : R 49 (d + 1) = 3) (hks : 3 ≤ zb_ks D E d) : E (d + 2) < E d ∧ zb_qx D d (E (d + 2)) = 2 := by
  obtain ⟨a1, a2⟩ := zb_two_in h hF hd hsp (by omega)
  obtain ⟨_, b1, b2, b3⟩ := zb_f176 h hF hd hsp a1
  have q1 := zb_qx_next h hF hd b2
  rw [a2] at q1
  refine ⟨?_, q1⟩
  obtain ⟨c1, c2, c3⟩ := zb_ch_in h hF hd b2
  by_cases hq : E (d + 2) < E d
  · exact hq
  · have : E d = E (d + 2) := by omega
    rw [zb_ks_qx, this, q1] at hks; omega
theorem zb_f171_f (h : zb_PG C R F S N D E) (hN : N ≤ 444) {d f : Nat} {o : Int} (hF : F ≤ d) (hd : d < S) (h4 : R 49 d = 4) (hne : d + 1 < E d) (hf : zb_fo R d f) (hok : zb_okf f (zb_ks D E d) (¬ o = 0)) : fn_174 (d : Int) o R = some 1 := by
  obtain ⟨b, b1, b2⟩ := zb_f174 (o := o) h hN hF hd h4 hne hf
  rcases b2 with ⟨z, _⟩ | ⟨_, z⟩
  · rw [b1, z]
  · exact absurd hok z
theorem zb_f63 (h : zb_PG C R F S N D E) (hN : N ≤ 444) {c : Nat} (h1 : F ≤ c) (h2 : c < S) : ∃ b : Int, fn_63 (c : Int) C = some b ∧ ((b = 1 ∧ R 49 c = 3 ∧ ¬ zb_sp R c) ∨ (b = 0 ∧ ¬ (R 49 c = 3 ∧ ¬ zb_sp R c))) := by
  obtain ⟨b, b1, b2, b3⟩ := zb_f64 h hN h1 h2
  obtain ⟨a, a1, a2, a3⟩ := zb_f60 h hN h1 h2
  unfold fn_63
  rw [b1, Option.bind_some]
  rcases b3 with ⟨b3, b4⟩ | ⟨b3, b4⟩
  · rw [if_neg (by omega), a1, Option.bind_some]
    rcases a3 with ⟨a3, a4⟩ | ⟨a3, a4⟩
    · rw [if_pos (by omega)]; exact ⟨0, rfl, Or.inr ⟨rfl, fun z => z.2 a4⟩⟩
    · rw [if_neg (by omega)]; exact ⟨1, rfl, Or.inl ⟨rfl, b4, a4⟩⟩
  · rw [if_pos b3]; exact ⟨0, rfl, Or.inr ⟨rfl, fun z => b4 z.1⟩⟩
theorem zb_okf_ev {C' R' : eM} {d e k k' f n : Nat} {pd' : Nat → Nat} (hev : zb_EV C R C' R' F S D E d e k k' pd') (hF : F ≤ d) (hd : d < S) (hok : zb_okf f n (C 13 (d - F) = 2)) : zb_okf f n (C' 13 (d - F) = 2) := by
  obtain ⟨v1, v2, v3, v4, _⟩ := hev
  rw [(v4 d hF hd (by omega)).1]; exact hok
theorem zb_ev_easy (h : zb_PG C R F S N D E) (hN : N ≤ 444) (hcx : zb_CX C R F S) {d k f : Nat} {x o : Int} {zb_pd : Nat → Nat} (hF : F ≤ d) (hd : d < S) (hr : C 13 (d - F) = 1 ∨ C 13 (d - F) = 2) (ho : (¬ o = 0) ↔ C 13 (d - F) = 2) (hz : ∀ y, d < y → y < E d → C 13 (y - F) = 0) (hk : R 45 23 = (k : Int)) (hk2 : k ≤ 2000)
    (h4 : R 49 d = 4) (hne : d + 1 < E d) (hf : zb_fo R d f) (hok : zb_okf f (zb_ks D E d) (C 13 (d - F) = 2)) (hfs : f = 10 ∨ f = 0 ∨ f = 1 ∨ f = 6 ∨ f = 7 ∨ f = 8 ∨ f = 9) : zb_ER C R F S D E d k zb_pd (zb_VLs R F D E d) (zb_clw x d C) (zb_clw x) (fn_171 (d : Int) o R) := by
  have zb_hS := h.1
  obtain ⟨t1, t2, t3, t4, t5⟩ := zb_pg_o h hF hd
  have h174 := zb_f171_f (o := o) h hN hF hd h4 hne hf ⟨hok.1, fun z => ho.mpr (hok.2 z)⟩
  have h175 := zb_f175 h hN hF hd h4 hne hf
  have e57 : fn_57 (d : Int) C = fn_57_40 (d : Int) (f : Int) C := by
    rcases zb_f57 h hN hcx.1 hF hd hne hf with ⟨_, z⟩ | ⟨z, _⟩
    · exact z
    · exact absurd hok z
  have go : ∀ C', fn_57_40 (d : Int) (f : Int) C = some (1, C') → zb_clw x d C = zb_clw x (d + 1) C' := by
    intro C' zb_hC
    refine zb_clw_ok hcx zb_hS.2.1 hd (r := 1) ?_ (by decide)
    rw [zb_f56_l h hN hcx hF hd hr h4, e57, zb_hC]; rfl
  left
  by_cases h10 : f = 10
  · subst h10
    obtain ⟨C', R', k', pd', g1, g2, g3, g4, g5, g6, g7, g8, g9, g10, g11, g12⟩ := zb_tell_push (x9 := R 52 d) (b := ((d + 1 : Nat) : Int)) (zb_pd := zb_pd) h hcx hF hd hne (Or.inl ⟨rfl, rfl⟩) hk hk2
    have eC : fn_57_40 (d : Int) ((10 : Nat) : Int) C = some (1, C') := by
      unfold fn_57_40 fn_61
      rw [if_neg (by decide), zb_wi_1 (by omega), g1]; rfl
    have eR : fn_171 (d : Int) o R = some (0, R') := by
      unfold fn_171 fn_181
      rw [if_pos (by omega), Int.toNat_natCast, if_pos h4, h174, Option.bind_some, if_pos (by decide), h175, Option.bind_some, if_pos rfl, if_pos rfl, g5]; rfl
    have hev := zb_EV_of (C1 := C) (e := d + 1) (lo := d + 1) h hF hd hz (by omega) (Nat.le_refl _) (by omega) g2 (fun y _ _ _ => by rw [g3]) (fun y y1 y2 _ => g4 y y1 y2) g6 g7 g8 g10 g11 g12
    exact ⟨d + 1, C', R', k', pd', go C' eC, eR, hev, g9, Or.inr ⟨h4, hne, 10, hf, zb_okf_ev hev hF hd hok, Or.inl ⟨rfl, fun c hc => by
      obtain ⟨i1, i2, i3⟩ := zb_ch_in h hF hd hc
      rw [g4 c i1 i2, if_pos ⟨hc.1, hc⟩]⟩⟩, fun y y1 y2 => by omega⟩
  · obtain ⟨f1, f2, f3⟩ : f < 10 ∧ zb_sp R (d + 1) ∧ R 50 (d + 1) = (f : Int) := by
      rcases hf with z | ⟨z, _⟩
      · exact z
      · exact absurd z h10
    have e1 := zb_sp_end h (c := d + 1) (by omega) (by omega) f2.1
    by_cases h0 : f = 0
    · subst h0
      have eC : fn_57_40 (d : Int) ((0 : Nat) : Int) C = some (1, C) := by
        unfold fn_57_40
        rw [if_pos (by decide), if_neg (by decide), if_pos (by decide), if_pos (by decide), if_pos (by decide), if_pos (by decide)]
      have eR : fn_171 (d : Int) o R = some (0, R) := by
        unfold fn_171
        rw [if_pos (by omega), Int.toNat_natCast, if_pos h4, h174, Option.bind_some, if_pos (by decide), h175, Option.bind_some, if_neg (by decide), if_pos (by decide)]
      exact ⟨d + 1, C, R, k, zb_pd, go C eC, eR, zb_EV_of (C1 := C) (lo := E d) h hF hd hz (by omega) (by omega) (Nat.le_refl _) zb_RO_refl (fun _ _ _ _ => rfl) (fun y y1 y2 y3 => by rw [if_neg (fun z => by have := z.2.2.1; omega)]) (Nat.le_refl _) hk ⟨fun _ _ => rfl, fun _ _ => rfl, fun _ _ => ⟨rfl, rfl, rfl⟩⟩ (fun j j1 j2 => by omega) (fun j j1 j2 => by omega) (fun y y1 y2 => by have := y2.2.1; omega), fun _ _ => rfl, Or.inr ⟨h4, hne, 0, hf, hok, Or.inr (Or.inl rfl)⟩, fun y y1 y2 => by omega⟩
    · have hf1 := zb_ch_first h hF hd hne
      obtain ⟨C', R', k', pd', g1, g2, g3, g4, g5, g6, g7, g8, g9, g10, g11, g12⟩ := zb_tell_push (x9 := R 52 d) (b := ((d + 2 : Nat) : Int)) (zb_pd := zb_pd) h hcx hF hd hne (Or.inr ⟨d + 1, rfl, hf1, e1.symm⟩) hk hk2
      have eC : fn_57_40 (d : Int) (f : Int) C = some (1, C') := by
        unfold fn_57_40 fn_61
        rw [if_pos (show ¬ (f : Int) = 10 by omega), if_neg (show ¬ (f : Int) = 2 by omega), if_pos (show ¬ (f : Int) = 3 by omega), if_pos (show ¬ (f : Int) = 4 by omega), if_pos (show ¬ (f : Int) = 5 by omega), if_neg (show ¬ (f : Int) = 0 by omega), zb_wi_2 (by omega), g1]; rfl
      have hfi : (if f = 10 then (-1 : Int) else (f : Int)) = (f : Int) := if_neg h10
      have eR : fn_171 (d : Int) o R = some (0, R') := by
        unfold fn_171 fn_181
        rw [if_pos (by omega), Int.toNat_natCast, if_pos h4, h174, Option.bind_some, if_pos (by decide), h175, Option.bind_some, hfi, if_neg (show ¬ (f : Int) = -1 by omega), if_neg (show ¬ (f : Int) = 0 by omega), zb_r51 h hF hd hne]
        by_cases h1 : f = 1
        · rw [if_pos (show (f : Int) = 1 by omega), g5]; rfl
        · rw [if_neg (show ¬ (f : Int) = 1 by omega), if_neg (show ¬ (f : Int) = 2 by omega), if_neg (show ¬ (f : Int) = 3 by omega), if_neg (show ¬ (f : Int) = 4 by omega), if_neg (show ¬ (f : Int) = 5 by omega), g5]; rfl
      have hev := zb_EV_of (C1 := C) (e := d + 1) (lo := d + 1 + 1) h hF hd hz (by omega) (by omega) (by omega) g2 (fun y _ _ _ => by rw [g3]) (fun y y1 y2 _ => g4 y y1 y2) g6 g7 g8 g10 g11 g12
      exact ⟨d + 1, C', R', k', pd', go C' eC, eR, hev, g9, Or.inr ⟨h4, hne, f, hf, zb_okf_ev hev hF hd hok, Or.inr (Or.inr (Or.inl ⟨by omega, fun c hc hc1 => by
        obtain ⟨i1, i2, i3⟩ := zb_ch_in h hF hd hc
        rw [g4 c i1 i2, if_pos ⟨by have := hc.1; omega, hc⟩]⟩))⟩, fun y y1 y2 => by omega⟩
end SHP
