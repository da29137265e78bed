def zb_TRE (C R : eM) (N q e : Nat) (D E : Nat → Nat) : Prop :=
  (q < e ∧ e ≤ 20000 ∧ E q = e) ∧ (∀ c, q ≤ c → c < e → (c < E c ∧ E c ≤ e ∧ (∀ x, c < x → x < E c → D c < D x) ∧ (E c < e → D (E c) ≤ D c) ∧ (c + 1 < e → D (c + 1) ≤ D c + 1))
    ∧ (C 6 c = (D c : Int) ∧ zb_vk (C 4 c) (R 49 c) (R 50 c) N ∧ (R 49 c = 4 ∨ E c = c + 1) ∧ D c ≤ 30)
    ∧ ((R 55 c ≤ 0 ↔ ¬ c + 1 < E c) ∧ (c + 1 < E c → ∃ l : Nat, c < l ∧ l < e ∧ D l = D c + 1 ∧ E l = E c ∧ R 52 c = (l : Int)) ∧ (c + 1 < E c → R 54 (c + 1) = -1) ∧ (E c < e → D (E c) = D c → R 54 (E c) = (c : Int))))
theorem zb_qt_tre {C R : eM} {N S d : Nat} (h : zb_QT C R N S d) : ∃ (D E : Nat → Nat) (e : Nat), zb_TRE C R N (d + 2) e D E ∧ C 5 d = (e : Int) ∧ d + 2 < 20000 := by
  obtain ⟨F, S', Cg, D, E, hx, ⟨d1, d2⟩, hc, he⟩ := h
  obtain ⟨i1, i2, i3, i4⟩ := zb_ph_in hx.1 d1 d2 hc
  have ho := zb_ph_o hx.1 d1 d2
  refine ⟨D, E, E d, ⟨⟨by omega, by omega, he⟩, fun c c1 c2 => ?_⟩, (zb_ph_dr hx.1 d1 d2).2.1, by omega⟩
  have f1 : F ≤ c := by omega
  have f2 : c < S' := by omega
  have hd := zb_ph_dr hx.1 f1 f2
  have hks := zb_ph_ks hx.1 f1 f2
  have hl := zb_ph_lk hx.1 f1 f2
  obtain ⟨R', hR, hp⟩ := hx.1
  have o1 := zb_pg_o hp f1 f2
  have oq := zb_pg_o hp i1 i2
  have hin : E c ≤ E d := by
    by_cases hz : E c ≤ E d
    · exact hz
    · exfalso
      have h1 := o1.2.2.1 (E d) (by omega) (by omega)
      by_cases hcq : c = d + 2
      · rw [hcq, he] at hz; omega
      · have h2 := oq.2.2.1 c (by omega) (by rw [he]; omega)
        have h3 := oq.2.2.2.1 (by rw [he]; omega)
        rw [he] at h3
        omega
  refine ⟨⟨o1.1, hin, o1.2.2.1, fun z => o1.2.2.2.1 (by omega), fun z => o1.2.2.2.2 (by omega)⟩, ⟨hd.1, hd.2.2.1, hd.2.2.2.1, hd.2.2.2.2⟩, ?_, fun z => ?_, hl.2.2.2.2.1, fun z1 z2 => hl.2.2.2.2.2 (by omega) z2⟩
  · rw [hl.2.2.2.1]
    have := hks.2.2
    unfold zb_ks at this
    omega
  · rcases hl.2.2.1 with ⟨z1, _⟩ | ⟨l, l1, l2, l3, l4, l5⟩
    · omega
    · refine ⟨l, l1, ?_, l3, l4, l5⟩
      have ol := zb_pg_o hp (c := l) (by omega) l2
      omega
section QUO
variable {C R : eM} {N q e : Nat} {D E : Nat → Nat}
theorem zb_tre_in (h : zb_TRE C R N q e D E) {x : Nat} (h1 : q < x) (h2 : x < e) : D q < D x := ((h.2 q (Nat.le_refl _) (by have := h.1; omega)).1.2.2.1) x h1 (by rw [h.1.2.2]; exact h2)
theorem zb_tre_anc (h : zb_TRE C R N q e D E) : ∀ (m z : Nat), z - q = m → q < z → z < e → ∀ v, D q < v → v ≤ D z → ∃ a, q < a ∧ a ≤ z ∧ z < E a ∧ D a = v := by
  intro m
  induction m using Nat.strongRecOn with
  | ind m ih =>
    intro z hm h1 h2 v hv1 hv2
    by_cases hz : D z = v
    · exact ⟨z, h1, Nat.le_refl _, (h.2 z (by omega) h2).1.1, hz⟩
    · have o := (h.2 (z - 1) (by omega) (by omega)).1
      have o5 := o.2.2.2.2
      rw [show z - 1 + 1 = z by omega] at o5
      have hd := o5 h2
      by_cases hq : z - 1 = q
      · rw [hq] at hd; omega
      · obtain ⟨a, a1, a2, a3, a4⟩ := ih (z - 1 - q) (by omega) (z - 1) rfl (by omega) (by omega) v hv1 (by omega)
        refine ⟨a, a1, by omega, ?_, a4⟩
        have oa := (h.2 a (by omega) (by omega)).1
        by_cases he : z < E a
        · exact he
        · exfalso
          have : E a = z := by omega
          have := oa.2.2.2.1 (by omega)
          rw [‹E a = z›] at this
          omega
theorem zb_tre_uniq (h : zb_TRE C R N q e D E) {x y : Nat} (hx : q ≤ x) (hx2 : x < e) (h1 : q ≤ y) (h2 : y ≤ x) (h3 : x < E y) (h4 : D y = D x) : y = x := by
  by_cases he : y = x
  · exact he
  · exfalso
    have := (h.2 y h1 (by omega)).1.2.2.1 x (by omega) h3
    omega
theorem zb_tre_back (h : zb_TRE C R N q e D E) {x : Nat} (h1 : q < x) (h2 : x < e) : (x < E (x - 1) ∧ D x = D (x - 1) + 1 ∧ R 54 x = -1) ∨ (∃ y, q < y ∧ y < x ∧ E y = x ∧ D y = D x ∧ R 54 x = (y : Int) ∧ E (x - 1) = x) := by
  have hq1 : q ≤ x - 1 := by omega
  have hq2 : x - 1 < e := by omega
  have o := (h.2 (x - 1) hq1 hq2).1
  have o5 := o.2.2.2.2
  rw [show x - 1 + 1 = x by omega] at o5
  have hd := o5 h2
  by_cases hz : x < E (x - 1)
  · left
    have h3 := o.2.2.1 x (by omega) hz
    have h4 := (h.2 (x - 1) hq1 hq2).2.2.2.2.1
    rw [show x - 1 + 1 = x by omega] at h4
    exact ⟨hz, by omega, h4 hz⟩
  · right
    have he : E (x - 1) = x := by have := o.1; omega
    have hq : q < x - 1 := by
      by_cases hq : x - 1 = q
      · rw [hq, h.1.2.2] at he; omega
      · omega
    have hd2 : D x ≤ D (x - 1) := by
      have := o.2.2.2.1 (by omega)
      rw [he] at this; exact this
    obtain ⟨y, y1, y2, y3, y4⟩ := zb_tre_anc h _ (x - 1) rfl hq (by omega) (D x) (zb_tre_in h h1 h2) hd2
    have hy1 : q ≤ y := by omega
    have hy2 : y < e := by omega
    have oy := (h.2 y hy1 hy2).1.2.2.1
    have hey : E y = x := by
      have a1 : ¬ x < E y := fun z => by have := oy x (by omega) z; omega
      omega
    refine ⟨y, y1, by omega, hey, y4, ?_, he⟩
    have h9 := (h.2 y hy1 hy2).2.2.2.2.2
    rw [hey] at h9
    exact h9 h2 y4.symm
end QUO
noncomputable def zb_QO (x1 : Int) (e d : Int) (M : eM) : Option (Int × eM) := lp (fun z => fn_193_4 x1 z.1 z.2.1 z.2.2) (e, d, M)
noncomputable def zb_QW (x1 x3 : Int) (e u : Int) (M : eM) : Option (Int × eM) := match lp (fun z => fn_193_51 x1 x3 z.1 z.2.1 z.2.2) (e, u, M) with
  | none => none
  | some (.inl s) => lp (fun z => fn_193_4 x1 z.1 z.2.1 z.2.2) s
  | some (.inr r) => some r
theorem zb_qo_w {x1 x3 e u e0 d0 : Int} {M M0 : eM} (h : fn_193_4 x1 e0 d0 M0 = lp (fun z => fn_193_51 x1 x3 z.1 z.2.1 z.2.2) (e, u, M)) : zb_QO x1 e0 d0 M0 = zb_QW x1 x3 e u M := by
  unfold zb_QO zb_QW
  cases hz : lp (fun z => fn_193_51 x1 x3 z.1 z.2.1 z.2.2) (e, u, M) with
  | none => rw [hz] at h; exact lp_none h
  | some y =>
    rw [hz] at h
    cases y with
    | inl s => exact lp_inl h
    | inr r => exact lp_inr h
theorem zb_qw_in {x1 x3 e u e' u' : Int} {M M' : eM} (h : fn_193_51 x1 x3 e u M = some (.inl (e', u', M'))) : zb_QW x1 x3 e u M = zb_QW x1 x3 e' u' M' := by
  unfold zb_QW
  rw [lp3_inl h]
theorem zb_qw_out {x1 x3 e u e' d' : Int} {M M' : eM} (h : fn_193_51 x1 x3 e u M = some (.inr (.inl (e', d', M')))) : zb_QW x1 x3 e u M = zb_QO x1 e' d' M' := by
  unfold zb_QW zb_QO
  rw [lp3_inr h]
theorem zb_qw_end {x1 x3 e u : Int} {M : eM} {r : Int × eM} (h : fn_193_51 x1 x3 e u M = some (.inr (.inr r))) : zb_QW x1 x3 e u M = some r := by
  unfold zb_QW
  rw [lp3_inr h]
def zb_ATV (w : Int) (C R : eM) (E : Nat → Nat) (z : Nat) : Prop := (R 49 z = 0 ∧ w = C 4 z ∧ 0 ≤ w ∧ w < 4294967296) ∨ (R 49 z = 1 ∧ w = 4294967296) ∨ (R 49 z = 2 ∧ w = 8589934592) ∨ (R 49 z = 3 ∧ w = 17179869184 + R 50 z ∧ 0 ≤ R 50 z ∧ R 50 z < 444) ∨ (R 49 z = 4 ∧ w = 12884901888)
theorem zb_f194 {C R M : eM} {N q e z : Nat} {D E : Nat → Nat} (h : zb_TRE C R N q e D E) (hN : N ≤ 444) (h49 : M 49 = R 49) (h50 : M 50 = R 50) (h1 : q ≤ z) (h2 : z < e) : ∃ w, fn_194 (z : Int) M = some w ∧ zb_ATV w C R E z := by
  obtain ⟨_, ⟨_, hv, _⟩, _⟩ := h.2 z h1 h2
  have he := h.1.2.1
  unfold fn_194
  rw [if_pos (by omega), Int.toNat_natCast, h49, h50]
  unfold zb_vk at hv
  rcases hv with ⟨a, b, c, d⟩ | ⟨a, b⟩ | ⟨a, b⟩ | ⟨a, b, c, d⟩ | ⟨a, b⟩
  · rw [if_pos a]
    refine ⟨_, rfl, Or.inl ⟨a, ?_, ?_, ?_⟩⟩ <;> rw [zb_land_low (by omega)]
    · exact d.symm
    · omega
    · omega
  · rw [if_neg (by omega), if_pos a]; exact ⟨_, rfl, Or.inr (Or.inl ⟨a, rfl⟩)⟩
  · rw [if_neg (by omega), if_neg (by omega), if_pos a]; exact ⟨_, rfl, Or.inr (Or.inr (Or.inl ⟨a, rfl⟩))⟩
  · rw [if_neg (by omega), if_neg (by omega), if_neg (by omega), if_pos a]
    refine ⟨_, rfl, Or.inr (Or.inr (Or.inr (Or.inl ⟨a, ?_, by omega, by omega⟩)))⟩
    have hl := zb_lor_hi (k := 4) (r := (R 50 z).toNat) (by omega) (by omega)
    rw [show ((4 * 4294967296 : Nat) : Int) = 17179869184 by rfl, show (((R 50 z).toNat : Nat) : Int) = R 50 z by omega] at hl
    rw [hl]; omega
  · rw [if_neg (by omega), if_neg (by omega), if_neg (by omega), if_neg (by omega)]; exact ⟨_, rfl, Or.inr (Or.inr (Or.inr (Or.inr ⟨a, rfl⟩)))⟩
theorem zb_q_down {C R : eM} {N q e z : Nat} {D E : Nat → Nat} {x1 : Int} (h : zb_TRE C R N q e D E) (hN : N ≤ 444) (hz1 : q ≤ z) (hz2 : z < e) : ∀ (m y : Nat) (M : eM), z - y = m → q ≤ y → y ≤ z → E y = z + 1 → M 49 = R 49 → M 50 = R 50 → M 52 = R 52 → M 55 = R 55 → M 45 59 = ((D y - D q : Nat) : Int) → (q < y → M 83 (D y - D q - 1) = (y : Int)) →
    ∃ (M' : eM) (w : Int), zb_QO x1 (y : Int) 0 M = zb_QW x1 0 (z : Int) 1 M' ∧ zb_ATV w C R E z ∧ (R 49 z ≠ 4 ∨ ¬ z + 1 < E z) ∧ (∀ c, c ∉ ([45, 83, 84] : List Nat) → M' c = M c) ∧ (∀ f, f ≠ 59 → f ≠ 63 → M' 45 f = M 45 f) ∧ M' 45 59 = ((D z - D q : Nat) : Int) ∧ M' 45 63 = w ∧ (∀ j, j < D y - D q → M' 83 j = M 83 j ∧ M' 84 j = M 84 j) ∧ (∀ j, D y - D q ≤ j → j < D z - D q → M' 84 j = 12884901888 ∧ ∃ a : Nat, M' 83 j = (a : Int) ∧ q < a ∧ a ≤ z ∧ z < E a ∧ D a = D q + j + 1) := by
  intro m
  induction m using Nat.strongRecOn with
  | ind m ih =>
    intro y M hm y1 y2 y3 h49 h50 h52 h55 h59 h83
    have hye : y < e := by omega
    have hey := h.1.2.1
    have o55 := (h.2 y y1 hye).2.2.1
    have o4 := (h.2 y y1 hye).2.1.2.2.1
    have hDq : D q ≤ D y := by
      by_cases he : y = q
      · rw [he]; exact Nat.le_refl _
      · have := zb_tre_in h (x := y) (by omega) (by omega); omega
    by_cases hl : R 49 y = 4 ∧ y + 1 < E y
    · -- a list with something in it
      obtain ⟨l, l1, l2, l3, l4, l5⟩ := (h.2 y y1 hye).2.2.2.1 hl.2
      have h30 := (h.2 l (by omega) l2).2.1.2.2.2
      have hlz : l ≤ z := by
        by_cases hh : l ≤ z
        · exact hh
        · exfalso; have := (h.2 l (by omega) l2).1.1; omega
      obtain ⟨M1, hM1⟩ : ∃ M1, M1 = eg_u (eg_u (eg_u M 83 (D y - D q) (l : Int)) 84 (D y - D q) 12884901888) 45 59 ((D l - D q : Nat) : Int) := ⟨_, rfl⟩
      have s4 : fn_193_4 x1 (y : Int) 0 M = some (.inl ((l : Int), 0, M1)) := by
        have hw : eg_wi (((D y - D q : Nat) : Int) + 1) = ((D l - D q : Nat) : Int) := by rw [zb_wi_1 (by omega)]; omega
        unfold fn_193_4
        rw [if_neg (fun z => z rfl), if_pos (by clear hw; omega), Int.toNat_natCast, h49, if_neg (fun z => z hl.1), h55, if_neg (fun z => (o55.mp z) hl.2), h59, if_pos (by clear hw; omega), h52, l5, Int.toNat_natCast, hw, hM1]
      obtain ⟨M', w, g1, g2, g3, g4, g5, g6, g7, g8, g9⟩ := ih (z - l) (by omega) l M1 rfl (by omega) hlz (by omega) (by rw [hM1, eg_u_ne (by decide), eg_u_ne (by decide), eg_u_ne (by decide)]; exact h49) (by rw [hM1, eg_u_ne (by decide), eg_u_ne (by decide), eg_u_ne (by decide)]; exact h50) (by rw [hM1, eg_u_ne (by decide), eg_u_ne (by decide), eg_u_ne (by decide)]; exact h52) (by rw [hM1, eg_u_ne (by decide), eg_u_ne (by decide), eg_u_ne (by decide)]; exact h55) (by rw [hM1, eg_u_eq]) (fun _ => by rw [hM1, eg_u_ne (by decide), eg_u_ne (by decide), show D l - D q - 1 = D y - D q by omega, eg_u_eq])
      refine ⟨M', w, ?_, g2, g3, fun c hc => ?_, fun f a b => ?_, g6, g7, fun j hj => ?_, fun j j1 j2 => ?_⟩
      · rw [← g1]; unfold zb_QO; exact lp3_inl s4
      · have : c ≠ 45 ∧ c ≠ 83 ∧ c ≠ 84 := by revert hc; simp
        rw [g4 c hc, hM1, eg_u_ne this.1, eg_u_ne this.2.2, eg_u_ne this.2.1]
      · rw [g5 f a b, hM1, eg_u_nj (by omega), eg_u_ne (by decide), eg_u_ne (by decide)]
      · obtain ⟨e1, e2⟩ := g8 j (by omega)
        rw [e1, e2, hM1, eg_u_ne (by decide), eg_u_ne (by decide), eg_u_nj (by omega), eg_u_ne (by decide), eg_u_nj (by omega), eg_u_ne (by decide)]; exact ⟨rfl, rfl⟩
      · by_cases hj : j = D y - D q
        · subst hj
          obtain ⟨e1, e2⟩ := g8 (D y - D q) (by omega)
          rw [e1, e2, hM1, eg_u_ne (by decide), eg_u_eq, eg_u_ne (by decide), eg_u_ne (by decide), eg_u_eq]
          exact ⟨rfl, l, rfl, by omega, hlz, by omega, by omega⟩
        · exact g9 j (by omega) j2
    · -- an atom, or nothing in it
      have hyz : y = z := by
        by_cases hh : y + 1 < E y
        · exfalso
          rcases o4 with z9 | z9
          · exact hl ⟨z9, hh⟩
          · omega
        · omega
      subst hyz
      obtain ⟨w, f1, f2⟩ := zb_f194 h hN h49 h50 y1 hz2
      refine ⟨eg_u M 45 63 w, w, ?_, f2, ?_, fun c hc => ?_, fun f a b => ?_, ?_, eg_u_eq, fun j hj => ?_, fun j j1 j2 => by omega⟩
      · refine zb_qo_w ?_
        unfold fn_193_4
        rw [if_neg (fun z => z rfl), if_pos (by omega), Int.toNat_natCast, h49, h55]
        by_cases h4 : R 49 y = 4
        · rw [if_neg (fun z => z h4), if_pos (o55.mpr (fun z => hl ⟨h4, z⟩)), f1, Option.bind_some]
        · rw [if_pos h4, f1, Option.bind_some]
      · by_cases h4 : R 49 y = 4
        · exact Or.inr (fun z => hl ⟨h4, z⟩)
        · exact Or.inl h4
      · rw [eg_u_ne (fun e => hc (by rw [e]; decide))]
      · rw [eg_u_nj (by omega)]
      · rw [eg_u_nj (by decide)]; exact h59
      · rw [eg_u_ne (by decide), eg_u_ne (by decide)]; exact ⟨rfl, rfl⟩
def zb_tvq (B : zb_Bs) (C : eM) (L x : Nat) : Int := if B.1 4 x = 25769803776 then C 36 (L + 1) else B.1 4 x
def zb_ANC (R : eM) (q x : Nat) (D E : Nat → Nat) (j : Nat) : Prop := ∃ a : Nat, R 83 j = (a : Int) ∧ q < a ∧ a ≤ x ∧ x < E a ∧ D a = D q + j + 1
def zb_QV (B : zb_Bs) (C R : eM) (H : zb_Hp) (q x L : Nat) (D E : Nat → Nat) : Prop :=
  (∀ j, j < L → zb_VR (zb_vo H) (zb_hP H) B.2.2.2.1 (C 36 (j + 1)) (R 84 j)) ∧ R 45 59 = (L : Int) ∧ (∀ j, j < L → zb_ANC R q x D E j)
  ∧ zb_VR (zb_vo H) (zb_hP H) B.2.2.2.1 (zb_tvq B C L x) (R 45 63) ∧ (¬ (B.2.1 49 x = 4 ∧ x + 1 < E x) → C 36 (L + 1) = 4294967298) ∧ (∀ j, j < 32 → (j = 0 ∨ L + 1 < j) → C 36 j = 4294967298)
def zb_QS (B : zb_Bs) (C R : eM) (H : zb_Hp) (rl ql : List (Nat × Nat)) (fd : Nat) (st : List zb_Rec) (fu d f q x L : Nat) (D E : Nat → Nat) : Prop :=
  (zb_GS B C R H rl ql fd ∧ zb_STR C R H B.2.2.2.1 st ∧ zb_CTL C R st) ∧ (C 44 8 = 0 ∧ C 43 4 = 0 ∧ C 43 5 = 0 ∧ C 15 11 = 0 ∧ C 15 12 = 0) ∧ (C 29 0 = ((st.length + 1 : Nat) : Int) ∧ R 45 53 = (zb_tt st : Int) ∧ R 45 51 = (zb_bb st : Int))
  ∧ (C 30 (st.length + 1) = 0 ∧ C 31 (st.length + 1) = (d : Int) ∧ C 32 (st.length + 1) = ((x + 1 : Nat) : Int) ∧ C 33 (st.length + 1) = (f : Int) ∧ C 34 (st.length + 1) = 0) ∧ (zb_isF H f ∧ R 45 62 = zb_frm H f) ∧ zb_FUE C R fu ∧ zb_CAL B C R st ∧ zb_QV B C R H q x L D E
theorem zb_vk_nob {c k v : Int} {N : Nat} (h : zb_vk c k v N) (hN : N ≤ 444) (g : Nat) : c = 17179869184 + (g : Int) → c = 25769803776 := by
  intro e
  unfold zb_vk at h
  rcases h with ⟨a, b, c', d⟩ | ⟨a, b⟩ | ⟨a, b⟩ | ⟨a, b, c', d⟩ | ⟨a, b⟩
  · omega
  · omega
  · omega
  · omega
  · exact b
section QUO
variable {B : zb_Bs} {Q : zb_Pq} {Z zb_sp : Nat} {C R M : eM} {H : zb_Hp} {rl ql : List (Nat × Nat)} {fd fu d f x e L : Nat} {st : List zb_Rec} {D E : Nat → Nat}
theorem zb_qv_qb (hr : zb_HR C R H B.2.2.1 B.2.2.2.1 (zb_lamW B.1 B.2.1 B.2.2.2.1 B.2.2.2.2) (zb_scpW B.1 B.2.1 B.2.2.2.1 B.2.2.2.2)) (hN : B.2.2.2.1 ≤ 444) {q : Nat} (hv : zb_vk (B.1 4 x) (B.2.1 49 x) (B.2.1 50 x) B.2.2.2.1) (hL : L ≤ 30) (h : zb_QV B C R H q x L D E) : zb_QB C R H L := by
  obtain ⟨v1, v2, v3, v4, v5, v6⟩ := h
  have htag := (zb_vk_tag hv hN).2.1
  have h4ne : B.1 4 x ≠ 25769803776 → C 36 (L + 1) = 4294967298 := fun z => v5 (fun y => z (htag.mpr y.1))
  refine ⟨fun i hi => ?_, ⟨v2, by omega, fun i hi => (zb_vr_cv hr hN (v1 i hi)).2, (zb_vr_cv hr hN v4).2⟩, fun g hg => ⟨fun z => ?_, fun z => ?_⟩⟩
  · by_cases h0 : i = 0 ∨ L + 1 < i
    · rw [v6 i hi h0]; exact Or.inr ⟨by decide, fun g _ => by omega⟩
    · by_cases h1 : i = L + 1
      · rw [h1]
        unfold zb_tvq at v4
        by_cases h4 : B.1 4 x = 25769803776
        · rw [if_pos h4] at v4; exact (zb_vr_cv hr hN v4).1
        · rw [h4ne h4]; exact Or.inr ⟨by decide, fun g _ => by omega⟩
      · have := v1 (i - 1) (by omega)
        rw [show i - 1 + 1 = i by omega] at this
        exact (zb_vr_cv hr hN this).1
  · obtain ⟨i, i1, i2⟩ := z
    by_cases h0 : i = 0 ∨ L + 1 < i
    · rw [v6 i i1 h0] at i2; omega
    · by_cases h1 : i = L + 1
      · rw [h1] at i2
        unfold zb_tvq at v4
        by_cases h4 : B.1 4 x = 25769803776
        · rw [if_pos h4] at v4; exact Or.inr ((zb_vr_iff hr hN v4 hg).mp i2)
        · rw [h4ne h4] at i2; omega
      · have := v1 (i - 1) (by omega)
        rw [show i - 1 + 1 = i by omega] at this
        exact Or.inl ⟨i - 1, by omega, (zb_vr_iff hr hN this hg).mp i2⟩
  · rcases z with ⟨i, i1, i2⟩ | z
    · exact ⟨i + 1, by omega, (zb_vr_iff hr hN (v1 i i1) hg).mpr i2⟩
    · have h9 := (zb_vr_iff hr hN v4 hg).mpr z
      unfold zb_tvq at h9
      by_cases h4 : B.1 4 x = 25769803776
      · rw [if_pos h4] at h9; exact ⟨L + 1, by omega, h9⟩
      · rw [if_neg h4] at h9
        exact absurd (zb_vk_nob hv hN g h9) h4
theorem zb_f105 {cn mo i q : Nat} (hi : i < 2000) (h31 : M 31 i = (d : Int)) (h32 : M 32 i = ((x + 1 : Nat) : Int)) (hd : d < 20000) (hx : x < 20000) : fn_105 cn mo (i : Int) M = lp (fun z => fn_105_16 cn mo (i : Int) ((d + 2 : Nat) : Int) z.1 z.2) ((x : Int), M) := by
  unfold fn_105
  rw [if_pos (by omega), Int.toNat_natCast, h31, h32, zb_wi_p2 (by omega), show eg_wi (((x + 1 : Nat) : Int) - 1) = (x : Int) by unfold eg_wi; omega]
theorem zb_wi_dd {a b : Nat} (h : b ≤ a) (h2 : a < 1000) : eg_wi ((a : Int) - (b : Int)) = ((a - b : Nat) : Int) := by unfold eg_wi; omega
theorem zb_qs_cl {q : Nat} (h : zb_QS B C R H rl ql fd st fu d f q x L D E) (hst : st.length < 1990) (hd : d < 20000) (hx : x < 20000) (hs : zb_sp < 1000000) : zb_CL B.2.2.1 Q (zb_sp : Int) C = (lp (fun z => fn_105_16 B.2.2.1 (B.2.2.1 / 3 + 1) ((st.length + 1 : Nat) : Int) ((d + 2 : Nat) : Int) z.1 z.2) ((x : Int), C)).bind (zb_AF B.2.2.1 Q (zb_sp : Int)) := by
  obtain ⟨_, ⟨a1, _⟩, ⟨b1, _⟩, ⟨c1, c2, c3, _⟩, _⟩ := h
  rw [zb_cl_res' a1 hs b1 (by omega) (zb_f72_no (by omega) c1 (by decide)), zb_d104_0 (by omega) c1, zb_f105 (q := 0) (by omega) c2 c3 hd hx]
theorem zb_quo_end {x1 ev : Int} (ht : zb_TRE B.1 B.2.1 B.2.2.2.1 (d + 2) e D E) (h : zb_QS B C R H rl ql fd st fu d f (d + 2) (d + 2) 0 D E) (hdp : zb_DEP B st) (hst : st.length < 1990) (hs : zb_sp < 1000000) : ∃ C', zb_CL B.2.2.1 Q (zb_sp : Int) C = zb_AF B.2.2.1 Q (zb_sp : Int) C' ∧ zb_QW x1 0 ev 1 R = some (0, eg_u R 45 70 (R 45 63)) ∧ zb_SX B C' (eg_u (eg_u (eg_u (eg_u R 45 70 (R 45 63)) 45 59 0) 45 62 (-1)) 45 63 (-1)) H rl ql fd st fu ∧ zb_VR (zb_vo H) (zb_hP H) B.2.2.2.1 (C' 44 9) (R 45 63) := by
  have hte := ht.1
  have hvk := (ht.2 (d + 2) (Nat.le_refl _) (by omega)).2.1.2.1
  have hCL := zb_qs_cl (Q := Q) (zb_sp := zb_sp) h hst (by omega) (by omega) hs
  obtain ⟨⟨g, s, zb_ct⟩, ⟨a1, a2, a3, a4, a5⟩, ⟨b1, b2, b3⟩, ⟨c1, c2, c3, c4, c5⟩, ⟨d1, d2⟩, fu1, ca, v1, v2, v3, v4, v5, v6⟩ := h
  have hN := (zb_gs_N g).1
  have w := zb_gs_w g
  have h48 : (C 4 (d + 2)) = B.1 4 (d + 2) := by rw [w.1.1]
  obtain ⟨Cq, q1, q2, q3⟩ : ∃ Cq, fn_107 ((d + 2 : Nat) : Int) 1 C = some (zb_tvq B C 0 (d + 2), Cq) ∧ (∀ j, j < 32 → Cq 36 j = 4294967298) ∧ (∀ c, c ≠ 36 → Cq c = C c) := by
    unfold fn_107 zb_tvq
    rw [if_pos (by omega), Int.toNat_natCast, h48]
    by_cases h4 : B.1 4 (d + 2) = 25769803776
    · refine ⟨eg_u C 36 1 4294967298, ?_, fun j hj => ?_, fun c hc => eg_u_ne hc⟩
      · rw [if_pos h4, if_pos (by decide), if_pos h4]; rfl
      · by_cases hj1 : j = 1
        · rw [hj1, eg_u_eq]
        · rw [eg_u_nj (by omega)]; exact v6 j hj (by omega)
    · refine ⟨C, ?_, fun j hj => ?_, fun _ _ => rfl⟩
      · rw [if_neg h4, if_neg h4]
      · by_cases hj1 : j = 1
        · rw [hj1]
          exact v5 (fun z => h4 ((zb_vk_tag hvk hN).2.1.mpr z.1))
        · exact v6 j hj (by omega)
  have hlp : lp (fun z => fn_105_16 B.2.2.1 (B.2.2.1 / 3 + 1) ((st.length + 1 : Nat) : Int) ((d + 2 : Nat) : Int) z.1 z.2) (((d + 2 : Nat) : Int), C) = some (eg_u (eg_u Cq 44 9 (zb_tvq B C 0 (d + 2))) 29 0 (st.length : Int)) := by
    refine lp2_inr ?_
    unfold fn_105_16 fn_103
    rw [if_pos (Int.le_refl _), q1, Option.bind_some, Option.bind_some]
    show some (Sum.inr (eg_u (eg_u Cq 44 9 (zb_tvq B C 0 (d + 2))) 29 0 (eg_wi (Cq 29 0 - 1)))) = _
    rw [q3 29 (by decide), b1, zb_wi_n1 (by omega)]
  rw [hlp, Option.bind_some] at hCL
  obtain ⟨C', hC'⟩ : ∃ C', C' = eg_u (eg_u Cq 44 9 (zb_tvq B C 0 (d + 2))) 29 0 (st.length : Int) := ⟨_, rfl⟩
  obtain ⟨R', hR'⟩ : ∃ R', R' = eg_u (eg_u (eg_u (eg_u R 45 70 (R 45 63)) 45 59 0) 45 62 (-1)) 45 63 (-1) := ⟨_, rfl⟩
  rw [← hC'] at hCL
  rw [← hR']
  have c'o : ∀ c, c ≠ 29 → c ≠ 36 → c ≠ 44 → C' c = C c := fun c a b e => by rw [hC', eg_u_ne a, eg_u_ne e, q3 c b]
  have c'44 : ∀ f, f ≠ 9 → C' 44 f = C 44 f := fun f hf => by rw [hC', eg_u_ne (by decide), eg_u_nj (by omega), q3 44 (by decide)]
  have r'o : ∀ c, c ≠ 45 → R' c = R c := fun c hc => by rw [hR', eg_u_ne hc, eg_u_ne hc, eg_u_ne hc, eg_u_ne hc]
  have r'f : ∀ f, f ∉ ([70, 59, 62, 63] : List Nat) → R' 45 f = R 45 f := fun f hf => by
    have : f ≠ 70 ∧ f ≠ 59 ∧ f ≠ 62 ∧ f ≠ 63 := by revert hf; simp
    rw [hR', eg_u_nj (by omega), eg_u_nj (by omega), eg_u_nj (by omega), eg_u_nj (by omega)]
  have h9 : C' 44 9 = zb_tvq B C 0 (d + 2) := by rw [hC', eg_u_ne (by decide), eg_u_eq]
  refine ⟨C', hCL, ?_, ⟨⟨zb_gs_congr g ⟨fun c z1 z2 => c'o c (fun e => z1 (by rw [e]; decide)) (fun e => z1 (by rw [e]; decide)) (fun e => z1 (by rw [e]; decide)), fun f _ _ => by rw [c'o 15 (by decide) (by decide) (by decide)], by rw [c'44 7 (by decide)]; exact Int.le_refl _⟩ ⟨fun c _ z2 => r'o c z2, fun f z1 => r'f f (fun z => z1 (by revert z; simp [zb_RF]; omega))⟩, ?_, ?_, ⟨⟨?_, ?_, ?_, ?_, ?_⟩, ⟨?_, ?_, ?_⟩, fun i hi => ?_⟩, ?_, ?_, ?_⟩, ⟨?_, ?_, fu1.2.2⟩, ⟨?_, ?_, ca.2.2.1, zb_bud_le ca.2.2.2 (r'f 42 (by decide)) (by rw [r'f 67 (by decide)]; exact Int.le_refl _)⟩, hdp⟩, by rw [h9]; exact v4⟩
  · have e1 : fn_193_51 x1 0 ev 1 R = some (.inr (.inl (ev, 1, R))) := by
      unfold fn_193_51
      rw [if_neg (by decide), v2, if_pos (by decide), if_neg (fun z => z rfl)]
    rw [zb_qw_out e1]
    unfold zb_QO
    refine lp3_inr ?_
    unfold fn_193_4
    rw [if_pos (by decide)]
  · exact zb_str_tr s (fun i _ _ => by rw [c'o 33 (by decide) (by decide) (by decide), c'o 34 (by decide) (by decide) (by decide), c'o 35 (by decide) (by decide) (by decide)]; exact ⟨rfl, rfl, fun _ _ => rfl⟩) (fun t _ => by rw [r'o 81 (by decide), r'o 82 (by decide)]; exact ⟨rfl, rfl⟩) (fun b _ => by rw [r'o 77 (by decide)]) (fun g hg _ => zb_trg_rfl hg)
  · exact zb_ctl_tr zb_ct (fun i _ _ => by rw [c'o 30 (by decide) (by decide) (by decide), c'o 31 (by decide) (by decide) (by decide), c'o 32 (by decide) (by decide) (by decide)]; exact ⟨rfl, rfl, rfl⟩) (fun t _ => by rw [r'o 78 (by decide), r'o 79 (by decide), r'o 80 (by decide)]; exact ⟨rfl, rfl, rfl⟩)
  · rw [c'44 8 (by decide)]; exact a1
  · rw [c'o 43 (by decide) (by decide) (by decide)]; exact a2
  · rw [c'o 43 (by decide) (by decide) (by decide)]; exact a3
  · rw [c'o 15 (by decide) (by decide) (by decide)]; exact a4
  · rw [c'o 15 (by decide) (by decide) (by decide)]; exact a5
  · rw [hR', eg_u_nj (by decide), eg_u_nj (by decide), eg_u_eq]
  · rw [hR', eg_u_nj (by decide), eg_u_eq]
  · rw [hR', eg_u_eq]
  · rw [hC', eg_u_ne (by decide), eg_u_ne (by decide)]; exact q2 i hi
  · rw [hC', eg_u_eq]
  · rw [r'f 53 (by decide)]; exact b2
  · rw [r'f 51 (by decide)]; exact b3
  · rw [c'44 7 (by decide)]; exact fu1.1
  · rw [r'f 67 (by decide)]; exact fu1.2.1
  · rw [c'44 10 (by decide)]; exact ca.1
  · rw [r'f 68 (by decide)]; exact ca.2.1
end QUO
section QUO
variable {B : zb_Bs} {Q : zb_Pq} {Z zb_sp : Nat} {C R M : eM} {H : zb_Hp} {rl ql : List (Nat × Nat)} {fd fu d f x e L : Nat} {st : List zb_Rec} {D E : Nat → Nat}
theorem zb_wi_L1 {L : Nat} (h : 1 ≤ L) (h2 : L ≤ 31) : eg_wi ((L : Int) - 1) = ((L - 1 : Nat) : Int) := by unfold eg_wi; omega
theorem zb_f106 {cn xh us : Nat} {C3 : eM} {vt : Int} (hL : L ≤ 30) (h1 : 1 ≤ L) (hx : x < 20000) (hxh : 1 ≤ xh) (hxh2 : xh < 20000) (h93 : fn_93 cn (cn / 3 + 1) 1 4 M = some ((xh : Int), C3)) (hput : ∀ (M' : eM) (i : Nat) (w : Int), M' 17 = C3 17 → i < 4 → fn_94 cn (cn / 3 + 1) (xh : Int) (i : Int) w M' = some (eg_u M' 16 (us + i) w)) (hvt : vt = if C3 4 x = 25769803776 then C3 36 (L + 1) else C3 4 x) (hnil : C3 4 x ≠ 25769803776 → C3 36 (L + 1) = 4294967298) :
    ∃ C4, fn_106 cn (cn / 3 + 1) (x : Int) (L : Int) M = some C4 ∧ (∀ c, c ≠ 16 → c ≠ 36 → C4 c = C3 c) ∧ C4 16 (us + 1) = vt ∧ C4 16 (us + 2) = C3 36 L ∧ (∀ a, a ≤ us ∨ us + 4 ≤ a → C4 16 a = C3 16 a) ∧ C4 36 L = 17179869184 + (xh : Int) ∧ C4 36 (L + 1) = 4294967298 ∧ (∀ j, j ≠ L → j ≠ L + 1 → C4 36 j = C3 36 j) := by
  have p2 : fn_94 cn (cn / 3 + 1) (xh : Int) 2 (C3 36 L) C3 = some (eg_u C3 16 (us + 2) (C3 36 L)) := hput C3 2 _ rfl (by omega)
  have hp : ∀ M' w, M' 17 = C3 17 → fn_94 cn (cn / 3 + 1) (xh : Int) 1 w M' = some (eg_u M' 16 (us + 1) w) := fun M' w h => hput M' 1 w h (by omega)
  have e36 : (eg_u C3 16 (us + 2) (C3 36 L)) 36 = C3 36 := eg_u_ne (by decide)
  have e4 : (eg_u C3 16 (us + 2) (C3 36 L)) 4 = C3 4 := eg_u_ne (by decide)
  have head : fn_106 cn (cn / 3 + 1) (x : Int) (L : Int) M = (fn_107 (x : Int) ((L + 1 : Nat) : Int) (eg_u C3 16 (us + 2) (C3 36 L))).bind fun r10 => (fn_94 cn (cn / 3 + 1) (xh : Int) 1 r10.1 r10.2).bind fun m14 => some (eg_u m14 36 L (17179869184 + (xh : Int))) := by
    unfold fn_106 fn_95
    rw [h93, Option.bind_some]
    show (if (xh : Int) = 0 then some C3 else _) = _
    rw [if_neg (by omega), if_pos (by omega), Int.toNat_natCast]
    show (fn_94 cn (cn / 3 + 1) (xh : Int) 2 (C3 36 L) C3).bind _ = _
    rw [p2, Option.bind_some, zb_wi_1 (by omega)]
    simp only [Option.bind_some, zb_lor_obj hxh2]
  rw [head]
  unfold fn_107
  rw [if_pos (by omega), Int.toNat_natCast, e4, e36]
  by_cases h4 : C3 4 x = 25769803776
  · rw [if_pos h4, if_pos (by omega), Int.toNat_natCast, Option.bind_some]
    show ∃ C4, ((fn_94 cn (cn / 3 + 1) (xh : Int) 1 (C3 36 (L + 1)) (eg_u (eg_u C3 16 (us + 2) (C3 36 L)) 36 (L + 1) 4294967298)).bind fun m14 => some (eg_u m14 36 L (17179869184 + (xh : Int)))) = some C4 ∧ _
    rw [hp _ _ (by rw [eg_u_ne (by decide), eg_u_ne (by decide)]), Option.bind_some]
    rw [if_pos h4] at hvt
    refine ⟨_, rfl, fun c a b => ?_, ?_, ?_, fun a ha => ?_, eg_u_eq, ?_, fun j a b => ?_⟩
    · rw [eg_u_ne b, eg_u_ne a, eg_u_ne b, eg_u_ne a]
    · rw [eg_u_ne (by decide), eg_u_eq, hvt]
    · rw [eg_u_ne (by decide), eg_u_nj (by omega), eg_u_ne (by decide), eg_u_eq]
    · rw [eg_u_ne (by decide), eg_u_nj (by omega), eg_u_ne (by decide), eg_u_nj (by omega)]
    · rw [eg_u_nj (by omega), eg_u_ne (by decide), eg_u_eq]
    · rw [eg_u_nj (by omega), eg_u_ne (by decide), eg_u_nj (by omega), eg_u_ne (by decide)]
  · rw [if_neg h4, Option.bind_some]
    show ∃ C4, ((fn_94 cn (cn / 3 + 1) (xh : Int) 1 (C3 4 x) (eg_u C3 16 (us + 2) (C3 36 L))).bind fun m14 => some (eg_u m14 36 L (17179869184 + (xh : Int)))) = some C4 ∧ _
    rw [hp _ _ (by rw [eg_u_ne (by decide)]), Option.bind_some]
    rw [if_neg h4] at hvt
    refine ⟨_, rfl, fun c a b => ?_, ?_, ?_, fun a ha => ?_, eg_u_eq, ?_, fun j a b => ?_⟩
    · rw [eg_u_ne b, eg_u_ne a, eg_u_ne a]
    · rw [eg_u_ne (by decide), eg_u_eq, hvt]
    · rw [eg_u_ne (by decide), eg_u_nj (by omega), eg_u_eq]
    · rw [eg_u_ne (by decide), eg_u_nj (by omega), eg_u_nj (by omega)]
    · rw [eg_u_nj (by omega), eg_u_ne (by decide), eg_u_ne (by decide)]; exact hnil h4
    · rw [eg_u_nj (by omega), eg_u_ne (by decide), eg_u_ne (by decide)]
set_option maxHeartbeats 4000000 in
theorem zb_quo_step {x1 ev : Int} (ht : zb_TRE B.1 B.2.1 B.2.2.2.1 (d + 2) e D E) (h : zb_QS B C R H rl ql fd st fu d f (d + 2) x L D E) (hL : L = D x - D (d + 2)) (hx1 : d + 2 < x) (hx2 : x < e) (hst : st.length < 1990) (hsp : zb_sp + 20 * fu < 999999) :
    (∃ (C' R' : eM) (H' : zb_Hp) (rl' ql' : List (Nat × Nat)) (fu' sp' : Nat) (ev' : Int), zb_CL B.2.2.1 Q (zb_sp : Int) C = zb_CL B.2.2.1 Q (sp' : Int) C' ∧ zb_QW x1 0 ev 1 R = zb_QW x1 0 ev' 1 R' ∧ zb_QS B C' R' H' rl' ql' fd st fu' d f (d + 2) (x - 1) (D (x - 1) - D (d + 2)) D E ∧ zb_sp ≤ sp' ∧ sp' + 20 * fu' ≤ zb_sp + 20 * fu)
    ∨ (∃ (C' R' : eM) (H' : zb_Hp) (rl' ql' : List (Nat × Nat)) (fu' : Nat) (k : Int), zb_CL B.2.2.1 Q (zb_sp : Int) C = some C' ∧ zb_QW x1 0 ev 1 R = some (-1, R') ∧ C' 44 8 = k ∧ R' 45 69 = k ∧ (k = 4 ∨ k = 12) ∧ zb_GS B C' R' H' rl' ql' fd ∧ zb_FUE C' R' fu') := by
  have hte := ht.1
  have hvk := (ht.2 x (by omega) hx2).2.1.2.1
  have hDx := (ht.2 x (by omega) hx2).2.1.2.2.2
  have h6x := (ht.2 x (by omega) hx2).2.1.1
  have h6q := (ht.2 (d + 2) (Nat.le_refl _) (by omega)).2.1.1
  have hDD := zb_tre_in ht hx1 hx2
  have hqs := h
  obtain ⟨⟨g, s, zb_ct⟩, ⟨a1, a2, a3, a4, a5⟩, ⟨b1, b2, b3⟩, ⟨c1, c2, c3, c4, c5⟩, ⟨d1, d2⟩, fu1, ca, hqv⟩ := h
  have hN := (zb_gs_N g).1
  have hqb := zb_qv_qb (zb_gs_hr g) hN hvk (by omega) hqv
  obtain ⟨v1, v2, v3, v4, v5, v6⟩ := hqv
  have w := zb_gs_w g
  have htag := (zb_vk_tag hvk hN).2.1
  have hL1 : 1 ≤ L := by omega
  have hL30 : L ≤ 30 := by omega
  have hlev : ∀ M : eM, M 6 = B.1 6 → eg_wi ((M 6 x) - (M 6 (d + 2))) = (L : Int) := by
    intro M hM
    rw [hM, h6x, h6q, zb_wi_dd (by omega) (by omega), hL]
  have hax : R 83 (L - 1) = (x : Int) := by
    obtain ⟨a, z1, z2, z3, z4, z5⟩ := v3 (L - 1) (by omega)
    have := zb_tre_uniq ht (x := x) (y := a) (by omega) hx2 (by omega) z3 z4 (by omega)
    rw [z1, this]
  have hstep : ∀ (M R' : eM) (H' : zb_Hp) (rl' ql' : List (Nat × Nat)) (sp' : Nat), zb_GS B M R' H' rl' ql' fd → zb_KEP C M → M 15 11 = 0 → ¬ zb_hU H' + 4 ≤ B.2.2.1 → sp' < 1000000 → (∀ g, g ∈ zb_hO H → zb_RTS C st.length g → zb_TRg H H' g) → (∀ h i, h ∈ zb_hO H' → zb_hK H h ≤ 4 → i < zb_hZ H h → zb_cl M H' h i = zb_cl C H h i) → zb_CL B.2.2.1 Q (sp' : Int) M = zb_AF B.2.2.1 Q (sp' : Int) (eg_u M 15 11 1) := by
    intro M R' H' rl' ql' sp' gM kM h11 hno hs' _ _
    have m30 : M 30 (st.length + 1) = 0 := by rw [kM.1 30 (by decide)]; exact c1
    obtain ⟨⟨fl', hs9, hH⟩, _⟩ := zb_gs_hr gM
    rw [zb_cl_res' (top := st.length + 1) (by rw [kM.2.1 8 (by decide)]; exact a1) hs' (by rw [kM.1 29 (by decide)]; exact b1) (by omega) (zb_f72_no (by omega) m30 (by decide)), zb_d104_0 (by omega) m30, zb_f105 (d := d) (x := x) (q := 0) (by omega) (by rw [kM.1 31 (by decide)]; exact c2) (by rw [kM.1 32 (by decide)]; exact c3) (by omega) (by omega)]
    have hm := zb_make_no hH (k := 1) hno
    have h106 : fn_106 B.2.2.1 (B.2.2.1 / 3 + 1) (x : Int) (L : Int) M = some (eg_u M 15 11 1) := by
      unfold fn_106
      rw [show (4 : Int) = ((4 : Nat) : Int) by rfl, hm, Option.bind_some]
      show (if (0 : Int) = 0 then some (eg_u M 15 11 1) else _) = _
      rw [if_pos rfl]
    have hlp : lp (fun z => fn_105_16 B.2.2.1 (B.2.2.1 / 3 + 1) ((st.length + 1 : Nat) : Int) ((d + 2 : Nat) : Int) z.1 z.2) ((x : Int), M) = some (eg_u M 15 11 1) := by
      refine lp2_inr ?_
      unfold fn_105_16
      rw [if_neg (by omega), if_pos (by omega), if_pos (by omega), Int.toNat_natCast, Int.toNat_natCast, hlev M (zb_gs_w gM).1.2.2, h106, Option.bind_some, eg_u_eq, if_neg (by decide)]
    rw [hlp, Option.bind_some]
  have e51 : fn_193_51 x1 0 ev 1 R = ((fn_195 (((1 : Nat) : Int) - 1) ((zb_nf 1 4 : Nat) : Int) (R 84 (L - 1)) R).bind fun r13 =>
        if ¬ r13.1 = (-1) then
          (fn_205 r13.1 0 (r13.2 45 63) r13.2).bind fun m18 =>
          if 0 ≤ (eg_wi ((m18 45 59) - 1)) ∧ (eg_wi ((m18 45 59) - 1)) < 31 then
          if 0 ≤ (m18 83 (eg_wi ((m18 45 59) - 1)).toNat) ∧ (m18 83 (eg_wi ((m18 45 59) - 1)).toNat) < 20100 then
            if 0 ≤ (m18 54 (m18 83 (eg_wi ((m18 45 59) - 1)).toNat).toNat) then
                fn_193_118 x1 ev 0 (m18 54 (m18 83 (eg_wi ((m18 45 59) - 1)).toNat).toNat) 0 (eg_u (eg_u (eg_u m18 84 (eg_wi ((m18 45 59) - 1)).toNat r13.1) 45 63 (-1)) 83 (eg_wi ((m18 45 59) - 1)).toNat (m18 54 (m18 83 (eg_wi ((m18 45 59) - 1)).toNat).toNat))
              else
                fn_193_118 x1 ev 0 (m18 54 (m18 83 (eg_wi ((m18 45 59) - 1)).toNat).toNat) 1 (eg_u (eg_u (eg_u m18 84 (eg_wi ((m18 45 59) - 1)).toNat r13.1) 45 63 (-1)) 83 (eg_wi ((m18 45 59) - 1)).toNat (m18 54 (m18 83 (eg_wi ((m18 45 59) - 1)).toNat).toNat))
            else none
          else none
        else
          some (.inr (.inr (-1, eg_u r13.2 45 69 (r13.2 45 66))))) := by
    unfold fn_193_51 fn_185
    rw [if_neg (by decide), v2, if_neg (by omega), zb_wi_L1 hL1 (by omega), if_pos (by omega), Int.toNat_natCast]
    rfl
  rcases zb_room (Q := Q) (zb_sp := zb_sp) (k := 1) (s := 4) (v := R 84 (L - 1)) (e := 1) (f := f) (bn := L) g s (by omega) (by omega) b1 (fun _ => ⟨c4, c5⟩) d1 (fun z => by omega) b2 b3 d2 hqb fu1 a1 a4 a5 a3 (by unfold zb_szk; omega) hsp hstep with
    ⟨M, R1, H1, rl1, ql1, fu2, sp1, k1, k2, k3, k4, k5, k6, k7, k8, k9, k10, k11, k12, k13, k14, k15, k16⟩ | ⟨C', R', H', rl', ql', fu', lk, k1, k2, k3, k4, k5, k6, k7⟩
  · left
    have hM := k6.1
    have wM := zb_gs_w k4
    obtain ⟨xh, o, C3, R3, ls, m1, m2, m⟩ := zb_hr_make (zb_gs_hr k4) (k := 1) (s := 4) (by unfold zb_szk; omega) k3 (R 84 (L - 1))
    have hm := m
    obtain ⟨⟨n1, n2, n3, n4, n5, n6⟩, _, _, ⟨p1, p2, p3, p4, p5, p6, p7⟩, ⟨q1, q2, q3, q4, q5, q6, q7, q8, q9, q10, q11⟩⟩ := hm
    have hxh : xh < 20000 := by have := (zb_gs_hr k4).1.choose_spec.choose_spec.1.2.1; omega
    have c3c : ∀ c, c ∈ ([29, 30, 31, 32, 33, 34, 35, 36] : List Nat) → C3 c = C c := fun c hc => by rw [p7 c (by revert hc; simp; omega), hM c hc]
    have c36 : C3 36 = C 36 := c3c 36 (by decide)
    have c34 : C3 4 = B.1 4 := by rw [p7 4 (by decide), wM.1.1]
    have hnil : C3 4 x ≠ 25769803776 → C3 36 (L + 1) = 4294967298 := by
      rw [c34, c36]; exact fun z => v5 (fun y => z (htag.mpr y.1))
    obtain ⟨C4, u1, u2, u3, u4, u5, u6, u7, u8⟩ := zb_f106 (M := M) (vt := zb_tvq B C L x) hL30 hL1 (by omega) n2 hxh m1 (fun M' i w hM' hi => zb_mk_put m hM' hi) (by unfold zb_tvq; rw [c34, c36]) hnil
    rw [c36] at u4 u8
    have c4m : ∀ c, c ∉ ([15, 16, 17, 18, 19, 20, 36] : List Nat) → C4 c = M c := fun c hc => by
      rw [u2 c (fun e => hc (by rw [e]; decide)) (fun e => hc (by rw [e]; decide)), p7 c (fun z => hc (by revert z; simp; omega))]
    obtain ⟨C5, hC5⟩ : ∃ C5, C5 = eg_u C4 32 (st.length + 1) (x : Int) := ⟨_, rfl⟩
    have c5o : ∀ c, c ≠ 32 → C5 c = C4 c := fun c hc => by rw [hC5, eg_u_ne hc]
    have c5c : ∀ c, c ∈ ([29, 30, 31, 33, 34, 35] : List Nat) → C5 c = C c := fun c hc => by
      rw [c5o c (by revert hc; simp; omega), c4m c (by revert hc; simp; omega), hM c (by revert hc; simp; omega)]
    have c532 : ∀ i, i ≠ st.length + 1 → C5 32 i = C 32 i := fun i hi => by
      rw [hC5, eg_u_nj (fun z => hi z.2), c4m 32 (by decide), hM 32 (by decide)]
    have c544 : ∀ f, f ≠ 7 → C5 44 f = C 44 f := fun f hf => by rw [c5o 44 (by decide), c4m 44 (by decide), k6.2.1 f hf]
    have c515 : C5 15 11 = 0 ∧ C5 15 12 = 0 := by
      rw [c5o 15 (by decide), u2 15 (by decide) (by decide)]; exact ⟨by rw [p6]; exact k11, p4⟩
    have hcl : zb_CL B.2.2.1 Q (zb_sp : Int) C = (lp (fun z => fn_105_16 B.2.2.1 (B.2.2.1 / 3 + 1) ((st.length + 1 : Nat) : Int) ((d + 2 : Nat) : Int) z.1 z.2) (((x - 1 : Nat) : Int), C5)).bind (zb_AF B.2.2.1 Q (sp1 : Int)) := by
      have m30 : M 30 (st.length + 1) = 0 := by rw [hM 30 (by decide)]; exact c1
      rw [k1, zb_cl_res' (top := st.length + 1) (by rw [k6.2.1 8 (by decide)]; exact a1) (by omega) (by rw [hM 29 (by decide)]; exact b1) (by omega) (zb_f72_no (by omega) m30 (by decide)), zb_d104_0 (by omega) m30, zb_f105 (d := d) (x := x) (q := 0) (by omega) (by rw [hM 31 (by decide)]; exact c2) (by rw [hM 32 (by decide)]; exact c3) (by omega) (by omega)]
      have h15 : C4 15 11 = 0 := by rw [← c5o 15 (by decide)]; exact c515.1
      have hin : fn_105_16 B.2.2.1 (B.2.2.1 / 3 + 1) ((st.length + 1 : Nat) : Int) ((d + 2 : Nat) : Int) (x : Int) M = some (.inl (((x - 1 : Nat) : Int), C5)) := by
        have hw : eg_wi ((x : Int) + (-1)) = ((x - 1 : Nat) : Int) := by unfold eg_wi; omega
        unfold fn_105_16
        rw [if_neg (by clear hw; omega), if_pos (by clear hw; omega), if_pos (by clear hw; omega), Int.toNat_natCast, Int.toNat_natCast, hlev M wM.1.2.2, u1, Option.bind_some, if_pos h15, if_pos (by clear hw; omega), Int.toNat_natCast, hw, hC5]
      rw [lp2_inl hin]
    have hll : ls.length = 2 := q6
    have mem0 : ls.getD 0 0 ∈ ls := by rw [zb_gd (by omega)]; exact List.getElem_mem _
    have mem1 : ls.getD 1 0 ∈ ls := by rw [zb_gd (by omega)]; exact List.getElem_mem _
    have ne01 : ls.getD 1 0 ≠ ls.getD 0 0 := by
      intro z
      rw [zb_gd (by omega), zb_gd (by omega)] at z
      have := zb_nd_inj q8 _ _ z
      omega
    obtain ⟨Rm, hRm⟩ : ∃ Rm, Rm = eg_u R3 70 (ls.getD 0 0) (R 45 63) := ⟨_, rfl⟩
    have r363 : R3 45 63 = R 45 63 := by rw [q11 63 (by decide) (by decide) (by decide) (by decide), k7.1 63 (by decide)]
    have hset : fn_205 (zb_ov o) 0 (R3 45 63) R3 = some Rm := by
      have : fn_205 (zb_ov o) 0 (R3 45 63) R3 = _ := zb_mk_set m (M := R3) rfl rfl (i := 0) (w := R3 45 63) (by decide)
      rw [this, hRm, r363]
    have hnew := zb_mk_new (H := H1) (x := xh) (o := o) (k := 1) (s := 4) (l := ls)
    have tvr1 : zb_VR (zb_vo H1) (zb_hP H1) B.2.2.2.1 (zb_tvq B C L x) (R 45 63) := by
      refine zb_vr_tr v4 (fun g' hg' e' => ?_)
      unfold zb_tvq at e'
      by_cases h4 : B.1 4 x = 25769803776
      · rw [if_pos h4] at e'; exact k9 g' (L + 1) hg' (by omega) e'
      · rw [if_neg h4] at e'; exact absurd (zb_vk_nob hvk hN g' e') h4
    have qvr1 : ∀ j, j < L → zb_VR (zb_vo H1) (zb_hP H1) B.2.2.2.1 (C 36 (j + 1)) (R 84 j) := fun j hj => zb_vr_tr (v1 j hj) (fun g' hg' e' => k9 g' (j + 1) hg' (by omega) e')
    have hr5 : zb_HR C5 Rm (zb_Hmk H1 xh o 1 4 ls) B.2.2.1 B.2.2.2.1 (zb_lamW B.1 B.2.1 B.2.2.2.1 B.2.2.2.2) (zb_scpW B.1 B.2.1 B.2.2.2.1 B.2.2.2.2) := by
      refine zb_hr_made (zb_gs_hr k4) (by unfold zb_szk; omega) m (fun f hf => by rw [c5o 15 (by decide), u2 15 (by decide) (by decide)]) (fun c hc => by rw [c5o c (by revert hc; simp; omega), u2 c (by revert hc; simp; omega) (by revert hc; simp; omega)]) (fun j hj => by rw [c5o 16 (by decide), u5 j hj]) (fun f hf => by rw [hRm, eg_u_ne (by decide)]) (fun c hc => by rw [hRm, eg_u_ne (by revert hc; simp; omega)]) (fun q hq => by rw [hRm, eg_u_ne (by decide)]) (fun c hc => by rw [hRm, eg_u_nj (fun z => hc (by rw [z.2]; exact mem0))]) (fun j hj => ?_) (fun z => by omega) (fun z => by omega) (fun z => by omega)
      have hj2 : j = 0 ∨ j = 1 := by simp [zb_nf] at hj; omega
      have hnl : ¬ zb_isl (zb_hK (zb_Hmk H1 xh o 1 4 ls) xh) j := by rw [hnew.2.2.1]; intro z; rcases z with ⟨z, _⟩ | z | ⟨z, _⟩ <;> omega
      refine ⟨fun z => absurd z hnl, fun _ => ?_⟩
      unfold zb_cf zb_rf
      rw [if_neg hnl, hnew.1, hnew.2.2.1, hnew.2.2.2.1, hnew.2.2.2.2.2.1]
      rcases hj2 with z | z <;> subst z
      · show zb_VR _ _ _ (C5 16 (zb_hU H1 + (1 + 0))) (Rm 70 (ls.getD 0 0))
        rw [c5o 16 (by decide), show zb_hU H1 + (1 + 0) = zb_hU H1 + 1 from rfl, u3, hRm, eg_u_eq]
        exact zb_vr_tr tvr1 (fun g' hg' _ => zb_mk_trg m g' hg')
      · show zb_VR _ _ _ (C5 16 (zb_hU H1 + (1 + 1))) (Rm 70 (ls.getD 1 0))
        rw [c5o 16 (by decide), show zb_hU H1 + (1 + 1) = zb_hU H1 + 2 from rfl, u4, hRm, eg_u_nj (fun z => ne01 z.2), q4 _ mem1]
        have := qvr1 (L - 1) (by omega)
        rw [show L - 1 + 1 = L by omega] at this
        exact zb_vr_tr this (fun g' hg' _ => zb_mk_trg m g' hg')
    have rmo : ∀ c, c ∉ ([45, 62, 63, 65, 66, 68, 70, 71] : List Nat) → Rm c = R1 c := fun c hc => by rw [hRm, eg_u_ne (fun e => hc (by rw [e]; decide)), q10 c hc]
    have rmr : ∀ c, c ∈ ([49, 50, 52, 54, 55, 77, 78, 79, 80, 81, 82, 83, 84] : List Nat) → Rm c = R c := fun c hc => by rw [rmo c (by revert hc; simp; omega), k7.2 c (by revert hc; simp; omega)]
    have rmf1 : ∀ f, f ∉ ([28, 29, 38, 41] : List Nat) → Rm 45 f = R1 45 f := fun f hf => by rw [hRm, eg_u_ne (by decide), q11 f (fun e => hf (by rw [e]; decide)) (fun e => hf (by rw [e]; decide)) (fun e => hf (by rw [e]; decide)) (fun e => hf (by rw [e]; decide))]
    have rmf : ∀ f, f ∉ ([28, 29, 38, 41, 43, 45, 48, 64, 67] : List Nat) → Rm 45 f = R 45 f := fun f hf => by rw [rmf1 f (fun z => hf (by revert z; simp; omega)), k7.1 f hf]
    have gs5 : zb_GS B C5 Rm (zb_Hmk H1 xh o 1 4 ls) rl1 ql1 fd := by
      refine zb_gs_tr k4 hr5 (zb_mk_trg m) (zb_mk_cl (zb_gs_hr k4) m (fun j hj => by rw [c5o 16 (by decide), u5 j (by omega)])) (zb_mk_num (zb_gs_num k4) m (by rw [c5o 20 (by decide), u2 20 (by decide) (by decide)]) (by rw [c5o 15 (by decide), u2 15 (by decide) (by decide)]) (by rw [c5o 44 (by decide), c4m 44 (by decide)]; exact Int.le_refl _)) (fun c hc h2 => ?_) (fun c hc h2 => rmo c (fun z => h2 (by revert z; simp; omega))) (fun f hf h2 => rmf1 f (fun z => h2 (by revert z; simp; omega)))
      rw [c5o c (fun e => hc (by rw [e]; decide)), c4m c (fun z => by revert z hc h2; simp [zb_CC]; omega)]
    have e51b : fn_193_51 x1 0 ev 1 R = if 0 ≤ B.2.1 54 x then fn_193_118 x1 ev 0 (B.2.1 54 x) 0 (eg_u (eg_u (eg_u Rm 84 (L - 1) (zb_ov o)) 45 63 (-1)) 83 (L - 1) (B.2.1 54 x)) else fn_193_118 x1 ev 0 (B.2.1 54 x) 1 (eg_u (eg_u (eg_u Rm 84 (L - 1) (zb_ov o)) 45 63 (-1)) 83 (L - 1) (B.2.1 54 x)) := by
      have s59 : Rm 45 59 = (L : Int) := by rw [rmf 59 (by decide)]; exact v2
      have s83 : Rm 83 (L - 1) = (x : Int) := by rw [rmr 83 (by decide)]; exact hax
      have s54 : Rm 54 x = B.2.1 54 x := by rw [(zb_gs_w gs5).2.2.2.2.2.2.1]
      rw [e51, k2, m2, Option.bind_some]
      show (if ¬ zb_ov o = -1 then (fn_205 (zb_ov o) 0 (R3 45 63) R3).bind _ else _) = _
      rw [if_pos (by unfold zb_ov; omega), hset, Option.bind_some, s59, zb_wi_L1 hL1 (by omega), if_pos (by omega), Int.toNat_natCast, s83, if_pos (by omega), Int.toNat_natCast, s54]
    have done : ∀ (R6 : eM) (L' : Nat) (ev' : Int), zb_QW x1 0 ev 1 R = zb_QW x1 0 ev' 1 R6 → L' = D (x - 1) - D (d + 2) → (∀ c, c ∉ ([45, 83, 84] : List Nat) → R6 c = Rm c) → (∀ f, f ≠ 59 → f ≠ 63 → R6 45 f = Rm 45 f) → zb_QV B C5 R6 (zb_Hmk H1 xh o 1 4 ls) (d + 2) (x - 1) L' D E → (∃ (C' R' : eM) (H' : zb_Hp) (rl' ql' : List (Nat × Nat)) (fu' sp' : Nat) (ev' : Int), zb_CL B.2.2.1 Q (zb_sp : Int) C = zb_CL B.2.2.1 Q (sp' : Int) C' ∧ zb_QW x1 0 ev 1 R = zb_QW x1 0 ev' 1 R' ∧ zb_QS B C' R' H' rl' ql' fd st fu' d f (d + 2) (x - 1) (D (x - 1) - D (d + 2)) D E ∧ zb_sp ≤ sp' ∧ sp' + 20 * fu' ≤ zb_sp + 20 * fu) := by
      intro R6 L' ev' hw hL' ho hf hqv'
      have hqs' : zb_QS B C5 R6 (zb_Hmk H1 xh o 1 4 ls) rl1 ql1 fd st fu2 d f (d + 2) (x - 1) L' D E := by
        have hfr := zb_frm_tr k8.1 (fun hm => zb_mk_trg m _ hm)
        refine ⟨⟨zb_gs_congr gs5 zb_QC_rfl ⟨fun c z1 z2 => ho c (fun z => z1 (by revert z; simp [zb_RC]; omega)), fun f z1 => hf f (fun e => z1 (by rw [e]; decide)) (fun e => z1 (by rw [e]; decide))⟩, ?_, ?_⟩, ⟨?_, ?_, ?_, c515.1, c515.2⟩, ⟨?_, ?_, ?_⟩, ⟨?_, ?_, ?_, ?_, ?_⟩, ⟨hfr.1, ?_⟩, ⟨?_, ?_, k12.2.2⟩, ⟨?_, ?_, ca.2.2.1, zb_bud_le ca.2.2.2 (by rw [hf 42 (by decide) (by decide), rmf 42 (by decide)]) (by rw [hf 67 (by decide) (by decide), rmf1 67 (by decide), k12.2.1, fu1.2.1]; omega)⟩, hqv'⟩
        · refine zb_str_tr k5 (fun i j1 j2 => ?_) (fun t ht => ?_) (fun b hb => ?_) (fun g hg _ => zb_mk_trg m g hg)
          · rw [c5c 33 (by decide), c5c 34 (by decide), c5c 35 (by decide), hM 33 (by decide), hM 34 (by decide), hM 35 (by decide)]; exact ⟨rfl, rfl, fun _ _ => rfl⟩
          · rw [ho 81 (by decide), ho 82 (by decide), rmo 81 (by decide), rmo 82 (by decide)]; exact ⟨rfl, rfl⟩
          · rw [ho 77 (by decide), rmo 77 (by decide)]
        · refine zb_ctl_tr zb_ct (fun i j1 j2 => ⟨by rw [c5c 30 (by decide)], by rw [c5c 31 (by decide)], c532 i (by omega)⟩) (fun t ht => ?_)
          rw [ho 78 (by decide), ho 79 (by decide), ho 80 (by decide), rmr 78 (by decide), rmr 79 (by decide), rmr 80 (by decide)]; exact ⟨rfl, rfl, rfl⟩
        · rw [c544 8 (by decide)]; exact a1
        · rw [c5o 43 (by decide), c4m 43 (by decide), k6.2.2.1 4 (by decide)]; exact a2
        · rw [c5o 43 (by decide), c4m 43 (by decide)]; exact k6.2.2.2
        · rw [c5c 29 (by decide)]; exact b1
        · rw [hf 53 (by decide) (by decide), rmf 53 (by decide)]; exact b2
        · rw [hf 51 (by decide) (by decide), rmf 51 (by decide)]; exact b3
        · rw [c5c 30 (by decide)]; exact c1
        · rw [c5c 31 (by decide)]; exact c2
        · rw [hC5, eg_u_eq]; omega
        · rw [c5c 33 (by decide)]; exact c4
        · rw [c5c 34 (by decide)]; exact c5
        · rw [hf 62 (by decide) (by decide), rmf 62 (by decide), d2, hfr.2, k8.2]
        · rw [c5o 44 (by decide), c4m 44 (by decide)]; exact k12.1
        · rw [hf 67 (by decide) (by decide), rmf1 67 (by decide)]; exact k12.2.1
        · rw [c544 10 (by decide)]; exact ca.1
        · rw [hf 68 (by decide) (by decide), rmf 68 (by decide)]; exact ca.2.1
      refine ⟨C5, R6, _, rl1, ql1, fu2, sp1, ev', ?_, hw, by rw [← hL']; exact hqs', k13, k14⟩
      rw [hcl, zb_qs_cl (x := x - 1) hqs' hst (by omega) (by omega) (by omega)]
    have c536 : C5 36 L = 17179869184 + (xh : Int) ∧ C5 36 (L + 1) = 4294967298 ∧ ∀ j, j ≠ L → j ≠ L + 1 → C5 36 j = C 36 j := by
      rw [c5o 36 (by decide)]; exact ⟨u6, u7, u8⟩
    have vpair : zb_VR (zb_vo (zb_Hmk H1 xh o 1 4 ls)) (zb_hP (zb_Hmk H1 xh o 1 4 ls)) B.2.2.2.1 (17179869184 + (xh : Int)) (zb_ov o) := by
      refine Or.inr (Or.inr (Or.inr (Or.inr (Or.inr (Or.inr ⟨xh, ⟨hnew.2.2.2.2.2.2, ?_, ?_⟩, rfl, by rw [hnew.2.2.2.1]⟩)))))
      · rw [hnew.2.2.1]; decide
      · rw [hnew.2.2.1]; decide
    have qvr2 : ∀ j, j < L → zb_VR (zb_vo (zb_Hmk H1 xh o 1 4 ls)) (zb_hP (zb_Hmk H1 xh o 1 4 ls)) B.2.2.2.1 (C 36 (j + 1)) (R 84 j) := fun j hj => zb_vr_tr (qvr1 j hj) (fun g' hg' _ => zb_mk_trg m g' hg')
    have vnil : zb_VR (zb_vo (zb_Hmk H1 xh o 1 4 ls)) (zb_hP (zb_Hmk H1 xh o 1 4 ls)) B.2.2.2.1 4294967298 12884901888 := zb_vr_nil
    rcases zb_tre_back ht hx1 hx2 with ⟨t1, t2, t3⟩ | ⟨y, t1, t2, t3, t4, t5, t6⟩
    · -- the list around it is through
      rw [t3, if_neg (by decide)] at e51b
      obtain ⟨R6, hR6⟩ : ∃ R6, R6 = eg_u (eg_u (eg_u (eg_u (eg_u Rm 84 (L - 1) (zb_ov o)) 45 63 (-1)) 83 (L - 1) (-1)) 45 59 ((L - 1 : Nat) : Int)) 45 63 (zb_ov o) := ⟨_, rfl⟩
      have e118 : fn_193_118 x1 ev 0 (-1) 1 (eg_u (eg_u (eg_u Rm 84 (L - 1) (zb_ov o)) 45 63 (-1)) 83 (L - 1) (-1)) = some (.inl (ev, 1, R6)) := by
        have s59 : (eg_u (eg_u (eg_u Rm 84 (L - 1) (zb_ov o)) 45 63 (-1)) 83 (L - 1) (-1)) 45 59 = (L : Int) := by rw [eg_u_ne (by decide), eg_u_nj (by decide), eg_u_ne (by decide), rmf 59 (by decide)]; exact v2
        have s84 : (eg_u (eg_u (eg_u Rm 84 (L - 1) (zb_ov o)) 45 63 (-1)) 83 (L - 1) (-1)) 84 (L - 1) = zb_ov o := by rw [eg_u_ne (by decide), eg_u_ne (by decide), eg_u_eq]
        unfold fn_193_118
        rw [if_neg (by decide), s59, zb_wi_L1 hL1 (by omega), if_pos (by omega), Int.toNat_natCast, s84, hR6]
      rw [e118] at e51b
      have hlist : B.2.1 49 (x - 1) = 4 := by
        rcases (ht.2 (x - 1) (by omega) (by omega)).2.1.2.2.1 with z | z
        · exact z
        · omega
      have hl4 : B.1 4 (x - 1) = 25769803776 := (zb_vk_tag (ht.2 (x - 1) (by omega) (by omega)).2.1.2.1 hN).2.1.mpr hlist
      refine done R6 (L - 1) ev (zb_qw_in e51b) (by omega) (fun c hc => ?_) (fun f z1 z2 => ?_) ⟨fun j hj => ?_, ?_, fun j hj => ?_, ?_, fun z => ?_, fun j j1 j2 => ?_⟩
      · have : c ≠ 45 ∧ c ≠ 83 ∧ c ≠ 84 := by revert hc; simp
        rw [hR6, eg_u_ne this.1, eg_u_ne this.1, eg_u_ne this.2.1, eg_u_ne this.1, eg_u_ne this.2.2]
      · rw [hR6, eg_u_nj (by omega), eg_u_nj (by omega), eg_u_ne (by decide), eg_u_nj (by omega), eg_u_ne (by decide)]
      · rw [c536.2.2 (j + 1) (by omega) (by omega), hR6, eg_u_ne (by decide), eg_u_ne (by decide), eg_u_ne (by decide), eg_u_ne (by decide), eg_u_nj (by omega), rmr 84 (by decide)]
        exact qvr2 j (by omega)
      · rw [hR6, eg_u_nj (by decide), eg_u_eq]
      · obtain ⟨a, z1, z2, z3, z4, z5⟩ := v3 j (by omega)
        have hne : a ≠ x := fun e' => by rw [e'] at z5; omega
        refine ⟨a, ?_, z2, by omega, by omega, z5⟩
        rw [hR6, eg_u_ne (by decide), eg_u_ne (by decide), eg_u_nj (by omega), eg_u_ne (by decide), eg_u_ne (by decide), rmr 83 (by decide)]; exact z1
      · unfold zb_tvq
        rw [if_pos hl4, show L - 1 + 1 = L by omega, c536.1, hR6, eg_u_eq]; exact vpair
      · exact absurd ⟨hlist, by omega⟩ z
      · rw [show L - 1 + 1 = L by omega] at j2
        by_cases hj : j = L + 1
        · rw [hj]; exact c536.2.1
        · rw [c536.2.2 j (by omega) hj]; exact v6 j j1 (by omega)
    · -- the one ahead
      rw [t5, if_pos (by omega)] at e51b
      obtain ⟨R5, hR5⟩ : ∃ R5, R5 = eg_u (eg_u (eg_u Rm 84 (L - 1) (zb_ov o)) 45 63 (-1)) 83 (L - 1) (y : Int) := ⟨_, rfl⟩
      rw [← hR5] at e51b
      have e118 : fn_193_118 x1 ev 0 (y : Int) 0 R5 = some (.inl ((y : Int), 0, R5)) := by
        unfold fn_193_118; rw [if_pos rfl]
      rw [e118] at e51b
      have s59 : R5 45 59 = (L : Int) := by rw [hR5, eg_u_ne (by decide), eg_u_nj (by decide), eg_u_ne (by decide), rmf 59 (by decide)]; exact v2
      have eo : fn_193_51 x1 0 (y : Int) 0 R5 = some (.inr (.inl ((y : Int), 0, R5))) := by
        unfold fn_193_51
        rw [if_pos rfl, s59, if_pos (by omega)]
      have r5o : ∀ c, c ≠ 45 → c ≠ 83 → c ≠ 84 → R5 c = Rm c := fun c a b e' => by rw [hR5, eg_u_ne b, eg_u_ne a, eg_u_ne e']
      have zb_w5 := zb_gs_w gs5
      have h30 := (ht.2 (x - 1) (by omega) (by omega)).2.1.2.2.2
      obtain ⟨R6, wv, z1, z2, z3, z4, z5, z6, z7, z8, z9⟩ := zb_q_down (x1 := x1) (z := x - 1) ht hN (by omega) (by omega) (x - 1 - y) y R5 rfl (by omega) (by omega) (by omega) (by rw [r5o 49 (by decide) (by decide) (by decide), zb_w5.2.1]) (by rw [r5o 50 (by decide) (by decide) (by decide), zb_w5.2.2.1]) (by rw [r5o 52 (by decide) (by decide) (by decide), zb_w5.2.2.2.2.1]) (by rw [r5o 55 (by decide) (by decide) (by decide), zb_w5.2.2.2.2.2.2.2]) (by rw [s59, t4, ← hL]) (fun _ => by rw [t4, ← hL, hR5, eg_u_eq])
      have hLy : D y - D (d + 2) = L := by rw [t4, ← hL]
      rw [hLy] at z8 z9
      have hDle : L ≤ D (x - 1) - D (d + 2) := by
        by_cases he : x - 1 = y
        · rw [he, hLy]; exact Nat.le_refl _
        · have := (ht.2 y (by omega) (by omega)).1.2.2.1 (x - 1) (by omega) (by omega)
          omega
      have hvkz := (ht.2 (x - 1) (by omega) (by omega)).2.1.2.1
      have htz := (zb_vk_tag hvkz hN).2.1
      have hemp : ¬ (B.2.1 49 (x - 1) = 4 ∧ x - 1 + 1 < E (x - 1)) := fun z => by rcases z3 with z' | z'; exact z' z.1; exact z' z.2
      have hnilL : ∀ j, L + 1 ≤ j → j < 32 → C5 36 j = 4294967298 := fun j j1 j2 => by
        by_cases hj : j = L + 1
        · rw [hj]; exact c536.2.1
        · rw [c536.2.2 j (by omega) hj]; exact v6 j j2 (by omega)
      refine done R6 (D (x - 1) - D (d + 2)) ((x - 1 : Nat) : Int) (by rw [zb_qw_in e51b, zb_qw_out eo]; exact z1) rfl (fun c hc => ?_) (fun f a b => ?_) ⟨fun j hj => ?_, z6, fun j hj => ?_, ?_, fun _ => hnilL _ (by omega) (by omega), fun j j1 j2 => ?_⟩
      · have : c ≠ 45 ∧ c ≠ 83 ∧ c ≠ 84 := by revert hc; simp
        rw [z4 c hc, r5o c this.1 this.2.1 this.2.2]
      · rw [z5 f a b, hR5, eg_u_ne (by decide), eg_u_nj (by omega), eg_u_ne (by decide)]
      · by_cases hjL : j < L
        · rw [(z8 j hjL).2]
          by_cases hj1 : j = L - 1
          · rw [hj1, show L - 1 + 1 = L by omega, c536.1, hR5, eg_u_ne (by decide), eg_u_ne (by decide), eg_u_eq]; exact vpair
          · rw [c536.2.2 (j + 1) (by omega) (by omega), hR5, eg_u_ne (by decide), eg_u_ne (by decide), eg_u_nj (by omega), rmr 84 (by decide)]; exact qvr2 j hjL
        · rw [(z9 j (by omega) hj).1, hnilL (j + 1) (by omega) (by omega)]; exact vnil
      · by_cases hjL : j < L
        · by_cases hj1 : j = L - 1
          · refine ⟨y, ?_, t1, by omega, by omega, by omega⟩
            rw [(z8 j hjL).1, hj1, hR5, eg_u_eq]
          · obtain ⟨a, a1, a2', a3', a4', a5'⟩ := v3 j hjL
            have hne : a ≠ x := fun e' => by rw [e'] at a5'; omega
            refine ⟨a, ?_, a2', by omega, by omega, a5'⟩
            rw [(z8 j hjL).1, hR5, eg_u_nj (by omega), eg_u_ne (by decide), eg_u_ne (by decide), rmr 83 (by decide)]; exact a1
        · exact (z9 j (by omega) hj).2
      · rw [z7]
        unfold zb_tvq
        by_cases h4 : B.1 4 (x - 1) = 25769803776
        · have h49 := htz.mp h4
          rw [if_pos h4, hnilL _ (by omega) (by omega)]
          have : wv = 12884901888 := by
            rcases z2 with ⟨z, _⟩ | ⟨z, _⟩ | ⟨z, _⟩ | ⟨z, _⟩ | ⟨_, z⟩
            · omega
            · omega
            · omega
            · omega
            · exact z
          rw [this]; exact vnil
        · rw [if_neg h4]
          have h49 : B.2.1 49 (x - 1) ≠ 4 := fun z => h4 (htz.mpr z)
          unfold zb_vk at hvkz
          rcases z2 with ⟨z, y1, y2, y3⟩ | ⟨z, y1⟩ | ⟨z, y1⟩ | ⟨z, y1, y2, y3⟩ | ⟨z, _⟩
          · exact Or.inl ⟨by omega, by omega, by omega⟩
          · exact Or.inr (Or.inr (Or.inl ⟨by omega, y1⟩))
          · exact Or.inr (Or.inl ⟨by omega, y1⟩)
          · refine Or.inr (Or.inr (Or.inr (Or.inr (Or.inl ⟨(B.2.1 50 (x - 1)).toNat, by omega, by omega, by omega⟩))))
          · exact absurd z h49
      · rcases j2 with z | z
        · rw [z, c536.2.2 0 (by omega) (by omega)]; exact v6 0 (by omega) (Or.inl rfl)
        · exact hnilL j (by omega) j1
  · right
    refine ⟨C', eg_u R' 45 69 (R' 45 66), H', rl', ql', fu', lk, k1, ?_, k4, by rw [eg_u_eq]; exact k3, k5, zb_gs_congr k6 zb_QC_rfl (zb_QR_45 zb_QR_rfl (by decide)), ⟨k7.1, by rw [eg_u_nj (by decide)]; exact k7.2.1, k7.2.2⟩⟩
    refine zb_qw_end ?_
    rw [e51, k2, Option.bind_some]
    show (if ¬ (-1 : Int) = -1 then _ else some (Sum.inr (Sum.inr ((-1 : Int), eg_u R' 45 69 (R' 45 66))))) = _
    rw [if_neg (fun z => z rfl)]
end QUO
