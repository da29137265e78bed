theorem zb_nd_inj {l : List Nat} (h : l.Nodup) {i j : Nat} (hi : i < l.length) (hj : j < l.length) (e : l[i] = l[j]) : i = j := by
  have hp := List.pairwise_iff_getElem.mp h
  rcases Nat.lt_trichotomy i j with z | z | z
  · exact absurd e (hp i j hi hj z)
  · exact z
  · exact absurd e.symm (hp j i hj hi z)
section FRM
variable {B : zb_Bs} {C R M R1 C1 C3 R3 : eM} {H : zb_Hp} {cn N : Nat} {x o k s i p n b : Nat} {v : Int} {l : List Nat} {lam : Nat → Prop} {scp : Nat → Nat → Prop}
theorem zb_wi_9 {i q : Nat} (hi : i < 2000) (hq : q < 9) : eg_wi (eg_wi ((i : Int) * 9) + (q : Int)) = ((9 * i + q : Nat) : Int) := by
  have : eg_wi ((i : Int) * 9) = ((9 * i : Nat) : Int) := by unfold eg_wi; omega
  rw [this]; clear this; unfold eg_wi; omega
theorem zb_f73 {i q : Nat} (hi : i < 2000) (hq : q < 9) : fn_73 (i : Int) (q : Int) M = some (M 35 (9 * i + q)) := by
  unfold fn_73
  rw [zb_wi_9 hi hq, if_pos (by omega), Int.toNat_natCast]
theorem zb_frl_c (m : zb_MK C R H cn C1 R3 x o k s v l) {e f : Int} (hi : i < 2000) (hp : p + n ≤ 9) (hs : 3 + n ≤ s) (hn : n ≤ 8) : ∀ (t j : Nat) (M : eM), j + t = n → M 17 = C1 17 →
    ∃ M', lp (fun z => fn_121_34 cn (cn / 3 + 1) (i : Int) (p : Int) e f (n : Int) (x : Int) z.1 z.2) ((j : Int), M) = some ((x : Int), M') ∧ (∀ c, c ≠ 16 → M' c = M c) ∧ (∀ q, j ≤ q → q < n → M' 16 (zb_hU H + 3 + q) = M 35 (9 * i + p + q)) ∧ (∀ a, a < zb_hU H + 3 + j ∨ zb_hU H + 3 + n ≤ a → M' 16 a = M 16 a) := by
  intro t
  induction t with
  | zero =>
    intro j M hj h17
    refine ⟨M, lp2_inr ?_, fun _ _ => rfl, fun q h1 h2 => by omega, fun _ _ => rfl⟩
    unfold fn_121_34; rw [if_pos (by omega)]
  | succ t ih =>
    intro j M hj h17
    have hput := zb_mk_put m (M := M) h17 (i := 3 + j) (w := M 35 (9 * i + (p + j))) (by omega)
    obtain ⟨M', g1, g2, g3, g4⟩ := ih (j + 1) (eg_u M 16 (zb_hU H + (3 + j)) (M 35 (9 * i + (p + j)))) (by omega) (by rw [eg_u_ne (by decide)]; exact h17)
    refine ⟨M', ?_, fun c hc => by rw [g2 c hc, eg_u_ne hc], fun q h1 h2 => ?_, fun a ha => ?_⟩
    · rw [← g1]
      refine lp2_inl ?_
      unfold fn_121_34
      rw [if_neg (by omega), zb_wi_add (a := p) (b := j) (by omega), zb_f73 hi (by omega), Option.bind_some, zb_wi_3q (by omega), hput, Option.bind_some, zb_wi_1 (by omega)]
    · by_cases hq : q = j
      · subst hq
        rw [g4 _ (by omega), show zb_hU H + 3 + q = zb_hU H + (3 + q) by omega, eg_u_eq, show 9 * i + (p + q) = 9 * i + p + q by omega]
      · rw [g3 q (by omega) h2, eg_u_ne (by decide)]
    · rw [g4 a (by omega), eg_u_nj (by omega)]
def zb_LPR (R R' : eM) (l : List Nat) (b j n : Nat) : Prop := (∀ c, c ≠ 70 → R' c = R c) ∧ (∀ q, j ≤ q → q < n → R' 70 (l.getD (1 + q) 0) = R 77 (b + q)) ∧ (∀ c, (∀ q, j ≤ q → q < n → c ≠ l.getD (1 + q) 0) → R' 70 c = R 70 c)
theorem zb_lpr_step {R R' : eM} {l : List Nat} {b j n : Nat} (hnd : l.Nodup) (hl : 1 + n ≤ l.length) (hj : j < n) (h : zb_LPR (eg_u R 70 (l.getD (1 + j) 0) (R 77 (b + j))) R' l b (j + 1) n) : zb_LPR R R' l b j n := by
  obtain ⟨h1, h2, h3⟩ := h
  have inj : ∀ a c, a < n → c < n → l.getD (1 + a) 0 = l.getD (1 + c) 0 → a = c := by
    intro a c ha hc e
    rw [zb_gd (by omega), zb_gd (by omega)] at e
    have := zb_nd_inj hnd _ _ e
    omega
  refine ⟨fun c hc => by rw [h1 c hc, eg_u_ne hc], fun q q1 q2 => ?_, fun c hc => ?_⟩
  · by_cases hq : q = j
    · subst hq
      rw [h3 _ (fun q' a b e => ?_), eg_u_eq]
      have := inj _ _ (by omega) (by omega) e
      omega
    · rw [h2 q (by omega) q2, eg_u_ne (by decide)]
  · rw [h3 c (fun q a b => hc q (by omega) b), eg_u_nj (fun z => hc j (Nat.le_refl _) hj z.2)]
theorem zb_frl_r (m : zb_MK C R H cn C1 R3 x o k s v l) {x1 x2 : Int} {t : Nat} (ht : t < 4400) (hb : b + n < 19000) (hn : n ≤ 8) (hnf : 1 + n ≤ zb_nf k s) : ∀ (u j : Nat) (M : eM), j + u = n → M 65 = R3 65 → M 71 = R3 71 → M 81 t = (b : Int) →
    ∃ M', lp (fun z => fn_216_65 x1 x2 (t : Int) (n : Int) (zb_ov o) z.1 z.2) ((j : Int), M) = lp (fun z => fn_216_65 x1 x2 (t : Int) (n : Int) (zb_ov o) z.1 z.2) ((n : Int), M') ∧ zb_LPR M M' l b j n := by
  have q6 := m.2.2.2.2.2.2.2.2.2.1
  have q8 := m.2.2.2.2.2.2.2.2.2.2.2.1
  intro u
  induction u with
  | zero =>
    intro j M hj h65 h71 h81
    have : j = n := by omega
    subst this
    exact ⟨M, rfl, fun _ _ => rfl, fun q a b => by omega, fun _ _ => rfl⟩
  | succ u ih =>
    intro j M hj h65 h71 h81
    have hset := zb_mk_set m (M := M) h65 h71 (i := 1 + j) (w := M 77 (b + j)) (by omega)
    obtain ⟨M', g1, g2⟩ := ih (j + 1) (eg_u M 70 (l.getD (1 + j) 0) (M 77 (b + j))) (by omega) (by rw [eg_u_ne (by decide)]; exact h65) (by rw [eg_u_ne (by decide)]; exact h71) (by rw [eg_u_ne (by decide)]; exact h81)
    refine ⟨M', ?_, zb_lpr_step q8 (by rw [q6]; exact hnf) (by omega) g2⟩
    rw [← g1]
    refine lp2_inl ?_
    unfold fn_216_65
    rw [if_neg (by omega), if_pos (by omega), Int.toNat_natCast, h81, zb_wi_add (by omega), if_pos (by omega), Int.toNat_natCast, zb_wi_1q (by omega), hset, Option.bind_some, zb_wi_1 (by omega)]
theorem zb_wi_b1 {b q : Nat} (h : b + q < 19000) : eg_wi (eg_wi ((b : Int) + 1) + (q : Int)) = ((b + 1 + q : Nat) : Int) := by
  have : eg_wi ((b : Int) + 1) = ((b + 1 : Nat) : Int) := by unfold eg_wi; omega
  rw [this]; clear this; unfold eg_wi; omega
theorem zb_frl_e (m : zb_MK C R H cn C1 R3 x o k s v l) {x1 x7 : Int} (hb : b + 1 + n < 19000) (hn : n ≤ 8) (hnf : 1 + n ≤ zb_nf k s) : ∀ (u j : Nat) (M : eM), j + u = n → M 65 = R3 65 → M 71 = R3 71 →
    ∃ M', lp (fun z => fn_224_42 x1 (b : Int) (n : Int) (zb_ov o) x7 z.1 z.2) ((j : Int), M) = lp (fun z => fn_224_42 x1 (b : Int) (n : Int) (zb_ov o) x7 z.1 z.2) ((n : Int), M') ∧ zb_LPR M M' l (b + 1) j n := by
  have q6 := m.2.2.2.2.2.2.2.2.2.1
  have q8 := m.2.2.2.2.2.2.2.2.2.2.2.1
  intro u
  induction u with
  | zero =>
    intro j M hj h65 h71
    have : j = n := by omega
    subst this
    exact ⟨M, rfl, fun _ _ => rfl, fun q a b => by omega, fun _ _ => rfl⟩
  | succ u ih =>
    intro j M hj h65 h71
    have hset := zb_mk_set m (M := M) h65 h71 (i := 1 + j) (w := M 77 (b + 1 + j)) (by omega)
    obtain ⟨M', g1, g2⟩ := ih (j + 1) (eg_u M 70 (l.getD (1 + j) 0) (M 77 (b + 1 + j))) (by omega) (by rw [eg_u_ne (by decide)]; exact h65) (by rw [eg_u_ne (by decide)]; exact h71)
    refine ⟨M', ?_, zb_lpr_step q8 (by rw [q6]; exact hnf) (by omega) g2⟩
    rw [← g1]
    refine lp2_inl ?_
    unfold fn_224_42
    rw [if_neg (by omega), zb_wi_b1 (by omega), if_pos (by omega), Int.toNat_natCast, zb_wi_1q (by omega), hset, Option.bind_some, zb_wi_1 (by omega)]
theorem zb_f121 (m : zb_MK M R1 H cn C1 R3 x o 4 (3 + n) v l) (h93 : fn_93 cn (cn / 3 + 1) 4 ((3 + n : Nat) : Int) M = some ((x : Int), C1)) {d f : Nat} (hi : i < 2000) (hp : p + n ≤ 9) (hn : n ≤ 8) (h34 : M 34 i = ((p + n : Nat) : Int)) :
    ∃ C3, fn_121 cn (cn / 3 + 1) (i : Int) (p : Int) ((d + 2 : Nat) : Int) (f : Int) M = some ((x : Int), C3) ∧ (∀ c, c ≠ 16 → C3 c = C1 c) ∧ C3 16 (zb_hU H + 1) = ((d + 2 : Nat) : Int) ∧ C3 16 (zb_hU H + 2) = (f : Int) ∧ (∀ q, q < n → C3 16 (zb_hU H + 3 + q) = C1 35 (9 * i + p + q)) ∧ (∀ a, a ≤ zb_hU H ∨ zb_hU H + (3 + n) ≤ a → C3 16 a = C1 16 a) := by
  have hm := m.1
  have a1 : fn_94 cn (cn / 3 + 1) (x : Int) 1 ((d + 2 : Nat) : Int) C1 = _ := zb_mk_put m (M := C1) rfl (i := 1) (w := ((d + 2 : Nat) : Int)) (by omega)
  have a2 : fn_94 cn (cn / 3 + 1) (x : Int) 2 (f : Int) (eg_u C1 16 (zb_hU H + 1) ((d + 2 : Nat) : Int)) = _ := zb_mk_put m (M := eg_u C1 16 (zb_hU H + 1) ((d + 2 : Nat) : Int)) (by rw [eg_u_ne (by decide)]) (i := 2) (w := (f : Int)) (by omega)
  obtain ⟨C3, g1, g2, g3, g4⟩ := zb_frl_c m (e := ((d + 2 : Nat) : Int)) (f := (f : Int)) hi hp (Nat.le_refl _) hn n 0 (eg_u (eg_u C1 16 (zb_hU H + 1) ((d + 2 : Nat) : Int)) 16 (zb_hU H + 2) (f : Int)) (by omega) (by rw [eg_u_ne (by decide), eg_u_ne (by decide)])
  have hw : eg_wi (((p + n : Nat) : Int) - (p : Int)) = (n : Int) := by unfold eg_wi; omega
  refine ⟨C3, ?_, fun c hc => by rw [g2 c hc, eg_u_ne hc, eg_u_ne hc], ?_, ?_, fun q hq => ?_, fun a ha => ?_⟩
  · unfold fn_121
    rw [if_pos (by clear hw; omega), Int.toNat_natCast, h34, hw, zb_wi_3q (by clear hw; omega), h93, Option.bind_some]
    show (if (x : Int) = 0 then some ((x : Int), C1) else _) = _
    rw [if_neg (by clear hw; omega)]
    show (fn_94 cn (cn / 3 + 1) (x : Int) 1 ((d + 2 : Nat) : Int) C1).bind _ = _
    rw [a1, Option.bind_some, a2, Option.bind_some]
    exact g1
  · rw [g4 _ (by omega), eg_u_nj (by omega), eg_u_eq]
  · rw [g4 _ (by omega), eg_u_eq]
  · rw [g3 q (by omega) hq, eg_u_ne (by decide), eg_u_ne (by decide)]
  · rw [g4 a (by omega), eg_u_nj (by omega), eg_u_nj (by omega)]
theorem zb_frm_hr {d f : Nat} (hr : zb_HR M R1 H cn N lam scp) (m : zb_MK M R1 H cn C1 R3 x o 4 (3 + n) (zb_frm H f) l) (hn : n ≤ 8) (hsc : scp d n) (hf : zb_isF H f) {C3 R5 : eM} (c1 : ∀ c, c ≠ 16 → C3 c = C1 c) (c2 : C3 16 (zb_hU H + 1) = ((d + 2 : Nat) : Int)) (c3 : C3 16 (zb_hU H + 2) = (f : Int)) (c4 : ∀ q, q < n → C3 16 (zb_hU H + 3 + q) = C1 35 (9 * i + p + q)) (c5 : ∀ a, a ≤ zb_hU H ∨ zb_hU H + (3 + n) ≤ a → C3 16 a = C1 16 a)
    (r1 : zb_LPR (eg_u R3 64 o (d : Int)) R5 l b 0 n) (hv : ∀ q, q < n → zb_VR (zb_vo H) (zb_hP H) N (M 35 (9 * i + p + q)) (R1 77 (b + q))) : zb_HR C3 R5 (zb_Hmk H x o 4 (3 + n) l) cn N lam scp := by
  have hm := m
  obtain ⟨⟨n1, n2, n3, n4, n5, n6⟩, _, _, ⟨p1, p2, p3, p4, p5, p6, p7⟩, ⟨q1, q2, q3, q4, q5, q6, q7, q8, q9, q10, q11⟩⟩ := hm
  obtain ⟨l1, l2, l3⟩ := r1
  have hnew := zb_mk_new (H := H) (x := x) (o := o) (k := 4) (s := 3 + n) (l := l)
  have hnf : zb_nf 4 (3 + n) = 1 + n := by simp [zb_nf]; omega
  have hll : l.length = 1 + n := by rw [q6, hnf]
  have inl : ∀ q, q < 1 + n → l.getD q 0 ∈ l := fun q hq => by rw [zb_gd (by omega)]; exact List.getElem_mem _
  refine zb_hr_made hr (by unfold zb_szk; omega) m (fun f hf => by rw [c1 15 (by decide)]) (fun c hc => c1 c (by revert hc; simp; omega)) c5 (fun f hf => by rw [l1 45 (by decide), eg_u_ne (by decide)]) (fun c hc => by rw [l1 c (by revert hc; simp; omega), eg_u_ne (by revert hc; simp; omega)]) (fun q hq => by rw [l1 64 (by decide), eg_u_nj (fun z => hq z.2)]) (fun c hc => ?_) (fun j hj => ?_) (fun z => by omega) (fun _ => ⟨d, ?_, by rw [c2]; omega, by rw [l1 64 (by decide), eg_u_eq]⟩) (fun z => by omega)
  · rw [l3 c (fun q _ hq e => hc (by rw [e]; exact inl _ (by omega))), eg_u_ne (by decide)]
  · rw [hnf] at hj
    by_cases hj0 : j = 0
    · subst hj0
      refine ⟨fun _ => ?_, fun z => absurd (Or.inl ⟨Or.inr hnew.2.2.1, rfl⟩) z⟩
      have ec : zb_cf C3 (zb_Hmk H x o 4 (3 + n) l) x 0 = zb_lv (f : Int) := by
        unfold zb_cf; rw [hnew.1, hnew.2.2.1, if_pos (Or.inl ⟨Or.inr rfl, rfl⟩)]
        show zb_lv (C3 16 (zb_hU H + 2)) = _
        rw [c3]
      have er : zb_rf R5 (zb_Hmk H x o 4 (3 + n) l) x 0 = zb_frm H f := by
        have h9 : ∀ q, 0 ≤ q → q < n → l.getD 0 0 ≠ l.getD (1 + q) 0 := by
          intro q _ hq e
          rw [zb_gd (by omega), zb_gd (by omega)] at e
          have := zb_nd_inj q8 _ _ e
          omega
        unfold zb_rf; rw [hnew.2.2.2.1, hnew.2.2.2.2.2.1, l3 _ h9, eg_u_ne (by decide), q4 _ (inl 0 (by omega))]
      rw [ec, er]
      exact zb_ln_frm hr n1 n5 (Or.inr rfl) hf
    · have hnl : ¬ zb_isl (zb_hK (zb_Hmk H x o 4 (3 + n) l) x) j := by rw [hnew.2.2.1]; intro z; rcases z with ⟨_, z⟩ | z | ⟨z, _⟩ <;> omega
      refine ⟨fun z => absurd z hnl, fun _ => ?_⟩
      obtain ⟨j', hj'⟩ : ∃ j', j = 1 + j' := ⟨j - 1, by omega⟩
      subst hj'
      have ec : zb_cf C3 (zb_Hmk H x o 4 (3 + n) l) x (1 + j') = M 35 (9 * i + p + j') := by
        unfold zb_cf; rw [if_neg hnl, hnew.1, hnew.2.2.1]
        show C3 16 (zb_hU H + (2 + (1 + j'))) = _
        rw [show zb_hU H + (2 + (1 + j')) = zb_hU H + 3 + j' by omega, c4 j' (by omega), p7 35 (by decide)]
      have er : zb_rf R5 (zb_Hmk H x o 4 (3 + n) l) x (1 + j') = R1 77 (b + j') := by
        unfold zb_rf; rw [hnew.2.2.2.1, hnew.2.2.2.2.2.1, l2 j' (by omega) (by omega), eg_u_ne (by decide), q10 77 (by decide)]
      rw [ec, er]
      exact zb_vr_tr (hv j' (by omega)) (fun g hg _ => zb_mk_trg m g hg)
  · rw [show 3 + n - 3 = n by omega]; exact hsc
end FRM
section LETS
variable {B : zb_Bs} {Q : zb_Pq} {Z sp0 zb_sp : Nat} {C R C' R' M : eM} {H H' : zb_Hp} {rl ql : List (Nat × Nat)} {fd fu : Nat} {st l : List zb_Rec} {r r' : zb_Rec}
def zb_keepC (C : eM) (i q : Nat) (v : Int) : eM := eg_u (eg_u C 35 (9 * i + q) v) 34 i ((q + 1 : Nat) : Int)
def zb_holdR (R : eM) (b : Nat) (w : Int) : eM := eg_u (eg_u R 77 b w) 45 51 ((b + 1 : Nat) : Int)
theorem zb_keep_c119 {i q : Nat} {v : Int} (hi : i < 2000) (hq : q < 9) (h : C 34 i = (q : Int)) : fn_119 (i : Int) v C = some (zb_keepC C i q v) := by
  unfold fn_119 zb_keepC
  rw [if_pos (by omega), Int.toNat_natCast, h, if_neg (by omega), zb_wi_9 hi hq, if_pos (by omega), Int.toNat_natCast, zb_wi_1 (by omega)]
theorem zb_hold_r {b : Nat} {w : Int} (hb : b < 19000) (h : R 45 51 = (b : Int)) : fn_217 w R = some (zb_holdR R b w) := by
  unfold fn_217 zb_holdR
  rw [h, if_pos (by omega), Int.toNat_natCast, zb_wi_1 (by omega)]
theorem zb_sx_hold {v w : Int} (h : zb_SX B C R H rl ql fd (r :: l) fu) (hq : zb_rQ r < 9) (hv : zb_VR (zb_vo H) (zb_hP H) B.2.2.2.1 v w) : zb_SX B (zb_keepC C (l.length + 1) (zb_rQ r) v) (zb_holdR R (zb_bb l + zb_rQ r) w) H rl ql fd ((zb_rK r, zb_rD r, zb_rA r, zb_rY r, zb_rQ r + 1, zb_rF r) :: l) fu := by
  obtain ⟨⟨g, s, c, fl, t1, t2, t3⟩, f, ca, dp⟩ := h
  have low : zb_LOW C (zb_keepC C (l.length + 1) (zb_rQ r) v) R (zb_holdR R (zb_bb l + zb_rQ r) w) l := by
    unfold zb_keepC zb_holdR
    refine ⟨fun c i h1 h2 h3 => ?_, fun i hi => ?_, fun c t h1 h2 => ?_, fun b hb => ?_⟩
    · have : c ≠ 35 := fun e => by rw [e] at h1; revert h1; decide
      rw [eg_u_nj (by omega), eg_u_nj (by omega)]
    · rw [eg_u_ne (by decide), eg_u_nj (by omega)]
    · have : c ≠ 45 ∧ c ≠ 77 := by revert h1; simp; omega
      rw [eg_u_ne this.1, eg_u_ne this.2]
    · rw [eg_u_ne (by decide), eg_u_nj (by omega)]
  have c' : ∀ c, c ≠ 34 → c ≠ 35 → zb_keepC C (l.length + 1) (zb_rQ r) v c = C c := fun c a b => by unfold zb_keepC; rw [eg_u_ne a, eg_u_ne b]
  have r' : ∀ c, c ≠ 45 → c ≠ 77 → zb_holdR R (zb_bb l + zb_rQ r) w c = R c := fun c a b => by unfold zb_holdR; rw [eg_u_ne a, eg_u_ne b]
  have rf' : ∀ f, f ≠ 51 → zb_holdR R (zb_bb l + zb_rQ r) w 45 f = R 45 f := fun f a => by unfold zb_holdR; rw [eg_u_nj (by omega), eg_u_ne (by decide)]
  have s1 := s.1
  refine ⟨zb_sc_top (r' := (zb_rK r, zb_rD r, zb_rA r, zb_rY r, zb_rQ r + 1, zb_rF r)) ⟨g, s, c, fl, t1, t2, t3⟩ (zb_QC_u (zb_QC_u zb_QC_rfl (by decide)) (by decide)) (zb_QR_45 (zb_QR_u zb_QR_rfl (by decide)) (by decide)) low (by rw [c' 44 (by decide) (by decide)]; exact fl.1.1) (c' 43 (by decide) (by decide)) (by rw [c' 15 (by decide) (by decide)]; exact ⟨fl.1.2.2.2.1, fl.1.2.2.2.2⟩) (c' 36 (by decide) (by decide)) (fun f hf => rf' f (fun e => by rw [e] at hf; revert hf; decide)) ⟨⟨?_, ?_, ?_, s1.1.2.2.2⟩, ?_, fun j hj => ?_, fun hk => ?_⟩ ?_ ⟨?_, ?_, ?_⟩, ?_, ?_, dp⟩
  · rw [c' 33 (by decide) (by decide)]; exact s1.1.1
  · unfold zb_keepC; rw [eg_u_eq]; rfl
  · show zb_rQ r + 1 ≤ 9; omega
  · rw [r' 82 (by decide) (by decide), r' 81 (by decide) (by decide)]; exact s1.2.1
  · have hj' : j < zb_rQ r + 1 := hj
    by_cases he : j = zb_rQ r
    · subst he
      unfold zb_keepC zb_holdR
      rw [eg_u_ne (by decide), eg_u_eq, eg_u_ne (by decide), eg_u_eq]; exact hv
    · have := s1.2.2.1 j (by omega)
      unfold zb_keepC zb_holdR
      rw [eg_u_ne (by decide), eg_u_nj (by omega), eg_u_ne (by decide), eg_u_nj (by omega)]; exact this
  · rw [r' 82 (by decide) (by decide), r' 81 (by decide) (by decide)]; exact s1.2.2.2 hk
  · have c1 := c.1
    unfold zb_CTR at c1 ⊢
    rw [c' 30 (by decide) (by decide), c' 31 (by decide) (by decide), c' 32 (by decide) (by decide), r' 78 (by decide) (by decide), r' 79 (by decide) (by decide), r' 80 (by decide) (by decide)]
    exact c1
  · rw [c' 29 (by decide) (by decide)]; exact t1
  · rw [rf' 53 (by decide)]; exact t2
  · unfold zb_holdR; rw [eg_u_eq]; show ((zb_bb l + zb_rQ r + 1 : Nat) : Int) = ((zb_bb l + (zb_rQ r + 1) : Nat) : Int); omega
  · exact ⟨by rw [c' 44 (by decide) (by decide)]; exact f.1, by rw [rf' 67 (by decide)]; exact f.2.1, f.2.2⟩
  · exact ⟨by rw [c' 44 (by decide) (by decide)]; exact ca.1, by rw [rf' 68 (by decide)]; exact ca.2.1, ca.2.2.1, zb_bud_le ca.2.2.2 (rf' 42 (by decide)) (by rw [rf' 67 (by decide)]; exact Int.le_refl _)⟩
theorem zb_f121_no {cn i p n us hs9 : Nat} {ord fl9 : List Nat} {st9 sz9 kd9 : Nat → Nat} {e f : Int} (hH : zb_HC M cn ord fl9 hs9 us st9 sz9 kd9) (hi : i < 2000) (hp : p + n ≤ 9) (h34 : M 34 i = ((p + n : Nat) : Int)) (hno : ¬ us + (3 + n) ≤ cn) : fn_121 cn (cn / 3 + 1) (i : Int) (p : Int) e f M = some (0, eg_u M 15 11 1) := by
  have hw : eg_wi (((p + n : Nat) : Int) - (p : Int)) = (n : Int) := by unfold eg_wi; omega
  have hm := zb_make_no hH (k := 4) hno
  unfold fn_121
  rw [if_pos (by clear hw; omega), Int.toNat_natCast, h34, hw, zb_wi_3q (by clear hw; omega), hm, Option.bind_some]
  show (if (0 : Int) = 0 then some ((0 : Int), eg_u M 15 11 1) else _) = _
  rw [if_pos rfl]
set_option maxHeartbeats 4000000 in
theorem zb_let_end (ev : zb_EVOK B Q Z) {a' : Int} {bx : Int} (h : zb_SX B C R H rl ql fd (r :: l) fu) (hk : zb_rK r = 5) (hy : zb_rY r = -1) (hlx : zb_LETX B.1 B.2.1 B.2.2.2.1 B.2.2.2.2 (zb_rD r)) (hn : B.2.1 55 (zb_rD r + 2) = (zb_rQ r : Int)) (hl : zb_RUNS B l) (hZ9 : Z ≤ 999990) (h0 : sp0 ≤ zb_sp) (hp : zb_sp + 20 * fu + 5 * (l.length + 1) ≤ Z + 2) :
    (∃ R', fn_216_22 (zb_rD r : Int) bx (zb_tt l : Int) R = some (2, R') ∧ R' 45 53 = ((zb_tt l + 1 : Nat) : Int) ∧ R' 78 (zb_tt l) ≠ 5 ∧ zb_RESV B Q Z sp0 (zb_AF B.2.2.1 Q (zb_sp : Int) (eg_u (eg_u C 32 (l.length + 1) a') 30 (l.length + 1) 11)) (fn_184 (R' 80 (zb_tt l)) (R' 82 (zb_tt l)) R'))
    ∨ (∃ R', fn_216_22 (zb_rD r : Int) bx (zb_tt l : Int) R = some (-1, R') ∧ zb_RESV B Q Z sp0 (zb_AF B.2.2.1 Q (zb_sp : Int) (eg_u (eg_u C 32 (l.length + 1) a') 30 (l.length + 1) 11)) (some (-1, R'))) := by
  obtain ⟨n, x1, y1, y2, y3, y4, y5, y6, y7, y8, y9⟩ := hlx
  have hx1 : zb_rD r + 2 < x1 := by
    rcases y9 with ⟨_, _, z⟩ | ⟨_, z⟩
    · omega
    · obtain ⟨e, el, dp, g1, g2, g3, g4, g5, _⟩ := zb_kb_at z
      omega
  clear y9
  have hnq : n = zb_rQ r := by omega
  subst hnq
  obtain ⟨⟨i1, i2, i3, i4, i5⟩, ⟨a1, a2, a3, a4, a5⟩, ⟨b1, b2, b3, b4, b5⟩, b6⟩ := zb_top_at h
  obtain ⟨hN, _, _⟩ := zb_gs_N h.1.1
  have w := zb_gs_w h.1.1
  have h53 := b6 (by omega)
  have h79 := b2 (by omega)
  rw [hy] at b3
  have fl := h.1.2.2.2.1
  have h51 := h.1.2.2.2.2.2.2
  have hbb : zb_bb (r :: l) = zb_bb l + zb_rQ r := rfl
  rw [hbb] at h51
  have hbl : zb_bb (r :: l) ≤ 9 * (l.length + 1) := zb_bb_le h.1.2.1
  rw [hbb] at hbl
  obtain ⟨C2, hC2⟩ : ∃ C2, C2 = eg_u (eg_u C 32 (l.length + 1) a') 30 (l.length + 1) 11 := ⟨_, rfl⟩
  rw [← hC2]
  have zb_c2o : ∀ c, c ≠ 30 → c ≠ 32 → C2 c = C c := fun c p q => by rw [hC2, eg_u_ne p, eg_u_ne q]
  have c30 : C2 30 (l.length + 1) = 11 := by rw [hC2, eg_u_eq]
  have qc2 : zb_QC C C2 := by rw [hC2]; exact zb_QC_u (zb_QC_u zb_QC_rfl (by decide)) (by decide)
  have g2 : zb_GS B C2 R H rl ql fd := zb_gs_congr h.1.1 qc2 zb_QR_rfl
  have s2 : zb_STR C2 R H B.2.2.2.1 (r :: l) := zb_str_tr h.1.2.1 (fun i _ _ => by rw [zb_c2o 33 (by decide) (by decide), zb_c2o 34 (by decide) (by decide), zb_c2o 35 (by decide) (by decide)]; exact ⟨rfl, rfl, fun _ _ => rfl⟩) (fun _ _ => ⟨rfl, rfl⟩) (fun _ _ => rfl) (fun g hg _ => zb_trg_rfl hg)
  have hfr := h.1.2.1.1.1.2.2.2
  rw [zb_af_go (m := C2) (by omega) (by rw [zb_c2o 44 (by decide) (by decide)]; exact i4) (by rw [zb_c2o 15 (by decide) (by decide)]; exact fl.1.2.2.2.1) (by rw [zb_c2o 43 (by decide) (by decide)]; exact fl.1.2.2.1)]
  have hq9 : zb_rQ r ≤ 8 := y4
  have e216 : fn_216_22 (zb_rD r : Int) bx (zb_tt l : Int) R = ((fn_195 (((4 : Nat) : Int) - 1) ((zb_nf 4 (3 + zb_rQ r) : Nat) : Int) (zb_frm H (zb_rF r)) R).bind fun r7 =>
      if ¬ r7.1 = (-1) then
        (fn_187 r7.1 r7.2).bind fun r11 =>
        if 0 ≤ r11 ∧ r11 < 6700 then
        lp (fun z => fn_216_65 (zb_rD r : Int) bx (zb_tt l : Int) (zb_rQ r : Int) r7.1 z.1 z.2) (0, eg_u r7.2 64 (r11).toNat (zb_rD r : Int))
        else none
      else
        some (-1, eg_u r7.2 45 69 (r7.2 45 66))) := by
    have hnf : ((zb_nf 4 (3 + zb_rQ r) : Nat) : Int) = ((1 + zb_rQ r : Nat) : Int) := by simp [zb_nf]; omega
    have hw : eg_wi (((zb_bb l + zb_rQ r : Nat) : Int) - (zb_bb l : Int)) = (zb_rQ r : Int) := by unfold eg_wi; omega
    unfold fn_216_22 fn_185
    rw [if_pos (by clear hw; omega), Int.toNat_natCast, b3, if_pos (by decide), h51, b4, hw, zb_wi_1q (by clear hw; omega), b5, hnf]
    rfl
  rw [e216]
  have hstep : ∀ (M R' : eM) (H' : zb_Hp) (rl' ql' : List (Nat × Nat)) (sp' : Nat), zb_GS B M R' H' rl' ql' fd → zb_KEP C2 M → M 15 11 = 0 → ¬ zb_hU H' + (3 + zb_rQ r) ≤ B.2.2.1 → sp' < 1000000 → (∀ g, g ∈ zb_hO H → zb_RTS C2 (r :: l).length g → zb_TRg H H' g) → (∀ h i, h ∈ zb_hO H' → zb_hK H h ≤ 4 → i < zb_hZ H h → zb_cl M H' h i = zb_cl C2 H h i) → zb_CL B.2.2.1 Q (sp' : Int) M = zb_AF B.2.2.1 Q (sp' : Int) (eg_u M 15 11 1) := by
    intro M R' H' rl' ql' sp' gM kM h11 hno hs' _ _
    obtain ⟨⟨fl', hs9, hH⟩, _⟩ := zb_gs_hr gM
    have m30 : M 30 (l.length + 1) = 11 := by rw [kM.1 30 (by decide)]; exact c30
    have m34 : M 34 (l.length + 1) = ((0 + zb_rQ r : Nat) : Int) := by rw [kM.1 34 (by decide), zb_c2o 34 (by decide) (by decide), Nat.zero_add]; exact a5
    refine zb_cl_res (top := l.length + 1) (by rw [kM.2.1 8 (by decide), zb_c2o 44 (by decide) (by decide)]; exact i4) hs' (by rw [kM.1 29 (by decide), zb_c2o 29 (by decide) (by decide)]; exact i3) (by omega) (zb_f72_no (k := 11) (by omega) m30 (by decide)) ?_
    rw [zb_d104_11 (by omega) m30]
    unfold fn_120
    have := zb_f121_no (e := eg_wi ((M 31 (l.length + 1)) + 2)) (f := M 33 (l.length + 1)) (p := 0) (i := l.length + 1) hH (by omega) (by omega) m34 hno
    rw [if_pos (by omega), Int.toNat_natCast]
    show ((fn_121 B.2.2.1 (B.2.2.1 / 3 + 1) ((l.length + 1 : Nat) : Int) ((0 : Nat) : Int) _ _ M).bind _) = _
    rw [this, Option.bind_some]
    show (if (0 : Int) = 0 then some (eg_u M 15 11 1) else _) = _
    rw [if_pos rfl]
  rcases zb_room (Q := Q) (zb_sp := zb_sp + 1) (k := 4) (s := 3 + zb_rQ r) (v := zb_frm H (zb_rF r)) (e := 0) (f := 0) (bn := 0) g2 s2 (by simp only [List.length_cons]; omega) (by omega) (by rw [zb_c2o 29 (by decide) (by decide)]; exact i3) (fun z => by omega) (Or.inl rfl) (fun z => rfl) h.1.2.2.2.2.2.1 h.1.2.2.2.2.2.2 (by rw [fl.2.1.2.1]; rfl)
      (zb_qb_none (fun i hi => by rw [zb_c2o 36 (by decide) (by decide)]; exact fl.2.2 i hi) fl.2.1.1 fl.2.1.2.2) ⟨by rw [zb_c2o 44 (by decide) (by decide)]; exact i5, h.2.1.2.1, h.2.1.2.2⟩ (by rw [zb_c2o 44 (by decide) (by decide)]; exact i4) (by rw [zb_c2o 15 (by decide) (by decide)]; exact fl.1.2.2.2.1) (by rw [zb_c2o 15 (by decide) (by decide)]; exact fl.1.2.2.2.2) (by rw [zb_c2o 43 (by decide) (by decide)]; exact fl.1.2.2.1) (by unfold zb_szk; omega) (by omega) hstep with
    ⟨M, R1, H1, rl1, ql1, fu1, sp1, k1, k2, k3, k4, k5, k6, k7, k8, k9, k10, k11, k12, k13, k14, k15, k16⟩ | ⟨C', R', H', rl', ql', fu', lk, k1, k2, k3, k4, k5, k6, k7⟩
  · left
    have rt := k5.1
    have e82 : R1 82 (zb_tt l) = zb_frm H (zb_rF r) := by rw [k7.2 82 (by decide)]; exact b5
    have efr : zb_frm H1 (zb_rF r) = zb_frm H (zb_rF r) := by rw [← e82]; exact rt.2.1.1.symm
    have hf1 : zb_isF H1 (zb_rF r) := rt.1.2.2.2
    obtain ⟨x, o, C1, R3, ls, m1, m2, m⟩ := zb_hr_make (zb_gs_hr k4) (k := 4) (s := 3 + zb_rQ r) (by unfold zb_szk; omega) k3 (zb_frm H (zb_rF r))
    have hm := m
    obtain ⟨⟨n1, n2, n3, n4, n5, n6⟩, _, _, ⟨p1, p2, p3, p4, p5, p6, p7⟩, ⟨q1, q2, q3, q4, q5, q6, q7, q8, q9, q10, q11⟩⟩ := hm
    have hM := k6.1
    have m30 : M 30 (l.length + 1) = 11 := by rw [hM 30 (by decide)]; exact c30
    have m34 : M 34 (l.length + 1) = ((0 + zb_rQ r : Nat) : Int) := by rw [hM 34 (by decide), zb_c2o 34 (by decide) (by decide), Nat.zero_add]; exact a5
    have m31 : M 31 (l.length + 1) = (zb_rD r : Int) := by rw [hM 31 (by decide), zb_c2o 31 (by decide) (by decide)]; exact a2
    have m33 : M 33 (l.length + 1) = (zb_rF r : Int) := by rw [hM 33 (by decide), zb_c2o 33 (by decide) (by decide)]; exact a4
    have m29 : M 29 0 = ((l.length + 1 : Nat) : Int) := by rw [hM 29 (by decide), zb_c2o 29 (by decide) (by decide)]; exact i3
    obtain ⟨C3, v1, v2, v3, v4, v5, v6⟩ := zb_f121 (i := l.length + 1) (p := 0) (d := zb_rD r) (f := zb_rF r) m m1 (by omega) (by omega) hq9 m34
    obtain ⟨C5, hC5⟩ : ∃ C5, C5 = eg_u (eg_u (eg_u (eg_u (eg_u C3 34 (l.length + 1) 0) 33 (l.length + 1) (x : Int)) 30 (l.length + 1) 6) 32 (l.length + 1) ((zb_rD r + 2 : Nat) : Int)) 32 (l.length + 1) (x1 : Int) := ⟨_, rfl⟩
    have h120 : fn_120 B.2.2.1 (B.2.2.1 / 3 + 1) ((l.length + 1 : Nat) : Int) M = some (eg_u (eg_u (eg_u (eg_u C3 34 (l.length + 1) 0) 33 (l.length + 1) (x : Int)) 30 (l.length + 1) 6) 32 (l.length + 1) ((zb_rD r + 2 : Nat) : Int)) := by
      unfold fn_120
      rw [if_pos (by omega), Int.toNat_natCast, m31, m33, zb_wi_p2 (by omega)]
      show ((fn_121 B.2.2.1 (B.2.2.1 / 3 + 1) ((l.length + 1 : Nat) : Int) ((0 : Nat) : Int) ((zb_rD r + 2 : Nat) : Int) (zb_rF r : Int) M).bind _) = _
      rw [v1, Option.bind_some]
      show (if (x : Int) = 0 then some C3 else _) = _
      rw [if_neg (by omega)]
    have hcl : zb_CL B.2.2.1 Q ((zb_sp + 1 : Nat) : Int) C2 = zb_AF B.2.2.1 Q (sp1 : Int) (eg_u (eg_u (eg_u (eg_u C3 34 (l.length + 1) 0) 33 (l.length + 1) (x : Int)) 30 (l.length + 1) 6) 32 (l.length + 1) ((zb_rD r + 2 : Nat) : Int)) := by
      rw [k1]
      refine zb_cl_res (top := l.length + 1) (by rw [k6.2.1 8 (by decide), zb_c2o 44 (by decide) (by decide)]; exact i4) (by omega) m29 (by omega) (zb_f72_no (k := 11) (by omega) m30 (by decide)) ?_
      rw [zb_d104_11 (by omega) m30]; exact h120
    obtain ⟨C4, hC4⟩ : ∃ C4, C4 = eg_u (eg_u (eg_u (eg_u C3 34 (l.length + 1) 0) 33 (l.length + 1) (x : Int)) 30 (l.length + 1) 6) 32 (l.length + 1) ((zb_rD r + 2 : Nat) : Int) := ⟨_, rfl⟩
    rw [← hC4] at hcl hC5
    have c4o : ∀ c, c ≠ 16 → c ≠ 30 → c ≠ 32 → c ≠ 33 → c ≠ 34 → C4 c = C1 c := fun c a b e f g => by rw [hC4, eg_u_ne e, eg_u_ne b, eg_u_ne f, eg_u_ne g, v2 c a]
    have c4m : ∀ c, c ∈ ([29, 31, 35, 36, 43, 44] : List Nat) → C4 c = M c := fun c hc => by rw [c4o c (by revert hc; simp; omega) (by revert hc; simp; omega) (by revert hc; simp; omega) (by revert hc; simp; omega) (by revert hc; simp; omega), p7 c (by revert hc; simp; omega)]
    have f44 : ∀ f, f ≠ 7 → C4 44 f = C 44 f := fun f hf => by rw [c4m 44 (by decide), k6.2.1 f hf, zb_c2o 44 (by decide) (by decide)]
    have c15 : C4 15 11 = 0 ∧ C4 15 12 = 0 := by rw [c4o 15 (by decide) (by decide) (by decide) (by decide) (by decide)]; exact ⟨by rw [p6]; exact k11, p4⟩
    have c43 : C4 43 4 = 0 ∧ C4 43 5 = 0 := by rw [c4m 43 (by decide)]; exact ⟨by rw [k6.2.2.1 4 (by decide), zb_c2o 43 (by decide) (by decide)]; exact fl.1.2.1, k6.2.2.2⟩
    rw [zb_af_go (m := C4) (by omega) (by rw [f44 8 (by decide)]; exact i4) c15.1 c43.2] at hcl
    obtain ⟨e, ed, dp, z1, z2, z3, z4, z5, z6, z7, z8, z9, z10, z11⟩ := zb_kx_at y8
    have c5r : C4 5 = B.1 5 := by rw [c4o 5 (by decide) (by decide) (by decide) (by decide) (by decide), p7 5 (by decide), (zb_gs_w k4).1.2.1]
    have o30 : C4 30 (l.length + 1) = 6 := by rw [hC4, eg_u_ne (by decide), eg_u_eq]
    have o31 : C4 31 (l.length + 1) = (zb_rD r : Int) := by rw [c4m 31 (by decide)]; exact m31
    have o32 : C4 32 (l.length + 1) = ((zb_rD r + 2 : Nat) : Int) := by rw [hC4, eg_u_eq]
    have o33 : C4 33 (l.length + 1) = (x : Int) := by rw [hC4, eg_u_ne (by decide), eg_u_ne (by decide), eg_u_eq]
    have o29 : C4 29 0 = ((l.length + 1 : Nat) : Int) := by rw [c4m 29 (by decide)]; exact m29
    have h130 : fn_130 B.2.2.1 (B.2.2.1 / 3 + 1) ((l.length + 1 : Nat) : Int) C4 = fn_111 B.2.2.1 (B.2.2.1 / 3 + 1) (x1 : Int) (x : Int) C5 := by
      unfold fn_130
      rw [if_pos (by omega), Int.toNat_natCast, o32, o31, if_pos (by omega), if_pos (by omega), Int.toNat_natCast, Int.toNat_natCast, c5r, y7, z2, if_neg (by omega), zb_bsome, zb_ev_in (by omega), o33, hC5]
    have hcl2 : zb_CL B.2.2.1 Q ((zb_sp + 1 : Nat) : Int) C2 = (fn_111 B.2.2.1 (B.2.2.1 / 3 + 1) (x1 : Int) (x : Int) C5).bind (zb_AF B.2.2.1 Q ((sp1 + 1 : Nat) : Int)) := by
      rw [hcl, zb_cl_res' (by rw [f44 8 (by decide)]; exact i4) (by omega) o29 (by omega) (zb_f72_no (by omega) o30 (by decide)), zb_d104_6 (by omega) o30, h130]
    have r3c : ∀ c, c ∉ ([45, 62, 63, 64, 65, 66, 68, 70, 71] : List Nat) → (eg_u R3 64 o (zb_rD r : Int)) c = R1 c := fun c hc => by
      rw [eg_u_ne (fun e => hc (by rw [e]; decide)), q10 c (fun z => hc (by revert z; simp; omega))]
    obtain ⟨R5, w1, w2⟩ := zb_frl_r (x1 := (zb_rD r : Int)) (x2 := bx) (t := zb_tt l) (b := zb_bb l) (n := zb_rQ r) m (by omega) (by omega) hq9 (by simp [zb_nf]; omega) (zb_rQ r) 0 (eg_u R3 64 o (zb_rD r : Int)) (by omega) (by rw [eg_u_ne (by decide)]) (by rw [eg_u_ne (by decide)]) (by rw [r3c 81 (by decide), k7.2 81 (by decide)]; exact b4)
    obtain ⟨w3, w4, zb_w5⟩ := w2
    have r5c : ∀ c, c ∉ ([45, 62, 63, 64, 65, 66, 68, 70, 71] : List Nat) → R5 c = R1 c := fun c hc => by rw [w3 c (fun e => hc (by rw [e]; decide)), r3c c hc]
    have r5f : ∀ f, f ∉ ([28, 29, 38, 41] : List Nat) → R5 45 f = R1 45 f := fun f hf => by rw [w3 45 (by decide), eg_u_ne (by decide), q11 f (fun e => hf (by rw [e]; decide)) (fun e => hf (by rw [e]; decide)) (fun e => hf (by rw [e]; decide)) (fun e => hf (by rw [e]; decide))]
    have hr3 := zb_frm_hr (i := l.length + 1) (p := 0) (b := zb_bb l) (d := zb_rD r) (f := zb_rF r) (C3 := C3) (R5 := R5) (zb_gs_hr k4) (by rw [efr]; exact m) hq9 y5 hf1 v2 v3 v4 v5 v6 ⟨w3, w4, zb_w5⟩ (fun q hq => rt.2.2.1 q hq)
    have gs3 : zb_GS B C3 R5 (zb_Hmk H1 x o 4 (3 + zb_rQ r) ls) rl1 ql1 fd := by
      refine zb_gs_tr k4 hr3 (zb_mk_trg m) (zb_mk_cl (zb_gs_hr k4) m (fun j hj => v6 j (by omega))) (zb_mk_num (zb_gs_num k4) m (v2 20 (by decide)) (by rw [v2 15 (by decide)]) (by rw [v2 44 (by decide), p7 44 (by decide)]; exact Int.le_refl _)) (fun c hc h2 => ?_) (fun c hc h2 => r5c c (fun z => h2 (by revert z; simp; omega))) (fun f hf h2 => r5f f (fun z => h2 (by revert z; simp; omega)))
      rw [v2 c (fun e => h2 (by rw [e]; decide)), p7 c h2]
    obtain ⟨R6, hR6⟩ : ∃ R6, R6 = eg_u (eg_u (eg_u (eg_u R5 45 51 (zb_bb l : Int)) 78 (zb_tt l) 6) 82 (zb_tt l) (zb_ov o)) 80 (zb_tt l) (x1 : Int) := ⟨_, rfl⟩
    have s81 : R5 81 (zb_tt l) = (zb_bb l : Int) := by rw [r5c 81 (by decide), k7.2 81 (by decide)]; exact b4
    have wr : zb_ROWS C3 (eg_u (eg_u (eg_u R5 45 51 (zb_bb l : Int)) 78 (zb_tt l) 6) 82 (zb_tt l) (zb_ov o)) B.1 B.2.1 := zb_rows_congr (zb_gs_w gs3) (fun _ _ => rfl) (fun c hc => by rw [eg_u_ne (by revert hc; simp; omega), eg_u_ne (by revert hc; simp; omega), eg_u_ne (by revert hc; simp; omega)])
    have s53 : R5 53 (zb_rD r + 2) = (x1 : Int) := by rw [(zb_gs_w gs3).2.2.2.2.2.1]; exact y6
    have w6 : lp (fun z => fn_216_65 (zb_rD r : Int) bx (zb_tt l : Int) (zb_rQ r : Int) (zb_ov o) z.1 z.2) ((zb_rQ r : Int), R5) = some (2, R6) := by
      refine lp2_inr ?_
      unfold fn_216_65
      rw [if_pos (Int.le_refl _), if_pos (by omega), Int.toNat_natCast, s81, zb_wb_k (by decide), zb_w176 wr, y1, Option.bind_some, if_pos (by omega), Int.toNat_natCast, s53, hR6]
    have eref : ((fn_195 (((4 : Nat) : Int) - 1) ((zb_nf 4 (3 + zb_rQ r) : Nat) : Int) (zb_frm H (zb_rF r)) R).bind fun r7 =>
      if ¬ r7.1 = (-1) then
        (fn_187 r7.1 r7.2).bind fun r11 =>
        if 0 ≤ r11 ∧ r11 < 6700 then
        lp (fun z => fn_216_65 (zb_rD r : Int) bx (zb_tt l : Int) (zb_rQ r : Int) r7.1 z.1 z.2) (0, eg_u r7.2 64 (r11).toNat (zb_rD r : Int))
        else none
      else
        some (-1, eg_u r7.2 45 69 (r7.2 45 66))) = some (2, R6) := by
      rw [k2, m2, Option.bind_some]
      show (if ¬ zb_ov o = -1 then (fn_187 (zb_ov o) R3).bind fun r11 => if 0 ≤ r11 ∧ r11 < 6700 then lp (fun z => fn_216_65 (zb_rD r : Int) bx (zb_tt l : Int) (zb_rQ r : Int) (zb_ov o) z.1 z.2) (0, eg_u R3 64 (r11).toNat (zb_rD r : Int)) else none else _) = _
      rw [if_pos (by unfold zb_ov; omega), zb_f187 n4, Option.bind_some, if_pos (by omega), Int.toNat_natCast, ← w6, ← w1]
      rfl
    have hnew := zb_mk_new (H := H1) (x := x) (o := o) (k := 4) (s := 3 + zb_rQ r) (l := ls)
    have r6c : ∀ c, c ∈ ([77, 79, 81] : List Nat) → R6 c = R c := fun c hc => by rw [hR6, eg_u_ne (by revert hc; simp; omega), eg_u_ne (by revert hc; simp; omega), eg_u_ne (by revert hc; simp; omega), eg_u_ne (by revert hc; simp; omega), r5c c (by revert hc; simp; omega), k7.2 c (by revert hc; simp; omega)]
    have r6t : ∀ c t, c ∈ ([78, 80, 82] : List Nat) → t ≠ zb_tt l → R6 c t = R c t := fun c t hc ht => by
      have h45 : c ≠ 45 := by revert hc; simp; omega
      rw [hR6, eg_u_nj (fun z => ht z.2), eg_u_nj (fun z => ht z.2), eg_u_nj (fun z => ht z.2), eg_u_ne h45, r5c c (by revert hc; simp; omega), k7.2 c (by revert hc; simp; omega)]
    have r6f : ∀ f, f ∉ ([28, 29, 38, 41, 43, 45, 48, 64, 67, 51] : List Nat) → R6 45 f = R 45 f := fun f hf => by
      rw [hR6, eg_u_ne (by decide), eg_u_ne (by decide), eg_u_ne (by decide), eg_u_nj (fun z => hf (by rw [z.2]; decide)), r5f f (fun z => hf (by revert z; simp; omega)), k7.1 f (fun z => hf (by revert z; simp; omega))]
    have c5o : ∀ c, c ∈ ([29, 31, 35, 36] : List Nat) → C5 c = C c := fun c hc => by rw [hC5, eg_u_ne (by revert hc; simp; omega), c4m c (by revert hc; simp; omega), hM c (by revert hc; simp; omega), zb_c2o c (by revert hc; simp; omega) (by revert hc; simp; omega)]
    have c5t : ∀ c i, c ∈ ([30, 32, 33, 34] : List Nat) → i ≠ l.length + 1 → C5 c i = C c i := fun c i hc hi => by
      rw [hC5, eg_u_nj (fun z => hi z.2), hC4, eg_u_nj (fun z => hi z.2), eg_u_nj (fun z => hi z.2), eg_u_nj (fun z => hi z.2), eg_u_nj (fun z => hi z.2), v2 c (by revert hc; simp; omega), p7 c (by revert hc; simp; omega), hM c (by revert hc; simp; omega), hC2, eg_u_nj (fun z => hi z.2), eg_u_nj (fun z => hi z.2)]
    have c5e : ∀ c, c ∈ ([15, 43, 44] : List Nat) → C5 c = C4 c := fun c hc => by rw [hC5, eg_u_ne (by revert hc; simp; omega)]
    have hsx : zb_SX B C5 R6 (zb_Hmk H1 x o 4 (3 + zb_rQ r) ls) rl1 ql1 fd ((6, zb_rD r, x1, (x1 : Int), 0, x) :: l) fu1 := by
      have zb_fo := h.2.2.1
      have dpo := h.2.2.2
      have hnb : zb_nb ((6, zb_rD r, x1, (x1 : Int), 0, x) :: l) = zb_nb (r :: l) := by rw [zb_nb_ne (show zb_rK (6, zb_rD r, x1, (x1 : Int), 0, x) ≠ 11 by show (6 : Nat) ≠ 11; decide), zb_nb_ne (by omega)]
      refine ⟨⟨zb_gs_congr gs3 ?_ ?_, ⟨⟨⟨?_, ?_, by show (0 : Nat) ≤ 9; omega, Or.inr ⟨hnew.2.2.2.2.2.2, hnew.2.2.1⟩⟩, ⟨?_, ?_⟩, fun j hj => absurd hj (Nat.not_lt_zero j), fun z => absurd (show (6 : Nat) = 16 from z) (by decide)⟩, ?_⟩, ⟨⟨⟨?_, ?_, ?_⟩, ⟨?_, fun _ => ?_, ?_⟩, fun z => absurd (show (6 : Nat) = 16 from z) (by decide)⟩, ?_⟩, ⟨⟨?_, ?_, ?_, ?_, ?_⟩, ⟨?_, ?_, ?_⟩, fun i hi => ?_⟩, ?_, ?_, ?_⟩, ⟨?_, ?_, k12.2.2⟩, ⟨?_, ?_, ?_⟩, ⟨?_, ?_⟩, dpo.2⟩
      · rw [hC5, hC4]; exact zb_QC_u (zb_QC_u (zb_QC_u (zb_QC_u (zb_QC_u zb_QC_rfl (by decide)) (by decide)) (by decide)) (by decide)) (by decide)
      · rw [hR6]; exact zb_QR_u (zb_QR_u (zb_QR_u (zb_QR_45 zb_QR_rfl (by decide)) (by decide)) (by decide)) (by decide)
      · rw [hC5, eg_u_ne (by decide)]; exact o33
      · rw [hC5, eg_u_ne (by decide), hC4, eg_u_ne (by decide), eg_u_ne (by decide), eg_u_ne (by decide), eg_u_eq]; rfl
      · rw [hR6, eg_u_ne (by decide), eg_u_eq]
        show _ = zb_frm (zb_Hmk H1 x o 4 (3 + zb_rQ r) ls) x
        rw [(zb_frm_ne (by omega)).1, hnew.2.2.2.1]
      · rw [r6c 81 (by decide)]; exact b4
      · have s5 : zb_STR M R1 H1 B.2.2.2.1 l := k5.2
        refine zb_str_tr s5 (fun i j1 j2 => ?_) (fun t ht => ?_) (fun b hb => ?_) (fun g hg _ => zb_mk_trg m g hg)
        · rw [c5t 33 i (by decide) (by omega), c5t 34 i (by decide) (by omega), c5o 35 (by decide), hM 33 (by decide), hM 34 (by decide), hM 35 (by decide), zb_c2o 33 (by decide) (by decide), zb_c2o 34 (by decide) (by decide), zb_c2o 35 (by decide) (by decide)]
          exact ⟨rfl, rfl, fun _ _ => rfl⟩
        · rw [r6c 81 (by decide), r6t 82 t (by decide) (by omega), k7.2 81 (by decide), k7.2 82 (by decide)]; exact ⟨rfl, rfl⟩
        · rw [r6c 77 (by decide), k7.2 77 (by decide)]
      · rw [hC5, eg_u_ne (by decide)]; exact o30
      · rw [c5o 31 (by decide)]; exact a2
      · rw [hC5, eg_u_eq]; rfl
      · rw [hR6, eg_u_ne (by decide), eg_u_ne (by decide), eg_u_eq]; rfl
      · rw [r6c 79 (by decide)]; exact h79
      · rw [hR6, eg_u_eq]; rfl
      · exact zb_ctl_tr h.1.2.2.1.2 (fun i j1 j2 => ⟨c5t 30 i (by decide) (by omega), by rw [c5o 31 (by decide)], c5t 32 i (by decide) (by omega)⟩) (fun t ht => ⟨r6t 78 t (by decide) (by omega), by rw [r6c 79 (by decide)], r6t 80 t (by decide) (by omega)⟩)
      · rw [c5e 44 (by decide), f44 8 (by decide)]; exact i4
      · rw [c5e 43 (by decide)]; exact c43.1
      · rw [c5e 43 (by decide)]; exact c43.2
      · rw [c5e 15 (by decide)]; exact c15.1
      · rw [c5e 15 (by decide)]; exact c15.2
      · rw [r6f 59 (by decide)]; exact fl.2.1.1
      · rw [r6f 62 (by decide)]; exact fl.2.1.2.1
      · rw [r6f 63 (by decide)]; exact fl.2.1.2.2
      · rw [c5o 36 (by decide)]; exact fl.2.2 i hi
      · rw [c5o 29 (by decide)]; exact i3
      · rw [r6f 53 (by decide)]; exact h53
      · rw [hR6, eg_u_ne (by decide), eg_u_ne (by decide), eg_u_ne (by decide), eg_u_eq]; rfl
      · rw [c5e 44 (by decide), c4m 44 (by decide)]; exact k12.1
      · rw [hR6, eg_u_ne (by decide), eg_u_ne (by decide), eg_u_ne (by decide), eg_u_nj (by decide), r5f 67 (by decide)]; exact k12.2.1
      · rw [hnb, c5e 44 (by decide), f44 10 (by decide)]; exact zb_fo.1
      · rw [hnb, r6f 68 (by decide)]; exact zb_fo.2.1
      · rw [hnb]
        refine ⟨zb_fo.2.2.1, zb_bud_le zb_fo.2.2.2 (r6f 42 (by decide)) ?_⟩
        have e67 : R6 45 67 = (fu1 : Int) := by rw [hR6, eg_u_ne (by decide), eg_u_ne (by decide), eg_u_ne (by decide), eg_u_nj (by decide), r5f 67 (by decide)]; exact k12.2.1
        have n1 := (zb_nc_le (r := r) (l := l)).1
        have n2 : zb_nc ((6, zb_rD r, x1, (x1 : Int), 0, x) :: l) = zb_nc l := zb_nc_ne (show (6 : Nat) ≠ 10 by decide)
        rw [e67, n2, h.2.1.2.1]; omega
      · rw [hnb]
        have hdd : zb_dd B (6, zb_rD r, x1, (x1 : Int), 0, x) = zb_dd B r := by
          show (if (6 : Nat) = 15 then 0 else (B.1 6 (zb_rD r)).toNat) = (if zb_rK r = 15 then 0 else (B.1 6 (zb_rD r)).toNat)
          rw [if_neg (by decide), if_neg (by omega)]
        rw [hdd]; exact dpo.1.1
      · have hdd : zb_dd B (6, zb_rD r, x1, (x1 : Int), 0, x) = zb_dd B r := by
          show (if (6 : Nat) = 15 then 0 else (B.1 6 (zb_rD r)).toNat) = (if zb_rK r = 15 then 0 else (B.1 6 (zb_rD r)).toNat)
          rw [if_neg (by decide), if_neg (by omega)]
        rw [hdd]; exact dpo.1.2
    have kx3 := z3
    obtain ⟨_, _, _, _, _, lx1, _⟩ := zb_kx_at y8
    refine ⟨R6, eref, by rw [r6f 53 (by decide)]; exact h53, by rw [hR6, eg_u_ne (by decide), eg_u_ne (by decide), eg_u_eq]; decide, ?_⟩
    have e80 : R6 80 (zb_tt l) = (x1 : Int) := by rw [hR6, eg_u_eq]
    have e82' : R6 82 (zb_tt l) = zb_frm (zb_Hmk H1 x o 4 (3 + zb_rQ r) ls) x := by rw [hR6, eg_u_ne (by decide), eg_u_eq, (zb_frm_ne (by omega)).1, hnew.2.2.2.1]
    rw [hcl2, e80, e82']
    refine zb_go_on (r := (6, zb_rD r, x1, (x1 : Int), 0, x)) ev hsx (Or.inr (Or.inr (Or.inr (Or.inr (Or.inl ⟨Or.inl rfl, rfl, rfl, ⟨2, y8⟩, ?_⟩))))) hl z10 (show (6 : Nat) ≠ 15 by decide) z7 z8 (by omega) (by omega) (by omega)
    show zb_rD r + 1 < x1
    omega
  · right
    refine ⟨eg_u R' 45 69 (R' 45 66), ?_, ?_⟩
    · rw [k2, Option.bind_some]
      show (if ¬ (-1 : Int) = -1 then _ else some ((-1 : Int), eg_u R' 45 69 (R' 45 66))) = _
      rw [if_neg (fun z => z rfl)]
    · rw [k1]
      refine Or.inr ⟨C', _, lk, rfl, rfl, H', rl', ql', fd, fu', zb_gs_congr k6 zb_QC_rfl (zb_QR_45 zb_QR_rfl (by decide)), ⟨k7.1, ?_, k7.2.2⟩, k4, ?_, by omega, by omega⟩
      · rw [eg_u_nj (by decide)]; exact k7.2.1
      · rw [eg_u_eq]; exact k3
end LETS
section LETS
variable {B : zb_Bs} {Q : zb_Pq} {Z sp0 zb_sp : Nat} {C R C' R' M : eM} {H H' : zb_Hp} {rl ql : List (Nat × Nat)} {fd fu : Nat} {st l : List zb_Rec} {r r' : zb_Rec}
theorem zb_sx_y {y : Int} (h : zb_SX B C R H rl ql fd (r :: l) fu) (hk : zb_rK r ≠ 16) : zb_SX B C (eg_u R 80 (zb_tt l) y) H rl ql fd ((zb_rK r, zb_rD r, zb_rA r, y, zb_rQ r, zb_rF r) :: l) fu := by
  obtain ⟨_, ⟨a1, a2, a3, a4, a5⟩, ⟨b1, b2, b3, b4, b5⟩, b6⟩ := zb_top_at h
  exact zb_sx_ctl (r' := (zb_rK r, zb_rD r, zb_rA r, y, zb_rQ r, zb_rF r)) h (fun _ _ => rfl) (fun _ _ _ _ => rfl) zb_ho_80.1 zb_ho_80.2 ⟨⟨a1, a2, a3⟩, ⟨by rw [eg_u_ne (by decide)]; exact b1, fun z => by rw [eg_u_ne (by decide)]; exact b2 z, eg_u_eq⟩, fun z => absurd z hk⟩ rfl rfl rfl ⟨Iff.rfl, Iff.rfl, Iff.rfl, fun z => z⟩
theorem zb_let_go (ev : zb_EVOK B Q Z) {x : Nat} (h : zb_SX B C R H rl ql fd (r :: l) fu) (hk : zb_rK r = 5) (hy : zb_rY r = (x : Int)) (hb : zb_kB B (zb_rD r) x (zb_rQ r)) (hlx : zb_LETX B.1 B.2.1 B.2.2.2.1 B.2.2.2.2 (zb_rD r)) (hl : zb_RUNS B l) (h0 : sp0 ≤ zb_sp) (hp : zb_sp + 20 * fu + 5 * (l.length + 1) ≤ Z + 10) :
    fn_176 (R 80 (zb_tt l)) R = some ((x + 2 : Nat) : Int) ∧ zb_RESV B Q Z sp0 ((fn_111 B.2.2.1 (B.2.2.1 / 3 + 1) ((x + 2 : Nat) : Int) (zb_rF r : Int) (eg_u C 32 (l.length + 1) (x : Int))).bind (zb_AF B.2.2.1 Q (zb_sp : Int))) (fn_184 ((x + 2 : Nat) : Int) (R 82 (zb_tt l)) R) := by
  obtain ⟨⟨i1, i2, i3, i4, i5⟩, ⟨a1, a2, a3, a4, a5⟩, ⟨b1, b2, b3, b4, b5⟩, b6⟩ := zb_top_at h
  obtain ⟨e, el, dp, k1, k2, k3, k4, k5, k6, k7, k8, k9, k10, k11, k12, k13⟩ := zb_kb_at hb
  have w := zb_gs_w h.1.1
  rw [hy] at b3
  refine ⟨by rw [b3, zb_w176 w]; exact k11, ?_⟩
  rw [b5]
  have h' := zb_sx_to (x := x) (k' := 5) (y := (x : Int)) (R' := R) h ⟨by omega, by omega, by omega⟩ ⟨by omega, by omega, by omega⟩ rfl (by rw [hk]) (by rw [b1, hk]) rfl b3 (fun _ _ => rfl) (fun _ _ _ _ => rfl)
  exact zb_go_on ev h' (Or.inr (Or.inr (Or.inr (Or.inl ⟨rfl, rfl, hb, hlx⟩)))) hl k10 (show (5 : Nat) ≠ 15 by decide) k7 k8 (by omega) h0 hp
theorem zb_step_50 (ev : zb_EVOK B Q Z) (h : zb_SX B C R H rl ql fd (r :: l) fu) (hk : zb_rK r = 5) (hf : zb_FRS B r) (hl : zb_RUNS B l) (hZ9 : Z ≤ 999990) (hp : zb_sp + 20 * fu + 5 * (l.length + 1) ≤ Z) : zb_STP B Q Z zb_sp C R 0 := by
  obtain ⟨q0, ro, f1, f2, _, _, _, f3, f4, f5, f6, f7, f8, f9, f10⟩ := zb_frs_k hf (by omega) (by omega)
  have hx : zb_LETX B.1 B.2.1 B.2.2.2.1 B.2.2.2.2 (zb_rD r) := by
    rcases f2 with ⟨z, _⟩ | ⟨z, _⟩ | ⟨z, _⟩ | ⟨z, _⟩ | ⟨z, x1⟩ | ⟨z, _⟩ | ⟨z, _⟩ | ⟨z, _⟩
    all_goals first | exact x1 | omega
  have hlx := hx
  obtain ⟨n, x1, y1, y2, y3, y4, y5, y6, y7, y8, y9⟩ := hx
  obtain ⟨⟨i1, i2, i3, i4, i5⟩, ⟨a1, a2, a3, a4, a5⟩, ⟨b1, b2, b3, b4, b5⟩, b6⟩ := zb_top_at h
  have w := zb_gs_w h.1.1
  have h53 := b6 (by omega)
  have h79 := b2 (by omega)
  have hA : zb_rA r = zb_rD r + 2 := by rw [f4, hk]; rfl
  have hy := f8 hk
  rw [hk] at a1 b1
  have hCL : zb_CL B.2.2.1 Q (zb_sp : Int) C = _ := zb_cl_res' i4 (by omega) i3 (by omega) (zb_f72_no (by omega) a1 (by decide))
  have h211 : fn_211 0 R = fn_216_22 (zb_rD r : Int) 0 (zb_tt l : Int) R := by
    rw [zb_d211_5 h53 (by omega) b1, h79]
    unfold fn_216
    rw [if_pos rfl, h53, zb_wi_t1 (by omega)]
  have e118 : fn_118 B.2.2.1 (B.2.2.1 / 3 + 1) ((l.length + 1 : Nat) : Int) (eg_wi ((C 31 (l.length + 1)) + 2)) 2 11 C = fn_118_25 B.2.2.1 (B.2.2.1 / 3 + 1) ((l.length + 1 : Nat) : Int) ((zb_rD r + 2 : Nat) : Int) 2 11 ((zb_rD r + 3 : Nat) : Int) C := by
    unfold fn_118
    rw [if_pos (by omega), Int.toNat_natCast, a3, a2, hA, zb_wi_p2 (by omega), if_pos rfl, zb_wi_1 (a := zb_rD r + 2) (by omega)]
  intro x0
  rcases y9 with ⟨n0, n1, n2⟩ | ⟨n1, n2⟩
  · have hcl : fn_118_25 B.2.2.1 (B.2.2.1 / 3 + 1) ((l.length + 1 : Nat) : Int) ((zb_rD r + 2 : Nat) : Int) 2 11 ((zb_rD r + 3 : Nat) : Int) C = some (eg_u (eg_u C 32 (l.length + 1) ((zb_rD r + 3 : Nat) : Int)) 30 (l.length + 1) 11) := by
      unfold fn_118_25
      rw [if_pos (by omega), if_pos (by omega), Int.toNat_natCast, Int.toNat_natCast, w.1.2.1, y7, if_pos (by omega)]
    rcases zb_let_end (a' := ((zb_rD r + 3 : Nat) : Int)) (bx := 0) (sp0 := zb_sp) (zb_sp := zb_sp) ev h hk (by rw [hy, n1]) hlx (by rw [y3, q0, n0]) hl hZ9 (Nat.le_refl _) (by omega) with ⟨R', k1, k2, k3, k4⟩ | ⟨R', k1, k2⟩
    · refine ⟨_, zb_s210_ev (t := zb_tt l) (by rw [h211]; exact k1) k2 (by omega) k3, ?_⟩
      rw [hCL, zb_d104_5 (by omega) a1, e118, hcl, Option.bind_some]; exact k4
    · refine ⟨some (-1, R'), zb_s210_done (g := -1) (by rw [h211]; exact k1) (by decide) (by decide), ?_⟩
      rw [hCL, zb_d104_5 (by omega) a1, e118, hcl, Option.bind_some]; exact k2
  · obtain ⟨e, el, dp, k1, k2, k3, k4, k5, _⟩ := zb_kb_at n2
    have h216 : fn_216_22 (zb_rD r : Int) 0 (zb_tt l : Int) R = some (2, R) := by
      unfold fn_216_22
      rw [if_pos (by omega), Int.toNat_natCast, b3, hy, n1, if_neg (by omega)]
    obtain ⟨g1, g2⟩ := zb_let_go (x := zb_rD r + 3) (sp0 := zb_sp) (zb_sp := zb_sp) ev h hk (by rw [hy, n1]) (by rw [q0]; exact n2) hlx hl (Nat.le_refl _) (by omega)
    refine ⟨_, zb_s210_ev5 (t := zb_tt l) (by rw [h211]; exact h216) h53 (by omega) b1 g1, ?_⟩
    have hcl : fn_118_25 B.2.2.1 (B.2.2.1 / 3 + 1) ((l.length + 1 : Nat) : Int) ((zb_rD r + 2 : Nat) : Int) 2 11 ((zb_rD r + 3 : Nat) : Int) C = fn_111 B.2.2.1 (B.2.2.1 / 3 + 1) ((zb_rD r + 3 + 2 : Nat) : Int) (zb_rF r : Int) (eg_u C 32 (l.length + 1) ((zb_rD r + 3 : Nat) : Int)) := by
      unfold fn_118_25
      rw [if_pos (by omega), if_pos (by omega), Int.toNat_natCast, Int.toNat_natCast, w.1.2.1, k2, if_neg (by omega), zb_bsome, zb_wi_p2 (a := zb_rD r + 3) (by omega), a4]
    rw [hCL, zb_d104_5 (by omega) a1, e118, hcl]; exact g2
theorem zb_step_5 (ev : zb_EVOK B Q Z) (h : zb_SX B C R H rl ql fd (r :: l) fu) (hk : zb_rK r = 5) (hr : zb_RUN B r) (hl : zb_RUNS B l) (hv : zb_VR (zb_vo H) (zb_hP H) B.2.2.2.1 (C 44 9) (R 45 70)) (hZ9 : Z ≤ 999990) (hp : zb_sp + 20 * fu + 5 * (l.length + 1) ≤ Z) : zb_STP B Q Z zb_sp C R 1 := by
  have hx : zb_rY r = (zb_rA r : Int) ∧ zb_kB B (zb_rD r) (zb_rA r) (zb_rQ r) ∧ zb_LETX B.1 B.2.1 B.2.2.2.1 B.2.2.2.2 (zb_rD r) := by
    rcases hr with ⟨z, _⟩ | ⟨z, _⟩ | ⟨z, _⟩ | ⟨_, z⟩ | ⟨z, _⟩ | ⟨z, _⟩ | ⟨z, _⟩ | ⟨z, _⟩ | ⟨z, _⟩
    all_goals first | exact z | omega
  obtain ⟨x1, x2, hlx⟩ := hx
  obtain ⟨⟨i1, i2, i3, i4, i5⟩, ⟨a1, a2, a3, a4, a5⟩, ⟨b1, b2, b3, b4, b5⟩, b6⟩ := zb_top_at h
  obtain ⟨e, el, dp, k1, k2, k3, k4, k5, k6, k7, k8, k9, k10, k11, k12, k13⟩ := zb_kb_at x2
  have w := zb_gs_w h.1.1
  have h53 := b6 (by omega)
  have h79 := b2 (by omega)
  have h51 : R 45 51 = ((zb_bb l + zb_rQ r : Nat) : Int) := h.1.2.2.2.2.2.2
  have hbl : zb_bb (r :: l) ≤ 9 * (l.length + 1) := zb_bb_le h.1.2.1
  have hbb : zb_bb (r :: l) = zb_bb l + zb_rQ r := rfl
  rw [x1] at b3
  rw [hk] at a1 b1
  have hsx := zb_sx_hold h (by omega) hv
  obtain ⟨Ck, hCk⟩ : ∃ Ck, Ck = zb_keepC C (l.length + 1) (zb_rQ r) (C 44 9) := ⟨_, rfl⟩
  obtain ⟨Rk, hRk⟩ : ∃ Rk, Rk = zb_holdR R (zb_bb l + zb_rQ r) (R 45 70) := ⟨_, rfl⟩
  rw [← hCk, ← hRk] at hsx
  have ck : ∀ c, c ≠ 34 → c ≠ 35 → Ck c = C c := fun c a b => by rw [hCk]; unfold zb_keepC; rw [eg_u_ne a, eg_u_ne b]
  have rk : ∀ c, c ≠ 45 → c ≠ 77 → Rk c = R c := fun c a b => by rw [hRk]; unfold zb_holdR; rw [eg_u_ne a, eg_u_ne b]
  have rkf : Rk 45 53 = R 45 53 := by rw [hRk]; unfold zb_holdR; rw [eg_u_nj (by decide), eg_u_ne (by decide)]
  have hCL : zb_CL B.2.2.1 Q (zb_sp : Int) C = _ := zb_cl_res' i4 (by omega) i3 (by omega) (zb_f72_no (by omega) a1 (by decide))
  have e118 : fn_118 B.2.2.1 (B.2.2.1 / 3 + 1) ((l.length + 1 : Nat) : Int) (eg_wi ((C 31 (l.length + 1)) + 2)) 2 11 C = fn_118_25 B.2.2.1 (B.2.2.1 / 3 + 1) ((l.length + 1 : Nat) : Int) ((zb_rD r + 2 : Nat) : Int) 2 11 (e : Int) Ck := by
    unfold fn_118
    rw [if_pos (by omega), Int.toNat_natCast, a3, a2, zb_wi_p2 (by omega), if_neg (by omega), zb_keep_c119 (by omega) (by omega) a5, ← hCk, Option.bind_some, if_pos (by omega), Int.toNat_natCast, ck 5 (by decide) (by decide), w.1.2.1, k1]
  have h211 : fn_211 1 R = fn_216_22 (zb_rD r : Int) 1 (zb_tt l : Int) (eg_u Rk 80 (zb_tt l) (B.2.1 53 (zb_rA r))) := by
    rw [zb_d211_5 h53 (by omega) b1, h79]
    unfold fn_216
    rw [if_neg (by decide), zb_hold_r (by omega) h51, ← hRk, Option.bind_some, h53, zb_wi_t1 (by omega), if_pos (by omega), Int.toNat_natCast, rk 80 (by decide) (by decide), b3, if_pos (by omega), Int.toNat_natCast, rk 53 (by decide) (by decide), w.2.2.2.2.2.1]
  have hs2 := zb_sx_y (y := B.2.1 53 (zb_rA r)) hsx (show zb_rK r ≠ 16 by omega)
  obtain ⟨⟨j1, j2, j3, j4, j5⟩, ⟨c1, c2, c3, c4, c5⟩, ⟨d1, d2, d3, d4, d5⟩, d6⟩ := zb_top_at hs2
  intro x0
  rcases k13 with ⟨n1, n2, n3⟩ | ⟨n1, n2, n3⟩
  · have h216 : fn_216_22 (zb_rD r : Int) 1 (zb_tt l : Int) (eg_u Rk 80 (zb_tt l) (B.2.1 53 (zb_rA r))) = some (2, eg_u Rk 80 (zb_tt l) (B.2.1 53 (zb_rA r))) := by
      unfold fn_216_22
      rw [if_pos (by omega), Int.toNat_natCast, eg_u_eq, n2, if_neg (by omega)]
    obtain ⟨g1, g2⟩ := zb_let_go (x := e) (sp0 := zb_sp) (zb_sp := zb_sp) ev hs2 hk n2 n3 hlx hl (Nat.le_refl _) (by omega)
    refine ⟨_, zb_s210_ev5 (t := zb_tt l) (by rw [h211]; exact h216) (by rw [eg_u_ne (by decide), rkf]; exact h53) (by omega) (by rw [eg_u_ne (by decide), rk 78 (by decide) (by decide)]; exact b1) g1, ?_⟩
    have hcl : fn_118_25 B.2.2.1 (B.2.2.1 / 3 + 1) ((l.length + 1 : Nat) : Int) ((zb_rD r + 2 : Nat) : Int) 2 11 (e : Int) Ck = fn_111 B.2.2.1 (B.2.2.1 / 3 + 1) ((e + 2 : Nat) : Int) (zb_rF r : Int) (eg_u Ck 32 (l.length + 1) (e : Int)) := by
      unfold fn_118_25
      rw [if_pos (by omega), if_pos (by omega), Int.toNat_natCast, Int.toNat_natCast, ck 5 (by decide) (by decide), w.1.2.1, k2, if_neg (by omega), zb_bsome, zb_wi_p2 (by omega), ck 33 (by decide) (by decide), a4]
    rw [hCL, zb_d104_5 (by omega) a1, e118, hcl]; exact g2
  · have hcl : fn_118_25 B.2.2.1 (B.2.2.1 / 3 + 1) ((l.length + 1 : Nat) : Int) ((zb_rD r + 2 : Nat) : Int) 2 11 (e : Int) Ck = some (eg_u (eg_u Ck 32 (l.length + 1) (e : Int)) 30 (l.length + 1) 11) := by
      unfold fn_118_25
      rw [if_pos (by omega), if_pos (by omega), Int.toNat_natCast, Int.toNat_natCast, ck 5 (by decide) (by decide), w.1.2.1, k2, if_pos (by omega)]
    rcases zb_let_end (a' := (e : Int)) (bx := 1) (sp0 := zb_sp) (zb_sp := zb_sp) ev hs2 hk n2 hlx n3 hl hZ9 (Nat.le_refl _) (by omega) with ⟨R', q1, q2, q3, q4⟩ | ⟨R', q1, q2⟩
    · refine ⟨_, zb_s210_ev (t := zb_tt l) (by rw [h211]; exact q1) q2 (by omega) q3, ?_⟩
      rw [hCL, zb_d104_5 (by omega) a1, e118, hcl, Option.bind_some]; exact q4
    · refine ⟨some (-1, R'), zb_s210_done (g := -1) (by rw [h211]; exact q1) (by decide) (by decide), ?_⟩
      rw [hCL, zb_d104_5 (by omega) a1, e118, hcl, Option.bind_some]; exact q2
end LETS
