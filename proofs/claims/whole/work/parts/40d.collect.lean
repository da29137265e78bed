noncomputable def zb_Hmv (H : zb_Hp) (L : Nat → Prop) : zb_Hp := (zb_lvl L H.1, zb_sm (zb_hZ H) (zb_lvl L H.1), zb_nst (zb_hZ H) (zb_lvl L H.1) 0, H.2.2.2.1, H.2.2.2.2.1, H.2.2.2.2.2.1, H.2.2.2.2.2.2.1, H.2.2.2.2.2.2.2)
theorem zb_nst_lt {st sz : Nat → Nat} {us : Nat} {L : Nat → Prop} {g h : Nat} : ∀ {l : List Nat} {p q : Nat}, zb_cum st sz us l p → l.Nodup → (∀ x, x ∈ l → 3 ≤ sz x) → g ∈ zb_lvl L l → h ∈ zb_lvl L l → st g < st h → zb_nst sz (zb_lvl L l) q g < zb_nst sz (zb_lvl L l) q h := by
  intro l
  induction l with
  | nil => intro p q _ _ _ hg; simp [zb_lvl] at hg
  | cons a t ih =>
    intro p q hc hn hz hg hh hlt
    obtain ⟨c1, c2⟩ := hc
    obtain ⟨n1, n2⟩ := List.nodup_cons.mp hn
    have hle := (zb_cum_le c2).2
    have hza := hz a List.mem_cons_self
    have hzt := fun x hx => hz x (List.mem_cons_of_mem a hx)
    by_cases ha : L a
    · rw [(zb_lvl_t ha).1] at hg hh ⊢
      by_cases hha : h = a
      · exfalso
        rw [hha] at hlt
        rcases List.mem_cons.mp hg with e | e
        · rw [e] at hlt; omega
        · have := (hle g (zb_lvl_m.mp e).1).1; omega
      · have hht := (List.mem_cons.mp hh).resolve_left hha
        rw [show zb_nst sz (a :: zb_lvl L t) q h = zb_nst sz (zb_lvl L t) (q + sz a) h by rw [zb_nst, if_neg hha]]
        by_cases hga : g = a
        · rw [show zb_nst sz (a :: zb_lvl L t) q g = q by rw [zb_nst, if_pos hga]]
          have := zb_nst_ge (sz := sz) (zb_lvl L t) (q + sz a) h
          omega
        · have hgt := (List.mem_cons.mp hg).resolve_left hga
          rw [show zb_nst sz (a :: zb_lvl L t) q g = zb_nst sz (zb_lvl L t) (q + sz a) g by rw [zb_nst, if_neg hga]]
          exact ih c2 n2 hzt hgt hht hlt
    · rw [(zb_lvl_f ha).1] at hg hh ⊢
      exact ih c2 n2 hzt hg hh hlt
section GC
variable {C R M R' : eM} {H : zb_Hp} {cn N : Nat} {lam : Nat → Prop} {scp : Nat → Nat → Prop} {L : Nat → Prop}
theorem zb_hr_move {fl fs fc : List Nat} {hs : Nat} (hr : zb_HR C R H cn N lam scp) (hN : N ≤ 444) (sv : zb_SV C H L) (hH : zb_HC M cn (zb_lvl L (zb_hO H)) fl hs (zb_sm (zb_hZ H) (zb_lvl L (zb_hO H))) (zb_nst (zb_hZ H) (zb_lvl L (zb_hO H)) 0) (zb_hZ H) (zb_hK H))
    (hQ : zb_HQ R' cn (zb_sm (zb_hZ H) (zb_lvl L (zb_hO H))) ((zb_lvl L (zb_hO H)).map (zb_hP H)) fs fc (zb_hC H)) (h16 : ∀ h, h ∈ zb_lvl L (zb_hO H) → ∀ i, i < zb_hZ H h → M 16 (zb_nst (zb_hZ H) (zb_lvl L (zb_hO H)) 0 h + i) = C 16 (zb_hS H h + i))
    (m15 : M 15 10 = C 15 10) (m20 : M 20 = C 20) (r62 : R' 62 = R 62) (r64 : R' 64 = R 64) (r66 : R' 66 = R 66) (r70 : R' 70 = R 70) (r42 : R' 45 42 = R 45 42) : zb_HR M R' (zb_Hmv H L) cn N lam scp := by
  have hlt : ∀ g, g ∈ zb_hO H → g < 20000 ∧ 1 ≤ g := fun g hg => by have := zb_hr_h hr hg; omega
  obtain ⟨⟨fl0, hs0, hH0⟩, _⟩ := id hr
  have hnd : (zb_hO H).Nodup := (List.nodup_append.mp hH0.2.2.2.2.2.1).1
  have hz3 : ∀ x, x ∈ zb_hO H → 3 ≤ zb_hZ H x := fun x hx => (hH0.2.2.1 x hx).2.2.2.2.1
  have hord : ∀ g h, g ∈ zb_lvl L (zb_hO H) → h ∈ zb_lvl L (zb_hO H) → zb_hS H g < zb_hS H h → zb_hS (zb_Hmv H L) g < zb_hS (zb_Hmv H L) h := fun g h hg hh hl => zb_nst_lt hH0.2.1 hnd hz3 hg hh hl
  refine ⟨⟨fl, hs, hH⟩, ⟨fs, fc, hQ⟩, fun h hh => ?_, ⟨fun t ht hk => ?_, fun t v e ht hk hv hkv h1 h2 => ?_⟩, by rw [m15, r42]; exact hr.2.2.2.2⟩
  · obtain ⟨hm, hl⟩ := zb_lvl_m.mp hh
    obtain ⟨o1, o2, o3, o4, o5, o6, o7⟩ := zb_hr_ob hr hm
    have e1 : ∀ j, j < zb_nf (zb_hK H h) (zb_hZ H h) → zb_cf M (zb_Hmv H L) h j = zb_cf C H h j := fun j hj => by
      have := h16 h hh (zb_ci (zb_hK H h) j) (zb_nf_ci o4 hj).1
      show (if zb_isl (zb_hK H h) j then zb_lv (M 16 (zb_nst (zb_hZ H) (zb_lvl L (zb_hO H)) 0 h + zb_ci (zb_hK H h) j)) else M 16 (zb_nst (zb_hZ H) (zb_lvl L (zb_hO H)) 0 h + zb_ci (zb_hK H h) j)) = _
      rw [this]; rfl
    have e2 : ∀ j, zb_rf R' (zb_Hmv H L) h j = zb_rf R H h j := fun j => by unfold zb_rf; rw [r70]; rfl
    refine ⟨?_, ?_, o3, o4, fun j hj => ?_, fun hk => ?_, fun hk => ?_⟩
    · show R' 62 (zb_hP H h) = _; rw [r62]; exact o1
    · show R' 66 (zb_hP H h) = M 20 h; rw [r66, m20]; exact o2
    · have hj' : j < zb_nf (zb_hK H h) (zb_hZ H h) := hj
      obtain ⟨f1, f2⟩ := o5 j hj'
      have hsv := fun g => sv.1 h j g hm hl hj'
      refine ⟨fun hi => ?_, fun hi => ?_⟩
      · rw [e1 j hj', e2]
        rcases f1 hi with q | ⟨g, ⟨g1, g2, g3⟩, g4, g5⟩
        · exact Or.inl q
        · have hgl : g ∈ zb_lvl L (zb_hO H) := zb_lvl_m.mpr ⟨g1, hsv g g1 g4⟩
          exact Or.inr ⟨g, ⟨hgl, g2, fun z => hord g h hgl hh (g3 z)⟩, g4, g5⟩
      · rw [e1 j hj', e2]
        rcases f2 hi with q | q | q | q | q | q | ⟨g, ⟨g1, g2, g3⟩, g4, g5⟩
        · exact Or.inl q
        · exact Or.inr (Or.inl q)
        · exact Or.inr (Or.inr (Or.inl q))
        · exact Or.inr (Or.inr (Or.inr (Or.inl q)))
        · exact Or.inr (Or.inr (Or.inr (Or.inr (Or.inl q))))
        · exact Or.inr (Or.inr (Or.inr (Or.inr (Or.inr (Or.inl q)))))
        · exact Or.inr (Or.inr (Or.inr (Or.inr (Or.inr (Or.inr ⟨g, ⟨zb_lvl_m.mpr ⟨g1, hsv g g1 g4⟩, g2, g3⟩, g4, g5⟩)))))
    · obtain ⟨d, d1, d2, d3⟩ := o6 hk
      refine ⟨d, d1, ?_, ?_⟩
      · show M 16 (zb_nst (zb_hZ H) (zb_lvl L (zb_hO H)) 0 h + 1) = _
        rw [h16 h hh 1 (by have := hz3 h hm; omega)]; exact d2
      · show R' 64 (zb_hP H h) = _; rw [r64]; exact d3
    · obtain ⟨d, d1, d2, d3⟩ := o7 hk
      refine ⟨d, d1, ?_, ?_⟩
      · show M 16 (zb_nst (zb_hZ H) (zb_lvl L (zb_hO H)) 0 h + 1) = _
        rw [h16 h hh 1 (by have := hz3 h hm; omega)]; exact d2
      · show R' 64 (zb_hP H h) = _; rw [r64]; exact d3
  · obtain ⟨hm, hl⟩ := zb_lvl_m.mp ht
    have hk' : zb_hK H t = 7 := hk
    obtain ⟨a1, a2, a3⟩ := hr.2.2.2.1.1 t hm hk'
    have hte := fun e => sv.2 t e hm hl hk'
    have conv : ∀ (l : List Nat) (x : Int), (∀ e, e ∈ l → e ∈ zb_hE H t) → zb_ech C H l x → zb_ech M (zb_Hmv H L) l x := by
      intro l
      induction l with
      | nil => intro x _ hx; exact hx
      | cons a s ih =>
        intro x hmem hx
        have ham := hmem a List.mem_cons_self
        obtain ⟨q1, q2⟩ := a3 a ham
        refine ⟨hx.1, ?_⟩
        have hz5 : zb_hZ H a = 5 := by have := (zb_hr_ob hr q1).2.2.2.1; unfold zb_szk at this; omega
        show zb_ech M (zb_Hmv H L) s (M 16 (zb_nst (zb_hZ H) (zb_lvl L (zb_hO H)) 0 a + 3))
        rw [h16 a (zb_lvl_m.mpr ⟨q1, hte a ham⟩) 3 (by omega)]
        exact ih _ (fun e he => hmem e (List.mem_cons_of_mem _ he)) hx.2
    refine ⟨?_, ?_, fun e he => ⟨zb_lvl_m.mpr ⟨(a3 e he).1, hte e he⟩, (a3 e he).2⟩⟩
    · show zb_ech M (zb_Hmv H L) (zb_hE H t) (M 16 (zb_nst (zb_hZ H) (zb_lvl L (zb_hO H)) 0 t + 1))
      rw [h16 t ht 1 (by have := hz3 t hm; omega)]
      exact conv _ _ (fun e he => he) a1
    · show M 16 (zb_nst (zb_hZ H) (zb_lvl L (zb_hO H)) 0 t + 2) = _
      rw [h16 t ht 2 (by have := hz3 t hm; omega)]
      exact a2
  · exact hr.2.2.2.1.2 t v e (zb_lvl_m.mp ht).1 hk (zb_lvl_m.mp hv).1 hkv h1 h2
end GC
def zb_RV0 (C : eM) (H : zb_Hp) (N top : Nat) : Prop :=
  (C 29 0 = (top : Int) ∧ top < 2000) ∧ (∀ i, 1 ≤ i → i ≤ top → (C 33 i = 0 ∨ ∃ g : Nat, g ∈ zb_hO H ∧ C 33 i = (g : Int)) ∧ ∃ f : Nat, f ≤ 9 ∧ C 34 i = (f : Int) ∧ ∀ j, j < f → zb_cv H (C 35 (9 * i + j)))
  ∧ (∀ i, i < 32 → zb_cv H (C 36 i)) ∧ (C 1 2 = (N : Int) ∧ N ≤ 444 ∧ ∀ n, n < N → zb_cv H (C 37 n))
def zb_RT0C (C : eM) (N top : Nat) (h : Nat) : Prop :=
  (∃ i, 1 ≤ i ∧ i ≤ top ∧ C 33 i = (h : Int)) ∨ (∃ i j : Nat, 1 ≤ i ∧ i ≤ top ∧ (j : Int) < C 34 i ∧ C 35 (9 * i + j) = 17179869184 + (h : Int))
  ∨ (∃ i, i < 32 ∧ C 36 i = 17179869184 + (h : Int)) ∨ (∃ n, n < N ∧ C 37 n = 17179869184 + (h : Int))
def zb_RR0 (R : eM) (H : zb_Hp) (sk zb_fo bn N : Nat) : Prop :=
  (R 45 51 = (sk : Int) ∧ sk ≤ 19000 ∧ ∀ i, i < sk → zb_rcv H (R 77 i)) ∧ (R 45 53 = (zb_fo : Int) ∧ zb_fo ≤ 4400 ∧ ∀ i, i < zb_fo → zb_rcv H (R 82 i)) ∧ (R 45 59 = (bn : Int) ∧ bn ≤ 31 ∧ ∀ i, i < bn → zb_rcv H (R 84 i))
  ∧ (zb_rcv H (R 45 62) ∧ zb_rcv H (R 45 63)) ∧ (R 45 7 = (N : Int) ∧ N ≤ 444 ∧ ∀ i, i < N → zb_rcv H (R 72 i))
def zb_RT0R (R : eM) (H : zb_Hp) (sk zb_fo bn N : Nat) (g : Nat) : Prop :=
  (∃ i, i < sk ∧ R 77 i = zb_ov (zb_hP H g)) ∨ (∃ i, i < zb_fo ∧ R 82 i = zb_ov (zb_hP H g)) ∨ (∃ i, i < bn ∧ R 84 i = zb_ov (zb_hP H g)) ∨ (R 45 62 = zb_ov (zb_hP H g) ∨ R 45 63 = zb_ov (zb_hP H g))
  ∨ (∃ i, i < N ∧ R 72 i = zb_ov (zb_hP H g))
def zb_QR (ql : List (Nat × Nat)) (g : Nat) : Prop := ∃ x, x ∈ ql ∧ (x.1 = g ∨ x.2 = g)
theorem zb_LV_congr {C : eM} {H : zb_Hp} {rg : Nat} {Rt Rt' : Nat → Prop} (h_ : ∀ g, g ∈ zb_hO H → (Rt g ↔ Rt' g)) : zb_LV C H rg Rt = zb_LV C H rg Rt' := by
  funext g
  apply propext
  have key : ∀ P, zb_Clo C H rg Rt P ↔ zb_Clo C H rg Rt' P := fun P => ⟨fun ⟨a, b⟩ => ⟨fun h h1 h2 => a h h1 ((h_ h h1).mpr h2), b⟩, fun ⟨a, b⟩ => ⟨fun h h1 h2 => a h h1 ((h_ h h1).mp h2), b⟩⟩
  exact ⟨fun z P zb_hP => z P ((key P).mpr zb_hP), fun z P zb_hP => z P ((key P).mp zb_hP)⟩
section GC
variable {C R : eM} {H : zb_Hp} {cn N top sk zb_fo bn fd : Nat} {lam : Nat → Prop} {scp : Nat → Nat → Prop} {rl ql : List (Nat × Nat)}
theorem zb_rtv_of (zb_fr : zb_FRel C R H rl ql fd) (h : zb_RV0 C H N top) : zb_RTV C H N top ql.length fd := by
  obtain ⟨⟨f1, f2, f3, f4, f5, f6, f7⟩, r1, r2, r3, r4, r5⟩ := zb_fr
  obtain ⟨a, b, c, d⟩ := h
  refine ⟨a, b, c, d, f3, f4, f5, by omega, fun i hi => ?_⟩
  have := r2 i hi
  obtain ⟨v1, v2⟩ := r5 ql[i] (List.mem_append_right _ (List.getElem_mem hi))
  exact ⟨Or.inl ⟨_, v1.1, this.1⟩, Or.inl ⟨_, v2.1, this.2⟩⟩
theorem zb_rrv_of (zb_fr : zb_FRel C R H rl ql fd) (h : zb_RR0 R H sk zb_fo bn N) : zb_RRV R H sk zb_fo bn N ql.length := by
  obtain ⟨⟨f1, f2, f3, f4, f5, f6, f7⟩, r1, r2, r3, r4, r5⟩ := zb_fr
  obtain ⟨a, b, c, d, e⟩ := h
  refine ⟨a, b, c, d, e, f6, by omega, fun i hi => ?_⟩
  have := r4 i hi
  obtain ⟨v1, v2⟩ := r5 ql[i] (List.mem_append_right _ (List.getElem_mem hi))
  exact ⟨Or.inl ⟨_, v1.1, v1.2.2, this.1⟩, Or.inl ⟨_, v2.1, v2.2.2, this.2⟩⟩
theorem zb_rtc_q (zb_fr : zb_FRel C R H rl ql fd) (g : Nat) : zb_RTC C N top ql.length fd g ↔ zb_RT0C C N top g ∨ zb_QR ql g := by
  obtain ⟨_, r1, r2, r3, r4, r5⟩ := zb_fr
  have hq : (∃ i, i < ql.length ∧ (C 24 ((fd + i) % 500) = 17179869184 + (g : Int) ∨ C 25 ((fd + i) % 500) = 17179869184 + (g : Int))) ↔ zb_QR ql g := by
    constructor
    · rintro ⟨i, hi, h⟩
      have := r2 i hi
      rw [this.1, this.2] at h
      refine ⟨ql[i], List.getElem_mem hi, ?_⟩
      rcases h with h | h
      · left; omega
      · right; omega
    · rintro ⟨x, hx, h⟩
      obtain ⟨i, hi, e⟩ := List.getElem_of_mem hx
      have := r2 i hi
      rw [e] at this
      refine ⟨i, hi, ?_⟩
      rw [this.1, this.2]
      rcases h with h | h
      · left; rw [h]
      · right; rw [h]
  unfold zb_RTC zb_RT0C
  rw [hq]
  constructor
  · rintro (h | h | h | h | h)
    · exact Or.inl (Or.inl h)
    · exact Or.inl (Or.inr (Or.inl h))
    · exact Or.inl (Or.inr (Or.inr (Or.inl h)))
    · exact Or.inl (Or.inr (Or.inr (Or.inr h)))
    · exact Or.inr h
  · rintro ((h | h | h | h) | h)
    · exact Or.inl h
    · exact Or.inr (Or.inl h)
    · exact Or.inr (Or.inr (Or.inl h))
    · exact Or.inr (Or.inr (Or.inr (Or.inl h)))
    · exact Or.inr (Or.inr (Or.inr (Or.inr h)))
theorem zb_rtr_q (hr : zb_HR C R H cn N lam scp) (zb_fr : zb_FRel C R H rl ql fd) {R9 : eM} (h75 : R9 75 = R 75) (h76 : R9 76 = R 76) {g : Nat} (hg : g ∈ zb_hO H) : zb_RTR R9 H sk zb_fo bn N ql.length g ↔ zb_RT0R R9 H sk zb_fo bn N g ∨ zb_QR ql g := by
  obtain ⟨_, r1, r2, r3, r4, r5⟩ := zb_fr
  have ovi : ∀ a b, a ∈ zb_hO H → b ∈ zb_hO H → zb_ov (zb_hP H a) = zb_ov (zb_hP H b) → a = b := fun a b ha hb h => zb_hr_inj hr ha hb (by unfold zb_ov at h; omega)
  have hq : (∃ i, i < ql.length ∧ (R9 75 i = zb_ov (zb_hP H g) ∨ R9 76 i = zb_ov (zb_hP H g))) ↔ zb_QR ql g := by
    rw [h75, h76]
    constructor
    · rintro ⟨i, hi, h⟩
      have := r4 i hi
      obtain ⟨v1, v2⟩ := r5 ql[i] (List.mem_append_right _ (List.getElem_mem hi))
      rw [this.1, this.2] at h
      refine ⟨ql[i], List.getElem_mem hi, ?_⟩
      rcases h with h | h
      · left; exact ovi _ _ v1.1 hg h
      · right; exact ovi _ _ v2.1 hg h
    · rintro ⟨x, hx, h⟩
      obtain ⟨i, hi, e⟩ := List.getElem_of_mem hx
      have := r4 i hi
      rw [e] at this
      refine ⟨i, hi, ?_⟩
      rw [this.1, this.2]
      rcases h with h | h
      · left; rw [h]
      · right; rw [h]
  unfold zb_RTR zb_RT0R
  rw [hq]
  constructor
  · rintro (h | h | h | h | h | h)
    · exact Or.inl (Or.inl h)
    · exact Or.inl (Or.inr (Or.inl h))
    · exact Or.inl (Or.inr (Or.inr (Or.inl h)))
    · exact Or.inl (Or.inr (Or.inr (Or.inr (Or.inl h))))
    · exact Or.inl (Or.inr (Or.inr (Or.inr (Or.inr h))))
    · exact Or.inr h
  · rintro ((h | h | h | h | h) | h)
    · exact Or.inl h
    · exact Or.inr (Or.inl h)
    · exact Or.inr (Or.inr (Or.inl h))
    · exact Or.inr (Or.inr (Or.inr (Or.inl h)))
    · exact Or.inr (Or.inr (Or.inr (Or.inr (Or.inl h))))
    · exact Or.inr (Or.inr (Or.inr (Or.inr (Or.inr h))))
theorem zb_rgs_of (zb_fr : zb_FRel C R H rl ql fd) (h11 : C 38 11 = ((cn / 3 + 1 : Nat) : Int)) : zb_RGS C H (cn / 3 + 1) rl.length := by
  obtain ⟨⟨f1, f2, f3, f4, f5, f6, f7⟩, r1, r2, r3, r4, r5⟩ := zb_fr
  refine ⟨by omega, f1, h11, fun i hi => ?_⟩
  have := r1 i hi
  rw [Nat.zero_add] at this
  obtain ⟨v1, v2⟩ := r5 rl[i] (List.mem_append_left _ (List.getElem_mem hi))
  exact ⟨⟨_, v1.1, this.1⟩, Or.inl ⟨_, v2.1, this.2⟩⟩
theorem zb_rgr_of (hr : zb_HR C R H cn N lam scp) (zb_fr : zb_FRel C R H rl ql fd) : zb_RGR C R H rl.length := by
  obtain ⟨⟨f1, f2, f3, f4, f5, f6, f7⟩, r1, r2, r3, r4, r5⟩ := zb_fr
  refine ⟨by omega, f2, fun i hi => ?_⟩
  have a := r1 i hi
  have b := r3 i hi
  rw [Nat.zero_add] at a b
  obtain ⟨v1, v2⟩ := r5 rl[i] (List.mem_append_left _ (List.getElem_mem hi))
  refine ⟨Or.inl ⟨_, v1.1, a.1, b.1⟩, Or.inl ⟨_, v2.1, a.2, b.2⟩, fun g hg e => ?_⟩
  rw [a.2] at e
  have : rl[i].2 = g := by omega
  rw [← this]; exact v2.2.2
theorem zb_fr_congr {C' R' : eM} (zb_fr : zb_FRel C R H rl ql fd) (h21 : ∀ f, f ∈ ([2, 5, 6] : List Nat) → C' 21 f = C 21 f) (hc : ∀ c, c ∈ ([22, 23, 24, 25] : List Nat) → C' c = C c) (h45 : ∀ f, f ∈ ([45, 48] : List Nat) → R' 45 f = R 45 f) (hd : ∀ c, c ∈ ([73, 74, 75, 76] : List Nat) → R' c = R c) : zb_FRel C' R' H rl ql fd := by
  obtain ⟨⟨f1, f2, f3, f4, f5, f6, f7⟩, r1, r2, r3, r4, r5⟩ := zb_fr
  refine ⟨⟨by rw [h21 2 (by decide)]; exact f1, by rw [h45 45 (by decide)]; exact f2, by rw [h21 5 (by decide)]; exact f3, f4, by rw [h21 6 (by decide)]; exact f5, by rw [h45 48 (by decide)]; exact f6, f7⟩, fun i hi => by rw [hc 22 (by decide), hc 23 (by decide)]; exact r1 i hi, fun i hi => by rw [hc 24 (by decide), hc 25 (by decide)]; exact r2 i hi, fun i hi => by rw [hd 73 (by decide), hd 74 (by decide)]; exact r3 i hi, fun i hi => by rw [hd 75 (by decide), hd 76 (by decide)]; exact r4 i hi, r5⟩
end GC
section GC
variable {C R : eM} {H : zb_Hp} {cn N top sk zb_fo bn fd : Nat} {lam : Nat → Prop} {scp : Nat → Nat → Prop} {rl ql : List (Nat × Nat)}
theorem zb_rv0_congr {C' : eM} (h : ∀ c, c ∈ ([1, 29, 33, 34, 35, 36, 37] : List Nat) → C' c = C c) : (zb_RV0 C H N top → zb_RV0 C' H N top) ∧ zb_RT0C C' N top = zb_RT0C C N top := by
  have e1 := h 1 (by decide)
  have e2 := h 29 (by decide)
  have e3 := h 33 (by decide)
  have e4 := h 34 (by decide)
  have e5 := h 35 (by decide)
  have e6 := h 36 (by decide)
  have e7 := h 37 (by decide)
  refine ⟨fun hv => ?_, ?_⟩
  · unfold zb_RV0 at hv ⊢; rw [e1, e2, e3, e4, e5, e6, e7]; exact hv
  · funext g; unfold zb_RT0C; rw [e3, e4, e5, e6, e7]
theorem zb_rr0_congr {R' : eM} (h : ∀ c, c ∈ ([72, 77, 82, 84] : List Nat) → R' c = R c) (h45 : ∀ f, f ∈ ([7, 51, 53, 59, 62, 63] : List Nat) → R' 45 f = R 45 f) : (zb_RR0 R H sk zb_fo bn N → zb_RR0 R' H sk zb_fo bn N) ∧ zb_RT0R R' H sk zb_fo bn N = zb_RT0R R H sk zb_fo bn N := by
  have e1 := h 72 (by decide)
  have e2 := h 77 (by decide)
  have e3 := h 82 (by decide)
  have e4 := h 84 (by decide)
  have f1 := h45 7 (by decide)
  have f2 := h45 51 (by decide)
  have f3 := h45 53 (by decide)
  have f4 := h45 59 (by decide)
  have f5 := h45 62 (by decide)
  have f6 := h45 63 (by decide)
  refine ⟨fun hv => ?_, ?_⟩
  · unfold zb_RR0 at hv ⊢; rw [e1, e2, e3, e4, f1, f2, f3, f4, f5, f6]; exact hv
  · funext g; unfold zb_RT0R; rw [e1, e2, e3, e4, f5, f6]
theorem zb_rt_k8 (hr : zb_HR C R H cn N lam scp) (rr : zb_RR0 R H sk zb_fo bn N) {g : Nat} (hg : g ∈ zb_hO H) (h : zb_RT0R R H sk zb_fo bn N g) : zb_hK H g ≠ 8 := by
  obtain ⟨⟨_, _, a⟩, ⟨_, _, b⟩, ⟨_, _, c⟩, ⟨d1, d2⟩, ⟨_, _, e⟩⟩ := rr
  have hp := zb_hr_p hr hg
  have key : ∀ w, zb_rcv H w → w = zb_ov (zb_hP H g) → zb_hK H g ≠ 8 := fun w hw e => by
    rcases hw with ⟨g', g1, g2, g3⟩ | hn
    · have : g' = g := zb_hr_inj hr g1 hg (by rw [e] at g3; unfold zb_ov at g3; omega)
      exact this ▸ g2
    · exfalso
      rw [e, zb_sh_ov hp] at hn
      unfold zb_ov at hn; omega
  rcases h with ⟨i, i1, i2⟩ | ⟨i, i1, i2⟩ | ⟨i, i1, i2⟩ | (h | h) | ⟨i, i1, i2⟩
  · exact key _ (a i i1) i2
  · exact key _ (b i i1) i2
  · exact key _ (c i i1) i2
  · exact key _ d1 h
  · exact key _ d2 h
  · exact key _ (e i i1) i2
theorem zb_clx_eq {M M' : eM} {L1 : Nat → Prop} (h : M' 16 = M 16) (hx : zb_CLX C M H L1) : zb_CLX C M' H L1 := by
  unfold zb_CLX zb_cf zb_cl at hx ⊢; rw [h]; exact hx
theorem zb_sv_eq {M M' : eM} {L : Nat → Prop} (h : M' 16 = M 16) (hx : zb_SV M H L) : zb_SV M' H L := by
  unfold zb_SV zb_cf at hx ⊢; rw [h]; exact hx
theorem zb_fst1_i {L : Nat → Prop} {x : Nat × Nat} {l : List (Nat × Nat)} : x ∈ zb_fst1 L l ↔ x ∈ l ∧ L x.1 := by
  induction l with
  | nil => simp [zb_fst1]
  | cons a t ih =>
    by_cases h : L a.1
    · rw [(zb_fst_t h).1, List.mem_cons, List.mem_cons, ih]
      constructor
      · rintro (e | e)
        · exact ⟨Or.inl e, e ▸ h⟩
        · exact ⟨Or.inr e.1, e.2⟩
      · rintro ⟨e | e, q⟩
        · exact Or.inl e
        · exact Or.inr ⟨e, q⟩
    · rw [(zb_fst_f h).1, List.mem_cons, ih]
      constructor
      · rintro e; exact ⟨Or.inr e.1, e.2⟩
      · rintro ⟨e | e, q⟩
        · exact absurd (e ▸ q) h
        · exact ⟨e, q⟩
theorem zb_lvl_all {P : Nat → Prop} : ∀ {l : List Nat}, (∀ x, x ∈ l → P x) → zb_lvl P l = l := by
  intro l
  induction l with
  | nil => intro _; rfl
  | cons a t ih => intro h; rw [(zb_lvl_t (h a List.mem_cons_self)).1, ih (fun x hx => h x (List.mem_cons_of_mem _ hx))]
theorem zb_fst0_nil {L : Nat → Prop} : ∀ {l : List (Nat × Nat)}, zb_fst0 L l = [] → zb_fst1 L l = l := by
  intro l
  induction l with
  | nil => intro _; rfl
  | cons a t ih =>
    intro h
    by_cases hl : L a.1
    · rw [(zb_fst_t hl).2] at h; rw [(zb_fst_t hl).1, ih h]
    · rw [(zb_fst_f hl).2] at h; cases h
theorem zb_collect (hr : zb_HR C R H cn N lam scp) (hN : N ≤ 444) (zb_fr : zb_FRel C R H rl ql fd) (h11 : C 38 11 = ((cn / 3 + 1 : Nat) : Int)) (zb_rv : zb_RV0 C H N top) (rr : zb_RR0 R H sk zb_fo bn N) (hal : ∀ g, g ∈ zb_hO H → (zb_RT0C C N top g ↔ zb_RT0R R H sk zb_fo bn N g)) (h67 : 100 ≤ R 45 67) :
    ∃ (C' R' : eM) (H' : zb_Hp) (rl' ql' : List (Nat × Nat)), fn_132 cn (cn / 3 + 1) C = some C' ∧ fn_197 R = some (1, R') ∧ zb_HR C' R' H' cn N lam scp ∧ zb_FRel C' R' H' rl' ql' fd ∧ (∀ x, x ∈ rl' ++ ql' → x ∈ rl ++ ql) ∧ rl'.length + ql'.length = rl.length + ql.length
      ∧ (∀ h, zb_hK H' h = zb_hK H h ∧ zb_hZ H' h = zb_hZ H h ∧ zb_hP H' h = zb_hP H h) ∧ (∀ h, h ∈ zb_hO H' → h ∈ zb_hO H) ∧ (∀ g, g ∈ zb_hO H → zb_RT0C C N top g → g ∈ zb_hO H')
      ∧ (∀ h i, h ∈ zb_hO H' → zb_hK H h ≤ 4 → i < zb_hZ H h → zb_cl C' H' h i = zb_cl C H h i)
      ∧ C' 38 5 = eg_wi (C 38 5 + 1) ∧ (∀ f, f ≠ 5 → f ≠ 8 → C' 38 f = C 38 f) ∧ (∀ f, f ≠ 6 → f ≠ 7 → f ≠ 9 → C' 15 f = C 15 f) ∧ (∀ c, c ∉ ([15, 16, 17, 18, 21, 22, 23, 24, 25, 38, 39, 40, 41, 42] : List Nat) → C' c = C c)
      ∧ R' 45 67 = eg_wi (R 45 67 - 100) ∧ R' 45 43 = eg_wi (R 45 43 + 1) ∧ (∀ f, f ∉ ([28, 29, 38, 41, 43, 45, 48, 64, 67] : List Nat) → R' 45 f = R 45 f) ∧ (∀ c, c ∉ ([45, 67, 68, 69, 70, 71, 73, 74, 75, 76, 85] : List Nat) → R' c = R c) := by
  have c0a : ∀ c, c ≠ 38 → (eg_u C 38 5 (eg_wi (C 38 5 + 1))) c = C c := fun c hc => eg_u_ne hc
  have c0b : ∀ f, f ≠ 5 → (eg_u C 38 5 (eg_wi (C 38 5 + 1))) 38 f = C 38 f := fun f hf => by simp [eg_u, hf]
  have c0c : (eg_u C 38 5 (eg_wi (C 38 5 + 1))) 38 5 = eg_wi (C 38 5 + 1) := by simp [eg_u]
  have r0a : ∀ c, c ≠ 45 → (eg_u (eg_u R 45 67 (eg_wi (R 45 67 - 100))) 45 43 (eg_wi (R 45 43 + 1))) c = R c := fun c hc => by rw [eg_u_ne hc, eg_u_ne hc]
  have r0b : ∀ f, f ≠ 67 → f ≠ 43 → (eg_u (eg_u R 45 67 (eg_wi (R 45 67 - 100))) 45 43 (eg_wi (R 45 43 + 1))) 45 f = R 45 f := fun f h1 h2 => by simp [eg_u, h1, h2]
  have r0c : (eg_u (eg_u R 45 67 (eg_wi (R 45 67 - 100))) 45 43 (eg_wi (R 45 43 + 1))) 45 67 = eg_wi (R 45 67 - 100) := by simp [eg_u]
  have r0d : (eg_u (eg_u R 45 67 (eg_wi (R 45 67 - 100))) 45 43 (eg_wi (R 45 43 + 1))) 45 43 = eg_wi (R 45 43 + 1) := by simp [eg_u]
  have fC : fn_132 cn (cn / 3 + 1) C = (fn_133 cn (cn / 3 + 1) (eg_u C 38 5 (eg_wi (C 38 5 + 1)))).bind fun m3 => (fn_144 cn (cn / 3 + 1) m3).bind fun m6 => (fn_146 (cn / 3 + 1) m6).bind fun m9 => if m9 21 6 ≤ m6 21 6 then (fn_147 cn (cn / 3 + 1) m9).bind fun m13 => some m13 else (fn_133 cn (cn / 3 + 1) m9).bind fun m16 => (fn_147 cn (cn / 3 + 1) m16).bind fun m19 => some m19 := rfl
  have fR : fn_197 R = (fn_198 (eg_u (eg_u R 45 67 (eg_wi (R 45 67 - 100))) 45 43 (eg_wi (R 45 43 + 1)))).bind fun m4 => lp (fun z => fn_197_25 z.1 z.2) (0, m4) := by
    unfold fn_197; rw [if_pos h67]
  generalize eg_u C 38 5 (eg_wi (C 38 5 + 1)) = C0 at c0a c0b c0c fC
  generalize eg_u (eg_u R 45 67 (eg_wi (R 45 67 - 100))) 45 43 (eg_wi (R 45 43 + 1)) = R0 at r0a r0b r0c r0d fR
  have hr0 : zb_HR C0 R0 H cn N lam scp := zb_hr_congr hr (fun f _ => by rw [c0a 15 (by decide)]) (fun c hc => c0a c (by intro e; subst e; simp at hc)) (fun f hf => r0b f (by intro e; subst e; simp at hf) (by intro e; subst e; simp at hf)) (fun c hc => r0a c (by intro e; subst e; simp at hc))
  have fr0 : zb_FRel C0 R0 H rl ql fd := zb_fr_congr zb_fr (fun f _ => by rw [c0a 21 (by decide)]) (fun c hc => c0a c (by intro e; subst e; simp at hc)) (fun f hf => r0b f (by intro e; subst e; simp at hf) (by intro e; subst e; simp at hf)) (fun c hc => r0a c (by intro e; subst e; simp at hc))
  obtain ⟨rvc, rve⟩ := zb_rv0_congr (C := C) (C' := C0) (H := H) (N := N) (top := top) (fun c hc => c0a c (by intro e; subst e; simp at hc))
  have rv0 := rvc zb_rv
  obtain ⟨rrc, rre⟩ := zb_rr0_congr (R := R) (R' := R0) (H := H) (sk := sk) (zb_fo := zb_fo) (bn := bn) (N := N) (fun c hc => r0a c (by intro e; subst e; simp at hc)) (fun f hf => r0b f (by intro e; subst e; simp at hf) (by intro e; subst e; simp at hf))
  have rr0 := rrc rr
  have hal0 : ∀ g, g ∈ zb_hO H → (zb_RT0C C0 N top g ↔ zb_RT0R R0 H sk zb_fo bn N g) := fun g hg => by rw [rve, rre]; exact hal g hg
  have h110 : C0 38 11 = ((cn / 3 + 1 : Nat) : Int) := by rw [c0b 11 (by decide)]; exact h11
  obtain ⟨⟨fl, hs, hH⟩, ⟨fs, fc, hQ⟩, _⟩ := id hr0
  have hlt : ∀ g, g ∈ zb_hO H → 1 ≤ g ∧ g < cn / 3 + 1 ∧ g < 20000 := fun g hg => by have := zb_hr_h hr0 hg; omega
  have hall : ∀ h, h ∈ zb_hO H → h < hs + 1 := fun h hh => by have := (hH.2.2.2.2.2.2 h).mp (List.mem_append_left _ hh); omega
  obtain ⟨L1, hL1⟩ : ∃ L1, L1 = zb_LV C0 H rl.length (fun g => zb_RT0C C0 N top g ∨ zb_QR ql g) := ⟨_, rfl⟩
  obtain ⟨M1, La, e133, ms, hLa⟩ := zb_find_live hr0 (zb_rgs_of fr0 h110) (zb_rtv_of fr0 rv0)
  rw [zb_LV_congr (fun g _ => zb_rtc_q fr0 g), ← hL1] at hLa
  obtain ⟨s1, s2, s3, s4, s5, s6, s7⟩ := ms
  have ltr1 : zb_LTR M1 H L1 := fun h hh => by
    have hx := hlt h hh
    rw [s5 h hx.1 hx.2.1]
    exact ⟨fun z => if_pos ((hLa h hh).mpr z), fun z => if_neg (fun q => z ((hLa h hh).mp q))⟩
  obtain ⟨m4, Lb, e198, q1, q2, q3, hLb⟩ := zb_reckon_ok hr0 (zb_rgr_of hr0 fr0) (zb_rrv_of fr0 rr0)
  rw [zb_LV_congr (fun g hg => (zb_rtr_q hr0 fr0 rfl rfl hg).trans (or_congr_left (hal0 g hg).symm)), ← hL1] at hLb
  have rlt1 : zb_RLT m4 H L1 := fun h hh => by
    rw [q3 h hh]
    exact ⟨fun z => if_pos ((hLb h hh).mpr z), fun z => if_neg (fun q => z ((hLb h hh).mp q))⟩
  have hHM1 : zb_HC M1 cn (zb_hO H) fl hs (zb_hU H) (zb_hS H) (zb_hZ H) (zb_hK H) := zb_hc_congr hH (fun f _ => by rw [s1 15 (by decide)]) (fun c hc => s1 c (by simp only [List.mem_cons, List.not_mem_nil, or_false] at hc ⊢; omega))
  obtain ⟨M2, e144, hH2, u2, clr⟩ := zb_clear_loop (M0 := M1) (Lp := L1) hr0 hN hH ltr1 (fun c c1 c2 c3 c4 c5 => s1 c (by simp [c1, c2, c3, c4, c5])) hs 1 M1 (Nat.le_refl _) (by omega) hHM1 (fun c _ => rfl) ⟨fun h i _ _ _ => by unfold zb_cl; rw [s1 16 (by decide)], fun h hh hx => by have := hlt h hh; omega, fun h hh hx => by have := hlt h hh; omega, fun h hh hx => by have := hlt h hh; omega⟩
  have hQ4 : zb_HQ m4 cn (zb_hU H) ((zb_hO H).map (zb_hP H)) fs fc (zb_hC H) := zb_hq_congr hQ (fun f hf => q2 f (by intro e; subst e; simp at hf)) (fun c hc => q1 c (by simp only [List.mem_cons, List.not_mem_nil, or_false] at hc ⊢; omega))
  obtain ⟨M2r, e25, hQ2, u2r, rclr⟩ := zb_rcl_loop (M0 := m4) (Lp := L1) hr0 hN rlt1 (fun c c1 c2 c3 => q1 c (by simp [c1, c2, c3])) 6700 0 m4 (by omega) hQ4 (fun c _ => rfl) ⟨fun h j _ _ _ => by unfold zb_rf; rw [q1 70 (by decide)], fun h hh hx => by omega, fun h hh hx => by omega, fun h hh hx => by omega⟩
  have hr2 : zb_HR M2 M2r (zb_Hcl C0 H L1) cn N lam scp := zb_hr_clear hr0 hH2 hQ2 clr rclr (by rw [u2 15 (by decide), s1 15 (by decide)]) (by rw [u2 20 (by decide), s1 20 (by decide)]) (by rw [u2r 62 (by decide), q1 62 (by decide)]) (by rw [u2r 64 (by decide), q1 64 (by decide)]) (by rw [u2r 66 (by decide), q1 66 (by decide)]) (by rw [u2r 45 (by decide), q2 42 (by decide)])
  have clx2 := zb_clx_of hr0 hall clr
  have ltr2 : zb_LTR M2 H L1 := fun h hh => by rw [u2 39 (by decide)]; exact ltr1 h hh
  have rlt2 : zb_RLT M2r H L1 := fun h hh => by rw [u2r 67 (by decide)]; exact rlt1 h hh
  obtain ⟨⟨f1, f2, f3, f4, f5, f6, f7⟩, r1, r2, r3, r4, r5⟩ := id fr0
  have c2c : ∀ c, c ∉ ([16, 38, 39, 40, 41, 42] : List Nat) → M2 c = C0 c := fun c hc => by
    simp only [List.mem_cons, List.not_mem_nil, or_false, not_or] at hc
    rw [u2 c hc.1, s1 c (by simp [hc])]
  have c2r : ∀ c, c ∉ ([45, 67, 70, 85] : List Nat) → M2r c = R0 c := fun c hc => by
    simp only [List.mem_cons, List.not_mem_nil, or_false, not_or] at hc
    rw [u2r c hc.2.2.1, q1 c (by simp [hc])]
  have c2f : ∀ f, f ≠ 64 → M2r 45 f = R0 45 f := fun f hf => by rw [u2r 45 (by decide), q2 f hf]
  have hqlen : ql.length + rl.length ≤ 500 := by omega
  obtain ⟨M3, e146, t1, t2, t3, t4, t5, t6⟩ := zb_rel_c (cn := cn) (fd := fd) (M0 := M2) hlt ltr2 (n := rl.length) (by omega) f4 rl [] ql 0 M2 (fun x hx => (r5 x (List.mem_append_left _ hx)).1.1) (fun i hi => absurd hi (by simp)) (zb_rowC_eq r1 (fun i _ => by rw [c2c 22 (by decide), c2c 23 (by decide)]; exact ⟨rfl, rfl⟩)) (by simp) (by omega) (zb_queC_eq r2 (fun i _ => by rw [c2c 24 (by decide), c2c 25 (by decide)]; exact ⟨rfl, rfl⟩)) (by rw [c2c 21 (by decide)]; exact f5) (by rw [c2c 21 (by decide)]; exact f1) (by rw [c2c 21 (by decide)]; exact f3) hqlen (fun c _ => rfl)
  obtain ⟨M3r, e95, v1, v2, v3, v4, v5, v6⟩ := zb_rel_r (M0 := M2r) (fun h hh => zb_hr_p hr0 hh) rlt2 (n := rl.length) (by omega) rl [] ql 0 M2r (fun x hx => (r5 x (List.mem_append_left _ hx)).1.1) (fun i hi => absurd hi (by simp)) (zb_rowR_eq r3 (fun i _ => by rw [c2r 73 (by decide), c2r 74 (by decide)]; exact ⟨rfl, rfl⟩)) (by simp) (by omega) (zb_queR_eq r4 (fun i _ => by rw [c2r 75 (by decide), c2r 76 (by decide)]; exact ⟨rfl, rfl⟩)) (by rw [c2f 48 (by decide)]; exact f6) (by rw [c2f 45 (by decide)]; exact f2) hqlen (fun c _ => rfl) (fun f _ => rfl)
  rw [List.nil_append] at t1 t3 v1 v3
  rw [List.nil_append] at e95
  have hlen2 : (zb_fst1 L1 rl).length + (ql ++ zb_fst0 L1 rl).length = rl.length + ql.length := by
    have := zb_fst_len (Lp := L1) (l := rl); rw [List.length_append]; omega
  have fr3 : zb_FRel M3 M3r (zb_Hcl C0 H L1) (zb_fst1 L1 rl) (ql ++ zb_fst0 L1 rl) fd := by
    refine ⟨⟨t3, v3, t5, f4, t4, v4, by omega⟩, t1, t2, v1, v2, fun x hx => ?_⟩
    rcases List.mem_append.mp hx with z | z
    · exact r5 x (List.mem_append_left _ (zb_fst_m (Or.inl z)))
    · rcases List.mem_append.mp z with z | z
      · exact r5 x (List.mem_append_right _ z)
      · exact r5 x (List.mem_append_left _ (zb_fst_m (Or.inr z)))
  have hr3 : zb_HR M3 M3r (zb_Hcl C0 H L1) cn N lam scp := zb_hr_congr hr2 (fun f _ => by rw [t6 15 (by decide)]) (fun c hc => t6 c (by simp only [List.mem_cons, List.not_mem_nil, or_false] at hc ⊢; omega)) (fun f hf => v6 f (by intro e; subst e; simp at hf) (by intro e; subst e; simp at hf)) (fun c hc => v5 c (by simp only [List.mem_cons, List.not_mem_nil, or_false] at hc ⊢; omega))
  have c3c : ∀ c, c ∉ ([16, 21, 22, 23, 24, 25, 38, 39, 40, 41, 42] : List Nat) → M3 c = C0 c := fun c hc => by
    simp only [List.mem_cons, List.not_mem_nil, or_false, not_or] at hc
    rw [t6 c (by simp [hc]), c2c c (by simp [hc])]
  have c3r : ∀ c, c ∉ ([45, 67, 70, 73, 74, 75, 76, 85] : List Nat) → M3r c = R0 c := fun c hc => by
    simp only [List.mem_cons, List.not_mem_nil, or_false, not_or] at hc
    rw [v5 c (by simp [hc]), c2r c (by simp [hc])]
  have c3f : ∀ f, f ≠ 64 → f ≠ 48 → f ≠ 45 → M3r 45 f = R0 45 f := fun f h1 h2 h3 => by rw [v6 f h2 h3, c2f f h1]
  have clx3 : zb_CLX C0 M3 H L1 := zb_clx_eq (t6 16 (by decide)) clx2
  obtain ⟨rvc3, rve3⟩ := zb_rv0_congr (C := C0) (C' := M3) (H := H) (N := N) (top := top) (fun c hc => c3c c (by simp only [List.mem_cons, List.not_mem_nil, or_false] at hc ⊢; omega))
  have rv3 : zb_RV0 M3 (zb_Hcl C0 H L1) N top := rvc3 rv0
  obtain ⟨rrc3, rre3⟩ := zb_rr0_congr (R := R0) (R' := M3r) (H := H) (sk := sk) (zb_fo := zb_fo) (bn := bn) (N := N) (fun c hc => c3r c (by simp only [List.mem_cons, List.not_mem_nil, or_false] at hc ⊢; omega)) (fun f hf => c3f f (by intro e; subst e; simp at hf) (by intro e; subst e; simp at hf) (by intro e; subst e; simp at hf))
  have rr3 : zb_RR0 M3r (zb_Hcl C0 H L1) sk zb_fo bn N := rrc3 rr0
  obtain ⟨L2, hL2⟩ : ∃ L2, L2 = zb_LV M3 (zb_Hcl C0 H L1) (zb_fst1 L1 rl).length (fun g => zb_RT0C M3 N top g ∨ zb_QR (ql ++ zb_fst0 L1 rl) g) := ⟨_, rfl⟩
  have hreg : ∀ i, i < rl.length → zb_lvs L1 (C0 22 i) → ∃ i', i' < (zb_fst1 L1 rl).length ∧ M3 22 i' = C0 22 i ∧ M3 23 i' = C0 23 i := fun i hi hl => by
    have a := r1 i hi
    rw [Nat.zero_add] at a
    have hm := (r5 rl[i] (List.mem_append_left _ (List.getElem_mem hi))).1.1
    have hin : rl[i] ∈ zb_fst1 L1 rl := zb_fst1_i.mpr ⟨List.getElem_mem hi, hl _ (hlt _ hm).2.2 a.1⟩
    obtain ⟨i', hi', e⟩ := List.getElem_of_mem hin
    have b := t1 i' hi'
    rw [Nat.zero_add, e] at b
    exact ⟨i', hi', by rw [b.1, a.1], by rw [b.2, a.2]⟩
  have h12 : ∀ h, L1 h → L2 h := fun h hh => by
    rw [hL1] at hh hL2 clx3 hreg
    rw [hL2]
    refine zb_sub12 hr0 clx3 (fun g hg z => ?_) hreg hh
    rcases z with z | ⟨x, x1, x2⟩
    · left; rw [rve3]; exact z
    · right; exact ⟨x, List.mem_append_left _ (by rw [← hL1] at *; exact x1), x2⟩
  have hk8 : ∀ h, h ∈ zb_hO H → (zb_RT0C M3 N top h ∨ zb_QR (ql ++ zb_fst0 L1 rl) h) → zb_hK H h ≠ 8 := fun h hh z => by
    rcases z with z | ⟨x, x1, x2⟩
    · rw [rve3] at z
      exact zb_rt_k8 hr0 rr0 hh ((hal0 h hh).mp z)
    · have hx := fr3.2.2.2.2.2 x (List.mem_append_right _ x1)
      rcases x2 with e | e
      · rw [← e]; exact hx.1.2.2
      · rw [← e]; exact hx.2.2.2
  have hg8 : ∀ i g, i < (zb_fst1 L1 rl).length → g ∈ zb_hO H → M3 23 i = 17179869184 + (g : Int) → zb_hK H g ≠ 8 := fun i g hi hg e => by
    have b := t1 i hi
    rw [Nat.zero_add] at b
    have hx := fr3.2.2.2.2.2 _ (List.mem_append_left _ (List.getElem_mem hi))
    have : (zb_fst1 L1 rl)[i].2 = g := by rw [b.2] at e; omega
    rw [← this]; exact hx.2.2.2
  have sv3 : zb_SV M3 (zb_Hcl C0 H L1) L2 := by
    rw [hL2]
    refine zb_surv (Rt2 := fun g => zb_RT0C M3 N top g ∨ zb_QR (ql ++ zb_fst0 L1 rl) g) hr0 hr3 hN clx3 hk8 hg8 (fun h hh => ?_)
    rw [← hL2]; exact h12 h hh
  have h113 : M3 38 11 = ((cn / 3 + 1 : Nat) : Int) := by rw [t6 38 (by decide), u2 38 (by decide), s2 11 (by decide)]; exact h110
  have hM4 : ∃ M4, fn_132 cn (cn / 3 + 1) C = ((fn_147 cn (cn / 3 + 1) M4).bind fun m13 => some m13) ∧ (∀ c, c ∉ ([38, 39, 40, 41, 42] : List Nat) → M4 c = M3 c) ∧ (∀ f, f ≠ 8 → M4 38 f = M3 38 f) ∧ zb_LTR M4 H L2 := by
    have e132 : fn_132 cn (cn / 3 + 1) C = if M3 21 6 ≤ M2 21 6 then (fn_147 cn (cn / 3 + 1) M3).bind fun m13 => some m13 else (fn_133 cn (cn / 3 + 1) M3).bind fun m16 => (fn_147 cn (cn / 3 + 1) m16).bind fun m19 => some m19 := by
      have e144' : fn_144 cn (cn / 3 + 1) M1 = some M2 := e144
      have e146' : fn_146 (cn / 3 + 1) M2 = some M3 := e146
      rw [fC, e133, Option.bind_some, e144', Option.bind_some, e146', Option.bind_some]
    have e26 : M2 21 6 = (ql.length : Int) := by rw [c2c 21 (by decide)]; exact f5
    by_cases hnew : zb_fst0 L1 rl = []
    · refine ⟨M3, ?_, fun c _ => rfl, fun f _ => rfl, fun h hh => ?_⟩
      · rw [e132, if_pos (by rw [t4, e26, hnew, List.append_nil]; exact Int.le_refl _)]
      · have h21 : ∀ h, L2 h → L1 h := fun h hh => by
          have hf := zb_fst0_nil hnew
          rw [hL2, hnew, List.append_nil] at hh
          rw [hL1]
          rw [hL1] at hh clx3
          refine zb_eq12 hr0 clx3 (fun g hg z => ?_) (fun i hi => ?_) hh
          · rcases z with z | z
            · left; rw [← rve3]; exact z
            · right; exact z
          · rw [← hL1, hf] at hi
            refine ⟨hi, ?_⟩
            have a := r1 i hi
            have b := t1 i (by rw [hf]; exact hi)
            rw [Nat.zero_add] at a b
            have e : (zb_fst1 L1 rl)[i]'(by rw [hf]; exact hi) = rl[i] := by congr 1
            rw [e] at b
            exact ⟨by rw [a.1, b.1], by rw [a.2, b.2]⟩
        have := ltr2 h hh
        rw [← t6 39 (by decide)] at this
        exact ⟨fun z => this.1 (h21 h z), fun z => this.2 (fun q => z (h12 h q))⟩
    · obtain ⟨M4, Lc, e133b, ms4, hLc⟩ := zb_find_live hr3 (zb_rgs_of fr3 h113) (zb_rtv_of fr3 rv3)
      rw [zb_LV_congr (fun g _ => zb_rtc_q fr3 g), ← hL2] at hLc
      obtain ⟨w1, w2, w3, w4, zb_w5, w6, w7⟩ := ms4
      refine ⟨M4, ?_, w1, w2, fun h hh => ?_⟩
      · have : 0 < (zb_fst0 L1 rl).length := List.length_pos_iff.mpr hnew
        rw [e132, if_neg (by rw [t4, e26, List.length_append]; omega), e133b, Option.bind_some]
      · have hx := hlt h hh
        rw [zb_w5 h hx.1 hx.2.1]
        exact ⟨fun z => if_pos ((hLc h hh).mpr z), fun z => if_neg (fun q => z ((hLc h hh).mp q))⟩
  obtain ⟨M4, eC, w1, w2, ltr4⟩ := hM4
  obtain ⟨m9, Ld, e198b, x1, x2, x3, hLd⟩ := zb_reckon_ok hr3 (zb_rgr_of hr3 fr3) (zb_rrv_of fr3 rr3)
  rw [zb_LV_congr (fun g hg => (zb_rtr_q hr3 fr3 rfl rfl hg).trans (or_congr_left (show zb_RT0R M3r (zb_Hcl C0 H L1) sk zb_fo bn N g ↔ zb_RT0C M3 N top g by rw [rve3]; exact (show zb_RT0R M3r H sk zb_fo bn N g ↔ zb_RT0C C0 N top g by rw [rre3]; exact (hal0 g hg).symm)))), ← hL2] at hLd
  have rlt9 : zb_RLT m9 (zb_Hcl C0 H L1) L2 := fun h hh => by
    rw [x3 h hh]
    exact ⟨fun z => if_pos ((hLd h hh).mpr z), fun z => if_neg (fun q => z ((hLd h hh).mp q))⟩
  obtain ⟨⟨fl3, hs3, hH3⟩, ⟨fs3, fc3, hQ3⟩, _⟩ := id hr3
  have hH4 : zb_HC M4 cn (zb_hO H) fl3 hs3 (zb_hU H) (zb_hS H) (zb_hZ H) (zb_hK H) := zb_hc_congr hH3 (fun f _ => by rw [w1 15 (by decide)]) (fun c hc => w1 c (by simp only [List.mem_cons, List.not_mem_nil, or_false] at hc ⊢; omega))
  obtain ⟨M5, e147, hH5, y1, y2, y3⟩ := zb_keep_c (Lp := L2) hH4 ltr4
  have hQ9 : zb_HQ m9 cn (zb_hU H) ((zb_hO H).map (zb_hP H)) fs3 fc3 (zb_hC H) := zb_hq_congr hQ3 (fun f hf => x2 f (by intro e; subst e; simp at hf)) (fun c hc => x1 c (by simp only [List.mem_cons, List.not_mem_nil, or_false] at hc ⊢; omega))
  have hsm : zb_hU H = zb_sm (zb_hZ H) (zb_hO H) := by have := zb_cum_sm hH.2.1; omega
  have hst0 : zb_lvl (zb_stl (zb_Hcl C0 H L1) L2 0) (zb_hO H) = zb_hO H := zb_lvl_all (fun x _ => Or.inl (Nat.zero_le _))
  obtain ⟨M5r, fs5, fc5, e160, hQ5, z1, z2⟩ := zb_drop_loop (H := zb_Hcl C0 H L1) (cn := cn) (Lp := L2) (M0 := m9) (x1 := ((zb_fst1 L1 rl).length : Int)) (zb_hr_nd hr3) (fun a b ha hb => zb_hr_inj hr3 ha hb) (fun h hh => zb_hr_p hr3 hh) (fun h hh => by
      obtain ⟨o1, o2, o3, o4, _⟩ := zb_hr_ob hr3 hh
      refine ⟨o4, by rw [x1 62 (by decide)]; exact o1, ?_⟩
      rw [x1 63 (by decide), ← o3]
      exact (hQ3.2.2.2.2.2.2.1 _ (List.mem_map_of_mem hh)).2) rlt9 6700 0 m9 fs3 fc3 (by omega) (by
      show zb_HQ m9 cn (zb_sm (zb_hZ H) (zb_lvl (zb_stl (zb_Hcl C0 H L1) L2 0) (zb_hO H))) ((zb_lvl (zb_stl (zb_Hcl C0 H L1) L2 0) (zb_hO H)).map (zb_hP H)) fs3 fc3 (zb_hC H)
      rw [hst0, ← hsm]; exact hQ9) (fun c _ => rfl) (fun f _ => rfl)
  have hr4 : zb_HR M4 m9 (zb_Hcl C0 H L1) cn N lam scp := zb_hr_congr hr3 (fun f _ => by rw [w1 15 (by decide)]) (fun c hc => w1 c (by simp only [List.mem_cons, List.not_mem_nil, or_false] at hc ⊢; omega)) (fun f hf => x2 f (by intro e; subst e; simp at hf)) (fun c hc => x1 c (by simp only [List.mem_cons, List.not_mem_nil, or_false] at hc ⊢; omega))
  have sv4 : zb_SV M4 (zb_Hcl C0 H L1) L2 := zb_sv_eq (w1 16 (by decide)) sv3
  have hr5 : zb_HR M5 M5r (zb_Hmv (zb_Hcl C0 H L1) L2) cn N lam scp := zb_hr_move hr4 hN sv4 hH5 hQ5 y1 (y3 10 (by decide) (by decide) (by decide)) (y2 20 (by decide)) (z1 62 (by decide)) (z1 64 (by decide)) (z1 66 (by decide)) (z1 70 (by decide)) (z2 42 (by decide))
  obtain ⟨d1, d2, d3, d4, d5, d6⟩ := zb_LV_clo (C := M3) (H := zb_Hcl C0 H L1) (rg := (zb_fst1 L1 rl).length) (Rt := fun g => zb_RT0C M3 N top g ∨ zb_QR (ql ++ zb_fst0 L1 rl) g)
  rw [← hL2] at d1 d2 d3 d4 d5 d6
  have c5c : ∀ c, c ∉ ([15, 16, 17, 18, 38, 39, 40, 41, 42] : List Nat) → M5 c = M3 c := fun c hc => by
    simp only [List.mem_cons, List.not_mem_nil, or_false, not_or] at hc
    rw [y2 c (by simp [hc]), w1 c (by simp [hc])]
  have c5r : ∀ c, c ∉ ([45, 67, 68, 69, 71, 85] : List Nat) → M5r c = M3r c := fun c hc => by
    simp only [List.mem_cons, List.not_mem_nil, or_false, not_or] at hc
    rw [z1 c (by simp [hc]), x1 c (by simp [hc])]
  have c5f : ∀ f, f ∉ ([28, 29, 38, 41, 64] : List Nat) → M5r 45 f = M3r 45 f := fun f hf => by
    simp only [List.mem_cons, List.not_mem_nil, or_false, not_or] at hf
    rw [z2 f (by simp [hf]), x2 f hf.2.2.2.2]
  refine ⟨M5, M5r, zb_Hmv (zb_Hcl C0 H L1) L2, zb_fst1 L1 rl, ql ++ zb_fst0 L1 rl, ?_, ?_, hr5, ?_, fun x hx => ?_, hlen2, fun h => ⟨rfl, rfl, rfl⟩, fun h hh => (zb_lvl_m.mp hh).1, fun g hg z => zb_lvl_m.mpr ⟨hg, d1 g hg (Or.inl (by rw [rve3, rve]; exact z))⟩, fun h i hh hk hi => ?_, ?_, ?_, ?_, ?_, ?_, ?_, ?_, ?_⟩
  · rw [eC, e147, Option.bind_some]
  · have e25' : lp (fun z => fn_197_25 z.1 z.2) (0, m4) = lp (fun z => fn_197_95 z.1 z.2.1 z.2.2) (0, 0, M2r) := e25
    have e95' : lp (fun z => fn_197_95 z.1 z.2.1 z.2.2) (0, 0, M2r) = ((fn_198 M3r).bind fun m9 => lp (fun z => fn_197_160 ((zb_fst1 L1 rl).length : Int) z.1 z.2) (0, m9)) := e95
    have e160' : lp (fun z => fn_197_160 ((zb_fst1 L1 rl).length : Int) z.1 z.2) (0, m9) = some (1, M5r) := e160
    rw [fR, e198, Option.bind_some, e25', e95', e198b, Option.bind_some, e160']
  · have base : zb_FRel M5 M5r (zb_Hcl C0 H L1) (zb_fst1 L1 rl) (ql ++ zb_fst0 L1 rl) fd := zb_fr_congr fr3 (fun f _ => by rw [c5c 21 (by decide)]) (fun c hc => c5c c (by simp only [List.mem_cons, List.not_mem_nil, or_false] at hc ⊢; omega)) (fun f hf => c5f f (by simp only [List.mem_cons, List.not_mem_nil, or_false] at hf ⊢; omega)) (fun c hc => c5r c (by simp only [List.mem_cons, List.not_mem_nil, or_false] at hc ⊢; omega))
    obtain ⟨b1, b2, b3, b4, b5, b6⟩ := base
    refine ⟨b1, b2, b3, b4, b5, fun x hx => ?_⟩
    obtain ⟨g1, g2⟩ := b6 x hx
    have hlv : L2 x.1 ∧ L2 x.2 := by
      rcases List.mem_append.mp hx with z | z
      · have hx1 : L2 x.1 := h12 _ (zb_fst1_i.mp z).2
        refine ⟨hx1, ?_⟩
        obtain ⟨i, hi, e⟩ := List.getElem_of_mem z
        have b := t1 i hi
        rw [Nat.zero_add, e] at b
        refine d6 i x.2 hi ?_ g2.1 b.2
        rw [b.1]; intro g hg e9
        have : x.1 = g := by omega
        exact this ▸ hx1
      · exact ⟨d1 _ g1.1 (Or.inr ⟨x, z, Or.inl rfl⟩), d1 _ g2.1 (Or.inr ⟨x, z, Or.inr rfl⟩)⟩
    exact ⟨⟨zb_lvl_m.mpr ⟨g1.1, hlv.1⟩, g1.2⟩, ⟨zb_lvl_m.mpr ⟨g2.1, hlv.2⟩, g2.2⟩⟩
  · rcases List.mem_append.mp hx with z | z
    · exact List.mem_append_left _ (zb_fst_m (Or.inl z))
    · rcases List.mem_append.mp z with z | z
      · exact List.mem_append_right _ z
      · exact List.mem_append_left _ (zb_fst_m (Or.inr z))
  · have e1 : zb_cl M5 (zb_Hmv (zb_Hcl C0 H L1) L2) h i = M4 16 (zb_hS H h + i) := y1 h hh i hi
    rw [e1, w1 16 (by decide)]
    have e2 : M3 16 (zb_hS H h + i) = zb_cl C0 H h i := clx3.2.2.2.2 h i (zb_lvl_m.mp hh).1 hk hi
    rw [e2]; unfold zb_cl; rw [c0a 16 (by decide)]
  · rw [y2 38 (by decide), w2 5 (by decide), t6 38 (by decide), u2 38 (by decide), s2 5 (by decide)]; exact c0c
  · intro f h5 h8
    rw [y2 38 (by decide), w2 f h8, t6 38 (by decide), u2 38 (by decide), s2 f h8]; exact c0b f h5
  · intro f h6 h7 h9
    rw [y3 f h6 h7 h9, w1 15 (by decide), c3c 15 (by decide), c0a 15 (by decide)]
  · intro c hc
    simp only [List.mem_cons, List.not_mem_nil, or_false, not_or] at hc
    rw [c5c c (by simp [hc]), c3c c (by simp [hc]), c0a c hc.2.2.2.2.2.2.2.2.2.1]
  · rw [c5f 67 (by decide), c3f 67 (by decide) (by decide) (by decide)]; exact r0c
  · rw [c5f 43 (by decide), c3f 43 (by decide) (by decide) (by decide)]; exact r0d
  · intro f hf
    simp only [List.mem_cons, List.not_mem_nil, or_false, not_or] at hf
    rw [c5f f (by simp [hf]), c3f f hf.2.2.2.2.2.2.2.1 hf.2.2.2.2.2.2.1 hf.2.2.2.2.2.1, r0b f hf.2.2.2.2.2.2.2.2 hf.2.2.2.2.1]
  · intro c hc
    simp only [List.mem_cons, List.not_mem_nil, or_false, not_or] at hc
    rw [c5r c (by simp [hc]), c3r c (by simp [hc]), r0a c hc.1]
end GC
