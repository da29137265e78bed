def zb_rchg (C : eM) (H : zb_Hp) (Lp : Nat → Prop) (x h j : Nat) : Prop :=
  (zb_hP H h < x ∧ zb_hK H h = 5 ∧ j = 0) ∨ (zb_hP H h < x ∧ zb_hK H h = 6 ∧ (j = 0 ∨ j = 1)) ∨ (zb_hP H h < x ∧ zb_hK H h = 7 ∧ j = 0) ∨ (j = 2 ∧ ∃ t, t ∈ zb_hO H ∧ zb_hP H t < x ∧ zb_hK H t = 7 ∧ h ∈ zb_flt C H Lp (zb_hE H t))
def zb_RCLR (C R M : eM) (H : zb_Hp) (Lp : Nat → Prop) (x : Nat) : Prop :=
  (∀ h j, h ∈ zb_hO H → j < zb_nf (zb_hK H h) (zb_hZ H h) → ¬ zb_rchg C H Lp x h j → zb_rf M H h j = zb_rf R H h j)
  ∧ (∀ h, h ∈ zb_hO H → zb_hP H h < x → zb_hK H h = 5 → (zb_lvs Lp (zb_cf C H h 0) → zb_rf M H h 0 = zb_rf R H h 0) ∧ (¬ zb_lvs Lp (zb_cf C H h 0) → zb_rf M H h 0 = 8589934592))
  ∧ (∀ h, h ∈ zb_hO H → zb_hP H h < x → zb_hK H h = 6 → (zb_lvs Lp (zb_cf C H h 0) → zb_rf M H h 0 = zb_rf R H h 0 ∧ zb_rf M H h 1 = zb_rf R H h 1) ∧ (¬ zb_lvs Lp (zb_cf C H h 0) → zb_rf M H h 0 = 8589934592 ∧ zb_rf M H h 1 = 8589934592))
  ∧ (∀ h, h ∈ zb_hO H → zb_hP H h < x → zb_hK H h = 7 → zb_rech M H (zb_flt C H Lp (zb_hE H h)) (zb_rf M H h 0))
section GC
variable {C R : eM} {H : zb_Hp} {cn N rg hs : Nat} {fs fc : List Nat} {lam : Nat → Prop} {scp : Nat → Nat → Prop} {Lp : Nat → Prop} {M : eM}
theorem zb_rchg_up {x h i : Nat} (h1 : zb_rchg C H Lp x h i) : zb_rchg C H Lp (x + 1) h i := by
  rcases h1 with ⟨a, b⟩ | ⟨a, b⟩ | ⟨a, b⟩ | ⟨a, t, t1, t2, t3⟩
  · exact Or.inl ⟨by omega, b⟩
  · exact Or.inr (Or.inl ⟨by omega, b⟩)
  · exact Or.inr (Or.inr (Or.inl ⟨by omega, b⟩))
  · exact Or.inr (Or.inr (Or.inr ⟨a, t, t1, by omega, t3⟩))
theorem zb_rcl_loop {M0 : eM} (hr : zb_HR C R H cn N lam scp) (hN : N ≤ 444) (hLT : zb_RLT M0 H Lp) (h1 : ∀ c, c ≠ 45 → c ≠ 67 → c ≠ 85 → M0 c = R c) : ∀ (k o : Nat) (M : eM), o + k = 6700 → zb_HQ M cn (zb_hU H) ((zb_hO H).map (zb_hP H)) fs fc (zb_hC H) → (∀ c, c ≠ 70 → M c = M0 c) → zb_RCLR C R M H Lp o →
    ∃ M', lp (fun z => fn_197_25 z.1 z.2) ((o : Int), M) = lp (fun z => fn_197_95 z.1 z.2.1 z.2.2) (0, 0, M') ∧ zb_HQ M' cn (zb_hU H) ((zb_hO H).map (zb_hP H)) fs fc (zb_hC H) ∧ (∀ c, c ≠ 70 → M' c = M0 c) ∧ zb_RCLR C R M' H Lp 6700 := by
  have hl : zb_RLen H := fun h hh => ⟨(zb_hr_ob hr hh).2.2.1, by have := zb_hr_h hr hh; omega⟩
  have hE8 : ∀ t e, t ∈ zb_hO H → zb_hK H t = 7 → e ∈ zb_hE H t → e ∈ zb_hO H ∧ zb_hK H e = 8 := fun t e ht hk he => (hr.2.2.2.1.1 t ht hk).2.2 e he
  have n8 : ∀ e, zb_hK H e = 8 → ∀ j, j < 3 → j < zb_nf (zb_hK H e) (zb_hZ H e) := fun e he j hj => by rw [he]; simp [zb_nf]; exact hj
  have n7 : ∀ e, zb_hK H e = 7 → 0 < zb_nf (zb_hK H e) (zb_hZ H e) := fun e he => by rw [he]; simp [zb_nf]
  have n6 : ∀ e, zb_hK H e = 6 → ∀ j, j < 2 → j < zb_nf (zb_hK H e) (zb_hZ H e) := fun e he j hj => by rw [he]; simp [zb_nf]; exact hj
  have n5 : ∀ e, zb_hK H e = 5 → 0 < zb_nf (zb_hK H e) (zb_hZ H e) := fun e he => by rw [he]; simp [zb_nf]
  intro k
  induction k with
  | zero =>
    intro o M ho hQ hc hcl
    have hoe : o = 6700 := by omega
    subst hoe
    refine ⟨M, lp2_map ?_, hQ, hc, hcl⟩
    unfold fn_197_25
    rw [if_pos (by omega)]
  | succ k ih =>
    intro o M ho hQ hc hcl
    have fin : ∀ M1 : eM, fn_197_25 (o : Int) M = some (.inl (((o + 1 : Nat) : Int), M1)) → zb_HQ M1 cn (zb_hU H) ((zb_hO H).map (zb_hP H)) fs fc (zb_hC H) → (∀ c, c ≠ 70 → M1 c = M0 c) → zb_RCLR C R M1 H Lp (o + 1) → ∃ M', lp (fun z => fn_197_25 z.1 z.2) ((o : Int), M) = lp (fun z => fn_197_95 z.1 z.2.1 z.2.2) (0, 0, M') ∧ zb_HQ M' cn (zb_hU H) ((zb_hO H).map (zb_hP H)) fs fc (zb_hC H) ∧ (∀ c, c ≠ 70 → M' c = M0 c) ∧ zb_RCLR C R M' H Lp 6700 := by
      intro M1 a b c d
      obtain ⟨M', r1, r2, r3, r4⟩ := ih (o + 1) M1 (by omega) b c d
      exact ⟨M', (lp2_inl a).trans r1, r2, r3, r4⟩
    have hLTM : zb_RLT M H Lp := fun h hh => by rw [hc 67 (by decide)]; exact hLT h hh
    have hQ0 := hQ
    obtain ⟨q1, q2, q3, q4, q5, q6, q7, _⟩ := hQ
    by_cases hin : o ∈ (zb_hO H).map (zb_hP H)
    · obtain ⟨h, hh, hho⟩ := List.mem_map.mp hin
      have h68 : M 68 o = 1 := q5 o hin
      have hu : ∀ x, x ∈ zb_hO H → zb_hP H x = o → x = h := fun x hx hxo => zb_hr_inj hr hx hh (hxo.trans hho.symm)
      have h62 : M 62 o = (zb_hK H h : Int) - 1 := by rw [hc 62 (by decide), h1 62 (by decide) (by decide) (by decide), ← hho]; exact (zb_hr_ob hr hh).1
      have lt1 : ∀ x, x ∈ zb_hO H → x ≠ h → zb_hP H x < o + 1 → zb_hP H x < o := fun x hx hne hlt => by
        have : zb_hP H x ≠ o := fun z => hne (hu x hx z)
        omega
      have un : ∀ j, j < zb_nf (zb_hK H h) (zb_hZ H h) → zb_hK H h ≠ 8 → zb_rf M H h j = zb_rf R H h j := fun j hj hk8 => hcl.1 h j hh hj (fun z => by
        rcases z with ⟨z, _⟩ | ⟨z, _⟩ | ⟨z, _⟩ | ⟨_, t, z1, _, z2, z3⟩
        · omega
        · omega
        · omega
        · exact hk8 (hE8 t h z1 z2 (zb_flt_m z3)).2)
      have one : ∀ M1 : eM, zb_hK H h ≠ 7 → (∀ y j, y ∈ zb_hO H → j < zb_nf (zb_hK H y) (zb_hZ H y) → ¬ (y = h ∧ ((zb_hK H h = 5 ∧ j = 0) ∨ (zb_hK H h = 6 ∧ (j = 0 ∨ j = 1)))) → zb_rf M1 H y j = zb_rf M H y j) →
          (zb_hK H h = 5 → (zb_lvs Lp (zb_cf C H h 0) → zb_rf M1 H h 0 = zb_rf R H h 0) ∧ (¬ zb_lvs Lp (zb_cf C H h 0) → zb_rf M1 H h 0 = 8589934592)) →
          (zb_hK H h = 6 → (zb_lvs Lp (zb_cf C H h 0) → zb_rf M1 H h 0 = zb_rf R H h 0 ∧ zb_rf M1 H h 1 = zb_rf R H h 1) ∧ (¬ zb_lvs Lp (zb_cf C H h 0) → zb_rf M1 H h 0 = 8589934592 ∧ zb_rf M1 H h 1 = 8589934592)) → zb_RCLR C R M1 H Lp (o + 1) := by
        intro M1 k7 hun1 g5 g6
        obtain ⟨u, f5, f6, f7⟩ := hcl
        refine ⟨fun x j hx hj hcc => ?_, fun x hx hxx hk => ?_, fun x hx hxx hk => ?_, fun x hx hxx hk => ?_⟩
        · rw [hun1 x j hx hj (fun z => ?_), u x j hx hj (fun z => hcc (zb_rchg_up z))]
          rcases z with ⟨z, z1 | z1⟩
          · exact hcc (Or.inl ⟨by rw [z, hho]; omega, by rw [z]; exact z1.1, z1.2⟩)
          · exact hcc (Or.inr (Or.inl ⟨by rw [z, hho]; omega, by rw [z]; exact z1.1, z1.2⟩))
        · by_cases e : x = h
          · subst e; exact g5 hk
          · rw [hun1 x 0 hx (n5 x hk) (fun z => e z.1)]
            exact f5 x hx (lt1 x hx e hxx) hk
        · by_cases e : x = h
          · subst e; exact g6 hk
          · rw [hun1 x 0 hx (n6 x hk 0 (by omega)) (fun z => e z.1), hun1 x 1 hx (n6 x hk 1 (by omega)) (fun z => e z.1)]
            exact f6 x hx (lt1 x hx e hxx) hk
        · by_cases e : x = h
          · subst e; exact absurd hk k7
          · rw [hun1 x 0 hx (n7 x hk) (fun z => e z.1)]
            refine zb_rech_eq (fun q hq => ?_) (f7 x hx (lt1 x hx e hxx) hk)
            obtain ⟨w1, w2⟩ := hE8 x q hx hk (zb_flt_m hq)
            exact hun1 q 2 w1 (n8 q w2 2 (by omega)) (fun z => by omega)
      by_cases k7 : zb_hK H h = 7
      · obtain ⟨u1, u2, u3⟩ := hr.2.2.2.1.1 h hh k7
        have hfd := ((zb_hr_ob hr hh).2.2.2.2.1 0 (n7 h k7)).1 (Or.inr (Or.inl k7))
        have ecf : zb_cf C H h 0 = zb_lv (C 16 (zb_hS H h + 1)) := by unfold zb_cf zb_ci; rw [k7]; rfl
        rw [ecf] at hfd
        have hre := zb_rech_of hr (zb_hE H h) _ _ (zb_lt H h) (fun q hq => hq.1) u1 u3 hfd
        have hnd := zb_ech_nd hr _ _ u1 u3
        have hun8 : ∀ e j, e ∈ zb_hO H → zb_hK H e = 8 → j < 3 → (j = 2 → e ∈ zb_hE H h) → zb_rf M H e j = zb_rf R H e j := fun e j he hk hj hj2 => by
          refine hcl.1 e j he (n8 e hk j hj) (fun z => ?_)
          rcases z with ⟨_, z, _⟩ | ⟨_, z, _⟩ | ⟨_, z, _⟩ | ⟨z, t, t1, t2, t3, t4⟩
          · omega
          · omega
          · omega
          · have := hr.2.2.2.1.2 t h e t1 t3 hh k7 (zb_flt_m t4) (hj2 z)
            rw [this, hho] at t2; omega
        have hreM : zb_rech M H (zb_hE H h) (zb_rlk H (zb_hE H h)) := by
          rw [← zb_rech_hd hre]
          exact zb_rech_eq (fun e he => hun8 e 2 (u3 e he).1 (u3 e he).2 (by omega) (fun _ => he)) hre
        have e0 : zb_rf M H h 0 = zb_rlk H (zb_hE H h) := by rw [un 0 (n7 h k7) (by omega)]; exact zb_rech_hd hre
        have t0 : fn_189 (zb_ov o) 0 M = some (zb_rlk H (zb_hE H h)) := by rw [← hho, ← e0]; exact zb_get_rx hQ0 hl hh (n7 h k7)
        obtain ⟨M1, b1, b2, b3, b4, b5⟩ := zb_thin_loop (C := C) (Lp := Lp) (M0 := M) (cn := cn) (fs := fs) (fc := fc) hl hh k7 hLTM (fun e he hk => by
          rw [hun8 e 0 he hk (by omega) (fun z => by omega)]; exact zb_hr_pv hr hN he (n8 e hk 0 (by omega))) (zb_hE H h) [] M hQ0 e0 hreM (fun e he => u3 e (by simpa using he)) (by simpa using hnd) (fun y j hy hj _ _ => rfl) (fun c _ => rfl)
        rw [List.nil_append] at b3 b4
        have e206 : fn_206 (zb_ov o) M = some M1 := by
          unfold fn_206
          rw [t0, Option.bind_some]
          rw [hho] at b1
          exact b1
        refine fin M1 ?_ b2 (fun c hcc => (b5 c hcc).trans (hc c hcc)) ?_
        · unfold fn_197_25
          rw [if_neg (by omega), if_pos (by omega), Int.toNat_natCast, h68, if_pos (by decide), h62, if_pos (by omega), zb_lor_ov (by omega)]
          unfold fn_197_57
          rw [if_pos (by omega), Int.toNat_natCast, h62, if_pos (by omega), if_neg (by omega), e206, Option.bind_some, zb_wi_1 (by omega)]
        · obtain ⟨uu, f5, f6, f7⟩ := hcl
          refine ⟨fun x i hx hi hcc => ?_, fun x hx hxx hk => ?_, fun x hx hxx hk => ?_, fun x hx hxx hk => ?_⟩
          · rw [b4 x i hx hi (fun z => hcc (Or.inr (Or.inr (Or.inl ⟨by rw [z.1, hho]; omega, by rw [z.1]; exact k7, z.2⟩)))) (fun z => hcc (Or.inr (Or.inr (Or.inr ⟨z.2, h, hh, by omega, k7, z.1⟩))))]
            exact uu x i hx hi (fun z => hcc (zb_rchg_up z))
          · have hhx : x ≠ h := fun z => by rw [z] at hk; omega
            rw [b4 x 0 hx (n5 x hk) (fun z => hhx z.1) (fun z => by omega)]
            exact f5 x hx (lt1 x hx hhx hxx) hk
          · have hhx : x ≠ h := fun z => by rw [z] at hk; omega
            rw [b4 x 0 hx (n6 x hk 0 (by omega)) (fun z => hhx z.1) (fun z => by omega), b4 x 1 hx (n6 x hk 1 (by omega)) (fun z => hhx z.1) (fun z => by omega)]
            exact f6 x hx (lt1 x hx hhx hxx) hk
          · by_cases e : x = h
            · subst e; exact b3
            · rw [b4 x 0 hx (n7 x hk) (fun z => e z.1) (fun z => by omega)]
              refine zb_rech_eq (fun q hq => ?_) (f7 x hx (lt1 x hx e hxx) hk)
              obtain ⟨w1, w2⟩ := hE8 x q hx hk (zb_flt_m hq)
              refine b4 q 2 w1 (n8 q w2 2 (by omega)) (fun z => by omega) (fun z => ?_)
              exact e (hr.2.2.2.1.2 x h q hx hk hh k7 (zb_flt_m hq) (zb_flt_m z.1))
      · by_cases k5 : zb_hK H h = 5
        · have hpv := zb_hr_pv hr hN hh (n5 h k5)
          have t0 : fn_189 (zb_ov o) 0 M = some (zb_rf R H h 0) := by rw [← un 0 (n5 h k5) (by omega), ← hho]; exact zb_get_rx hQ0 hl hh (n5 h k5)
          rcases zb_live_r hQ0 hl hLTM hpv with ⟨l1, l2⟩ | ⟨l1, l2⟩
          · refine fin M ?_ hQ0 hc (one M k7 (fun _ _ _ _ _ => rfl) (fun _ => ⟨fun _ => un 0 (n5 h k5) (by omega), fun z => absurd l2 z⟩) (fun z => by omega))
            unfold fn_197_25
            rw [if_neg (by omega), if_pos (by omega), Int.toNat_natCast, h68, if_pos (by decide), h62, if_neg (by omega), zb_lor_ov (by omega), t0, Option.bind_some, l1, Option.bind_some, if_pos (by decide)]
            unfold fn_197_57
            rw [if_pos (by omega), Int.toNat_natCast, h62, if_pos (by omega), if_pos (by omega), zb_wi_1 (by omega)]
          · obtain ⟨M1, a1, a2, a3, a4, a5⟩ := zb_put_rx hQ0 hl (j := 0) (v := 8589934592) hh (n5 h k5)
            rw [hho] at a1
            have a1' : fn_205 (zb_ov o) 0 8589934592 M = some M1 := a1
            have h62' : M1 62 o = (zb_hK H h : Int) - 1 := by rw [a5 62 (by decide)]; exact h62
            refine fin M1 ?_ a2 (fun c hcc => (a5 c hcc).trans (hc c hcc)) (one M1 k7 (fun y j hy hj q => a4 y j hy hj (fun z => q ⟨z.1, Or.inl ⟨k5, z.2⟩⟩)) (fun _ => ⟨fun z => absurd z l2, fun _ => a3⟩) (fun z => by omega))
            unfold fn_197_25
            rw [if_neg (by omega), if_pos (by omega), Int.toNat_natCast, h68, if_pos (by decide), h62, if_neg (by omega), zb_lor_ov (by omega), t0, Option.bind_some, l1, Option.bind_some, if_neg (by decide), a1', Option.bind_some]
            unfold fn_197_57
            rw [if_pos (by omega), Int.toNat_natCast, h62', if_pos (by omega), if_pos (by omega), zb_wi_1 (by omega)]
        · have e57 : fn_197_25 (o : Int) M = fn_197_57 (o : Int) (zb_ov o) M := by
            unfold fn_197_25
            rw [if_neg (by omega), if_pos (by omega), Int.toNat_natCast, h68, if_pos (by decide), h62, if_pos (by omega), zb_lor_ov (by omega)]
          by_cases k6 : zb_hK H h = 6
          · have hpv := zb_hr_pv hr hN hh (n6 h k6 0 (by omega))
            have t0 : fn_189 (zb_ov o) 0 M = some (zb_rf R H h 0) := by rw [← un 0 (n6 h k6 0 (by omega)) (by omega), ← hho]; exact zb_get_rx hQ0 hl hh (n6 h k6 0 (by omega))
            rcases zb_live_r hQ0 hl hLTM hpv with ⟨l1, l2⟩ | ⟨l1, l2⟩
            · refine fin M ?_ hQ0 hc (one M k7 (fun _ _ _ _ _ => rfl) (fun z => by omega) (fun _ => ⟨fun _ => ⟨un 0 (n6 h k6 0 (by omega)) (by omega), un 1 (n6 h k6 1 (by omega)) (by omega)⟩, fun z => absurd l2 z⟩))
              rw [e57]
              unfold fn_197_57
              rw [if_pos (by omega), Int.toNat_natCast, h62, if_neg (by omega), t0, Option.bind_some, l1, Option.bind_some, if_pos (by decide), if_pos (by omega), zb_wi_1 (by omega)]
            · obtain ⟨M1, a1, a2, a3, a4, a5⟩ := zb_put_rx hQ0 hl (j := 0) (v := 8589934592) hh (n6 h k6 0 (by omega))
              obtain ⟨M2, b1, b2, b3, b4, b5⟩ := zb_put_rx a2 hl (j := 1) (v := 8589934592) hh (n6 h k6 1 (by omega))
              rw [hho] at a1 b1
              have a1' : fn_205 (zb_ov o) 0 8589934592 M = some M1 := a1
              have b1' : fn_205 (zb_ov o) 1 8589934592 M1 = some M2 := b1
              have h62' : M2 62 o = (zb_hK H h : Int) - 1 := by rw [b5 62 (by decide), a5 62 (by decide)]; exact h62
              have e1 : zb_rf M2 H h 0 = 8589934592 := by rw [b4 h 0 hh (n6 h k6 0 (by omega)) (fun z => by omega)]; exact a3
              refine fin M2 ?_ b2 (fun c hcc => (b5 c hcc).trans ((a5 c hcc).trans (hc c hcc))) (one M2 k7 (fun y j hy hj q => ?_) (fun z => by omega) (fun _ => ⟨fun z => absurd z l2, fun _ => ⟨e1, b3⟩⟩))
              · rw [e57]
                unfold fn_197_57
                rw [if_pos (by omega), Int.toNat_natCast, h62, if_neg (by omega), t0, Option.bind_some, l1, Option.bind_some, if_neg (by decide), a1', Option.bind_some, b1', Option.bind_some, h62', if_pos (by omega), zb_wi_1 (by omega)]
              · rw [b4 y j hy hj (fun z => q ⟨z.1, Or.inr ⟨k6, Or.inr z.2⟩⟩), a4 y j hy hj (fun z => q ⟨z.1, Or.inr ⟨k6, Or.inl z.2⟩⟩)]
          · refine fin M ?_ hQ0 hc (one M k7 (fun _ _ _ _ _ => rfl) (fun z => by omega) (fun z => by omega))
            rw [e57]
            unfold fn_197_57
            rw [if_pos (by omega), Int.toNat_natCast, h62, if_pos (by omega), if_pos (by omega), zb_wi_1 (by omega)]
    · have hof : o ∈ fs := by
        have := (q4 o).mpr (by omega)
        exact (List.mem_append.mp this).resolve_left hin
      have h68 : M 68 o = 0 := q6 o hof
      have hno : ∀ x, x ∈ zb_hO H → zb_hP H x < o + 1 → zb_hP H x < o := fun x hx hlt => by
        have : zb_hP H x ≠ o := fun z => hin (List.mem_map.mpr ⟨x, hx, z⟩)
        omega
      refine fin M ?_ hQ0 hc ?_
      · unfold fn_197_25
        rw [if_neg (by omega), if_pos (by omega), Int.toNat_natCast, h68, if_neg (by decide), zb_wi_1 (by omega)]
      · obtain ⟨u, f5, f6, f7⟩ := hcl
        exact ⟨fun x j hx hj hcc => u x j hx hj (fun z => hcc (zb_rchg_up z)), fun x hx hxx hk => f5 x hx (hno x hx hxx) hk, fun x hx hxx hk => f6 x hx (hno x hx hxx) hk, fun x hx hxx hk => f7 x hx (hno x hx hxx) hk⟩
end GC
noncomputable def zb_Hcl (C : eM) (H : zb_Hp) (Lp : Nat → Prop) : zb_Hp := (H.1, H.2.1, H.2.2.1, H.2.2.2.1, H.2.2.2.2.1, H.2.2.2.2.2.1, H.2.2.2.2.2.2.1, fun t => zb_flt C H Lp (zb_hE H t))
section GC
variable {C R : eM} {H : zb_Hp} {cn N rg hs : Nat} {fl fs fc : List Nat} {lam : Nat → Prop} {scp : Nat → Nat → Prop} {Lp : Nat → Prop} {M : eM}
theorem zb_chain_next {M R : eM} {H : zb_Hp} : ∀ {l : List Nat} {x w : Int} {h : Nat}, zb_ech M H l x → zb_rech R H l w → h ∈ l → ∃ D t, l = D ++ h :: t ∧ zb_cl M H h 3 = zb_hdl t ∧ zb_rf R H h 2 = zb_rlk H t := by
  intro l
  induction l with
  | nil => intro x w h _ _ hh; cases hh
  | cons a t ih =>
    intro x w h he hr hh
    by_cases ha : h = a
    · subst ha
      exact ⟨[], t, rfl, zb_ech_hd he.2, zb_rech_hd hr.2⟩
    · obtain ⟨D, t', e1, e2, e3⟩ := ih he.2 hr.2 ((List.mem_cons.mp hh).resolve_left ha)
      exact ⟨a :: D, t', by rw [e1]; rfl, e2, e3⟩
theorem zb_ech_pw (hr : zb_HR C R H cn N lam scp) : ∀ (es : List Nat) (x : Int), zb_ech C H es x → (∀ f, f ∈ es → f ∈ zb_hO H ∧ zb_hK H f = 8) → es.Pairwise (fun a b => zb_hS H b < zb_hS H a) := by
  intro es
  induction es with
  | nil => intro x _ _; exact List.Pairwise.nil
  | cons a t ih =>
    intro x he hm
    exact List.Pairwise.cons (fun b hb => zb_ech_lt hr t a x he hm b hb) (ih _ he.2 (fun q hq => hm q (List.mem_cons_of_mem _ hq)))
theorem zb_hr_clear {M R' : eM} (hr : zb_HR C R H cn N lam scp) (hH : zb_HC M cn (zb_hO H) fl hs (zb_hU H) (zb_hS H) (zb_hZ H) (zb_hK H)) (hQ : zb_HQ R' cn (zb_hU H) ((zb_hO H).map (zb_hP H)) fs fc (zb_hC H)) (hc : zb_CLR C M H Lp (hs + 1)) (hrc : zb_RCLR C R R' H Lp 6700)
    (m15 : M 15 10 = C 15 10) (m20 : M 20 = C 20) (r62 : R' 62 = R 62) (r64 : R' 64 = R 64) (r66 : R' 66 = R 66) (r42 : R' 45 42 = R 45 42) : zb_HR M R' (zb_Hcl C H Lp) cn N lam scp := by
  have hall : ∀ h, h ∈ zb_hO H → h < hs + 1 ∧ 1 ≤ h := fun h hh => by
    have := (hH.2.2.2.2.2.2 h).mp (List.mem_append_left _ hh); omega
  have hpl : ∀ h, h ∈ zb_hO H → zb_hP H h < 6700 := fun h hh => zb_hr_p hr hh
  have hE8 : ∀ t e, t ∈ zb_hO H → zb_hK H t = 7 → e ∈ zb_hE H t → e ∈ zb_hO H ∧ zb_hK H e = 8 := fun t e ht hk he => (hr.2.2.2.1.1 t ht hk).2.2 e he
  obtain ⟨u, f5, f6, f7⟩ := hc
  obtain ⟨ru, r5, r6, r7⟩ := hrc
  refine ⟨⟨fl, hs, hH⟩, ⟨fs, fc, hQ⟩, fun h hh => ?_, ⟨fun t ht hk => ?_, fun t v e ht hk hv hkv h1 h2 => ?_⟩, by rw [m15, r42]; exact hr.2.2.2.2⟩
  · obtain ⟨o1, o2, o3, o4, o5, o6, o7⟩ := zb_hr_ob hr hh
    obtain ⟨hhs, hh1⟩ := hall h hh
    have hph := hpl h hh
    have hh2 := zb_hr_h hr hh
    have hszk := o4
    refine ⟨?_, ?_, o3, o4, fun j hj => ?_, fun hk => ?_, fun hk => ?_⟩
    · show R' 62 (zb_hP H h) = _; rw [r62]; exact o1
    · show R' 66 (zb_hP H h) = M 20 h; rw [r66, m20]; exact o2
    · show zb_FD M R' H N h j
      have hj' : j < zb_nf (zb_hK H h) (zb_hZ H h) := hj
      have hci := zb_nf_ci o4 hj'
      have ecM : zb_cf M H h j = if zb_isl (zb_hK H h) j then zb_lv (zb_cl M H h (zb_ci (zb_hK H h) j)) else zb_cl M H h (zb_ci (zb_hK H h) j) := rfl
      have ecC : zb_cf C H h j = if zb_isl (zb_hK H h) j then zb_lv (zb_cl C H h (zb_ci (zb_hK H h) j)) else zb_cl C H h (zb_ci (zb_hK H h) j) := rfl
      have same : ¬ zb_chg C H Lp (hs + 1) h (zb_ci (zb_hK H h) j) → ¬ zb_rchg C H Lp 6700 h j → zb_FD M R' H N h j := by
        intro a b
        have e1 : zb_cf M H h j = zb_cf C H h j := by rw [ecM, ecC, u h _ hh hci.1 a]
        have e2 : zb_rf R' H h j = zb_rf R H h j := ru h j hh hj' b
        have := o5 j hj'
        unfold zb_FD at this ⊢
        rw [e1, e2]; exact this
      by_cases k5 : zb_hK H h = 5
      · have hj0 : j = 0 := by rw [k5] at hj'; simpa [zb_nf] using hj'
        subst hj0
        have nl : ¬ zb_isl (zb_hK H h) 0 := by rw [k5]; decide
        have c1 : zb_cf C H h 0 = zb_cl C H h 1 := by rw [ecC, if_neg nl, k5]; rfl
        have c2 : zb_cf M H h 0 = zb_cl M H h 1 := by rw [ecM, if_neg nl, k5]; rfl
        obtain ⟨a1, a2⟩ := f5 h hh hhs k5
        obtain ⟨b1, b2⟩ := r5 h hh hph k5
        rw [c1] at b1 b2
        have old := (o5 0 hj').2 nl
        refine ⟨fun z => absurd z nl, fun _ => ?_⟩
        rw [c2]
        by_cases hlv : zb_lvs Lp (zb_cl C H h 1)
        · rw [a1 hlv, b1 hlv, ← c1]; exact old
        · rw [a2 hlv, b2 hlv]; exact Or.inr (Or.inl ⟨rfl, rfl⟩)
      · by_cases k6 : zb_hK H h = 6
        · have hj2 : j < 2 := by rw [k6] at hj'; simpa [zb_nf] using hj'
          have nl : ¬ zb_isl (zb_hK H h) j := by rw [k6]; intro z; omega
          have c0 : zb_cf C H h 0 = zb_cl C H h 1 := by unfold zb_cf zb_ci zb_cl; rw [k6]; rfl
          obtain ⟨a1, a2⟩ := f6 h hh hhs k6
          obtain ⟨b1, b2⟩ := r6 h hh hph k6
          rw [c0] at b1 b2
          have old := (o5 j hj').2 nl
          refine ⟨fun z => absurd z nl, fun _ => ?_⟩
          have hjj : j = 0 ∨ j = 1 := by omega
          rw [ecM, if_neg nl]
          rw [ecC, if_neg nl] at old
          by_cases hlv : zb_lvs Lp (zb_cl C H h 1)
          · rcases hjj with z | z <;> subst z
            · have ec : zb_ci (zb_hK H h) 0 = 1 := by rw [k6]; rfl
              rw [ec] at old ⊢; rw [(a1 hlv).1, (b1 hlv).1]; exact old
            · have ec : zb_ci (zb_hK H h) 1 = 2 := by rw [k6]; rfl
              rw [ec] at old ⊢; rw [(a1 hlv).2, (b1 hlv).2]; exact old
          · rcases hjj with z | z <;> subst z
            · have ec : zb_ci (zb_hK H h) 0 = 1 := by rw [k6]; rfl
              rw [ec, (a2 hlv).1, (b2 hlv).1]; exact Or.inr (Or.inl ⟨rfl, rfl⟩)
            · have ec : zb_ci (zb_hK H h) 1 = 2 := by rw [k6]; rfl
              rw [ec, (a2 hlv).2, (b2 hlv).2]; exact Or.inr (Or.inl ⟨rfl, rfl⟩)
        · by_cases k7 : zb_hK H h = 7
          · have hj0 : j = 0 := by rw [k7] at hj'; simpa [zb_nf] using hj'
            subst hj0
            have il : zb_isl (zb_hK H h) 0 := Or.inr (Or.inl k7)
            have ec : zb_ci (zb_hK H h) 0 = 1 := by rw [k7]; rfl
            refine ⟨fun _ => ?_, fun z => absurd il z⟩
            have a1 := (f7 h hh hhs k7).1
            have b1 := r7 h hh hph k7
            rw [ecM, if_pos il, ec]
            have hm : ∀ e, e ∈ zb_flt C H Lp (zb_hE H h) → e ∈ zb_hO H ∧ zb_hK H e = 8 := fun e he => hE8 h e hh k7 (zb_flt_m he)
            cases hes : zb_flt C H Lp (zb_hE H h) with
            | nil =>
              rw [hes] at a1 b1
              have z1 : zb_cl M H h 1 = 0 := a1
              have z2 : zb_rf R' H h 0 = -1 := b1
              rw [z1, z2]; exact Or.inl ⟨rfl, rfl⟩
            | cons e es =>
              rw [hes] at a1 b1 hm
              obtain ⟨m1, m2⟩ := hm e List.mem_cons_self
              have := zb_hr_h hr m1
              rw [a1.1, b1.1, zb_lv_g (by omega) (by omega)]
              refine Or.inr ⟨e, ⟨m1, ?_, fun z => absurd k7 z⟩, rfl, rfl⟩
              rw [k7, if_neg (by decide)]; exact m2
          · by_cases hch : zb_hK H h = 8 ∧ j = 2 ∧ ∃ t, t ∈ zb_hO H ∧ zb_hK H t = 7 ∧ h ∈ zb_flt C H Lp (zb_hE H t)
            · obtain ⟨k8, hj2, t, t1, t2, t3⟩ := hch
              subst hj2
              have il : zb_isl (zb_hK H h) 2 := Or.inr (Or.inr ⟨k8, rfl⟩)
              have ec : zb_ci (zb_hK H h) 2 = 3 := by rw [k8]; rfl
              refine ⟨fun _ => ?_, fun z => absurd il z⟩
              rw [ecM, if_pos il, ec]
              have a1 := (f7 t t1 (hall t t1).1 t2).1
              have b1 := r7 t t1 (hpl t t1) t2
              obtain ⟨D, tl, e1, e2, e3⟩ := zb_chain_next a1 b1 t3
              rw [e2, e3]
              obtain ⟨v1, v2, v3⟩ := hr.2.2.2.1.1 t t1 t2
              have pw := List.Pairwise.filter (fun e => zb_lvd Lp (zb_cf C H e 0)) (zb_ech_pw hr _ _ v1 v3)
              have pw' : (D ++ h :: tl).Pairwise (fun a b => zb_hS H b < zb_hS H a) := by rw [← e1]; exact pw
              cases tl with
              | nil => exact Or.inl ⟨rfl, rfl⟩
              | cons g gs =>
                have hg : g ∈ zb_flt C H Lp (zb_hE H t) := by rw [e1]; simp
                obtain ⟨m1, m2⟩ := hE8 t g t1 t2 (zb_flt_m hg)
                have := zb_hr_h hr m1
                have hlt : zb_hS H g < zb_hS H h := by
                  have := (List.pairwise_append.mp pw').2.1
                  exact (List.pairwise_cons.mp this).1 g List.mem_cons_self
                show zb_LN (zb_lt H h) (zb_hP H) (zb_lv (g : Int)) (zb_ov (zb_hP H g))
                rw [zb_lv_g (by omega) (by omega)]
                refine Or.inr ⟨g, ⟨m1, ?_, fun _ => hlt⟩, rfl, rfl⟩
                rw [k8, if_neg (by decide)]; exact m2
            · refine same (fun z => ?_) (fun z => ?_)
              · rcases z with ⟨_, z, _⟩ | ⟨_, z, _⟩ | ⟨_, z, _⟩ | ⟨z, t, t1, _, t2, t3⟩
                · exact k5 z
                · exact k6 z
                · exact k7 z
                · have k8 := (hE8 t h t1 t2 (zb_flt_m t3)).2
                  have : j = 2 := by rw [k8] at z; unfold zb_ci at z; rw [if_neg (by decide)] at z; omega
                  exact hch ⟨k8, this, t, t1, t2, t3⟩
              · rcases z with ⟨_, z, _⟩ | ⟨_, z, _⟩ | ⟨_, z, _⟩ | ⟨z, t, t1, _, t2, t3⟩
                · exact k5 z
                · exact k6 z
                · exact k7 z
                · exact hch ⟨(hE8 t h t1 t2 (zb_flt_m t3)).2, z, t, t1, t2, t3⟩
    · have hk' : zb_hK H h = 3 := hk
      obtain ⟨d, d1, d2, d3⟩ := o6 hk'
      refine ⟨d, d1, ?_, ?_⟩
      · show zb_cl M H h 1 = _
        rw [u h 1 hh (by unfold zb_szk at hszk; omega) (fun z => by
          rcases z with ⟨_, z, _⟩ | ⟨_, z, _⟩ | ⟨_, z, _⟩ | ⟨z, _⟩ <;> omega)]
        exact d2
      · show R' 64 (zb_hP H h) = _; rw [r64]; exact d3
    · have hk' : zb_hK H h = 4 := hk
      obtain ⟨d, d1, d2, d3⟩ := o7 hk'
      refine ⟨d, d1, ?_, ?_⟩
      · show zb_cl M H h 1 = _
        rw [u h 1 hh (by unfold zb_szk at hszk; omega) (fun z => by
          rcases z with ⟨_, z, _⟩ | ⟨_, z, _⟩ | ⟨_, z, _⟩ | ⟨z, _⟩ <;> omega)]
        exact d2
      · show R' 64 (zb_hP H h) = _; rw [r64]; exact d3
  · have ht' : t ∈ zb_hO H := ht
    have hk' : zb_hK H t = 7 := hk
    obtain ⟨a1, a2⟩ := f7 t ht' (hall t ht').1 hk'
    have conv : ∀ (l : List Nat) (x : Int), zb_ech M H l x → zb_ech M (zb_Hcl C H Lp) l x := by
      intro l
      induction l with
      | nil => intro x hx; exact hx
      | cons a s ih => intro x hx; exact ⟨hx.1, ih _ hx.2⟩
    exact ⟨conv _ _ a1, a2, fun e he => hE8 t e ht' hk' (zb_flt_m he)⟩
  · exact hr.2.2.2.1.2 t v e ht hk hv hkv (zb_flt_m h1) (zb_flt_m h2)
end GC
def zb_rowC (M : eM) (l : List (Nat × Nat)) (o : Nat) : Prop := ∀ i (hi : i < l.length), M 22 (o + i) = 17179869184 + (l[i].1 : Int) ∧ M 23 (o + i) = 17179869184 + (l[i].2 : Int)
def zb_queC (M : eM) (fd : Nat) (l : List (Nat × Nat)) : Prop := ∀ i (hi : i < l.length), M 24 ((fd + i) % 500) = 17179869184 + (l[i].1 : Int) ∧ M 25 ((fd + i) % 500) = 17179869184 + (l[i].2 : Int)
def zb_rowR (M : eM) (H : zb_Hp) (l : List (Nat × Nat)) (o : Nat) : Prop := ∀ i (hi : i < l.length), M 73 (o + i) = zb_ov (zb_hP H l[i].1) ∧ M 74 (o + i) = zb_ov (zb_hP H l[i].2)
def zb_queR (M : eM) (H : zb_Hp) (l : List (Nat × Nat)) : Prop := ∀ i (hi : i < l.length), M 75 i = zb_ov (zb_hP H l[i].1) ∧ M 76 i = zb_ov (zb_hP H l[i].2)
def zb_FRel (C R : eM) (H : zb_Hp) (rl ql : List (Nat × Nat)) (fd : Nat) : Prop :=
  (C 21 2 = (rl.length : Int) ∧ R 45 45 = (rl.length : Int) ∧ C 21 5 = (fd : Int) ∧ fd < 500 ∧ C 21 6 = (ql.length : Int) ∧ R 45 48 = (ql.length : Int) ∧ rl.length + ql.length ≤ 500)
  ∧ zb_rowC C rl 0 ∧ zb_queC C fd ql ∧ zb_rowR R H rl 0 ∧ zb_queR R H ql ∧ ∀ x, x ∈ rl ++ ql → zb_vo H x.1 ∧ zb_vo H x.2
noncomputable def zb_fst1 (Lp : Nat → Prop) (l : List (Nat × Nat)) : List (Nat × Nat) := l.filter (fun x => @decide (Lp x.1) (Classical.propDecidable _))
noncomputable def zb_fst0 (Lp : Nat → Prop) (l : List (Nat × Nat)) : List (Nat × Nat) := l.filter (fun x => !(@decide (Lp x.1) (Classical.propDecidable _)))
theorem zb_fst_t {Lp : Nat → Prop} {x : Nat × Nat} {l : List (Nat × Nat)} (h : Lp x.1) : zb_fst1 Lp (x :: l) = x :: zb_fst1 Lp l ∧ zb_fst0 Lp (x :: l) = zb_fst0 Lp l := by
  have : @decide (Lp x.1) (Classical.propDecidable _) = true := @decide_eq_true _ (Classical.propDecidable _) h
  unfold zb_fst1 zb_fst0; rw [List.filter_cons, List.filter_cons, this]; exact ⟨rfl, rfl⟩
theorem zb_fst_f {Lp : Nat → Prop} {x : Nat × Nat} {l : List (Nat × Nat)} (h : ¬ Lp x.1) : zb_fst1 Lp (x :: l) = zb_fst1 Lp l ∧ zb_fst0 Lp (x :: l) = x :: zb_fst0 Lp l := by
  have : @decide (Lp x.1) (Classical.propDecidable _) = false := @decide_eq_false _ (Classical.propDecidable _) h
  unfold zb_fst1 zb_fst0; rw [List.filter_cons, List.filter_cons, this]; exact ⟨rfl, rfl⟩
theorem zb_fst_m {Lp : Nat → Prop} {x : Nat × Nat} {l : List (Nat × Nat)} (h : x ∈ zb_fst1 Lp l ∨ x ∈ zb_fst0 Lp l) : x ∈ l := by
  rcases h with h | h <;> exact (List.mem_filter.mp h).1
theorem zb_fst_len {Lp : Nat → Prop} : ∀ {l : List (Nat × Nat)}, (zb_fst1 Lp l).length + (zb_fst0 Lp l).length = l.length := by
  intro l
  induction l with
  | nil => rfl
  | cons x l ih =>
    by_cases h : Lp x.1
    · rw [(zb_fst_t h).1, (zb_fst_t h).2]; simp only [List.length_cons]; omega
    · rw [(zb_fst_f h).1, (zb_fst_f h).2]; simp only [List.length_cons]; omega
section GC
variable {C R : eM} {H : zb_Hp} {cn N rg hs fd : Nat} {fl fs fc : List Nat} {lam : Nat → Prop} {scp : Nat → Nat → Prop} {Lp : Nat → Prop} {M M0 : eM}
theorem zb_rowC_eq {M M' : eM} {l : List (Nat × Nat)} {o : Nat} (h : zb_rowC M l o) (he : ∀ i, i < l.length → M' 22 (o + i) = M 22 (o + i) ∧ M' 23 (o + i) = M 23 (o + i)) : zb_rowC M' l o := fun i hi => by rw [(he i hi).1, (he i hi).2]; exact h i hi
theorem zb_queC_eq {M M' : eM} {l : List (Nat × Nat)} (h : zb_queC M fd l) (he : ∀ i, i < l.length → M' 24 ((fd + i) % 500) = M 24 ((fd + i) % 500) ∧ M' 25 ((fd + i) % 500) = M 25 ((fd + i) % 500)) : zb_queC M' fd l := fun i hi => by rw [(he i hi).1, (he i hi).2]; exact h i hi
theorem zb_rel_c (hmo : ∀ h, h ∈ zb_hO H → 1 ≤ h ∧ h < cn / 3 + 1 ∧ h < 20000) (hLT : zb_LTR M0 H Lp) {n : Nat} (hn : n ≤ 500) (hfd : fd < 500) : ∀ (rest kept dq : List (Nat × Nat)) (i : Nat) (M : eM), (∀ x, x ∈ rest → x.1 ∈ zb_hO H) → zb_rowC M kept 0 → zb_rowC M rest i → kept.length ≤ i → i + rest.length = n → zb_queC M fd dq → M 21 6 = (dq.length : Int) → M 21 2 = (n : Int) → M 21 5 = (fd : Int) → dq.length + rest.length ≤ 500 → (∀ c, c ∉ ([21, 22, 23, 24, 25] : List Nat) → M c = M0 c) →
    ∃ M', lp (fun z => fn_146_4 (cn / 3 + 1) z.1 z.2.1 z.2.2) ((kept.length : Int), (i : Int), M) = some M' ∧ zb_rowC M' (kept ++ zb_fst1 Lp rest) 0 ∧ zb_queC M' fd (dq ++ zb_fst0 Lp rest) ∧ M' 21 2 = ((kept ++ zb_fst1 Lp rest).length : Int) ∧ M' 21 6 = ((dq ++ zb_fst0 Lp rest).length : Int) ∧ M' 21 5 = (fd : Int) ∧ (∀ c, c ∉ ([21, 22, 23, 24, 25] : List Nat) → M' c = M0 c) := by
  intro rest
  induction rest with
  | nil =>
    intro kept dq i M hO1 hk hr0 hki hin hq h6 h2 h5 hdr hc
    have e1 : kept ++ zb_fst1 Lp [] = kept := by unfold zb_fst1; simp
    have e2 : dq ++ zb_fst0 Lp [] = dq := by unfold zb_fst0; simp
    rw [e1, e2]
    refine ⟨eg_u M 21 2 (kept.length : Int), lp3_inr ?_, hk, hq, by simp [eg_u], by simp [eg_u, h6], by simp [eg_u, h5], fun c hcc => ?_⟩
    · unfold fn_146_4
      rw [h2, if_pos (by simp only [List.length_nil] at hin; omega)]
    · rw [← hc c hcc]
      simp only [List.mem_cons, List.not_mem_nil, or_false, not_or] at hcc
      funext j; simp [eg_u, hcc]
  | cons x rest ih =>
    intro kept dq i M hO1 hk hr0 hki hin hq h6 h2 h5 hdr hc
    simp only [List.length_cons] at hin hdr
    obtain ⟨r1, r2⟩ := hr0 0 (by simp)
    simp only [List.getElem_cons_zero, Nat.add_zero] at r1 r2
    have hx := hO1 x List.mem_cons_self
    obtain ⟨x1, x2, x3⟩ := hmo _ hx
    have hrest : zb_rowC M rest (i + 1) := fun j hj => by
      have := hr0 (j + 1) (by simp only [List.length_cons]; omega)
      simp only [List.getElem_cons_succ] at this
      rw [show i + 1 + j = i + (j + 1) by omega]; exact this
    have h39 : M 39 = M0 39 := hc 39 (by decide)
    by_cases hL : Lp x.1
    · have e39 : M 39 x.1 = 1 := by rw [h39]; exact (hLT _ hx).1 hL
      have hstep : fn_146_4 (cn / 3 + 1) (kept.length : Int) (i : Int) M = some (.inl (((kept ++ [x]).length : Int), ((i + 1 : Nat) : Int), eg_u (eg_u M 22 kept.length (M 22 i)) 23 kept.length (M 23 i))) := by
        unfold fn_146_4
        rw [h2, if_neg (by omega), if_pos (by omega), Int.toNat_natCast, r1, zb_wi_obj x3, if_pos (by omega), Int.toNat_natCast, e39, if_pos (by decide), if_pos (by omega), Int.toNat_natCast, zb_wi_1 (by omega), zb_wi_1 (by omega), List.length_append, List.length_singleton, ← r1]
      have hk2 : zb_rowC (eg_u (eg_u M 22 kept.length (M 22 i)) 23 kept.length (M 23 i)) (kept ++ [x]) 0 := fun j hj => by
        rw [List.length_append, List.length_singleton] at hj
        rw [Nat.zero_add]
        by_cases hjk : j < kept.length
        · have hne : j ≠ kept.length := by omega
          have := hk j hjk
          rw [Nat.zero_add] at this
          rw [List.getElem_append_left hjk]
          simp [eg_u, hne, this]
        · have hje : j = kept.length := by omega
          subst hje
          simp [eg_u, r1, r2]
      have hr2 : zb_rowC (eg_u (eg_u M 22 kept.length (M 22 i)) 23 kept.length (M 23 i)) rest (i + 1) := zb_rowC_eq hrest (fun j hj => by
        have hne : i + 1 + j ≠ kept.length := by omega
        simp [eg_u, hne])
      obtain ⟨M', b1, b2, b3, b4, b5, b6, b7⟩ := ih (kept ++ [x]) dq (i + 1) _ (fun y hy => hO1 y (List.mem_cons_of_mem _ hy)) hk2 hr2 (by rw [List.length_append, List.length_singleton]; omega) (by omega) (zb_queC_eq hq (fun j hj => ⟨rfl, rfl⟩)) h6 h2 h5 (by omega) (fun c hcc => by
        rw [← hc c hcc]
        simp only [List.mem_cons, List.not_mem_nil, or_false, not_or] at hcc
        funext j; simp [eg_u, hcc])
      rw [(zb_fst_t hL).1, (zb_fst_t hL).2, show kept ++ x :: zb_fst1 Lp rest = kept ++ [x] ++ zb_fst1 Lp rest by simp]
      exact ⟨M', (lp3_inl hstep).trans b1, b2, b3, b4, b5, b6, b7⟩
    · have e39 : M 39 x.1 = 0 := by rw [h39]; exact (hLT _ hx).2 hL
      have hstep : fn_146_4 (cn / 3 + 1) (kept.length : Int) (i : Int) M = some (.inl ((kept.length : Int), ((i + 1 : Nat) : Int), eg_u (eg_u (eg_u M 24 ((fd + dq.length) % 500) (M 22 i)) 25 ((fd + dq.length) % 500) (M 23 i)) 21 6 ((dq.length + 1 : Nat) : Int))) := by
        unfold fn_146_4
        rw [h2, if_neg (by omega), if_pos (by omega), Int.toNat_natCast, r1, zb_wi_obj x3, if_pos (by omega), Int.toNat_natCast, e39, if_neg (by decide), h5, h6, zb_rem500 (by omega), if_pos (by omega), Int.toNat_natCast, zb_wi_1 (by omega), zb_wi_1 (by omega), ← r1]
      have hq2 : zb_queC (eg_u (eg_u (eg_u M 24 ((fd + dq.length) % 500) (M 22 i)) 25 ((fd + dq.length) % 500) (M 23 i)) 21 6 ((dq.length + 1 : Nat) : Int)) fd (dq ++ [x]) := fun j hj => by
        rw [List.length_append, List.length_singleton] at hj
        by_cases hjk : j < dq.length
        · have hne : (fd + j) % 500 ≠ (fd + dq.length) % 500 := by omega
          have := hq j hjk
          rw [List.getElem_append_left hjk]
          simp [eg_u, hne, this]
        · have hje : j = dq.length := by omega
          subst hje
          simp [eg_u, r1, r2]
      obtain ⟨M', b1, b2, b3, b4, b5, b6, b7⟩ := ih kept (dq ++ [x]) (i + 1) (eg_u (eg_u (eg_u M 24 ((fd + dq.length) % 500) (M 22 i)) 25 ((fd + dq.length) % 500) (M 23 i)) 21 6 ((dq.length + 1 : Nat) : Int)) (fun y hy => hO1 y (List.mem_cons_of_mem _ hy)) (zb_rowC_eq hk (fun j hj => ⟨rfl, rfl⟩)) (zb_rowC_eq hrest (fun j hj => ⟨rfl, rfl⟩)) (by omega) (by omega) hq2 (by rw [List.length_append]; simp [eg_u]) (by simp [eg_u, h2]) (by simp [eg_u, h5]) (by rw [List.length_append, List.length_singleton]; omega) (fun c hcc => by
        rw [← hc c hcc]
        simp only [List.mem_cons, List.not_mem_nil, or_false, not_or] at hcc
        funext j; simp [eg_u, hcc])
      rw [(zb_fst_f hL).1, (zb_fst_f hL).2, show dq ++ x :: zb_fst0 Lp rest = dq ++ [x] ++ zb_fst0 Lp rest by simp]
      exact ⟨M', (lp3_inl hstep).trans b1, b2, b3, b4, b5, b6, b7⟩
theorem zb_rowR_eq {M M' : eM} {l : List (Nat × Nat)} {o : Nat} (h : zb_rowR M H l o) (he : ∀ i, i < l.length → M' 73 (o + i) = M 73 (o + i) ∧ M' 74 (o + i) = M 74 (o + i)) : zb_rowR M' H l o := fun i hi => by rw [(he i hi).1, (he i hi).2]; exact h i hi
theorem zb_queR_eq {M M' : eM} {l : List (Nat × Nat)} (h : zb_queR M H l) (he : ∀ i, i < l.length → M' 75 i = M 75 i ∧ M' 76 i = M 76 i) : zb_queR M' H l := fun i hi => by rw [(he i hi).1, (he i hi).2]; exact h i hi
theorem zb_rel_r (hpl : ∀ h, h ∈ zb_hO H → zb_hP H h < 6700) (hLT : zb_RLT M0 H Lp) {n : Nat} (hn : n ≤ 500) : ∀ (rest kept dq : List (Nat × Nat)) (i : Nat) (M : eM), (∀ x, x ∈ rest → x.1 ∈ zb_hO H) → zb_rowR M H kept 0 → zb_rowR M H rest i → kept.length ≤ i → i + rest.length = n → zb_queR M H dq → M 45 48 = (dq.length : Int) → M 45 45 = (n : Int) → dq.length + rest.length ≤ 500 → (∀ c, c ∉ ([45, 73, 74, 75, 76] : List Nat) → M c = M0 c) → (∀ f, f ≠ 48 → M 45 f = M0 45 f) →
    ∃ M', lp (fun z => fn_197_95 z.1 z.2.1 z.2.2) ((kept.length : Int), (i : Int), M) = ((fn_198 M').bind fun m9 => lp (fun z => fn_197_160 ((kept ++ zb_fst1 Lp rest).length : Int) z.1 z.2) (0, m9)) ∧ zb_rowR M' H (kept ++ zb_fst1 Lp rest) 0 ∧ zb_queR M' H (dq ++ zb_fst0 Lp rest) ∧ M' 45 45 = ((kept ++ zb_fst1 Lp rest).length : Int) ∧ M' 45 48 = ((dq ++ zb_fst0 Lp rest).length : Int) ∧ (∀ c, c ∉ ([45, 73, 74, 75, 76] : List Nat) → M' c = M0 c) ∧ (∀ f, f ≠ 48 → f ≠ 45 → M' 45 f = M0 45 f) := by
  intro rest
  induction rest with
  | nil =>
    intro kept dq i M hO1 hk hr0 hki hin hq h6 h2 hdr hc hf
    have e1 : kept ++ zb_fst1 Lp [] = kept := by unfold zb_fst1; simp
    have e2 : dq ++ zb_fst0 Lp [] = dq := by unfold zb_fst0; simp
    rw [e1, e2]
    refine ⟨eg_u M 45 45 (kept.length : Int), lp3_map ?_, hk, hq, by simp [eg_u], by simp [eg_u, h6], fun c hcc => ?_, fun f f1 f2 => ?_⟩
    · unfold fn_197_95
      rw [h2, if_pos (by simp only [List.length_nil] at hin; omega)]
      cases fn_198 (eg_u M 45 45 (kept.length : Int)) <;> rfl
    · rw [← hc c hcc]
      simp only [List.mem_cons, List.not_mem_nil, or_false, not_or] at hcc
      funext j; simp [eg_u, hcc]
    · rw [← hf f f1]; simp [eg_u, f2]
  | cons x rest ih =>
    intro kept dq i M hO1 hk hr0 hki hin hq h6 h2 hdr hc hf
    simp only [List.length_cons] at hin hdr
    obtain ⟨r1, r2⟩ := hr0 0 (by simp)
    simp only [List.getElem_cons_zero, Nat.add_zero] at r1 r2
    have hx := hO1 x List.mem_cons_self
    have hpx := hpl _ hx
    have hrest : zb_rowR M H rest (i + 1) := fun j hj => by
      have := hr0 (j + 1) (by simp only [List.length_cons]; omega)
      simp only [List.getElem_cons_succ] at this
      rw [show i + 1 + j = i + (j + 1) by omega]; exact this
    have h67 : M 67 = M0 67 := hc 67 (by decide)
    have e201 : fn_201 (zb_ov (zb_hP H x.1)) M = some 1 := by
      unfold fn_201; rw [if_neg zb_ov_pos, zb_sh_ov hpx, if_neg (by decide)]
    by_cases hL : Lp x.1
    · have e67 : M 67 (zb_hP H x.1) = 1 := by rw [h67]; exact (hLT _ hx).1 hL
      have e200 : fn_200 (zb_ov (zb_hP H x.1)) M = some 1 := by
        unfold fn_200
        rw [e201, Option.bind_some, if_neg (by decide), zb_f187 hpx, Option.bind_some, if_pos (by omega), Int.toNat_natCast, e67, if_neg (by decide)]
      have hstep : fn_197_95 (kept.length : Int) (i : Int) M = some (.inl (((kept ++ [x]).length : Int), ((i + 1 : Nat) : Int), eg_u (eg_u M 73 kept.length (M 73 i)) 74 kept.length (M 74 i))) := by
        unfold fn_197_95
        rw [h2, if_neg (by omega), if_pos (by omega), Int.toNat_natCast, r1, e200, Option.bind_some, if_neg (by decide), if_pos (by omega), Int.toNat_natCast, zb_wi_1 (by omega), zb_wi_1 (by omega), List.length_append, List.length_singleton, ← r1]
      have hk2 : zb_rowR (eg_u (eg_u M 73 kept.length (M 73 i)) 74 kept.length (M 74 i)) H (kept ++ [x]) 0 := fun j hj => by
        rw [List.length_append, List.length_singleton] at hj
        rw [Nat.zero_add]
        by_cases hjk : j < kept.length
        · have hne : j ≠ kept.length := by omega
          have := hk j hjk
          rw [Nat.zero_add] at this
          rw [List.getElem_append_left hjk]
          simp [eg_u, hne, this]
        · have hje : j = kept.length := by omega
          subst hje
          simp [eg_u, r1, r2]
      have hr2 : zb_rowR (eg_u (eg_u M 73 kept.length (M 73 i)) 74 kept.length (M 74 i)) H rest (i + 1) := zb_rowR_eq hrest (fun j hj => by
        have hne : i + 1 + j ≠ kept.length := by omega
        simp [eg_u, hne])
      obtain ⟨M', b1, b2, b3, b4, b5, b6, b7⟩ := ih (kept ++ [x]) dq (i + 1) _ (fun y hy => hO1 y (List.mem_cons_of_mem _ hy)) hk2 hr2 (by rw [List.length_append, List.length_singleton]; omega) (by omega) (zb_queR_eq hq (fun j hj => ⟨rfl, rfl⟩)) h6 h2 (by omega) (fun c hcc => by
        rw [← hc c hcc]
        simp only [List.mem_cons, List.not_mem_nil, or_false, not_or] at hcc
        funext j; simp [eg_u, hcc]) hf
      rw [(zb_fst_t hL).1, (zb_fst_t hL).2, show kept ++ x :: zb_fst1 Lp rest = kept ++ [x] ++ zb_fst1 Lp rest by simp]
      exact ⟨M', (lp3_inl hstep).trans b1, b2, b3, b4, b5, b6, b7⟩
    · have e67 : M 67 (zb_hP H x.1) = 0 := by rw [h67]; exact (hLT _ hx).2 hL
      have e200 : fn_200 (zb_ov (zb_hP H x.1)) M = some 0 := by
        unfold fn_200
        rw [e201, Option.bind_some, if_neg (by decide), zb_f187 hpx, Option.bind_some, if_pos (by omega), Int.toNat_natCast, e67, if_pos rfl]
      have hstep : fn_197_95 (kept.length : Int) (i : Int) M = some (.inl ((kept.length : Int), ((i + 1 : Nat) : Int), eg_u (eg_u (eg_u M 75 dq.length (M 73 i)) 76 dq.length (M 74 i)) 45 48 ((dq.length + 1 : Nat) : Int))) := by
        unfold fn_197_95
        rw [h2, if_neg (by omega), if_pos (by omega), Int.toNat_natCast, r1, e200, Option.bind_some, if_pos rfl, h6, if_pos (by omega), Int.toNat_natCast, zb_wi_1 (by omega), zb_wi_1 (by omega), ← r1]
      have hq2 : zb_queR (eg_u (eg_u (eg_u M 75 dq.length (M 73 i)) 76 dq.length (M 74 i)) 45 48 ((dq.length + 1 : Nat) : Int)) H (dq ++ [x]) := fun j hj => by
        rw [List.length_append, List.length_singleton] at hj
        by_cases hjk : j < dq.length
        · have hne : j ≠ dq.length := by omega
          have := hq j hjk
          rw [List.getElem_append_left hjk]
          simp [eg_u, hne, this]
        · have hje : j = dq.length := by omega
          subst hje
          simp [eg_u, r1, r2]
      obtain ⟨M', b1, b2, b3, b4, b5, b6, b7⟩ := ih kept (dq ++ [x]) (i + 1) (eg_u (eg_u (eg_u M 75 dq.length (M 73 i)) 76 dq.length (M 74 i)) 45 48 ((dq.length + 1 : Nat) : Int)) (fun y hy => hO1 y (List.mem_cons_of_mem _ hy)) (zb_rowR_eq hk (fun j hj => ⟨rfl, rfl⟩)) (zb_rowR_eq hrest (fun j hj => ⟨rfl, rfl⟩)) (by omega) (by omega) hq2 (by rw [List.length_append]; simp [eg_u]) (by simp [eg_u, h2]) (by rw [List.length_append, List.length_singleton]; omega) (fun c hcc => by
        rw [← hc c hcc]
        simp only [List.mem_cons, List.not_mem_nil, or_false, not_or] at hcc
        funext j; simp [eg_u, hcc]) (fun f f1 => by rw [← hf f f1]; simp [eg_u, f1])
      rw [(zb_fst_f hL).1, (zb_fst_f hL).2, show dq ++ x :: zb_fst0 Lp rest = dq ++ [x] ++ zb_fst0 Lp rest by simp]
      exact ⟨M', (lp3_inl hstep).trans b1, b2, b3, b4, b5, b6, b7⟩
end GC
