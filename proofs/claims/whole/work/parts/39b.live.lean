def zb_pv (H : zb_Hp) (v w : Int) : Prop := (∃ g : Nat, g ∈ zb_hO H ∧ v = 17179869184 + (g : Int) ∧ w = zb_ov (zb_hP H g)) ∨ zb_NOB v w
def zb_stk (M : eM) (H : zb_Hp) : List Nat → Prop
  | [] => True
  | k :: t => M 85 t.length = (zb_hP H k : Int) ∧ zb_stk M H t
def zb_RM (C R M : eM) (H : zb_Hp) (Lf : Nat → Prop) (L K X : List Nat) : Prop :=
  (∀ c, c ∉ ([45, 67, 85] : List Nat) → M c = R c) ∧ (∀ f, f ≠ 64 → M 45 f = R 45 f) ∧ M 45 64 = (K.length : Int) ∧ zb_stk M H K
  ∧ (∀ h, h ∈ zb_hO H → M 67 (zb_hP H h) = if h ∈ L then 1 else 0) ∧ L.Nodup ∧ K.Nodup ∧ (∀ h, h ∈ K → h ∈ L) ∧ (∀ h, h ∈ L → h ∈ zb_hO H ∧ Lf h)
  ∧ (∀ h, h ∈ L → h ∉ K → h ∉ X → zb_hK H h ≤ 4 → ∀ j, j < zb_nf (zb_hK H h) (zb_hZ H h) → zb_lvs (· ∈ L) (zb_cf C H h j))
  ∧ (∀ h, h ∈ L → h ∉ X → zb_hK H h = 8 → zb_lvs (· ∈ L) (zb_cf C H h 1))
theorem zb_stk_eq {M M' : eM} {H : zb_Hp} : ∀ {K : List Nat}, (∀ i, i < K.length → M' 85 i = M 85 i) → zb_stk M H K → zb_stk M' H K := by
  intro K
  induction K with
  | nil => intro _ _; trivial
  | cons k t ih =>
    intro h hs
    exact ⟨by rw [h t.length (by simp)]; exact hs.1, ih (fun i hi => h i (by simp only [List.length_cons]; omega)) hs.2⟩
section GC
variable {C R : eM} {H : zb_Hp} {cn N rg : Nat} {lam : Nat → Prop} {scp : Nat → Nat → Prop} {Lf : Nat → Prop} {L K X : List Nat} {M : eM}
theorem zb_hr_pv (hr : zb_HR C R H cn N lam scp) (hN : N ≤ 444) {h j : Nat} (hh : h ∈ zb_hO H) (hj : j < zb_nf (zb_hK H h) (zb_hZ H h)) : zb_pv H (zb_cf C H h j) (zb_rf R H h j) := by
  have hf := (zb_hr_ob hr hh).2.2.2.2.1 j hj
  by_cases hl : zb_isl (zb_hK H h) j
  · rcases zb_LN_ob (hf.1 hl) with ⟨g, g1, g2, g3⟩ | hn
    · exact Or.inl ⟨g, g1.1, g2, g3⟩
    · exact Or.inr hn
  · rcases zb_VR_ob hN (hf.2 hl) with ⟨g, g1, g2, g3⟩ | hn
    · exact Or.inl ⟨g, g1.1, g2, g3⟩
    · exact Or.inr hn
theorem zb_hr_n8 (hr : zb_HR C R H cn N lam scp) (hN : N ≤ 444) {h j g : Nat} (hh : h ∈ zb_hO H) (hj : j < zb_nf (zb_hK H h) (zb_hZ H h)) (hl : zb_hK H h ≤ 6 ∨ (zb_hK H h = 8 ∧ j < 2)) (hg : g ∈ zb_hO H) (he : zb_cf C H h j = 17179869184 + (g : Int)) : zb_hK H g ≠ 8 := by
  have hf := (zb_hr_ob hr hh).2.2.2.2.1 j hj
  have hgl := zb_hr_h hr hg
  by_cases hs : zb_isl (zb_hK H h) j
  · rcases zb_LN_ob (hf.1 hs) with ⟨q, q1, q2, q3⟩ | hn
    · have hq := zb_hr_h hr q1.1
      have : q = g := by omega
      rw [← this, q1.2.1]
      rcases hs with ⟨z, _⟩ | z | z
      · rw [if_pos z]; decide
      · omega
      · omega
    · exact absurd he (hn.2.2.1 g (by omega))
  · rcases zb_VR_ob hN (hf.2 hs) with ⟨q, q1, q2, q3⟩ | hn
    · have hq := zb_hr_h hr q1.1
      have : q = g := by omega
      rw [← this]; exact q1.2.2
    · exact absurd he (hn.2.2.1 g (by omega))
theorem zb_sh_ov {o : Nat} (ho : o < 6700) : eb_lshr (zb_ov o) 32 = 6 := by unfold zb_ov; exact zb_sh32 (by omega) (by omega)
theorem zb_ov_pos {o : Nat} : ¬ zb_ov o < 0 := by unfold zb_ov; omega
theorem zb_r200 (hr : zb_HR C R H cn N lam scp) (hm : zb_RM C R M H Lf L K X) {v w : Int} (hv : zb_pv H v w) : (fn_200 w M = some 1 ∧ zb_lvs (· ∈ L) v) ∨ (fn_200 w M = some 0 ∧ ∃ g, g ∈ zb_hO H ∧ v = 17179869184 + (g : Int) ∧ w = zb_ov (zb_hP H g) ∧ g ∉ L) := by
  rcases hv with ⟨g, g1, g2, g3⟩ | ⟨n1, n2, n3, n4⟩
  · have hp := zb_hr_p hr g1
    have hgl := zb_hr_h hr g1
    have h67 := hm.2.2.2.2.1 g g1
    have e201 : fn_201 w M = some 1 := by
      unfold fn_201; rw [g3, if_neg zb_ov_pos, zb_sh_ov hp, if_neg (by decide)]
    by_cases hL : g ∈ L
    · left
      rw [if_pos hL] at h67
      refine ⟨?_, fun q q1 q2 => by have : q = g := by omega
                                    rw [this]; exact hL⟩
      unfold fn_200
      rw [e201, Option.bind_some, if_neg (by decide), g3, zb_f187 hp, Option.bind_some, if_pos (by omega), Int.toNat_natCast, h67, if_neg (by decide)]
    · right
      rw [if_neg hL] at h67
      refine ⟨?_, g, g1, g2, g3, hL⟩
      unfold fn_200
      rw [e201, Option.bind_some, if_neg (by decide), g3, zb_f187 hp, Option.bind_some, if_pos (by omega), Int.toNat_natCast, h67, if_pos rfl]
  · left
    refine ⟨?_, fun q q1 q2 => absurd q2 (n3 q q1)⟩
    have e201 : fn_201 w M = some 0 := by
      unfold fn_201
      by_cases hw : w < 0
      · rw [if_pos hw]
      · rw [if_neg hw, if_pos (n2.resolve_left hw)]
    unfold fn_200
    rw [e201, Option.bind_some, if_pos rfl]
theorem zb_rmark (hr : zb_HR C R H cn N lam scp) (hm : zb_RM C R M H Lf L K X) {v w : Int} (hv : zb_pv H v w) (hl : ∀ g, g ∈ zb_hO H → v = 17179869184 + (g : Int) → Lf g ∧ zb_hK H g ≠ 8) :
    ∃ M' L' K', fn_199 w M = some M' ∧ zb_RM C R M' H Lf L' K' X ∧ (∀ x, x ∈ L → x ∈ L') ∧ zb_lvs (· ∈ L') v ∧ L'.length + K.length = L.length + K'.length ∧ L.length ≤ L'.length ∧ (zb_lvs (· ∈ L) v → L' = L ∧ K' = K ∧ M' = M) ∧ (¬ zb_lvs (· ∈ L) v → L.length < L'.length) := by
  rcases zb_r200 hr hm hv with ⟨a1, a2⟩ | ⟨a1, g, g1, g2, g3, g4⟩
  · refine ⟨M, L, K, ?_, hm, fun x hx => hx, a2, rfl, Nat.le_refl _, fun _ => ⟨rfl, rfl, rfl⟩, fun z => absurd a2 z⟩
    unfold fn_199
    rw [a1, Option.bind_some, if_neg (by decide)]
  · have hp := zb_hr_p hr g1
    have hgl := zb_hr_h hr g1
    have hlen := zb_hr_len hr
    obtain ⟨m1, m2, m3, m4, m5, m6, m7, m8, m9, m10, m11⟩ := hm
    have hgK : g ∉ K := fun z => g4 (m8 g z)
    have hKl : K.length + 1 ≤ (zb_hO H).length := zb_len_of_sub (L := g :: K) (List.nodup_cons.mpr ⟨hgK, m7⟩) (fun x hx => by
      rcases List.mem_cons.mp hx with e | e
      · rw [e]; exact g1
      · exact (m9 x (m8 x e)).1)
    have hnot : ¬ zb_lvs (· ∈ L) v := fun z => g4 (z g (by omega) g2)
    refine ⟨eg_u (eg_u (eg_u M 67 (zb_hP H g) 1) 85 K.length (zb_hP H g : Int)) 45 64 ((K.length + 1 : Nat) : Int), g :: L, g :: K, ?_, ⟨fun c hc => ?_, fun f hf => ?_, rfl, ⟨?_, ?_⟩, fun h hh => ?_, List.nodup_cons.mpr ⟨g4, m6⟩, List.nodup_cons.mpr ⟨hgK, m7⟩, fun h hh => ?_, fun h hh => ?_, fun h h1 h2 h3 h4 j hj => ?_, fun h h1 hX h2 => ?_⟩, fun x hx => List.mem_cons_of_mem _ hx, ?_, ?_, ?_, fun z => absurd z hnot, fun _ => ?_⟩
    · unfold fn_199
      rw [a1, Option.bind_some, if_pos rfl, g3, zb_f187 hp, Option.bind_some, if_pos (by omega), zb_f187 hp, Option.bind_some, m3, if_pos (by omega), Int.toNat_natCast, Int.toNat_natCast, zb_wi_1 (by omega)]
    · rw [← m1 c hc]
      simp only [List.mem_cons, List.not_mem_nil, or_false, not_or] at hc
      funext j; simp [eg_u, hc]
    · rw [← m2 f hf]; simp [eg_u, hf]
    · simp [eg_u]
    · refine zb_stk_eq (fun i hi => ?_) m4
      have : i ≠ K.length := by omega
      simp [eg_u, this]
    · have e67 : (eg_u (eg_u (eg_u M 67 (zb_hP H g) 1) 85 K.length (zb_hP H g : Int)) 45 64 ((K.length + 1 : Nat) : Int)) 67 (zb_hP H h) = if h = g then 1 else M 67 (zb_hP H h) := by
        by_cases he : h = g
        · rw [if_pos he, he]; simp [eg_u]
        · have : zb_hP H h ≠ zb_hP H g := fun z => he (zb_hr_inj hr hh g1 z)
          rw [if_neg he]; simp [eg_u, this]
      rw [e67, m5 h hh]
      by_cases he : h = g
      · rw [if_pos he, if_pos (by rw [he]; exact List.mem_cons_self)]
      · rw [if_neg he]; simp [he]
    · rcases List.mem_cons.mp hh with e | e
      · rw [e]; exact List.mem_cons_self
      · exact List.mem_cons_of_mem _ (m8 h e)
    · rcases List.mem_cons.mp hh with e | e
      · rw [e]; exact ⟨g1, (hl g g1 g2).1⟩
      · exact m9 h e
    · have hhg : h ≠ g := fun z => h2 (z ▸ List.mem_cons_self)
      have hhL : h ∈ L := (List.mem_cons.mp h1).resolve_left hhg
      have := m10 h hhL (fun z => h2 (List.mem_cons_of_mem _ z)) h3 h4 j hj
      exact fun q q1 q2 => List.mem_cons_of_mem _ (this q q1 q2)
    · have hhg : h ≠ g := fun z => (hl g g1 g2).2 (z ▸ h2)
      have hhL : h ∈ L := (List.mem_cons.mp h1).resolve_left hhg
      exact fun q q1 q2 => List.mem_cons_of_mem _ (m11 h hhL hX h2 q q1 q2)
    · intro q q1 q2
      have : q = g := by omega
      rw [this]; exact List.mem_cons_self
    · simp only [List.length_cons]; omega
    · simp
    · simp
end GC
section GC
variable {C R : eM} {H : zb_Hp} {cn N rg : Nat} {lam : Nat → Prop} {scp : Nat → Nat → Prop} {Lf : Nat → Prop} {L K X : List Nat} {M : eM}
theorem zb_lvs_sub {L L' : List Nat} (h : ∀ x, x ∈ L → x ∈ L') {v : Int} (hv : zb_lvs (· ∈ L) v) : zb_lvs (· ∈ L') v := fun g a b => h g (hv g a b)
theorem zb_fields_ok (hr : zb_HR C R H cn N lam scp) (hN : N ≤ 444) {h : Nat} (hh : h ∈ zb_hO H) (hk : zb_hK H h ≤ 4) (hl : ∀ j, j < zb_nf (zb_hK H h) (zb_hZ H h) → ∀ g, g ∈ zb_hO H → zb_cf C H h j = 17179869184 + (g : Int) → Lf g) {x1 x2 : Int} (hx2 : x2 < 4) : ∀ (k j : Nat) (s : Int) (M : eM) (L K : List Nat), j + k = zb_nf (zb_hK H h) (zb_hZ H h) → zb_chn R ((zb_hC H (zb_hP H h)).drop j) s → zb_RM C R M H Lf L K X →
    ∃ M' L' K', lp (fun z => fn_202_25 x1 x2 z.1 z.2) (s, M) = some (.inl M') ∧ zb_RM C R M' H Lf L' K' X ∧ (∀ x, x ∈ L → x ∈ L') ∧ L'.length + K.length = L.length + K'.length ∧ L.length ≤ L'.length ∧ ∀ q, j ≤ q → q < zb_nf (zb_hK H h) (zb_hZ H h) → zb_lvs (· ∈ L') (zb_cf C H h q) := by
  have hlen : (zb_hC H (zb_hP H h)).length = zb_nf (zb_hK H h) (zb_hZ H h) := (zb_hr_ob hr hh).2.2.1
  have hQ := hr.2.1
  obtain ⟨fs, fc, hQ⟩ := hQ
  have hps : zb_hP H h ∈ (zb_hO H).map (zb_hP H) := List.mem_map_of_mem hh
  intro k
  induction k with
  | zero =>
    intro j s M L K hj hc hm
    rw [List.drop_eq_nil_of_le (by omega)] at hc
    refine ⟨M, L, K, lp2_inr ?_, hm, fun x hx => hx, rfl, Nat.le_refl _, fun q q1 q2 => by omega⟩
    have : s = -1 := hc
    unfold fn_202_25
    rw [this, if_pos (by decide)]
  | succ k ih =>
    intro j s M L K hj hc hm
    have hjl : j < (zb_hC H (zb_hP H h)).length := by omega
    rw [List.drop_eq_getElem_cons hjl] at hc
    obtain ⟨c1, c2⟩ := hc
    have hcl := zb_cs_lt hQ hps (List.getElem_mem hjl)
    have erf : R 70 (zb_hC H (zb_hP H h))[j] = zb_rf R H h j := by
      unfold zb_rf; rw [List.getD_eq_getElem?_getD, List.getElem?_eq_getElem hjl, Option.getD_some]
    have hpv := zb_hr_pv hr hN hh (j := j) (by omega)
    obtain ⟨M1, L1, K1, a1, a2, a3, a4, a5, a6, a7, a8⟩ := zb_rmark hr hm hpv (fun g g1 g2 => ⟨hl j (by omega) g g1 g2, zb_hr_n8 hr hN hh (by omega) (Or.inl (by omega)) g1 g2⟩)
    obtain ⟨M', L', K', b1, b2, b3, b4, b5, b6⟩ := ih (j + 1) _ M1 L1 K1 (by omega) c2 a2
    refine ⟨M', L', K', (lp2_inl ?_).trans b1, b2, fun x hx => b3 x (a3 x hx), by omega, by omega, fun q q1 q2 => ?_⟩
    · unfold fn_202_25
      rw [c1, if_neg (by omega), if_neg (by omega), if_pos (by omega), Int.toNat_natCast, hm.1 70 (by decide), erf, a1, Option.bind_some, a2.1 71 (by decide)]
    · by_cases hq : q = j
      · rw [hq]; exact zb_lvs_sub b3 a4
      · exact b6 q (by omega) q2
theorem zb_follow_ok (hr : zb_HR C R H cn N lam scp) (hN : N ≤ 444) (hl : ∀ h j g, h ∈ zb_hO H → Lf h → zb_hK H h ≤ 4 → j < zb_nf (zb_hK H h) (zb_hZ H h) → g ∈ zb_hO H → zb_cf C H h j = 17179869184 + (g : Int) → Lf g) : ∀ (m : Nat) (M : eM) (L K : List Nat), 2 * ((zb_hO H).length - L.length) + K.length = m → zb_RM C R M H Lf L K [] →
    ∃ M' L', fn_202 M = some M' ∧ zb_RM C R M' H Lf L' [] [] ∧ (∀ x, x ∈ L → x ∈ L') ∧ L.length ≤ L'.length ∧ (K = [] → M' = M ∧ L' = L) := by
  intro m
  induction m using Nat.strongRecOn with
  | ind m ih =>
    intro M L K hmm hm
    have hlen := zb_hr_len hr
    cases K with
    | nil =>
      refine ⟨M, L, lp_inr ?_, hm, fun x hx => hx, Nat.le_refl _, fun _ => ⟨rfl, rfl⟩⟩
      unfold fn_202_0
      have : M 45 64 = 0 := hm.2.2.1
      rw [this, if_pos (by decide)]
    | cons h t =>
      obtain ⟨m1, m2, m3, ⟨m4, m4'⟩, m5, m6, m7, m8, m9, m10, m11⟩ := hm
      obtain ⟨hh, hlf⟩ := m9 h (m8 h List.mem_cons_self)
      have hp := zb_hr_p hr hh
      obtain ⟨n1, n2⟩ := List.nodup_cons.mp m7
      have hob := zb_hr_ob hr hh
      have hsz := zb_nf_le hob.2.2.2.1
      have htl : t.length + 1 ≤ (zb_hO H).length := zb_len_of_sub (L := h :: t) m7 (fun x hx => (m9 x (m8 x hx)).1)
      have hQ := hr.2.1
      obtain ⟨fs, fc, hQ⟩ := hQ
      have hps : zb_hP H h ∈ (zb_hO H).map (zb_hP H) := List.mem_map_of_mem hh
      have hcn := (zb_hr_h hr hh).2.2.2.2
      have e64 : M 45 64 = ((t.length + 1 : Nat) : Int) := m3
      have hm1 : zb_RM C R (eg_u M 45 64 (t.length : Int)) H Lf L t [h] := by
        refine ⟨fun c hc => ?_, fun f hf => ?_, rfl, zb_stk_eq (M := M) (fun i hi => by simp [eg_u]) m4', fun x hx => m5 x hx, m6, n2, fun x hx => m8 x (List.mem_cons_of_mem _ hx), m9, fun x x1 x2 x3 x4 j hj => ?_, fun x x1 x2 x3 => ?_⟩
        · rw [← m1 c hc]
          simp only [List.mem_cons, List.not_mem_nil, or_false, not_or] at hc
          funext j; simp [eg_u, hc]
        · rw [← m2 f hf]; simp [eg_u, hf]
        · have hxh : x ≠ h := fun z => x3 (by rw [z]; exact List.mem_cons_self)
          exact m10 x x1 (fun z => (List.mem_cons.mp z).elim hxh x2) (by simp) x4 j hj
        · exact m11 x x1 (by simp) x3
      have hll : L.length ≤ (zb_hO H).length := zb_len_of_sub m6 (fun x hx => (m9 x hx).1)
      have step : ∃ M1 L1 K1, fn_202_0 M = some (.inl M1) ∧ zb_RM C R M1 H Lf L1 K1 [] ∧ (∀ x, x ∈ L → x ∈ L1) ∧ L1.length + t.length = L.length + K1.length ∧ L.length ≤ L1.length := by
        have hchn := (hQ.2.2.2.2.2.2.1 _ hps).1
        have e0 : fn_202_0 M = lp (fun z => fn_202_25 (zb_hP H h : Int) ((zb_hK H h : Int) - 1) z.1 z.2) (R 65 (zb_hP H h), eg_u M 45 64 (t.length : Int)) := by
          unfold fn_202_0
          rw [e64, if_neg (by omega), zb_wi_m1 (by omega) (by omega), Nat.add_sub_cancel, if_pos (by omega), Int.toNat_natCast, m4, if_pos (by omega), Int.toNat_natCast, m1 62 (by decide), m1 65 (by decide), hob.1]
        by_cases hk4 : zb_hK H h ≤ 4
        · obtain ⟨M1, L1, K1, a1, a2, a3, a4, a5, a6⟩ := zb_fields_ok (X := [h]) hr hN hh hk4 (fun j hj g g1 g2 => hl h j g hh hlf hk4 hj g1 g2) (x1 := (zb_hP H h : Int)) (x2 := (zb_hK H h : Int) - 1) (by omega) (zb_nf (zb_hK H h) (zb_hZ H h)) 0 (R 65 (zb_hP H h)) _ L t (by omega) hchn hm1
          refine ⟨M1, L1, K1, e0.trans a1, ?_, a3, by omega, a5⟩
          obtain ⟨q1, q2, q3, q4, q5, q6, q7, q8, q9, q10, q11⟩ := a2
          refine ⟨q1, q2, q3, q4, q5, q6, q7, q8, q9, fun x x1 x2 x3 x4 j hj => ?_, fun x x1 x2 x3 => ?_⟩
          · by_cases hxh : x = h
            · rw [hxh] at hj ⊢; exact a6 j (Nat.zero_le _) hj
            · exact q10 x x1 x2 (by simpa using hxh) x4 j hj
          · exact q11 x x1 (fun z => by
              have : x = h := by simpa using z
              rw [this] at x3; omega) x3
        · refine ⟨eg_u M 45 64 (t.length : Int), L, t, ?_, ?_, fun x hx => hx, rfl, Nat.le_refl _⟩
          · rw [e0]
            refine lp2_inr ?_
            unfold fn_202_25
            by_cases hs : R 65 (zb_hP H h) < 0
            · rw [if_pos hs]
            · rw [if_neg hs, if_pos (by omega)]
          · obtain ⟨q1, q2, q3, q4, q5, q6, q7, q8, q9, q10, q11⟩ := hm1
            refine ⟨q1, q2, q3, q4, q5, q6, q7, q8, q9, fun x x1 x2 x3 x4 j hj => ?_, fun x x1 x2 x3 => m11 x x1 (by simp) x3⟩
            refine q10 x x1 x2 (fun z => ?_) x4 j hj
            have : x = h := by simpa using z
            rw [this] at x4; exact hk4 x4
      obtain ⟨M1, L1, K1, a1, a2, a3, a4, a5⟩ := step
      have hl1 : L1.length ≤ (zb_hO H).length := zb_len_of_sub a2.2.2.2.2.2.1 (fun x hx => (a2.2.2.2.2.2.2.2.2.1 x hx).1)
      obtain ⟨M', L', b1, b2, b3, b4, _⟩ := ih (2 * ((zb_hO H).length - L1.length) + K1.length) (by simp only [List.length_cons] at hmm; omega) M1 L1 K1 rfl a2
      refine ⟨M', L', ?_, b2, fun x hx => b3 x (a3 x hx), by omega, fun z => by cases z⟩
      rw [← b1]; exact lp_inl a1
end GC
def zb_rech (R : eM) (H : zb_Hp) : List Nat → Int → Prop
  | [], w => w = -1
  | e :: t, w => w = zb_ov (zb_hP H e) ∧ zb_rech R H t (zb_rf R H e 2)
section GC
variable {C R : eM} {H : zb_Hp} {cn N rg : Nat} {lam : Nat → Prop} {scp : Nat → Nat → Prop} {Lf : Nat → Prop} {L K X : List Nat} {M : eM}
theorem zb_hr_getr (hr : zb_HR C R H cn N lam scp) {M : eM} (h65 : M 65 = R 65) (h70 : M 70 = R 70) (h71 : M 71 = R 71) {h j : Nat} (hh : h ∈ zb_hO H) (hj : j < zb_nf (zb_hK H h) (zb_hZ H h)) : fn_189 (zb_ov (zb_hP H h)) (j : Int) M = some (zb_rf R H h j) := by
  have hlen : (zb_hC H (zb_hP H h)).length = zb_nf (zb_hK H h) (zb_hZ H h) := (zb_hr_ob hr hh).2.2.1
  obtain ⟨_, ⟨fs, fc, hQ⟩, _⟩ := hr
  have hps : zb_hP H h ∈ (zb_hO H).map (zb_hP H) := List.mem_map_of_mem hh
  have hjl : j < (zb_hC H (zb_hP H h)).length := by omega
  have e1 := zb_get_r hQ hps hjl
  have erf : R 70 (zb_hC H (zb_hP H h))[j] = zb_rf R H h j := by
    unfold zb_rf; rw [List.getD_eq_getElem?_getD, List.getElem?_eq_getElem hjl, Option.getD_some]
  rw [erf] at e1
  rw [← e1]
  have e2 : ∀ a b, fn_190_7 a b M = fn_190_7 a b R := fun a b => by
    funext s1 s2; unfold fn_190_7; rw [h71]
  unfold fn_189 fn_187 fn_190
  rw [h65, h70]
  simp only [e2]
theorem zb_rech_of (hr : zb_HR C R H cn N lam scp) : ∀ (es : List Nat) (x w : Int) (A : Nat → Prop), (∀ h, A h → h ∈ zb_hO H) → zb_ech C H es x → (∀ e, e ∈ es → e ∈ zb_hO H ∧ zb_hK H e = 8) → zb_LN A (zb_hP H) (zb_lv x) w → zb_rech R H es w := by
  intro es
  induction es with
  | nil =>
    intro x w A hA he _ hl
    have hx : x = 0 := he
    rw [hx, zb_lv_0] at hl
    rcases hl with ⟨_, z⟩ | ⟨h, h1, h2, _⟩
    · exact z
    · have := zb_hr_h hr (hA h h1); omega
  | cons e t ih =>
    intro x w A hA he hm hl
    obtain ⟨e1, e2⟩ := he
    obtain ⟨k1, k2⟩ := hm e List.mem_cons_self
    have hle := zb_hr_h hr k1
    rw [e1, zb_lv_g (by omega) (by omega)] at hl
    have hfd := ((zb_hr_ob hr k1).2.2.2.2.1 2 (by rw [k2]; simp [zb_nf])).1 (Or.inr (Or.inr ⟨k2, rfl⟩))
    have ecf : zb_cf C H e 2 = zb_lv (C 16 (zb_hS H e + 3)) := by unfold zb_cf zb_ci; rw [k2]; rfl
    rw [ecf] at hfd
    rcases hl with ⟨z, _⟩ | ⟨h, h1, h2, h3⟩
    · omega
    · have : h = e := by omega
      exact ⟨by rw [← this]; exact h3, ih _ _ (zb_lt H e) (fun q hq => hq.1) e2 (fun q hq => hm q (List.mem_cons_of_mem _ hq)) hfd⟩
theorem zb_entry_ok (hr : zb_HR C R H cn N lam scp) (hN : N ≤ 444) (hm : zb_RM C R M H Lf L K []) {e : Nat} (he : e ∈ zb_hO H) (h8 : zb_hK H e = 8) (heL : e ∉ L) (hl : Lf e) (hlv : ∀ g, g ∈ zb_hO H → zb_cf C H e 1 = 17179869184 + (g : Int) → Lf g) :
    ∃ M' L' K', fn_199 (zb_rf R H e 1) (eg_u M 67 (zb_hP H e) 1) = some M' ∧ zb_RM C R M' H Lf L' K' [] ∧ (∀ x, x ∈ L → x ∈ L') ∧ e ∈ L' ∧ L.length < L'.length ∧ L.length + K'.length ≤ L'.length + K.length := by
  obtain ⟨m1, m2, m3, m4, m5, m6, m7, m8, m9, m10, m11⟩ := hm
  have hm1 : zb_RM C R (eg_u M 67 (zb_hP H e) 1) H Lf (e :: L) K [e] := by
    refine ⟨fun c hc => ?_, m2, m3, zb_stk_eq (M := M) (fun i hi => by simp [eg_u]) m4, fun h hh => ?_, List.nodup_cons.mpr ⟨heL, m6⟩, m7, fun x hx => List.mem_cons_of_mem _ (m8 x hx), fun x hx => ?_, fun x x1 x2 x3 x4 j hj => ?_, fun x x1 x2 x3 => ?_⟩
    · rw [← m1 c hc]
      simp only [List.mem_cons, List.not_mem_nil, or_false, not_or] at hc
      funext j; simp [eg_u, hc]
    · by_cases hxe : h = e
      · rw [if_pos (by rw [hxe]; exact List.mem_cons_self), hxe]; simp [eg_u]
      · have : zb_hP H h ≠ zb_hP H e := fun z => hxe (zb_hr_inj hr hh he z)
        have e1 : (eg_u M 67 (zb_hP H e) 1) 67 (zb_hP H h) = M 67 (zb_hP H h) := by simp [eg_u, this]
        rw [e1, m5 h hh]; simp [hxe]
    · rcases List.mem_cons.mp hx with z | z
      · rw [z]; exact ⟨he, hl⟩
      · exact m9 x z
    · have hxe : x ≠ e := fun z => by rw [z] at x4; omega
      exact zb_lvs_sub (fun q hq => List.mem_cons_of_mem _ hq) (m10 x ((List.mem_cons.mp x1).resolve_left hxe) x2 (by simp) x4 j hj)
    · have hxe : x ≠ e := fun z => x2 (by rw [z]; exact List.mem_cons_self)
      exact zb_lvs_sub (fun q hq => List.mem_cons_of_mem _ hq) (m11 x ((List.mem_cons.mp x1).resolve_left hxe) (by simp) x3)
  have hpv := zb_hr_pv hr hN he (j := 1) (by rw [h8]; simp [zb_nf])
  obtain ⟨M', L', K', a1, a2, a3, a4, a5, a6, a7, a8⟩ := zb_rmark hr hm1 hpv (fun g g1 g2 => ⟨hlv g g1 g2, zb_hr_n8 hr hN he (by rw [h8]; simp [zb_nf]) (Or.inr ⟨h8, by omega⟩) g1 g2⟩)
  obtain ⟨q1, q2, q3, q4, q5, q6, q7, q8, q9, q10, q11⟩ := a2
  simp only [List.length_cons] at a5 a6
  refine ⟨M', L', K', a1, ⟨q1, q2, q3, q4, q5, q6, q7, q8, q9, fun x x1 x2 x3 x4 j hj => ?_, fun x x1 x2 x3 => ?_⟩, fun x hx => a3 x (List.mem_cons_of_mem _ hx), a3 e List.mem_cons_self, by omega, by omega⟩
  · have hxe : x ≠ e := fun z => by rw [z] at x4; omega
    exact q10 x x1 x2 (by simpa using hxe) x4 j hj
  · by_cases hxe : x = e
    · rw [hxe]; exact a4
    · exact q11 x x1 (by simpa using hxe) x3
theorem zb_entries_ok (hr : zb_HR C R H cn N lam scp) (hN : N ≤ 444) {t : Nat} {x1 : Int} (hl : ∀ e, e ∈ zb_hE H t → e ∈ zb_hO H → zb_lvs Lf (zb_cf C H e 0) → Lf e) (hlv : ∀ e g, e ∈ zb_hO H → Lf e → zb_hK H e = 8 → g ∈ zb_hO H → zb_cf C H e 1 = 17179869184 + (g : Int) → Lf g) : ∀ (es : List Nat) (w : Int) (s1 : Int) (M : eM) (L K : List Nat), zb_rech R H es w → (∀ e, e ∈ es → e ∈ zb_hE H t ∧ e ∈ zb_hO H ∧ zb_hK H e = 8) → (s1 = 0 ∨ s1 = 1) → zb_RM C R M H Lf L K [] →
    ∃ M' L' K' m', lp (fun z => fn_204_7 x1 z.1 z.2.1 z.2.2) (s1, w, M) = some (m', M') ∧ zb_RM C R M' H Lf L' K' [] ∧ (∀ x, x ∈ L → x ∈ L') ∧ L.length ≤ L'.length ∧ L.length + K'.length ≤ L'.length + K.length ∧ ((m' = s1 ∧ L' = L ∧ K' = K ∧ M' = M ∧ ∀ e, e ∈ es → zb_lvs (· ∈ L) (zb_cf C H e 0) → e ∈ L) ∨ (m' = 1 ∧ L.length < L'.length)) := by
  intro es
  induction es with
  | nil =>
    intro w s1 M L K hw _ hs hm
    have hw' : w = -1 := hw
    refine ⟨M, L, K, s1, lp3_inr ?_, hm, fun x hx => hx, Nat.le_refl _, Nat.le_refl _, Or.inl ⟨rfl, rfl, rfl, rfl, fun e he => by cases he⟩⟩
    unfold fn_204_7
    rw [if_pos hw', if_pos hs]
  | cons e es ih =>
    intro w s1 M L K hw zb_hE hs hm
    obtain ⟨w1, w2⟩ := hw
    obtain ⟨k0, k1, k2⟩ := zb_hE e List.mem_cons_self
    have hpe := zb_hr_p hr k1
    have hle := zb_hr_h hr k1
    have g65 : ∀ {M : eM} {L K X : List Nat}, zb_RM C R M H Lf L K X → M 65 = R 65 ∧ M 70 = R 70 ∧ M 71 = R 71 := fun z => ⟨z.1 65 (by decide), z.1 70 (by decide), z.1 71 (by decide)⟩
    have gt : ∀ {M : eM} {L K X : List Nat}, zb_RM C R M H Lf L K X → ∀ j : Nat, j < 3 → fn_189 (zb_ov (zb_hP H e)) (j : Int) M = some (zb_rf R H e j) := fun z j hj => zb_hr_getr hr (g65 z).1 (g65 z).2.1 (g65 z).2.2 k1 (by rw [k2]; simp [zb_nf]; exact hj)
    have t0 : fn_189 (zb_ov (zb_hP H e)) 0 M = some (zb_rf R H e 0) := gt hm 0 (by omega)
    have t1 : fn_189 (zb_ov (zb_hP H e)) 1 M = some (zb_rf R H e 1) := gt hm 1 (by omega)
    have t2 : fn_189 (zb_ov (zb_hP H e)) 2 M = some (zb_rf R H e 2) := gt hm 2 (by omega)
    have hwn : w ≠ -1 := by rw [w1]; unfold zb_ov; omega
    have pk := zb_hr_pv hr hN k1 (j := 0) (by rw [k2]; simp [zb_nf])
    have pw := zb_hr_pv hr hN k1 (j := 1) (by rw [k2]; simp [zb_nf])
    have pe : zb_pv H (17179869184 + (e : Int)) (zb_ov (zb_hP H e)) := Or.inl ⟨e, k1, rfl, rfl⟩
    have skip : fn_204_7 x1 s1 w M = some (.inl (s1, zb_rf R H e 2, M)) → (zb_lvs (· ∈ L) (zb_cf C H e 0) → e ∈ L) → ∃ M' L' K' m', lp (fun z => fn_204_7 x1 z.1 z.2.1 z.2.2) (s1, w, M) = some (m', M') ∧ zb_RM C R M' H Lf L' K' [] ∧ (∀ x, x ∈ L → x ∈ L') ∧ L.length ≤ L'.length ∧ L.length + K'.length ≤ L'.length + K.length ∧ ((m' = s1 ∧ L' = L ∧ K' = K ∧ M' = M ∧ ∀ y, y ∈ e :: es → zb_lvs (· ∈ L) (zb_cf C H y 0) → y ∈ L) ∨ (m' = 1 ∧ L.length < L'.length)) := by
      intro hstep hcl
      obtain ⟨M', L', K', m', b1, b2, b3, b4, b5, b6⟩ := ih (zb_rf R H e 2) s1 M L K w2 (fun q hq => zb_hE q (List.mem_cons_of_mem _ hq)) hs hm
      refine ⟨M', L', K', m', (lp3_inl hstep).trans b1, b2, b3, b4, b5, ?_⟩
      rcases b6 with ⟨c1, c2, c3, c4, c5⟩ | c
      · refine Or.inl ⟨c1, c2, c3, c4, fun y hy => ?_⟩
        rcases List.mem_cons.mp hy with z | z
        · rw [z]; exact hcl
        · exact c5 y z
      · exact Or.inr c
    have e31 : fn_204_31 x1 s1 w M = some (.inl (s1, zb_rf R H e 2, M)) := by
      unfold fn_204_31 fn_204_32
      rw [if_pos rfl, w1, t2, Option.bind_some]
    rcases zb_r200 hr hm pk with ⟨a1, a2⟩ | ⟨a1, g, g1, g2, g3, g4⟩
    · rcases zb_r200 hr hm pe with ⟨b1, b2⟩ | ⟨b1, g, g1, g2, g3, g4⟩
      · have heL : e ∈ L := b2 e (by omega) rfl
        have hvl := hm.2.2.2.2.2.2.2.2.2.2 e heL (by simp) k2
        have c1 : fn_200 (zb_rf R H e 1) M = some 1 := by
          rcases zb_r200 hr hm pw with ⟨c1, _⟩ | ⟨_, g, g1, g2, _, g4⟩
          · exact c1
          · have := zb_hr_h hr g1
            exact absurd (hvl g (by omega) g2) g4
        refine skip ?_ (fun _ => heL)
        unfold fn_204_7
        rw [if_neg hwn, w1, t0, Option.bind_some, a1, Option.bind_some, if_neg (by decide), b1, Option.bind_some, if_neg (by decide), t1, Option.bind_some, c1, Option.bind_some, if_pos (by decide), ← w1, e31]
      · have heg : g = e := by have := zb_hr_h hr g1; omega
        rw [heg] at g4
        have hle' : Lf e := hl e k0 k1 (fun q q1 q2 => (hm.2.2.2.2.2.2.2.2.1 q (a2 q q1 q2)).2)
        obtain ⟨M1, L1, K1, c1, c2, c3, c4, c5, c6⟩ := zb_entry_ok hr hN hm k1 k2 g4 hle' (fun q q1 q2 => hlv e q k1 hle' k2 q1 q2)
        obtain ⟨M', L', K', m', d1, d2, d3, d4, d5, d6⟩ := ih (zb_rf R H e 2) 1 M1 L1 K1 w2 (fun q hq => zb_hE q (List.mem_cons_of_mem _ hq)) (Or.inr rfl) c2
        refine ⟨M', L', K', m', ?_, d2, fun x hx => d3 x (c3 x hx), by omega, by omega, ?_⟩
        · rw [← d1]
          refine lp3_inl ?_
          have u1 : fn_189 (zb_ov (zb_hP H e)) 1 (eg_u M 67 (zb_hP H e) 1) = some (zb_rf R H e 1) := zb_hr_getr hr (g65 hm).1 (g65 hm).2.1 (g65 hm).2.2 k1 (by rw [k2]; simp [zb_nf])
          have u2 : fn_189 (zb_ov (zb_hP H e)) 2 M1 = some (zb_rf R H e 2) := gt c2 2 (by omega)
          have e29 : fn_204_29 x1 s1 w M = some (.inl (1, zb_rf R H e 2, M1)) := by
            unfold fn_204_29 fn_204_32
            rw [if_neg (by decide), w1, zb_f187 hpe, Option.bind_some, if_pos (by omega), Int.toNat_natCast, u1, Option.bind_some, c1, Option.bind_some, u2, Option.bind_some]
          unfold fn_204_7
          rw [if_neg hwn, w1, t0, Option.bind_some, a1, Option.bind_some, if_neg (by decide), b1, Option.bind_some, if_pos rfl, ← w1, e29]
        · right
          rcases d6 with ⟨z1, z2, _⟩ | ⟨z1, z2⟩
          · exact ⟨z1, by rw [z2]; exact c5⟩
          · exact ⟨z1, by omega⟩
    · refine skip ?_ (fun z => absurd (z g (by have := zb_hr_h hr g1; omega) g2) g4)
      unfold fn_204_7
      rw [if_neg hwn, w1, t0, Option.bind_some, a1, Option.bind_some, if_pos rfl, ← w1, e31]
end GC
def zb_KCL (C : eM) (H : zb_Hp) (L : List Nat) (h : Nat) : Prop := (zb_hK H h = 6 → zb_lvs (· ∈ L) (zb_cf C H h 0) → zb_lvs (· ∈ L) (zb_cf C H h 1)) ∧ (zb_hK H h = 7 → ∀ e, e ∈ zb_hE H h → zb_lvs (· ∈ L) (zb_cf C H e 0) → e ∈ L)
def zb_RGR (C R : eM) (H : zb_Hp) (rg : Nat) : Prop := rg ≤ 500 ∧ R 45 45 = (rg : Int) ∧ ∀ i, i < rg → zb_pv H (C 22 i) (R 73 i) ∧ zb_pv H (C 23 i) (R 74 i) ∧ ∀ g, g ∈ zb_hO H → C 23 i = 17179869184 + (g : Int) → zb_hK H g ≠ 8
section GC
variable {C R : eM} {H : zb_Hp} {cn N rg : Nat} {lam : Nat → Prop} {scp : Nat → Nat → Prop} {Rt Lf : Nat → Prop} {L K X : List Nat} {M : eM}
theorem zb_slot_ok (hr : zb_HR C R H cn N lam scp) (hN : N ≤ 444) (hc : zb_Clo C H rg Rt Lf) {o : Nat} (ho : o < 6700) {s1 : Int} (hs : s1 = 0 ∨ s1 = 1) (hm : zb_RM C R M H Lf L K []) :
    ∃ M' L' K' m', fn_203_4 s1 (o : Int) M = some (.inl (m', ((o + 1 : Nat) : Int), M')) ∧ (m' = 0 ∨ m' = 1) ∧ zb_RM C R M' H Lf L' K' [] ∧ (∀ x, x ∈ L → x ∈ L') ∧ L.length ≤ L'.length ∧ L.length + K'.length ≤ L'.length + K.length ∧ ((m' = s1 ∧ L' = L ∧ K' = K ∧ M' = M ∧ ∀ h, h ∈ L → zb_hP H h = o → zb_KCL C H L h) ∨ (m' = 1 ∧ L.length < L'.length)) := by
  have hr0 := hr
  obtain ⟨_, ⟨fs, fc, hQ⟩, hOB, hTB, _⟩ := hr
  obtain ⟨q1, q2, q3, q4, q5, q6, q7, _⟩ := hQ
  have e68 : M 68 = R 68 := hm.1 68 (by decide)
  have e62 : M 62 = R 62 := hm.1 62 (by decide)
  have g65 : M 65 = R 65 ∧ M 70 = R 70 ∧ M 71 = R 71 := ⟨hm.1 65 (by decide), hm.1 70 (by decide), hm.1 71 (by decide)⟩
  have skip : fn_203_4 s1 (o : Int) M = some (.inl (s1, ((o + 1 : Nat) : Int), M)) → (∀ h, h ∈ L → zb_hP H h = o → zb_KCL C H L h) → ∃ M' L' K' m', fn_203_4 s1 (o : Int) M = some (.inl (m', ((o + 1 : Nat) : Int), M')) ∧ (m' = 0 ∨ m' = 1) ∧ zb_RM C R M' H Lf L' K' [] ∧ (∀ x, x ∈ L → x ∈ L') ∧ L.length ≤ L'.length ∧ L.length + K'.length ≤ L'.length + K.length ∧ ((m' = s1 ∧ L' = L ∧ K' = K ∧ M' = M ∧ ∀ h, h ∈ L → zb_hP H h = o → zb_KCL C H L h) ∨ (m' = 1 ∧ L.length < L'.length)) :=
    fun a b => ⟨M, L, K, s1, a, hs, hm, fun x hx => hx, Nat.le_refl _, Nat.le_refl _, Or.inl ⟨rfl, rfl, rfl, rfl, b⟩⟩
  by_cases hin : o ∈ (zb_hO H).map (zb_hP H)
  · obtain ⟨h, hh, hho⟩ := List.mem_map.mp hin
    have h68 : M 68 o = 1 := by rw [e68]; exact q5 o hin
    have hu : ∀ x, x ∈ L → zb_hP H x = o → x = h := fun x hx hxo => zb_hr_inj hr0 (hm.2.2.2.2.2.2.2.2.1 x hx).1 hh (hxo.trans hho.symm)
    have h67 := hm.2.2.2.2.1 h hh
    rw [hho] at h67
    have hob := hOB h hh
    have h62 : M 62 o = (zb_hK H h : Int) - 1 := by rw [e62, ← hho]; exact hob.1
    by_cases hL : h ∈ L
    · rw [if_pos hL] at h67
      have hlf := (hm.2.2.2.2.2.2.2.2.1 h hL).2
      have e51 : ∀ (s : Int) (M1 : eM), M1 62 = R 62 → zb_hK H h ≠ 7 → fn_203_51 s (o : Int) (zb_ov o) M1 = some (.inl (s, ((o + 1 : Nat) : Int), M1)) := fun s M1 hM1 h7 => by
        have h62' : M1 62 o = (zb_hK H h : Int) - 1 := by rw [hM1, ← hho]; exact hob.1
        unfold fn_203_51
        rw [if_pos (by omega), Int.toNat_natCast, h62', if_pos (by omega), zb_wi_1 (by omega)]
      by_cases h6 : zb_hK H h = 6
      · have n0 : 0 < zb_nf (zb_hK H h) (zb_hZ H h) := by rw [h6]; simp [zb_nf]
        have n1 : 1 < zb_nf (zb_hK H h) (zb_hZ H h) := by rw [h6]; simp [zb_nf]
        have t0 : fn_189 (zb_ov o) 0 M = some (zb_rf R H h 0) := by rw [← hho]; exact zb_hr_getr hr0 g65.1 g65.2.1 g65.2.2 hh n0
        have t1 : fn_189 (zb_ov o) 1 M = some (zb_rf R H h 1) := by rw [← hho]; exact zb_hr_getr hr0 g65.1 g65.2.1 g65.2.2 hh n1
        rcases zb_r200 hr0 hm (zb_hr_pv hr0 hN hh n0) with ⟨a1, a2⟩ | ⟨a1, g, g1, g2, g3, g4⟩
        · rcases zb_r200 hr0 hm (zb_hr_pv hr0 hN hh n1) with ⟨b1, b2⟩ | ⟨b1, g, g1, g2, g3, g4⟩
          · refine skip ?_ (fun x hx hxo => ?_)
            · unfold fn_203_4
              rw [if_neg (by omega), if_pos (by omega), Int.toNat_natCast, h68, if_neg (by decide), h67, if_pos (by decide), h62, if_neg (by omega), zb_lor_ov ho, t0, Option.bind_some, a1, Option.bind_some, if_neg (by decide), t1, Option.bind_some, b1, Option.bind_some, if_pos (by decide), e51 s1 M e62 (by omega)]
            · rw [hu x hx hxo]
              exact ⟨fun _ _ => b2, fun z => by omega⟩
          · obtain ⟨M1, L1, K1, c1, c2, c3, c4, c5, c6, c7, c8⟩ := zb_rmark hr0 hm (zb_hr_pv hr0 hN hh n1) (fun q q1 q2 => ⟨hc.2.2.1 h q hh hlf h6 (fun y y1 y2 => (hm.2.2.2.2.2.2.2.2.1 y (a2 y y1 y2)).2) q1 q2, zb_hr_n8 hr0 hN hh n1 (Or.inl (by omega)) q1 q2⟩)
            have hne : ¬ zb_lvs (· ∈ L) (zb_cf C H h 1) := fun z => g4 (z g (by have := zb_hr_h hr0 g1; omega) g2)
            refine ⟨M1, L1, K1, 1, ?_, Or.inr rfl, c2, c3, c6, by omega, Or.inr ⟨rfl, c8 hne⟩⟩
            unfold fn_203_4
            rw [if_neg (by omega), if_pos (by omega), Int.toNat_natCast, h68, if_neg (by decide), h67, if_pos (by decide), h62, if_neg (by omega), zb_lor_ov ho, t0, Option.bind_some, a1, Option.bind_some, if_neg (by decide), t1, Option.bind_some, b1, Option.bind_some, if_neg (by decide), Option.bind_some, c1, Option.bind_some, e51 1 M1 (c2.1 62 (by decide)) (by omega)]
        · refine skip ?_ (fun x hx hxo => ?_)
          · unfold fn_203_4
            rw [if_neg (by omega), if_pos (by omega), Int.toNat_natCast, h68, if_neg (by decide), h67, if_pos (by decide), h62, if_neg (by omega), zb_lor_ov ho, t0, Option.bind_some, a1, Option.bind_some, if_pos rfl, e51 s1 M e62 (by omega)]
          · rw [hu x hx hxo]
            exact ⟨fun _ z => absurd (z g (by have := zb_hr_h hr0 g1; omega) g2) g4, fun z => by omega⟩
      · by_cases h7 : zb_hK H h = 7
        · have n0 : 0 < zb_nf (zb_hK H h) (zb_hZ H h) := by rw [h7]; simp [zb_nf]
          have t0 : fn_189 (zb_ov o) 0 M = some (zb_rf R H h 0) := by rw [← hho]; exact zb_hr_getr hr0 g65.1 g65.2.1 g65.2.2 hh n0
          obtain ⟨u1, u2, u3⟩ := hTB.1 h hh h7
          have hfd := (hob.2.2.2.2.1 0 n0).1 (Or.inr (Or.inl h7))
          have ecf : zb_cf C H h 0 = zb_lv (C 16 (zb_hS H h + 1)) := by unfold zb_cf zb_ci; rw [h7]; rfl
          rw [ecf] at hfd
          have hre := zb_rech_of hr0 (zb_hE H h) _ _ (zb_lt H h) (fun q hq => hq.1) u1 u3 hfd
          obtain ⟨M1, L1, K1, m1, a1, a2, a3, a4, a5, a6⟩ := zb_entries_ok (t := h) (x1 := zb_ov o) hr0 hN (fun e e1 e2 e3 => hc.2.2.2.1 h e hh hlf h7 e1 e3) (fun e g e1 e2 e3 e4 e5 => hc.2.2.2.2.1 e g e1 e2 e3 e4 e5) (zb_hE H h) (zb_rf R H h 0) 0 M L K hre (fun e he => ⟨he, u3 e he⟩) (Or.inl rfl) hm
          have e204 : fn_204 (zb_ov o) M = some (m1, M1) := by
            unfold fn_204; rw [t0, Option.bind_some]; exact a1
          have e0 : fn_203_4 s1 (o : Int) M = fn_203_51 s1 (o : Int) (zb_ov o) M := by
            unfold fn_203_4
            rw [if_neg (by omega), if_pos (by omega), Int.toNat_natCast, h68, if_neg (by decide), h67, if_pos (by decide), h62, if_pos (by omega), zb_lor_ov ho]
          have e1 : fn_203_51 s1 (o : Int) (zb_ov o) M = (if ¬ m1 = 0 then some (.inl (1, ((o + 1 : Nat) : Int), M1)) else if s1 = 0 then some (.inl (0, ((o + 1 : Nat) : Int), M1)) else some (.inl (1, ((o + 1 : Nat) : Int), M1))) := by
            unfold fn_203_51
            rw [if_pos (by omega), Int.toNat_natCast, h62, if_neg (by omega), e204, Option.bind_some, zb_wi_1 (by omega)]
          rcases a6 with ⟨c1, c2, c3, c4, c5⟩ | ⟨c1, c2⟩
          · subst c2; subst c3; subst c4
            refine skip ?_ (fun x hx hxo => ?_)
            · rw [e0, e1, c1, if_neg (by decide)]
              rcases hs with z | z <;> rw [z]
              · rw [if_pos rfl]
              · rw [if_neg (by decide)]
            · rw [hu x hx hxo]
              exact ⟨fun z => by omega, fun _ => c5⟩
          · refine ⟨M1, L1, K1, 1, ?_, Or.inr rfl, a2, a3, a4, a5, Or.inr ⟨rfl, c2⟩⟩
            rw [e0, e1, c1, if_pos (by decide)]
        · refine skip ?_ (fun x hx hxo => ?_)
          · unfold fn_203_4
            rw [if_neg (by omega), if_pos (by omega), Int.toNat_natCast, h68, if_neg (by decide), h67, if_pos (by decide), h62, if_pos (by omega), zb_lor_ov ho, e51 s1 M e62 h7]
          · rw [hu x hx hxo]
            exact ⟨fun z => absurd z h6, fun z => absurd z h7⟩
    · rw [if_neg hL] at h67
      refine skip ?_ (fun x hx hxo => absurd (hu x hx hxo ▸ hx) hL)
      unfold fn_203_4
      rw [if_neg (by omega), if_pos (by omega), Int.toNat_natCast, h68, if_neg (by decide), h67, if_neg (by decide), zb_wi_1 (by omega)]
  · have hof : o ∈ fs := by
      have := (q4 o).mpr ho
      exact (List.mem_append.mp this).resolve_left hin
    have h68 : M 68 o = 0 := by rw [e68]; exact q6 o hof
    refine skip ?_ (fun x hx hxo => absurd (List.mem_map.mpr ⟨x, (hm.2.2.2.2.2.2.2.2.1 x hx).1, hxo⟩) hin)
    unfold fn_203_4
    rw [if_neg (by omega), if_pos (by omega), Int.toNat_natCast, h68, if_pos rfl, zb_wi_1 (by omega)]
theorem zb_keyed_reg (hr : zb_HR C R H cn N lam scp) (hN : N ≤ 444) (hg : zb_RGR C R H rg) (hc : zb_Clo C H rg Rt Lf) : ∀ (k i : Nat) (s1 : Int) (M : eM) (L K : List Nat), i + k = rg → (s1 = 0 ∨ s1 = 1) → zb_RM C R M H Lf L K [] →
    ∃ M' L' m', lp (fun z => fn_203_71 z.1 z.2.1 z.2.2) (s1, (i : Int), M) = some (m', M') ∧ (m' = 0 ∨ m' = 1) ∧ zb_RM C R M' H Lf L' [] [] ∧ (∀ x, x ∈ L → x ∈ L') ∧ L.length ≤ L'.length ∧ ((m' = s1 ∧ (K = [] → L' = L ∧ M' = M ∧ ∀ q, i ≤ q → q < rg → zb_lvs (· ∈ L) (C 22 q) → zb_lvs (· ∈ L) (C 23 q))) ∨ (m' = 1 ∧ L.length < L'.length)) := by
  obtain ⟨g1, g2, g3⟩ := hg
  intro k
  induction k with
  | zero =>
    intro i s1 M L K hi hs hm
    obtain ⟨M', L', a1, a2, a3, a4, a5⟩ := zb_follow_ok hr hN (fun h j g a1 a2 a3 a4 a5 a6 => hc.2.1 h j g a1 a2 a3 a4 a5 a6) _ M L K rfl hm
    refine ⟨M', L', s1, lp3_inr ?_, hs, a2, a3, a4, Or.inl ⟨rfl, fun hK0 => ⟨(a5 hK0).2, (a5 hK0).1, fun q q1 q2 => by omega⟩⟩⟩
    unfold fn_203_71
    rw [hm.2.1 45 (by decide), g2, if_pos (by omega), a1, Option.bind_some, if_pos hs]
  | succ k ih =>
    intro i s1 M L K hi hs hm
    obtain ⟨p1, p2, p3⟩ := g3 i (by omega)
    have e73 : M 73 = R 73 := hm.1 73 (by decide)
    have e74 : M 74 = R 74 := hm.1 74 (by decide)
    have skip : fn_203_71 s1 (i : Int) M = some (.inl (s1, ((i + 1 : Nat) : Int), M)) → (zb_lvs (· ∈ L) (C 22 i) → zb_lvs (· ∈ L) (C 23 i)) → ∃ M' L' m', lp (fun z => fn_203_71 z.1 z.2.1 z.2.2) (s1, (i : Int), M) = some (m', M') ∧ (m' = 0 ∨ m' = 1) ∧ zb_RM C R M' H Lf L' [] [] ∧ (∀ x, x ∈ L → x ∈ L') ∧ L.length ≤ L'.length ∧ ((m' = s1 ∧ (K = [] → L' = L ∧ M' = M ∧ ∀ q, i ≤ q → q < rg → zb_lvs (· ∈ L) (C 22 q) → zb_lvs (· ∈ L) (C 23 q))) ∨ (m' = 1 ∧ L.length < L'.length)) := by
      intro a b
      obtain ⟨M', L', m', b1, b2, b3, b4, b5, b6⟩ := ih (i + 1) s1 M L K (by omega) hs hm
      refine ⟨M', L', m', (lp3_inl a).trans b1, b2, b3, b4, b5, ?_⟩
      rcases b6 with ⟨c1, c2⟩ | c
      · refine Or.inl ⟨c1, fun hK0 => ⟨(c2 hK0).1, (c2 hK0).2.1, fun q q1 q2 => ?_⟩⟩
        by_cases hq : q = i
        · rw [hq]; exact b
        · exact (c2 hK0).2.2 q (by omega) q2
      · exact Or.inr c
    rcases zb_r200 hr hm p1 with ⟨a1, a2⟩ | ⟨a1, g, y1, y2, y3, y4⟩
    · rcases zb_r200 hr hm p2 with ⟨b1, b2⟩ | ⟨b1, g, y1, y2, y3, y4⟩
      · refine skip ?_ (fun _ => b2)
        unfold fn_203_71
        rw [hm.2.1 45 (by decide), g2, if_neg (by omega), if_pos (by omega), Int.toNat_natCast, e73, a1, Option.bind_some, if_neg (by decide), e74, b1, Option.bind_some, if_pos (by decide), zb_wi_1 (by omega)]
      · obtain ⟨M1, L1, K1, c1, c2, c3, c4, c5, c6, c7, c8⟩ := zb_rmark hr hm p2 (fun q q1 q2 => ⟨hc.2.2.2.2.2 i q (by omega) (fun y y1 y2 => (hm.2.2.2.2.2.2.2.2.1 y (a2 y y1 y2)).2) q1 q2, p3 q q1 q2⟩)
        have hne : ¬ zb_lvs (· ∈ L) (C 23 i) := fun z => y4 (z g (by have := zb_hr_h hr y1; omega) y2)
        obtain ⟨M', L', m', d1, d2, d3, d4, d5, d6⟩ := ih (i + 1) 1 M1 L1 K1 (by omega) (Or.inr rfl) c2
        have := c8 hne
        refine ⟨M', L', m', (lp3_inl ?_).trans d1, d2, d3, fun x hx => d4 x (c3 x hx), by omega, Or.inr ⟨?_, by omega⟩⟩
        · unfold fn_203_71
          rw [hm.2.1 45 (by decide), g2, if_neg (by omega), if_pos (by omega), Int.toNat_natCast, e73, a1, Option.bind_some, if_neg (by decide), e74, b1, Option.bind_some, if_neg (by decide), c1, Option.bind_some, zb_wi_1 (by omega)]
        · rcases d6 with ⟨z, _⟩ | ⟨z, _⟩ <;> exact z
    · refine skip ?_ (fun z => absurd (z g (by have := zb_hr_h hr y1; omega) y2) y4)
      unfold fn_203_71
      rw [hm.2.1 45 (by decide), g2, if_neg (by omega), if_pos (by omega), Int.toNat_natCast, e73, a1, Option.bind_some, if_pos rfl, zb_wi_1 (by omega)]
theorem zb_keyed_loop (hr : zb_HR C R H cn N lam scp) (hN : N ≤ 444) (hg : zb_RGR C R H rg) (hc : zb_Clo C H rg Rt Lf) : ∀ (k o : Nat) (s1 : Int) (M : eM) (L K : List Nat), o + k = 6700 → (s1 = 0 ∨ s1 = 1) → zb_RM C R M H Lf L K [] →
    ∃ M' L' m', lp (fun z => fn_203_4 z.1 z.2.1 z.2.2) (s1, (o : Int), M) = some (m', M') ∧ (m' = 0 ∨ m' = 1) ∧ zb_RM C R M' H Lf L' [] [] ∧ (∀ x, x ∈ L → x ∈ L') ∧ L.length ≤ L'.length ∧ ((m' = s1 ∧ (K = [] → L' = L ∧ M' = M ∧ (∀ q, q < rg → zb_lvs (· ∈ L) (C 22 q) → zb_lvs (· ∈ L) (C 23 q)) ∧ ∀ h, h ∈ L → o ≤ zb_hP H h → zb_KCL C H L h)) ∨ (m' = 1 ∧ L.length < L'.length)) := by
  intro k
  induction k with
  | zero =>
    intro o s1 M L K ho hs hm
    obtain ⟨M', L', m', b1, b2, b3, b4, b5, b6⟩ := zb_keyed_reg hr hN hg hc rg 0 s1 M L K (by omega) hs hm
    refine ⟨M', L', m', lp3_map ?_, b2, b3, b4, b5, ?_⟩
    · unfold fn_203_4
      rw [if_pos (by omega)]
      have b1' : lp (fun z => fn_203_71 z.1 z.2.1 z.2.2) (s1, 0, M) = some (m', M') := b1
      rw [b1']
    · rcases b6 with ⟨c1, c2⟩ | c
      · refine Or.inl ⟨c1, fun hK0 => ⟨(c2 hK0).1, (c2 hK0).2.1, fun q q2 => (c2 hK0).2.2 q (Nat.zero_le _) q2, fun h hh hho => ?_⟩⟩
        have := zb_hr_p hr (hm.2.2.2.2.2.2.2.2.1 h hh).1
        omega
      · exact Or.inr c
  | succ k ih =>
    intro o s1 M L K ho hs hm
    obtain ⟨M1, L1, K1, m1, a1, a2, a3, a4, a5, a6, a7⟩ := zb_slot_ok hr hN hc (o := o) (by omega) hs hm
    obtain ⟨M', L', m', b1, b2, b3, b4, b5, b6⟩ := ih (o + 1) m1 M1 L1 K1 (by omega) a2 a3
    refine ⟨M', L', m', (lp3_inl a1).trans b1, b2, b3, fun x hx => b4 x (a4 x hx), by omega, ?_⟩
    rcases a7 with ⟨c1, c2, c3, c4, c5⟩ | ⟨c1, c2⟩
    · subst c2; subst c3; subst c4
      rcases b6 with ⟨d1, d2⟩ | d
      · refine Or.inl ⟨d1.trans c1, fun hK0 => ?_⟩
        obtain ⟨e1, e2, e3, e4⟩ := d2 hK0
        refine ⟨e1, e2, e3, fun h hh hho => ?_⟩
        by_cases hq : zb_hP H h = o
        · exact c5 h hh hq
        · exact e4 h hh (by omega)
      · exact Or.inr d
    · right
      refine ⟨?_, by omega⟩
      rcases b6 with ⟨d1, d2⟩ | ⟨d1, _⟩
      · rw [d1, c1]
      · exact d1
end GC
def zb_rcv (H : zb_Hp) (w : Int) : Prop := (∃ g : Nat, g ∈ zb_hO H ∧ zb_hK H g ≠ 8 ∧ w = zb_ov (zb_hP H g)) ∨ (w < 0 ∨ eb_lshr w 32 ≠ 6)
def zb_RRV (R : eM) (H : zb_Hp) (sk zb_fo bn N qd : Nat) : Prop :=
  (R 45 51 = (sk : Int) ∧ sk ≤ 19000 ∧ ∀ i, i < sk → zb_rcv H (R 77 i)) ∧ (R 45 53 = (zb_fo : Int) ∧ zb_fo ≤ 4400 ∧ ∀ i, i < zb_fo → zb_rcv H (R 82 i)) ∧ (R 45 59 = (bn : Int) ∧ bn ≤ 31 ∧ ∀ i, i < bn → zb_rcv H (R 84 i))
  ∧ (zb_rcv H (R 45 62) ∧ zb_rcv H (R 45 63)) ∧ (R 45 7 = (N : Int) ∧ N ≤ 444 ∧ ∀ i, i < N → zb_rcv H (R 72 i)) ∧ (R 45 48 = (qd : Int) ∧ qd ≤ 500 ∧ ∀ i, i < qd → zb_rcv H (R 75 i) ∧ zb_rcv H (R 76 i))
def zb_RTR (R : eM) (H : zb_Hp) (sk zb_fo bn N qd : Nat) (g : Nat) : Prop :=
  (∃ i, i < sk ∧ R 77 i = zb_ov (zb_hP H g)) ∨ (∃ i, i < zb_fo ∧ R 82 i = zb_ov (zb_hP H g)) ∨ (∃ i, i < bn ∧ R 84 i = zb_ov (zb_hP H g)) ∨ (R 45 62 = zb_ov (zb_hP H g) ∨ R 45 63 = zb_ov (zb_hP H g))
  ∨ (∃ i, i < N ∧ R 72 i = zb_ov (zb_hP H g)) ∨ (∃ i, i < qd ∧ (R 75 i = zb_ov (zb_hP H g) ∨ R 76 i = zb_ov (zb_hP H g)))
def zb_FIN (C R M : eM) (H : zb_Hp) (rg : Nat) (Lf : Nat → Prop) (L : List Nat) : Prop := zb_RM C R M H Lf L [] [] ∧ (∀ q, q < rg → zb_lvs (· ∈ L) (C 22 q) → zb_lvs (· ∈ L) (C 23 q)) ∧ ∀ h, h ∈ L → zb_KCL C H L h
section GC
variable {C R : eM} {H : zb_Hp} {cn N rg sk zb_fo bn qd : Nat} {lam : Nat → Prop} {scp : Nat → Nat → Prop} {Rt Lf : Nat → Prop} {L K X : List Nat} {M : eM}
theorem zb_rmark_w (hr : zb_HR C R H cn N lam scp) (hm : zb_RM C R M H Lf L K []) {w : Int} (hv : zb_rcv H w) (hl : ∀ g, g ∈ zb_hO H → w = zb_ov (zb_hP H g) → Lf g) :
    ∃ M' L' K', fn_199 w M = some M' ∧ zb_RM C R M' H Lf L' K' [] ∧ (∀ x, x ∈ L → x ∈ L') ∧ (∀ g, g ∈ zb_hO H → w = zb_ov (zb_hP H g) → g ∈ L') := by
  rcases hv with ⟨g, g1, g2, g3⟩ | hn
  · have hgl := zb_hr_h hr g1
    obtain ⟨M', L', K', a1, a2, a3, a4, _⟩ := zb_rmark hr hm (v := 17179869184 + (g : Int)) (w := w) (Or.inl ⟨g, g1, rfl, g3⟩) (fun q q1 q2 => by
      have : q = g := by omega
      rw [this]; exact ⟨hl g g1 g3, g2⟩)
    refine ⟨M', L', K', a1, a2, a3, fun q q1 q2 => ?_⟩
    have : zb_hP H q = zb_hP H g := by rw [g3] at q2; unfold zb_ov at q2; omega
    rw [zb_hr_inj hr q1 g1 this]; exact a4 g (by omega) rfl
  · have hno : zb_NOB 0 w := ⟨by rw [zb_sh32 (k := 0) (by decide) (by decide)]; decide, hn, fun g hg => by omega, fun o ho e => by
      rcases hn with z | z
      · rw [e] at z; exact zb_ov_pos z
      · rw [e, zb_sh_ov ho] at z; exact z rfl⟩
    obtain ⟨M', L', K', a1, a2, a3, a4, _⟩ := zb_rmark hr hm (v := 0) (w := w) (Or.inr hno) (fun q q1 q2 => by omega)
    exact ⟨M', L', K', a1, a2, a3, fun q q1 q2 => absurd q2 (hno.2.2.2 _ (zb_hr_p hr q1))⟩
theorem zb_keyed_fix (hr : zb_HR C R H cn N lam scp) (hN : N ≤ 444) (hg : zb_RGR C R H rg) (hc : zb_Clo C H rg Rt Lf) {x : Int} : ∀ (m : Nat) (M : eM) (L : List Nat), (zb_hO H).length - L.length = m → zb_RM C R M H Lf L [] [] →
    ∃ M' L', lp (fn_198_101 x) M = some M' ∧ zb_FIN C R M' H rg Lf L' ∧ (∀ y, y ∈ L → y ∈ L') := by
  intro m
  induction m using Nat.strongRecOn with
  | ind m ih =>
    intro M L hm hs
    obtain ⟨M1, L1, m1, a1, a2, a3, a4, a5, a6⟩ := zb_keyed_loop hr hN hg hc 6700 0 0 M L [] (by omega) (Or.inl rfl) hs
    have e203 : fn_203 M = some (m1, M1) := a1
    rcases a6 with ⟨c1, c2⟩ | ⟨c1, c2⟩
    · obtain ⟨d1, d2, d3, d4⟩ := c2 rfl
      subst d1; subst d2
      refine ⟨M1, L1, lp_inr ?_, ⟨a3, d3, fun h hh => d4 h hh (Nat.zero_le _)⟩, fun y hy => hy⟩
      unfold fn_198_101
      rw [e203, Option.bind_some, if_pos c1]
    · have hl1 : L1.length ≤ (zb_hO H).length := zb_len_of_sub a3.2.2.2.2.2.1 (fun x hx => (a3.2.2.2.2.2.2.2.2.1 x hx).1)
      obtain ⟨M', L', b1, b2, b3⟩ := ih ((zb_hO H).length - L1.length) (by omega) M1 L1 rfl a3
      refine ⟨M', L', ?_, b2, fun y hy => b3 y (a4 y hy)⟩
      rw [← b1]
      refine lp_inl ?_
      have e199 : fn_199 (-1) M1 = some M1 := by
        unfold fn_199 fn_200 fn_201
        rw [if_pos (by decide), Option.bind_some, if_pos rfl, Option.bind_some, if_neg (by decide)]
      unfold fn_198_101
      rw [e203, Option.bind_some, if_neg (show ¬ m1 = 0 by rw [c1]; decide), e199, Option.bind_some]
theorem zb_rr_queue (hr : zb_HR C R H cn N lam scp) (hg : zb_RGR C R H rg) (hv : zb_RRV R H sk zb_fo bn N qd) (hc : zb_Clo C H rg (zb_RTR R H sk zb_fo bn N qd) Lf) : ∀ (k i : Nat) (M : eM) (L K : List Nat), i + k = qd → zb_RM C R M H Lf L K [] →
    ∃ M' L', lp (fun z => fn_198_81 z.1 z.2) ((i : Int), M) = some M' ∧ zb_FIN C R M' H rg Lf L' ∧ (∀ y, y ∈ L → y ∈ L') ∧ (∀ q, i ≤ q → q < qd → ∀ g, g ∈ zb_hO H → R 75 q = zb_ov (zb_hP H g) ∨ R 76 q = zb_ov (zb_hP H g) → g ∈ L') := by
  obtain ⟨v1, v2, v3, v4, ⟨v5, hN, v5'⟩, w1, w2, w3⟩ := hv
  intro k
  induction k with
  | zero =>
    intro i M L K hi hm
    obtain ⟨M1, L1, a1, a2, a3, a4, a5⟩ := zb_follow_ok hr hN (fun h j g a1 a2 a3 a4 a5 a6 => hc.2.1 h j g a1 a2 a3 a4 a5 a6) _ M L K rfl hm
    obtain ⟨M', L', b1, b2, b3⟩ := zb_keyed_fix (x := (i : Int)) hr hN hg hc _ M1 L1 rfl a2
    refine ⟨M', L', lp2_map ?_, b2, fun y hy => b3 y (a3 y hy), fun q q1 q2 => by omega⟩
    unfold fn_198_81
    rw [hm.2.1 48 (by decide), w1, if_pos (by omega), a1, Option.bind_some, b1]
  | succ k ih =>
    intro i M L K hi hm
    obtain ⟨x1, x2⟩ := w3 i (by omega)
    obtain ⟨M1, L1, K1, a1, a2, a3, a4⟩ := zb_rmark_w hr hm x1 (fun g g1 g2 => hc.1 g g1 (Or.inr (Or.inr (Or.inr (Or.inr (Or.inr ⟨i, by omega, Or.inl g2⟩))))))
    obtain ⟨M2, L2, K2, c1, c2, c3, c4⟩ := zb_rmark_w hr a2 x2 (fun g g1 g2 => hc.1 g g1 (Or.inr (Or.inr (Or.inr (Or.inr (Or.inr ⟨i, by omega, Or.inr g2⟩))))))
    obtain ⟨M', L', b1, b2, b3, b4⟩ := ih (i + 1) M2 L2 K2 (by omega) c2
    refine ⟨M', L', (lp2_inl ?_).trans b1, b2, fun y hy => b3 y (c3 y (a3 y hy)), fun q q1 q2 g g1 g2 => ?_⟩
    · unfold fn_198_81
      rw [hm.2.1 48 (by decide), w1, if_neg (by omega), if_pos (by omega), Int.toNat_natCast, hm.1 75 (by decide), a1, Option.bind_some, a2.1 76 (by decide), c1, Option.bind_some, zb_wi_1 (by omega)]
    · by_cases hq : q = i
      · rw [hq] at g2
        rcases g2 with g2 | g2
        · exact b3 g (c3 g (a4 g g1 g2))
        · exact b3 g (c4 g g1 g2)
      · exact b4 q (by omega) q2 g g1 g2
theorem zb_rr_glob (hr : zb_HR C R H cn N lam scp) (hg : zb_RGR C R H rg) (hv : zb_RRV R H sk zb_fo bn N qd) (hc : zb_Clo C H rg (zb_RTR R H sk zb_fo bn N qd) Lf) : ∀ (k i : Nat) (M : eM) (L K : List Nat), i + k = N → zb_RM C R M H Lf L K [] →
    ∃ M' L', lp (fun z => fn_198_67 z.1 z.2) ((i : Int), M) = some M' ∧ zb_FIN C R M' H rg Lf L' ∧ (∀ y, y ∈ L → y ∈ L') ∧ (∀ q, q < qd → ∀ g, g ∈ zb_hO H → R 75 q = zb_ov (zb_hP H g) ∨ R 76 q = zb_ov (zb_hP H g) → g ∈ L') ∧ (∀ q, i ≤ q → q < N → ∀ g, g ∈ zb_hO H → R 72 q = zb_ov (zb_hP H g) → g ∈ L') := by
  have hv0 := hv
  obtain ⟨v1, v2, v3, v4, ⟨w1, w2, w3⟩, v6⟩ := hv
  intro k
  induction k with
  | zero =>
    intro i M L K hi hm
    obtain ⟨M', L', b1, b2, b3, b4⟩ := zb_rr_queue hr hg hv0 hc qd 0 M L K (by omega) hm
    refine ⟨M', L', lp2_map ?_, b2, b3, fun q hq => b4 q (Nat.zero_le _) hq, fun q q1 q2 => by omega⟩
    have b1' : lp (fun z => fn_198_81 z.1 z.2) (0, M) = some M' := b1
    unfold fn_198_67
    rw [hm.2.1 7 (by decide), w1, if_pos (by omega), b1']
  | succ k ih =>
    intro i M L K hi hm
    have x1 := w3 i (by omega)
    obtain ⟨M1, L1, K1, a1, a2, a3, a4⟩ := zb_rmark_w hr hm x1 (fun g g1 g2 => hc.1 g g1 (Or.inr (Or.inr (Or.inr (Or.inr (Or.inl ⟨i, by omega, g2⟩))))))
    obtain ⟨M', L', b1, b2, b3, b4, b5⟩ := ih (i + 1) M1 L1 K1 (by omega) a2
    refine ⟨M', L', (lp2_inl ?_).trans b1, b2, fun y hy => b3 y (a3 y hy), b4, fun q q1 q2 g g1 g2 => ?_⟩
    · unfold fn_198_67
      rw [hm.2.1 7 (by decide), w1, if_neg (by omega), if_pos (by omega), Int.toNat_natCast, hm.1 72 (by decide), a1, Option.bind_some, zb_wi_1 (by omega)]
    · by_cases hq : q = i
      · rw [hq] at g2; exact b3 g (a4 g g1 g2)
      · exact b5 q (by omega) q2 g g1 g2
theorem zb_rr_build (hr : zb_HR C R H cn N lam scp) (hg : zb_RGR C R H rg) (hv : zb_RRV R H sk zb_fo bn N qd) (hc : zb_Clo C H rg (zb_RTR R H sk zb_fo bn N qd) Lf) : ∀ (k i : Nat) (M : eM) (L K : List Nat), i + k = bn → zb_RM C R M H Lf L K [] →
    ∃ M' L', lp (fun z => fn_198_45 z.1 z.2) ((i : Int), M) = some M' ∧ zb_FIN C R M' H rg Lf L' ∧ (∀ y, y ∈ L → y ∈ L') ∧ (∀ g, g ∈ zb_hO H → ((R 45 62 = zb_ov (zb_hP H g) ∨ R 45 63 = zb_ov (zb_hP H g)) ∨ (∃ i, i < N ∧ R 72 i = zb_ov (zb_hP H g)) ∨ (∃ i, i < qd ∧ (R 75 i = zb_ov (zb_hP H g) ∨ R 76 i = zb_ov (zb_hP H g)))) → g ∈ L') ∧ (∀ q, i ≤ q → q < bn → ∀ g, g ∈ zb_hO H → R 84 q = zb_ov (zb_hP H g) → g ∈ L') := by
  have hv0 := hv
  obtain ⟨v1, v2, ⟨w1, w2, w3⟩, ⟨z1, z2⟩, v5, v6⟩ := hv
  intro k
  induction k with
  | zero =>
    intro i M L K hi hm
    obtain ⟨M1, L1, K1, a1, a2, a3, a4⟩ := zb_rmark_w hr hm z1 (fun g g1 g2 => hc.1 g g1 (Or.inr (Or.inr (Or.inr (Or.inl (Or.inl g2))))))
    obtain ⟨M2, L2, K2, c1, c2, c3, c4⟩ := zb_rmark_w hr a2 z2 (fun g g1 g2 => hc.1 g g1 (Or.inr (Or.inr (Or.inr (Or.inl (Or.inr g2))))))
    obtain ⟨M', L', b1, b2, b3, b4, b5⟩ := zb_rr_glob hr hg hv0 hc N 0 M2 L2 K2 (by omega) c2
    refine ⟨M', L', lp2_map ?_, b2, fun y hy => b3 y (c3 y (a3 y hy)), fun g g1 g2 => ?_, fun q q1 q2 => by omega⟩
    · have b1' : lp (fun z => fn_198_67 z.1 z.2) (0, M2) = some M' := b1
      unfold fn_198_45
      rw [hm.2.1 59 (by decide), w1, if_pos (by omega), hm.2.1 62 (by decide), a1, Option.bind_some, a2.2.1 63 (by decide), c1, Option.bind_some, b1']
    · rcases g2 with (g2 | g2) | ⟨i, i1, i2⟩ | ⟨i, i1, i2⟩
      · exact b3 g (c3 g (a4 g g1 g2))
      · exact b3 g (c4 g g1 g2)
      · exact b5 i (Nat.zero_le _) i1 g g1 i2
      · exact b4 i i1 g g1 i2
  | succ k ih =>
    intro i M L K hi hm
    have x1 := w3 i (by omega)
    obtain ⟨M1, L1, K1, a1, a2, a3, a4⟩ := zb_rmark_w hr hm x1 (fun g g1 g2 => hc.1 g g1 (Or.inr (Or.inr (Or.inl ⟨i, by omega, g2⟩))))
    obtain ⟨M', L', b1, b2, b3, b4, b5⟩ := ih (i + 1) M1 L1 K1 (by omega) a2
    refine ⟨M', L', (lp2_inl ?_).trans b1, b2, fun y hy => b3 y (a3 y hy), b4, fun q q1 q2 g g1 g2 => ?_⟩
    · unfold fn_198_45
      rw [hm.2.1 59 (by decide), w1, if_neg (by omega), if_pos (by omega), Int.toNat_natCast, hm.1 84 (by decide), a1, Option.bind_some, zb_wi_1 (by omega)]
    · by_cases hq : q = i
      · rw [hq] at g2; exact b3 g (a4 g g1 g2)
      · exact b5 q (by omega) q2 g g1 g2
theorem zb_rr_forms (hr : zb_HR C R H cn N lam scp) (hg : zb_RGR C R H rg) (hv : zb_RRV R H sk zb_fo bn N qd) (hc : zb_Clo C H rg (zb_RTR R H sk zb_fo bn N qd) Lf) : ∀ (k i : Nat) (M : eM) (L K : List Nat), i + k = zb_fo → zb_RM C R M H Lf L K [] →
    ∃ M' L', lp (fun z => fn_198_31 z.1 z.2) ((i : Int), M) = some M' ∧ zb_FIN C R M' H rg Lf L' ∧ (∀ y, y ∈ L → y ∈ L') ∧ (∀ g, g ∈ zb_hO H → ((∃ i, i < bn ∧ R 84 i = zb_ov (zb_hP H g)) ∨ (R 45 62 = zb_ov (zb_hP H g) ∨ R 45 63 = zb_ov (zb_hP H g)) ∨ (∃ i, i < N ∧ R 72 i = zb_ov (zb_hP H g)) ∨ (∃ i, i < qd ∧ (R 75 i = zb_ov (zb_hP H g) ∨ R 76 i = zb_ov (zb_hP H g)))) → g ∈ L') ∧ (∀ q, i ≤ q → q < zb_fo → ∀ g, g ∈ zb_hO H → R 82 q = zb_ov (zb_hP H g) → g ∈ L') := by
  have hv0 := hv
  obtain ⟨v1, ⟨w1, w2, w3⟩, v3, v4, v5, v6⟩ := hv
  intro k
  induction k with
  | zero =>
    intro i M L K hi hm
    obtain ⟨M', L', b1, b2, b3, b4, b5⟩ := zb_rr_build hr hg hv0 hc bn 0 M L K (by omega) hm
    refine ⟨M', L', lp2_map ?_, b2, b3, fun g g1 g2 => ?_, fun q q1 q2 => by omega⟩
    · have b1' : lp (fun z => fn_198_45 z.1 z.2) (0, M) = some M' := b1
      unfold fn_198_31
      rw [hm.2.1 53 (by decide), w1, if_pos (by omega), b1']
    · rcases g2 with ⟨i, i1, i2⟩ | g2
      · exact b5 i (Nat.zero_le _) i1 g g1 i2
      · exact b4 g g1 g2
  | succ k ih =>
    intro i M L K hi hm
    have x1 := w3 i (by omega)
    obtain ⟨M1, L1, K1, a1, a2, a3, a4⟩ := zb_rmark_w hr hm x1 (fun g g1 g2 => hc.1 g g1 (Or.inr (Or.inl ⟨i, by omega, g2⟩)))
    obtain ⟨M', L', b1, b2, b3, b4, b5⟩ := ih (i + 1) M1 L1 K1 (by omega) a2
    refine ⟨M', L', (lp2_inl ?_).trans b1, b2, fun y hy => b3 y (a3 y hy), b4, fun q q1 q2 g g1 g2 => ?_⟩
    · unfold fn_198_31
      rw [hm.2.1 53 (by decide), w1, if_neg (by omega), if_pos (by omega), Int.toNat_natCast, hm.1 82 (by decide), a1, Option.bind_some, zb_wi_1 (by omega)]
    · by_cases hq : q = i
      · rw [hq] at g2; exact b3 g (a4 g g1 g2)
      · exact b5 q (by omega) q2 g g1 g2
theorem zb_rr_held (hr : zb_HR C R H cn N lam scp) (hg : zb_RGR C R H rg) (hv : zb_RRV R H sk zb_fo bn N qd) (hc : zb_Clo C H rg (zb_RTR R H sk zb_fo bn N qd) Lf) : ∀ (k i : Nat) (M : eM) (L K : List Nat), i + k = sk → zb_RM C R M H Lf L K [] →
    ∃ M' L', lp (fun z => fn_198_17 z.1 z.2) ((i : Int), M) = some M' ∧ zb_FIN C R M' H rg Lf L' ∧ (∀ y, y ∈ L → y ∈ L') ∧ (∀ g, g ∈ zb_hO H → ((∃ i, i < zb_fo ∧ R 82 i = zb_ov (zb_hP H g)) ∨ (∃ i, i < bn ∧ R 84 i = zb_ov (zb_hP H g)) ∨ (R 45 62 = zb_ov (zb_hP H g) ∨ R 45 63 = zb_ov (zb_hP H g)) ∨ (∃ i, i < N ∧ R 72 i = zb_ov (zb_hP H g)) ∨ (∃ i, i < qd ∧ (R 75 i = zb_ov (zb_hP H g) ∨ R 76 i = zb_ov (zb_hP H g)))) → g ∈ L') ∧ (∀ q, i ≤ q → q < sk → ∀ g, g ∈ zb_hO H → R 77 q = zb_ov (zb_hP H g) → g ∈ L') := by
  have hv0 := hv
  obtain ⟨⟨w1, w2, w3⟩, v2, v3, v4, v5, v6⟩ := hv
  intro k
  induction k with
  | zero =>
    intro i M L K hi hm
    obtain ⟨M', L', b1, b2, b3, b4, b5⟩ := zb_rr_forms hr hg hv0 hc zb_fo 0 M L K (by omega) hm
    refine ⟨M', L', lp2_map ?_, b2, b3, fun g g1 g2 => ?_, fun q q1 q2 => by omega⟩
    · have b1' : lp (fun z => fn_198_31 z.1 z.2) (0, M) = some M' := b1
      unfold fn_198_17
      rw [hm.2.1 51 (by decide), w1, if_pos (by omega), b1']
    · rcases g2 with ⟨i, i1, i2⟩ | g2
      · exact b5 i (Nat.zero_le _) i1 g g1 i2
      · exact b4 g g1 g2
  | succ k ih =>
    intro i M L K hi hm
    have x1 := w3 i (by omega)
    obtain ⟨M1, L1, K1, a1, a2, a3, a4⟩ := zb_rmark_w hr hm x1 (fun g g1 g2 => hc.1 g g1 (Or.inl ⟨i, by omega, g2⟩))
    obtain ⟨M', L', b1, b2, b3, b4, b5⟩ := ih (i + 1) M1 L1 K1 (by omega) a2
    refine ⟨M', L', (lp2_inl ?_).trans b1, b2, fun y hy => b3 y (a3 y hy), b4, fun q q1 q2 g g1 g2 => ?_⟩
    · unfold fn_198_17
      rw [hm.2.1 51 (by decide), w1, if_neg (by omega), if_pos (by omega), Int.toNat_natCast, hm.1 77 (by decide), a1, Option.bind_some, zb_wi_1 (by omega)]
    · by_cases hq : q = i
      · rw [hq] at g2; exact b3 g (a4 g g1 g2)
      · exact b5 q (by omega) q2 g g1 g2
theorem zb_fin_clo (hr : zb_HR C R H cn N lam scp) (hs : zb_FIN C R M H rg Lf L) (hro : ∀ h, h ∈ zb_hO H → Rt h → h ∈ L) : zb_Clo C H rg Rt (· ∈ L) := by
  obtain ⟨⟨m1, m2, m3, m4, m5, m6, m7, m8, m9, m10, m11⟩, s2, s3⟩ := hs
  have lt2 : ∀ {g : Nat}, g ∈ zb_hO H → g < 20000 := fun hg => by have := zb_hr_h hr hg; omega
  refine ⟨hro, fun h j g a1 a2 a3 a4 a5 a6 => m10 h a2 (by simp) (by simp) a3 j a4 g (lt2 a5) a6, fun h g a1 a2 a3 a4 a5 a6 => (s3 h a2).1 a3 a4 g (lt2 a5) a6, fun t e a1 a2 a3 a4 a5 => (s3 t a2).2 a3 e a4 a5, fun e g a1 a2 a3 a4 a5 => m11 e a2 (by simp) a3 g (lt2 a4) a5, fun i g a1 a2 a3 a4 => s2 i a1 a2 g (lt2 a3) a4⟩
theorem zb_reckon_ok (hr : zb_HR C R H cn N lam scp) (hg : zb_RGR C R H rg) (hv : zb_RRV R H sk zb_fo bn N qd) :
    ∃ (M' : eM) (L : List Nat), fn_198 R = some M' ∧ (∀ c, c ∉ ([45, 67, 85] : List Nat) → M' c = R c) ∧ (∀ f, f ≠ 64 → M' 45 f = R 45 f) ∧ (∀ h, h ∈ zb_hO H → M' 67 (zb_hP H h) = if h ∈ L then 1 else 0) ∧ ∀ h, h ∈ zb_hO H → (h ∈ L ↔ zb_LV C H rg (zb_RTR R H sk zb_fo bn N qd) h) := by
  have hc : zb_Clo C H rg (zb_RTR R H sk zb_fo bn N qd) (zb_LV C H rg (zb_RTR R H sk zb_fo bn N qd)) := zb_LV_clo
  have clear : ∀ (k o : Nat) (M : eM), o + k = 6700 → (∀ c, c ≠ 67 → M c = R c) → (∀ q, q < o → M 67 q = 0) → ∃ M1, lp (fun z => fn_198_2 z.1 z.2) ((o : Int), M) = lp (fun z => fn_198_17 z.1 z.2) (0, eg_u M1 45 64 0) ∧ (∀ c, c ≠ 67 → M1 c = R c) ∧ (∀ q, q < 6700 → M1 67 q = 0) := by
    intro k
    induction k with
    | zero =>
      intro o M ho h1 h2
      refine ⟨M, lp2_map ?_, h1, fun q hq => h2 q (by omega)⟩
      unfold fn_198_2
      rw [if_pos (by omega)]
    | succ k ih =>
      intro o M ho h1 h2
      obtain ⟨M1, a1, a2, a3⟩ := ih (o + 1) (eg_u M 67 o 0) (by omega) (fun c hc => by rw [← h1 c hc]; exact eg_u_ne hc) (fun q hq => by
        by_cases hqo : q = o
        · rw [hqo]; simp [eg_u]
        · have : (eg_u M 67 o 0) 67 q = M 67 q := by simp [eg_u, hqo]
          rw [this]; exact h2 q (by omega))
      refine ⟨M1, (lp2_inl ?_).trans a1, a2, a3⟩
      unfold fn_198_2
      rw [if_neg (by omega), if_pos (by omega), Int.toNat_natCast, zb_wi_1 (by omega)]
  obtain ⟨M1, a1, a2, a3⟩ := clear 6700 0 R (by omega) (fun c _ => rfl) (fun q hq => by omega)
  have hs0 : zb_RM C R (eg_u M1 45 64 0) H (zb_LV C H rg (zb_RTR R H sk zb_fo bn N qd)) [] [] [] := by
    refine ⟨fun c hc => ?_, fun f hf => ?_, rfl, trivial, fun h hh => ?_, List.nodup_nil, List.nodup_nil, (fun h hh => by cases hh), (fun h hh => by cases hh), (fun h hh => by cases hh), (fun h hh => by cases hh)⟩
    · simp only [List.mem_cons, List.not_mem_nil, or_false, not_or] at hc
      rw [← a2 c hc.2.1]
      funext j; simp [eg_u, hc]
    · rw [← a2 45 (by decide)]; simp [eg_u, hf]
    · have := a3 _ (zb_hr_p hr hh)
      rw [if_neg (by simp), ← this]; simp [eg_u]
  obtain ⟨M', L', b1, b2, b3, b4, b5⟩ := zb_rr_held hr hg hv hc sk 0 _ [] [] (by omega) hs0
  have hclo := zb_fin_clo hr b2 (Rt := zb_RTR R H sk zb_fo bn N qd) (fun h hh hq => by
    rcases hq with ⟨i, i1, i2⟩ | hq
    · exact b5 i (Nat.zero_le _) i1 h hh i2
    · exact b4 h hh hq)
  obtain ⟨m1, m2, m3, m4, m5, m6, m7, m8, m9, _⟩ := b2.1
  refine ⟨M', L', ?_, m1, m2, m5, fun h hh => ⟨fun z => (m9 h z).2, fun z => z _ hclo⟩⟩
  have a1' : fn_198 R = lp (fun z => fn_198_17 z.1 z.2) (0, eg_u M1 45 64 0) := a1
  rw [a1']; exact b1
end GC
