abbrev zb_Hp := List Nat × Nat × (Nat → Nat) × (Nat → Nat) × (Nat → Nat) × (Nat → Nat) × (Nat → List Nat) × (Nat → List Nat)
def zb_hO (H : zb_Hp) : List Nat := H.1
def zb_hU (H : zb_Hp) : Nat := H.2.1
def zb_hS (H : zb_Hp) (h : Nat) : Nat := H.2.2.1 h
def zb_hZ (H : zb_Hp) (h : Nat) : Nat := H.2.2.2.1 h
def zb_hK (H : zb_Hp) (h : Nat) : Nat := H.2.2.2.2.1 h
def zb_hP (H : zb_Hp) (h : Nat) : Nat := H.2.2.2.2.2.1 h
def zb_hC (H : zb_Hp) (o : Nat) : List Nat := H.2.2.2.2.2.2.1 o
def zb_hE (H : zb_Hp) (h : Nat) : List Nat := H.2.2.2.2.2.2.2 h
def zb_vo (H : zb_Hp) (h : Nat) : Prop := h ∈ zb_hO H ∧ zb_hK H h ≠ 4 ∧ zb_hK H h ≠ 8
def zb_VR (A : Nat → Prop) (p : Nat → Nat) (N : Nat) (v w : Int) : Prop :=
  (0 ≤ v ∧ v < 4294967296 ∧ w = v) ∨ (v = 4294967296 ∧ w = 8589934592) ∨ (v = 4294967297 ∧ w = 4294967296) ∨ (v = 4294967298 ∧ w = 12884901888)
  ∨ (∃ n : Nat, n < N ∧ v = 8589934592 + (n : Int) ∧ w = 17179869184 + (n : Int))
  ∨ (∃ i : Nat, i < 34 ∧ v = 12884901888 + (i : Int) ∧ w = 21474836490 + (i : Int))
  ∨ (∃ h : Nat, A h ∧ v = 17179869184 + (h : Int) ∧ w = zb_ov (p h))
def zb_LN (A : Nat → Prop) (p : Nat → Nat) (v w : Int) : Prop := (v = 21474836480 ∧ w = -1) ∨ (∃ h : Nat, A h ∧ v = 17179869184 + (h : Int) ∧ w = zb_ov (p h))
theorem zb_VR_mono {A A' : Nat → Prop} {p p' : Nat → Nat} {N N' : Nat} {v w : Int} (h : zb_VR A p N v w) (hN : N ≤ N') (hA : ∀ h, A h → A' h ∧ p' h = p h) : zb_VR A' p' N' v w := by
  rcases h with h | h | h | h | ⟨n, n1, n2⟩ | h | ⟨x, x1, x2, x3⟩
  · exact Or.inl h
  · exact Or.inr (Or.inl h)
  · exact Or.inr (Or.inr (Or.inl h))
  · exact Or.inr (Or.inr (Or.inr (Or.inl h)))
  · exact Or.inr (Or.inr (Or.inr (Or.inr (Or.inl ⟨n, by omega, n2⟩))))
  · exact Or.inr (Or.inr (Or.inr (Or.inr (Or.inr (Or.inl h)))))
  · exact Or.inr (Or.inr (Or.inr (Or.inr (Or.inr (Or.inr ⟨x, (hA x x1).1, x2, by rw [(hA x x1).2]; exact x3⟩)))))
theorem zb_LN_mono {A A' : Nat → Prop} {p p' : Nat → Nat} {v w : Int} (h : zb_LN A p v w) (hA : ∀ h, A h → A' h ∧ p' h = p h) : zb_LN A' p' v w := by
  rcases h with h | ⟨x, x1, x2, x3⟩
  · exact Or.inl h
  · exact Or.inr ⟨x, (hA x x1).1, x2, by rw [(hA x x1).2]; exact x3⟩
def zb_NOB (v w : Int) : Prop := eb_lshr v 32 ≠ 4 ∧ (w < 0 ∨ eb_lshr w 32 ≠ 6) ∧ (∀ g : Nat, g < 20000 → v ≠ 17179869184 + (g : Int)) ∧ (∀ o : Nat, o < 6700 → w ≠ zb_ov o)
theorem zb_sh32 {x : Int} (h : -9223372036854775808 ≤ x ∧ x < 9223372036854775808) {k : Int} (hk : x / 4294967296 = k) : eb_lshr x 32 = k := by rw [zb_lshr_hi h, hk]
theorem zb_VR_ob {A : Nat → Prop} {p : Nat → Nat} {N : Nat} (hN : N ≤ 444) {v w : Int} (h : zb_VR A p N v w) : (∃ g : Nat, A g ∧ v = 17179869184 + (g : Int) ∧ w = zb_ov (p g)) ∨ zb_NOB v w := by
  have key : ∀ {a b : Int} {k l : Int}, -9223372036854775808 ≤ a ∧ a < 9223372036854775808 → -9223372036854775808 ≤ b ∧ b < 9223372036854775808 → a / 4294967296 = k → b / 4294967296 = l → k ≠ 4 → l ≠ 6 → zb_NOB a b := by
    intro a b k l ha hb hak hbl hk hl
    refine ⟨by rw [zb_sh32 ha hak]; exact hk, Or.inr (by rw [zb_sh32 hb hbl]; exact hl), fun g hg e => ?_, fun o ho e => ?_⟩
    · omega
    · unfold zb_ov at e; omega
  rcases h with ⟨h1, h2, h3⟩ | ⟨h1, h2⟩ | ⟨h1, h2⟩ | ⟨h1, h2⟩ | ⟨n, n1, n2, n3⟩ | ⟨i, i1, i2, i3⟩ | h
  · right; exact key (k := 0) (l := 0) (by omega) (by omega) (by omega) (by omega) (by decide) (by decide)
  · right; exact key (k := 1) (l := 2) (by omega) (by omega) (by omega) (by omega) (by decide) (by decide)
  · right; exact key (k := 1) (l := 1) (by omega) (by omega) (by omega) (by omega) (by decide) (by decide)
  · right; exact key (k := 1) (l := 3) (by omega) (by omega) (by omega) (by omega) (by decide) (by decide)
  · right; exact key (k := 2) (l := 4) (by omega) (by omega) (by omega) (by omega) (by decide) (by decide)
  · right; exact key (k := 3) (l := 5) (by omega) (by omega) (by omega) (by omega) (by decide) (by decide)
  · exact Or.inl h
theorem zb_LN_ob {A : Nat → Prop} {p : Nat → Nat} {v w : Int} (h : zb_LN A p v w) : (∃ g : Nat, A g ∧ v = 17179869184 + (g : Int) ∧ w = zb_ov (p g)) ∨ zb_NOB v w := by
  rcases h with ⟨h1, h2⟩ | h
  · right
    refine ⟨by rw [zb_sh32 (k := 5) (by omega) (by omega)]; decide, Or.inl (by omega), fun g hg e => by omega, fun o ho e => ?_⟩
    unfold zb_ov at e; omega
  · exact Or.inl h
theorem zb_wi_n {a : Nat} (h : a < 2147483648) : eg_wi (a : Int) = (a : Int) := by unfold eg_wi; omega
def zb_ci (k j : Nat) : Nat := if k = 3 ∨ k = 4 then 2 + j else 1 + j
abbrev zb_isl (k j : Nat) : Prop := ((k = 3 ∨ k = 4) ∧ j = 0) ∨ k = 7 ∨ (k = 8 ∧ j = 2)
def zb_lv (x : Int) : Int := if x = 0 then 21474836480 else if 1 ≤ x ∧ x < 20000 then 17179869184 + x else 0
theorem zb_lv_none {x : Int} (h : zb_lv x = 21474836480) : x = 0 := by
  unfold zb_lv at h; split at h
  · assumption
  · split at h <;> omega
theorem zb_lv_ob {x : Int} {g : Nat} (h : zb_lv x = 17179869184 + (g : Int)) (hg : g < 20000) : x = (g : Int) := by
  unfold zb_lv at h; split at h
  · omega
  · split at h <;> omega
theorem zb_lv_0 : zb_lv 0 = 21474836480 := rfl
theorem zb_lv_g {g : Nat} (h1 : 1 ≤ g) (hg : g < 20000) : zb_lv (g : Int) = 17179869184 + (g : Int) := by
  unfold zb_lv; rw [if_neg (by omega), if_pos (by omega)]
def zb_nf (k s : Nat) : Nat := if k = 1 then 2 else if k = 2 then s - 3 else if k = 3 then 1 else if k = 4 then s - 2 else if k = 5 then 1 else if k = 6 then 2 else if k = 7 then 1 else 3
def zb_szk (k s : Nat) : Prop := (k = 1 ∧ s = 4) ∨ (k = 2 ∧ 3 ≤ s ∧ s ≤ 103) ∨ (k = 3 ∧ s = 4) ∨ (k = 4 ∧ 3 ≤ s ∧ s ≤ 11) ∨ (k = 5 ∧ s = 3) ∨ (k = 6 ∧ s = 4) ∨ (k = 7 ∧ s = 3) ∨ (k = 8 ∧ s = 5)
theorem zb_nf_ci {k s j : Nat} (h : zb_szk k s) (hj : j < zb_nf k s) : zb_ci k j < s ∧ 1 ≤ zb_ci k j := by
  unfold zb_szk at h; unfold zb_nf at hj; unfold zb_ci
  rcases h with ⟨a, b⟩ | ⟨a, b⟩ | ⟨a, b⟩ | ⟨a, b⟩ | ⟨a, b⟩ | ⟨a, b⟩ | ⟨a, b⟩ | ⟨a, b⟩ <;> subst a <;> simp at hj ⊢ <;> omega
theorem zb_nf_le {k s : Nat} (h : zb_szk k s) : zb_nf k s ≤ s ∧ 3 ≤ s ∧ zb_nf k s < 200 ∧ 1 ≤ k ∧ k ≤ 8 := by
  unfold zb_szk at h; unfold zb_nf
  rcases h with ⟨a, b⟩ | ⟨a, b⟩ | ⟨a, b⟩ | ⟨a, b⟩ | ⟨a, b⟩ | ⟨a, b⟩ | ⟨a, b⟩ | ⟨a, b⟩ <;> subst a <;> simp <;> omega
def zb_cf (C : eM) (H : zb_Hp) (h j : Nat) : Int := if zb_isl (zb_hK H h) j then zb_lv (C 16 (zb_hS H h + zb_ci (zb_hK H h) j)) else C 16 (zb_hS H h + zb_ci (zb_hK H h) j)
def zb_rf (R : eM) (H : zb_Hp) (h j : Nat) : Int := R 70 ((zb_hC H (zb_hP H h)).getD j 0)
def zb_lt (H : zb_Hp) (h g : Nat) : Prop := g ∈ zb_hO H ∧ zb_hK H g = (if zb_hK H h = 3 ∨ zb_hK H h = 4 then 4 else 8) ∧ (zb_hK H h ≠ 7 → zb_hS H g < zb_hS H h)
def zb_FD (C R : eM) (H : zb_Hp) (N h j : Nat) : Prop := (zb_isl (zb_hK H h) j → zb_LN (zb_lt H h) (zb_hP H) (zb_cf C H h j) (zb_rf R H h j)) ∧ (¬ zb_isl (zb_hK H h) j → zb_VR (zb_vo H) (zb_hP H) N (zb_cf C H h j) (zb_rf R H h j))
def zb_OB (C R : eM) (H : zb_Hp) (N : Nat) (lam : Nat → Prop) (scp : Nat → Nat → Prop) (h : Nat) : Prop :=
  R 62 (zb_hP H h) = (zb_hK H h : Int) - 1 ∧ R 66 (zb_hP H h) = C 20 h ∧ (zb_hC H (zb_hP H h)).length = zb_nf (zb_hK H h) (zb_hZ H h) ∧ zb_szk (zb_hK H h) (zb_hZ H h)
  ∧ (∀ j, j < zb_nf (zb_hK H h) (zb_hZ H h) → zb_FD C R H N h j)
  ∧ (zb_hK H h = 3 → ∃ d : Nat, lam d ∧ C 16 (zb_hS H h + 1) = (d : Int) ∧ R 64 (zb_hP H h) = (d : Int))
  ∧ (zb_hK H h = 4 → ∃ d : Nat, scp d (zb_hZ H h - 3) ∧ C 16 (zb_hS H h + 1) = (d : Int) + 2 ∧ R 64 (zb_hP H h) = (d : Int))
def zb_ech (C : eM) (H : zb_Hp) : List Nat → Int → Prop
  | [], x => x = 0
  | e :: t, x => x = (e : Int) ∧ zb_ech C H t (C 16 (zb_hS H e + 3))
def zb_TB (C : eM) (H : zb_Hp) : Prop :=
  (∀ t, t ∈ zb_hO H → zb_hK H t = 7 → zb_ech C H (zb_hE H t) (C 16 (zb_hS H t + 1)) ∧ C 16 (zb_hS H t + 2) = ((zb_hE H t).length : Int) ∧ ∀ e, e ∈ zb_hE H t → e ∈ zb_hO H ∧ zb_hK H e = 8)
  ∧ (∀ t u e, t ∈ zb_hO H → zb_hK H t = 7 → u ∈ zb_hO H → zb_hK H u = 7 → e ∈ zb_hE H t → e ∈ zb_hE H u → t = u)
def zb_HR (C R : eM) (H : zb_Hp) (cn N : Nat) (lam : Nat → Prop) (scp : Nat → Nat → Prop) : Prop :=
  (∃ fl hs, zb_HC C cn (zb_hO H) fl hs (zb_hU H) (zb_hS H) (zb_hZ H) (zb_hK H)) ∧ (∃ fs fc, zb_HQ R cn (zb_hU H) ((zb_hO H).map (zb_hP H)) fs fc (zb_hC H))
  ∧ (∀ h, h ∈ zb_hO H → zb_OB C R H N lam scp h) ∧ zb_TB C H ∧ C 15 10 = R 45 42
def zb_lvs (P : Nat → Prop) (v : Int) : Prop := ∀ g : Nat, g < 20000 → v = 17179869184 + (g : Int) → P g
def zb_Clo (C : eM) (H : zb_Hp) (rg : Nat) (Rt P : Nat → Prop) : Prop :=
  (∀ h, h ∈ zb_hO H → Rt h → P h)
  ∧ (∀ (h j g : Nat), h ∈ zb_hO H → P h → zb_hK H h ≤ 4 → j < zb_nf (zb_hK H h) (zb_hZ H h) → g ∈ zb_hO H → zb_cf C H h j = 17179869184 + (g : Int) → P g)
  ∧ (∀ (h g : Nat), h ∈ zb_hO H → P h → zb_hK H h = 6 → zb_lvs P (zb_cf C H h 0) → g ∈ zb_hO H → zb_cf C H h 1 = 17179869184 + (g : Int) → P g)
  ∧ (∀ (t e : Nat), t ∈ zb_hO H → P t → zb_hK H t = 7 → e ∈ zb_hE H t → zb_lvs P (zb_cf C H e 0) → P e)
  ∧ (∀ (e g : Nat), e ∈ zb_hO H → P e → zb_hK H e = 8 → g ∈ zb_hO H → zb_cf C H e 1 = 17179869184 + (g : Int) → P g)
  ∧ (∀ (i g : Nat), i < rg → zb_lvs P (C 22 i) → g ∈ zb_hO H → C 23 i = 17179869184 + (g : Int) → P g)
def zb_LV (C : eM) (H : zb_Hp) (rg : Nat) (Rt : Nat → Prop) (h : Nat) : Prop := ∀ P, zb_Clo C H rg Rt P → P h
theorem zb_LV_clo {C : eM} {H : zb_Hp} {rg : Nat} {Rt : Nat → Prop} : zb_Clo C H rg Rt (zb_LV C H rg Rt) := by
  have sub : ∀ {P : Nat → Prop} {v : Int}, zb_Clo C H rg Rt P → zb_lvs (zb_LV C H rg Rt) v → zb_lvs P v := fun zb_hP h g g1 g2 => h g g1 g2 _ zb_hP
  refine ⟨fun h h1 h2 P zb_hP => zb_hP.1 h h1 h2, fun h j g a1 a2 a3 a4 a5 a6 P zb_hP => zb_hP.2.1 h j g a1 (a2 P zb_hP) a3 a4 a5 a6, fun h g a1 a2 a3 a4 a5 a6 P zb_hP => zb_hP.2.2.1 h g a1 (a2 P zb_hP) a3 (sub zb_hP a4) a5 a6, fun t e a1 a2 a3 a4 a5 P zb_hP => zb_hP.2.2.2.1 t e a1 (a2 P zb_hP) a3 a4 (sub zb_hP a5), fun e g a1 a2 a3 a4 a5 P zb_hP => zb_hP.2.2.2.2.1 e g a1 (a2 P zb_hP) a3 a4 a5, fun i g a1 a2 a3 a4 P zb_hP => zb_hP.2.2.2.2.2 i g a1 (sub zb_hP a2) a3 a4⟩
def zb_cv (H : zb_Hp) (v : Int) : Prop := (∃ g : Nat, g ∈ zb_hO H ∧ v = 17179869184 + (g : Int)) ∨ (eb_lshr v 32 ≠ 4 ∧ ∀ g : Nat, g < 20000 → v ≠ 17179869184 + (g : Int))
theorem zb_map_inj {f : Nat → Nat} : ∀ {l : List Nat}, (l.map f).Nodup → ∀ a b, a ∈ l → b ∈ l → f a = f b → a = b := by
  intro l
  induction l with
  | nil => intro _ a b ha; cases ha
  | cons c t ih =>
    intro hn a b ha hb hab
    rw [List.map_cons] at hn
    obtain ⟨n1, n2⟩ := List.nodup_cons.mp hn
    rcases List.mem_cons.mp ha with ea | ea
    · rcases List.mem_cons.mp hb with eb | eb
      · rw [ea, eb]
      · exact absurd (List.mem_map.mpr ⟨b, eb, by rw [← hab, ea]⟩) n1
    · rcases List.mem_cons.mp hb with eb | eb
      · exact absurd (List.mem_map.mpr ⟨a, ea, by rw [hab, eb]⟩) n1
      · exact ih n2 a b ea eb hab
section GC
variable {C R : eM} {H : zb_Hp} {cn N : Nat} {lam : Nat → Prop} {scp : Nat → Nat → Prop}
theorem zb_hr_h (hr : zb_HR C R H cn N lam scp) {h : Nat} (hh : h ∈ zb_hO H) : 1 ≤ h ∧ h < cn / 3 + 1 ∧ zb_hS H h + zb_hZ H h ≤ zb_hU H ∧ zb_hU H ≤ cn ∧ cn ≤ 20000 := by
  obtain ⟨⟨fl, hs, H1⟩, _⟩ := hr
  obtain ⟨a, b, c⟩ := zb_hc_h H1 hh
  exact ⟨a, b, c, H1.1.2.2.2.1, H1.1.2.1⟩
theorem zb_hr_len (hr : zb_HR C R H cn N lam scp) : 3 * (zb_hO H).length ≤ cn := by
  obtain ⟨⟨fl, hs, H1⟩, _⟩ := hr
  have := zb_cum_len H1.2.1 (fun h hh => (H1.2.2.1 h hh).2.2.2.2.1)
  have := H1.1.2.2.2.1
  omega
theorem zb_hr_nd (hr : zb_HR C R H cn N lam scp) : (zb_hO H).Nodup := by
  obtain ⟨⟨fl, hs, H1⟩, _⟩ := hr
  exact (List.nodup_append.mp H1.2.2.2.2.2.1).1
theorem zb_hr_inj (hr : zb_HR C R H cn N lam scp) {a b : Nat} (ha : a ∈ zb_hO H) (hb : b ∈ zb_hO H) (h : zb_hP H a = zb_hP H b) : a = b := by
  obtain ⟨_, ⟨fs, fc, H2⟩, _⟩ := hr
  have hn := (List.nodup_append.mp H2.2.2.1).1
  exact zb_map_inj hn a b ha hb h
theorem zb_hr_p (hr : zb_HR C R H cn N lam scp) {a : Nat} (ha : a ∈ zb_hO H) : zb_hP H a < 6700 := by
  obtain ⟨_, ⟨fs, fc, H2⟩, _⟩ := hr
  exact zb_ps_lt H2 (List.mem_map_of_mem ha)
theorem zb_hr_get (hr : zb_HR C R H cn N lam scp) {M : eM} (h16 : M 16 = C 16) (h17 : M 17 = C 17) {h i : Nat} (hh : h ∈ zb_hO H) (hi : i < zb_hZ H h) : fn_78 cn (cn / 3 + 1) (h : Int) (i : Int) M = some (C 16 (zb_hS H h + i)) := by
  obtain ⟨⟨fl, hs, H1⟩, _⟩ := hr
  rw [← zb_get_c H1 hh hi]
  unfold fn_78
  rw [h16, h17]
theorem zb_hr_ob (hr : zb_HR C R H cn N lam scp) {h : Nat} (hh : h ∈ zb_hO H) : zb_OB C R H N lam scp h := hr.2.2.1 h hh
theorem zb_hr_k (hr : zb_HR C R H cn N lam scp) {h : Nat} (hh : h ∈ zb_hO H) : C 18 h = (zb_hK H h : Int) ∧ C 19 h = (zb_hZ H h : Int) ∧ C 17 h = (zb_hS H h : Int) := by
  obtain ⟨⟨fl, hs, H1⟩, _⟩ := hr
  obtain ⟨a, b, c, _⟩ := H1.2.2.1 h hh
  exact ⟨c, b, a⟩
theorem zb_hr_cv (hr : zb_HR C R H cn N lam scp) (hN : N ≤ 444) {h j : Nat} (hh : h ∈ zb_hO H) (hj : j < zb_nf (zb_hK H h) (zb_hZ H h)) : zb_cv H (zb_cf C H h j) := by
  have hf := (zb_hr_ob hr hh).2.2.2.2.1 j hj
  by_cases hl : zb_isl (zb_hK H h) j
  · rcases zb_LN_ob (hf.1 hl) with ⟨g, g1, g2, g3⟩ | hn
    · exact Or.inl ⟨g, g1.1, g2⟩
    · exact Or.inr ⟨hn.1, hn.2.2.1⟩
  · rcases zb_VR_ob hN (hf.2 hl) with ⟨g, g1, g2, g3⟩ | hn
    · exact Or.inl ⟨g, g1.1, g2⟩
    · exact Or.inr ⟨hn.1, hn.2.2.1⟩
def zb_MS (C M : eM) (H : zb_Hp) (mo : Nat) (Lf : Nat → Prop) (L : List Nat) : Prop :=
  (∀ c, c ∉ ([38, 39, 40, 41, 42] : List Nat) → M c = C c) ∧ (∀ f, f ≠ 8 → M 38 f = C 38 f) ∧ M 38 8 = (L.length : Int) ∧ (∀ i (hi : i < L.length), M 40 i = (L[i] : Int))
  ∧ (∀ h, 1 ≤ h → h < mo → M 39 h = if h ∈ L then 1 else 0) ∧ L.Nodup ∧ (∀ h, h ∈ L → h ∈ zb_hO H ∧ Lf h)
theorem zb_wb1 : eg_wb 1 = 1 := by decide
theorem zb_wi_obj {g : Nat} (hg : g < 20000) : eg_wi (17179869184 + (g : Int)) = (g : Int) := by unfold eg_wi; omega
theorem zb_sh_obj {g : Nat} (hg : g < 20000) : eb_lshr (17179869184 + (g : Int)) 32 = 4 := zb_sh32 (by omega) (by omega)
theorem zb_pre_mem {L L' : List Nat} (h : L <+: L') {x : Nat} (hx : x ∈ L) : x ∈ L' := h.subset hx
theorem zb_len_of_sub : ∀ {L O : List Nat}, L.Nodup → (∀ x, x ∈ L → x ∈ O) → L.length ≤ O.length := by
  intro L
  induction L with
  | nil => intro O _ _; exact Nat.zero_le _
  | cons a t ih =>
    intro O hn hs
    obtain ⟨n1, n2⟩ := List.nodup_cons.mp hn
    have ha := hs a List.mem_cons_self
    have h1 : t.length ≤ (O.erase a).length := ih n2 (fun x hx => by
      have hxa : x ≠ a := fun e => n1 (e ▸ hx)
      exact (List.mem_erase_of_ne hxa).mpr (hs x (List.mem_cons_of_mem _ hx)))
    rw [List.length_erase_of_mem ha] at h1
    have : 0 < O.length := List.length_pos_of_mem ha
    simp only [List.length_cons]; omega
theorem zb_mark_h (hr : zb_HR C R H cn N lam scp) {M : eM} {Lf : Nat → Prop} {L : List Nat} {h : Nat} (hm : zb_MS C M H (cn / 3 + 1) Lf L) (hh : h ∈ zb_hO H) (hl : Lf h) :
    ∃ M' L', fn_136 (cn / 3 + 1) (h : Int) M = some M' ∧ zb_MS C M' H (cn / 3 + 1) Lf L' ∧ L <+: L' ∧ h ∈ L' ∧ M' 41 = M 41 ∧ M' 42 = M 42 := by
  obtain ⟨x1, x2, _, x4, x5⟩ := zb_hr_h hr hh
  have hlen := zb_hr_len hr
  obtain ⟨m1, m2, m3, m4, m5, m6, m7⟩ := hm
  have h39 := m5 h x1 x2
  by_cases hL : h ∈ L
  · rw [if_pos hL] at h39
    refine ⟨M, L, ?_, ⟨m1, m2, m3, m4, m5, m6, m7⟩, List.prefix_refl _, hL, rfl, rfl⟩
    unfold fn_136
    rw [if_neg (by omega), if_pos (by omega), Int.toNat_natCast, if_pos (by rw [h39]; decide)]
  · rw [if_neg hL] at h39
    have hnd : (h :: L).Nodup := List.nodup_cons.mpr ⟨hL, m6⟩
    have hll : L.length + 1 ≤ (zb_hO H).length := zb_len_of_sub hnd (fun x hx => by
      rcases List.mem_cons.mp hx with e | e
      · rw [e]; exact hh
      · exact (m7 x e).1)
    refine ⟨eg_u (eg_u (eg_u M 39 h 1) 40 L.length (h : Int)) 38 8 ((L.length + 1 : Nat) : Int), L ++ [h], ?_, ⟨fun c hc => ?_, fun f hf => ?_, ?_, fun i hi => ?_, fun x x1 x2 => ?_, ?_, fun x hx => ?_⟩, List.prefix_append _ _, by simp, rfl, rfl⟩
    · unfold fn_136
      rw [if_neg (by omega), if_pos (by omega), Int.toNat_natCast, if_neg (by rw [h39]; decide), m3, if_pos (by omega), Int.toNat_natCast, zb_wb1, zb_wi_1 (by omega)]
    · rw [← m1 c hc]
      simp only [List.mem_cons, List.not_mem_nil, or_false, not_or] at hc
      funext j; simp [eg_u, hc]
    · rw [← m2 f hf]; simp [eg_u, hf]
    · rw [List.length_append]; simp [eg_u]
    · by_cases hi2 : i < L.length
      · have hne : i ≠ L.length := by omega
        rw [List.getElem_append_left hi2, ← m4 i hi2]; simp [eg_u, hne]
      · have hie : i = L.length := by rw [List.length_append] at hi; simp at hi; omega
        subst hie
        simp [eg_u]
    · by_cases hxh : x = h
      · subst hxh
        rw [if_pos (by simp)]; simp [eg_u]
      · have e1 : (eg_u (eg_u (eg_u M 39 h 1) 40 L.length (h : Int)) 38 8 ((L.length + 1 : Nat) : Int)) 39 x = M 39 x := by simp [eg_u, hxh]
        rw [e1, m5 x x1 x2]
        simp [hxh]
    · refine List.nodup_append.mpr ⟨m6, by simp, fun a ha b hb => ?_⟩
      have : b = h := by simpa using hb
      rw [this]; exact fun e => hL (e ▸ ha)
    · rcases List.mem_append.mp hx with hx | hx
      · exact m7 x hx
      · have : x = h := by simpa using hx
        rw [this]; exact ⟨hh, hl⟩
theorem zb_mark_v (hr : zb_HR C R H cn N lam scp) {M : eM} {Lf : Nat → Prop} {L : List Nat} {v : Int} (hm : zb_MS C M H (cn / 3 + 1) Lf L) (hv : zb_cv H v) (hl : ∀ g, g ∈ zb_hO H → v = 17179869184 + (g : Int) → Lf g) :
    ∃ M' L', fn_137 (cn / 3 + 1) v M = some M' ∧ zb_MS C M' H (cn / 3 + 1) Lf L' ∧ L <+: L' ∧ zb_lvs (· ∈ L') v ∧ M' 41 = M 41 ∧ M' 42 = M 42 := by
  rcases hv with ⟨g, g1, g2⟩ | ⟨n1, n2⟩
  · obtain ⟨x1, x2, _, x4, x5⟩ := zb_hr_h hr g1
    obtain ⟨M', L', a1, a2, a3, a4, a5, a6⟩ := zb_mark_h hr hm g1 (hl g g1 g2)
    refine ⟨M', L', ?_, a2, a3, fun q q1 q2 => ?_, a5, a6⟩
    · unfold fn_137
      rw [g2, zb_sh_obj (by omega), if_neg (by decide), zb_wi_obj (by omega), a1, Option.bind_some]
    · have : q = g := by omega
      rw [this]; exact a4
  · refine ⟨M, L, ?_, hm, List.prefix_refl _, fun q q1 q2 => absurd q2 (n2 q q1), rfl, rfl⟩
    unfold fn_137
    rw [if_pos n1]
theorem zb_live_v (hr : zb_HR C R H cn N lam scp) {M : eM} {Lf : Nat → Prop} {L : List Nat} {v : Int} (hm : zb_MS C M H (cn / 3 + 1) Lf L) (hv : zb_cv H v) :
    (fn_138 (cn / 3 + 1) v M = some 1 ∧ zb_lvs (· ∈ L) v) ∨ (fn_138 (cn / 3 + 1) v M = some 0 ∧ ∃ g, g ∈ zb_hO H ∧ v = 17179869184 + (g : Int) ∧ g ∉ L) := by
  rcases hv with ⟨g, g1, g2⟩ | ⟨n1, n2⟩
  · obtain ⟨x1, x2, _, x4, x5⟩ := zb_hr_h hr g1
    have h39 := hm.2.2.2.2.1 g x1 x2
    by_cases hL : g ∈ L
    · left
      rw [if_pos hL] at h39
      refine ⟨?_, fun q q1 q2 => by have : q = g := by omega
                                    rw [this]; exact hL⟩
      unfold fn_138
      rw [g2, zb_sh_obj (by omega), if_neg (by decide), zb_wi_obj (by omega), if_pos (by omega), Int.toNat_natCast, if_neg (by rw [h39]; decide)]
    · right
      rw [if_neg hL] at h39
      refine ⟨?_, g, g1, g2, hL⟩
      unfold fn_138
      rw [g2, zb_sh_obj (by omega), if_neg (by decide), zb_wi_obj (by omega), if_pos (by omega), Int.toNat_natCast, if_pos h39]
  · left
    refine ⟨?_, fun q q1 q2 => absurd q2 (n2 q q1)⟩
    unfold fn_138
    rw [if_pos n1]
end GC
def zb_kvn (C : eM) (H : zb_Hp) (mo n : Nat) : Int := if n < mo then zb_cf C H n 0 else C 22 (n - mo)
def zb_tgn (C : eM) (H : zb_Hp) (mo n : Nat) : Int := if n < mo then (if zb_hK H n = 8 then 17179869184 + (n : Int) else zb_cf C H n 1) else C 23 (n - mo)
def zb_itm (H : zb_Hp) (mo rg n : Nat) : Prop := (n < mo ∧ n ∈ zb_hO H ∧ (zb_hK H n = 6 ∨ zb_hK H n = 8)) ∨ (mo ≤ n ∧ n - mo < rg)
def zb_wch (M : eM) : List Nat → Int → Prop
  | [], x => x = 0
  | n :: t, x => x = (n : Int) ∧ zb_wch M t (M 42 n)
theorem zb_wch_eqs {M M' : eM} : ∀ {l : List Nat} {x : Int}, (∀ c, c ∈ l → M' 42 c = M 42 c) → zb_wch M l x → zb_wch M' l x := by
  intro l
  induction l with
  | nil => intro x _ h; exact h
  | cons a t ih => intro x hh h; exact ⟨h.1, by rw [hh a List.mem_cons_self]; exact ih (fun c hc => hh c (List.mem_cons_of_mem _ hc)) h.2⟩
def zb_WS (C M : eM) (H : zb_Hp) (mo rg : Nat) (W : Nat → List Nat) (Act : Nat → Prop) : Prop :=
  (∀ k, 1 ≤ k → k < mo → zb_wch M (W k) (M 41 k)) ∧ (∀ k n, n ∈ W k → Act n ∧ zb_kvn C H mo n = 17179869184 + (k : Int) ∧ k < mo) ∧ (∀ k, (W k).Nodup) ∧ (∀ n, Act n → zb_itm H mo rg n)
def zb_RD (C : eM) (H : zb_Hp) (mo : Nat) (L pr : List Nat) (W : Nat → List Nat) (Act : Nat → Prop) : Prop :=
  ∀ n, Act n → zb_lvs (· ∈ L) (zb_tgn C H mo n) ∨ ∃ k : Nat, zb_kvn C H mo n = 17179869184 + (k : Int) ∧ k < mo ∧ n ∈ W k ∧ k ∉ pr
def zb_MTS (C M : eM) (H : zb_Hp) (mo rg : Nat) (Lf : Nat → Prop) (L pr : List Nat) (Act : Nat → Prop) : Prop :=
  zb_MS C M H mo Lf L ∧ (∀ n, Act n → zb_lvs Lf (zb_kvn C H mo n) → zb_lvs Lf (zb_tgn C H mo n)) ∧ ∃ W, zb_WS C M H mo rg W Act ∧ zb_RD C H mo L pr W Act
def zb_RGS (C : eM) (H : zb_Hp) (mo rg : Nat) : Prop := rg ≤ 500 ∧ C 21 2 = (rg : Int) ∧ C 38 11 = (mo : Int) ∧ ∀ i, i < rg → (∃ g : Nat, g ∈ zb_hO H ∧ C 22 i = 17179869184 + (g : Int)) ∧ zb_cv H (C 23 i)
section GC
variable {C R : eM} {H : zb_Hp} {cn N rg : Nat} {lam : Nat → Prop} {scp : Nat → Nat → Prop} {Lf : Nat → Prop} {L pr : List Nat} {Act : Nat → Prop} {M : eM}
theorem zb_lvs_pre {L L' : List Nat} (h : L <+: L') {v : Int} (hv : zb_lvs (· ∈ L) v) : zb_lvs (· ∈ L') v := fun g a b => zb_pre_mem h (hv g a b)
theorem zb_itm_cv (hr : zb_HR C R H cn N lam scp) (hN : N ≤ 444) (hg : zb_RGS C H (cn / 3 + 1) rg) {n : Nat} (hi : zb_itm H (cn / 3 + 1) rg n) : zb_cv H (zb_kvn C H (cn / 3 + 1) n) ∧ zb_cv H (zb_tgn C H (cn / 3 + 1) n) := by
  unfold zb_kvn zb_tgn
  rcases hi with ⟨i1, i2, i3⟩ | ⟨i1, i2⟩
  · rw [if_pos i1, if_pos i1]
    rcases i3 with k | k
    · rw [if_neg (by omega)]
      exact ⟨zb_hr_cv hr hN i2 (by rw [k]; simp [zb_nf]), zb_hr_cv hr hN i2 (by rw [k]; simp [zb_nf])⟩
    · rw [if_pos k]
      exact ⟨zb_hr_cv hr hN i2 (by rw [k]; simp [zb_nf]), Or.inl ⟨n, i2, rfl⟩⟩
  · rw [if_neg (by omega), if_neg (by omega)]
    exact ⟨Or.inl (hg.2.2.2 _ i2).1, (hg.2.2.2 _ i2).2⟩
theorem zb_itm_lt (hg : zb_RGS C H (cn / 3 + 1) rg) {n : Nat} (hr : zb_HR C R H cn N lam scp) (hi : zb_itm H (cn / 3 + 1) rg n) : 1 ≤ n ∧ n < cn / 3 + 1 + 500 := by
  have := hg.1
  rcases hi with ⟨i1, i2, i3⟩ | ⟨i1, i2⟩
  · have := zb_hr_h hr i2; omega
  · omega
theorem zb_RD_pre {L' : List Nat} {W : Nat → List Nat} (h : zb_RD C H (cn / 3 + 1) L pr W Act) (hp : L <+: L') : zb_RD C H (cn / 3 + 1) L' pr W Act := fun n hn => by
  rcases h n hn with z | z
  · exact Or.inl (zb_lvs_pre hp z)
  · exact Or.inr z
theorem zb_WS_eq {M' : eM} {W : Nat → List Nat} {mo : Nat} (h : zb_WS C M H mo rg W Act) (h1 : M' 41 = M 41) (h2 : M' 42 = M 42) : zb_WS C M' H mo rg W Act :=
  ⟨fun k a b => by rw [h1]; exact zb_wch_eqs (fun c _ => by rw [h2]) (h.1 k a b), h.2⟩
theorem zb_st_h (hr : zb_HR C R H cn N lam scp) {h : Nat} (hs : zb_MTS C M H (cn / 3 + 1) rg Lf L pr Act) (hh : h ∈ zb_hO H) (hl : Lf h) :
    ∃ M' L', fn_136 (cn / 3 + 1) (h : Int) M = some M' ∧ zb_MTS C M' H (cn / 3 + 1) rg Lf L' pr Act ∧ L <+: L' ∧ h ∈ L' := by
  obtain ⟨s1, s2, W, s3, s4⟩ := hs
  obtain ⟨M', L', a1, a2, a3, a4, a5, a6⟩ := zb_mark_h hr s1 hh hl
  exact ⟨M', L', a1, ⟨a2, s2, W, zb_WS_eq s3 a5 a6, zb_RD_pre s4 a3⟩, a3, a4⟩
theorem zb_st_v (hr : zb_HR C R H cn N lam scp) {v : Int} (hs : zb_MTS C M H (cn / 3 + 1) rg Lf L pr Act) (hv : zb_cv H v) (hl : zb_lvs Lf v) :
    ∃ M' L', fn_137 (cn / 3 + 1) v M = some M' ∧ zb_MTS C M' H (cn / 3 + 1) rg Lf L' pr Act ∧ L <+: L' ∧ zb_lvs (· ∈ L') v := by
  obtain ⟨s1, s2, W, s3, s4⟩ := hs
  obtain ⟨M', L', a1, a2, a3, a4, a5, a6⟩ := zb_mark_v hr s1 hv (fun g g1 g2 => hl g (by have := zb_hr_h hr g1; omega) g2)
  exact ⟨M', L', a1, ⟨a2, s2, W, zb_WS_eq s3 a5 a6, zb_RD_pre s4 a3⟩, a3, a4⟩
theorem zb_st_add {L' : List Nat} {n : Nat} (hs : zb_MTS C M H (cn / 3 + 1) rg Lf L pr Act) (hi : zb_itm H (cn / 3 + 1) rg n) (hl : zb_lvs Lf (zb_kvn C H (cn / 3 + 1) n) → zb_lvs Lf (zb_tgn C H (cn / 3 + 1) n)) (hd : zb_lvs (· ∈ L) (zb_tgn C H (cn / 3 + 1) n)) :
    zb_MTS C M H (cn / 3 + 1) rg Lf L pr (fun x => Act x ∨ x = n) := by
  obtain ⟨s1, s2, W, s3, s4⟩ := hs
  refine ⟨s1, fun x hx => ?_, W, ⟨s3.1, fun k x hx => ⟨Or.inl (s3.2.1 k x hx).1, (s3.2.1 k x hx).2⟩, s3.2.2.1, fun x hx => ?_⟩, fun x hx => ?_⟩
  · rcases hx with hx | hx
    · exact s2 x hx
    · rw [hx]; exact hl
  · rcases hx with hx | hx
    · exact s3.2.2.2 x hx
    · rw [hx]; exact hi
  · rcases hx with hx | hx
    · exact s4 x hx
    · rw [hx]; exact Or.inl hd
theorem zb_st_wait (hr : zb_HR C R H cn N lam scp) (hg : zb_RGS C H (cn / 3 + 1) rg) {n g : Nat} (hs : zb_MTS C M H (cn / 3 + 1) rg Lf L pr Act) (hi : zb_itm H (cn / 3 + 1) rg n) (hna : ¬ Act n) (hl : zb_lvs Lf (zb_kvn C H (cn / 3 + 1) n) → zb_lvs Lf (zb_tgn C H (cn / 3 + 1) n)) (hg1 : g ∈ zb_hO H) (hk : zb_kvn C H (cn / 3 + 1) n = 17179869184 + (g : Int)) (hp : g ∉ pr) :
    ∃ M', fn_139 (cn / 3 + 1) (zb_kvn C H (cn / 3 + 1) n) (n : Int) M = some M' ∧ zb_MTS C M' H (cn / 3 + 1) rg Lf L pr (fun x => Act x ∨ x = n) := by
  obtain ⟨s1, s2, W, s3, s4⟩ := hs
  obtain ⟨x1, x2, _, x4, x5⟩ := zb_hr_h hr hg1
  obtain ⟨y1, y2⟩ := zb_itm_lt hg hr hi
  have hnW : ∀ k, n ∉ W k := fun k hk => hna (s3.2.1 k n hk).1
  obtain ⟨m1, m2, m3, m4, m5, m6, m7⟩ := s1
  refine ⟨eg_u (eg_u M 42 n (M 41 g)) 41 g (n : Int), ?_, ⟨?_, m2, m3, m4, m5, m6, m7⟩, fun x hx => ?_, (fun k => if k = g then n :: W g else W k), ⟨fun k k1 k2 => ?_, fun k x hx => ?_, fun k => ?_, fun x hx => ?_⟩, fun x hx => ?_⟩
  · unfold fn_139
    rw [hk, zb_wi_obj (by omega), if_pos (by omega), if_pos (by omega), Int.toNat_natCast, Int.toNat_natCast]
  · intro c hc
    rw [← m1 c hc]
    simp only [List.mem_cons, List.not_mem_nil, or_false, not_or] at hc
    funext j; simp [eg_u, hc]
  · rcases hx with hx | hx
    · exact s2 x hx
    · rw [hx]; exact hl
  · have e42 : ∀ c, c ≠ n → (eg_u (eg_u M 42 n (M 41 g)) 41 g (n : Int)) 42 c = M 42 c := fun c hc => by simp [eg_u, hc]
    by_cases hkg : k = g
    · subst hkg
      dsimp only
      rw [if_pos rfl]
      have e1 : (eg_u (eg_u M 42 n (M 41 k)) 41 k (n : Int)) 41 k = (n : Int) := by simp [eg_u]
      have e2 : (eg_u (eg_u M 42 n (M 41 k)) 41 k (n : Int)) 42 n = M 41 k := by simp [eg_u]
      rw [e1]
      refine ⟨rfl, ?_⟩
      rw [e2]
      exact zb_wch_eqs (fun c hc => e42 c (fun e => hnW k (e ▸ hc))) (s3.1 k k1 k2)
    · dsimp only
      rw [if_neg hkg]
      have e1 : (eg_u (eg_u M 42 n (M 41 g)) 41 g (n : Int)) 41 k = M 41 k := by simp [eg_u, hkg]
      rw [e1]
      exact zb_wch_eqs (fun c hc => e42 c (fun e => hnW k (e ▸ hc))) (s3.1 k k1 k2)
  · dsimp only at hx
    by_cases hkg : k = g
    · rw [if_pos hkg] at hx
      rcases List.mem_cons.mp hx with e | e
      · rw [e, hkg]; exact ⟨Or.inr rfl, hk, x2⟩
      · have := s3.2.1 g x e
        rw [hkg]; exact ⟨Or.inl this.1, this.2⟩
    · rw [if_neg hkg] at hx
      have := s3.2.1 k x hx
      exact ⟨Or.inl this.1, this.2⟩
  · dsimp only
    by_cases hkg : k = g
    · rw [if_pos hkg]; exact List.nodup_cons.mpr ⟨hnW g, s3.2.2.1 g⟩
    · rw [if_neg hkg]; exact s3.2.2.1 k
  · rcases hx with hx | hx
    · exact s3.2.2.2 x hx
    · rw [hx]; exact hi
  · rcases hx with hx | hx
    · rcases s4 x hx with z | ⟨k, k1, k2, k3, k4⟩
      · exact Or.inl z
      · refine Or.inr ⟨k, k1, k2, ?_, k4⟩
        dsimp only
        by_cases hkg : k = g
        · rw [if_pos hkg]; exact List.mem_cons_of_mem _ (hkg ▸ k3)
        · rw [if_neg hkg]; exact k3
    · right
      refine ⟨g, by rw [hx]; exact hk, x2, ?_, hp⟩
      dsimp only
      rw [if_pos rfl, hx]; exact List.mem_cons_self
theorem zb_st_wake (hr : zb_HR C R H cn N lam scp) (hN : N ≤ 444) (hg : zb_RGS C H (cn / 3 + 1) rg) {h : Nat} (hs : zb_MTS C M H (cn / 3 + 1) rg Lf L pr Act) (hh : h ∈ zb_hO H) (hl : Lf h) :
    ∃ M' L', fn_143 cn (cn / 3 + 1) (h : Int) M = some M' ∧ zb_MTS C M' H (cn / 3 + 1) rg Lf L' (pr ++ [h]) Act ∧ L <+: L' := by
  obtain ⟨s1, s2, W, s3, s4⟩ := hs
  obtain ⟨x1, x2, _, x4, x5⟩ := zb_hr_h hr hh
  have loop : ∀ (l : List Nat) (x : Int) (M : eM) (L : List Nat), (∀ n, n ∈ l → n ∈ W h) → zb_wch M l x → zb_MS C M H (cn / 3 + 1) Lf L → ∃ M' L', lp (fun z => fn_143_5 cn (cn / 3 + 1) (h : Int) z.1 z.2) (x, M) = some M' ∧ zb_MS C M' H (cn / 3 + 1) Lf L' ∧ L <+: L' ∧ (∀ n, n ∈ l → zb_lvs (· ∈ L') (zb_tgn C H (cn / 3 + 1) n)) ∧ M' 41 = M 41 ∧ M' 42 = M 42 := by
    intro l
    induction l with
    | nil =>
      intro x M L _ hx hm
      refine ⟨M, L, lp2_inr ?_, hm, List.prefix_refl _, (fun n hn => by cases hn), rfl, rfl⟩
      unfold fn_143_5
      rw [if_pos (show x = 0 from hx)]
    | cons n t ih =>
      intro x M L hl2 hx hm
      obtain ⟨w1, w2⟩ := hx
      have hnW := hl2 n List.mem_cons_self
      obtain ⟨a1, a2, a3⟩ := s3.2.1 h n hnW
      have hit := s3.2.2.2 n a1
      obtain ⟨c1, c2⟩ := zb_itm_cv hr hN hg hit
      obtain ⟨y1, y2⟩ := zb_itm_lt hg hr hit
      have hlf : zb_lvs Lf (zb_tgn C H (cn / 3 + 1) n) := s2 n a1 (fun q q1 q2 => by
        have : q = h := by omega
        rw [this]; exact hl)
      have h16 : M 16 = C 16 := hm.1 16 (by decide)
      have h17 : M 17 = C 17 := hm.1 17 (by decide)
      have h18 : M 18 = C 18 := hm.1 18 (by decide)
      have h23 : M 23 = C 23 := hm.1 23 (by decide)
      have h38 : M 38 11 = ((cn / 3 + 1 : Nat) : Int) := (hm.2.1 11 (by decide)).trans hg.2.2.1
      have key : ∃ M' L', fn_143_5 cn (cn / 3 + 1) (h : Int) x M = some (.inl (M 42 n, M')) ∧ zb_MS C M' H (cn / 3 + 1) Lf L' ∧ L <+: L' ∧ zb_lvs (· ∈ L') (zb_tgn C H (cn / 3 + 1) n) ∧ M' 41 = M 41 ∧ M' 42 = M 42 := by
        rcases hit with ⟨i1, i2, i3⟩ | ⟨i1, i2⟩
        · have hk := (zb_hr_k hr i2).1
          by_cases h8 : zb_hK H n = 8
          · have et : zb_tgn C H (cn / 3 + 1) n = 17179869184 + (n : Int) := by unfold zb_tgn; rw [if_pos i1, if_pos h8]
            obtain ⟨M', L', b1, b2, b3, b4, b5, b6⟩ := zb_mark_h hr hm i2 (hlf n (by omega) et)
            refine ⟨M', L', ?_, b2, b3, ?_, b5, b6⟩
            · unfold fn_143_5
              rw [w1, if_neg (by omega), h38, if_pos (by omega), if_pos (by omega), Int.toNat_natCast, h18, hk, if_neg (by omega), b1, Option.bind_some, if_pos (by omega), b6]
            · rw [et]; intro q q1 q2
              have : q = n := by omega
              rw [this]; exact b4
          · have h6 : zb_hK H n = 6 := i3.resolve_right h8
            have et : zb_tgn C H (cn / 3 + 1) n = zb_cf C H n 1 := by unfold zb_tgn; rw [if_pos i1, if_neg h8]
            rw [et] at hlf c2
            obtain ⟨M', L', b1, b2, b3, b4, b5, b6⟩ := zb_mark_v hr hm c2 (fun g g1 g2 => hlf g (by have := zb_hr_h hr g1; omega) g2)
            refine ⟨M', L', ?_, b2, b3, by rw [et]; exact b4, b5, b6⟩
            have hz : zb_hZ H n = 4 := by
              have := (zb_hr_ob hr i2).2.2.2.1
              unfold zb_szk at this; omega
            have ecf : zb_cf C H n 1 = C 16 (zb_hS H n + 2) := by unfold zb_cf zb_ci; rw [h6]; rfl
            have eg := zb_hr_get hr h16 h17 i2 (i := 2) (by omega)
            unfold fn_143_5
            rw [w1, if_neg (by omega), h38, if_pos (by omega), if_pos (by omega), Int.toNat_natCast, h18, hk, if_pos (by omega)]
            have eg' : fn_78 cn (cn / 3 + 1) (n : Int) 2 M = some (C 16 (zb_hS H n + 2)) := eg
            rw [eg', Option.bind_some, ← ecf, b1, Option.bind_some, if_pos (by omega), b6]
        · have et : zb_tgn C H (cn / 3 + 1) n = C 23 (n - (cn / 3 + 1)) := by unfold zb_tgn; rw [if_neg (by omega)]
          rw [et] at hlf c2
          obtain ⟨M', L', b1, b2, b3, b4, b5, b6⟩ := zb_mark_v hr hm c2 (fun g g1 g2 => hlf g (by have := zb_hr_h hr g1; omega) g2)
          refine ⟨M', L', ?_, b2, b3, by rw [et]; exact b4, b5, b6⟩
          have := hg.1
          unfold fn_143_5
          rw [w1, if_neg (by omega), h38, if_neg (by omega), zb_wi_sub i1 (by omega), if_pos (by omega), Int.toNat_natCast, Int.toNat_natCast, h23, b1, Option.bind_some, if_pos (by omega), b6]
      obtain ⟨M1, L1, b1, b2, b3, b4, b5, b6⟩ := key
      obtain ⟨M', L', d1, d2, d3, d4, d5, d6⟩ := ih (M 42 n) M1 L1 (fun q hq => hl2 q (List.mem_cons_of_mem _ hq)) (zb_wch_eqs (fun c _ => by rw [b6]) w2) b2
      refine ⟨M', L', (lp2_inl b1).trans d1, d2, b3.trans d3, fun q hq => ?_, d5.trans b5, d6.trans b6⟩
      rcases List.mem_cons.mp hq with e | e
      · rw [e]; exact zb_lvs_pre d3 b4
      · exact d4 q e
  obtain ⟨M', L', a1, a2, a3, a4, a5, a6⟩ := loop (W h) (M 41 h) M L (fun n hn => hn) (s3.1 h x1 x2) s1
  refine ⟨M', L', ?_, ⟨a2, s2, W, zb_WS_eq s3 a5 a6, fun n hn => ?_⟩, a3⟩
  · unfold fn_143
    rw [if_pos (by omega), Int.toNat_natCast]; exact a1
  · rcases s4 n hn with z | ⟨k, k1, k2, k3, k4⟩
    · exact Or.inl (zb_lvs_pre a3 z)
    · by_cases hkh : k = h
      · exact Or.inl (a4 n (hkh ▸ k3))
      · refine Or.inr ⟨k, k1, k2, k3, fun z => ?_⟩
        rcases List.mem_append.mp z with z | z
        · exact k4 z
        · exact hkh (by simpa using z)
end GC
section GC
variable {C R : eM} {H : zb_Hp} {cn N rg : Nat} {lam : Nat → Prop} {scp : Nat → Nat → Prop} {Rt Lf : Nat → Prop} {L pr : List Nat} {Act : Nat → Prop} {M : eM}
theorem zb_cells_ok (hr : zb_HR C R H cn N lam scp) {h b m : Nat} (hh : h ∈ zb_hO H) (hbm : b + m ≤ zb_hZ H h) : ∀ (k i : Nat) (M : eM) (L : List Nat), i + k = m → zb_MTS C M H (cn / 3 + 1) rg Lf L pr Act →
    (∀ i, i < m → zb_cv H (C 16 (zb_hS H h + (b + i))) ∧ zb_lvs Lf (C 16 (zb_hS H h + (b + i)))) →
    ∃ M' L', lp (fun z => fn_141_2 cn (cn / 3 + 1) (h : Int) (b : Int) (m : Int) z.1 z.2) ((i : Int), M) = some M' ∧ zb_MTS C M' H (cn / 3 + 1) rg Lf L' pr Act ∧ L <+: L' ∧ ∀ q, i ≤ q → q < m → zb_lvs (· ∈ L') (C 16 (zb_hS H h + (b + q))) := by
  intro k
  obtain ⟨x1, x2, x3, x4, x5⟩ := zb_hr_h hr hh
  induction k with
  | zero =>
    intro i M L hi hs hv
    refine ⟨M, L, lp2_inr ?_, hs, List.prefix_refl _, fun q q1 q2 => by omega⟩
    unfold fn_141_2
    rw [if_pos (by omega)]
  | succ k ih =>
    intro i M L hi hs hv
    obtain ⟨v1, v2⟩ := hv i (by omega)
    obtain ⟨M1, L1, a1, a2, a3, a4⟩ := zb_st_v hr hs v1 v2
    obtain ⟨M', L', b1, b2, b3, b4⟩ := ih (i + 1) M1 L1 (by omega) a2 hv
    refine ⟨M', L', (lp2_inl ?_).trans b1, b2, a3.trans b3, fun q q1 q2 => ?_⟩
    · unfold fn_141_2
      rw [if_neg (by omega), zb_wi_add (by omega), zb_hr_get hr (hs.1.1 16 (by decide)) (hs.1.1 17 (by decide)) hh (i := b + i) (by omega), Option.bind_some, a1, Option.bind_some, zb_wi_1 (by omega)]
    · by_cases hq : q = i
      · rw [hq]; exact zb_lvs_pre b3 a4
      · exact b4 q (by omega) q2
theorem zb_table_ok (hr : zb_HR C R H cn N lam scp) (hN : N ≤ 444) (hg : zb_RGS C H (cn / 3 + 1) rg) (hc : zb_Clo C H rg Rt Lf) {t : Nat} (ht : t ∈ zb_hO H) (htk : zb_hK H t = 7) (hl : Lf t) : ∀ (es : List Nat) (x : Int) (M : eM) (L : List Nat) (Act : Nat → Prop), zb_MTS C M H (cn / 3 + 1) rg Lf L pr Act → (∀ y, y ∈ pr → y ∈ L) →
    zb_ech C H es x → (∀ e, e ∈ es → e ∈ zb_hE H t ∧ e ∈ zb_hO H ∧ zb_hK H e = 8) → es.Nodup → (∀ e, e ∈ es → ¬ Act e) →
    ∃ M' L', lp (fun z => fn_142_7 cn (cn / 3 + 1) (t : Int) z.1 z.2) (x, M) = some M' ∧ zb_MTS C M' H (cn / 3 + 1) rg Lf L' pr (fun n => Act n ∨ n ∈ es) ∧ L <+: L' := by
  intro es
  induction es with
  | nil =>
    intro x M L Act hs hp he _ _ _
    refine ⟨M, L, lp2_inr ?_, ?_, List.prefix_refl _⟩
    · unfold fn_142_7; rw [if_pos (show x = 0 from he)]
    · have : (fun n => Act n ∨ n ∈ ([] : List Nat)) = Act := by funext n; simp
      rw [this]; exact hs
  | cons e es ih =>
    intro x M L Act hs hp he hm hn ha
    obtain ⟨e1, e2⟩ := he
    obtain ⟨m1, m2, m3⟩ := hm e List.mem_cons_self
    obtain ⟨n1, n2⟩ := List.nodup_cons.mp hn
    obtain ⟨x1, x2, x3, x4, x5⟩ := zb_hr_h hr m2
    have hz : zb_hZ H e = 5 := by have := (zb_hr_ob hr m2).2.2.2.1; unfold zb_szk at this; omega
    have hit : zb_itm H (cn / 3 + 1) rg e := Or.inl ⟨x2, m2, Or.inr m3⟩
    have ek : zb_kvn C H (cn / 3 + 1) e = zb_cf C H e 0 := by unfold zb_kvn; rw [if_pos x2]
    have et : zb_tgn C H (cn / 3 + 1) e = 17179869184 + (e : Int) := by unfold zb_tgn; rw [if_pos x2, if_pos m3]
    have ecf : zb_cf C H e 0 = C 16 (zb_hS H e + 1) := by unfold zb_cf zb_ci; rw [m3]; rfl
    have hlv : zb_lvs Lf (zb_kvn C H (cn / 3 + 1) e) → zb_lvs Lf (zb_tgn C H (cn / 3 + 1) e) := fun z q q1 q2 => by
      rw [et] at q2
      have : q = e := by omega
      rw [this]; rw [ek] at z; exact hc.2.2.2.1 t e ht hl htk m1 z
    have hcv := (zb_itm_cv hr hN hg hit).1
    have g1 : ∀ M : eM, M 16 = C 16 → M 17 = C 17 → fn_78 cn (cn / 3 + 1) (e : Int) 1 M = some (zb_kvn C H (cn / 3 + 1) e) := fun M a b => by
      rw [ek, ecf]; exact zb_hr_get hr a b m2 (i := 1) (by omega)
    have g3 : ∀ M : eM, M 16 = C 16 → M 17 = C 17 → fn_78 cn (cn / 3 + 1) (e : Int) 3 M = some (C 16 (zb_hS H e + 3)) := fun M a b => zb_hr_get hr a b m2 (i := 3) (by omega)
    have hw : eg_wi (C 16 (zb_hS H e + 3)) = C 16 (zb_hS H e + 3) := by
      have : ∃ y : Nat, y < 20000 ∧ C 16 (zb_hS H e + 3) = (y : Int) := by
        cases es with
        | nil => exact ⟨0, by decide, e2⟩
        | cons f fs =>
          have := zb_hr_h hr (hm f (List.mem_cons_of_mem _ List.mem_cons_self)).2.1
          exact ⟨f, by omega, e2.1⟩
      obtain ⟨y, y1, y2⟩ := this
      rw [y2]; exact zb_wi_n (by omega)
    have key : ∃ M1 L1, fn_142_7 cn (cn / 3 + 1) (t : Int) x M = some (.inl (C 16 (zb_hS H e + 3), M1)) ∧ zb_MTS C M1 H (cn / 3 + 1) rg Lf L1 pr (fun n => Act n ∨ n = e) ∧ L <+: L1 := by
      rcases zb_live_v hr hs.1 hcv with ⟨l1, l2⟩ | ⟨l1, g, l2, l3, l4⟩
      · have hle : Lf e := hlv (fun q q1 q2 => (hs.1.2.2.2.2.2.2 q (l2 q q1 q2)).2) e (by omega) et
        obtain ⟨M1, L1, a1, a2, a3, a4⟩ := zb_st_h hr hs m2 hle
        refine ⟨M1, L1, ?_, zb_st_add (L' := L1) a2 hit hlv ?_, a3⟩
        · unfold fn_142_7
          rw [e1, if_neg (by omega), g1 M (hs.1.1 16 (by decide)) (hs.1.1 17 (by decide)), Option.bind_some, l1, Option.bind_some, if_neg (by decide), a1, Option.bind_some, g3 M1 (a2.1.1 16 (by decide)) (a2.1.1 17 (by decide)), Option.bind_some, hw]
        · rw [et]; intro q q1 q2
          have : q = e := by omega
          rw [this]; exact a4
      · obtain ⟨M1, a1, a2⟩ := zb_st_wait hr hg hs hit (ha e List.mem_cons_self) hlv l2 l3 (fun z => l4 (hp g z))
        refine ⟨M1, L, ?_, a2, List.prefix_refl _⟩
        unfold fn_142_7
        rw [e1, if_neg (by omega), g1 M (hs.1.1 16 (by decide)) (hs.1.1 17 (by decide)), Option.bind_some, l1, Option.bind_some, if_pos rfl, a1, Option.bind_some, g3 M1 (a2.1.1 16 (by decide)) (a2.1.1 17 (by decide)), Option.bind_some, hw]
    obtain ⟨M1, L1, a1, a2, a3⟩ := key
    obtain ⟨M', L', b1, b2, b3⟩ := ih (C 16 (zb_hS H e + 3)) M1 L1 (fun n => Act n ∨ n = e) a2 (fun y hy => zb_pre_mem a3 (hp y hy)) e2 (fun q hq => hm q (List.mem_cons_of_mem _ hq)) n2 (fun q hq z => by
      rcases z with z | z
      · exact ha q (List.mem_cons_of_mem _ hq) z
      · exact n1 (z ▸ hq))
    refine ⟨M', L', (lp2_inl a1).trans b1, ?_, a3.trans b3⟩
    have : (fun n => (Act n ∨ n = e) ∨ n ∈ es) = (fun n => Act n ∨ n ∈ e :: es) := by
      funext n; simp only [List.mem_cons, or_assoc]
    rw [← this]; exact b2
end GC
section GC
variable {C R : eM} {H : zb_Hp} {cn N rg : Nat} {lam : Nat → Prop} {scp : Nat → Nat → Prop} {Rt Lf : Nat → Prop} {L pr : List Nat} {Act : Nat → Prop} {M : eM}
theorem zb_ech_lt (hr : zb_HR C R H cn N lam scp) : ∀ (es : List Nat) (e : Nat) (x : Int), zb_ech C H (e :: es) x → (∀ f, f ∈ e :: es → f ∈ zb_hO H ∧ zb_hK H f = 8) → ∀ f, f ∈ es → zb_hS H f < zb_hS H e := by
  intro es
  induction es with
  | nil => intro e x _ _ f hf; cases hf
  | cons a t ih =>
    intro e x he hm f hf
    obtain ⟨e1, e2, e3⟩ := he
    obtain ⟨k1, k2⟩ := hm e List.mem_cons_self
    obtain ⟨l1, l2⟩ := hm a (List.mem_cons_of_mem _ List.mem_cons_self)
    have hz : zb_hZ H e = 5 := by have := (zb_hr_ob hr k1).2.2.2.1; unfold zb_szk at this; omega
    have hfd := ((zb_hr_ob hr k1).2.2.2.2.1 2 (by rw [k2]; simp [zb_nf])).1 (Or.inr (Or.inr ⟨k2, rfl⟩))
    have ha := zb_hr_h hr l1
    have ecf : zb_cf C H e 2 = 17179869184 + (a : Int) := by
      have : zb_cf C H e 2 = zb_lv (C 16 (zb_hS H e + 3)) := by unfold zb_cf zb_ci; rw [k2]; rfl
      rw [this, e2, zb_lv_g (by omega) (by omega)]
    have h1 : zb_hS H a < zb_hS H e := by
      rcases hfd with ⟨z1, z2⟩ | ⟨g, g1, g2, g3⟩
      · omega
      · have : g = a := by omega
        rw [← this]; exact g1.2.2 (by omega)
    rcases List.mem_cons.mp hf with z | z
    · rw [z]; exact h1
    · have := ih a _ ⟨e2, e3⟩ (fun q hq => hm q (List.mem_cons_of_mem _ hq)) f z
      omega
theorem zb_ech_nd (hr : zb_HR C R H cn N lam scp) : ∀ (es : List Nat) (x : Int), zb_ech C H es x → (∀ f, f ∈ es → f ∈ zb_hO H ∧ zb_hK H f = 8) → es.Nodup := by
  intro es
  induction es with
  | nil => intro x _ _; exact List.nodup_nil
  | cons a t ih =>
    intro x he hm
    refine List.nodup_cons.mpr ⟨fun z => ?_, ih _ he.2 (fun q hq => hm q (List.mem_cons_of_mem _ hq))⟩
    have := zb_ech_lt hr t a x he hm a z
    omega
theorem zb_act_eq {A B : Nat → Prop} (h : ∀ n, A n ↔ B n) {mo : Nat} (hs : zb_MTS C M H mo rg Lf L pr A) : zb_MTS C M H mo rg Lf L pr B := by
  have : A = B := by funext n; exact propext (h n)
  rw [← this]; exact hs
theorem zb_trace_ok (hr : zb_HR C R H cn N lam scp) (hN : N ≤ 444) (hg : zb_RGS C H (cn / 3 + 1) rg) (hc : zb_Clo C H rg Rt Lf) {h : Nat} (hs : zb_MTS C M H (cn / 3 + 1) rg Lf L pr Act) (hp : ∀ y, y ∈ pr → y ∈ L) (hh : h ∈ zb_hO H) (hl : Lf h) (h6 : zb_hK H h = 6 → ¬ Act h) (h7 : zb_hK H h = 7 → ∀ e, e ∈ zb_hE H h → ¬ Act e) :
    ∃ M' L', fn_140 cn (cn / 3 + 1) (h : Int) M = some M' ∧ zb_MTS C M' H (cn / 3 + 1) rg Lf L' pr (fun n => Act n ∨ (zb_hK H h = 6 ∧ n = h) ∨ (zb_hK H h = 7 ∧ n ∈ zb_hE H h)) ∧ L <+: L'
      ∧ (zb_hK H h ≤ 4 → ∀ j, j < zb_nf (zb_hK H h) (zb_hZ H h) → zb_lvs (· ∈ L') (zb_cf C H h j)) ∧ (zb_hK H h = 8 → zb_lvs (· ∈ L') (zb_cf C H h 1)) := by
  obtain ⟨x1, x2, x3, x4, x5⟩ := zb_hr_h hr hh
  obtain ⟨k18, k19, k17⟩ := zb_hr_k hr hh
  have hsz := (zb_hr_ob hr hh).2.2.2.1
  have hcv := fun j (hj : j < zb_nf (zb_hK H h) (zb_hZ H h)) => zb_hr_cv hr hN hh hj
  have hlc : zb_hK H h ≤ 4 → ∀ j, j < zb_nf (zb_hK H h) (zb_hZ H h) → zb_lvs Lf (zb_cf C H h j) := fun h4 j hj g g1 g2 => by
    rcases hcv j hj with ⟨q, q1, q2⟩ | ⟨_, q2⟩
    · have : g = q := by omega
      rw [this]; exact hc.2.1 h j q hh hl h4 hj q1 q2
    · exact absurd g2 (q2 g g1)
  have M18 : ∀ {M : eM} {L : List Nat} {A : Nat → Prop}, zb_MTS C M H (cn / 3 + 1) rg Lf L pr A → M 16 = C 16 ∧ M 17 = C 17 ∧ M 18 = C 18 ∧ M 19 = C 19 := fun z => ⟨z.1.1 16 (by decide), z.1.1 17 (by decide), z.1.1 18 (by decide), z.1.1 19 (by decide)⟩
  obtain ⟨e16, e17, e18, e19⟩ := M18 hs
  have hkk : M 18 h = (zb_hK H h : Int) := by rw [e18]; exact k18
  have hzz : M 19 h = (zb_hZ H h : Int) := by rw [e19]; exact k19
  have gt : ∀ {M : eM} {L : List Nat} {A : Nat → Prop} {i : Nat}, zb_MTS C M H (cn / 3 + 1) rg Lf L pr A → i < zb_hZ H h → fn_78 cn (cn / 3 + 1) (h : Int) (i : Int) M = some (C 16 (zb_hS H h + i)) := fun z hi => zb_hr_get hr (M18 z).1 (M18 z).2.1 hh hi
  have lnk : (zb_hK H h = 3 ∨ zb_hK H h = 4) → ∃ M1 L1, fn_136 (cn / 3 + 1) (eg_wi (C 16 (zb_hS H h + 2))) M = some M1 ∧ zb_MTS C M1 H (cn / 3 + 1) rg Lf L1 pr Act ∧ L <+: L1 ∧ zb_lvs (· ∈ L1) (zb_cf C H h 0) := by
    intro k
    have hj : 0 < zb_nf (zb_hK H h) (zb_hZ H h) := by rcases k with k | k <;> rw [k] <;> simp [zb_nf] <;> unfold zb_szk at hsz <;> omega
    have hfd := ((zb_hr_ob hr hh).2.2.2.2.1 0 hj).1 (Or.inl ⟨k, rfl⟩)
    have ecf : zb_cf C H h 0 = zb_lv (C 16 (zb_hS H h + 2)) := by
      unfold zb_cf zb_ci; rw [if_pos (Or.inl ⟨k, rfl⟩), if_pos k]
    rcases hfd with ⟨z1, z2⟩ | ⟨g, g1, g2, g3⟩
    · have e0 : C 16 (zb_hS H h + 2) = 0 := zb_lv_none (ecf ▸ z1)
      refine ⟨M, L, ?_, hs, List.prefix_refl _, fun q q1 q2 => by omega⟩
      rw [e0]; unfold fn_136; rw [if_pos (by decide)]
    · have hgh := zb_hr_h hr g1.1
      have e0 : C 16 (zb_hS H h + 2) = (g : Int) := zb_lv_ob (ecf ▸ g2) (by omega)
      obtain ⟨M1, L1, a1, a2, a3, a4⟩ := zb_st_h hr hs g1.1 (hlc (by omega) 0 hj g (by omega) g2)
      refine ⟨M1, L1, by rw [e0, zb_wi_n (by omega)]; exact a1, a2, a3, fun q q1 q2 => ?_⟩
      have : q = g := by omega
      rw [this]; exact a4
  have noact : zb_hK H h ≠ 6 → zb_hK H h ≠ 7 → ∀ n, Act n ↔ (Act n ∨ (zb_hK H h = 6 ∧ n = h) ∨ (zb_hK H h = 7 ∧ n ∈ zb_hE H h)) := fun a b n => ⟨Or.inl, fun z => by
    rcases z with z | z | z
    · exact z
    · exact absurd z.1 a
    · exact absurd z.1 b⟩
  rcases hsz with ⟨a, b⟩ | ⟨a, b⟩ | ⟨a, b⟩ | ⟨a, b⟩ | ⟨a, b⟩ | ⟨a, b⟩ | ⟨a, b⟩ | ⟨a, b⟩
  · -- a pair
    have c0 : zb_cf C H h 0 = C 16 (zb_hS H h + 1) := by unfold zb_cf zb_ci; rw [a]; rfl
    have c1 : zb_cf C H h 1 = C 16 (zb_hS H h + 2) := by unfold zb_cf zb_ci; rw [a]; rfl
    have n0 : 0 < zb_nf (zb_hK H h) (zb_hZ H h) := by rw [a]; simp [zb_nf]
    have n1 : 1 < zb_nf (zb_hK H h) (zb_hZ H h) := by rw [a]; simp [zb_nf]
    obtain ⟨M1, L1, p1, p2, p3, p4⟩ := zb_st_v hr hs (hcv 0 n0) (hlc (by omega) 0 n0)
    obtain ⟨M2, L2, q1, q2, q3, q4⟩ := zb_st_v hr p2 (hcv 1 n1) (hlc (by omega) 1 n1)
    have t1 : fn_78 cn (cn / 3 + 1) (h : Int) 1 M = some (zb_cf C H h 0) := by rw [c0]; exact gt hs (i := 1) (by omega)
    have t2 : fn_78 cn (cn / 3 + 1) (h : Int) 2 M1 = some (zb_cf C H h 1) := by rw [c1]; exact gt p2 (i := 2) (by omega)
    refine ⟨M2, L2, ?_, zb_act_eq (noact (by omega) (by omega)) q2, p3.trans q3, fun _ j hj => ?_, fun z => by omega⟩
    · unfold fn_140
      rw [if_pos (by omega), Int.toNat_natCast, hkk, a, if_pos (by decide), t1, Option.bind_some, p1, Option.bind_some, t2, Option.bind_some, q1, Option.bind_some]
    · have : j < 2 := by rw [a] at hj; simpa [zb_nf] using hj
      have : j = 0 ∨ j = 1 := by omega
      rcases this with z | z <;> rw [z]
      · exact zb_lvs_pre q3 p4
      · exact q4
  · -- a vector
    have hnf : zb_nf (zb_hK H h) (zb_hZ H h) = zb_hZ H h - 3 := by rw [a]; rfl
    have hcf : ∀ j, zb_cf C H h j = C 16 (zb_hS H h + (1 + j)) := fun j => by
      unfold zb_cf zb_ci; rw [a, if_neg (by omega), if_neg (by omega)]
    obtain ⟨M1, L1, p1, p2, p3, p4⟩ := zb_cells_ok (rg := rg) hr hh (b := 1) (m := zb_hZ H h - 3) (by omega) (zb_hZ H h - 3) 0 M L (by omega) hs (fun i hi => by rw [← hcf i]; exact ⟨hcv i (by omega), hlc (by omega) i (by omega)⟩)
    refine ⟨M1, L1, ?_, zb_act_eq (noact (by omega) (by omega)) p2, p3, fun _ j hj => ?_, fun z => by omega⟩
    · have e98 : fn_98 (cn / 3 + 1) (h : Int) M = some ((zb_hZ H h - 3 : Nat) : Int) := by
        unfold fn_98
        rw [if_pos (by omega), Int.toNat_natCast, hzz]
        have := zb_wi_sub (a := zb_hZ H h) (b := 3) (by omega) (by omega)
        rw [show ((zb_hZ H h : Nat) : Int) - 3 = ((zb_hZ H h : Nat) : Int) - ((3 : Nat) : Int) from rfl, this]
      unfold fn_140
      rw [if_pos (by omega), Int.toNat_natCast, hkk, a, if_neg (by decide), if_pos (by decide), e98, Option.bind_some]
      have e141 : fn_141 cn (cn / 3 + 1) (h : Int) 1 ((zb_hZ H h - 3 : Nat) : Int) M = some M1 := p1
      rw [e141, Option.bind_some]
    · rw [hcf j]; exact p4 j (Nat.zero_le _) (by omega)
  · -- a procedure
    obtain ⟨M1, L1, p1, p2, p3, p4⟩ := lnk (Or.inl a)
    have t2 : fn_78 cn (cn / 3 + 1) (h : Int) 2 M = some (C 16 (zb_hS H h + 2)) := gt hs (i := 2) (by omega)
    refine ⟨M1, L1, ?_, zb_act_eq (noact (by omega) (by omega)) p2, p3, fun _ j hj => ?_, fun z => by omega⟩
    · unfold fn_140
      rw [if_pos (by omega), Int.toNat_natCast, hkk, a, if_neg (by decide), if_neg (by decide), if_pos (by decide), t2, Option.bind_some, p1, Option.bind_some]
    · have : j = 0 := by rw [a] at hj; simpa [zb_nf] using hj
      rw [this]; exact p4
  · -- a frame
    obtain ⟨M1, L1, p1, p2, p3, p4⟩ := lnk (Or.inr a)
    have hnf : zb_nf (zb_hK H h) (zb_hZ H h) = zb_hZ H h - 2 := by rw [a]; rfl
    have hcf : ∀ j, zb_cf C H h (1 + j) = C 16 (zb_hS H h + (3 + j)) := fun j => by
      unfold zb_cf zb_ci; rw [a, if_neg (by omega), if_pos (by omega)]
      congr 1; omega
    have t2 : fn_78 cn (cn / 3 + 1) (h : Int) 2 M = some (C 16 (zb_hS H h + 2)) := gt hs (i := 2) (by omega)
    obtain ⟨M2, L2, q1, q2, q3, q4⟩ := zb_cells_ok (rg := rg) hr hh (b := 3) (m := zb_hZ H h - 3) (by omega) (zb_hZ H h - 3) 0 M1 L1 (by omega) p2 (fun i hi => by rw [← hcf i]; exact ⟨hcv (1 + i) (by omega), hlc (by omega) (1 + i) (by omega)⟩)
    refine ⟨M2, L2, ?_, zb_act_eq (noact (by omega) (by omega)) q2, p3.trans q3, fun _ j hj => ?_, fun z => by omega⟩
    · have hz1 : M1 19 h = (zb_hZ H h : Int) := by rw [(M18 p2).2.2.2]; exact k19
      have ew : eg_wi ((zb_hZ H h : Int) - 3) = ((zb_hZ H h - 3 : Nat) : Int) := zb_wi_sub (a := zb_hZ H h) (b := 3) (by omega) (by omega)
      unfold fn_140
      rw [if_pos (by omega), Int.toNat_natCast, hkk, a, if_neg (by decide), if_neg (by decide), if_neg (by decide), if_pos (by decide), t2, Option.bind_some, p1, Option.bind_some, hz1, ew]
      have e141 : fn_141 cn (cn / 3 + 1) (h : Int) 3 ((zb_hZ H h - 3 : Nat) : Int) M1 = some M2 := q1
      rw [e141, Option.bind_some]
    · by_cases hj0 : j = 0
      · rw [hj0]; exact zb_lvs_pre q3 p4
      · have : j = 1 + (j - 1) := by omega
        rw [this, hcf (j - 1)]; exact q4 (j - 1) (Nat.zero_le _) (by omega)
  · -- weak
    refine ⟨M, L, ?_, zb_act_eq (noact (by omega) (by omega)) hs, List.prefix_refl _, fun z => by omega, fun z => by omega⟩
    unfold fn_140
    rw [if_pos (by omega), Int.toNat_natCast, hkk, a, if_neg (by decide), if_neg (by decide), if_neg (by decide), if_neg (by decide), if_pos (by decide)]
  · -- an ephemeron
    have c0 : zb_cf C H h 0 = C 16 (zb_hS H h + 1) := by unfold zb_cf zb_ci; rw [a]; rfl
    have c1 : zb_cf C H h 1 = C 16 (zb_hS H h + 2) := by unfold zb_cf zb_ci; rw [a]; rfl
    have n1 : 1 < zb_nf (zb_hK H h) (zb_hZ H h) := by rw [a]; simp [zb_nf]
    have hit : zb_itm H (cn / 3 + 1) rg h := Or.inl ⟨x2, hh, Or.inl a⟩
    have ek : zb_kvn C H (cn / 3 + 1) h = zb_cf C H h 0 := by unfold zb_kvn; rw [if_pos x2]
    have et : zb_tgn C H (cn / 3 + 1) h = zb_cf C H h 1 := by unfold zb_tgn; rw [if_pos x2, if_neg (by omega)]
    have hlv : zb_lvs Lf (zb_kvn C H (cn / 3 + 1) h) → zb_lvs Lf (zb_tgn C H (cn / 3 + 1) h) := fun z q q1 q2 => by
      rw [et] at q2; rw [ek] at z
      rcases hcv 1 n1 with ⟨g, g1, g2⟩ | ⟨_, g2⟩
      · have : q = g := by omega
        rw [this]; exact hc.2.2.1 h g hh hl a z g1 g2
      · exact absurd q2 (g2 q q1)
    have hkv := (zb_itm_cv hr hN hg hit)
    have t1 : fn_78 cn (cn / 3 + 1) (h : Int) 1 M = some (zb_kvn C H (cn / 3 + 1) h) := by rw [ek, c0]; exact gt hs (i := 1) (by omega)
    have t2 : fn_78 cn (cn / 3 + 1) (h : Int) 2 M = some (zb_tgn C H (cn / 3 + 1) h) := by rw [et, c1]; exact gt hs (i := 2) (by omega)
    have hact : ∀ n, (Act n ∨ n = h) ↔ (Act n ∨ (zb_hK H h = 6 ∧ n = h) ∨ (zb_hK H h = 7 ∧ n ∈ zb_hE H h)) := fun n => by
      constructor
      · intro z
        rcases z with z | z
        · exact Or.inl z
        · exact Or.inr (Or.inl ⟨a, z⟩)
      · intro z
        rcases z with z | z | z
        · exact Or.inl z
        · exact Or.inr z.2
        · omega
    rcases zb_live_v hr hs.1 hkv.1 with ⟨l1, l2⟩ | ⟨l1, g, l2, l3, l4⟩
    · have hlt := hlv (fun q q1 q2 => (hs.1.2.2.2.2.2.2 q (l2 q q1 q2)).2)
      obtain ⟨M1, L1, p1, p2, p3, p4⟩ := zb_st_v hr hs hkv.2 hlt
      refine ⟨M1, L1, ?_, zb_act_eq hact (zb_st_add (L' := L1) p2 hit hlv p4), p3, fun z => by omega, fun z => by omega⟩
      unfold fn_140
      rw [if_pos (by omega), Int.toNat_natCast, hkk, a, if_neg (by decide), if_neg (by decide), if_neg (by decide), if_neg (by decide), if_neg (by decide), if_pos (by decide), t1, Option.bind_some, l1, Option.bind_some, if_neg (by decide), t2, Option.bind_some, p1, Option.bind_some]
    · obtain ⟨M1, p1, p2⟩ := zb_st_wait hr hg hs hit (h6 a) hlv l2 l3 (fun z => l4 (hp g z))
      refine ⟨M1, L, ?_, zb_act_eq hact p2, List.prefix_refl _, fun z => by omega, fun z => by omega⟩
      unfold fn_140
      rw [if_pos (by omega), Int.toNat_natCast, hkk, a, if_neg (by decide), if_neg (by decide), if_neg (by decide), if_neg (by decide), if_neg (by decide), if_pos (by decide), t1, Option.bind_some, l1, Option.bind_some, if_pos rfl, Option.bind_some, p1, Option.bind_some]
  · -- a table
    obtain ⟨u1, u2, u3⟩ := hr.2.2.2.1.1 h hh a
    have hnd := zb_ech_nd hr _ _ u1 u3
    have ht1 : fn_78 cn (cn / 3 + 1) (h : Int) 1 M = some (C 16 (zb_hS H h + 1)) := gt hs (i := 1) (by omega)
    obtain ⟨M1, L1, p1, p2, p3⟩ := zb_table_ok hr hN hg hc hh a hl (zb_hE H h) (C 16 (zb_hS H h + 1)) M L Act hs hp u1 (fun e he => ⟨he, u3 e he⟩) hnd (h7 a)
    have hw : eg_wi (C 16 (zb_hS H h + 1)) = C 16 (zb_hS H h + 1) := by
      have : ∃ y : Nat, y < 20000 ∧ C 16 (zb_hS H h + 1) = (y : Int) := by
        cases hes : zb_hE H h with
        | nil => rw [hes] at u1; exact ⟨0, by decide, u1⟩
        | cons f fs =>
          rw [hes] at u1
          have := zb_hr_h hr (u3 f (by rw [hes]; exact List.mem_cons_self)).1
          exact ⟨f, by omega, u1.1⟩
      obtain ⟨y, y1, y2⟩ := this
      rw [y2]; exact zb_wi_n (by omega)
    refine ⟨M1, L1, ?_, zb_act_eq (fun n => ?_) p2, p3, fun z => by omega, fun z => by omega⟩
    · have e142 : fn_142 cn (cn / 3 + 1) (h : Int) M = some M1 := by
        unfold fn_142
        rw [ht1, Option.bind_some, hw]; exact p1
      unfold fn_140
      rw [if_pos (by omega), Int.toNat_natCast, hkk, a, if_neg (by decide), if_neg (by decide), if_neg (by decide), if_neg (by decide), if_neg (by decide), if_neg (by decide), if_pos (by decide), e142, Option.bind_some]
    · constructor
      · intro z
        rcases z with z | z
        · exact Or.inl z
        · exact Or.inr (Or.inr ⟨a, z⟩)
      · intro z
        rcases z with z | z | z
        · exact Or.inl z
        · omega
        · exact Or.inr z.2
  · -- an entry
    have c1 : zb_cf C H h 1 = C 16 (zb_hS H h + 2) := by unfold zb_cf zb_ci; rw [a]; rfl
    have n1 : 1 < zb_nf (zb_hK H h) (zb_hZ H h) := by rw [a]; simp [zb_nf]
    have t2 : fn_78 cn (cn / 3 + 1) (h : Int) 2 M = some (zb_cf C H h 1) := by rw [c1]; exact gt hs (i := 2) (by omega)
    obtain ⟨M1, L1, p1, p2, p3, p4⟩ := zb_st_v hr hs (hcv 1 n1) (fun q q1 q2 => by
      rcases hcv 1 n1 with ⟨g, g1, g2⟩ | ⟨_, g2⟩
      · have : q = g := by omega
        rw [this]; exact hc.2.2.2.2.1 h g hh hl a g1 g2
      · exact absurd q2 (g2 q q1))
    refine ⟨M1, L1, ?_, zb_act_eq (noact (by omega) (by omega)) p2, p3, fun z => by omega, fun _ => p4⟩
    unfold fn_140
    rw [if_pos (by omega), Int.toNat_natCast, hkk, a, if_neg (by decide), if_neg (by decide), if_neg (by decide), if_neg (by decide), if_neg (by decide), if_neg (by decide), if_neg (by decide), if_pos (by decide), t2, Option.bind_some, p1, Option.bind_some]
end GC
theorem zb_rem500 {a b : Nat} (h : a + b < 2147483648) : eg_wi ((eg_wi ((a : Int) + (b : Int))) - eg_wi (Int.tdiv (eg_wi ((a : Int) + (b : Int))) 500) * 500) = (((a + b) % 500 : Nat) : Int) := by
  rw [zb_wi_add h]
  have e1 : Int.tdiv ((a + b : Nat) : Int) 500 = (((a + b) / 500 : Nat) : Int) := rfl
  rw [e1, zb_wi_n (by omega)]
  have e2 : ((a + b : Nat) : Int) - (((a + b) / 500 : Nat) : Int) * 500 = (((a + b) % 500 : Nat) : Int) := by omega
  rw [e2, zb_wi_n (by omega)]
def zb_AP (H : zb_Hp) (mo rg : Nat) (pr : List Nat) (n : Nat) : Prop := (n < mo ∧ zb_hK H n = 6 ∧ n ∈ pr) ∨ (n < mo ∧ ∃ t, t ∈ pr ∧ zb_hK H t = 7 ∧ n ∈ zb_hE H t) ∨ (mo ≤ n ∧ n - mo < rg)
def zb_CLp (C : eM) (H : zb_Hp) (pr L : List Nat) : Prop := ∀ h, h ∈ pr → (zb_hK H h ≤ 4 → ∀ j, j < zb_nf (zb_hK H h) (zb_hZ H h) → zb_lvs (· ∈ L) (zb_cf C H h j)) ∧ (zb_hK H h = 8 → zb_lvs (· ∈ L) (zb_cf C H h 1))
section GC
variable {C R : eM} {H : zb_Hp} {cn N rg : Nat} {lam : Nat → Prop} {scp : Nat → Nat → Prop} {Rt Lf : Nat → Prop} {L pr : List Nat} {Act : Nat → Prop} {M : eM}
theorem zb_found_loop (hr : zb_HR C R H cn N lam scp) (hN : N ≤ 444) (hg : zb_RGS C H (cn / 3 + 1) rg) (hc : zb_Clo C H rg Rt Lf) : ∀ (k : Nat) (pr : List Nat) (M : eM) (L : List Nat), (zb_hO H).length - pr.length = k → zb_MTS C M H (cn / 3 + 1) rg Lf L pr (zb_AP H (cn / 3 + 1) rg pr) → pr <+: L → zb_CLp C H pr L →
    ∃ M' L', lp (fun z => fn_133_87 cn (cn / 3 + 1) z.1 z.2) ((pr.length : Int), M) = some M' ∧ zb_MTS C M' H (cn / 3 + 1) rg Lf L' L' (zb_AP H (cn / 3 + 1) rg L') ∧ zb_CLp C H L' L' ∧ L <+: L' := by
  intro k
  induction k using Nat.strongRecOn with
  | ind k ih =>
    intro pr M L hk hs hp hcl
    have hll : L.length ≤ (zb_hO H).length := zb_len_of_sub hs.1.2.2.2.2.2.1 (fun x hx => (hs.1.2.2.2.2.2.2 x hx).1)
    have hlen := zb_hr_len hr
    have h388 := hs.1.2.2.1
    obtain ⟨X, hX⟩ := hp
    cases X with
    | nil =>
      rw [List.append_nil] at hX
      subst hX
      refine ⟨M, pr, lp2_inr ?_, hs, hcl, List.prefix_refl _⟩
      unfold fn_133_87
      rw [h388, if_pos (by omega)]
    | cons h X =>
      have hlt : pr.length < L.length := by rw [← hX, List.length_append, List.length_cons]; omega
      have hget : L[pr.length] = h := by subst hX; simp
      have h40 : M 40 pr.length = (h : Int) := by rw [hs.1.2.2.2.1 pr.length hlt, hget]
      have hhL : h ∈ L := by rw [← hX]; simp
      obtain ⟨hh, hlf⟩ := hs.1.2.2.2.2.2.2 h hhL
      have hnp : h ∉ pr := by
        have := hs.1.2.2.2.2.2.1
        rw [← hX] at this
        obtain ⟨_, _, n3⟩ := List.nodup_append.mp this
        exact fun z => n3 h z h List.mem_cons_self rfl
      have hpp : pr ++ [h] <+: L := ⟨X, by rw [← hX]; simp⟩
      have hsub : ∀ y, y ∈ pr → y ∈ L := fun y hy => by rw [← hX]; exact List.mem_append_left _ hy
      have hmo := zb_hr_h hr hh
      obtain ⟨M1, L1, a1, a2, a3, a4, a5⟩ := zb_trace_ok hr hN hg hc hs hsub hh hlf (fun h6 z => by
        rcases z with ⟨_, _, z⟩ | ⟨_, t, z1, z2, z3⟩ | ⟨z, _⟩
        · exact hnp z
        · have := ((hr.2.2.2.1.1 t (hs.1.2.2.2.2.2.2 t (hsub t z1)).1 z2).2.2 h z3).2; omega
        · omega) (fun h7 e he z => by
        have he8 := (hr.2.2.2.1.1 h hh h7).2.2 e he
        rcases z with ⟨_, z, _⟩ | ⟨_, t, z1, z2, z3⟩ | ⟨z, _⟩
        · omega
        · have := hr.2.2.2.1.2 t h e (hs.1.2.2.2.2.2.2 t (hsub t z1)).1 z2 hh h7 z3 he
          exact hnp (this ▸ z1)
        · have := zb_hr_h hr he8.1; omega)
      obtain ⟨M2, L2, b1, b2, b3⟩ := zb_st_wake hr hN hg a2 hh hlf
      have h40' : M1 40 pr.length = (h : Int) := by
        have hl1 : pr.length < L1.length := Nat.lt_of_lt_of_le hlt a3.length_le
        rw [a2.1.2.2.2.1 pr.length hl1]
        have := a3.getElem hlt
        rw [← this, hget]
      have b2' : zb_MTS C M2 H (cn / 3 + 1) rg Lf L2 (pr ++ [h]) (zb_AP H (cn / 3 + 1) rg (pr ++ [h])) := by
        refine zb_act_eq (fun n => ?_) b2
        constructor
        · intro z
          rcases z with z | ⟨z1, z2⟩ | ⟨z1, z2⟩
          · rcases z with ⟨z1, z2, z3⟩ | ⟨z1, t, z2, z3, z4⟩ | z
            · exact Or.inl ⟨z1, z2, List.mem_append_left _ z3⟩
            · exact Or.inr (Or.inl ⟨z1, t, List.mem_append_left _ z2, z3, z4⟩)
            · exact Or.inr (Or.inr z)
          · exact Or.inl ⟨by omega, by rw [z2]; exact z1, by rw [z2]; simp⟩
          · have he8 := (hr.2.2.2.1.1 h hh z1).2.2 n z2
            have := zb_hr_h hr he8.1
            exact Or.inr (Or.inl ⟨by omega, h, by simp, z1, z2⟩)
        · intro z
          rcases z with ⟨z1, z2, z3⟩ | ⟨z1, t, z2, z3, z4⟩ | z
          · rcases List.mem_append.mp z3 with z3 | z3
            · exact Or.inl (Or.inl ⟨z1, z2, z3⟩)
            · have e : n = h := by simpa using z3
              exact Or.inr (Or.inl ⟨e ▸ z2, e⟩)
          · rcases List.mem_append.mp z2 with z2 | z2
            · exact Or.inl (Or.inr (Or.inl ⟨z1, t, z2, z3, z4⟩))
            · have e : t = h := by simpa using z2
              exact Or.inr (Or.inr ⟨e ▸ z3, e ▸ z4⟩)
          · exact Or.inl (Or.inr (Or.inr z))
      have hpp2 : pr ++ [h] <+: L2 := hpp.trans (a3.trans b3)
      have hcl2 : zb_CLp C H (pr ++ [h]) L2 := by
        intro q hq
        rcases List.mem_append.mp hq with hq | hq
        · exact ⟨fun w j hj => zb_lvs_pre (a3.trans b3) ((hcl q hq).1 w j hj), fun w => zb_lvs_pre (a3.trans b3) ((hcl q hq).2 w)⟩
        · have e : q = h := by simpa using hq
          rw [e]
          exact ⟨fun w j hj => zb_lvs_pre b3 (a4 w j hj), fun w => zb_lvs_pre b3 (a5 w)⟩
      obtain ⟨M', L', c1, c2, c3, c4⟩ := ih ((zb_hO H).length - (pr ++ [h]).length) (by rw [List.length_append, List.length_singleton]; omega) (pr ++ [h]) M2 L2 rfl b2' hpp2 hcl2
      refine ⟨M', L', ?_, c2, c3, a3.trans (b3.trans c4)⟩
      rw [← c1]
      refine lp2_inl ?_
      unfold fn_133_87
      rw [h388, if_neg (by omega), if_neg (by omega), if_pos (by omega), Int.toNat_natCast, h40, a1, Option.bind_some, h40', b1, Option.bind_some, zb_wi_1 (by omega), List.length_append, List.length_singleton]
theorem zb_found_clo (hr : zb_HR C R H cn N lam scp) (hs : zb_MTS C M H (cn / 3 + 1) rg Lf L L (zb_AP H (cn / 3 + 1) rg L)) (hcl : zb_CLp C H L L) (hro : ∀ h, h ∈ zb_hO H → Rt h → h ∈ L) : zb_Clo C H rg Rt (· ∈ L) := by
  obtain ⟨s1, s2, W, s3, s4⟩ := hs
  have lt2 : ∀ {g : Nat}, g ∈ zb_hO H → g < cn / 3 + 1 ∧ g < 20000 := fun hg => by have := zb_hr_h hr hg; omega
  have rdy : ∀ n, zb_AP H (cn / 3 + 1) rg L n → zb_lvs (· ∈ L) (zb_kvn C H (cn / 3 + 1) n) → zb_lvs (· ∈ L) (zb_tgn C H (cn / 3 + 1) n) := by
    intro n hn hk
    have hmo : cn / 3 + 1 < 20000 := by
      have := hr.1
      obtain ⟨fl, hs, H1⟩ := this
      have := H1.1.2.1
      omega
    rcases s4 n hn with z | ⟨k, k1, k2, k3, k4⟩
    · exact z
    · exact absurd (hk k (by omega) k1) k4
  refine ⟨hro, fun h j g a1 a2 a3 a4 a5 a6 => (hcl h a2).1 a3 j a4 g (lt2 a5).2 a6, fun h g a1 a2 a3 a4 a5 a6 => ?_, fun t e a1 a2 a3 a4 a5 => ?_, fun e g a1 a2 a3 a4 a5 => (hcl e a2).2 a3 g (lt2 a4).2 a5, fun i g a1 a2 a3 a4 => ?_⟩
  · have hl := lt2 a1
    have := rdy h (Or.inl ⟨hl.1, a3, a2⟩)
    unfold zb_kvn zb_tgn at this
    rw [if_pos hl.1, if_pos hl.1, if_neg (by omega)] at this
    exact this a4 g (lt2 a5).2 a6
  · have h8 := (hr.2.2.2.1.1 t a1 a3).2.2 e a4
    have hl := lt2 h8.1
    have := rdy e (Or.inr (Or.inl ⟨hl.1, t, a2, a3, a4⟩))
    unfold zb_kvn zb_tgn at this
    rw [if_pos hl.1, if_pos hl.1, if_pos h8.2] at this
    exact this a5 e hl.2 rfl
  · have := rdy (cn / 3 + 1 + i) (Or.inr (Or.inr ⟨by omega, by omega⟩))
    unfold zb_kvn zb_tgn at this
    rw [if_neg (by omega), if_neg (by omega), Nat.add_sub_cancel_left] at this
    exact this a2 g (lt2 a3).2 a4
end GC
def zb_RTV (C : eM) (H : zb_Hp) (N top qd fd : Nat) : Prop :=
  (C 29 0 = (top : Int) ∧ top < 2000) ∧ (∀ i, 1 ≤ i → i ≤ top → (C 33 i = 0 ∨ ∃ g : Nat, g ∈ zb_hO H ∧ C 33 i = (g : Int)) ∧ ∃ f : Nat, f ≤ 9 ∧ C 34 i = (f : Int) ∧ ∀ j, j < f → zb_cv H (C 35 (9 * i + j)))
  ∧ (∀ i, i < 32 → zb_cv H (C 36 i)) ∧ (C 1 2 = (N : Int) ∧ N ≤ 444 ∧ ∀ n, n < N → zb_cv H (C 37 n))
  ∧ (C 21 5 = (fd : Int) ∧ fd < 500 ∧ C 21 6 = (qd : Int) ∧ qd ≤ 500 ∧ ∀ i, i < qd → zb_cv H (C 24 ((fd + i) % 500)) ∧ zb_cv H (C 25 ((fd + i) % 500)))
def zb_RTC (C : eM) (N top qd fd : Nat) (h : Nat) : Prop :=
  (∃ i, 1 ≤ i ∧ i ≤ top ∧ C 33 i = (h : Int)) ∨ (∃ i j : Nat, 1 ≤ i ∧ i ≤ top ∧ (j : Int) < C 34 i ∧ C 35 (9 * i + j) = 17179869184 + (h : Int))
  ∨ (∃ i, i < 32 ∧ C 36 i = 17179869184 + (h : Int)) ∨ (∃ n, n < N ∧ C 37 n = 17179869184 + (h : Int))
  ∨ (∃ i, i < qd ∧ (C 24 ((fd + i) % 500) = 17179869184 + (h : Int) ∨ C 25 ((fd + i) % 500) = 17179869184 + (h : Int)))
section GC
variable {C R : eM} {H : zb_Hp} {cn N rg top qd fd : Nat} {lam : Nat → Prop} {scp : Nat → Nat → Prop} {Lf : Nat → Prop} {L pr : List Nat} {Act : Nat → Prop} {M : eM}
theorem zb_rec_vals (hr : zb_HR C R H cn N lam scp) {i f : Nat} (hi : i < 2000) (hf : f ≤ 9) (h34 : C 34 i = (f : Int)) (hv : ∀ j, j < f → zb_cv H (C 35 (9 * i + j)) ∧ zb_lvs Lf (C 35 (9 * i + j))) : ∀ (k j : Nat) (M : eM) (L : List Nat), j + k = f → zb_MTS C M H (cn / 3 + 1) rg Lf L pr Act →
    ∃ M' L', lp (fun z => fn_135_16 (cn / 3 + 1) (i : Int) z.1 z.2) ((j : Int), M) = some (.inl (((i + 1 : Nat) : Int), M')) ∧ zb_MTS C M' H (cn / 3 + 1) rg Lf L' pr Act ∧ L <+: L' ∧ ∀ q, j ≤ q → q < f → zb_lvs (· ∈ L') (C 35 (9 * i + q)) := by
  intro k
  induction k with
  | zero =>
    intro j M L hj hs
    refine ⟨M, L, lp2_inr ?_, hs, List.prefix_refl _, fun q q1 q2 => by omega⟩
    unfold fn_135_16
    rw [if_pos (by omega), Int.toNat_natCast, hs.1.1 34 (by decide), h34, if_pos (by omega), zb_wi_1 (by omega)]
  | succ k ih =>
    intro j M L hj hs
    obtain ⟨v1, v2⟩ := hv j (by omega)
    obtain ⟨M1, L1, a1, a2, a3, a4⟩ := zb_st_v hr hs v1 v2
    obtain ⟨M', L', b1, b2, b3, b4⟩ := ih (j + 1) M1 L1 (by omega) a2
    have e73 : fn_73 (i : Int) (j : Int) M = some (C 35 (9 * i + j)) := by
      have e9 : eg_wi ((i : Int) * 9) = ((9 * i : Nat) : Int) := by
        rw [show (i : Int) * 9 = ((9 * i : Nat) : Int) by omega]; exact zb_wi_n (by omega)
      unfold fn_73
      rw [e9, zb_wi_add (by omega), if_pos (by omega), Int.toNat_natCast, hs.1.1 35 (by decide)]
    refine ⟨M', L', (lp2_inl ?_).trans b1, b2, a3.trans b3, fun q q1 q2 => ?_⟩
    · unfold fn_135_16
      rw [if_pos (by omega), Int.toNat_natCast, hs.1.1 34 (by decide), h34, if_neg (by omega), e73, Option.bind_some, a1, Option.bind_some, zb_wi_1 (by omega)]
    · by_cases hq : q = j
      · rw [hq]; exact zb_lvs_pre b3 a4
      · exact b4 q (by omega) q2
theorem zb_quot_loop (hr : zb_HR C R H cn N lam scp) (hv : ∀ i, i < 32 → zb_cv H (C 36 i) ∧ zb_lvs Lf (C 36 i)) : ∀ (k j : Nat) (M : eM) (L : List Nat), j + k = 32 → zb_MTS C M H (cn / 3 + 1) rg Lf L pr Act →
    ∃ M' L', lp (fun z => fn_135_36 (cn / 3 + 1) z.1 z.2) ((j : Int), M) = some M' ∧ zb_MTS C M' H (cn / 3 + 1) rg Lf L' pr Act ∧ L <+: L' ∧ ∀ q, j ≤ q → q < 32 → zb_lvs (· ∈ L') (C 36 q) := by
  intro k
  induction k with
  | zero =>
    intro j M L hj hs
    refine ⟨M, L, lp2_inr ?_, hs, List.prefix_refl _, fun q q1 q2 => by omega⟩
    unfold fn_135_36
    rw [if_pos (by omega)]
  | succ k ih =>
    intro j M L hj hs
    obtain ⟨v1, v2⟩ := hv j (by omega)
    obtain ⟨M1, L1, a1, a2, a3, a4⟩ := zb_st_v hr hs v1 v2
    obtain ⟨M', L', b1, b2, b3, b4⟩ := ih (j + 1) M1 L1 (by omega) a2
    refine ⟨M', L', (lp2_inl ?_).trans b1, b2, a3.trans b3, fun q q1 q2 => ?_⟩
    · unfold fn_135_36
      rw [if_neg (by omega), if_pos (by omega), Int.toNat_natCast, hs.1.1 36 (by decide), a1, Option.bind_some, zb_wi_1 (by omega)]
    · by_cases hq : q = j
      · rw [hq]; exact zb_lvs_pre b3 a4
      · exact b4 q (by omega) q2
theorem zb_rec_loop (hr : zb_HR C R H cn N lam scp) (hv : zb_RTV C H N top qd fd) (hl : ∀ h, h ∈ zb_hO H → zb_RTC C N top qd fd h → Lf h) : ∀ (k i : Nat) (M : eM) (L : List Nat), 1 ≤ i → i + k = top + 1 → zb_MTS C M H (cn / 3 + 1) rg Lf L pr Act →
    ∃ M' L', lp (fun z => fn_135_2 (cn / 3 + 1) z.1 z.2) ((i : Int), M) = some M' ∧ zb_MTS C M' H (cn / 3 + 1) rg Lf L' pr Act ∧ L <+: L' ∧ (∀ q, i ≤ q → q ≤ top → (∀ g : Nat, g ∈ zb_hO H → C 33 q = (g : Int) → g ∈ L') ∧ ∀ j : Nat, (j : Int) < C 34 q → zb_lvs (· ∈ L') (C 35 (9 * q + j))) ∧ (∀ q, q < 32 → zb_lvs (· ∈ L') (C 36 q)) := by
  obtain ⟨⟨v1, v2⟩, v3, v4, v5, v6⟩ := hv
  have cvl : ∀ v : Int, zb_cv H v → (∀ g : Nat, v = 17179869184 + (g : Int) → zb_RTC C N top qd fd g) → zb_lvs Lf v := fun v hv hh g g1 g2 => by
    rcases hv with ⟨q, q1, q2⟩ | ⟨_, q2⟩
    · have : g = q := by omega
      rw [this]; exact hl q q1 (hh q q2)
    · exact absurd g2 (q2 g g1)
  intro k
  induction k with
  | zero =>
    intro i M L h1 hi hs
    obtain ⟨M', L', b1, b2, b3, b4⟩ := zb_quot_loop (rg := rg) (pr := pr) (Act := Act) hr (fun i hi => ⟨v4 i hi, cvl _ (v4 i hi) (fun g hg => Or.inr (Or.inr (Or.inl ⟨i, hi, hg⟩)))⟩) 32 0 M L (by omega) hs
    refine ⟨M', L', lp2_map ?_, b2, b3, fun q q1 q2 => by omega, fun q hq => b4 q (Nat.zero_le _) hq⟩
    unfold fn_135_2
    rw [hs.1.1 29 (by decide), v1, if_pos (by omega)]
    have b1' : lp (fun z => fn_135_36 (cn / 3 + 1) z.1 z.2) (0, M) = some M' := b1
    rw [b1']
  | succ k ih =>
    intro i M L h1 hi hs
    obtain ⟨f1, f, f2, f3, f4⟩ := v3 i h1 (by omega)
    have step : ∃ M1 L1, fn_136 (cn / 3 + 1) (C 33 i) M = some M1 ∧ zb_MTS C M1 H (cn / 3 + 1) rg Lf L1 pr Act ∧ L <+: L1 ∧ ∀ g : Nat, g ∈ zb_hO H → C 33 i = (g : Int) → g ∈ L1 := by
      rcases f1 with z | ⟨g, g1, g2⟩
      · refine ⟨M, L, ?_, hs, List.prefix_refl _, fun g g1 g2 => ?_⟩
        · unfold fn_136; rw [if_pos z]
        · have := zb_hr_h hr g1; omega
      · obtain ⟨M1, L1, a1, a2, a3, a4⟩ := zb_st_h hr hs g1 (hl g g1 (Or.inl ⟨i, h1, by omega, g2⟩))
        refine ⟨M1, L1, by rw [g2]; exact a1, a2, a3, fun q q1 q2 => ?_⟩
        have : q = g := by omega
        rw [this]; exact a4
    obtain ⟨M1, L1, a1, a2, a3, a4⟩ := step
    obtain ⟨M2, L2, c1, c2, c3, c4⟩ := zb_rec_vals (rg := rg) (pr := pr) (Act := Act) hr (i := i) (f := f) (by omega) f2 f3 (fun j hj => ⟨f4 j hj, cvl _ (f4 j hj) (fun g hg => Or.inr (Or.inl ⟨i, j, h1, by omega, by omega, hg⟩))⟩) f 0 M1 L1 (by omega) a2
    obtain ⟨M', L', b1, b2, b3, b4, b5⟩ := ih (i + 1) M2 L2 (by omega) (by omega) c2
    refine ⟨M', L', ?_, b2, a3.trans (c3.trans b3), fun q q1 q2 => ?_, b5⟩
    · rw [← b1]
      refine lp2_inl ?_
      unfold fn_135_2
      rw [hs.1.1 29 (by decide), v1, if_neg (by omega), if_pos (by omega), Int.toNat_natCast, hs.1.1 33 (by decide), a1, Option.bind_some]
      exact c1
    · by_cases hq : q = i
      · subst hq
        refine ⟨fun g g1 g2 => zb_pre_mem (c3.trans b3) (a4 g g1 g2), fun j hj => zb_lvs_pre b3 (c4 j (Nat.zero_le _) (by omega))⟩
      · exact b4 q (by omega) q2
theorem zb_regs_loop (hr : zb_HR C R H cn N lam scp) (hN : N ≤ 444) (hg : zb_RGS C H (cn / 3 + 1) rg) {Rt : Nat → Prop} (hc : zb_Clo C H rg Rt Lf) : ∀ (k i : Nat) (M : eM) (L : List Nat), i + k = rg → zb_MTS C M H (cn / 3 + 1) rg Lf L [] (fun n => cn / 3 + 1 ≤ n ∧ n - (cn / 3 + 1) < i) →
    ∃ M' L', lp (fun z => fn_133_51 cn (cn / 3 + 1) z.1 z.2) ((i : Int), M) = some M' ∧ zb_MTS C M' H (cn / 3 + 1) rg Lf L' L' (zb_AP H (cn / 3 + 1) rg L') ∧ zb_CLp C H L' L' ∧ L <+: L' := by
  obtain ⟨g1, g2, g3, g4⟩ := hg
  intro k
  induction k with
  | zero =>
    intro i M L hi hs
    have hi2 : i = rg := by omega
    subst hi2
    have hs2 : zb_MTS C M H (cn / 3 + 1) i Lf L [] (zb_AP H (cn / 3 + 1) i []) := zb_act_eq (fun n => ⟨fun z => Or.inr (Or.inr z), fun z => by
      rcases z with ⟨_, _, z⟩ | ⟨_, t, z, _⟩ | z
      · cases z
      · cases z
      · exact z⟩) hs
    obtain ⟨M', L', b1, b2, b3, b4⟩ := zb_found_loop hr hN ⟨g1, g2, g3, g4⟩ hc _ [] M L rfl hs2 (List.nil_prefix) (fun h hh => by cases hh)
    refine ⟨M', L', lp2_map ?_, b2, b3, b4⟩
    unfold fn_133_51
    rw [hs.1.1 21 (by decide), g2, if_pos (by omega)]
    have b1' : lp (fun z => fn_133_87 cn (cn / 3 + 1) z.1 z.2) (0, M) = some M' := b1
    rw [b1']
  | succ k ih =>
    intro i M L hi hs
    obtain ⟨⟨g, q1, q2⟩, q3⟩ := g4 i (by omega)
    have hqh := zb_hr_h hr q1
    have hmo : cn / 3 + 1 + i < 2147483648 := by omega
    have hit : zb_itm H (cn / 3 + 1) rg (cn / 3 + 1 + i) := Or.inr ⟨by omega, by omega⟩
    have ek : zb_kvn C H (cn / 3 + 1) (cn / 3 + 1 + i) = C 22 i := by unfold zb_kvn; rw [if_neg (by omega), Nat.add_sub_cancel_left]
    have et : zb_tgn C H (cn / 3 + 1) (cn / 3 + 1 + i) = C 23 i := by unfold zb_tgn; rw [if_neg (by omega), Nat.add_sub_cancel_left]
    have hlv : zb_lvs Lf (zb_kvn C H (cn / 3 + 1) (cn / 3 + 1 + i)) → zb_lvs Lf (zb_tgn C H (cn / 3 + 1) (cn / 3 + 1 + i)) := fun z x x1 x2 => by
      rw [ek] at z; rw [et] at x2
      rcases q3 with ⟨y, y1, y2⟩ | ⟨_, y2⟩
      · have : x = y := by omega
        rw [this]; exact hc.2.2.2.2.2 i y (by omega) z y1 y2
      · exact absurd x2 (y2 x x1)
    have hcv : zb_cv H (C 22 i) := Or.inl ⟨g, q1, q2⟩
    have hact : ∀ n, ((cn / 3 + 1 ≤ n ∧ n - (cn / 3 + 1) < i) ∨ n = cn / 3 + 1 + i) ↔ (cn / 3 + 1 ≤ n ∧ n - (cn / 3 + 1) < i + 1) := fun n => by omega
    have e22 : M 22 i = C 22 i := by rw [hs.1.1 22 (by decide)]
    have e23 : M 23 i = C 23 i := by rw [hs.1.1 23 (by decide)]
    have e38 : M 38 11 = ((cn / 3 + 1 : Nat) : Int) := (hs.1.2.1 11 (by decide)).trans g3
    have key : ∃ M1 L1, fn_133_51 cn (cn / 3 + 1) (i : Int) M = some (.inl (((i + 1 : Nat) : Int), M1)) ∧ zb_MTS C M1 H (cn / 3 + 1) rg Lf L1 [] (fun n => cn / 3 + 1 ≤ n ∧ n - (cn / 3 + 1) < i + 1) ∧ L <+: L1 := by
      rcases zb_live_v hr hs.1 hcv with ⟨l1, l2⟩ | ⟨l1, y, l2, l3, l4⟩
      · have hlt := hlv (fun x x1 x2 => by rw [ek] at x2; exact (hs.1.2.2.2.2.2.2 x (l2 x x1 x2)).2)
        rw [et] at hlt
        obtain ⟨M1, L1, p1, p2, p3, p4⟩ := zb_st_v hr hs q3 hlt
        refine ⟨M1, L1, ?_, zb_act_eq hact (zb_st_add (L' := L1) p2 hit hlv (by rw [et]; exact p4)), p3⟩
        unfold fn_133_51
        rw [hs.1.1 21 (by decide), g2, if_neg (by omega), if_pos (by omega), Int.toNat_natCast, e22, l1, Option.bind_some, if_neg (by decide), e23, p1, Option.bind_some, zb_wi_1 (by omega)]
      · obtain ⟨M1, p1, p2⟩ := zb_st_wait hr ⟨g1, g2, g3, g4⟩ hs hit (fun z => by omega) hlv l2 (by rw [ek]; exact l3) (fun z => by cases z)
        refine ⟨M1, L, ?_, zb_act_eq hact p2, List.prefix_refl _⟩
        rw [ek] at p1
        unfold fn_133_51
        rw [hs.1.1 21 (by decide), g2, if_neg (by omega), if_pos (by omega), Int.toNat_natCast, e22, l1, Option.bind_some, if_pos rfl, e38, zb_wi_add hmo, p1, Option.bind_some, zb_wi_1 (by omega)]
    obtain ⟨M1, L1, a1, a2, a3⟩ := key
    obtain ⟨M', L', b1, b2, b3, b4⟩ := ih (i + 1) M1 L1 (by omega) a2
    exact ⟨M', L', (lp2_inl a1).trans b1, b2, b3, a3.trans b4⟩
end GC
section GC
variable {C R : eM} {H : zb_Hp} {cn N rg top qd fd : Nat} {lam : Nat → Prop} {scp : Nat → Nat → Prop} {Lf : Nat → Prop} {L pr : List Nat} {Act : Nat → Prop} {M : eM}
theorem zb_regs_act0 {mo : Nat} (hs : zb_MTS C M H mo rg Lf L [] (fun _ => False)) : zb_MTS C M H mo rg Lf L [] (fun n => mo ≤ n ∧ n - mo < 0) := zb_act_eq (fun n => ⟨fun z => z.elim, fun z => by omega⟩) hs
theorem zb_queue_loop (hr : zb_HR C R H cn N lam scp) (hN : N ≤ 444) (hg : zb_RGS C H (cn / 3 + 1) rg) (hv : zb_RTV C H N top qd fd) (hc : zb_Clo C H rg (zb_RTC C N top qd fd) Lf) : ∀ (k i : Nat) (M : eM) (L : List Nat), i + k = qd → zb_MTS C M H (cn / 3 + 1) rg Lf L [] (fun _ => False) →
    ∃ M' L', lp (fun z => fn_133_30 cn (cn / 3 + 1) z.1 z.2) ((i : Int), M) = some M' ∧ zb_MTS C M' H (cn / 3 + 1) rg Lf L' L' (zb_AP H (cn / 3 + 1) rg L') ∧ zb_CLp C H L' L' ∧ L <+: L' ∧ ∀ q, i ≤ q → q < qd → zb_lvs (· ∈ L') (C 24 ((fd + q) % 500)) ∧ zb_lvs (· ∈ L') (C 25 ((fd + q) % 500)) := by
  obtain ⟨v1, v3, v4, v5, w1, w2, w3, w4, zb_w5⟩ := hv
  have cvl : ∀ v : Int, zb_cv H v → (∀ g : Nat, v = 17179869184 + (g : Int) → zb_RTC C N top qd fd g) → zb_lvs Lf v := fun v hv hh g g1 g2 => by
    rcases hv with ⟨q, q1, q2⟩ | ⟨_, q2⟩
    · have : g = q := by omega
      rw [this]; exact hc.1 q q1 (hh q q2)
    · exact absurd g2 (q2 g g1)
  intro k
  induction k with
  | zero =>
    intro i M L hi hs
    obtain ⟨M', L', b1, b2, b3, b4⟩ := zb_regs_loop hr hN hg hc rg 0 M L (by omega) (zb_regs_act0 hs)
    refine ⟨M', L', lp2_map ?_, b2, b3, b4, fun q q1 q2 => by omega⟩
    unfold fn_133_30
    rw [hs.1.1 21 (by decide), w3, if_pos (by omega)]
    have b1' : lp (fun z => fn_133_51 cn (cn / 3 + 1) z.1 z.2) (0, M) = some M' := b1
    rw [b1']
  | succ k ih =>
    intro i M L hi hs
    obtain ⟨x1, x2⟩ := zb_w5 i (by omega)
    obtain ⟨M1, L1, a1, a2, a3, a4⟩ := zb_st_v hr hs x1 (cvl _ x1 (fun g hg => Or.inr (Or.inr (Or.inr (Or.inr ⟨i, by omega, Or.inl hg⟩)))))
    obtain ⟨M2, L2, c1, c2, c3, c4⟩ := zb_st_v hr a2 x2 (cvl _ x2 (fun g hg => Or.inr (Or.inr (Or.inr (Or.inr ⟨i, by omega, Or.inr hg⟩)))))
    obtain ⟨M', L', b1, b2, b3, b4, b5⟩ := ih (i + 1) M2 L2 (by omega) c2
    have e128 : fn_128 (i : Int) M = some (C 24 ((fd + i) % 500)) := by
      unfold fn_128
      rw [hs.1.1 21 (by decide), w1, zb_rem500 (by omega), if_pos (by omega), Int.toNat_natCast, hs.1.1 24 (by decide)]
    have e127 : fn_127 (i : Int) M1 = some (C 25 ((fd + i) % 500)) := by
      unfold fn_127
      rw [a2.1.1 21 (by decide), w1, zb_rem500 (by omega), if_pos (by omega), Int.toNat_natCast, a2.1.1 25 (by decide)]
    refine ⟨M', L', (lp2_inl ?_).trans b1, b2, b3, a3.trans (c3.trans b4), fun q q1 q2 => ?_⟩
    · unfold fn_133_30
      rw [hs.1.1 21 (by decide), w3, if_neg (by omega), e128, Option.bind_some, a1, Option.bind_some, e127, Option.bind_some, c1, Option.bind_some, zb_wi_1 (by omega)]
    · by_cases hq : q = i
      · rw [hq]; exact ⟨zb_lvs_pre (c3.trans b4) a4, zb_lvs_pre b4 c4⟩
      · exact b5 q (by omega) q2
theorem zb_glob_loop (hr : zb_HR C R H cn N lam scp) (hN : N ≤ 444) (hg : zb_RGS C H (cn / 3 + 1) rg) (hv : zb_RTV C H N top qd fd) (hc : zb_Clo C H rg (zb_RTC C N top qd fd) Lf) : ∀ (k i : Nat) (M : eM) (L : List Nat), i + k = N → zb_MTS C M H (cn / 3 + 1) rg Lf L [] (fun _ => False) →
    ∃ M' L', lp (fun z => fn_133_15 cn (cn / 3 + 1) z.1 z.2) ((i : Int), M) = some M' ∧ zb_MTS C M' H (cn / 3 + 1) rg Lf L' L' (zb_AP H (cn / 3 + 1) rg L') ∧ zb_CLp C H L' L' ∧ L <+: L' ∧ (∀ q, i ≤ q → q < N → zb_lvs (· ∈ L') (C 37 q)) ∧ ∀ q, q < qd → zb_lvs (· ∈ L') (C 24 ((fd + q) % 500)) ∧ zb_lvs (· ∈ L') (C 25 ((fd + q) % 500)) := by
  have hv0 := hv
  obtain ⟨v1, v3, v4, ⟨w1, w2, w3⟩, v6⟩ := hv
  have cvl : ∀ v : Int, zb_cv H v → (∀ g : Nat, v = 17179869184 + (g : Int) → zb_RTC C N top qd fd g) → zb_lvs Lf v := fun v hv hh g g1 g2 => by
    rcases hv with ⟨q, q1, q2⟩ | ⟨_, q2⟩
    · have : g = q := by omega
      rw [this]; exact hc.1 q q1 (hh q q2)
    · exact absurd g2 (q2 g g1)
  intro k
  induction k with
  | zero =>
    intro i M L hi hs
    obtain ⟨M', L', b1, b2, b3, b4, b5⟩ := zb_queue_loop hr hN hg hv0 hc qd 0 M L (by omega) hs
    refine ⟨M', L', lp2_map ?_, b2, b3, b4, (fun q q1 q2 => by omega), fun q q2 => b5 q (Nat.zero_le _) q2⟩
    unfold fn_133_15
    rw [hs.1.1 1 (by decide), w1, if_pos (by omega)]
    have b1' : lp (fun z => fn_133_30 cn (cn / 3 + 1) z.1 z.2) (0, M) = some M' := b1
    rw [b1']
  | succ k ih =>
    intro i M L hi hs
    have x1 := w3 i (by omega)
    obtain ⟨M1, L1, a1, a2, a3, a4⟩ := zb_st_v hr hs x1 (cvl _ x1 (fun g hg => Or.inr (Or.inr (Or.inr (Or.inl ⟨i, by omega, hg⟩)))))
    obtain ⟨M', L', b1, b2, b3, b4, b5, b6⟩ := ih (i + 1) M1 L1 (by omega) a2
    refine ⟨M', L', (lp2_inl ?_).trans b1, b2, b3, a3.trans b4, fun q q1 q2 => ?_, b6⟩
    · unfold fn_133_15
      rw [hs.1.1 1 (by decide), w1, if_neg (by omega), if_pos (by omega), Int.toNat_natCast, hs.1.1 37 (by decide), a1, Option.bind_some, zb_wi_1 (by omega)]
    · by_cases hq : q = i
      · rw [hq]; exact zb_lvs_pre b4 a4
      · exact b5 q (by omega) q2
theorem zb_find_live (hr : zb_HR C R H cn N lam scp) (hg : zb_RGS C H (cn / 3 + 1) rg) (hv : zb_RTV C H N top qd fd) :
    ∃ M' L, fn_133 cn (cn / 3 + 1) C = some M' ∧ zb_MS C M' H (cn / 3 + 1) (zb_LV C H rg (zb_RTC C N top qd fd)) L ∧ ∀ h, h ∈ zb_hO H → (h ∈ L ↔ zb_LV C H rg (zb_RTC C N top qd fd) h) := by
  have hN : N ≤ 444 := hv.2.2.2.1.2.1
  have hc : zb_Clo C H rg (zb_RTC C N top qd fd) (zb_LV C H rg (zb_RTC C N top qd fd)) := zb_LV_clo
  have hcn : cn ≤ 20000 := by
    obtain ⟨⟨fl, hs, H1⟩, _⟩ := hr
    exact H1.1.2.1
  have hs0 : zb_MTS C (eg_u (eg_fil (eg_fil C 39 0 (cn / 3 + 1) 0) 41 0 (cn / 3 + 1) 0) 38 8 0) H (cn / 3 + 1) rg (zb_LV C H rg (zb_RTC C N top qd fd)) [] [] (fun _ => False) := by
    refine ⟨⟨fun c hc => ?_, fun f hf => ?_, rfl, (fun i hi => absurd hi (by simp)), fun h h1 h2 => ?_, List.nodup_nil, (fun h hh => by cases hh)⟩, (fun n hn => hn.elim), (fun _ => []), ⟨fun k k1 k2 => ?_, (fun k n hn => by cases hn), (fun k => List.nodup_nil), (fun n hn => hn.elim)⟩, (fun n hn => hn.elim)⟩
    · simp only [List.mem_cons, List.not_mem_nil, or_false, not_or] at hc
      funext j; simp [eg_u, eg_fil, hc]
    · simp [eg_u, eg_fil, hf]
    · simp [eg_u, eg_fil, h2]
    · show (eg_u (eg_fil (eg_fil C 39 0 (cn / 3 + 1) 0) 41 0 (cn / 3 + 1) 0) 38 8 0) 41 k = 0
      simp [eg_u, eg_fil, k2]
  obtain ⟨M1, L1, a1, a2, a3, a4, a5⟩ := zb_rec_loop (rg := rg) hr hv (fun h h1 h2 => hc.1 h h1 h2) top 1 _ [] (Nat.le_refl _) (by omega) hs0
  obtain ⟨M', L', b1, b2, b3, b4, b5, b6⟩ := zb_glob_loop hr hN hg hv hc N 0 M1 L1 (by omega) a2
  have hro : ∀ h, h ∈ zb_hO H → zb_RTC C N top qd fd h → h ∈ L' := by
    intro h hh hq
    have hlt : h < 20000 := by have := zb_hr_h hr hh; omega
    rcases hq with ⟨i, i1, i2, i3⟩ | ⟨i, j, i1, i2, i3, i4⟩ | ⟨i, i1, i2⟩ | ⟨i, i1, i2⟩ | ⟨i, i1, i2⟩
    · exact zb_pre_mem b4 ((a4 i i1 i2).1 h hh i3)
    · exact zb_pre_mem b4 ((a4 i i1 i2).2 j i3 h hlt i4)
    · exact zb_pre_mem b4 (a5 i i1 h hlt i2)
    · exact b5 i (Nat.zero_le _) i1 h hlt i2
    · rcases i2 with i2 | i2
      · exact (b6 i i1).1 h hlt i2
      · exact (b6 i i1).2 h hlt i2
  have hclo := zb_found_clo hr b2 b3 hro
  refine ⟨M', L', ?_, b2.1, fun h hh => ⟨fun z => (b2.1.2.2.2.2.2.2 h z).2, fun z => z _ hclo⟩⟩
  unfold fn_133
  have wb0 : eg_wb 0 = 0 := by decide
  have e135 : fn_135 (cn / 3 + 1) (eg_u (eg_fil (eg_fil C 39 0 (cn / 3 + 1) 0) 41 0 (cn / 3 + 1) 0) 38 8 0) = some M1 := a1
  have b1' : lp (fun z => fn_133_15 cn (cn / 3 + 1) z.1 z.2) (0, M1) = some M' := b1
  rw [if_pos (by omega), wb0, e135, Option.bind_some, b1']
end GC
