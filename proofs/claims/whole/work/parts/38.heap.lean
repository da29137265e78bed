def zb_cum (st sz : Nat → Nat) (us : Nat) : List Nat → Nat → Prop
  | [], p => p = us
  | h :: t, p => st h = p ∧ zb_cum st sz us t (p + sz h)
def zb_frl (C : eM) : List Nat → Int → Prop
  | [], x => x = 0
  | f :: t, x => x = (f : Int) ∧ zb_frl C t (C 17 f)
def zb_HC (C : eM) (cn : Nat) (ord fl : List Nat) (hs us : Nat) (st sz kd : Nat → Nat) : Prop :=
  (C 15 0 = (cn : Int) ∧ cn ≤ 20000 ∧ C 15 6 = (us : Int) ∧ us ≤ cn ∧ C 15 7 = (ord.length : Int) ∧ C 15 8 = (hs : Int) ∧ hs ≤ cn / 3)
  ∧ zb_cum st sz us ord 0 ∧ (∀ h, h ∈ ord → C 17 h = (st h : Int) ∧ C 19 h = (sz h : Int) ∧ C 18 h = (kd h : Int) ∧ C 16 (st h) = (h : Int) ∧ 3 ≤ sz h ∧ 1 ≤ kd h ∧ kd h ≤ 8)
  ∧ zb_frl C fl (C 15 9) ∧ (∀ h, h ∈ fl → C 18 h = 0) ∧ (ord ++ fl).Nodup ∧ (∀ h, h ∈ ord ++ fl ↔ 1 ≤ h ∧ h ≤ hs)
theorem zb_cum_le {st sz : Nat → Nat} {us : Nat} : ∀ {l : List Nat} {p : Nat}, zb_cum st sz us l p → p ≤ us ∧ ∀ h, h ∈ l → p ≤ st h ∧ st h + sz h ≤ us := by
  intro l
  induction l with
  | nil => intro p h; exact ⟨Nat.le_of_eq h, fun h hh => by cases hh⟩
  | cons a t ih =>
    intro p h
    obtain ⟨h1, h2⟩ := h
    obtain ⟨i1, i2⟩ := ih h2
    refine ⟨by omega, fun x hx => ?_⟩
    rcases List.mem_cons.mp hx with e | e
    · rw [e]; omega
    · have := i2 x e; omega
theorem zb_cum_dis {st sz : Nat → Nat} {us : Nat} : ∀ {l : List Nat} {p : Nat}, zb_cum st sz us l p → l.Nodup → ∀ a b, a ∈ l → b ∈ l → a ≠ b → st a + sz a ≤ st b ∨ st b + sz b ≤ st a := by
  intro l
  induction l with
  | nil => intro p h hn a b ha; cases ha
  | cons c t ih =>
    intro p h hn a b ha hb hab
    obtain ⟨h1, h2⟩ := h
    have h3 := (zb_cum_le h2).2
    rcases List.mem_cons.mp ha with ea | ea
    · rcases List.mem_cons.mp hb with eb | eb
      · exact absurd (ea.trans eb.symm) hab
      · left; have := (h3 b eb).1; rw [ea]; omega
    · rcases List.mem_cons.mp hb with eb | eb
      · right; have := (h3 a ea).1; rw [eb]; omega
      · exact ih h2 (List.nodup_cons.mp hn).2 a b ea eb hab
theorem zb_cum_len {st sz : Nat → Nat} {us : Nat} : ∀ {l : List Nat} {p : Nat}, zb_cum st sz us l p → (∀ h, h ∈ l → 3 ≤ sz h) → p + 3 * l.length ≤ us := by
  intro l
  induction l with
  | nil => intro p h _; have : p = us := h; simp; omega
  | cons a t ih =>
    intro p h hz
    have := ih h.2 (fun x hx => hz x (List.mem_cons_of_mem _ hx))
    have := hz a List.mem_cons_self
    simp only [List.length_cons]; omega
theorem zb_cum_snoc {st sz : Nat → Nat} {us x : Nat} : ∀ {l : List Nat} {p : Nat}, zb_cum st sz us l p → x ∉ l → ∀ s, zb_cum (fun y => if y = x then us else st y) (fun y => if y = x then s else sz y) (us + s) (l ++ [x]) p := by
  intro l
  induction l with
  | nil =>
    intro p h _ s
    have h' : p = us := h
    refine ⟨by dsimp only; rw [if_pos rfl]; exact h'.symm, ?_⟩
    show p + (if x = x then s else sz x) = us + s
    rw [if_pos rfl, h']
  | cons a t ih =>
    intro p h hx s
    obtain ⟨h1, h2⟩ := h
    have hax : a ≠ x := fun e => hx (e ▸ List.mem_cons_self)
    refine ⟨by dsimp only; rw [if_neg hax]; exact h1, ?_⟩
    show zb_cum _ _ _ (t ++ [x]) (p + (if a = x then s else sz a))
    rw [if_neg hax]
    exact ih h2 (fun e => hx (List.mem_cons_of_mem _ e)) s
section HPC
variable {C : eM} {cn : Nat} {ord fl : List Nat} {hs us : Nat} {st sz kd : Nat → Nat}
theorem zb_hc_h (H : zb_HC C cn ord fl hs us st sz kd) {h : Nat} (hh : h ∈ ord) : 1 ≤ h ∧ h < cn / 3 + 1 ∧ st h + sz h ≤ us := by
  obtain ⟨⟨a1, a2, a3, a4, a5, a6, a7⟩, b, c, d, e, f, g⟩ := H
  have := (g h).mp (List.mem_append_left _ hh)
  exact ⟨this.1, by omega, ((zb_cum_le b).2 h hh).2⟩
theorem zb_get_c (H : zb_HC C cn ord fl hs us st sz kd) {h i : Nat} (hh : h ∈ ord) (hi : i < sz h) : fn_78 cn (cn / 3 + 1) (h : Int) (i : Int) C = some (C 16 (st h + i)) := by
  obtain ⟨x1, x2, x3⟩ := zb_hc_h H hh
  have a := H.1
  obtain ⟨y1, y2, y3, y4, y5, y6, y7⟩ := H.2.2.1 h hh
  unfold fn_78
  rw [if_pos (by omega), Int.toNat_natCast, y1, zb_wi_add (by omega), if_pos (by omega), Int.toNat_natCast]
theorem zb_put_e (H : zb_HC C cn ord fl hs us st sz kd) {h i : Nat} {v : Int} (hh : h ∈ ord) (hi : i < sz h) : fn_94 cn (cn / 3 + 1) (h : Int) (i : Int) v C = some (eg_u C 16 (st h + i) v) := by
  obtain ⟨x1, x2, x3⟩ := zb_hc_h H hh
  have a := H.1
  obtain ⟨y1, y2, y3, y4, y5, y6, y7⟩ := H.2.2.1 h hh
  unfold fn_94
  rw [if_pos (by omega), Int.toNat_natCast, y1, zb_wi_add (by omega), if_pos (by omega), Int.toNat_natCast]
theorem zb_frl_ne {C' : eM} (h17 : C' 17 = C 17) : ∀ {l : List Nat} {x : Int}, zb_frl C l x → zb_frl C' l x := by
  intro l
  induction l with
  | nil => intro x h; exact h
  | cons a t ih => intro x h; exact ⟨h.1, by rw [h17]; exact ih h.2⟩
theorem zb_put_H (H : zb_HC C cn ord fl hs us st sz kd) {h i : Nat} {v : Int} (hh : h ∈ ord) (hi : i < sz h) (hi1 : 1 ≤ i) : zb_HC (eg_u C 16 (st h + i) v) cn ord fl hs us st sz kd := by
  obtain ⟨a, b, c, d, e, f, g⟩ := H
  refine ⟨a, b, fun x hx => ?_, zb_frl_ne (C := C) (C' := eg_u C 16 (st h + i) v) rfl d, e, f, g⟩
  obtain ⟨y1, y2, y3, y4, y5, y6, y7⟩ := c x hx
  refine ⟨y1, y2, y3, ?_, y5, y6, y7⟩
  have hne : st x ≠ st h + i := by
    by_cases hxh : x = h
    · rw [hxh]; omega
    · have hn : ord.Nodup := (List.nodup_append.mp f).1
      have := zb_cum_dis b hn x h hx hh hxh
      omega
  rw [← y4]; simp [eg_u, hne]
theorem zb_put_o (H : zb_HC C cn ord fl hs us st sz kd) {h i x j : Nat} {v : Int} (hh : h ∈ ord) (hi : i < sz h) (hx : x ∈ ord) (hj : j < sz x) (hne : ¬ (x = h ∧ j = i)) : (eg_u C 16 (st h + i) v) 16 (st x + j) = C 16 (st x + j) := by
  have hq : st x + j ≠ st h + i := by
    by_cases hxh : x = h
    · subst hxh
      have : j ≠ i := fun e => hne ⟨rfl, e⟩
      omega
    · have hn : ord.Nodup := (List.nodup_append.mp H.2.2.2.2.2.1).1
      have := zb_cum_dis H.2.1 hn x h hx hh hxh
      omega
  simp [eg_u, hq]
theorem zb_make_no (H : zb_HC C cn ord fl hs us st sz kd) {k : Int} {s : Nat} (hs1 : ¬ us + s ≤ cn) : fn_93 cn (cn / 3 + 1) k (s : Int) C = some (0, eg_u C 15 11 1) := by
  have a := H.1
  unfold fn_93
  rw [a.1, a.2.2.1, zb_wi_sub (by omega) (by omega), if_neg (by omega)]
theorem zb_make_c (H : zb_HC C cn ord fl hs us st sz kd) {k s : Nat} (hk : 1 ≤ k ∧ k ≤ 8) (hs3 : 3 ≤ s) (hs1 : us + s ≤ cn) : ∃ (x : Nat) (C' : eM) (fl' : List Nat) (hs' : Nat), fn_93 cn (cn / 3 + 1) (k : Int) (s : Int) C = some ((x : Int), C') ∧ x ∉ ord ∧ 1 ≤ x ∧ x < cn / 3 + 1
    ∧ zb_HC C' cn (ord ++ [x]) fl' hs' (us + s) (fun y => if y = x then us else st y) (fun y => if y = x then s else sz y) (fun y => if y = x then k else kd y)
    ∧ C' 20 x = 0 ∧ (∀ y, y ∈ ord → C' 20 y = C 20 y) ∧ (∀ j, j ≠ us → C' 16 j = C 16 j) ∧ C' 15 12 = 0 ∧ C' 15 10 = C 15 10 ∧ C' 15 11 = C 15 11 := by
  obtain ⟨⟨a1, a2, a3, a4, a5, a6, a7⟩, b, c, d, e, f, g⟩ := H
  have hlen := zb_cum_len b (fun h hh => (c h hh).2.2.2.2.1)
  have pick : ∃ (x : Nat) (C1 : eM) (fl' : List Nat) (hs' : Nat), fn_93 cn (cn / 3 + 1) (k : Int) (s : Int) C = fn_93_33 cn (cn / 3 + 1) (k : Int) (s : Int) (x : Int) C1 ∧ x ∉ ord ∧ 1 ≤ x ∧ x < cn / 3 + 1 ∧ x ∉ fl' ∧ hs' ≤ cn / 3 ∧ C1 15 8 = (hs' : Int) ∧ zb_frl C fl' (C1 15 9) ∧ (∀ y, y ∈ fl' → y ∈ fl) ∧ (ord ++ [x] ++ fl').Nodup ∧ (∀ y, y ∈ ord ++ [x] ++ fl' ↔ 1 ≤ y ∧ y ≤ hs') ∧ (∀ c, c ≠ 15 → C1 c = C c) ∧ (∀ q, q ≠ 8 → q ≠ 9 → C1 15 q = C 15 q) := by
    cases fl with
    | nil =>
      have h9 : C 15 9 = 0 := d
      rw [List.append_nil] at f g
      have hhs : hs = ord.length := by
        have hsub : ∀ y, y ∈ ord ↔ 1 ≤ y ∧ y ≤ hs := g
        have h1 : (List.range' 1 hs).length = ord.length := by
          apply List.Perm.length_eq
          refine (List.perm_ext_iff_of_nodup List.nodup_range' f).mpr (fun y => ?_)
          rw [List.mem_range'_1, hsub]; omega
        rw [List.length_range'] at h1; exact h1
      refine ⟨hs + 1, eg_u C 15 8 ((hs + 1 : Nat) : Int), [], hs + 1, ?_, ?_, by omega, by omega, by simp, by omega, rfl, h9, (fun y hy => by cases hy), ?_, fun y => ?_, fun c hc => eg_u_ne hc, fun q q1 q2 => by simp [eg_u, q1]⟩
      · unfold fn_93
        rw [a1, a3, zb_wi_sub (by omega) (by omega), if_pos (by omega), if_neg (by rw [h9]; decide), a6, zb_wi_1 (by omega)]
      · intro z; have := (g _).mp z; omega
      · rw [List.append_nil]
        refine List.nodup_append.mpr ⟨f, by simp, fun y hy z hz => ?_⟩
        have e9 : z = hs + 1 := by simpa using hz
        have := (g y).mp hy
        omega
      · rw [List.append_nil, List.mem_append, g]
        simp only [List.mem_singleton]
        omega
    | cons q t =>
      obtain ⟨d1, d2⟩ := d
      have hqm : q ∈ ord ++ q :: t := List.mem_append_right _ List.mem_cons_self
      have hq := (g q).mp hqm
      obtain ⟨n1, n2, n3⟩ := List.nodup_append.mp f
      obtain ⟨n4, n5⟩ := List.nodup_cons.mp n2
      refine ⟨q, eg_u C 15 9 (C 17 q), t, hs, ?_, fun z => n3 q z q List.mem_cons_self rfl, hq.1, by omega, n4, a7, a6, d2, fun y hy => List.mem_cons_of_mem _ hy, ?_, fun y => ?_, fun c hc => eg_u_ne hc, fun r r1 r2 => by simp [eg_u, r2]⟩
      · unfold fn_93
        rw [a1, a3, zb_wi_sub (by omega) (by omega), if_pos (by omega), d1, if_pos (by omega), if_pos (by omega), Int.toNat_natCast]
      · rw [List.append_assoc]; exact f
      · rw [List.append_assoc]; exact g y
  obtain ⟨x, C1, fl', hs', p1, p2, p3, p4, p5, p6, p7, p8, p9, p10, p11, p12, p13⟩ := pick
  have q6 : C1 15 6 = (us : Int) := (p13 6 (by decide) (by decide)).trans a3
  have q7 : C1 15 7 = (ord.length : Int) := (p13 7 (by decide) (by decide)).trans a5
  have e93 : fn_93_33 cn (cn / 3 + 1) (k : Int) (s : Int) (x : Int) C1 = some ((x : Int), eg_u (eg_u (eg_u (eg_u (eg_u (eg_u (eg_u (eg_u C1 17 x (us : Int)) 18 x (k : Int)) 19 x (s : Int)) 20 x 0) 16 us (x : Int)) 15 6 ((us + s : Nat) : Int)) 15 7 ((ord.length + 1 : Nat) : Int)) 15 12 0) := by
    unfold fn_93_33
    rw [q6, q7, if_pos (by omega), if_pos (by omega), Int.toNat_natCast, Int.toNat_natCast, zb_wi_add (by omega), zb_wi_1 (by omega)]
  refine ⟨x, _, fl', hs', p1.trans e93, p2, p3, p4, ⟨⟨?_, a2, rfl, hs1, ?_, ?_, p6⟩, zb_cum_snoc b p2 s, fun y hy => ?_, ?_, fun y hy => ?_, p10, p11⟩, ?_, fun y hy => ?_, fun j hj => ?_, rfl, ?_, ?_⟩
  · show C1 15 0 = _
    rw [p13 0 (by decide) (by decide)]; exact a1
  · rw [List.length_append]; rfl
  · show C1 15 8 = _
    exact p7
  · rcases List.mem_append.mp hy with hy | hy
    · have hyx : y ≠ x := fun z => p2 (z ▸ hy)
      obtain ⟨y1, y2, y3, y4, y5, y6, y7⟩ := c y hy
      have hyu := ((zb_cum_le b).2 y hy).2
      have hsu : st y ≠ us := by omega
      dsimp only
      rw [if_neg hyx, if_neg hyx, if_neg hyx]
      refine ⟨?_, ?_, ?_, ?_, y5, y6, y7⟩
      · rw [← y1, ← p12 17 (by decide)]; simp [eg_u, hyx]
      · rw [← y2, ← p12 19 (by decide)]; simp [eg_u, hyx]
      · rw [← y3, ← p12 18 (by decide)]; simp [eg_u, hyx]
      · rw [← y4, ← p12 16 (by decide)]; simp [eg_u, hsu]
    · have hyx : y = x := by simpa using hy
      subst hyx
      dsimp only
      rw [if_pos rfl, if_pos rfl, if_pos rfl]
      refine ⟨by simp [eg_u], by simp [eg_u], by simp [eg_u], by simp [eg_u], hs3, hk.1, hk.2⟩
  · have key : ∀ (l : List Nat) (z : Int), zb_frl C l z → x ∉ l → zb_frl (eg_u (eg_u (eg_u (eg_u (eg_u (eg_u (eg_u (eg_u C1 17 x (us : Int)) 18 x (k : Int)) 19 x (s : Int)) 20 x 0) 16 us (x : Int)) 15 6 ((us + s : Nat) : Int)) 15 7 ((ord.length + 1 : Nat) : Int)) 15 12 0) l z := by
      intro l
      induction l with
      | nil => intro z hz _; exact hz
      | cons q t ih =>
        intro z hz hx
        have hqx : q ≠ x := fun e => hx (e ▸ List.mem_cons_self)
        refine ⟨hz.1, ?_⟩
        have e17 : (eg_u (eg_u (eg_u (eg_u (eg_u (eg_u (eg_u (eg_u C1 17 x (us : Int)) 18 x (k : Int)) 19 x (s : Int)) 20 x 0) 16 us (x : Int)) 15 6 ((us + s : Nat) : Int)) 15 7 ((ord.length + 1 : Nat) : Int)) 15 12 0) 17 q = C 17 q := by
          rw [← p12 17 (by decide)]; simp [eg_u, hqx]
        rw [e17]
        exact ih _ hz.2 (fun e => hx (List.mem_cons_of_mem _ e))
    exact key fl' _ p8 p5
  · have hyx : y ≠ x := fun z => p5 (z ▸ hy)
    rw [← e y (p9 y hy), ← p12 18 (by decide)]; simp [eg_u, hyx]
  · simp [eg_u]
  · have hyx : y ≠ x := fun z => p2 (z ▸ hy)
    rw [← p12 20 (by decide)]; simp [eg_u, hyx]
  · rw [← p12 16 (by decide)]; simp [eg_u, hj]
  · show C1 15 10 = _
    exact p13 10 (by decide) (by decide)
  · show C1 15 11 = _
    exact p13 11 (by decide) (by decide)
end HPC
def zb_chn (R : eM) : List Nat → Int → Prop
  | [], x => x = -1
  | c :: t, x => x = (c : Int) ∧ zb_chn R t (R 71 c)
def zb_frs (R : eM) : List Nat → Prop
  | [] => True
  | f :: t => R 69 t.length = (f : Int) ∧ zb_frs R t
def zb_HQ (R : eM) (cn us : Nat) (ps fs fc : List Nat) (cs : Nat → List Nat) : Prop :=
  (R 45 27 = (cn : Int) ∧ cn ≤ 20000 ∧ R 45 28 = (us : Int) ∧ us ≤ cn ∧ R 45 29 = (ps.length : Int) ∧ R 45 38 = (fs.length : Int))
  ∧ zb_frs R fs ∧ (ps ++ fs).Nodup ∧ (∀ o, o ∈ ps ++ fs ↔ o < 6700) ∧ (∀ o, o ∈ ps → R 68 o = 1) ∧ (∀ o, o ∈ fs → R 68 o = 0)
  ∧ (∀ o, o ∈ ps → zb_chn R (cs o) (R 65 o) ∧ R 63 o = ((cs o).length : Int)) ∧ zb_chn R fc (R 45 41)
  ∧ (ps.flatMap cs ++ fc).Nodup ∧ (ps.flatMap cs ++ fc).length = 20000 ∧ (∀ c, c ∈ ps.flatMap cs ++ fc → c < 20000)
theorem zb_chn_eq {R R' : eM} (h9 : R' 71 = R 71) : ∀ {l : List Nat} {x : Int}, zb_chn R l x → zb_chn R' l x := by
  intro l
  induction l with
  | nil => intro x h; exact h
  | cons a t ih => intro x h; exact ⟨h.1, by rw [h9]; exact ih h.2⟩
theorem zb_chn_eqs {R R' : eM} : ∀ {l : List Nat} {x : Int}, (∀ c, c ∈ l → R' 71 c = R 71 c) → zb_chn R l x → zb_chn R' l x := by
  intro l
  induction l with
  | nil => intro x _ h; exact h
  | cons a t ih => intro x hh h; exact ⟨h.1, by rw [hh a List.mem_cons_self]; exact ih (fun c hc => hh c (List.mem_cons_of_mem _ hc)) h.2⟩
section HPR
variable {R : eM} {cn us : Nat} {ps fs fc : List Nat} {cs : Nat → List Nat}
theorem zb_cs_lt (H : zb_HQ R cn us ps fs fc cs) {o c : Nat} (ho : o ∈ ps) (hc : c ∈ cs o) : c < 20000 :=
  H.2.2.2.2.2.2.2.2.2.2 c (List.mem_append_left _ (List.mem_flatMap.mpr ⟨o, ho, hc⟩))
theorem zb_fl_dis : ∀ {l : List Nat} {cs : Nat → List Nat}, (l.flatMap cs).Nodup → l.Nodup → ∀ a b x, a ∈ l → b ∈ l → x ∈ cs a → x ∈ cs b → a = b := by
  intro l
  induction l with
  | nil => intro cs _ _ a b x ha; cases ha
  | cons c t ih =>
    intro cs hn hl a b x ha hb xa xb
    rw [List.flatMap_cons] at hn
    obtain ⟨n1, n2, n3⟩ := List.nodup_append.mp hn
    obtain ⟨l1, l2⟩ := List.nodup_cons.mp hl
    rcases List.mem_cons.mp ha with ea | ea
    · rcases List.mem_cons.mp hb with eb | eb
      · rw [ea, eb]
      · exfalso
        subst ea
        exact n3 x xa x (List.mem_flatMap.mpr ⟨b, eb, xb⟩) rfl
    · rcases List.mem_cons.mp hb with eb | eb
      · exfalso
        subst eb
        exact n3 x xb x (List.mem_flatMap.mpr ⟨a, ea, xa⟩) rfl
      · exact ih n2 l2 a b x ea eb xa xb
theorem zb_fl_nd : ∀ {l : List Nat} {cs : Nat → List Nat}, (l.flatMap cs).Nodup → ∀ a, a ∈ l → (cs a).Nodup := by
  intro l
  induction l with
  | nil => intro cs _ a ha; cases ha
  | cons c t ih =>
    intro cs hn a ha
    rw [List.flatMap_cons] at hn
    obtain ⟨n1, n2, n3⟩ := List.nodup_append.mp hn
    rcases List.mem_cons.mp ha with ea | ea
    · rw [ea]; exact n1
    · exact ih n2 a ea
theorem zb_f190 {a : Int} {x : Int} {b : Nat} (hb : b ≤ 20000) : ∀ (l : List Nat) (x : Int) (k : Nat), zb_chn R l x → (∀ c, c ∈ l → c < 20000) → k ≤ b → ∀ hi : b - k < l.length, lp (fun z => fn_190_7 a (b : Int) R z.1 z.2) (x, (k : Int)) = some ((l[b - k] : Nat) : Int) := by
  intro l
  induction l with
  | nil => intro x k _ _ _ hi; exact absurd hi (by simp)
  | cons c t ih =>
    intro x k hc hlt hk hi
    obtain ⟨h1, h2⟩ := hc
    by_cases hkb : k = b
    · refine lp2_inr ?_
      unfold fn_190_7
      rw [if_pos (by omega), h1]
      simp [hkb]
    · have hc2 := hlt c List.mem_cons_self
      have e1 : fn_190_7 a (b : Int) R x (k : Int) = some (.inl (R 71 c, ((k + 1 : Nat) : Int))) := by
        unfold fn_190_7
        rw [if_neg (by omega), h1, if_pos (by omega), Int.toNat_natCast, zb_wi_1 (by omega)]
      rw [lp2_inl e1]
      have hi2 : b - (k + 1) < t.length := by simp only [List.length_cons] at hi; omega
      rw [ih (R 71 c) (k + 1) h2 (fun y hy => hlt y (List.mem_cons_of_mem _ hy)) (by omega) hi2]
      congr 2
      rw [List.getElem_cons, dif_neg (by omega)]
      congr 1
def zb_ov (o : Nat) : Int := 25769803776 + (o : Int)
theorem zb_f187 {o : Nat} (ho : o < 6700) : fn_187 (zb_ov o) R = some (o : Int) := by
  have e : eg_wi (25769803776 + (o : Int)) = (o : Int) := by unfold eg_wi; omega
  unfold fn_187 zb_ov
  rw [e]
theorem zb_ps_lt (H : zb_HQ R cn us ps fs fc cs) {o : Nat} (ho : o ∈ ps) : o < 6700 := (H.2.2.2.1 o).mp (List.mem_append_left _ ho)
theorem zb_cs_len (H : zb_HQ R cn us ps fs fc cs) {o : Nat} (ho : o ∈ ps) : (cs o).length ≤ 20000 := by
  have h1 := H.2.2.2.2.2.2.2.2.2.1
  rw [List.length_append] at h1
  have : (cs o).length ≤ (ps.flatMap cs).length := by
    clear h1
    have hq : ∀ (l : List Nat), o ∈ l → (cs o).length ≤ (l.flatMap cs).length := by
      intro l
      induction l with
      | nil => intro h; cases h
      | cons a t ih =>
        intro h
        rw [List.flatMap_cons, List.length_append]
        rcases List.mem_cons.mp h with e | e
        · rw [e]; omega
        · have := ih e; omega
    exact hq ps ho
  omega
theorem zb_get_a (H : zb_HQ R cn us ps fs fc cs) {o i : Nat} (ho : o ∈ ps) (hi : i < (cs o).length) : fn_190 (o : Int) (i : Int) R = some (((cs o)[i] : Nat) : Int) := by
  have h1 := zb_ps_lt H ho
  have h2 := zb_cs_len H ho
  unfold fn_190
  rw [if_pos (by omega), Int.toNat_natCast]
  exact zb_f190 (a := (o : Int)) (x := 0) (b := i) (by omega) (cs o) (R 65 o) 0 (H.2.2.2.2.2.2.1 o ho).1 (fun c hc => zb_cs_lt H ho hc) (Nat.zero_le _) (by simpa using hi)
theorem zb_get_r (H : zb_HQ R cn us ps fs fc cs) {o i : Nat} (ho : o ∈ ps) (hi : i < (cs o).length) : fn_189 (zb_ov o) (i : Int) R = some (R 70 (cs o)[i]) := by
  have hc := zb_cs_lt H ho (List.getElem_mem hi)
  unfold fn_189
  rw [zb_f187 (zb_ps_lt H ho), Option.bind_some, zb_get_a H ho hi, Option.bind_some, if_pos (by omega), Int.toNat_natCast]
theorem zb_put_r (H : zb_HQ R cn us ps fs fc cs) {o i : Nat} {v : Int} (ho : o ∈ ps) (hi : i < (cs o).length) : fn_205 (zb_ov o) (i : Int) v R = some (eg_u R 70 (cs o)[i] v) := by
  have hc := zb_cs_lt H ho (List.getElem_mem hi)
  unfold fn_205
  rw [zb_f187 (zb_ps_lt H ho), Option.bind_some, zb_get_a H ho hi, Option.bind_some, if_pos (by omega), Int.toNat_natCast]
theorem zb_put_HQ (H : zb_HQ R cn us ps fs fc cs) {c : Nat} {v : Int} : zb_HQ (eg_u R 70 c v) cn us ps fs fc cs := by
  obtain ⟨a, b, c1, d, e, f, g, k, l, m, n⟩ := H
  have hf : ∀ l : List Nat, zb_frs R l → zb_frs (eg_u R 70 c v) l := by
    intro l
    induction l with
    | nil => intro h; exact h
    | cons a t ih => intro h; exact ⟨h.1, ih h.2⟩
  refine ⟨a, hf _ b, c1, d, e, f, fun o ho => ⟨zb_chn_eq (R := R) (R' := eg_u R 70 c v) rfl (g o ho).1, (g o ho).2⟩, zb_chn_eq (R := R) (R' := eg_u R 70 c v) rfl k, l, m, n⟩
theorem zb_put_q (H : zb_HQ R cn us ps fs fc cs) {o i q j : Nat} {v : Int} (ho : o ∈ ps) (hi : i < (cs o).length) (hq : q ∈ ps) (hj : j < (cs q).length) (hne : ¬ (q = o ∧ j = i)) : (eg_u R 70 (cs o)[i] v) 70 (cs q)[j] = R 70 (cs q)[j] := by
  have hnd := (List.nodup_append.mp H.2.2.2.2.2.2.2.2.1).1
  have hpn := (List.nodup_append.mp H.2.2.1).1
  have hx : (cs q)[j] ≠ (cs o)[i] := by
    intro e
    have hoq : q = o := zb_fl_dis hnd hpn q o _ hq ho (List.getElem_mem hj) (e ▸ List.getElem_mem hi)
    subst hoq
    have := (List.getElem_inj (zb_fl_nd hnd q hq)).mp e
    exact hne ⟨rfl, this⟩
  simp [eg_u, hx]
end HPR
theorem zb_lor_ov {o : Nat} (ho : o < 6700) : eb_lor 25769803776 (o : Int) = zb_ov o := by
  have := zb_lor_hi (k := 6) (r := o) (by decide) (by omega)
  have e : ((6 * 4294967296 : Nat) : Int) = 25769803776 := by decide
  rw [e] at this
  rw [this]; unfold zb_ov; omega
theorem zb_f195l {k v : Int} {n s us pl o : Nat} (ho : o < 6700) (hus : us + s < 2147483648) (hpl : pl < 20000) (hn : n < 30000) : ∀ (m : Nat) (r a : List Nat) (i : Nat) (M : eM), i + m = n → m ≤ r.length → (a ++ r).Nodup → (∀ c, c ∈ r → c < 20000) → zb_chn M r (M 45 41) → zb_chn M a (M 65 o) → M 45 28 = (us : Int) → M 45 29 = (pl : Int) →
    ∃ M' : eM, lp (fun z => fn_195_69 k (n : Int) v (s : Int) (o : Int) z.1 z.2) ((i : Int), M) = some (zb_ov o, M') ∧ zb_chn M' ((r.take m).reverse ++ a) (M' 65 o) ∧ zb_chn M' (r.drop m) (M' 45 41) ∧ (∀ c, M' 70 c = if c ∈ r.take m then v else M 70 c) ∧ (∀ c, c ∉ r.take m → M' 71 c = M 71 c) ∧ (∀ q, q ≠ o → M' 65 q = M 65 q) ∧ (∀ c, c ∉ ([45, 65, 70, 71] : List Nat) → M' c = M c) ∧ (∀ f, f ≠ 41 → f ≠ 28 → f ≠ 29 → M' 45 f = M 45 f) ∧ M' 45 28 = ((us + s : Nat) : Int) ∧ M' 45 29 = ((pl + 1 : Nat) : Int) := by
  intro m
  induction m with
  | zero =>
    intro r a i M hi hm hnd hlt hr ha h28 h29
    have hin : i = n := by omega
    subst hin
    refine ⟨eg_u (eg_u M 45 28 ((us + s : Nat) : Int)) 45 29 ((pl + 1 : Nat) : Int), lp2_inr ?_, ?_, ?_, fun c => ?_, fun c _ => rfl, fun q _ => rfl, fun c hc => ?_, fun f f1 f2 f3 => ?_, rfl, rfl⟩
    · unfold fn_195_69
      rw [if_pos (by omega), h28, zb_wi_add (by omega), h29, zb_wi_1 (by omega), zb_lor_ov ho]
    · exact zb_chn_eq (R := M) (R' := eg_u (eg_u M 45 28 ((us + s : Nat) : Int)) 45 29 ((pl + 1 : Nat) : Int)) rfl ha
    · exact zb_chn_eq (R := M) (R' := eg_u (eg_u M 45 28 ((us + s : Nat) : Int)) 45 29 ((pl + 1 : Nat) : Int)) rfl hr
    · rw [List.take_zero, if_neg (by simp)]; rfl
    · simp only [List.mem_cons, List.not_mem_nil, or_false, not_or] at hc
      funext j; simp [eg_u, hc]
    · simp [eg_u, f2, f3]
  | succ m ih =>
    intro r a i M hi hm hnd hlt hr ha h28 h29
    cases r with
    | nil => exact absurd hm (by simp)
    | cons c t =>
      obtain ⟨r1, r2⟩ := hr
      have hc := hlt c List.mem_cons_self
      obtain ⟨n1, n2, n3⟩ := List.nodup_append.mp hnd
      obtain ⟨n4, n5⟩ := List.nodup_cons.mp n2
      have hca : c ∉ a := fun z => n3 c z c List.mem_cons_self rfl
      have e1 : fn_195_69 k (n : Int) v (s : Int) (o : Int) (i : Int) M = some (.inl (((i + 1 : Nat) : Int), eg_u (eg_u (eg_u (eg_u M 45 41 (M 71 c)) 70 c v) 71 c (M 65 o)) 65 o (c : Int))) := by
        unfold fn_195_69
        rw [if_neg (by omega), r1, if_pos (by omega), if_pos (by omega), Int.toNat_natCast, Int.toNat_natCast, zb_wi_1 (by omega)]
      have k71 : ∀ y, y ≠ c → (eg_u (eg_u (eg_u (eg_u M 45 41 (M 71 c)) 70 c v) 71 c (M 65 o)) 65 o (c : Int)) 71 y = M 71 y := fun y hy => by simp [eg_u, hy]
      have c71 : (eg_u (eg_u (eg_u (eg_u M 45 41 (M 71 c)) 70 c v) 71 c (M 65 o)) 65 o (c : Int)) 71 c = M 65 o := by simp [eg_u]
      have c65 : (eg_u (eg_u (eg_u (eg_u M 45 41 (M 71 c)) 70 c v) 71 c (M 65 o)) 65 o (c : Int)) 65 o = (c : Int) := by simp [eg_u]
      have c41 : (eg_u (eg_u (eg_u (eg_u M 45 41 (M 71 c)) 70 c v) 71 c (M 65 o)) 65 o (c : Int)) 45 41 = M 71 c := by simp [eg_u]
      have hnd2 : (c :: a ++ t).Nodup := by
        refine List.nodup_append.mpr ⟨List.nodup_cons.mpr ⟨hca, n1⟩, n5, fun x hx y hy => ?_⟩
        rcases List.mem_cons.mp hx with e | e
        · rw [e]; exact fun z => n4 (z ▸ hy)
        · exact n3 x e y (List.mem_cons_of_mem _ hy)
      have ht : zb_chn (eg_u (eg_u (eg_u (eg_u M 45 41 (M 71 c)) 70 c v) 71 c (M 65 o)) 65 o (c : Int)) t ((eg_u (eg_u (eg_u (eg_u M 45 41 (M 71 c)) 70 c v) 71 c (M 65 o)) 65 o (c : Int)) 45 41) := by
        rw [c41]
        exact zb_chn_eqs (fun y hy => k71 y (fun z => n4 (z ▸ hy))) r2
      have hca2 : zb_chn (eg_u (eg_u (eg_u (eg_u M 45 41 (M 71 c)) 70 c v) 71 c (M 65 o)) 65 o (c : Int)) (c :: a) ((eg_u (eg_u (eg_u (eg_u M 45 41 (M 71 c)) 70 c v) 71 c (M 65 o)) 65 o (c : Int)) 65 o) := by
        rw [c65]
        refine ⟨rfl, ?_⟩
        rw [c71]
        exact zb_chn_eqs (fun y hy => k71 y (fun z => hca (z ▸ hy))) ha
      obtain ⟨M', g1, g2, g3, g4, g5, g6, g7, g8, g9, g10⟩ := ih t (c :: a) (i + 1) _ (by omega) (by simp only [List.length_cons] at hm; omega) hnd2 (fun y hy => hlt y (List.mem_cons_of_mem _ hy)) ht hca2 h28 h29
      refine ⟨M', (lp2_inl e1).trans g1, ?_, ?_, fun y => ?_, fun y hy => ?_, fun q hq => ?_, fun y hy => ?_, fun f f1 f2 f3 => ?_, g9, g10⟩
      · rw [List.take_succ_cons, List.reverse_cons, List.append_assoc]; exact g2
      · rw [List.drop_succ_cons]; exact g3
      · rw [g4 y, List.take_succ_cons]
        by_cases h1 : y ∈ t.take m
        · rw [if_pos h1, if_pos (List.mem_cons_of_mem _ h1)]
        · rw [if_neg h1]
          by_cases h2 : y = c
          · rw [if_pos (by rw [h2]; exact List.mem_cons_self), h2]; simp [eg_u]
          · rw [if_neg (fun z => (List.mem_cons.mp z).elim h2 h1)]; simp [eg_u, h2]
      · rw [List.take_succ_cons] at hy
        rw [g5 y (fun z => hy (List.mem_cons_of_mem _ z)), k71 y (fun z => hy (z ▸ List.mem_cons_self))]
      · rw [g6 q hq]; simp [eg_u, hq]
      · rw [g7 y hy]
        simp only [List.mem_cons, List.not_mem_nil, or_false, not_or] at hy
        funext j; simp [eg_u, hy]
      · rw [g8 f f1 f2 f3]; simp [eg_u, f1]
theorem zb_fm_congr : ∀ {l : List Nat} {f g : Nat → List Nat}, (∀ q, q ∈ l → f q = g q) → l.flatMap f = l.flatMap g := by
  intro l
  induction l with
  | nil => intro f g _; rfl
  | cons a t ih => intro f g h; rw [List.flatMap_cons, List.flatMap_cons, h a List.mem_cons_self, ih (fun q hq => h q (List.mem_cons_of_mem _ hq))]
section HPR
variable {R : eM} {cn us : Nat} {ps fs fc : List Nat} {cs : Nat → List Nat}
set_option maxRecDepth 20000 in
theorem zb_make_r (H : zb_HQ R cn us ps fs fc cs) {k n s : Nat} {v : Int} (hk : k ≤ 7) (hs1 : us + s ≤ cn) (hps : ps.length < 6700) (hn : (ps.flatMap cs).length + n ≤ 20000) (hnn : n < 30000) : ∃ (o : Nat) (R' : eM) (fs' : List Nat), fn_195_16 (k : Int) (n : Int) v (s : Int) R = some (zb_ov o, R') ∧ o ∉ ps ∧ o < 6700 ∧ (∀ q, q ∈ fs' → q ∈ fs)
    ∧ zb_HQ R' cn (us + s) (ps ++ [o]) fs' (fc.drop n) (fun q => if q = o then (fc.take n).reverse else cs q)
    ∧ R' 62 o = (k : Int) ∧ R' 66 o = 0 ∧ (∀ q, q ≠ o → R' 62 q = R 62 q ∧ R' 66 q = R 66 q) ∧ (∀ c, c ∈ fc.take n → R' 70 c = v) ∧ (∀ c, c ∉ fc.take n → R' 70 c = R 70 c) ∧ (fc.take n).length = n
    ∧ (∀ c, c ∉ ([45, 62, 63, 65, 66, 68, 70, 71] : List Nat) → R' c = R c) ∧ (∀ f, f ≠ 41 → f ≠ 28 → f ≠ 29 → f ≠ 38 → R' 45 f = R 45 f) := by
  have H0 := H
  obtain ⟨⟨a1, a2, a3, a4, a5, a6⟩, b, c, d, e, f, g, hh, l, m, nn⟩ := H
  have hfs : fs.length = 6700 - ps.length := by
    have h1 : (List.range 6700).length = (ps ++ fs).length := by
      apply List.Perm.length_eq
      refine (List.perm_ext_iff_of_nodup List.nodup_range c).mpr (fun y => ?_)
      rw [List.mem_range, d]
    rw [List.length_range, List.length_append] at h1; omega
  cases fs with
  | nil => exact absurd hfs (by simp only [List.length_nil]; omega)
  | cons o t =>
    obtain ⟨b1, b2⟩ := b
    have hoS : o < 6700 := (d o).mp (List.mem_append_right _ List.mem_cons_self)
    obtain ⟨c1, c2, c3⟩ := List.nodup_append.mp c
    obtain ⟨c4, c5⟩ := List.nodup_cons.mp c2
    have hop : o ∉ ps := fun z => c3 o z o List.mem_cons_self rfl
    have hfc : n ≤ fc.length := by rw [List.length_append] at m; omega
    obtain ⟨l1, l2, l3⟩ := List.nodup_append.mp l
    have hb : eg_wb (k : Int) = (k : Int) := zb_wb_n (by omega)
    have hw : eg_ws (n : Int) = (n : Int) := zb_ws_n (by omega)
    have hM : ∃ M0 : eM, M0 = eg_u (eg_u (eg_u (eg_u (eg_u (eg_u R 45 38 (t.length : Int)) 62 o (k : Int)) 63 o (n : Int)) 66 o 0) 68 o 1) 65 o (-1) := ⟨_, rfl⟩
    obtain ⟨M0, hM0⟩ := hM
    have e0 : fn_195_16 (k : Int) (n : Int) v (s : Int) R = lp (fun z => fn_195_69 (k : Int) (n : Int) v (s : Int) (o : Int) z.1 z.2) (((0 : Nat) : Int), M0) := by
      unfold fn_195_16
      have h38 : R 45 38 = ((t.length + 1 : Nat) : Int) := a6
      rw [a1, a3, zb_wi_sub (by omega) (by omega), if_pos (by omega)]
      rw [h38, zb_wi_m1 (by omega) (by simp only [List.length_cons] at hfs; omega), Nat.add_sub_cancel, if_pos (by simp only [List.length_cons] at hfs; omega), Int.toNat_natCast, b1]
      rw [if_pos (by omega), Int.toNat_natCast]
      rw [hb, hb, hw, hw]
      rw [hM0]
      rfl
    have M71 : M0 71 = R 71 := by rw [hM0]; rfl
    have M41 : M0 45 41 = R 45 41 := by rw [hM0]; rfl
    have M65 : M0 65 o = -1 := by rw [hM0]; simp [eg_u]
    obtain ⟨R', g1, g2, g3, g4, g5, g6, g7, g8, g9, g10⟩ := zb_f195l (k := (k : Int)) (v := v) (n := n) (s := s) (us := us) (pl := ps.length) (o := o) hoS (by omega) (by omega) hnn n fc [] 0 M0 (by omega) hfc (by rw [List.nil_append]; exact l2) (fun y hy => nn y (List.mem_append_right _ hy)) (by rw [M41]; exact zb_chn_eq M71 hh) M65 (by rw [hM0]; exact a3) (by rw [hM0]; exact a5)
    have tk : ∀ y, y ∈ fc.take n → y ∈ fc := fun y hy => List.mem_of_mem_take hy
    have notin : ∀ q, q ∈ ps → ∀ y, y ∈ cs q → y ∉ fc.take n := fun q hq y hy z => l3 y (List.mem_flatMap.mpr ⟨q, hq, hy⟩) y (tk y z) rfl
    have fm : (ps ++ [o]).flatMap (fun q => if q = o then (fc.take n).reverse else cs q) = ps.flatMap cs ++ (fc.take n).reverse := by
      have h1 : ps.flatMap (fun q => if q = o then (fc.take n).reverse else cs q) = ps.flatMap cs := by
        refine zb_fm_congr (fun q hq => ?_)
        have hqo : q ≠ o := fun z => hop (z ▸ hq)
        rw [if_neg hqo]
      rw [List.flatMap_append, h1]
      simp
    have perm : (ps.flatMap cs ++ (fc.take n).reverse ++ fc.drop n).Perm (ps.flatMap cs ++ fc) := by
      rw [List.append_assoc]
      refine List.Perm.append_left _ ?_
      refine (List.Perm.append_right _ (List.reverse_perm _)).trans ?_
      rw [List.take_append_drop]
    have oth : ∀ cc q, q ≠ o → cc ∉ ([45, 65, 70, 71] : List Nat) → R' cc q = R cc q := by
      intro cc q hq hcc
      rw [g7 cc hcc, hM0]
      simp only [List.mem_cons, List.not_mem_nil, or_false, not_or] at hcc
      simp [eg_u, hq, hcc]
    refine ⟨o, R', t, e0.trans g1, hop, hoS, fun q hq => List.mem_cons_of_mem _ hq, ⟨⟨?_, a2, g9, hs1, ?_, ?_⟩, ?_, ?_, fun q => ?_, fun q hq => ?_, fun q hq => ?_, fun q hq => ?_, g3, ?_, ?_, fun y hy => ?_⟩, ?_, ?_, fun q hq => ⟨oth 62 q hq (by decide), oth 66 q hq (by decide)⟩, fun y hy => by rw [g4 y, if_pos hy], fun y hy => ?_, by rw [List.length_take]; omega, fun y hy => ?_, fun q q1 q2 q3 q4 => ?_⟩
    · rw [g8 27 (by decide) (by decide) (by decide), hM0]; exact a1
    · rw [g10, List.length_append]; rfl
    · rw [g8 38 (by decide) (by decide) (by decide), hM0]; rfl
    · have key : ∀ l : List Nat, zb_frs R l → zb_frs R' l := by
        intro l
        induction l with
        | nil => intro h; exact h
        | cons x y ih =>
          intro h
          refine ⟨?_, ih h.2⟩
          rw [g7 69 (by decide), hM0]; exact h.1
      exact key t b2
    · rw [List.append_assoc]; exact c
    · rw [List.append_assoc]; exact d q
    · rcases List.mem_append.mp hq with h1 | h1
      · rw [oth 68 q (fun z => hop (z ▸ h1)) (by decide)]; exact e q h1
      · have : q = o := by simpa using h1
        rw [this, g7 68 (by decide), hM0]; simp [eg_u]
    · rw [oth 68 q (fun z => c4 (z ▸ hq)) (by decide)]; exact f q (List.mem_cons_of_mem _ hq)
    · rcases List.mem_append.mp hq with h1 | h1
      · have hqo : q ≠ o := fun z => hop (z ▸ h1)
        dsimp only
        rw [if_neg hqo, g6 q hqo, oth 63 q hqo (by decide)]
        have e65 : M0 65 q = R 65 q := by rw [hM0]; simp [eg_u, hqo]
        rw [e65]
        refine ⟨zb_chn_eqs (fun y hy => ?_) (g q h1).1, (g q h1).2⟩
        rw [g5 y (notin q h1 y hy), M71]
      · have hqo : q = o := by simpa using h1
        subst hqo
        dsimp only
        rw [if_pos rfl]
        refine ⟨by rw [List.append_nil] at g2; exact g2, ?_⟩
        rw [g7 63 (by decide), hM0, List.length_reverse, List.length_take, Nat.min_eq_left hfc]
        simp [eg_u]
    · rw [fm]; exact (perm.nodup_iff).mpr l
    · rw [fm, perm.length_eq]; exact m
    · rw [fm] at hy; exact nn y (perm.mem_iff.mp hy)
    · rw [g7 62 (by decide), hM0]; simp [eg_u]
    · rw [g7 66 (by decide), hM0]; simp [eg_u]
    · rw [g4 y, if_neg hy, hM0]; rfl
    · have h1 : y ∉ ([45, 65, 70, 71] : List Nat) := vsub hy (by decide)
      rw [g7 y h1, hM0]
      simp only [List.mem_cons, List.not_mem_nil, or_false, not_or] at hy
      funext j; simp [eg_u, hy]
    · rw [g8 q q1 q2 q3, hM0]; simp [eg_u, q4]
end HPR
