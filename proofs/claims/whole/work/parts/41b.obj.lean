section zb_MK
variable {C R : eM} {H : zb_Hp} {cn N : Nat} {lam : Nat → Prop} {scp : Nat → Nat → Prop}
theorem zb_gd {l : List Nat} {j : Nat} (h : j < l.length) : l.getD j 0 = l[j] := by
  rw [List.getD_eq_getElem?_getD, List.getElem?_eq_getElem h, Option.getD_some]
theorem zb_ech_pt {C C' : eM} {H : zb_Hp} : ∀ {l : List Nat} {x : Int}, (∀ e, e ∈ l → C' 16 (zb_hS H e + 3) = C 16 (zb_hS H e + 3)) → zb_ech C H l x → zb_ech C' H l x := by
  intro l
  induction l with
  | nil => intro x _ h; exact h
  | cons e t ih =>
    intro x h h2
    refine ⟨h2.1, ?_⟩
    rw [h e List.mem_cons_self]
    exact ih (fun y hy => h y (List.mem_cons_of_mem _ hy)) h2.2
theorem zb_hr_put (hr : zb_HR C R H cn N lam scp) {h j : Nat} {v w : Int} (hh : h ∈ zb_hO H) (hj : j < zb_nf (zb_hK H h) (zb_hZ H h)) (hl : ¬ zb_isl (zb_hK H h) j) (hv : zb_VR (zb_vo H) (zb_hP H) N v w) :
    fn_94 cn (cn / 3 + 1) (h : Int) ((zb_ci (zb_hK H h) j : Nat) : Int) v C = some (eg_u C 16 (zb_hS H h + zb_ci (zb_hK H h) j) v) ∧ fn_205 (zb_ov (zb_hP H h)) (j : Int) w R = some (eg_u R 70 ((zb_hC H (zb_hP H h)).getD j 0) w)
    ∧ zb_HR (eg_u C 16 (zb_hS H h + zb_ci (zb_hK H h) j) v) (eg_u R 70 ((zb_hC H (zb_hP H h)).getD j 0) w) H cn N lam scp := by
  obtain ⟨⟨fl, hs, hH⟩, ⟨fs, fc, hQ⟩, hob, htb, hnum⟩ := hr
  obtain ⟨o1, o2, o3, o4, o5, o6, o7⟩ := hob h hh
  have hci := zb_nf_ci o4 hj
  have hlen : j < (zb_hC H (zb_hP H h)).length := by rw [o3]; exact hj
  have hm : zb_hP H h ∈ (zb_hO H).map (zb_hP H) := List.mem_map_of_mem hh
  have hinj : ∀ a b, a ∈ zb_hO H → b ∈ zb_hO H → zb_hP H a = zb_hP H b → a = b := by
    have hn : ((zb_hO H).map (zb_hP H)).Nodup := (List.nodup_append.mp hQ.2.2.1).1
    exact zb_map_inj hn
  have zb_keepC : ∀ x i, x ∈ zb_hO H → i < zb_hZ H x → ¬ (x = h ∧ i = zb_ci (zb_hK H h) j) → (eg_u C 16 (zb_hS H h + zb_ci (zb_hK H h) j) v) 16 (zb_hS H x + i) = C 16 (zb_hS H x + i) := fun x i hx hi hne => zb_put_o hH hh hci.1 hx hi hne
  have keepR : ∀ x i, x ∈ zb_hO H → i < zb_nf (zb_hK H x) (zb_hZ H x) → ¬ (x = h ∧ i = j) → zb_rf (eg_u R 70 ((zb_hC H (zb_hP H h)).getD j 0) w) H x i = zb_rf R H x i := by
    intro x i hx hi hne
    obtain ⟨p1, p2, p3, _⟩ := hob x hx
    unfold zb_rf
    rw [zb_gd hlen, zb_gd (by rw [p3]; exact hi)]
    exact zb_put_q hQ hm hlen (List.mem_map_of_mem hx) (by rw [p3]; exact hi) (fun z => hne ⟨hinj _ _ hx hh z.1, z.2⟩)
  refine ⟨zb_put_e hH hh hci.1, by rw [zb_gd hlen]; exact zb_put_r hQ hm hlen, ⟨fl, hs, zb_put_H hH hh hci.1 hci.2⟩, ⟨fs, fc, zb_put_HQ hQ⟩, fun x hx => ?_, ⟨fun t ht hk => ?_, htb.2⟩, ?_⟩
  · obtain ⟨p1, p2, p3, p4, p5, p6, p7⟩ := hob x hx
    refine ⟨?_, ?_, p3, p4, fun i hi => ?_, fun hk => ?_, fun hk => ?_⟩
    · rw [eg_u_ne (by decide)]; exact p1
    · rw [eg_u_ne (by decide), eg_u_ne (by decide)]; exact p2
    · by_cases hc : x = h ∧ i = j
      · obtain ⟨rfl, rfl⟩ := hc
        refine ⟨fun z => absurd z hl, fun _ => ?_⟩
        have e1 : zb_cf (eg_u C 16 (zb_hS H x + zb_ci (zb_hK H x) i) v) H x i = v := by
          unfold zb_cf; rw [if_neg hl, eg_u_eq]
        have e2 : zb_rf (eg_u R 70 ((zb_hC H (zb_hP H x)).getD i 0) w) H x i = w := by unfold zb_rf; rw [eg_u_eq]
        rw [e1, e2]; exact hv
      · have e1 : zb_cf (eg_u C 16 (zb_hS H h + zb_ci (zb_hK H h) j) v) H x i = zb_cf C H x i := by
          unfold zb_cf
          rw [zb_keepC x (zb_ci (zb_hK H x) i) hx (zb_nf_ci p4 hi).1 (fun z => hc ⟨z.1, ?_⟩)]
          have z2 := z.2
          rw [z.1] at z2
          unfold zb_ci at z2; split at z2 <;> omega
        unfold zb_FD
        rw [e1, keepR x i hx hi hc]
        exact p5 i hi
    · obtain ⟨d, d1, d2, d3⟩ := p6 hk
      have hz : 1 < zb_hZ H x := by unfold zb_szk at p4; omega
      refine ⟨d, d1, ?_, by rw [eg_u_ne (by decide)]; exact d3⟩
      rw [zb_keepC x 1 hx hz (fun z => ?_)]; exact d2
      obtain ⟨z1, z2⟩ := z
      subst z1
      rw [hk] at z2; simp [zb_ci] at z2; omega
    · obtain ⟨d, d1, d2, d3⟩ := p7 hk
      have hz : 1 < zb_hZ H x := by unfold zb_szk at p4; omega
      refine ⟨d, d1, ?_, by rw [eg_u_ne (by decide)]; exact d3⟩
      rw [zb_keepC x 1 hx hz (fun z => ?_)]; exact d2
      obtain ⟨z1, z2⟩ := z
      subst z1
      rw [hk] at z2; simp [zb_ci] at z2; omega
  · obtain ⟨t1, t2, t3⟩ := htb.1 t ht hk
    have hz : zb_hZ H t = 3 := by have := (hob t ht).2.2.2.1; unfold zb_szk at this; omega
    have hne : ∀ i, ¬ (t = h ∧ i = zb_ci (zb_hK H h) j) := fun i z => hl (Or.inr (Or.inl (by rw [← z.1]; exact hk)))
    refine ⟨?_, ?_, t3⟩
    · rw [zb_keepC t 1 ht (by omega) (hne 1)]
      refine zb_ech_pt (fun e he => ?_) t1
      obtain ⟨f1, f2⟩ := t3 e he
      have hz8 : zb_hZ H e = 5 := by have := (hob e f1).2.2.2.1; unfold zb_szk at this; omega
      refine zb_keepC e 3 f1 (by omega) (fun z => hl (Or.inr (Or.inr ?_)))
      obtain ⟨z1, z2⟩ := z
      subst z1
      refine ⟨f2, ?_⟩
      rw [f2] at z2; simp [zb_ci] at z2; omega
    · rw [zb_keepC t 2 ht (by omega) (hne 2)]; exact t2
  · rw [eg_u_ne (by decide), eg_u_ne (by decide)]; exact hnum
end zb_MK
def zb_Hmk (H : zb_Hp) (x o k s : Nat) (l : List Nat) : zb_Hp := (zb_hO H ++ [x], zb_hU H + s, (fun y => if y = x then zb_hU H else zb_hS H y), (fun y => if y = x then s else zb_hZ H y), (fun y => if y = x then k else zb_hK H y), (fun y => if y = x then o else zb_hP H y), (fun q => if q = o then l else zb_hC H q), fun y => if y = x then [] else zb_hE H y)
def zb_MK (C R : eM) (H : zb_Hp) (cn : Nat) (C1 R1 : eM) (x o k s : Nat) (v : Int) (l : List Nat) : Prop :=
  (x ∉ zb_hO H ∧ 1 ≤ x ∧ x < cn / 3 + 1 ∧ o < 6700 ∧ o ∉ (zb_hO H).map (zb_hP H) ∧ zb_hU H + s ≤ cn)
  ∧ (∃ fl hs, zb_HC C1 cn (zb_hO H ++ [x]) fl hs (zb_hU H + s) (zb_hS (zb_Hmk H x o k s l)) (zb_hZ (zb_Hmk H x o k s l)) (zb_hK (zb_Hmk H x o k s l)))
  ∧ (∃ fs fc, zb_HQ R1 cn (zb_hU H + s) ((zb_hO H).map (zb_hP H) ++ [o]) fs fc (zb_hC (zb_Hmk H x o k s l)))
  ∧ (C1 20 x = 0 ∧ (∀ y, y ∈ zb_hO H → C1 20 y = C 20 y) ∧ (∀ j, j ≠ zb_hU H → C1 16 j = C 16 j) ∧ C1 15 12 = 0 ∧ C1 15 10 = C 15 10 ∧ C1 15 11 = C 15 11 ∧ ∀ c, c ∉ ([15, 16, 17, 18, 19, 20] : List Nat) → C1 c = C c)
  ∧ (R1 62 o = (k : Int) - 1 ∧ R1 66 o = 0 ∧ (∀ q, q ≠ o → R1 62 q = R 62 q ∧ R1 66 q = R 66 q) ∧ (∀ c, c ∈ l → R1 70 c = v) ∧ (∀ c, c ∉ l → R1 70 c = R 70 c) ∧ l.length = zb_nf k s ∧ (∀ c, c ∈ l → c < 20000) ∧ l.Nodup
    ∧ (∀ q c, q ∈ (zb_hO H).map (zb_hP H) → c ∈ zb_hC H q → c ∉ l) ∧ (∀ c, c ∉ ([45, 62, 63, 65, 66, 68, 70, 71] : List Nat) → R1 c = R c) ∧ (∀ f, f ≠ 41 → f ≠ 28 → f ≠ 29 → f ≠ 38 → R1 45 f = R 45 f))
theorem zb_cum_fm {st sz : Nat → Nat} {us : Nat} {P : Nat → Nat} {cs : Nat → List Nat} : ∀ {l : List Nat} {p : Nat}, zb_cum st sz us l p → (∀ h, h ∈ l → (cs (P h)).length ≤ sz h) → p + ((l.map P).flatMap cs).length ≤ us := by
  intro l
  induction l with
  | nil => intro p h _; simp; exact Nat.le_of_eq h
  | cons a t ih =>
    intro p h h2
    have := ih h.2 (fun y hy => h2 y (List.mem_cons_of_mem _ hy))
    have := h2 a List.mem_cons_self
    simp only [List.map_cons, List.flatMap_cons, List.length_append]
    omega
section zb_MK
variable {C R : eM} {H : zb_Hp} {cn N : Nat} {lam : Nat → Prop} {scp : Nat → Nat → Prop}
theorem zb_hr_make (hr : zb_HR C R H cn N lam scp) {k s : Nat} (hk : zb_szk k s) (hs1 : zb_hU H + s ≤ cn) (v : Int) :
    ∃ (x o : Nat) (C1 R1 : eM) (l : List Nat), fn_93 cn (cn / 3 + 1) (k : Int) (s : Int) C = some ((x : Int), C1) ∧ fn_195_16 ((k : Int) - 1) ((zb_nf k s : Nat) : Int) v (s : Int) R = some (zb_ov o, R1) ∧ zb_MK C R H cn C1 R1 x o k s v l := by
  have hlen3 := zb_hr_len hr
  obtain ⟨⟨fl, hs, hH⟩, ⟨fs, fc, hQ⟩, hob, htb, hnum⟩ := hr
  have hn := zb_nf_le hk
  have hcn := hH.1.2.1
  have hfm : (((zb_hO H).map (zb_hP H)).flatMap (zb_hC H)).length ≤ zb_hU H := by
    have := zb_cum_fm (P := zb_hP H) (cs := zb_hC H) hH.2.1 (fun h hh => by
      obtain ⟨_, _, p3, p4, _⟩ := hob h hh
      rw [p3]; exact (zb_nf_le p4).1)
    omega
  have hl := zb_cum_len hH.2.1 (fun h hh => (hH.2.2.1 h hh).2.2.2.2.1)
  obtain ⟨x, C1, fl', hs', e1, e2, e3, e4, e5, e6, e7, e8, e9, e10, e11⟩ := zb_make_c hH (k := k) (s := s) (by omega) hn.2.1 hs1
  obtain ⟨o, R1, fs', g1, g2, g3, g4, g5, g6, g7, g8, g9, g10, g11, g12, g13⟩ := zb_make_r hQ (k := k - 1) (n := zb_nf k s) (s := s) (v := v) (by omega) hs1 (by rw [List.length_map]; omega) (by omega) (by omega)
  have hk1 : ((k - 1 : Nat) : Int) = (k : Int) - 1 := by omega
  rw [hk1] at g1 g6
  have hnd := hQ.2.2.2.2.2.2.2.2.1
  have hlt := hQ.2.2.2.2.2.2.2.2.2.2
  refine ⟨x, o, C1, R1, (fc.take (zb_nf k s)).reverse, e1, g1, ⟨e2, e3, e4, g3, g2, hs1⟩, ⟨fl', hs', e5⟩, ⟨fs', _, g5⟩, ⟨e6, e7, e8, e9, e10, e11, fun c hc => funext fun j => fw_93 e1 hc j⟩, g6, g7, g8, fun c hc => g9 c (List.mem_reverse.mp hc), fun c hc => g10 c (fun z => hc (List.mem_reverse.mpr z)), by rw [List.length_reverse]; exact g11, fun c hc => ?_, ?_, fun q c hq hc hl2 => ?_, g12, g13⟩
  · exact hlt c (List.mem_append_right _ (List.mem_of_mem_take (List.mem_reverse.mp hc)))
  · exact List.pairwise_reverse.mpr (List.Pairwise.imp (fun h => Ne.symm h) ((List.take_sublist _ _).nodup (List.nodup_append.mp hnd).2.1))
  · have h1 := List.mem_of_mem_take (List.mem_reverse.mp hl2)
    have h2 : c ∈ ((zb_hO H).map (zb_hP H)).flatMap (zb_hC H) := List.mem_flatMap.mpr ⟨q, hq, hc⟩
    exact (List.nodup_append.mp hnd).2.2 c h2 c h1 rfl
variable {C1 R1 C2 R2 : eM} {x o k s : Nat} {v : Int} {l : List Nat}
theorem zb_mk_old {h : Nat} (hx : x ∉ zb_hO H) (ho : o ∉ (zb_hO H).map (zb_hP H)) (hh : h ∈ zb_hO H) : zb_hS (zb_Hmk H x o k s l) h = zb_hS H h ∧ zb_hZ (zb_Hmk H x o k s l) h = zb_hZ H h ∧ zb_hK (zb_Hmk H x o k s l) h = zb_hK H h ∧ zb_hP (zb_Hmk H x o k s l) h = zb_hP H h ∧ zb_hE (zb_Hmk H x o k s l) h = zb_hE H h ∧ zb_hC (zb_Hmk H x o k s l) (zb_hP H h) = zb_hC H (zb_hP H h) ∧ h ∈ zb_hO (zb_Hmk H x o k s l) := by
  have hne : h ≠ x := fun e => hx (e ▸ hh)
  have hpo : zb_hP H h ≠ o := fun e => ho (e ▸ List.mem_map_of_mem hh)
  refine ⟨if_neg hne, if_neg hne, if_neg hne, if_neg hne, if_neg hne, if_neg hpo, List.mem_append_left _ hh⟩
theorem zb_mk_new : zb_hS (zb_Hmk H x o k s l) x = zb_hU H ∧ zb_hZ (zb_Hmk H x o k s l) x = s ∧ zb_hK (zb_Hmk H x o k s l) x = k ∧ zb_hP (zb_Hmk H x o k s l) x = o ∧ zb_hE (zb_Hmk H x o k s l) x = [] ∧ zb_hC (zb_Hmk H x o k s l) o = l ∧ x ∈ zb_hO (zb_Hmk H x o k s l) :=
  ⟨if_pos rfl, if_pos rfl, if_pos rfl, if_pos rfl, if_pos rfl, if_pos rfl, List.mem_append_right _ List.mem_cons_self⟩
theorem zb_mk_mem {h : Nat} (hh : h ∈ zb_hO (zb_Hmk H x o k s l)) : h ∈ zb_hO H ∨ h = x := by
  rcases List.mem_append.mp hh with z | z
  · exact Or.inl z
  · exact Or.inr (List.mem_singleton.mp z)
theorem zb_mk_vo (hx : x ∉ zb_hO H) (ho : o ∉ (zb_hO H).map (zb_hP H)) {g : Nat} (hg : zb_vo H g) : zb_vo (zb_Hmk H x o k s l) g ∧ zb_hP (zb_Hmk H x o k s l) g = zb_hP H g := by
  obtain ⟨a1, a2, a3, a4, a5, a6, a7⟩ := zb_mk_old (k := k) (s := s) (l := l) hx ho hg.1
  exact ⟨⟨a7, by rw [a3]; exact hg.2.1, by rw [a3]; exact hg.2.2⟩, a4⟩
theorem zb_hr_made (hr : zb_HR C R H cn N lam scp) (hk : zb_szk k s) (m : zb_MK C R H cn C1 R1 x o k s v l)
    (c15 : ∀ f, f ∈ ([0, 6, 7, 8, 9, 10] : List Nat) → C2 15 f = C1 15 f) (hc : ∀ c, c ∈ ([17, 18, 19, 20] : List Nat) → C2 c = C1 c) (h16 : ∀ j, j ≤ zb_hU H ∨ zb_hU H + s ≤ j → C2 16 j = C1 16 j)
    (r45 : ∀ f, f ∈ ([27, 28, 29, 38, 41, 42] : List Nat) → R2 45 f = R1 45 f) (rc : ∀ c, c ∈ ([62, 63, 65, 66, 68, 69, 71] : List Nat) → R2 c = R1 c) (r64 : ∀ q, q ≠ o → R2 64 q = R1 64 q) (r70 : ∀ c, c ∉ l → R2 70 c = R1 70 c)
    (hf : ∀ j, j < zb_nf k s → zb_FD C2 R2 (zb_Hmk H x o k s l) N x j) (h3 : k = 3 → ∃ d : Nat, lam d ∧ C2 16 (zb_hU H + 1) = (d : Int) ∧ R2 64 o = (d : Int)) (h4 : k = 4 → ∃ d : Nat, scp d (s - 3) ∧ C2 16 (zb_hU H + 1) = (d : Int) + 2 ∧ R2 64 o = (d : Int)) (h7 : k = 7 → C2 16 (zb_hU H + 1) = 0 ∧ C2 16 (zb_hU H + 2) = 0) :
    zb_HR C2 R2 (zb_Hmk H x o k s l) cn N lam scp := by
  obtain ⟨⟨m1, m2, m3, m4, m5, m6⟩, ⟨fl, hs, hH⟩, ⟨fs, fc, hQ⟩, ⟨c1, c2, c3, c4, c5, c6, c7⟩, ⟨q1, q2, q3, q4, q5, q6, q7, q8, q9, q10, q11⟩⟩ := m
  have hr0 := hr
  obtain ⟨⟨fl0, hs0, hH0⟩, ⟨fs0, fc0, hQ0⟩, hob, htb, hnum⟩ := hr
  have hn := zb_nf_le hk
  have hbd : ∀ h, h ∈ zb_hO H → zb_hS H h + zb_hZ H h ≤ zb_hU H := fun h hh => (zb_hr_h hr0 hh).2.2.1
  have hcell : ∀ h i, h ∈ zb_hO H → i < zb_hZ H h → C2 16 (zb_hS H h + i) = C 16 (zb_hS H h + i) := by
    intro h i hh hi
    have := hbd h hh
    rw [h16 _ (Or.inl (by omega)), c3 _ (by omega)]
  have hmap : (zb_hO (zb_Hmk H x o k s l)).map (zb_hP (zb_Hmk H x o k s l)) = (zb_hO H).map (zb_hP H) ++ [o] := by
    show (zb_hO H ++ [x]).map _ = _
    rw [List.map_append, List.map_cons, List.map_nil, (zb_mk_new (H := H) (x := x) (o := o) (k := k) (s := s) (l := l)).2.2.2.1]
    congr 1
    exact List.map_congr_left (fun a ha => (zb_mk_old m1 m5 ha).2.2.2.1)
  refine ⟨⟨fl, hs, ?_⟩, ⟨fs, fc, ?_⟩, fun h hh => ?_, ⟨fun t ht hkt => ?_, fun t u e ht hkt hu hku he1 he2 => ?_⟩, ?_⟩
  · obtain ⟨a1, a2, a3, a4, a5, a6, a7⟩ := hH
    have e17 := hc 17 (by decide)
    have e18 := hc 18 (by decide)
    have e19 := hc 19 (by decide)
    refine ⟨?_, a2, fun h hh => ?_, ?_, fun h hh => by rw [e18]; exact a5 h hh, a6, a7⟩
    · rw [c15 0 (by decide), c15 6 (by decide), c15 7 (by decide), c15 8 (by decide)]; exact a1
    · rw [e17, e18, e19]
      obtain ⟨b1, b2, b3, b4, b5⟩ := a3 h hh
      refine ⟨b1, b2, b3, ?_, b5⟩
      rw [← b4]
      rcases zb_mk_mem (k := k) (s := s) (o := o) (l := l) hh with z | z
      · have h9 := hbd h z
        have h8 := (hH0.2.2.1 h z).2.2.2.2.1
        rw [(zb_mk_old (k := k) (s := s) (l := l) m1 m5 z).1]
        exact h16 _ (Or.inl (by omega))
      · rw [z, (zb_mk_new (H := H) (x := x) (o := o) (k := k) (s := s) (l := l)).1]
        exact h16 _ (Or.inl (Nat.le_refl _))
    · rw [c15 9 (by decide)]
      exact zb_frl_ne e17 a4
  · rw [hmap]
    exact zb_hq_congr hQ (fun f hf => r45 f (by revert hf; simp; omega)) (fun c hc => rc c (by revert hc; simp; omega))
  · rcases zb_mk_mem hh with z | z
    · obtain ⟨a1, a2, a3, a4, a5, a6, a7⟩ := zb_mk_old (k := k) (s := s) (l := l) m1 m5 z
      obtain ⟨p1, p2, p3, p4, p5, p6, p7⟩ := hob h z
      have hpo : zb_hP H h ≠ o := fun e => m5 (e ▸ List.mem_map_of_mem z)
      have hz3 := (zb_nf_le p4).2.1
      unfold zb_OB
      rw [a1, a2, a3, a4, a6, rc 62 (by decide), rc 66 (by decide), hc 20 (by decide), (q3 _ hpo).1, (q3 _ hpo).2, c2 h z, r64 _ hpo, q10 64 (by decide), hcell h 1 z (by omega)]
      refine ⟨p1, p2, p3, p4, fun j hj => ?_, p6, p7⟩
      have hci := zb_nf_ci p4 hj
      have e1 : zb_cf C2 (zb_Hmk H x o k s l) h j = zb_cf C H h j := by
        unfold zb_cf; rw [a1, a3, hcell h _ z hci.1]
      have e2 : zb_rf R2 (zb_Hmk H x o k s l) h j = zb_rf R H h j := by
        unfold zb_rf
        rw [a4, a6, zb_gd (by rw [p3]; exact hj)]
        have hm := List.mem_map_of_mem (f := zb_hP H) z
        have hn9 := q9 _ _ hm (List.getElem_mem (l := zb_hC H (zb_hP H h)) (by rw [p3]; exact hj))
        rw [r70 _ hn9, q5 _ hn9]
      obtain ⟨f1, f2⟩ := p5 j hj
      unfold zb_FD
      rw [e1, e2, a3]
      refine ⟨fun hl => zb_LN_mono (f1 hl) (fun g hg => ?_), fun hl => zb_VR_mono (f2 hl) (Nat.le_refl _) (fun g hg => zb_mk_vo m1 m5 hg)⟩
      obtain ⟨b1, b2, b3, b4, b5, b6, b7⟩ := zb_mk_old (k := k) (s := s) (l := l) m1 m5 hg.1
      refine ⟨⟨b7, ?_, ?_⟩, b4⟩
      · rw [b3, a3]; exact hg.2.1
      · rw [b1, a1, a3]; exact hg.2.2
    · subst z
      obtain ⟨a1, a2, a3, a4, a5, a6, a7⟩ := zb_mk_new (H := H) (x := h) (o := o) (k := k) (s := s) (l := l)
      unfold zb_OB
      rw [a1, a2, a3, a4, a6, rc 62 (by decide), rc 66 (by decide), hc 20 (by decide), q1, q2, c1]
      exact ⟨rfl, rfl, q6, hk, hf, h3, h4⟩
  · rcases zb_mk_mem ht with z | z
    · obtain ⟨a1, a2, a3, a4, a5, a6, a7⟩ := zb_mk_old (k := k) (s := s) (l := l) m1 m5 z
      rw [a3] at hkt
      obtain ⟨t1, t2, t3⟩ := htb.1 t z hkt
      have hz : zb_hZ H t = 3 := by have := (hob t z).2.2.2.1; unfold zb_szk at this; omega
      rw [a1, a5, hcell t 1 z (by omega), hcell t 2 z (by omega)]
      refine ⟨?_, t2, fun e he => ?_⟩
      · have key : ∀ (es : List Nat) (y : Int), (∀ e, e ∈ es → e ∈ zb_hO H ∧ zb_hK H e = 8) → zb_ech C H es y → zb_ech C2 (zb_Hmk H x o k s l) es y := by
          intro es
          induction es with
          | nil => intro y _ h; exact h
          | cons e es ih =>
            intro y he hy
            obtain ⟨f1, f2⟩ := he e List.mem_cons_self
            have hz8 : zb_hZ H e = 5 := by have := (hob e f1).2.2.2.1; unfold zb_szk at this; omega
            refine ⟨hy.1, ?_⟩
            rw [(zb_mk_old m1 m5 f1).1, hcell e 3 f1 (by omega)]
            exact ih _ (fun e' h' => he e' (List.mem_cons_of_mem _ h')) hy.2
        exact key _ _ t3 t1
      · obtain ⟨f1, f2⟩ := t3 e he
        have b := zb_mk_old (k := k) (s := s) (l := l) m1 m5 f1
        exact ⟨b.2.2.2.2.2.2, by rw [b.2.2.1]; exact f2⟩
    · subst z
      obtain ⟨a1, a2, a3, a4, a5, a6, a7⟩ := zb_mk_new (H := H) (x := t) (o := o) (k := k) (s := s) (l := l)
      rw [a3] at hkt
      rw [a1, a5]
      obtain ⟨z1, z2⟩ := h7 hkt
      exact ⟨z1, z2, fun e he => by simp at he⟩
  · have hold : ∀ y, y ∈ zb_hO (zb_Hmk H x o k s l) → e ∈ zb_hE (zb_Hmk H x o k s l) y → y ∈ zb_hO H := by
      intro y hy he
      rcases zb_mk_mem hy with z | z
      · exact z
      · rw [z, (zb_mk_new (H := H) (x := x) (o := o) (k := k) (s := s) (l := l)).2.2.2.2.1] at he
        simp at he
    have z1 := hold t ht he1
    have z2 := hold u hu he2
    have b1 := zb_mk_old (k := k) (s := s) (l := l) m1 m5 z1
    have b2 := zb_mk_old (k := k) (s := s) (l := l) m1 m5 z2
    rw [b1.2.2.1] at hkt
    rw [b2.2.2.1] at hku
    rw [b1.2.2.2.2.1] at he1
    rw [b2.2.2.2.2.1] at he2
    exact htb.2 t u e z1 hkt z2 hku he1 he2
  · rw [c15 10 (by decide), r45 42 (by decide), c5, q11 42 (by decide) (by decide) (by decide) (by decide)]; exact hnum
end zb_MK
abbrev zb_Rec := Nat × Nat × Nat × Int × Nat × Nat
def zb_rK (r : zb_Rec) : Nat := r.1
def zb_rD (r : zb_Rec) : Nat := r.2.1
def zb_rA (r : zb_Rec) : Nat := r.2.2.1
def zb_rY (r : zb_Rec) : Int := r.2.2.2.1
def zb_rQ (r : zb_Rec) : Nat := r.2.2.2.2.1
def zb_rF (r : zb_Rec) : Nat := r.2.2.2.2.2
def zb_tt : List zb_Rec → Nat
  | [] => 0
  | r :: l => zb_tt l + (if zb_rK r = 16 then 2 else 1)
def zb_bb : List zb_Rec → Nat
  | [] => 0
  | r :: l => zb_bb l + zb_rQ r
def zb_ROOT (C R : eM) (H : zb_Hp) (N : Nat) (r : zb_Rec) (i t b : Nat) : Prop :=
  (C 33 i = (zb_rF r : Int) ∧ C 34 i = (zb_rQ r : Int) ∧ zb_rQ r ≤ 9 ∧ zb_isF H (zb_rF r)) ∧ (R 82 t = zb_frm H (zb_rF r) ∧ R 81 t = (b : Int)) ∧ (∀ j, j < zb_rQ r → zb_VR (zb_vo H) (zb_hP H) N (C 35 (9 * i + j)) (R 77 (b + j))) ∧ (zb_rK r = 16 → R 82 (t + 1) = -1 ∧ R 81 (t + 1) = (b : Int))
def zb_STR (C R : eM) (H : zb_Hp) (N : Nat) : List zb_Rec → Prop
  | [] => True
  | r :: l => zb_ROOT C R H N r (l.length + 1) (zb_tt l) (zb_bb l) ∧ zb_STR C R H N l
def zb_cfm (k : Nat) : Int := if k = 14 then 1 else if k = 11 then 14 else if k = 16 then 15 else (k : Int)
def zb_rkd (k : Nat) : Int := if k = 13 ∨ k = 16 then 10 else if k = 15 then 12 else (k : Int)
def zb_CTR (C R : eM) (r : zb_Rec) (i t : Nat) : Prop := (C 30 i = zb_cfm (zb_rK r) ∧ C 31 i = (zb_rD r : Int) ∧ C 32 i = (zb_rA r : Int)) ∧ (R 78 t = zb_rkd (zb_rK r) ∧ (zb_rK r ≠ 15 → R 79 t = (zb_rD r : Int)) ∧ R 80 t = zb_rY r) ∧ (zb_rK r = 16 → R 78 (t + 1) = 12)
def zb_CTL (C R : eM) : List zb_Rec → Prop
  | [] => True
  | r :: l => zb_CTR C R r (l.length + 1) (zb_tt l) ∧ zb_CTL C R l
theorem zb_tt_le : ∀ {l : List zb_Rec}, l.length ≤ zb_tt l ∧ zb_tt l ≤ 2 * l.length := by
  intro l
  induction l with
  | nil => simp [zb_tt]
  | cons r l ih => simp only [zb_tt, List.length_cons]; split <;> omega
theorem zb_bb_le {C R : eM} {H : zb_Hp} {N : Nat} : ∀ {l : List zb_Rec}, zb_STR C R H N l → zb_bb l ≤ 9 * l.length := by
  intro l
  induction l with
  | nil => intro _; simp [zb_bb]
  | cons r l ih =>
    intro h
    have := ih h.2
    have := h.1.1.2.2.1
    simp only [zb_bb, List.length_cons]; omega
def zb_RTS (C : eM) (n g : Nat) : Prop := (∃ i, 1 ≤ i ∧ i ≤ n ∧ C 33 i = (g : Int)) ∨ (∃ i j : Nat, 1 ≤ i ∧ i ≤ n ∧ (j : Int) < C 34 i ∧ C 35 (9 * i + j) = 17179869184 + (g : Int))
def zb_TRg (H H' : zb_Hp) (g : Nat) : Prop := g ∈ zb_hO H' ∧ zb_hK H' g = zb_hK H g ∧ zb_hP H' g = zb_hP H g
theorem zb_trg_rfl {H : zb_Hp} {g : Nat} (h : g ∈ zb_hO H) : zb_TRg H H g := ⟨h, rfl, rfl⟩
theorem zb_frm_tr {H H' : zb_Hp} {f : Nat} (hf : zb_isF H f) (h : f ∈ zb_hO H → zb_TRg H H' f) : zb_isF H' f ∧ zb_frm H' f = zb_frm H f := by
  rcases hf with z | ⟨z1, z2⟩
  · subst z; exact ⟨Or.inl rfl, rfl⟩
  · obtain ⟨a, b, c⟩ := h z1
    refine ⟨Or.inr ⟨a, by rw [b]; exact z2⟩, ?_⟩
    unfold zb_frm; rw [c]
theorem zb_vr_tr {H H' : zb_Hp} {N : Nat} {v w : Int} (hv : zb_VR (zb_vo H) (zb_hP H) N v w) (h : ∀ g, g ∈ zb_hO H → v = 17179869184 + (g : Int) → zb_TRg H H' g) : zb_VR (zb_vo H') (zb_hP H') N v w := by
  rcases hv with hv | hv | hv | hv | hv | hv | ⟨g, g1, g2, g3⟩
  · exact Or.inl hv
  · exact Or.inr (Or.inl hv)
  · exact Or.inr (Or.inr (Or.inl hv))
  · exact Or.inr (Or.inr (Or.inr (Or.inl hv)))
  · exact Or.inr (Or.inr (Or.inr (Or.inr (Or.inl hv))))
  · exact Or.inr (Or.inr (Or.inr (Or.inr (Or.inr (Or.inl hv)))))
  · obtain ⟨a, b, c⟩ := h g g1.1 g2
    exact Or.inr (Or.inr (Or.inr (Or.inr (Or.inr (Or.inr ⟨g, ⟨a, by rw [b]; exact g1.2.1, by rw [b]; exact g1.2.2⟩, g2, by rw [c]; exact g3⟩)))))
theorem zb_RTS_mono {C : eM} {n m g : Nat} (h : zb_RTS C n g) (hm : n ≤ m) : zb_RTS C m g := by
  rcases h with ⟨i, a, b, c⟩ | ⟨i, j, a, b, c, d⟩
  · exact Or.inl ⟨i, a, by omega, c⟩
  · exact Or.inr ⟨i, j, a, by omega, c, d⟩
theorem zb_str_tr {C R C' R' : eM} {H H' : zb_Hp} {N : Nat} : ∀ {l : List zb_Rec}, zb_STR C R H N l → (∀ i, 1 ≤ i → i ≤ l.length → C' 33 i = C 33 i ∧ C' 34 i = C 34 i ∧ ∀ j, j < 9 → C' 35 (9 * i + j) = C 35 (9 * i + j)) → (∀ t, t < zb_tt l → R' 81 t = R 81 t ∧ R' 82 t = R 82 t) → (∀ b, b < zb_bb l → R' 77 b = R 77 b)
    → (∀ g, g ∈ zb_hO H → zb_RTS C l.length g → zb_TRg H H' g) → zb_STR C' R' H' N l := by
  intro l
  induction l with
  | nil => intro _ _ _ _ _; trivial
  | cons r l ih =>
    intro h hc ht hb hg
    obtain ⟨⟨⟨a1, a2, a3, a4⟩, ⟨a5, a6⟩, a7, a8⟩, h2⟩ := h
    obtain ⟨c1, c2, c3⟩ := hc (l.length + 1) (by omega) (by simp)
    have htl : ∀ t, t < zb_tt l + (if zb_rK r = 16 then 2 else 1) → R' 81 t = R 81 t ∧ R' 82 t = R 82 t := ht
    have t0 := htl (zb_tt l) (by split <;> omega)
    have hf := zb_frm_tr a4 (fun hm => hg _ hm (Or.inl ⟨l.length + 1, by omega, by simp, a1⟩))
    refine ⟨⟨⟨by rw [c1]; exact a1, by rw [c2]; exact a2, a3, hf.1⟩, ⟨by rw [t0.2, hf.2]; exact a5, by rw [t0.1]; exact a6⟩, fun j hj => ?_, fun hk => ?_⟩, ih h2 (fun i i1 i2 => hc i i1 (by simp; omega)) (fun t t1 => htl t (by omega)) (fun b b1 => hb b (by simp only [zb_bb]; omega)) (fun g g1 g2 => hg g g1 (zb_RTS_mono g2 (by simp)))⟩
    · rw [c3 j (by omega), hb (zb_bb l + j) (by simp only [zb_bb]; omega)]
      exact zb_vr_tr (a7 j hj) (fun g g1 g2 => hg g g1 (Or.inr ⟨l.length + 1, j, by omega, by simp, by omega, g2⟩))
    · have t1 := htl (zb_tt l + 1) (by rw [if_pos hk]; omega)
      rw [t1.1, t1.2]; exact a8 hk
theorem zb_ctl_tr {C R C' R' : eM} : ∀ {l : List zb_Rec}, zb_CTL C R l → (∀ i, 1 ≤ i → i ≤ l.length → C' 30 i = C 30 i ∧ C' 31 i = C 31 i ∧ C' 32 i = C 32 i) → (∀ t, t < zb_tt l → R' 78 t = R 78 t ∧ R' 79 t = R 79 t ∧ R' 80 t = R 80 t) → zb_CTL C' R' l := by
  intro l
  induction l with
  | nil => intro _ _ _; trivial
  | cons r l ih =>
    intro h hc ht
    obtain ⟨⟨⟨a1, a2, a3⟩, ⟨a4, a5, a6⟩, a7⟩, h2⟩ := h
    obtain ⟨c1, c2, c3⟩ := hc (l.length + 1) (by omega) (by simp)
    have htl : ∀ t, t < zb_tt l + (if zb_rK r = 16 then 2 else 1) → R' 78 t = R 78 t ∧ R' 79 t = R 79 t ∧ R' 80 t = R 80 t := ht
    obtain ⟨t1, t2, t3⟩ := htl (zb_tt l) (by split <;> omega)
    refine ⟨⟨⟨by rw [c1]; exact a1, by rw [c2]; exact a2, by rw [c3]; exact a3⟩, ⟨by rw [t1]; exact a4, fun hk => by rw [t2]; exact a5 hk, by rw [t3]; exact a6⟩, fun hk => ?_⟩, ih h2 (fun i i1 i2 => hc i i1 (by simp; omega)) (fun t t1 => htl t (by omega))⟩
    rw [(htl (zb_tt l + 1) (by rw [if_pos hk]; omega)).1]; exact a7 hk
section ST
variable {C R : eM} {H : zb_Hp} {cn N : Nat} {lam : Nat → Prop} {scp : Nat → Nat → Prop}
theorem zb_vr_iff (hr : zb_HR C R H cn N lam scp) (hN : N ≤ 444) {v w : Int} (hv : zb_VR (zb_vo H) (zb_hP H) N v w) {g : Nat} (hg : g ∈ zb_hO H) : (v = 17179869184 + (g : Int) ↔ w = zb_ov (zb_hP H g)) := by
  have hgb := zb_hr_h hr hg
  rcases zb_VR_ob hN hv with ⟨g', g1, g2, g3⟩ | ⟨n1, n2, n3, n4⟩
  · constructor
    · intro e
      have : g' = g := by omega
      rw [g3, this]
    · intro e
      rw [g3] at e
      have : zb_hP H g' = zb_hP H g := by unfold zb_ov at e; omega
      rw [g2, zb_hr_inj hr g1.1 hg this]
  · exact ⟨fun e => absurd e (n3 g (by omega)), fun e => absurd e (n4 _ (zb_hr_p hr hg))⟩
theorem zb_vr_cv (hr : zb_HR C R H cn N lam scp) (hN : N ≤ 444) {v w : Int} (hv : zb_VR (zb_vo H) (zb_hP H) N v w) : zb_cv H v ∧ zb_rcv H w := by
  rcases zb_VR_ob hN hv with ⟨g', g1, g2, g3⟩ | ⟨n1, n2, n3, n4⟩
  · exact ⟨Or.inl ⟨g', g1.1, g2⟩, Or.inl ⟨g', g1.1, g1.2.2, g3⟩⟩
  · exact ⟨Or.inr ⟨n1, n3⟩, Or.inr n2⟩
theorem zb_frm_iff (hr : zb_HR C R H cn N lam scp) {f g : Nat} (hf : zb_isF H f) (hg : g ∈ zb_hO H) : ((f : Int) = (g : Int) ↔ zb_frm H f = zb_ov (zb_hP H g)) := by
  have hgb := zb_hr_h hr hg
  rcases hf with z | ⟨z1, z2⟩
  · subst z
    rw [zb_frm_0]
    exact ⟨fun e => by omega, fun e => by unfold zb_ov at e; omega⟩
  · have := zb_hr_h hr z1
    rw [(zb_frm_ne (by omega)).1]
    constructor
    · intro e
      have : f = g := by omega
      rw [this]
    · intro e
      have : zb_hP H f = zb_hP H g := by unfold zb_ov at e; omega
      rw [zb_hr_inj hr z1 hg this]
theorem zb_frm_cv (hr : zb_HR C R H cn N lam scp) {f : Nat} (hf : zb_isF H f) : ((f : Int) = 0 ∨ ∃ g : Nat, g ∈ zb_hO H ∧ (f : Int) = (g : Int)) ∧ zb_rcv H (zb_frm H f) := by
  rcases hf with z | ⟨z1, z2⟩
  · subst z
    exact ⟨Or.inl rfl, Or.inr (Or.inl (by rw [zb_frm_0]; decide))⟩
  · have := zb_hr_h hr z1
    rw [(zb_frm_ne (by omega)).1]
    exact ⟨Or.inr ⟨f, z1, rfl⟩, Or.inl ⟨f, z1, by omega, rfl⟩⟩
theorem zb_str_val (hr : zb_HR C R H cn N lam scp) (hN : N ≤ 444) : ∀ {l : List zb_Rec}, zb_STR C R H N l → (∀ i, 1 ≤ i → i ≤ l.length → (C 33 i = 0 ∨ ∃ g : Nat, g ∈ zb_hO H ∧ C 33 i = (g : Int)) ∧ ∃ f : Nat, f ≤ 9 ∧ C 34 i = (f : Int) ∧ ∀ j, j < f → zb_cv H (C 35 (9 * i + j))) ∧ (∀ i, i < zb_bb l → zb_rcv H (R 77 i)) ∧ (∀ i, i < zb_tt l → zb_rcv H (R 82 i)) := by
  intro l
  induction l with
  | nil => intro _; exact ⟨fun i a b => by simp at b; omega, fun i a => by simp [zb_bb] at a, fun i a => by simp [zb_tt] at a⟩
  | cons r l ih =>
    intro h
    obtain ⟨⟨⟨a1, a2, a3, a4⟩, ⟨a5, a6⟩, a7, a8⟩, h2⟩ := h
    obtain ⟨i1, i2, i3⟩ := ih h2
    have hf := zb_frm_cv hr a4
    refine ⟨fun i p1 p2 => ?_, fun i p1 => ?_, fun i p1 => ?_⟩
    · by_cases hi : i ≤ l.length
      · exact i1 i p1 hi
      · have : i = l.length + 1 := by simp at p2; omega
        subst this
        rw [a1]
        exact ⟨hf.1, zb_rQ r, a3, a2, fun j hj => (zb_vr_cv hr hN (a7 j hj)).1⟩
    · by_cases hi : i < zb_bb l
      · exact i2 i hi
      · have h9 : i - zb_bb l < zb_rQ r := by simp only [zb_bb] at p1; omega
        have := (zb_vr_cv hr hN (a7 _ h9)).2
        rw [show zb_bb l + (i - zb_bb l) = i by omega] at this
        exact this
    · by_cases hi : i < zb_tt l
      · exact i3 i hi
      · by_cases he : i = zb_tt l
        · rw [he, a5]; exact hf.2
        · have hk : zb_rK r = 16 ∧ i = zb_tt l + 1 := by simp only [zb_tt] at p1; split at p1 <;> omega
          rw [hk.2, (a8 hk.1).1]
          exact Or.inr (Or.inl (by decide))
theorem zb_str_roots (hr : zb_HR C R H cn N lam scp) (hN : N ≤ 444) {g : Nat} (hg : g ∈ zb_hO H) : ∀ {l : List zb_Rec}, zb_STR C R H N l → (zb_RTS C l.length g ↔ ((∃ i, i < zb_tt l ∧ R 82 i = zb_ov (zb_hP H g)) ∨ ∃ i, i < zb_bb l ∧ R 77 i = zb_ov (zb_hP H g))) := by
  intro l
  induction l with
  | nil =>
    intro _
    constructor
    · intro h
      rcases h with ⟨i, a, b, c⟩ | ⟨i, j, a, b, c, d⟩ <;> simp at b <;> omega
    · intro h
      rcases h with ⟨i, a, b⟩ | ⟨i, a, b⟩
      · simp [zb_tt] at a
      · simp [zb_bb] at a
  | cons r l ih =>
    intro h
    obtain ⟨⟨⟨a1, a2, a3, a4⟩, ⟨a5, a6⟩, a7, a8⟩, h2⟩ := h
    have ih := ih h2
    have hf := zb_frm_iff hr a4 hg
    constructor
    · intro h
      have old : zb_RTS C l.length g → (∃ i, i < zb_tt (r :: l) ∧ R 82 i = zb_ov (zb_hP H g)) ∨ ∃ i, i < zb_bb (r :: l) ∧ R 77 i = zb_ov (zb_hP H g) := by
        intro h
        rcases ih.mp h with ⟨i, p1, p2⟩ | ⟨i, p1, p2⟩
        · exact Or.inl ⟨i, by simp only [zb_tt]; omega, p2⟩
        · exact Or.inr ⟨i, by simp only [zb_bb]; omega, p2⟩
      rcases h with ⟨i, p1, p2, p3⟩ | ⟨i, j, p1, p2, p3, p4⟩
      · by_cases hi : i ≤ l.length
        · exact old (Or.inl ⟨i, p1, hi, p3⟩)
        · have : i = l.length + 1 := by simp at p2; omega
          subst this
          refine Or.inl ⟨zb_tt l, by simp only [zb_tt]; split <;> omega, ?_⟩
          rw [a5]; exact hf.mp (by rw [← a1]; exact p3)
      · by_cases hi : i ≤ l.length
        · exact old (Or.inr ⟨i, j, p1, hi, p3, p4⟩)
        · have : i = l.length + 1 := by simp at p2; omega
          subst this
          have hj : j < zb_rQ r := by omega
          refine Or.inr ⟨zb_bb l + j, by simp only [zb_bb]; omega, ?_⟩
          exact (zb_vr_iff hr hN (a7 j hj) hg).mp p4
    · intro h
      have old : ((∃ i, i < zb_tt l ∧ R 82 i = zb_ov (zb_hP H g)) ∨ ∃ i, i < zb_bb l ∧ R 77 i = zb_ov (zb_hP H g)) → zb_RTS C (r :: l).length g := fun h => zb_RTS_mono (ih.mpr h) (by simp)
      rcases h with ⟨i, p1, p2⟩ | ⟨i, p1, p2⟩
      · by_cases hi : i < zb_tt l
        · exact old (Or.inl ⟨i, hi, p2⟩)
        · by_cases he : i = zb_tt l
          · rw [he, a5] at p2
            exact Or.inl ⟨l.length + 1, by omega, by simp, by rw [a1]; exact hf.mpr p2⟩
          · have hk : zb_rK r = 16 ∧ i = zb_tt l + 1 := by simp only [zb_tt] at p1; split at p1 <;> omega
            rw [hk.2, (a8 hk.1).1] at p2
            unfold zb_ov at p2; omega
      · by_cases hi : i < zb_bb l
        · exact old (Or.inr ⟨i, hi, p2⟩)
        · have h9 : i - zb_bb l < zb_rQ r := by simp only [zb_bb] at p1; omega
          refine Or.inr ⟨l.length + 1, i - zb_bb l, by omega, by simp, by omega, ?_⟩
          refine (zb_vr_iff hr hN (a7 _ h9) hg).mpr ?_
          rw [show zb_bb l + (i - zb_bb l) = i by omega]; exact p2
end ST
def zb_OUT (C R : eM) : Prop := ∃ w fb : Nat, (C 26 4 = (w : Int) ∧ R 45 72 = (w : Int) ∧ w ≤ 4000 ∧ C 26 3 = (fb : Int) ∧ fb < 4000) ∧ ∀ i, i < w → C 27 ((fb + i) % 4000) = R 86 i ∧ 0 ≤ R 86 i ∧ R 86 i < 128
def zb_GLV (H : zb_Hp) (N n : Nat) (v w : Int) : Prop := (n < N ∧ zb_VR (zb_vo H) (zb_hP H) N v w) ∨ (v = 21474836480 ∧ w = -1)
abbrev zb_Bs := eM × eM × Nat × Nat × Nat
def zb_FP (B : zb_Bs) (C : eM) (H : zb_Hp) (rl ql : List (Nat × Nat)) : Prop := ∀ x, x ∈ rl ++ ql → zb_hK H x.2 = 3 ∧ ∃ d : Nat, zb_cl C H x.2 1 = (d : Int) ∧ B.2.1 55 (d + 2) = 1
def zb_NUM (B : zb_Bs) (C : eM) (H : zb_Hp) : Prop := (0 ≤ C 15 10 ∧ C 15 10 ≤ B.2.1 45 42 + 20000) ∧ ∀ h, h ∈ zb_hO H → 0 ≤ C 20 h ∧ C 20 h ≤ C 15 10
def zb_GS (B : zb_Bs) (C R : eM) (H : zb_Hp) (rl ql : List (Nat × Nat)) (fd : Nat) : Prop :=
  zb_HR C R H B.2.2.1 B.2.2.2.1 (zb_lamW B.1 B.2.1 B.2.2.2.1 B.2.2.2.2) (zb_scpW B.1 B.2.1 B.2.2.2.1 B.2.2.2.2) ∧ zb_FRel C R H rl ql fd ∧ zb_ROWS C R B.1 B.2.1
  ∧ (∃ L B' : Nat → Nat, zb_NM C R B.2.2.2.1 L B') ∧ (∀ n, n < 444 → zb_GLV H B.2.2.2.1 n (C 37 n) (R 72 n)) ∧ (C 38 11 = ((B.2.2.1 / 3 + 1 : Nat) : Int) ∧ C 38 5 = R 45 43) ∧ zb_OUT C R ∧ zb_FP B C H rl ql ∧ zb_NUM B C H
theorem zb_gs_hr {B : zb_Bs} {C R : eM} {H : zb_Hp} {rl ql : List (Nat × Nat)} {fd : Nat} (g : zb_GS B C R H rl ql fd) : zb_HR C R H B.2.2.1 B.2.2.2.1 (zb_lamW B.1 B.2.1 B.2.2.2.1 B.2.2.2.2) (zb_scpW B.1 B.2.1 B.2.2.2.1 B.2.2.2.2) := g.1
theorem zb_gs_N {B : zb_Bs} {C R : eM} {H : zb_Hp} {rl ql : List (Nat × Nat)} {fd : Nat} (g : zb_GS B C R H rl ql fd) : B.2.2.2.1 ≤ 444 ∧ C 1 2 = (B.2.2.2.1 : Int) ∧ R 45 7 = (B.2.2.2.1 : Int) := by
  obtain ⟨_, _, _, ⟨L, B', h⟩, _⟩ := g
  exact ⟨h.1.2.2.2, h.1.1, h.1.2.1⟩
theorem zb_gs_w {B : zb_Bs} {C R : eM} {H : zb_Hp} {rl ql : List (Nat × Nat)} {fd : Nat} (g : zb_GS B C R H rl ql fd) : zb_ROWS C R B.1 B.2.1 := g.2.2.1
theorem zb_gs_gl {B : zb_Bs} {C R : eM} {H : zb_Hp} {rl ql : List (Nat × Nat)} {fd : Nat} (g : zb_GS B C R H rl ql fd) {n : Nat} (hn : n < 444) : zb_GLV H B.2.2.2.1 n (C 37 n) (R 72 n) := g.2.2.2.2.1 n hn
theorem zb_nm_congr {C R C' R' : eM} {N : Nat} {L B : Nat → Nat} (h : zb_NM C R N L B) (c1 : C' 1 = C 1) (c2 : C' 2 = C 2) (c3 : C' 3 = C 3) (r7 : R' 45 7 = R 45 7) (r47 : R' 47 = R 47) (r48 : R' 48 = R 48) : zb_NM C' R' N L B := by
  unfold zb_NM at *; rw [c1, c2, c3, r7, r47, r48]; exact h
theorem zb_out_congr {C R C' R' : eM} (h : zb_OUT C R) (c1 : C' 26 = C 26) (c2 : C' 27 = C 27) (r7 : R' 45 72 = R 45 72) (r47 : R' 86 = R 86) : zb_OUT C' R' := by
  unfold zb_OUT at *; rw [c1, c2, r7, r47]; exact h
theorem zb_rows_congr {C R C' R' C0 R0 : eM} (h : zb_ROWS C R C0 R0) (hc : ∀ c, c ∈ ([4, 5, 6] : List Nat) → C' c = C c) (hr : ∀ c, c ∈ ([49, 50, 51, 52, 53, 54, 55] : List Nat) → R' c = R c) : zb_ROWS C' R' C0 R0 := by
  unfold zb_ROWS at *
  rw [hc 4 (by decide), hc 5 (by decide), hc 6 (by decide), hr 49 (by decide), hr 50 (by decide), hr 51 (by decide), hr 52 (by decide), hr 53 (by decide), hr 54 (by decide), hr 55 (by decide)]
  exact h
def zb_CC : List Nat := [29, 30, 31, 32, 33, 34, 35, 36, 43, 44]
def zb_RC : List Nat := [77, 78, 79, 80, 81, 82, 83, 84, 85, 87, 67]
def zb_RF : List Nat := [51, 53, 59, 62, 63, 64, 66, 67, 68, 69, 70, 73, 74]
def zb_QC (C C' : eM) : Prop := (∀ c, c ∉ zb_CC → c ≠ 15 → C' c = C c) ∧ (∀ f, f ≠ 11 → f ≠ 12 → C' 15 f = C 15 f) ∧ C' 44 7 ≤ C 44 7
def zb_QR2 (R R' : eM) : Prop := (∀ c, c ∉ zb_RC → c ≠ 45 → R' c = R c) ∧ (∀ f, f ∉ zb_RF → R' 45 f = R 45 f)
theorem zb_gs_congr {B : zb_Bs} {C R C' R' : eM} {H : zb_Hp} {rl ql : List (Nat × Nat)} {fd : Nat} (g : zb_GS B C R H rl ql fd) (hc : zb_QC C C') (hr : zb_QR2 R R') : zb_GS B C' R' H rl ql fd := by
  obtain ⟨g1, g2, g3, ⟨L, B', g4⟩, g5, g6, g7, g8, g9⟩ := g
  obtain ⟨c1, c2, c3⟩ := hc
  obtain ⟨r1, r2⟩ := hr
  refine ⟨zb_hr_congr g1 (fun f hf => c2 f (by revert hf; simp; omega) (by revert hf; simp; omega)) (fun c hc => c1 c (by revert hc; simp [zb_CC]; omega) (by revert hc; simp; omega)) (fun f hf => r2 f (by revert hf; simp [zb_RF]; omega)) (fun c hc => r1 c (by revert hc; simp [zb_RC]; omega) (by revert hc; simp; omega)),
    zb_fr_congr g2 (fun f hf => by rw [c1 21 (by decide) (by decide)]) (fun c hc => c1 c (by revert hc; simp [zb_CC]; omega) (by revert hc; simp; omega)) (fun f hf => r2 f (by revert hf; simp [zb_RF]; omega)) (fun c hc => r1 c (by revert hc; simp [zb_RC]; omega) (by revert hc; simp; omega)),
    zb_rows_congr g3 (fun c hc => c1 c (by revert hc; simp [zb_CC]; omega) (by revert hc; simp; omega)) (fun c hc => r1 c (by revert hc; simp [zb_RC]; omega) (by revert hc; simp; omega)),
    ⟨L, B', zb_nm_congr g4 (c1 1 (by decide) (by decide)) (c1 2 (by decide) (by decide)) (c1 3 (by decide) (by decide)) (r2 7 (by decide)) (r1 47 (by decide) (by decide)) (r1 48 (by decide) (by decide))⟩, fun n hn => ?_, ?_, zb_out_congr g7 (c1 26 (by decide) (by decide)) (c1 27 (by decide) (by decide)) (r2 72 (by decide)) (r1 86 (by decide) (by decide)), fun x hx => by unfold zb_cl; rw [c1 16 (by decide) (by decide)]; exact g8 x hx, by rw [c2 10 (by decide) (by decide)]; exact g9.1, fun h hh => by rw [c2 10 (by decide) (by decide), c1 20 (by decide) (by decide)]; exact g9.2 h hh⟩
  · rw [c1 37 (by decide) (by decide), r1 72 (by decide) (by decide)]; exact g5 n hn
  · rw [c1 38 (by decide) (by decide), r2 43 (by decide)]; exact g6
theorem zb_QC_rfl {C : eM} : zb_QC C C := ⟨fun _ _ _ => rfl, fun _ _ _ => rfl, Int.le_refl _⟩
theorem zb_QR_rfl {R : eM} : zb_QR2 R R := ⟨fun _ _ _ => rfl, fun _ _ => rfl⟩
theorem zb_QC_tr {C C' C'' : eM} (h : zb_QC C C') (h2 : zb_QC C' C'') : zb_QC C C'' := ⟨fun c a b => by rw [h2.1 c a b, h.1 c a b], fun f a b => by rw [h2.2.1 f a b, h.2.1 f a b], Int.le_trans h2.2.2 h.2.2⟩
theorem zb_QR_tr {C C' C'' : eM} (h : zb_QR2 C C') (h2 : zb_QR2 C' C'') : zb_QR2 C C'' := ⟨fun c a b => by rw [h2.1 c a b, h.1 c a b], fun f a => by rw [h2.2 f a, h.2 f a]⟩
theorem zb_QC_u {C C' : eM} (h : zb_QC C C') {a i : Nat} {v : Int} (ha : a ∈ zb_CC) (h7 : ¬ (a = 44 ∧ i = 7) := by omega) : zb_QC C (eg_u C' a i v) := by
  refine ⟨fun c c1 c2 => ?_, fun f f1 f2 => ?_, ?_⟩
  · rw [eg_u_ne (fun e => c1 (by rw [e]; exact ha))]; exact h.1 c c1 c2
  · rw [eg_u_ne (fun e => by rw [← e] at ha; revert ha; decide)]; exact h.2.1 f f1 f2
  · rw [eg_u_nj (fun z => h7 ⟨z.1.symm, z.2.symm⟩)]; exact h.2.2
theorem zb_QC_f {C C' : eM} (h : zb_QC C C') {v : Int} (hv : v ≤ C' 44 7) : zb_QC C (eg_u C' 44 7 v) := by
  refine ⟨fun c c1 c2 => ?_, fun f f1 f2 => ?_, ?_⟩
  · rw [eg_u_ne (fun e => c1 (by rw [e]; decide))]; exact h.1 c c1 c2
  · rw [eg_u_ne (by decide)]; exact h.2.1 f f1 f2
  · rw [eg_u_eq]; exact Int.le_trans hv h.2.2
theorem zb_QC_15 {C C' : eM} (h : zb_QC C C') {i : Nat} {v : Int} (ha : i = 11 ∨ i = 12) : zb_QC C (eg_u C' 15 i v) := by
  refine ⟨fun c c1 c2 => ?_, fun f f1 f2 => ?_, ?_⟩
  · rw [eg_u_ne c2]; exact h.1 c c1 c2
  · rw [eg_u_nj (fun e => by omega)]; exact h.2.1 f f1 f2
  · rw [eg_u_ne (by decide)]; exact h.2.2
theorem zb_QR_u {C C' : eM} (h : zb_QR2 C C') {a i : Nat} {v : Int} (ha : a ∈ zb_RC) : zb_QR2 C (eg_u C' a i v) := by
  refine ⟨fun c c1 c2 => ?_, fun f f1 => ?_⟩
  · rw [eg_u_ne (fun e => c1 (by rw [e]; exact ha))]; exact h.1 c c1 c2
  · rw [eg_u_ne (fun e => by rw [← e] at ha; revert ha; decide)]; exact h.2 f f1
theorem zb_QR_45 {C C' : eM} (h : zb_QR2 C C') {i : Nat} {v : Int} (ha : i ∈ zb_RF) : zb_QR2 C (eg_u C' 45 i v) := by
  refine ⟨fun c c1 c2 => ?_, fun f f1 => ?_⟩
  · rw [eg_u_ne c2]; exact h.1 c c1 c2
  · rw [eg_u_nj (fun e => f1 (by rw [e.2]; exact ha))]; exact h.2 f f1
def zb_QB (C R : eM) (H : zb_Hp) (bn : Nat) : Prop := (∀ i, i < 32 → zb_cv H (C 36 i)) ∧ (R 45 59 = (bn : Int) ∧ bn ≤ 31 ∧ (∀ i, i < bn → zb_rcv H (R 84 i)) ∧ zb_rcv H (R 45 63)) ∧ ∀ g, g ∈ zb_hO H → ((∃ i, i < 32 ∧ C 36 i = 17179869184 + (g : Int)) ↔ ((∃ i, i < bn ∧ R 84 i = zb_ov (zb_hP H g)) ∨ R 45 63 = zb_ov (zb_hP H g)))
theorem zb_qb_none {C R : eM} {H : zb_Hp} (h1 : ∀ i, i < 32 → C 36 i = 4294967298) (h2 : R 45 59 = 0) (h3 : R 45 63 = -1) : zb_QB C R H 0 := by
  refine ⟨fun i hi => ?_, ⟨h2, by omega, fun i hi => by omega, by rw [h3]; exact Or.inr (Or.inl (by decide))⟩, fun g hg => ⟨fun z => ?_, fun z => ?_⟩⟩
  · rw [h1 i hi]; exact Or.inr ⟨by decide, fun g _ => by omega⟩
  · obtain ⟨i, i1, i2⟩ := z; rw [h1 i i1] at i2; omega
  · rcases z with ⟨i, i1, _⟩ | z
    · omega
    · rw [h3] at z; unfold zb_ov at z; omega
def zb_CLC (C C' : eM) : Prop := (∀ f, f ≠ 6 → f ≠ 7 → f ≠ 9 → C' 15 f = C 15 f) ∧ (∀ c, c ∉ ([15, 16, 17, 18, 21, 22, 23, 24, 25, 38, 39, 40, 41, 42] : List Nat) → C' c = C c)
def zb_CLRf (R R' : eM) : Prop := R' 45 67 = eg_wi (R 45 67 - 100) ∧ (∀ f, f ∉ ([28, 29, 38, 41, 43, 45, 48, 64, 67] : List Nat) → R' 45 f = R 45 f) ∧ (∀ c, c ∉ ([45, 67, 68, 69, 70, 71, 73, 74, 75, 76, 85] : List Nat) → R' c = R c)
theorem zb_coll {B : zb_Bs} {C R : eM} {H : zb_Hp} {rl ql : List (Nat × Nat)} {fd f e bn : Nat} (xs : Nat) {st : List zb_Rec} (g : zb_GS B C R H rl ql fd) (hs : zb_STR C R H B.2.2.2.1 st) (hst : st.length < 1999) (he : e ≤ 1) (htop : C 29 0 = ((st.length + e : Nat) : Int)) (hx : e = 1 → C 33 (st.length + 1) = (f : Int) ∧ C 34 (st.length + 1) = 0) (hf : zb_isF H f) (he0 : e = 0 → f = 0)
    (zb_r53 : R 45 53 = (zb_tt st : Int)) (zb_r51 : R 45 51 = ((zb_bb st + xs : Nat) : Int)) (hxs : xs ≤ 9) (hxo : ∀ j, zb_bb st ≤ j → j < zb_bb st + xs → R 77 j < 0 ∨ eb_lshr (R 77 j) 32 ≠ 6) (r62 : R 45 62 = zb_frm H f) (hq : zb_QB C R H bn) (h67 : 100 ≤ R 45 67) :
    ∃ (C' R' : eM) (H' : zb_Hp) (rl' ql' : List (Nat × Nat)), fn_132 B.2.2.1 (B.2.2.1 / 3 + 1) C = some C' ∧ fn_197 R = some (1, R') ∧ zb_GS B C' R' H' rl' ql' fd ∧ zb_STR C' R' H' B.2.2.2.1 st ∧ (zb_isF H' f ∧ zb_frm H' f = zb_frm H f) ∧ (∀ g i, g ∈ zb_hO H → i < 32 → C 36 i = 17179869184 + (g : Int) → zb_TRg H H' g) ∧ zb_CLC C C' ∧ zb_CLRf R R' ∧ (∀ g, g ∈ zb_hO H' → g ∈ zb_hO H ∧ zb_hK H' g = zb_hK H g ∧ zb_hP H' g = zb_hP H g ∧ zb_hZ H' g = zb_hZ H g) ∧ (∀ g, g ∈ zb_hO H → zb_RTS C st.length g → zb_TRg H H' g)
      ∧ (∀ h i, h ∈ zb_hO H' → zb_hK H h ≤ 4 → i < zb_hZ H h → zb_cl C' H' h i = zb_cl C H h i) := by
  obtain ⟨hN, n1, n2⟩ := zb_gs_N g
  obtain ⟨g1, g2, g3, ⟨L, B', g4⟩, g5, g6, g7, g8, g9⟩ := g
  have hv := zb_str_val g1 hN hs
  have hfc := zb_frm_cv g1 hf
  obtain ⟨q1, ⟨q2, q3, q4, q5⟩, q6⟩ := hq
  have htb := zb_tt_le (l := st)
  have hbb := zb_bb_le hs
  have zb_rv : zb_RV0 C H B.2.2.2.1 (st.length + e) := by
    refine ⟨⟨htop, by omega⟩, fun i i1 i2 => ?_, q1, n1, hN, fun n hn => ?_⟩
    · by_cases hi : i ≤ st.length
      · exact hv.1 i i1 hi
      · have h9 : e = 1 ∧ i = st.length + 1 := by omega
        obtain ⟨x1, x2⟩ := hx h9.1
        rw [h9.2, x1]
        exact ⟨hfc.1, 0, by omega, x2, fun j hj => by omega⟩
    · rcases g5 n (by omega) with ⟨_, z⟩ | ⟨z, _⟩
      · exact (zb_vr_cv g1 hN z).1
      · rw [z]; exact Or.inr ⟨by decide, fun g _ => by omega⟩
  have rr : zb_RR0 R H (zb_bb st + xs) (zb_tt st) bn B.2.2.2.1 := by
    refine ⟨⟨zb_r51, by omega, fun i hi => ?_⟩, ⟨zb_r53, by omega, hv.2.2⟩, ⟨q2, q3, q4⟩, ⟨by rw [r62]; exact hfc.2, q5⟩, n2, hN, fun n hn => ?_⟩
    · by_cases hi2 : i < zb_bb st
      · exact hv.2.1 i hi2
      · exact Or.inr (hxo i (by omega) hi)
    · rcases g5 n (by omega) with ⟨_, z⟩ | ⟨_, z⟩
      · exact (zb_vr_cv g1 hN z).2
      · rw [z]; exact Or.inr (Or.inl (by decide))
  have hal : ∀ g, g ∈ zb_hO H → (zb_RT0C C B.2.2.2.1 (st.length + e) g ↔ zb_RT0R R H (zb_bb st + xs) (zb_tt st) bn B.2.2.2.1 g) := by
    intro g hg
    have hro := zb_str_roots g1 hN hg hs
    have hgl : (∃ n, n < B.2.2.2.1 ∧ C 37 n = 17179869184 + (g : Int)) ↔ (∃ n, n < B.2.2.2.1 ∧ R 72 n = zb_ov (zb_hP H g)) := by
      constructor
      · rintro ⟨n, a, b⟩
        refine ⟨n, a, ?_⟩
        rcases g5 n (by omega) with ⟨_, z⟩ | ⟨z, _⟩
        · exact (zb_vr_iff g1 hN z hg).mp b
        · have := zb_hr_h g1 hg; omega
      · rintro ⟨n, a, b⟩
        refine ⟨n, a, ?_⟩
        rcases g5 n (by omega) with ⟨_, z⟩ | ⟨_, z⟩
        · exact (zb_vr_iff g1 hN z hg).mpr b
        · rw [z] at b; unfold zb_ov at b; omega
    have hgb := zb_hr_h g1 hg
    constructor
    · intro h
      rcases h with ⟨i, i1, i2, i3⟩ | ⟨i, j, i1, i2, i3, i4⟩ | h | h
      · by_cases hi : i ≤ st.length
        · rcases hro.mp (Or.inl ⟨i, i1, hi, i3⟩) with z | ⟨j, z1, z2⟩
          · exact Or.inr (Or.inl z)
          · exact Or.inl ⟨j, by omega, z2⟩
        · have h9 : e = 1 ∧ i = st.length + 1 := by omega
          obtain ⟨x1, x2⟩ := hx h9.1
          rw [h9.2, x1] at i3
          refine Or.inr (Or.inr (Or.inr (Or.inl (Or.inl ?_))))
          rw [r62]; exact (zb_frm_iff g1 hf hg).mp i3
      · by_cases hi : i ≤ st.length
        · rcases hro.mp (Or.inr ⟨i, j, i1, hi, i3, i4⟩) with z | ⟨j, z1, z2⟩
          · exact Or.inr (Or.inl z)
          · exact Or.inl ⟨j, by omega, z2⟩
        · have h9 : e = 1 ∧ i = st.length + 1 := by omega
          obtain ⟨x1, x2⟩ := hx h9.1
          rw [h9.2, x2] at i3
          omega
      · rcases (q6 g hg).mp h with z | z
        · exact Or.inr (Or.inr (Or.inl z))
        · exact Or.inr (Or.inr (Or.inr (Or.inl (Or.inr z))))
      · exact Or.inr (Or.inr (Or.inr (Or.inr (hgl.mp h))))
    · intro h
      have old : zb_RTS C st.length g → zb_RT0C C B.2.2.2.1 (st.length + e) g := by
        intro h
        rcases h with ⟨i, a, b, c⟩ | ⟨i, j, a, b, c, d⟩
        · exact Or.inl ⟨i, a, by omega, c⟩
        · exact Or.inr (Or.inl ⟨i, j, a, by omega, c, d⟩)
      rcases h with h | h | h | h | h
      · obtain ⟨j, z1, z2⟩ := h
        by_cases hj : j < zb_bb st
        · exact old (hro.mpr (Or.inr ⟨j, hj, z2⟩))
        · exfalso
          have h1 := hxo j (by omega) z1
          have h2 := zb_hr_p g1 hg
          have h3 : eb_lshr (zb_ov (zb_hP H g)) 32 = 6 := zb_sh32 (by unfold zb_ov; omega) (by unfold zb_ov; omega)
          rw [z2, h3] at h1
          unfold zb_ov at h1; omega
      · exact old (hro.mpr (Or.inl h))
      · exact Or.inr (Or.inr (Or.inl ((q6 g hg).mpr (Or.inl h))))
      · rcases h with h | h
        · rw [r62] at h
          have hfg := (zb_frm_iff g1 hf hg).mpr h
          have h1 : e = 1 := by
            by_cases h0 : e = 0
            · have := he0 h0; omega
            · omega
          exact Or.inl ⟨st.length + 1, by omega, by omega, by rw [(hx h1).1]; exact hfg⟩
        · exact Or.inr (Or.inr (Or.inl ((q6 g hg).mpr (Or.inr h))))
      · exact Or.inr (Or.inr (Or.inr (hgl.mpr h)))
  obtain ⟨C', R', H', rl', ql', k1, k2, k3, k4, k5, k6, k7, k8, k9, k10, k11, k12, k13, k14, k15, k16, k17, k18⟩ := zb_collect g1 hN g2 g6.1 zb_rv rr hal h67
  have trg : ∀ g, g ∈ zb_hO H → zb_RT0C C B.2.2.2.1 (st.length + e) g → zb_TRg H H' g := fun g a b => ⟨k9 g a b, (k7 g).1, (k7 g).2.2⟩
  have rts : ∀ g, g ∈ zb_hO H → zb_RTS C st.length g → zb_TRg H H' g := by
    intro g hg h
    refine trg g hg ?_
    rcases h with ⟨i, a, b, c⟩ | ⟨i, j, a, b, c, d⟩
    · exact Or.inl ⟨i, a, by omega, c⟩
    · exact Or.inr (Or.inl ⟨i, j, a, by omega, c, d⟩)
  refine ⟨C', R', H', rl', ql', k1, k2, ⟨k3, k4, zb_rows_congr g3 (fun c hc => k14 c (by revert hc; simp; omega)) (fun c hc => k18 c (by revert hc; simp; omega)), ⟨L, B', zb_nm_congr g4 (k14 1 (by decide)) (k14 2 (by decide)) (k14 3 (by decide)) (k17 7 (by decide)) (k18 47 (by decide)) (k18 48 (by decide))⟩, fun n hn => ?_, ⟨by rw [k12 11 (by decide) (by decide)]; exact g6.1, by rw [k11, k16, g6.2]⟩, zb_out_congr g7 (k14 26 (by decide)) (k14 27 (by decide)) (k17 72 (by decide)) (k18 86 (by decide)), fun x hx => ?_, by rw [k13 10 (by decide) (by decide) (by decide)]; exact g9.1, fun h hh => by rw [k13 10 (by decide) (by decide) (by decide), k14 20 (by decide)]; exact g9.2 h (k8 h hh)⟩,
    zb_str_tr hs (fun i _ _ => by rw [k14 33 (by decide), k14 34 (by decide), k14 35 (by decide)]; exact ⟨rfl, rfl, fun _ _ => rfl⟩) (fun t _ => by rw [k18 81 (by decide), k18 82 (by decide)]; exact ⟨rfl, rfl⟩) (fun b _ => by rw [k18 77 (by decide)]) rts, zb_frm_tr hf (fun hm => trg f hm ?_), fun g i a b c => trg g a (Or.inr (Or.inr (Or.inl ⟨i, b, c⟩))), ⟨k13, k14⟩, ⟨k15, k17, k18⟩, fun g hg => ⟨k8 g hg, (k7 g).1, (k7 g).2.2, (k7 g).2.1⟩, rts, k10⟩
  · rw [k14 37 (by decide), k18 72 (by decide)]
    rcases g5 n hn with ⟨hnN, z⟩ | z
    · exact Or.inl ⟨hnN, zb_vr_tr z (fun g a b => trg g a (Or.inr (Or.inr (Or.inr ⟨n, hnN, b⟩))))⟩
    · exact Or.inr z
  · obtain ⟨z1, d, z2, z3⟩ := g8 x (k5 x hx)
    have hx2 := (k4.2.2.2.2.2 x hx).2.1
    have hz := (zb_hr_ob g1 (k8 _ hx2)).2.2.2.1
    refine ⟨by rw [(k7 _).1]; exact z1, d, ?_, z3⟩
    rw [k10 _ 1 hx2 (by omega) (by unfold zb_szk at hz; omega)]; exact z2
  · have hf0 := zb_hr_h g1 hm
    have h1 : e = 1 := by
      by_cases h0 : e = 0
      · have := he0 h0; omega
      · omega
    exact Or.inl ⟨st.length + 1, by omega, by omega, (hx h1).1⟩
