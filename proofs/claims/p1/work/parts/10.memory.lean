/-! THE BRIDGE, memory -/
section EGM
variable {sc : eg_Sc} {vq : Value} {p : Program} {l : Launch} {e : Env} {R : Room} {s : State} {m : MethodId} {args : Array Value} {below : List Frame} {meth : Method} {c : Code} {Q : State → Prop} {A : Nat → Prop} {D : va_G} {cc : ByteArray} {nL o n0 : Nat} {ini : Bool} {ad0 ad : Nat → Nat} {cA : Nat → ClassId} {h : eg_H} {lv : eg_L} {st : List eg_V} {H : Heap} {locs : List Loc} {ls : Array Slot} {K : eg_K} {P : List (Nat × Instr)} {pc i cz sz : Nat}
/-- numbers were written into cell a -/
theorem eg_St.M {a : Nat} {M : Nat → Nat → Int} {st' : List eg_V} {H1 : Heap} {locs1 : List Loc} (S : eg_St sc vq s A D nL ad0 n0 ad cA h lv st H locs ls) (hs : ∀ v ∈ st', eg_okV h.1.length v) (hM : ∀ b, b ≠ a → M b = h.2.2 b)
    (hr1 : ∀ (ty : FieldType) (n : Nat), h.1[a]? = some (.inl (ty, n)) → ∀ k, eg_rg ty (M a k)) (hr2 : ∀ ci : Nat, h.1[a]? = some (.inr ci) → ∀ k, k < eg_nf ci → eg_rg (eg_fty (1000 * ci + k)) (M a k))
    (hP : va_P D eg_cl (eg_w ad cA (h.1, h.2.1, M)) H1) (hD : va_D A (eg_w ad cA (h.1, h.2.1, M))) (hS : va_S A s.heap H1 locs1) : eg_St sc vq s A D nL ad0 n0 ad cA (h.1, h.2.1, M) lv st' H1 locs1 ls := by
  obtain ⟨g1, g2, g3, g4, g5, g6, g7, g8, g9, g10, g11⟩ := S
  refine ⟨hP, hD, hS, g4, g5, ⟨fun b ty n hb => ?_, fun b ci hb k hk => ?_, g6.2.2.1, g6.2.2.2⟩, g7, hs, g9, g10, g11⟩
  · by_cases e : b = a
    · subst e; exact ⟨(g6.1 b ty n hb).1, (g6.1 b ty n hb).2.1, hr1 ty n hb⟩
    · refine ⟨(g6.1 b ty n hb).1, (g6.1 b ty n hb).2.1, fun k => ?_⟩
      show eg_rg ty (M b k)
      rw [hM b e]; exact (g6.1 b ty n hb).2.2 k
  · by_cases e : b = a
    · subst e; exact hr2 ci hb k hk
    · show eg_rg _ (M b k)
      rw [hM b e]; exact g6.2.1 b ci hb k hk
theorem eg_St.Rf {a k b : Nat} {st' : List eg_V} {H1 : Heap} {locs1 : List Loc} (S : eg_St sc vq s A D nL ad0 n0 ad cA h lv st H locs ls) (hs : ∀ v ∈ st', eg_okV h.1.length v) (hb : b < h.1.length ∨ 1000000 ≤ b)
    (hP : va_P D eg_cl (eg_w ad cA (h.1, eg_u h.2.1 a k (some b), h.2.2)) H1) (hD : va_D A (eg_w ad cA (h.1, eg_u h.2.1 a k (some b), h.2.2))) (hS : va_S A s.heap H1 locs1) : eg_St sc vq s A D nL ad0 n0 ad cA (h.1, eg_u h.2.1 a k (some b), h.2.2) lv st' H1 locs1 ls := by
  obtain ⟨g1, g2, g3, g4, g5, g6, g7, g8, g9, g10, g11⟩ := S
  refine ⟨hP, hD, hS, g4, g5, ⟨g6.1, g6.2.1, fun x j y hy => ?_, g6.2.2.2⟩, g7, hs, g9, g10, g11⟩
  have hy' : eg_u h.2.1 a k (some b) x j = some y := hy
  unfold eg_u at hy'
  split at hy'
  · cases hy'; exact hb
  · exact g6.2.2.1 x j y hy'
theorem eg_cl_of {ci : Nat} (h : ci < 12) : ∃ q : vw_C, eg_cl[ci]? = some q ∧ q.2.2 = eg_nf ci ∧ eg_Tof ci = q.2.1 := by
  have hl : ci < eg_cl.length := h
  refine ⟨eg_cl[ci], List.getElem?_eq_getElem hl, ?_, ?_⟩
  · unfold eg_nf; rw [List.getElem?_eq_getElem hl]; rfl
  · unfold eg_Tof; rw [List.getElem?_eq_getElem hl]; rfl
theorem eg_nf_lt {ci k : Nat} (h : k < eg_nf ci) : ci < 12 := by
  by_cases hc : ci < 12
  · exact hc
  · unfold eg_nf at h
    rw [List.getElem?_eq_none (by show 12 ≤ ci; omega)] at h
    exact absurd h (Nat.not_lt_zero _)
/-- what the tables say of each own class -/
theorem eg_cls {ci : Nat} {q : vw_C} (hq : eg_cl[ci]? = some q) : (∀ w ∈ u_ws q.1 q.2.1 q.2.2, w ∈ eg_gw) ∧ (∀ k, k < q.2.2 → parseFieldDescriptor (q.2.1 k).2.2.1 = some (eg_fty (1000 * ci + k))) ∧ (∀ a, a < q.2.2 → ∀ b, b < q.2.2 → a ≠ b → (q.2.1 a).2.1 ≠ (q.2.1 b).2.1) := by
  have lay : ∀ {C : String} {T : u_T} {N : Nat}, (∀ w ∈ u_ws C T N, w ∈ lw_tbl) → ∀ w ∈ u_ws C T N, w ∈ eg_gw := by
    intro C T N hw w h1
    refine eg_gw_in (hw w h1) ?_
    obtain ⟨k, -, rfl⟩ := List.mem_map.mp h1
    unfold u_lay
    split <;> rfl
  have ty : ∀ {ci N : Nat} {T : u_T} {t : Nat → FieldType}, N ≤ 1000 → (∀ k, k < N → parseFieldDescriptor (T k).2.2.1 = some (t k)) → (∀ k, k < 1000 → eg_fty (1000 * ci + k) = t k) → ∀ k, k < N → parseFieldDescriptor (T k).2.2.1 = some (eg_fty (1000 * ci + k)) := fun hN h1 h2 k hk => by rw [h2 k (by omega)]; exact h1 k hk
  match ci, hq with
  | 0, hq => cases hq; exact ⟨lay i_0, ty (by decide) t_0_ok (fun k hk => by unfold eg_fty; rw [(eg_div1000 hk).1, (eg_div1000 hk).2]; rfl), n_0⟩
  | 1, hq => cases hq; exact ⟨lay i_1, ty (by decide) t_1_ok (fun k hk => by unfold eg_fty; rw [(eg_div1000 hk).1, (eg_div1000 hk).2]; rfl), n_1⟩
  | 2, hq => cases hq; exact ⟨lay i_2, ty (by decide) t_2_ok (fun k hk => by unfold eg_fty; rw [(eg_div1000 hk).1, (eg_div1000 hk).2]; rfl), n_2⟩
  | 3, hq => cases hq; exact ⟨lay i_3, ty (by decide) t_3_ok (fun k hk => by unfold eg_fty; rw [(eg_div1000 hk).1, (eg_div1000 hk).2]; rfl), n_3⟩
  | 4, hq => cases hq; exact ⟨lay i_4, ty (by decide) t_4_ok (fun k hk => by unfold eg_fty; rw [(eg_div1000 hk).1, (eg_div1000 hk).2]; rfl), n_4⟩
  | 5, hq => cases hq; exact ⟨lay i_5, ty (by decide) t_5_ok (fun k hk => by unfold eg_fty; rw [(eg_div1000 hk).1, (eg_div1000 hk).2]; rfl), n_5⟩
  | 6, hq => cases hq; exact ⟨lay i_6, ty (by decide) t_6_ok (fun k hk => by unfold eg_fty; rw [(eg_div1000 hk).1, (eg_div1000 hk).2]; rfl), n_6⟩
  | 7, hq => cases hq; exact ⟨lay i_7, ty (by decide) t_7_ok (fun k hk => by unfold eg_fty; rw [(eg_div1000 hk).1, (eg_div1000 hk).2]; rfl), n_7⟩
  | 8, hq => cases hq; exact ⟨lay i_8, ty (by decide) t_8_ok (fun k hk => by unfold eg_fty; rw [(eg_div1000 hk).1, (eg_div1000 hk).2]; rfl), n_8⟩
  | 9, hq => cases hq; exact ⟨lay i_9, ty (by decide) t_9_ok (fun k hk => by unfold eg_fty; rw [(eg_div1000 hk).1, (eg_div1000 hk).2]; rfl), n_9⟩
  | 10, hq => cases hq; exact ⟨lay i_10, ty (by decide) t_10_ok (fun k hk => by unfold eg_fty; rw [(eg_div1000 hk).1, (eg_div1000 hk).2]; rfl), n_10⟩
  | 11, hq => cases hq; exact ⟨lay i_11, ty (by decide) t_11_ok (fun k hk => by unfold eg_fty; rw [(eg_div1000 hk).1, (eg_div1000 hk).2]; rfl), n_11⟩
  | n + 12, hq => exact absurd (List.getElem?_eq_some_iff.mp hq).1 (by show ¬ n + 12 < 12; omega)
theorem eg_fq (q : Nat) : 1000 * (q / 1000) + q % 1000 = q := Nat.div_add_mod q 1000
theorem eg_rget {f : Nat → Value} {n k : Nat} (hk : k < n) : ((List.range n).map f)[k]? = some (f k) := by simp [hk]
/-- a field's value as the pure machine has it -/
theorem eg_gf_of {a q : Nat} {K : eg_V → Prop} (hg : eg_gf h a q K) (hok : eg_okH h) (hk : q % 1000 < eg_nf (q / 1000)) : h.1[a]? = some (.inr (q / 1000)) ∧ ∃ v, eg_ev ad vq v = eg_fv ad (eg_fty q) (h.2.1 a (q % 1000)) (h.2.2 a (q % 1000)) ∧ eg_okV h.1.length v ∧ K v := by
  unfold eg_gf at hg
  split at hg
  · rename_i ci hci
    obtain ⟨rfl, hg⟩ := hg
    refine ⟨hci, ?_⟩
    have hr := hok.2.1 a _ hci (q % 1000) hk
    rw [eg_fq] at hr
    generalize eg_fty q = ty at hg hr ⊢
    cases ty <;> first
      | exact ⟨_, rfl, hr, hg⟩
      | (refine ⟨_, rfl, ?_, hg⟩; show _ ∧ _; have : _ ∧ _ := hr; omega)
      | (try dsimp only at hg
         split at hg
         · rename_i b hb
           exact ⟨.inr (.inr (some b)), (by rw [hb]; rfl), hok.2.2.1 _ _ _ hb, hg⟩
         · exact hg.elim)
      | exact hg.elim
  · exact hg.elim
theorem eg_c_getfield (F : eg_Fr p R s m args meth c A D cc nL o ini) (S : eg_St sc vq s A D nL ad0 n0 ad cA h lv st H locs ls) (k : eg_Kt K P sc vq s A D nL ad0 n0 p l e R m args below meth c Q) {q n : Nat} (hk : q % 1000 < eg_nf (q / 1000)) (hw : Cond.fieldLink (eg_on.getD o "") n (eg_Tof (q / 1000) (q % 1000)).1 (eg_Tof (q / 1000) (q % 1000)).2.1 (eg_Tof (q / 1000) (q % 1000)).2.2.1 ∈ eg_gw)
    (hd : decode cc pc = .ok (.getfield n, 3)) (hn : eg_pc P (i + 1) = some (pc + 3)) (hi : eg_pr st fun a st => eg_gf h a q fun v => K (i + 1) lv (v :: st) h cz sz) : W p l e R s m args below meth c H locs cz sz Q (F0 m pc ls (st.map (eg_ev ad vq))) := by
  obtain ⟨a, r, rfl, g0⟩ := eg_pr_of hi
  obtain ⟨ha, v, hv, hok, hi⟩ := eg_gf_of (ad := ad) (vq := vq) g0 S.2.2.2.2.2.1 hk
  obtain ⟨-, hs⟩ := List.forall_mem_cons.mp S.sok
  obtain ⟨⟨C, T, N⟩, hq, hN, hT⟩ := eg_cl_of (eg_nf_lt hk)
  dsimp only at hN hT
  subst hN
  rw [hT] at hw
  refine va_get (D := D) (cl := eg_cl) (C := C) (T := T) (N := eg_nf (q / 1000)) (ci := q / 1000) F.1 F.2.1 F.2.2.2.2.1 (eg_cls hq).1 F.2.2.2.1 (eg_K0 F) S.1 a (eg_w_at ha) hq (q % 1000) hk (F.2.2.2.2.1 _ hw) (fun _ h9 => h9) (v := eg_ev ad vq v) (by rw [hv, eg_rget hk, eg_fq]) hd ?_
  exact eg_go (lv' := lv) k hi hn S (List.forall_mem_cons.mpr ⟨hok, hs⟩)
theorem eg_pf_of {a q : Nat} {v : eg_V} {K : eg_H → Prop} (hg : eg_pf1 h a q v K) (hv : eg_okV h.1.length v) : h.1[a]? = some (.inr (q / 1000)) ∧ narrow (eg_fty q) (eg_ev ad vq v) = eg_ev ad vq v ∧ fits (eg_fty q) (eg_ev ad vq v) = true ∧
    ((∃ x, eg_rg (eg_fty q) x ∧ (∀ r, eg_fv ad (eg_fty q) r x = eg_ev ad vq v) ∧ K (h.1, h.2.1, eg_u h.2.2 a (q % 1000) x)) ∨ (∃ b, (b < h.1.length ∨ 1000000 ≤ b) ∧ (∀ x, eg_fv ad (eg_fty q) (some b) x = eg_ev ad vq v) ∧ K (h.1, eg_u h.2.1 a (q % 1000) (some b), h.2.2))) := by
  unfold eg_pf1 at hg
  split at hg
  · rename_i ci hci
    obtain ⟨rfl, hg⟩ := hg
    refine ⟨hci, ?_⟩
    generalize eg_fty q = ty at hg ⊢
    split at hg
    · exact ⟨rfl, rfl, Or.inl ⟨_, hv, fun _ => rfl, hg⟩⟩
    · exact ⟨rfl, rfl, Or.inl ⟨_, hv, fun _ => rfl, hg⟩⟩
    · refine ⟨eg_narZ hg.1, eg_fitZ hg.1, Or.inl ⟨_, ?_, fun _ => rfl, hg.2⟩⟩
      show _ ∧ _
      rcases hg.1 with e | e <;> omega
    · exact ⟨rfl, rfl, Or.inr ⟨_, hv, fun _ => rfl, hg⟩⟩
    · exact ⟨rfl, rfl, Or.inr ⟨_, hv, fun _ => rfl, hg⟩⟩
    · exact hg.elim
  · exact hg.elim
theorem eg_c_putfield (F : eg_Fr p R s m args meth c A D cc nL o ini) (S : eg_St sc vq s A D nL ad0 n0 ad cA h lv st H locs ls) (k : eg_Kt K P sc vq s A D nL ad0 n0 p l e R m args below meth c Q) {q n : Nat} (hk : q % 1000 < eg_nf (q / 1000)) (hw : Cond.fieldLink (eg_on.getD o "") n (eg_Tof (q / 1000) (q % 1000)).1 (eg_Tof (q / 1000) (q % 1000)).2.1 (eg_Tof (q / 1000) (q % 1000)).2.2.1 ∈ eg_gw)
    (hf : eg_fin q = false ∨ (ini = true ∧ (eg_Tof (q / 1000) (q % 1000)).1 = eg_on.getD o "")) (hd : decode cc pc = .ok (.putfield n, 3)) (hn : eg_pc P (i + 1) = some (pc + 3)) (hi : (match st with
      | v :: st => eg_pr st fun a st => eg_pf1 h a q v fun h' => K (i + 1) lv st h' cz sz
      | [] => False)) : W p l e R s m args below meth c H locs cz sz Q (F0 m pc ls (st.map (eg_ev ad vq))) := by
  cases st with
  | nil => exact hi.elim
  | cons v r =>
    obtain ⟨a, r2, rfl, g0⟩ := eg_pr_of hi
    obtain ⟨hv, hs⟩ := List.forall_mem_cons.mp S.sok
    obtain ⟨-, hs⟩ := List.forall_mem_cons.mp hs
    obtain ⟨ha, hnar, hfit, hor⟩ := eg_pf_of (ad := ad) (vq := vq) g0 hv
    obtain ⟨⟨C, T, N⟩, hq, hN, hT⟩ := eg_cl_of (eg_nf_lt hk)
    dsimp only at hN hT
    subst hN
    rw [hT] at hw hf
    have hfin : eg_fin q = (T (q % 1000)).2.2.2 := by unfold eg_fin; rw [hT]
    have hty := (eg_cls hq).2.1 (q % 1000) hk
    rw [eg_fq] at hty
    have kk : ∀ (H1 : Heap) (locs1 : List Loc), va_P D eg_cl ((eg_w ad cA h).set a (ad a, .inr (q / 1000, ((List.range (eg_nf (q / 1000))).map (fun k => eg_fv ad (eg_fty (1000 * (q / 1000) + k)) (h.2.1 a k) (h.2.2 a k))).set (q % 1000) (eg_ev ad vq v)))) H1 → va_D A ((eg_w ad cA h).set a (ad a, .inr (q / 1000, ((List.range (eg_nf (q / 1000))).map (fun k => eg_fv ad (eg_fty (1000 * (q / 1000) + k)) (h.2.1 a k) (h.2.2 a k))).set (q % 1000) (eg_ev ad vq v)))) → va_S A s.heap H1 locs1 →
        W p l e R s m args below meth c H1 locs1 cz sz Q (F0 m (pc + 3) ls (r2.map (eg_ev ad vq))) := by
      intro H1 locs1 hP hD hS
      rcases hor with ⟨x, hr, hx, hi⟩ | ⟨b, hb, hx, hi⟩
      · have e : eg_w ad cA (h.1, h.2.1, eg_u h.2.2 a (q % 1000) x) = _ := eg_w_fM ha
        rw [eg_fq, hx] at e
        rw [← e] at hP hD
        refine k _ _ _ _ _ _ _ hi hn _ _ _ _ _ (S.M hs (fun b hb => eg_u_ne hb) (fun ty n h1 => absurd (h1.symm.trans ha) (by simp)) (fun ci h1 j hj => ?_) hP hD hS)
        have : ci = q / 1000 := Sum.inr.inj (Option.some.inj (h1.symm.trans ha))
        subst this
        rw [eg_u_at]
        split
        · rename_i hjq; rw [hjq, eg_fq]; exact hr
        · exact S.2.2.2.2.2.1.2.1 a _ ha j hj
      · have e : eg_w ad cA (h.1, eg_u h.2.1 a (q % 1000) (some b), h.2.2) = _ := eg_w_fR ha
        rw [eg_fq, hx] at e
        rw [← e] at hP hD
        exact k _ _ _ _ _ _ _ hi hn _ _ _ _ _ (S.Rf hs hb hP hD hS)
    have hl : q % 1000 < ((List.range (eg_nf (q / 1000))).map (fun k => eg_fv ad (eg_fty (1000 * (q / 1000) + k)) (h.2.1 a k) (h.2.2 a k))).length := by simpa using hk
    cases hb : (T (q % 1000)).2.2.2 with
    | false => exact va_put (D := D) (cl := eg_cl) (C := C) (T := T) (N := eg_nf (q / 1000)) (ci := q / 1000) F.1 F.2.1 F.2.2.2.2.1 (eg_cls hq).1 (fun k => eg_fty (1000 * (q / 1000) + k)) (eg_cls hq).2.1 (eg_cls hq).2.2 F.2.2.2.1 (eg_K0 F) S.1 S.2.1 S.2.2.1 a (eg_w_at ha) hq (q % 1000) hk (F.2.2.2.2.1 _ hw) (fun _ h9 => h9) hb hty hnar hfit hl hd kk
    | true =>
      rcases hf with hf | hf
      · rw [hfin, hb] at hf; cases hf
      · exact va_putF (D := D) (cl := eg_cl) (C := C) (T := T) (N := eg_nf (q / 1000)) (ci := q / 1000) F.1 F.2.1 F.2.2.2.2.1 (eg_cls hq).1 (fun k => eg_fty (1000 * (q / 1000) + k)) (eg_cls hq).2.1 (eg_cls hq).2.2 F.2.2.2.1 (eg_K0 F) S.1 S.2.1 S.2.2.1 a (eg_w_at ha) hq (q % 1000) hk (F.2.2.2.2.1 _ hw) (fun _ h9 => h9) hb (F.2.2.2.2.2.2.2.2.2.1 hf.1) hf.2 hty hnar hfit hl hd kk
/-- an element of a world's array, or of a static one -/
theorem eg_al_of {a : Nat} {x : Int} {K : FieldType → eg_V → Prop} (hg : eg_al sc h a x K) : (∃ (ty : FieldType) (n : Nat), h.1[a]? = some (.inl (ty, n)) ∧ 0 ≤ x ∧ x < (n : Int) ∧ K ty (match ty with | .long => .inr (.inl (h.2.2 a x.toNat)) | _ => .inl (h.2.2 a x.toNat))) ∨
    ∃ (ty : FieldType) (n : Nat) (f : Nat → eg_V), eg_sa sc a = some (ty, n, f) ∧ 0 ≤ x ∧ x < (n : Int) ∧ K ty (f x.toNat) := by
  unfold eg_al at hg
  split at hg
  · exact Or.inl ⟨_, _, by assumption, hg⟩
  · exact hg.elim
  · split at hg
    · exact Or.inr ⟨_, _, _, by assumption, hg⟩
    · exact hg.elim
theorem eg_as_of {a : Nat} {x : Int} {K : FieldType → Prop} (hg : eg_as h a x K) : ∃ (ty : FieldType) (n : Nat), h.1[a]? = some (.inl (ty, n)) ∧ 0 ≤ x ∧ x < (n : Int) ∧ K ty := by
  unfold eg_as at hg
  split at hg
  · exact ⟨_, _, by assumption, hg⟩
  · exact hg.elim
theorem eg_c_iaload (F : eg_Fr p R s m args meth c A D cc nL o ini) (S : eg_St sc vq s A D nL ad0 n0 ad cA h lv st H locs ls) (k : eg_Kt K P sc vq s A D nL ad0 n0 p l e R m args below meth c Q) (hd : decode cc pc = .ok (.iaload, 1)) (hn : eg_pc P (i + 1) = some (pc + 1)) (hi : eg_pi st fun x st => eg_pr st fun a st => eg_al sc h a x fun ty v => (match ty with
      | .int => K (i + 1) lv (v :: st) h cz sz
      | _ => False)) : W p l e R s m args below meth c H locs cz sz Q (F0 m pc ls (st.map (eg_ev ad vq))) := by
  obtain ⟨x, r0, rfl, g0⟩ := eg_pi_of hi
  obtain ⟨a, r1, rfl, g1⟩ := eg_pr_of g0
  obtain ⟨hx, hs⟩ := List.forall_mem_cons.mp S.sok
  obtain ⟨-, hs⟩ := List.forall_mem_cons.mp hs
  rcases eg_al_of g1 with ⟨ty, n, ha, h0, h1, hi⟩ | ⟨ty, n, f, ha, h0, h1, hi⟩
  · have hn2 := (S.2.2.2.2.2.1.1 a ty n ha).2.1
    have hr := (S.2.2.2.2.2.1.1 a ty n ha).2.2 x.toNat
    have hin := eg_in32 h0 h1 hn2
    cases ty <;> first
      | exact va_iald F.1 F.2.1 (eg_K1 F S.2.2.2.2.1 ha) S.1 a 0 (eg_w_at ha) rfl hin hd (by rw [eg_cl32 hx]; exact eg_go (lv' := lv) k hi hn S (List.forall_mem_cons.mpr ⟨hr, hs⟩))
      | exact hi.elim
  · obtain ⟨hT, hn2, hv⟩ := S.2.2.2.2.2.2.2.2.1.1 a ty n f ha
    have hin := eg_in32 h0 h1 hn2
    cases ty <;> first
      | exact va_ti F.1 F.2.1 hT S.2.2.1 hin (v := eg_ev ad vq (f x.toNat)) (by rw [eg_cl32 hx]) hd (eg_go (lv' := lv) k hi hn S (List.forall_mem_cons.mpr ⟨eg_okV_le (hv _) (Nat.zero_le _), hs⟩))
      | exact hi.elim
theorem eg_c_laload (F : eg_Fr p R s m args meth c A D cc nL o ini) (S : eg_St sc vq s A D nL ad0 n0 ad cA h lv st H locs ls) (k : eg_Kt K P sc vq s A D nL ad0 n0 p l e R m args below meth c Q) (hd : decode cc pc = .ok (.laload, 1)) (hn : eg_pc P (i + 1) = some (pc + 1)) (hi : eg_pi st fun x st => eg_pr st fun a st => eg_al sc h a x fun ty v => (match ty with
      | .long => K (i + 1) lv (v :: st) h cz sz
      | _ => False)) : W p l e R s m args below meth c H locs cz sz Q (F0 m pc ls (st.map (eg_ev ad vq))) := by
  obtain ⟨x, r0, rfl, g0⟩ := eg_pi_of hi
  obtain ⟨a, r1, rfl, g1⟩ := eg_pr_of g0
  obtain ⟨hx, hs⟩ := List.forall_mem_cons.mp S.sok
  obtain ⟨-, hs⟩ := List.forall_mem_cons.mp hs
  rcases eg_al_of g1 with ⟨ty, n, ha, h0, h1, hi⟩ | ⟨ty, n, f, ha, h0, h1, hi⟩
  · have hn2 := (S.2.2.2.2.2.1.1 a ty n ha).2.1
    have hr := (S.2.2.2.2.2.1.1 a ty n ha).2.2 x.toNat
    have hin := eg_in32 h0 h1 hn2
    cases ty <;> first
      | exact va_lald F.1 F.2.1 (eg_K1 F S.2.2.2.2.1 ha) S.1 a 0 (eg_w_at ha) rfl hin hd (by rw [eg_cl32 hx]; exact eg_go (lv' := lv) k hi hn S (List.forall_mem_cons.mpr ⟨hr, hs⟩))
      | exact hi.elim
  · obtain ⟨hT, hn2, hv⟩ := S.2.2.2.2.2.2.2.2.1.1 a ty n f ha
    have hin := eg_in32 h0 h1 hn2
    cases ty <;> first
      | exact va_tl F.1 F.2.1 hT S.2.2.1 hin (v := eg_ev ad vq (f x.toNat)) (by rw [eg_cl32 hx]) hd (eg_go (lv' := lv) k hi hn S (List.forall_mem_cons.mpr ⟨eg_okV_le (hv _) (Nat.zero_le _), hs⟩))
      | exact hi.elim
theorem eg_c_baload (F : eg_Fr p R s m args meth c A D cc nL o ini) (S : eg_St sc vq s A D nL ad0 n0 ad cA h lv st H locs ls) (k : eg_Kt K P sc vq s A D nL ad0 n0 p l e R m args below meth c Q) (hd : decode cc pc = .ok (.baload, 1)) (hn : eg_pc P (i + 1) = some (pc + 1)) (hi : eg_pi st fun x st => eg_pr st fun a st => eg_al sc h a x fun ty v => (match ty with
      | .byte => K (i + 1) lv (v :: st) h cz sz
      | .boolean => K (i + 1) lv (v :: st) h cz sz
      | _ => False)) : W p l e R s m args below meth c H locs cz sz Q (F0 m pc ls (st.map (eg_ev ad vq))) := by
  obtain ⟨x, r0, rfl, g0⟩ := eg_pi_of hi
  obtain ⟨a, r1, rfl, g1⟩ := eg_pr_of g0
  obtain ⟨hx, hs⟩ := List.forall_mem_cons.mp S.sok
  obtain ⟨-, hs⟩ := List.forall_mem_cons.mp hs
  rcases eg_al_of g1 with ⟨ty, n, ha, h0, h1, hi⟩ | ⟨ty, n, f, ha, h0, h1, hi⟩
  · have hn2 := (S.2.2.2.2.2.1.1 a ty n ha).2.1
    have hr := (S.2.2.2.2.2.1.1 a ty n ha).2.2 x.toNat
    have hin := eg_in32 h0 h1 hn2
    cases ty <;> first
      | exact va_bald F.1 F.2.1 (eg_K1 F S.2.2.2.2.1 ha) S.1 a 0 (eg_w_at ha) rfl hin hd (by rw [eg_cl32 hx]; exact eg_go (lv' := lv) k hi hn S (List.forall_mem_cons.mpr ⟨(by have hr2 : -128 ≤ h.2.2 a x.toNat ∧ h.2.2 a x.toNat < 128 := hr; show _ ∧ _; omega), hs⟩))
      | exact va_zald F.1 F.2.1 (eg_K1 F S.2.2.2.2.1 ha) S.1 a 0 (eg_w_at ha) rfl hin hd (by rw [eg_cl32 hx]; exact eg_go (lv' := lv) k hi hn S (List.forall_mem_cons.mpr ⟨(by have hr2 : 0 ≤ h.2.2 a x.toNat ∧ h.2.2 a x.toNat < 2 := hr; show _ ∧ _; omega), hs⟩))
      | exact hi.elim
  · obtain ⟨hT, hn2, hv⟩ := S.2.2.2.2.2.2.2.2.1.1 a ty n f ha
    have hin := eg_in32 h0 h1 hn2
    cases ty <;> first
      | exact va_tb F.1 F.2.1 hT S.2.2.1 hin (v := eg_ev ad vq (f x.toNat)) (by rw [eg_cl32 hx]) hd (eg_go (lv' := lv) k hi hn S (List.forall_mem_cons.mpr ⟨eg_okV_le (hv _) (Nat.zero_le _), hs⟩))
      | exact va_tz F.1 F.2.1 hT S.2.2.1 hin (v := eg_ev ad vq (f x.toNat)) (by rw [eg_cl32 hx]) hd (eg_go (lv' := lv) k hi hn S (List.forall_mem_cons.mpr ⟨eg_okV_le (hv _) (Nat.zero_le _), hs⟩))
      | exact hi.elim
theorem eg_c_saload (F : eg_Fr p R s m args meth c A D cc nL o ini) (S : eg_St sc vq s A D nL ad0 n0 ad cA h lv st H locs ls) (k : eg_Kt K P sc vq s A D nL ad0 n0 p l e R m args below meth c Q) (hd : decode cc pc = .ok (.saload, 1)) (hn : eg_pc P (i + 1) = some (pc + 1)) (hi : eg_pi st fun x st => eg_pr st fun a st => eg_al sc h a x fun ty v => (match ty with
      | .short => K (i + 1) lv (v :: st) h cz sz
      | _ => False)) : W p l e R s m args below meth c H locs cz sz Q (F0 m pc ls (st.map (eg_ev ad vq))) := by
  obtain ⟨x, r0, rfl, g0⟩ := eg_pi_of hi
  obtain ⟨a, r1, rfl, g1⟩ := eg_pr_of g0
  obtain ⟨hx, hs⟩ := List.forall_mem_cons.mp S.sok
  obtain ⟨-, hs⟩ := List.forall_mem_cons.mp hs
  rcases eg_al_of g1 with ⟨ty, n, ha, h0, h1, hi⟩ | ⟨ty, n, f, ha, h0, h1, hi⟩
  · have hn2 := (S.2.2.2.2.2.1.1 a ty n ha).2.1
    have hr := (S.2.2.2.2.2.1.1 a ty n ha).2.2 x.toNat
    have hin := eg_in32 h0 h1 hn2
    cases ty <;> first
      | exact va_sald F.1 F.2.1 (eg_K1 F S.2.2.2.2.1 ha) S.1 a 0 (eg_w_at ha) rfl hin hd (by rw [eg_cl32 hx]; exact eg_go (lv' := lv) k hi hn S (List.forall_mem_cons.mpr ⟨(by have hr2 : -32768 ≤ h.2.2 a x.toNat ∧ h.2.2 a x.toNat < 32768 := hr; show _ ∧ _; omega), hs⟩))
      | exact hi.elim
  · obtain ⟨hT, hn2, hv⟩ := S.2.2.2.2.2.2.2.2.1.1 a ty n f ha
    have hin := eg_in32 h0 h1 hn2
    cases ty <;> first
      | exact va_ts F.1 F.2.1 hT S.2.2.1 hin (v := eg_ev ad vq (f x.toNat)) (by rw [eg_cl32 hx]) hd (eg_go (lv' := lv) k hi hn S (List.forall_mem_cons.mpr ⟨eg_okV_le (hv _) (Nat.zero_le _), hs⟩))
      | exact hi.elim
theorem eg_c_aaload (F : eg_Fr p R s m args meth c A D cc nL o ini) (S : eg_St sc vq s A D nL ad0 n0 ad cA h lv st H locs ls) (k : eg_Kt K P sc vq s A D nL ad0 n0 p l e R m args below meth c Q) (hd : decode cc pc = .ok (.aaload, 1)) (hn : eg_pc P (i + 1) = some (pc + 1)) (hi : eg_pi st fun x st => eg_pr st fun a st => eg_al sc h a x fun ty v => (match ty with
      | .object _ => K (i + 1) lv (v :: st) h cz sz
      | _ => False)) : W p l e R s m args below meth c H locs cz sz Q (F0 m pc ls (st.map (eg_ev ad vq))) := by
  obtain ⟨x, r0, rfl, g0⟩ := eg_pi_of hi
  obtain ⟨a, r1, rfl, g1⟩ := eg_pr_of g0
  obtain ⟨hx, hs⟩ := List.forall_mem_cons.mp S.sok
  obtain ⟨-, hs⟩ := List.forall_mem_cons.mp hs
  rcases eg_al_of g1 with ⟨ty, n, ha, h0, h1, hi⟩ | ⟨ty, n, f, ha, h0, h1, hi⟩
  · have hn2 := (S.2.2.2.2.2.1.1 a ty n ha).2.1
    have hr := (S.2.2.2.2.2.1.1 a ty n ha).2.2 x.toNat
    have hin := eg_in32 h0 h1 hn2
    cases ty <;> first
      | exact hi.elim
      | exact absurd (S.2.2.2.2.2.1.1 a _ n ha).1 (fun z => by cases z)
  · obtain ⟨hT, hn2, hv⟩ := S.2.2.2.2.2.2.2.2.1.1 a ty n f ha
    have hin := eg_in32 h0 h1 hn2
    cases ty <;> first
      | exact vb_tq F.1 F.2.1 hT S.2.2.1 hin (v := eg_ev ad vq (f x.toNat)) (by rw [eg_cl32 hx]) hd (eg_go (lv' := lv) k hi hn S (List.forall_mem_cons.mpr ⟨eg_okV_le (hv _) (Nat.zero_le _), hs⟩))
      | exact hi.elim
theorem eg_c_iastore (F : eg_Fr p R s m args meth c A D cc nL o ini) (S : eg_St sc vq s A D nL ad0 n0 ad cA h lv st H locs ls) (k : eg_Kt K P sc vq s A D nL ad0 n0 p l e R m args below meth c Q) (hd : decode cc pc = .ok (.iastore, 1)) (hn : eg_pc P (i + 1) = some (pc + 1)) (hi : eg_pi st fun v st => eg_pi st fun x st => eg_pr st fun a st => eg_as h a x fun ty => (match ty with
      | .int => K (i + 1) lv st (h.1, h.2.1, eg_u h.2.2 a x.toNat v) cz sz
      | _ => False)) : W p l e R s m args below meth c H locs cz sz Q (F0 m pc ls (st.map (eg_ev ad vq))) := by
  obtain ⟨v, r0, rfl, g0⟩ := eg_pi_of hi
  obtain ⟨x, r1, rfl, g1⟩ := eg_pi_of g0
  obtain ⟨a, r2, rfl, g2⟩ := eg_pr_of g1
  obtain ⟨hv, hs⟩ := List.forall_mem_cons.mp S.sok
  obtain ⟨hx, hs⟩ := List.forall_mem_cons.mp hs
  obtain ⟨-, hs⟩ := List.forall_mem_cons.mp hs
  obtain ⟨ty, n, ha, h0, h1, hi⟩ := eg_as_of g2
  have hn2 := (S.2.2.2.2.2.1.1 a ty n ha).2.1
  have hr := (S.2.2.2.2.2.1.1 a ty n ha).2.2
  have hin := eg_in32 h0 h1 hn2
  cases ty <;> first
    | (refine va_iast F.1 F.2.1 (eg_K1 F S.2.2.2.2.1 ha) S.1 S.2.1 S.2.2.1 a 0 (eg_w_at ha) rfl hin hd (fun H1 locs1 hP hD hS => ?_)
       rw [eg_cl32 hx] at hP hD
       have e := eg_w_ai (ad := ad) (cA := cA) (k := x.toNat) (v := v) (ty := .int) (by intro z; cases z) ha
       rw [← e] at hP hD
       refine k _ _ _ _ _ _ _ hi hn _ _ _ _ _ (S.M hs (fun b hb => eg_u_ne hb) (fun ty n h1 j => ?_) (fun ci h1 => absurd (h1.symm.trans ha) (by simp)) hP hD hS)
       have e2 := Option.some.inj (h1.symm.trans ha)
       cases e2
       rw [eg_u_at]
       split
       · exact hv
       · exact hr j)
    | exact hi.elim
theorem eg_c_lastore (F : eg_Fr p R s m args meth c A D cc nL o ini) (S : eg_St sc vq s A D nL ad0 n0 ad cA h lv st H locs ls) (k : eg_Kt K P sc vq s A D nL ad0 n0 p l e R m args below meth c Q) (hd : decode cc pc = .ok (.lastore, 1)) (hn : eg_pc P (i + 1) = some (pc + 1)) (hi : eg_pl st fun v st => eg_pi st fun x st => eg_pr st fun a st => eg_as h a x fun ty => (match ty with
      | .long => K (i + 1) lv st (h.1, h.2.1, eg_u h.2.2 a x.toNat v) cz sz
      | _ => False)) : W p l e R s m args below meth c H locs cz sz Q (F0 m pc ls (st.map (eg_ev ad vq))) := by
  obtain ⟨v, r0, rfl, g0⟩ := eg_pl_of hi
  obtain ⟨x, r1, rfl, g1⟩ := eg_pi_of g0
  obtain ⟨a, r2, rfl, g2⟩ := eg_pr_of g1
  obtain ⟨hv, hs⟩ := List.forall_mem_cons.mp S.sok
  obtain ⟨hx, hs⟩ := List.forall_mem_cons.mp hs
  obtain ⟨-, hs⟩ := List.forall_mem_cons.mp hs
  obtain ⟨ty, n, ha, h0, h1, hi⟩ := eg_as_of g2
  have hn2 := (S.2.2.2.2.2.1.1 a ty n ha).2.1
  have hr := (S.2.2.2.2.2.1.1 a ty n ha).2.2
  have hin := eg_in32 h0 h1 hn2
  cases ty <;> first
    | (refine va_last F.1 F.2.1 (eg_K1 F S.2.2.2.2.1 ha) S.1 S.2.1 S.2.2.1 a 0 (eg_w_at ha) rfl hin hd (fun H1 locs1 hP hD hS => ?_)
       rw [eg_cl32 hx] at hP hD
       have e := eg_w_al (ad := ad) (cA := cA) (k := x.toNat) (v := v) ha
       rw [← e] at hP hD
       refine k _ _ _ _ _ _ _ hi hn _ _ _ _ _ (S.M hs (fun b hb => eg_u_ne hb) (fun ty n h1 j => ?_) (fun ci h1 => absurd (h1.symm.trans ha) (by simp)) hP hD hS)
       have e2 := Option.some.inj (h1.symm.trans ha)
       cases e2
       rw [eg_u_at]
       split
       · exact hv
       · exact hr j)
    | exact hi.elim
theorem eg_c_bastore (F : eg_Fr p R s m args meth c A D cc nL o ini) (S : eg_St sc vq s A D nL ad0 n0 ad cA h lv st H locs ls) (k : eg_Kt K P sc vq s A D nL ad0 n0 p l e R m args below meth c Q) (hd : decode cc pc = .ok (.bastore, 1)) (hn : eg_pc P (i + 1) = some (pc + 1)) (hi : eg_pi st fun v st => eg_pi st fun x st => eg_pr st fun a st => eg_as h a x fun ty => (match ty with
      | .byte => K (i + 1) lv st (h.1, h.2.1, eg_u h.2.2 a x.toNat (eg_wb v)) cz sz
      | .boolean => (v = 0 ∨ v = 1) ∧ K (i + 1) lv st (h.1, h.2.1, eg_u h.2.2 a x.toNat v) cz sz
      | _ => False)) : W p l e R s m args below meth c H locs cz sz Q (F0 m pc ls (st.map (eg_ev ad vq))) := by
  obtain ⟨v, r0, rfl, g0⟩ := eg_pi_of hi
  obtain ⟨x, r1, rfl, g1⟩ := eg_pi_of g0
  obtain ⟨a, r2, rfl, g2⟩ := eg_pr_of g1
  obtain ⟨hv, hs⟩ := List.forall_mem_cons.mp S.sok
  obtain ⟨hx, hs⟩ := List.forall_mem_cons.mp hs
  obtain ⟨-, hs⟩ := List.forall_mem_cons.mp hs
  obtain ⟨ty, n, ha, h0, h1, hi⟩ := eg_as_of g2
  have hn2 := (S.2.2.2.2.2.1.1 a ty n ha).2.1
  have hr := (S.2.2.2.2.2.1.1 a ty n ha).2.2
  have hin := eg_in32 h0 h1 hn2
  cases ty <;> first
    | (refine va_bast F.1 F.2.1 (eg_K1 F S.2.2.2.2.1 ha) S.1 S.2.1 S.2.2.1 a 0 (eg_w_at ha) rfl hin hd (fun H1 locs1 hP hD hS => ?_)
       rw [eg_cl32 hx, eg_narB] at hP hD
       have e := eg_w_ai (ad := ad) (cA := cA) (k := x.toNat) (v := eg_wb v) (ty := .byte) (by intro z; cases z) ha
       rw [← e] at hP hD
       refine k _ _ _ _ _ _ _ hi hn _ _ _ _ _ (S.M hs (fun b hb => eg_u_ne hb) (fun ty n h1 j => ?_) (fun ci h1 => absurd (h1.symm.trans ha) (by simp)) hP hD hS)
       have e2 := Option.some.inj (h1.symm.trans ha)
       cases e2
       rw [eg_u_at]
       split
       · exact (by show _ ∧ _; unfold eg_wb; omega)
       · exact hr j)
    | (refine va_zast F.1 F.2.1 (eg_K1 F S.2.2.2.2.1 ha) S.1 S.2.1 S.2.2.1 a 0 (eg_w_at ha) rfl hin hd (fun H1 locs1 hP hD hS => ?_)
       rw [eg_cl32 hx, eg_narZ' hi.1] at hP hD
       have e := eg_w_ai (ad := ad) (cA := cA) (k := x.toNat) (v := v) (ty := .boolean) (by intro z; cases z) ha
       rw [← e] at hP hD
       refine k _ _ _ _ _ _ _ hi.2 hn _ _ _ _ _ (S.M hs (fun b hb => eg_u_ne hb) (fun ty n h1 j => ?_) (fun ci h1 => absurd (h1.symm.trans ha) (by simp)) hP hD hS)
       have e2 := Option.some.inj (h1.symm.trans ha)
       cases e2
       rw [eg_u_at]
       split
       · exact (by show _ ∧ _; rcases hi.1 with e | e <;> omega)
       · exact hr j)
    | exact hi.elim
theorem eg_c_sastore (F : eg_Fr p R s m args meth c A D cc nL o ini) (S : eg_St sc vq s A D nL ad0 n0 ad cA h lv st H locs ls) (k : eg_Kt K P sc vq s A D nL ad0 n0 p l e R m args below meth c Q) (hd : decode cc pc = .ok (.sastore, 1)) (hn : eg_pc P (i + 1) = some (pc + 1)) (hi : eg_pi st fun v st => eg_pi st fun x st => eg_pr st fun a st => eg_as h a x fun ty => (match ty with
      | .short => K (i + 1) lv st (h.1, h.2.1, eg_u h.2.2 a x.toNat (eg_ws v)) cz sz
      | _ => False)) : W p l e R s m args below meth c H locs cz sz Q (F0 m pc ls (st.map (eg_ev ad vq))) := by
  obtain ⟨v, r0, rfl, g0⟩ := eg_pi_of hi
  obtain ⟨x, r1, rfl, g1⟩ := eg_pi_of g0
  obtain ⟨a, r2, rfl, g2⟩ := eg_pr_of g1
  obtain ⟨hv, hs⟩ := List.forall_mem_cons.mp S.sok
  obtain ⟨hx, hs⟩ := List.forall_mem_cons.mp hs
  obtain ⟨-, hs⟩ := List.forall_mem_cons.mp hs
  obtain ⟨ty, n, ha, h0, h1, hi⟩ := eg_as_of g2
  have hn2 := (S.2.2.2.2.2.1.1 a ty n ha).2.1
  have hr := (S.2.2.2.2.2.1.1 a ty n ha).2.2
  have hin := eg_in32 h0 h1 hn2
  cases ty <;> first
    | (refine va_sast F.1 F.2.1 (eg_K1 F S.2.2.2.2.1 ha) S.1 S.2.1 S.2.2.1 a 0 (eg_w_at ha) rfl hin hd (fun H1 locs1 hP hD hS => ?_)
       rw [eg_cl32 hx, eg_narS] at hP hD
       have e := eg_w_ai (ad := ad) (cA := cA) (k := x.toNat) (v := eg_ws v) (ty := .short) (by intro z; cases z) ha
       rw [← e] at hP hD
       refine k _ _ _ _ _ _ _ hi hn _ _ _ _ _ (S.M hs (fun b hb => eg_u_ne hb) (fun ty n h1 j => ?_) (fun ci h1 => absurd (h1.symm.trans ha) (by simp)) hP hD hS)
       have e2 := Option.some.inj (h1.symm.trans ha)
       cases e2
       rw [eg_u_at]
       split
       · exact (by show _ ∧ _; unfold eg_ws; omega)
       · exact hr j)
    | exact hi.elim
theorem eg_an_of {a : Nat} {K : Nat → Prop} (hg : eg_an sc h a K) : (∃ (ty : FieldType) (n : Nat), h.1[a]? = some (.inl (ty, n)) ∧ K n) ∨ ∃ (ty : FieldType) (n : Nat) (f : Nat → eg_V), eg_sa sc a = some (ty, n, f) ∧ K n := by
  unfold eg_an at hg
  split at hg
  · exact Or.inl ⟨_, _, by assumption, hg⟩
  · exact hg.elim
  · split at hg
    · exact Or.inr ⟨_, _, _, by assumption, hg⟩
    · exact hg.elim
theorem eg_c_arraylength (F : eg_Fr p R s m args meth c A D cc nL o ini) (S : eg_St sc vq s A D nL ad0 n0 ad cA h lv st H locs ls) (k : eg_Kt K P sc vq s A D nL ad0 n0 p l e R m args below meth c Q) (hd : decode cc pc = .ok (.arraylength, 1)) (hn : eg_pc P (i + 1) = some (pc + 1)) (hi : eg_pr st fun a st => eg_an sc h a fun n => K (i + 1) lv (.inl n :: st) h cz sz) : W p l e R s m args below meth c H locs cz sz Q (F0 m pc ls (st.map (eg_ev ad vq))) := by
  obtain ⟨a, r0, rfl, g0⟩ := eg_pr_of hi
  obtain ⟨-, hs⟩ := List.forall_mem_cons.mp S.sok
  rcases eg_an_of g0 with ⟨ty, n, ha, hi⟩ | ⟨ty, n, f, ha, hi⟩
  · have hn2 := (S.2.2.2.2.2.1.1 a ty n ha).2.1
    refine va_alen F.1 F.2.1 (eg_K1 F S.2.2.2.2.1 ha) S.1 a 0 (eg_w_at ha) rfl (v := Int32.ofInt n) ?_ hd (eg_go (lv' := lv) k hi hn S (List.forall_mem_cons.mpr ⟨by show _ ∧ _; omega, hs⟩))
    rw [Int32.ofInt_eq_ofNat]
    cases ty <;> rfl
  · obtain ⟨hT, hn2, -⟩ := S.2.2.2.2.2.2.2.2.1.1 a ty n f ha
    exact va_tlen F.1 F.2.1 hT S.2.2.1 (v := Int32.ofInt n) (by rw [Int32.ofInt_eq_ofNat]) hd (eg_go (lv' := lv) k hi hn S (List.forall_mem_cons.mpr ⟨by show _ ∧ _; omega, hs⟩))
end EGM
