/-- 187: WeakSchemeModel.slot(J)I -/
noncomputable def fn_187 (a : Int) (M : eM) : Option (Int) :=
  some (eg_wi a)
set_option maxRecDepth 100000 in
theorem ft_187 {cn mo : Nat} {sc : eg_Sc} {d : Nat} {M : eM} {Q : Option eg_V → eg_H → Prop} {a : Int} {x : Int} (hx : fn_187 a M = some x) (hK : Q (some (.inl x)) (em_L cn mo, eh_R, M)) : eg_wp sc (d + 1) 187 [.inr (.inl a)] (em_L cn mo, eh_R, M) 0 0 Q := by
  refine eg_in (lv := [some (.inr (.inl a)), none]) eg_tj187 (Nat.le_of_ble_eq_true rfl) rfl ?_
  refine eg_k_lload rfl rfl ?_
  refine eg_k_l2i rfl ?_
  have hx := Option.some.inj hx
  subst hx
  exact eg_k_iret rfl True.intro (Nat.le_refl _) (Nat.le_refl _) hK
noncomputable def fn_188_24 (x1 : Int) (x2 : Int) (x3 : Int) (x4 : Int) (x5 : Int) (y0 : Int) (M : eM) : Option ((Int × Int) ⊕ (Int)) :=
  if 0 ≤ y0 ∧ y0 < 20100 then
  if ¬ (M 50 (y0).toNat) = x2 then
      if 0 ≤ x5 ∧ x5 < 20100 then
      some (.inl (eg_wi (x4 + 1), M 53 (x5).toNat))
      else none
    else
      some (.inr x4)
  else none
noncomputable def fn_188_11 (x1 : Int) (x2 : Int) (x3 : Int) (M : eM) (s1 : Int) (s2 : Int) : Option ((Int × Int) ⊕ (Int)) :=
  if s2 < 0 then
    some (.inr (-1))
  else
    (fn_175 x1 M).bind fun r7 =>
    if ¬ r7 = 5 then
      fn_188_24 x1 x2 x3 s1 s2 s2 M
    else
      if 0 ≤ s2 ∧ s2 < 20100 then
      fn_188_24 x1 x2 x3 s1 s2 (M 51 (s2).toNat) M
      else none
/-- 188: WeakSchemeModel.nameIn(II)I -/
noncomputable def fn_188 (a : Int) (b : Int) (M : eM) : Option (Int) :=
  (fn_176 a M).bind fun r2 =>
  if 0 ≤ r2 ∧ r2 < 20100 then
  lp (fun z => fn_188_11 a b r2 M z.1 z.2) (0, M 51 (r2).toNat)
  else none
set_option maxRecDepth 100000 in
theorem ft_188_24 {cn mo : Nat} {sc : eg_Sc} {d : Nat} {M : eM} {Q : Option eg_V → eg_H → Prop} {x1 : Int} {x2 : Int} {x3 : Int} {x4 : Int} {x5 : Int} {y0 : Int} {x : (Int × Int) ⊕ (Int)} (hx : fn_188_24 x1 x2 x3 x4 x5 y0 M = some x) (hK : (eK (fun (s : Int × Int) => ∀ (w6 : Option eg_V), eg_X sc (eg_wp sc (d + 2)) eg_p188 (some .int) 0 0 Q 11 [some (.inr (.inr (some 45))), some (.inl x1), some (.inl x2), some (.inl x3), some (.inl s.1), some (.inl s.2), w6] [] (em_L cn mo, eh_R, M) 0 0) (fun (x : Int) => Q (some (.inl x)) (em_L cn mo, eh_R, M))) x) : ∀ (w6 : Option eg_V), eg_X sc (eg_wp sc (d + 2)) eg_p188 (some .int) 0 0 Q 24 [some (.inr (.inr (some 45))), some (.inl x1), some (.inl x2), some (.inl x3), some (.inl x4), some (.inl x5), w6] [.inl y0] (em_L cn mo, eh_R, M) 0 0 := by
  intro w6
  refine eg_k_istore (lv' := [some (.inr (.inr (some 45))), some (.inl x1), some (.inl x2), some (.inl x3), some (.inl x4), some (.inl x5), some (.inl y0)]) rfl rfl ?_
  refine eg_k_aload rfl rfl ?_
  refine eg_k_gfa rfl rfl rfl eh_r45_9 ?_
  refine eg_k_iload rfl rfl ?_
  obtain ⟨b10, hx⟩ := vb_if hx
  refine eg_k_iald (k := 20100) rfl rfl b10.1 b10.2 ?_
  refine eg_k_iload rfl rfl ?_
  refine vk_icmp rfl hx Iff.rfl (fun c11 hx => ?_) (fun c11 hx => ?_)
  · refine eg_k_iload rfl rfl ?_
    refine eg_k_ci rfl ?_
    refine eg_k_iadd rfl ?_
    refine eg_k_istore (lv' := [some (.inr (.inr (some 45))), some (.inl x1), some (.inl x2), some (.inl x3), some (.inl (eg_wi (x4 + 1))), some (.inl x5), some (.inl y0)]) rfl rfl ?_
    refine eg_k_aload rfl rfl ?_
    refine eg_k_gfa rfl rfl rfl eh_r45_12 ?_
    refine eg_k_iload rfl rfl ?_
    obtain ⟨b12, hx⟩ := vb_if hx
    refine eg_k_iald (k := 20100) rfl rfl b12.1 b12.2 ?_
    refine eg_k_istore (lv' := [some (.inr (.inr (some 45))), some (.inl x1), some (.inl x2), some (.inl x3), some (.inl (eg_wi (x4 + 1))), some (.inl (M 53 (x5).toNat)), some (.inl y0)]) rfl rfl ?_
    refine eg_k_goto rfl ?_
    have hx := Option.some.inj hx
    subst hx
    exact hK (some (.inl y0))
  · refine eg_k_iload rfl rfl ?_
    have hx := Option.some.inj hx
    subst hx
    exact eg_k_iret rfl True.intro (Nat.le_refl _) (Nat.le_refl _) hK
set_option maxRecDepth 100000 in
theorem ft_188_11 {cn mo : Nat} {sc : eg_Sc} {d : Nat} {M : eM} {Q : Option eg_V → eg_H → Prop} {x1 : Int} {x2 : Int} {x3 : Int} {s : Int × Int} {x : Int} (hx : lp (fun z => fn_188_11 x1 x2 x3 M z.1 z.2) s = some x) (hK : (fun (x : Int) => Q (some (.inl x)) (em_L cn mo, eh_R, M)) x) : ∀ (w6 : Option eg_V), eg_X sc (eg_wp sc (d + 2)) eg_p188 (some .int) 0 0 Q 11 [some (.inr (.inr (some 45))), some (.inl x1), some (.inl x2), some (.inl x3), some (.inl s.1), some (.inl s.2), w6] [] (em_L cn mo, eh_R, M) 0 0 := by
  refine lp_sound (P := (fun (s : Int × Int) => ∀ (w6 : Option eg_V), eg_X sc (eg_wp sc (d + 2)) eg_p188 (some .int) 0 0 Q 11 [some (.inr (.inr (some 45))), some (.inl x1), some (.inl x2), some (.inl x3), some (.inl s.1), some (.inl s.2), w6] [] (em_L cn mo, eh_R, M) 0 0)) (K := (fun (x : Int) => Q (some (.inl x)) (em_L cn mo, eh_R, M))) hx hK ?_
  intro s x hx hK w6
  obtain ⟨s1, s2⟩ := s
  refine eg_k_iload rfl rfl ?_
  refine vk_if rfl hx Iff.rfl (fun c5 hx => ?_) (fun c5 hx => ?_)
  · refine eg_k_ci rfl ?_
    have hx := Option.some.inj hx
    subst hx
    exact eg_k_iret rfl True.intro (Nat.le_refl _) (Nat.le_refl _) hK
  · refine eg_k_aload rfl rfl ?_
    refine eg_k_iload rfl rfl ?_
    obtain ⟨r7, h6, hx⟩ := vb_bind hx
    refine eg_k_call (c1 := 0) (z1 := 0) (as := [.inr (.inr (some 45)), .inl x1]) (rest := []) rfl eg_tj175 (Nat.le_of_ble_eq_true rfl) rfl rfl rfl (Nat.le_of_ble_eq_true rfl) (Nat.le_refl _) (Nat.le_refl _) ?_ (fun Q hQ => ft_175 h6 hQ)
    refine eg_k_ci rfl ?_
    refine vk_icmp rfl hx Iff.rfl (fun c9 hx => ?_) (fun c9 hx => ?_)
    · refine eg_k_iload rfl rfl ?_
      have hz := ft_188_24 (d := d) (sc := sc) hx hK
      exact hz w6
    · refine eg_k_aload rfl rfl ?_
      refine eg_k_gfa rfl rfl rfl eh_r45_10 ?_
      refine eg_k_iload rfl rfl ?_
      obtain ⟨b13, hx⟩ := vb_if hx
      refine eg_k_iald (k := 20100) rfl rfl b13.1 b13.2 ?_
      refine eg_k_goto rfl ?_
      have hz := ft_188_24 (d := d) (sc := sc) hx hK
      exact hz w6
set_option maxRecDepth 100000 in
theorem ft_188 {cn mo : Nat} {sc : eg_Sc} {d : Nat} {M : eM} {Q : Option eg_V → eg_H → Prop} {a : Int} {b : Int} {x : Int} (hx : fn_188 a b M = some x) (hK : Q (some (.inl x)) (em_L cn mo, eh_R, M)) : eg_wp sc (d + 3) 188 [.inr (.inr (some 45)), .inl a, .inl b] (em_L cn mo, eh_R, M) 0 0 Q := by
  refine eg_in (lv := [some (.inr (.inr (some 45))), some (.inl a), some (.inl b), none, none, none, none]) eg_tj188 (Nat.le_of_ble_eq_true rfl) rfl ?_
  refine eg_k_aload rfl rfl ?_
  refine eg_k_iload rfl rfl ?_
  obtain ⟨r2, h1, hx⟩ := vb_bind hx
  refine eg_k_call (c1 := 0) (z1 := 0) (as := [.inr (.inr (some 45)), .inl a]) (rest := []) rfl eg_tj176 (Nat.le_of_ble_eq_true rfl) rfl rfl rfl (Nat.le_of_ble_eq_true rfl) (Nat.le_refl _) (Nat.le_refl _) ?_ (fun Q hQ => ft_176 h1 hQ)
  refine eg_k_istore (lv' := [some (.inr (.inr (some 45))), some (.inl a), some (.inl b), some (.inl r2), none, none, none]) rfl rfl ?_
  refine eg_k_ci rfl ?_
  refine eg_k_istore (lv' := [some (.inr (.inr (some 45))), some (.inl a), some (.inl b), some (.inl r2), some (.inl 0), none, none]) rfl rfl ?_
  refine eg_k_aload rfl rfl ?_
  refine eg_k_gfa rfl rfl rfl eh_r45_10 ?_
  refine eg_k_iload rfl rfl ?_
  obtain ⟨b4, hx⟩ := vb_if hx
  refine eg_k_iald (k := 20100) rfl rfl b4.1 b4.2 ?_
  refine eg_k_istore (lv' := [some (.inr (.inr (some 45))), some (.inl a), some (.inl b), some (.inl r2), some (.inl 0), some (.inl (M 51 (r2).toNat)), none]) rfl rfl ?_
  have hz := ft_188_11 (d := d) (sc := sc) hx hK
  exact hz none
noncomputable def fn_190_7 (x1 : Int) (x2 : Int) (M : eM) (s1 : Int) (s2 : Int) : Option ((Int × Int) ⊕ (Int)) :=
  if x2 ≤ s2 then
    some (.inr s1)
  else
    if 0 ≤ s1 ∧ s1 < 20000 then
    some (.inl (M 71 (s1).toNat, eg_wi (s2 + 1)))
    else none
/-- 190: WeakSchemeModel.cellAt(II)I -/
noncomputable def fn_190 (a : Int) (b : Int) (M : eM) : Option (Int) :=
  if 0 ≤ a ∧ a < 6700 then
  lp (fun z => fn_190_7 a b M z.1 z.2) (M 65 (a).toNat, 0)
  else none
set_option maxRecDepth 100000 in
theorem ft_190_7 {cn mo : Nat} {sc : eg_Sc} {d : Nat} {M : eM} {Q : Option eg_V → eg_H → Prop} {x1 : Int} {x2 : Int} {s : Int × Int} {x : Int} (hx : lp (fun z => fn_190_7 x1 x2 M z.1 z.2) s = some x) (hK : (fun (x : Int) => Q (some (.inl x)) (em_L cn mo, eh_R, M)) x) : eg_X sc (eg_wp sc d) eg_p190 (some .int) 0 0 Q 7 [some (.inr (.inr (some 45))), some (.inl x1), some (.inl x2), some (.inl s.1), some (.inl s.2)] [] (em_L cn mo, eh_R, M) 0 0 := by
  refine lp_sound (P := (fun (s : Int × Int) => eg_X sc (eg_wp sc d) eg_p190 (some .int) 0 0 Q 7 [some (.inr (.inr (some 45))), some (.inl x1), some (.inl x2), some (.inl s.1), some (.inl s.2)] [] (em_L cn mo, eh_R, M) 0 0)) (K := (fun (x : Int) => Q (some (.inl x)) (em_L cn mo, eh_R, M))) hx hK ?_
  intro s x hx hK
  obtain ⟨s1, s2⟩ := s
  refine eg_k_iload rfl rfl ?_
  refine eg_k_iload rfl rfl ?_
  refine vk_icmp rfl hx Iff.rfl (fun c2 hx => ?_) (fun c2 hx => ?_)
  · refine eg_k_iload rfl rfl ?_
    have hx := Option.some.inj hx
    subst hx
    exact eg_k_iret rfl True.intro (Nat.le_refl _) (Nat.le_refl _) hK
  · refine eg_k_aload rfl rfl ?_
    refine eg_k_gfa rfl rfl rfl eh_r45_40 ?_
    refine eg_k_iload rfl rfl ?_
    obtain ⟨b3, hx⟩ := vb_if hx
    refine eg_k_iald (k := 20000) rfl rfl b3.1 b3.2 ?_
    refine eg_k_istore (lv' := [some (.inr (.inr (some 45))), some (.inl x1), some (.inl x2), some (.inl (M 71 (s1).toNat)), some (.inl s2)]) rfl rfl ?_
    refine eg_k_iinc (lv' := [some (.inr (.inr (some 45))), some (.inl x1), some (.inl x2), some (.inl (M 71 (s1).toNat)), some (.inl (eg_wi (s2 + 1)))]) rfl rfl rfl ?_
    refine eg_k_goto rfl ?_
    have hx := Option.some.inj hx
    subst hx
    exact hK
set_option maxRecDepth 100000 in
theorem ft_190 {cn mo : Nat} {sc : eg_Sc} {d : Nat} {M : eM} {Q : Option eg_V → eg_H → Prop} {a : Int} {b : Int} {x : Int} (hx : fn_190 a b M = some x) (hK : Q (some (.inl x)) (em_L cn mo, eh_R, M)) : eg_wp sc (d + 1) 190 [.inr (.inr (some 45)), .inl a, .inl b] (em_L cn mo, eh_R, M) 0 0 Q := by
  refine eg_in (lv := [some (.inr (.inr (some 45))), some (.inl a), some (.inl b), none, none]) eg_tj190 (Nat.le_of_ble_eq_true rfl) rfl ?_
  refine eg_k_aload rfl rfl ?_
  refine eg_k_gfa rfl rfl rfl eh_r45_33 ?_
  refine eg_k_iload rfl rfl ?_
  obtain ⟨b1, hx⟩ := vb_if hx
  refine eg_k_iald (k := 6700) rfl rfl b1.1 b1.2 ?_
  refine eg_k_istore (lv' := [some (.inr (.inr (some 45))), some (.inl a), some (.inl b), some (.inl (M 65 (a).toNat)), none]) rfl rfl ?_
  refine eg_k_ci rfl ?_
  refine eg_k_istore (lv' := [some (.inr (.inr (some 45))), some (.inl a), some (.inl b), some (.inl (M 65 (a).toNat)), some (.inl 0)]) rfl rfl ?_
  have hz := ft_190_7 (d := d) (sc := sc) hx hK
  exact hz
/-- 189: WeakSchemeModel.get(JI)J -/
noncomputable def fn_189 (a : Int) (b : Int) (M : eM) : Option (Int) :=
  (fn_187 a M).bind fun r2 =>
  (fn_190 r2 b M).bind fun r5 =>
  if 0 ≤ r5 ∧ r5 < 20000 then
  some (M 70 (r5).toNat)
  else none
set_option maxRecDepth 100000 in
theorem ft_189 {cn mo : Nat} {sc : eg_Sc} {d : Nat} {M : eM} {Q : Option eg_V → eg_H → Prop} {a : Int} {b : Int} {x : Int} (hx : fn_189 a b M = some x) (hK : Q (some (.inr (.inl x))) (em_L cn mo, eh_R, M)) : eg_wp sc (d + 2) 189 [.inr (.inr (some 45)), .inr (.inl a), .inl b] (em_L cn mo, eh_R, M) 0 0 Q := by
  refine eg_in (lv := [some (.inr (.inr (some 45))), some (.inr (.inl a)), none, some (.inl b)]) eg_tj189 (Nat.le_of_ble_eq_true rfl) rfl ?_
  refine eg_k_aload rfl rfl ?_
  refine eg_k_gfa rfl rfl rfl eh_r45_39 ?_
  refine eg_k_aload rfl rfl ?_
  refine eg_k_lload rfl rfl ?_
  obtain ⟨r2, h1, hx⟩ := vb_bind hx
  refine eg_k_call (c1 := 0) (z1 := 0) (as := [.inr (.inl a)]) (rest := [.inr (.inr (some 45)), .inr (.inr (some 70))]) rfl eg_tj187 (Nat.le_of_ble_eq_true rfl) rfl rfl trivial (Nat.le_of_ble_eq_true rfl) (Nat.le_refl _) (Nat.le_refl _) ?_ (fun Q hQ => ft_187 h1 hQ)
  refine eg_k_iload rfl rfl ?_
  obtain ⟨r5, h4, hx⟩ := vb_bind hx
  refine eg_k_call (c1 := 0) (z1 := 0) (as := [.inr (.inr (some 45)), .inl r2, .inl b]) (rest := [.inr (.inr (some 70))]) rfl eg_tj190 (Nat.le_of_ble_eq_true rfl) rfl rfl rfl (Nat.le_of_ble_eq_true rfl) (Nat.le_refl _) (Nat.le_refl _) ?_ (fun Q hQ => ft_190 h4 hQ)
  obtain ⟨b7, hx⟩ := vb_if hx
  refine eg_k_lald (k := 20000) rfl rfl b7.1 b7.2 ?_
  have hx := Option.some.inj hx
  subst hx
  exact eg_k_lret rfl rfl (Nat.le_refl _) (Nat.le_refl _) hK
noncomputable def fn_186_2 (x1 : Int) (x3 : Int) (M : eM) (s : Int) : Option ((Int) ⊕ (Int)) :=
  if s = (-1) then
    some (.inr s)
  else
    (fn_187 s M).bind fun r3 =>
    if 0 ≤ r3 ∧ r3 < 6700 then
    (fn_188 (M 64 (r3).toNat) x3 M).bind fun r7 =>
      if 0 ≤ r7 then
        some (.inr s)
      else
        (fn_189 s 0 M).bind fun r11 =>
        some (.inl r11)
    else none
/-- 186: WeakSchemeModel.frameOf(JI)J -/
noncomputable def fn_186 (a : Int) (b : Int) (M : eM) : Option (Int) :=
  lp (fn_186_2 a b M) a
set_option maxRecDepth 100000 in
theorem ft_186_2 {cn mo : Nat} {sc : eg_Sc} {d : Nat} {M : eM} {Q : Option eg_V → eg_H → Prop} {x1 : Int} {x3 : Int} {s : Int} {x : Int} (hx : lp (fn_186_2 x1 x3 M) s = some x) (hK : (fun (x : Int) => Q (some (.inr (.inl x))) (em_L cn mo, eh_R, M)) x) : eg_X sc (eg_wp sc (d + 3)) eg_p186 (some .long) 0 0 Q 2 [some (.inr (.inr (some 45))), some (.inr (.inl x1)), none, some (.inl x3), some (.inr (.inl s)), none] [] (em_L cn mo, eh_R, M) 0 0 := by
  refine lp_sound (P := (fun (s : Int) => eg_X sc (eg_wp sc (d + 3)) eg_p186 (some .long) 0 0 Q 2 [some (.inr (.inr (some 45))), some (.inr (.inl x1)), none, some (.inl x3), some (.inr (.inl s)), none] [] (em_L cn mo, eh_R, M) 0 0)) (K := (fun (x : Int) => Q (some (.inr (.inl x))) (em_L cn mo, eh_R, M))) hx hK ?_
  intro s x hx hK
  refine eg_k_lload rfl rfl ?_
  refine eg_k_cl rfl ?_
  refine vk_lcmp rfl rfl hx Iff.rfl (fun c1 hx => ?_) (fun c1 hx => ?_)
  · refine eg_k_lload rfl rfl ?_
    have hx := Option.some.inj hx
    subst hx
    exact eg_k_lret rfl rfl (Nat.le_refl _) (Nat.le_refl _) hK
  · refine eg_k_aload rfl rfl ?_
    refine eg_k_aload rfl rfl ?_
    refine eg_k_gfa rfl rfl rfl eh_r45_32 ?_
    refine eg_k_lload rfl rfl ?_
    obtain ⟨r3, h2, hx⟩ := vb_bind hx
    refine eg_k_call (c1 := 0) (z1 := 0) (as := [.inr (.inl s)]) (rest := [.inr (.inr (some 64)), .inr (.inr (some 45))]) rfl eg_tj187 (Nat.le_of_ble_eq_true rfl) rfl rfl trivial (Nat.le_of_ble_eq_true rfl) (Nat.le_refl _) (Nat.le_refl _) ?_ (fun Q hQ => ft_187 h2 hQ)
    obtain ⟨b5, hx⟩ := vb_if hx
    refine eg_k_iald (k := 6700) rfl rfl b5.1 b5.2 ?_
    refine eg_k_iload rfl rfl ?_
    obtain ⟨r7, h6, hx⟩ := vb_bind hx
    refine eg_k_call (c1 := 0) (z1 := 0) (as := [.inr (.inr (some 45)), .inl (M 64 (r3).toNat), .inl x3]) (rest := []) rfl eg_tj188 (Nat.le_of_ble_eq_true rfl) rfl rfl rfl (Nat.le_of_ble_eq_true rfl) (Nat.le_refl _) (Nat.le_refl _) ?_ (fun Q hQ => ft_188 h6 hQ)
    refine vk_if rfl hx Iff.rfl (fun c9 hx => ?_) (fun c9 hx => ?_)
    · refine eg_k_lload rfl rfl ?_
      have hx := Option.some.inj hx
      subst hx
      exact eg_k_lret rfl rfl (Nat.le_refl _) (Nat.le_refl _) hK
    · refine eg_k_aload rfl rfl ?_
      refine eg_k_lload rfl rfl ?_
      refine eg_k_ci rfl ?_
      obtain ⟨r11, h10, hx⟩ := vb_bind hx
      refine eg_k_call (c1 := 0) (z1 := 0) (as := [.inr (.inr (some 45)), .inr (.inl s), .inl 0]) (rest := []) rfl eg_tj189 (Nat.le_of_ble_eq_true rfl) rfl rfl rfl (Nat.le_of_ble_eq_true rfl) (Nat.le_refl _) (Nat.le_refl _) ?_ (fun Q hQ => ft_189 h10 hQ)
      refine eg_k_lstore (lv' := [some (.inr (.inr (some 45))), some (.inr (.inl x1)), none, some (.inl x3), some (.inr (.inl r11)), none]) rfl rfl ?_
      refine eg_k_goto rfl ?_
      have hx := Option.some.inj hx
      subst hx
      exact hK
set_option maxRecDepth 100000 in
theorem ft_186 {cn mo : Nat} {sc : eg_Sc} {d : Nat} {M : eM} {Q : Option eg_V → eg_H → Prop} {a : Int} {b : Int} {x : Int} (hx : fn_186 a b M = some x) (hK : Q (some (.inr (.inl x))) (em_L cn mo, eh_R, M)) : eg_wp sc (d + 4) 186 [.inr (.inr (some 45)), .inr (.inl a), .inl b] (em_L cn mo, eh_R, M) 0 0 Q := by
  refine eg_in (lv := [some (.inr (.inr (some 45))), some (.inr (.inl a)), none, some (.inl b), none, none]) eg_tj186 (Nat.le_of_ble_eq_true rfl) rfl ?_
  refine eg_k_lload rfl rfl ?_
  refine eg_k_lstore (lv' := [some (.inr (.inr (some 45))), some (.inr (.inl a)), none, some (.inl b), some (.inr (.inl a)), none]) rfl rfl ?_
  have hz := ft_186_2 (d := d) (sc := sc) hx hK
  exact hz
/-- 194: WeakSchemeModel.atom(I)J -/
noncomputable def fn_194 (a : Int) (M : eM) : Option (Int) :=
  if 0 ≤ a ∧ a < 20100 then
  if (M 49 (a).toNat) = 0 then
      some (eb_land (M 50 (a).toNat) 4294967295)
    else if (M 49 (a).toNat) = 1 then
      some 4294967296
    else if (M 49 (a).toNat) = 2 then
      some 8589934592
    else if (M 49 (a).toNat) = 3 then
      some (eb_lor 17179869184 (M 50 (a).toNat))
    else 
      some 12884901888
  else none
set_option maxRecDepth 100000 in
theorem ft_194 {cn mo : Nat} {sc : eg_Sc} {d : Nat} {M : eM} {Q : Option eg_V → eg_H → Prop} {a : Int} {x : Int} (hx : fn_194 a M = some x) (hK : Q (some (.inr (.inl x))) (em_L cn mo, eh_R, M)) : eg_wp sc (d + 1) 194 [.inr (.inr (some 45)), .inl a] (em_L cn mo, eh_R, M) 0 0 Q := by
  refine eg_in (lv := [some (.inr (.inr (some 45))), some (.inl a)]) eg_tj194 (Nat.le_of_ble_eq_true rfl) rfl ?_
  refine eg_k_aload rfl rfl ?_
  refine eg_k_gfa rfl rfl rfl eh_r45_8 ?_
  refine eg_k_iload rfl rfl ?_
  obtain ⟨b1, hx⟩ := vb_if hx
  refine eg_k_bald (k := 20100) rfl rfl b1.1 b1.2 ?_
  refine vb_ite hx (fun e9 hx => ?_) (fun e9 hx => ?_)
  · refine eg_k_tsw (x := M 49 (a).toNat) (t := 5) rfl (by rw [e9]; rfl) ?_
    refine eg_k_aload rfl rfl ?_
    refine eg_k_gfa rfl rfl rfl eh_r45_9 ?_
    refine eg_k_iload rfl rfl ?_
    refine eg_k_iald (k := 20100) rfl rfl b1.1 b1.2 ?_
    refine eg_k_i2l rfl ?_
    refine eg_k_cl rfl ?_
    refine eg_k_land rfl ?_
    have hx := Option.some.inj hx
    subst hx
    exact eg_k_lret rfl rfl (Nat.le_refl _) (Nat.le_refl _) hK
  have e0_ := e9
  refine vb_ite hx (fun e9 hx => ?_) (fun e9 hx => ?_)
  · refine eg_k_tsw (x := M 49 (a).toNat) (t := 13) rfl (by rw [e9]; rfl) ?_
    refine eg_k_cl rfl ?_
    have hx := Option.some.inj hx
    subst hx
    exact eg_k_lret rfl rfl (Nat.le_refl _) (Nat.le_refl _) hK
  have e1_ := e9
  refine vb_ite hx (fun e9 hx => ?_) (fun e9 hx => ?_)
  · refine eg_k_tsw (x := M 49 (a).toNat) (t := 15) rfl (by rw [e9]; rfl) ?_
    refine eg_k_cl rfl ?_
    have hx := Option.some.inj hx
    subst hx
    exact eg_k_lret rfl rfl (Nat.le_refl _) (Nat.le_refl _) hK
  have e2_ := e9
  refine vb_ite hx (fun e9 hx => ?_) (fun e9 hx => ?_)
  · refine eg_k_tsw (x := M 49 (a).toNat) (t := 17) rfl (by rw [e9]; rfl) ?_
    refine eg_k_cl rfl ?_
    refine eg_k_aload rfl rfl ?_
    refine eg_k_gfa rfl rfl rfl eh_r45_9 ?_
    refine eg_k_iload rfl rfl ?_
    refine eg_k_iald (k := 20100) rfl rfl b1.1 b1.2 ?_
    refine eg_k_i2l rfl ?_
    refine eg_k_lor rfl ?_
    have hx := Option.some.inj hx
    subst hx
    exact eg_k_lret rfl rfl (Nat.le_refl _) (Nat.le_refl _) hK
  have e3_ := e9
  refine eg_k_tsw (x := M 49 (a).toNat) (t := 25) rfl (by unfold eg_tb; rw [if_pos (by omega)]; rfl) ?_
  refine eg_k_cl rfl ?_
  have hx := Option.some.inj hx
  subst hx
  exact eg_k_lret rfl rfl (Nat.le_refl _) (Nat.le_refl _) hK
/-- 196: WeakSchemeModel.cellsOf(II)I -/
noncomputable def fn_196 (a : Int) (b : Int) (M : eM) : Option (Int) :=
  if a = 0 then
    some 4
  else if a = 1 then
    some (eg_wi (3 + b))
  else if a = 2 then
    some 4
  else if a = 3 then
    some (eg_wi (2 + b))
  else if a = 4 then
    some 3
  else if a = 5 then
    some 4
  else if a = 6 then
    some 3
  else if a = 7 then
    some 5
  else 
    some 3
set_option maxRecDepth 100000 in
theorem ft_196 {cn mo : Nat} {sc : eg_Sc} {d : Nat} {M : eM} {Q : Option eg_V → eg_H → Prop} {a : Int} {b : Int} {x : Int} (hx : fn_196 a b M = some x) (hK : Q (some (.inl x)) (em_L cn mo, eh_R, M)) : eg_wp sc (d + 1) 196 [.inl a, .inl b] (em_L cn mo, eh_R, M) 0 0 Q := by
  refine eg_in (lv := [some (.inl a), some (.inl b)]) eg_tj196 (Nat.le_of_ble_eq_true rfl) rfl ?_
  refine eg_k_iload rfl rfl ?_
  refine vb_ite hx (fun e9 hx => ?_) (fun e9 hx => ?_)
  · refine eg_k_tsw (x := a) (t := 2) rfl (by rw [e9]; rfl) ?_
    refine eg_k_ci rfl ?_
    have hx := Option.some.inj hx
    subst hx
    exact eg_k_iret rfl True.intro (Nat.le_refl _) (Nat.le_refl _) hK
  have e0_ := e9
  refine vb_ite hx (fun e9 hx => ?_) (fun e9 hx => ?_)
  · refine eg_k_tsw (x := a) (t := 4) rfl (by rw [e9]; rfl) ?_
    refine eg_k_ci rfl ?_
    refine eg_k_iload rfl rfl ?_
    refine eg_k_iadd rfl ?_
    have hx := Option.some.inj hx
    subst hx
    exact eg_k_iret rfl True.intro (Nat.le_refl _) (Nat.le_refl _) hK
  have e1_ := e9
  refine vb_ite hx (fun e9 hx => ?_) (fun e9 hx => ?_)
  · refine eg_k_tsw (x := a) (t := 2) rfl (by rw [e9]; rfl) ?_
    refine eg_k_ci rfl ?_
    have hx := Option.some.inj hx
    subst hx
    exact eg_k_iret rfl True.intro (Nat.le_refl _) (Nat.le_refl _) hK
  have e2_ := e9
  refine vb_ite hx (fun e9 hx => ?_) (fun e9 hx => ?_)
  · refine eg_k_tsw (x := a) (t := 8) rfl (by rw [e9]; rfl) ?_
    refine eg_k_ci rfl ?_
    refine eg_k_iload rfl rfl ?_
    refine eg_k_iadd rfl ?_
    have hx := Option.some.inj hx
    subst hx
    exact eg_k_iret rfl True.intro (Nat.le_refl _) (Nat.le_refl _) hK
  have e3_ := e9
  refine vb_ite hx (fun e9 hx => ?_) (fun e9 hx => ?_)
  · refine eg_k_tsw (x := a) (t := 14) rfl (by rw [e9]; rfl) ?_
    refine eg_k_ci rfl ?_
    have hx := Option.some.inj hx
    subst hx
    exact eg_k_iret rfl True.intro (Nat.le_refl _) (Nat.le_refl _) hK
  have e4_ := e9
  refine vb_ite hx (fun e9 hx => ?_) (fun e9 hx => ?_)
  · refine eg_k_tsw (x := a) (t := 2) rfl (by rw [e9]; rfl) ?_
    refine eg_k_ci rfl ?_
    have hx := Option.some.inj hx
    subst hx
    exact eg_k_iret rfl True.intro (Nat.le_refl _) (Nat.le_refl _) hK
  have e5_ := e9
  refine vb_ite hx (fun e9 hx => ?_) (fun e9 hx => ?_)
  · refine eg_k_tsw (x := a) (t := 14) rfl (by rw [e9]; rfl) ?_
    refine eg_k_ci rfl ?_
    have hx := Option.some.inj hx
    subst hx
    exact eg_k_iret rfl True.intro (Nat.le_refl _) (Nat.le_refl _) hK
  have e6_ := e9
  refine vb_ite hx (fun e9 hx => ?_) (fun e9 hx => ?_)
  · refine eg_k_tsw (x := a) (t := 12) rfl (by rw [e9]; rfl) ?_
    refine eg_k_ci rfl ?_
    have hx := Option.some.inj hx
    subst hx
    exact eg_k_iret rfl True.intro (Nat.le_refl _) (Nat.le_refl _) hK
  have e7_ := e9
  refine eg_k_tsw (x := a) (t := 14) rfl (by unfold eg_tb; rw [if_pos (by omega)]; rfl) ?_
  refine eg_k_ci rfl ?_
  have hx := Option.some.inj hx
  subst hx
  exact eg_k_iret rfl True.intro (Nat.le_refl _) (Nat.le_refl _) hK
/-- 201: WeakSchemeModel.isObject(J)Z -/
noncomputable def fn_201 (a : Int) (M : eM) : Option (Int) :=
  if a < 0 then
    some 0
  else
    if ¬ (eb_lshr a 32) = 6 then
      some 0
    else
      some 1
set_option maxRecDepth 100000 in
theorem ft_201 {cn mo : Nat} {sc : eg_Sc} {d : Nat} {M : eM} {Q : Option eg_V → eg_H → Prop} {a : Int} {x : Int} (hx : fn_201 a M = some x) (hK : Q (some (.inl x)) (em_L cn mo, eh_R, M)) : eg_wp sc (d + 1) 201 [.inr (.inl a)] (em_L cn mo, eh_R, M) 0 0 Q := by
  refine eg_in (lv := [some (.inr (.inl a)), none]) eg_tj201 (Nat.le_of_ble_eq_true rfl) rfl ?_
  refine eg_k_lload rfl rfl ?_
  refine eg_k_cl rfl ?_
  refine vk_lcmp rfl rfl hx Iff.rfl (fun c1 hx => ?_) (fun c1 hx => ?_)
  · refine eg_k_ci rfl ?_
    have hx := Option.some.inj hx
    subst hx
    exact eg_k_iret rfl (Or.inl rfl) (Nat.le_refl _) (Nat.le_refl _) hK
  · refine eg_k_lload rfl rfl ?_
    refine eg_k_ci rfl ?_
    refine eg_k_lshr rfl ?_
    refine eg_k_cl rfl ?_
    refine vk_lcmp rfl rfl hx Iff.rfl (fun c2 hx => ?_) (fun c2 hx => ?_)
    · refine eg_k_ci rfl ?_
      have hx := Option.some.inj hx
      subst hx
      exact eg_k_iret rfl (Or.inl rfl) (Nat.le_refl _) (Nat.le_refl _) hK
    · refine eg_k_ci rfl ?_
      refine eg_k_goto rfl ?_
      have hx := Option.some.inj hx
      subst hx
      exact eg_k_iret rfl (Or.inr rfl) (Nat.le_refl _) (Nat.le_refl _) hK
/-- 200: WeakSchemeModel.isLive(J)Z -/
noncomputable def fn_200 (a : Int) (M : eM) : Option (Int) :=
  (fn_201 a M).bind fun r2 =>
  if r2 = 0 then
    some 1
  else
    (fn_187 a M).bind fun r6 =>
    if 0 ≤ r6 ∧ r6 < 6700 then
    if (M 67 (r6).toNat) = 0 then
        some 0
      else
        some 1
    else none
set_option maxRecDepth 100000 in
theorem ft_200 {cn mo : Nat} {sc : eg_Sc} {d : Nat} {M : eM} {Q : Option eg_V → eg_H → Prop} {a : Int} {x : Int} (hx : fn_200 a M = some x) (hK : Q (some (.inl x)) (em_L cn mo, eh_R, M)) : eg_wp sc (d + 2) 200 [.inr (.inr (some 45)), .inr (.inl a)] (em_L cn mo, eh_R, M) 0 0 Q := by
  refine eg_in (lv := [some (.inr (.inr (some 45))), some (.inr (.inl a)), none]) eg_tj200 (Nat.le_of_ble_eq_true rfl) rfl ?_
  refine eg_k_lload rfl rfl ?_
  obtain ⟨r2, h1, hx⟩ := vb_bind hx
  refine eg_k_call (c1 := 0) (z1 := 0) (as := [.inr (.inl a)]) (rest := []) rfl eg_tj201 (Nat.le_of_ble_eq_true rfl) rfl rfl trivial (Nat.le_of_ble_eq_true rfl) (Nat.le_refl _) (Nat.le_refl _) ?_ (fun Q hQ => ft_201 h1 hQ)
  refine vk_if rfl hx Iff.rfl (fun c4 hx => ?_) (fun c4 hx => ?_)
  · refine eg_k_ci rfl ?_
    refine eg_k_goto rfl ?_
    have hx := Option.some.inj hx
    subst hx
    exact eg_k_iret rfl (Or.inr rfl) (Nat.le_refl _) (Nat.le_refl _) hK
  · refine eg_k_aload rfl rfl ?_
    refine eg_k_gfa rfl rfl rfl eh_r45_35 ?_
    refine eg_k_lload rfl rfl ?_
    obtain ⟨r6, h5, hx⟩ := vb_bind hx
    refine eg_k_call (c1 := 0) (z1 := 0) (as := [.inr (.inl a)]) (rest := [.inr (.inr (some 67))]) rfl eg_tj187 (Nat.le_of_ble_eq_true rfl) rfl rfl trivial (Nat.le_of_ble_eq_true rfl) (Nat.le_refl _) (Nat.le_refl _) ?_ (fun Q hQ => ft_187 h5 hQ)
    obtain ⟨b8, hx⟩ := vb_if hx
    refine eg_k_zald (k := 6700) rfl rfl b8.1 b8.2 ?_
    refine vk_if rfl hx Iff.rfl (fun c9 hx => ?_) (fun c9 hx => ?_)
    · refine eg_k_ci rfl ?_
      have hx := Option.some.inj hx
      subst hx
      exact eg_k_iret rfl (Or.inl rfl) (Nat.le_refl _) (Nat.le_refl _) hK
    · refine eg_k_ci rfl ?_
      refine eg_k_goto rfl ?_
      have hx := Option.some.inj hx
      subst hx
      exact eg_k_iret rfl (Or.inr rfl) (Nat.le_refl _) (Nat.le_refl _) hK
/-- 199: WeakSchemeModel.mark(J)V -/
noncomputable def fn_199 (a : Int) (M : eM) : Option (eM) :=
  (fn_200 a M).bind fun r2 =>
  if r2 = 0 then
    (fn_187 a M).bind fun r6 =>
    if 0 ≤ r6 ∧ r6 < 6700 then
    (fn_187 a (eg_u M 67 (r6).toNat 1)).bind fun r10 =>
      if 0 ≤ (M 45 64) ∧ (M 45 64) < 6700 then
      some (eg_u (eg_u (eg_u M 67 (r6).toNat 1) 85 (M 45 64).toNat r10) 45 64 (eg_wi ((M 45 64) + 1)))
      else none
    else none
  else
    some M
set_option maxRecDepth 100000 in
theorem ft_199 {cn mo : Nat} {sc : eg_Sc} {d : Nat} {M : eM} {Q : Option eg_V → eg_H → Prop} {a : Int} {x : eM} (hx : fn_199 a M = some x) (hK : Q (none) (em_L cn mo, eh_R, x)) : eg_wp sc (d + 3) 199 [.inr (.inr (some 45)), .inr (.inl a)] (em_L cn mo, eh_R, M) 0 0 Q := by
  refine eg_in (lv := [some (.inr (.inr (some 45))), some (.inr (.inl a)), none]) eg_tj199 (Nat.le_of_ble_eq_true rfl) rfl ?_
  refine eg_k_aload rfl rfl ?_
  refine eg_k_lload rfl rfl ?_
  obtain ⟨r2, h1, hx⟩ := vb_bind hx
  refine eg_k_call (c1 := 0) (z1 := 0) (as := [.inr (.inr (some 45)), .inr (.inl a)]) (rest := []) rfl eg_tj200 (Nat.le_of_ble_eq_true rfl) rfl rfl rfl (Nat.le_of_ble_eq_true rfl) (Nat.le_refl _) (Nat.le_refl _) ?_ (fun Q hQ => ft_200 h1 hQ)
  refine vk_if rfl hx Iff.rfl (fun c4 hx => ?_) (fun c4 hx => ?_)
  · refine eg_k_aload rfl rfl ?_
    refine eg_k_gfa rfl rfl rfl eh_r45_35 ?_
    refine eg_k_lload rfl rfl ?_
    obtain ⟨r6, h5, hx⟩ := vb_bind hx
    refine eg_k_call (c1 := 0) (z1 := 0) (as := [.inr (.inl a)]) (rest := [.inr (.inr (some 67))]) rfl eg_tj187 (Nat.le_of_ble_eq_true rfl) rfl rfl trivial (Nat.le_of_ble_eq_true rfl) (Nat.le_refl _) (Nat.le_refl _) ?_ (fun Q hQ => ft_187 h5 hQ)
    refine eg_k_ci rfl ?_
    obtain ⟨b8, hx⟩ := vb_if hx
    refine eg_k_zast (k := 6700) rfl rfl b8.1 b8.2 (by decide) ?_
    refine eg_k_aload rfl rfl ?_
    refine eg_k_gfa rfl rfl rfl eh_r45_65 ?_
    refine eg_k_aload rfl rfl ?_
    refine eg_k_gfie (x := M 45 64) rfl rfl rfl rfl ?_
    refine eg_k_lload rfl rfl ?_
    obtain ⟨r10, h9, hx⟩ := vb_bind hx
    refine eg_k_call (c1 := 0) (z1 := 0) (as := [.inr (.inl a)]) (rest := [.inl (M 45 64), .inr (.inr (some 85))]) rfl eg_tj187 (Nat.le_of_ble_eq_true rfl) rfl rfl trivial (Nat.le_of_ble_eq_true rfl) (Nat.le_refl _) (Nat.le_refl _) ?_ (fun Q hQ => ft_187 h9 hQ)
    obtain ⟨b12, hx⟩ := vb_if hx
    refine eg_k_iast (k := 6700) rfl rfl b12.1 b12.2 ?_
    refine eg_k_aload rfl rfl ?_
    refine eg_k_aload rfl rfl ?_
    refine eg_k_gfie (x := M 45 64) rfl rfl rfl rfl ?_
    refine eg_k_ci rfl ?_
    refine eg_k_iadd rfl ?_
    refine eg_k_pfi rfl rfl rfl ?_
    have hx := Option.some.inj hx
    subst hx
    exact eg_k_ret rfl rfl (Nat.le_refl _) (Nat.le_refl _) hK
  · have hx := Option.some.inj hx
    subst hx
    exact eg_k_ret rfl rfl (Nat.le_refl _) (Nat.le_refl _) hK
theorem fw_199 {M : eM} {c : Nat} {a : Int} {x : eM} (hx : fn_199 a M = some x) (hc : c ∉ ([45, 67, 85] : List Nat)) (j : Nat) : x c j = M c j := by
  obtain ⟨v, hK⟩ : ∃ v, x c j = v := ⟨_, rfl⟩
  rw [hK]
  refine Eq.symm ?_
  obtain ⟨r2, h1, hx⟩ := vb_bind hx
  refine vb_ite hx (fun _ hx => ?_) (fun _ hx => ?_)
  · obtain ⟨r6, h5, hx⟩ := vb_bind hx
    obtain ⟨_, hx⟩ := vb_if hx
    obtain ⟨r10, h9, hx⟩ := vb_bind hx
    obtain ⟨_, hx⟩ := vb_if hx
    have hx := Option.some.inj hx
    subst hx
    exact ((congrFun (eg_u_ne (vne hc (a := 45) (by decide))) j).trans ((congrFun (eg_u_ne (vne hc (a := 85) (by decide))) j).trans ((congrFun (eg_u_ne (vne hc (a := 67) (by decide))) j).trans rfl))).symm.trans hK
  · have hx := Option.some.inj hx
    subst hx
    exact (Eq.refl _).symm.trans hK
noncomputable def fn_202_25 (x1 : Int) (x2 : Int) (s1 : Int) (s2 : eM) : Option ((Int × eM) ⊕ ((eM) ⊕ (eM))) :=
  if s1 < 0 then
    some (.inr (.inl s2))
  else
    if 4 ≤ x2 then
      some (.inr (.inl s2))
    else
      if 0 ≤ s1 ∧ s1 < 20000 then
      (fn_199 (s2 70 (s1).toNat) s2).bind fun m10 =>
        some (.inl (m10 71 (s1).toNat, m10))
      else none
noncomputable def fn_202_0 (s : eM) : Option ((eM) ⊕ (eM)) :=
  if (s 45 64) ≤ 0 then
    some (.inr s)
  else
    if 0 ≤ (eg_wi ((s 45 64) - 1)) ∧ (eg_wi ((s 45 64) - 1)) < 6700 then
    if 0 ≤ (s 85 (eg_wi ((s 45 64) - 1)).toNat) ∧ (s 85 (eg_wi ((s 45 64) - 1)).toNat) < 6700 then
      lp (fun z => fn_202_25 (s 85 (eg_wi ((s 45 64) - 1)).toNat) (s 62 (s 85 (eg_wi ((s 45 64) - 1)).toNat).toNat) z.1 z.2) (s 65 (s 85 (eg_wi ((s 45 64) - 1)).toNat).toNat, eg_u s 45 64 (eg_wi ((s 45 64) - 1)))
      else none
    else none
/-- 202: WeakSchemeModel.follow()V -/
noncomputable def fn_202 (M : eM) : Option (eM) :=
  lp (fn_202_0) M
set_option maxRecDepth 100000 in
theorem ft_202_25 {cn mo : Nat} {sc : eg_Sc} {d : Nat} {Q : Option eg_V → eg_H → Prop} {x1 : Int} {x2 : Int} {s : Int × eM} {x : (eM) ⊕ (eM)} (hx : lp (fun z => fn_202_25 x1 x2 z.1 z.2) s = some x) (hK : (eK (fun (s : eM) => ∀ (w1 w2 w3 : Option eg_V), eg_X sc (eg_wp sc (d + 3)) eg_p202 none 0 0 Q 0 [some (.inr (.inr (some 45))), w1, w2, w3] [] (em_L cn mo, eh_R, s) 0 0) (fun (x : eM) => Q (none) (em_L cn mo, eh_R, x))) x) : eg_X sc (eg_wp sc (d + 3)) eg_p202 none 0 0 Q 25 [some (.inr (.inr (some 45))), some (.inl x1), some (.inl x2), some (.inl s.1)] [] (em_L cn mo, eh_R, s.2) 0 0 := by
  refine lp_sound (P := (fun (s : Int × eM) => eg_X sc (eg_wp sc (d + 3)) eg_p202 none 0 0 Q 25 [some (.inr (.inr (some 45))), some (.inl x1), some (.inl x2), some (.inl s.1)] [] (em_L cn mo, eh_R, s.2) 0 0)) (K := (eK (fun (s : eM) => ∀ (w1 w2 w3 : Option eg_V), eg_X sc (eg_wp sc (d + 3)) eg_p202 none 0 0 Q 0 [some (.inr (.inr (some 45))), w1, w2, w3] [] (em_L cn mo, eh_R, s) 0 0) (fun (x : eM) => Q (none) (em_L cn mo, eh_R, x)))) hx hK ?_
  intro s x hx hK
  obtain ⟨s1, s2⟩ := s
  refine eg_k_iload rfl rfl ?_
  refine vk_if rfl hx Iff.rfl (fun c5 hx => ?_) (fun c5 hx => ?_)
  · refine eg_k_goto rfl ?_
    have hx := Option.some.inj hx
    subst hx
    exact hK (some (.inl x1)) (some (.inl x2)) (some (.inl s1))
  · refine eg_k_iload rfl rfl ?_
    refine eg_k_ci rfl ?_
    refine vk_icmp rfl hx Iff.rfl (fun c6 hx => ?_) (fun c6 hx => ?_)
    · refine eg_k_goto rfl ?_
      have hx := Option.some.inj hx
      subst hx
      exact hK (some (.inl x1)) (some (.inl x2)) (some (.inl s1))
    · refine eg_k_aload rfl rfl ?_
      refine eg_k_aload rfl rfl ?_
      refine eg_k_gfa rfl rfl rfl eh_r45_39 ?_
      refine eg_k_iload rfl rfl ?_
      obtain ⟨b7, hx⟩ := vb_if hx
      refine eg_k_lald (k := 20000) rfl rfl b7.1 b7.2 ?_
      obtain ⟨m10, h8, hx⟩ := vb_bind hx
      refine eg_k_call (c1 := 0) (z1 := 0) (as := [.inr (.inr (some 45)), .inr (.inl (s2 70 (s1).toNat))]) (rest := []) rfl eg_tj199 (Nat.le_of_ble_eq_true rfl) rfl rfl rfl (Nat.le_of_ble_eq_true rfl) (Nat.le_refl _) (Nat.le_refl _) ?_ (fun Q hQ => ft_199 h8 hQ)
      refine eg_k_aload rfl rfl ?_
      refine eg_k_gfa rfl rfl rfl eh_r45_40 ?_
      refine eg_k_iload rfl rfl ?_
      refine eg_k_iald (k := 20000) rfl rfl b7.1 b7.2 ?_
      refine eg_k_istore (lv' := [some (.inr (.inr (some 45))), some (.inl x1), some (.inl x2), some (.inl (m10 71 (s1).toNat))]) rfl rfl ?_
      refine eg_k_goto rfl ?_
      have hx := Option.some.inj hx
      subst hx
      exact hK
set_option maxRecDepth 100000 in
theorem ft_202_0 {cn mo : Nat} {sc : eg_Sc} {d : Nat} {Q : Option eg_V → eg_H → Prop} {s : eM} {x : eM} (hx : lp (fn_202_0) s = some x) (hK : (fun (x : eM) => Q (none) (em_L cn mo, eh_R, x)) x) : ∀ (w1 w2 w3 : Option eg_V), eg_X sc (eg_wp sc (d + 3)) eg_p202 none 0 0 Q 0 [some (.inr (.inr (some 45))), w1, w2, w3] [] (em_L cn mo, eh_R, s) 0 0 := by
  refine lp_sound (P := (fun (s : eM) => ∀ (w1 w2 w3 : Option eg_V), eg_X sc (eg_wp sc (d + 3)) eg_p202 none 0 0 Q 0 [some (.inr (.inr (some 45))), w1, w2, w3] [] (em_L cn mo, eh_R, s) 0 0)) (K := (fun (x : eM) => Q (none) (em_L cn mo, eh_R, x))) hx hK ?_
  intro s x hx hK w1 w2 w3
  refine eg_k_aload rfl rfl ?_
  refine eg_k_gfi rfl rfl rfl ?_
  refine vk_if rfl hx Iff.rfl (fun c1 hx => ?_) (fun c1 hx => ?_)
  · have hx := Option.some.inj hx
    subst hx
    exact eg_k_ret rfl rfl (Nat.le_refl _) (Nat.le_refl _) hK
  · refine eg_k_aload rfl rfl ?_
    refine eg_k_aload rfl rfl ?_
    refine eg_k_gfi rfl rfl rfl ?_
    refine eg_k_ci rfl ?_
    refine eg_k_isub rfl ?_
    refine eg_k_pfi rfl rfl rfl ?_
    refine eg_k_aload rfl rfl ?_
    refine eg_k_gfa rfl rfl rfl eh_r45_65 ?_
    refine eg_k_aload rfl rfl ?_
    refine eg_k_gfie (x := eg_wi ((s 45 64) - 1)) rfl rfl rfl rfl ?_
    obtain ⟨b2, hx⟩ := vb_if hx
    refine vk_iald (k := 6700) (y := s 85 (eg_wi ((s 45 64) - 1)).toNat) rfl rfl b2.1 b2.2 rfl ?_
    refine eg_k_istore (lv' := [some (.inr (.inr (some 45))), some (.inl (s 85 (eg_wi ((s 45 64) - 1)).toNat)), w2, w3]) rfl rfl ?_
    refine eg_k_aload rfl rfl ?_
    refine eg_k_gfa rfl rfl rfl eh_r45_30 ?_
    refine eg_k_iload rfl rfl ?_
    obtain ⟨b3, hx⟩ := vb_if hx
    refine vk_bald (k := 6700) (y := s 62 (s 85 (eg_wi ((s 45 64) - 1)).toNat).toNat) rfl rfl b3.1 b3.2 rfl ?_
    refine eg_k_istore (lv' := [some (.inr (.inr (some 45))), some (.inl (s 85 (eg_wi ((s 45 64) - 1)).toNat)), some (.inl (s 62 (s 85 (eg_wi ((s 45 64) - 1)).toNat).toNat)), w3]) rfl rfl ?_
    refine eg_k_aload rfl rfl ?_
    refine eg_k_gfa rfl rfl rfl eh_r45_33 ?_
    refine eg_k_iload rfl rfl ?_
    refine vk_iald (k := 6700) (y := s 65 (s 85 (eg_wi ((s 45 64) - 1)).toNat).toNat) rfl rfl b3.1 b3.2 rfl ?_
    refine eg_k_istore (lv' := [some (.inr (.inr (some 45))), some (.inl (s 85 (eg_wi ((s 45 64) - 1)).toNat)), some (.inl (s 62 (s 85 (eg_wi ((s 45 64) - 1)).toNat).toNat)), some (.inl (s 65 (s 85 (eg_wi ((s 45 64) - 1)).toNat).toNat))]) rfl rfl ?_
    have hz := ft_202_25 (d := d) (sc := sc) hx hK
    exact hz
set_option maxRecDepth 100000 in
theorem ft_202 {cn mo : Nat} {sc : eg_Sc} {d : Nat} {M : eM} {Q : Option eg_V → eg_H → Prop} {x : eM} (hx : fn_202 M = some x) (hK : Q (none) (em_L cn mo, eh_R, x)) : eg_wp sc (d + 4) 202 [.inr (.inr (some 45))] (em_L cn mo, eh_R, M) 0 0 Q := by
  refine eg_in (lv := [some (.inr (.inr (some 45))), none, none, none]) eg_tj202 (Nat.le_of_ble_eq_true rfl) rfl ?_
  have hz := ft_202_0 (d := d) (sc := sc) hx hK
  exact hz none none none
theorem fw_202_25 {c j : Nat} {v : Int} {x1 : Int} {x2 : Int} {s : Int × eM} {x : (eM) ⊕ (eM)} (hc : c ∉ ([45, 67, 85] : List Nat)) (hx : lp (fun z => fn_202_25 x1 x2 z.1 z.2) s = some x) (hK : (eK (fun (s : eM) => s c j = v) (fun (x : eM) => x c j = v)) x) : s.2 c j = v := by
  refine lp_sound (P := (fun (s : Int × eM) => s.2 c j = v)) (K := (eK (fun (s : eM) => s c j = v) (fun (x : eM) => x c j = v))) hx hK ?_
  intro s x hx hK
  obtain ⟨s1, s2⟩ := s
  refine vb_ite hx (fun _ hx => ?_) (fun _ hx => ?_)
  · have hx := Option.some.inj hx
    subst hx
    exact (Eq.refl _).symm.trans hK
  · refine vb_ite hx (fun _ hx => ?_) (fun _ hx => ?_)
    · have hx := Option.some.inj hx
      subst hx
      exact (Eq.refl _).symm.trans hK
    · obtain ⟨_, hx⟩ := vb_if hx
      obtain ⟨m10, h8, hx⟩ := vb_bind hx
      have hx := Option.some.inj hx
      subst hx
      exact ((fw_199 h8 (vsub hc (by decide)) j).trans rfl).symm.trans hK
theorem fw_202_0 {c j : Nat} {v : Int} {s : eM} {x : eM} (hc : c ∉ ([45, 67, 85] : List Nat)) (hx : lp (fn_202_0) s = some x) (hK : (fun (x : eM) => x c j = v) x) : s c j = v := by
  refine lp_sound (P := (fun (s : eM) => s c j = v)) (K := (fun (x : eM) => x c j = v)) hx hK ?_
  intro s x hx hK
  refine vb_ite hx (fun _ hx => ?_) (fun _ hx => ?_)
  · have hx := Option.some.inj hx
    subst hx
    exact (Eq.refl _).symm.trans hK
  · obtain ⟨_, hx⟩ := vb_if hx
    obtain ⟨_, hx⟩ := vb_if hx
    have hz := fw_202_25 hc hx hK
    exact ((congrFun (eg_u_ne (vne hc (a := 45) (by decide))) j).trans rfl).symm.trans hz
theorem fw_202 {M : eM} {c : Nat} {x : eM} (hx : fn_202 M = some x) (hc : c ∉ ([45, 67, 85] : List Nat)) (j : Nat) : x c j = M c j := by
  obtain ⟨v, hK⟩ : ∃ v, x c j = v := ⟨_, rfl⟩
  rw [hK]
  refine Eq.symm ?_
  have hz := fw_202_0 hc hx hK
  exact (Eq.refl _).symm.trans hz
noncomputable def fn_204_32 (x1 : Int) (x3 : Int) (x4 : Int) (y0 : Int) (M : eM) : Option ((Int × Int × eM) ⊕ (Int × eM)) :=
  if y0 = 0 then
    (fn_189 x4 2 M).bind fun r14 =>
    some (.inl (x3, r14, M))
  else
    (fn_187 x4 M).bind fun r17 =>
    if 0 ≤ r17 ∧ r17 < 6700 then
    (fn_189 x4 1 (eg_u M 67 (r17).toNat 1)).bind fun r21 =>
      (fn_199 r21 (eg_u M 67 (r17).toNat 1)).bind fun m25 =>
      (fn_189 x4 2 m25).bind fun r27 =>
      some (.inl (1, r27, m25))
    else none
noncomputable def fn_204_31 (x1 : Int) (x3 : Int) (x4 : Int) (M : eM) : Option ((Int × Int × eM) ⊕ (Int × eM)) :=
  fn_204_32 x1 x3 x4 0 M
noncomputable def fn_204_29 (x1 : Int) (x3 : Int) (x4 : Int) (M : eM) : Option ((Int × Int × eM) ⊕ (Int × eM)) :=
  fn_204_32 x1 x3 x4 1 M
noncomputable def fn_204_7 (x1 : Int) (s1 : Int) (s2 : Int) (s3 : eM) : Option ((Int × Int × eM) ⊕ (Int × eM)) :=
  if s2 = (-1) then
    if s1 = 0 ∨ s1 = 1 then some (.inr (s1, s3)) else none
  else
    (fn_189 s2 0 s3).bind fun r6 =>
    (fn_200 r6 s3).bind fun r9 =>
    if r9 = 0 then
      fn_204_31 x1 s1 s2 s3
    else
      (fn_200 s2 s3).bind fun r30 =>
      if r30 = 0 then
        fn_204_29 x1 s1 s2 s3
      else
        (fn_189 s2 1 s3).bind fun r34 =>
        (fn_200 r34 s3).bind fun r37 =>
        if ¬ r37 = 0 then
          fn_204_31 x1 s1 s2 s3
        else
          fn_204_29 x1 s1 s2 s3
/-- 204: WeakSchemeModel.entries(J)Z -/
noncomputable def fn_204 (a : Int) (M : eM) : Option (Int × eM) :=
  (fn_189 a 0 M).bind fun r2 =>
  lp (fun z => fn_204_7 a z.1 z.2.1 z.2.2) (0, r2, M)
set_option maxRecDepth 100000 in
theorem ft_204_32 {cn mo : Nat} {sc : eg_Sc} {d : Nat} {M : eM} {Q : Option eg_V → eg_H → Prop} {x1 : Int} {x3 : Int} {x4 : Int} {y0 : Int} {x : (Int × Int × eM) ⊕ (Int × eM)} (hx : fn_204_32 x1 x3 x4 y0 M = some x) (hK : (eK (fun (s : Int × Int × eM) => ∀ (w6 : Option eg_V), eg_X sc (eg_wp sc (d + 3)) eg_p204 (some .boolean) 0 0 Q 7 [some (.inr (.inr (some 45))), some (.inr (.inl x1)), none, some (.inl s.1), some (.inr (.inl s.2.1)), none, w6] [] (em_L cn mo, eh_R, s.2.2) 0 0) (fun (x : Int × eM) => Q (some (.inl ((x).1))) (em_L cn mo, eh_R, (x).2))) x) : ∀ (w6 : Option eg_V), eg_X sc (eg_wp sc (d + 3)) eg_p204 (some .boolean) 0 0 Q 32 [some (.inr (.inr (some 45))), some (.inr (.inl x1)), none, some (.inl x3), some (.inr (.inl x4)), none, w6] [.inl y0] (em_L cn mo, eh_R, M) 0 0 := by
  intro w6
  refine eg_k_istore (lv' := [some (.inr (.inr (some 45))), some (.inr (.inl x1)), none, some (.inl x3), some (.inr (.inl x4)), none, some (.inl y0)]) rfl rfl ?_
  refine eg_k_iload rfl rfl ?_
  refine vk_if rfl hx Iff.rfl (fun c12 hx => ?_) (fun c12 hx => ?_)
  · refine eg_k_aload rfl rfl ?_
    refine eg_k_lload rfl rfl ?_
    refine eg_k_ci rfl ?_
    obtain ⟨r14, h13, hx⟩ := vb_bind hx
    refine eg_k_call (c1 := 0) (z1 := 0) (as := [.inr (.inr (some 45)), .inr (.inl x4), .inl 2]) (rest := []) rfl eg_tj189 (Nat.le_of_ble_eq_true rfl) rfl rfl rfl (Nat.le_of_ble_eq_true rfl) (Nat.le_refl _) (Nat.le_refl _) ?_ (fun Q hQ => ft_189 h13 hQ)
    refine eg_k_lstore (lv' := [some (.inr (.inr (some 45))), some (.inr (.inl x1)), none, some (.inl x3), some (.inr (.inl r14)), none, some (.inl y0)]) rfl rfl ?_
    refine eg_k_goto rfl ?_
    have hx := Option.some.inj hx
    subst hx
    exact hK (some (.inl y0))
  · refine eg_k_aload rfl rfl ?_
    refine eg_k_gfa rfl rfl rfl eh_r45_35 ?_
    refine eg_k_lload rfl rfl ?_
    obtain ⟨r17, h16, hx⟩ := vb_bind hx
    refine eg_k_call (c1 := 0) (z1 := 0) (as := [.inr (.inl x4)]) (rest := [.inr (.inr (some 67))]) rfl eg_tj187 (Nat.le_of_ble_eq_true rfl) rfl rfl trivial (Nat.le_of_ble_eq_true rfl) (Nat.le_refl _) (Nat.le_refl _) ?_ (fun Q hQ => ft_187 h16 hQ)
    refine eg_k_ci rfl ?_
    obtain ⟨b19, hx⟩ := vb_if hx
    refine eg_k_zast (k := 6700) rfl rfl b19.1 b19.2 (by decide) ?_
    refine eg_k_aload rfl rfl ?_
    refine eg_k_aload rfl rfl ?_
    refine eg_k_lload rfl rfl ?_
    refine eg_k_ci rfl ?_
    obtain ⟨r21, h20, hx⟩ := vb_bind hx
    refine eg_k_call (c1 := 0) (z1 := 0) (as := [.inr (.inr (some 45)), .inr (.inl x4), .inl 1]) (rest := [.inr (.inr (some 45))]) rfl eg_tj189 (Nat.le_of_ble_eq_true rfl) rfl rfl rfl (Nat.le_of_ble_eq_true rfl) (Nat.le_refl _) (Nat.le_refl _) ?_ (fun Q hQ => ft_189 h20 hQ)
    obtain ⟨m25, h23, hx⟩ := vb_bind hx
    refine eg_k_call (c1 := 0) (z1 := 0) (as := [.inr (.inr (some 45)), .inr (.inl r21)]) (rest := []) rfl eg_tj199 (Nat.le_of_ble_eq_true rfl) rfl rfl rfl (Nat.le_of_ble_eq_true rfl) (Nat.le_refl _) (Nat.le_refl _) ?_ (fun Q hQ => ft_199 h23 hQ)
    refine eg_k_ci rfl ?_
    refine eg_k_istore (lv' := [some (.inr (.inr (some 45))), some (.inr (.inl x1)), none, some (.inl 1), some (.inr (.inl x4)), none, some (.inl y0)]) rfl rfl ?_
    refine eg_k_aload rfl rfl ?_
    refine eg_k_lload rfl rfl ?_
    refine eg_k_ci rfl ?_
    obtain ⟨r27, h26, hx⟩ := vb_bind hx
    refine eg_k_call (c1 := 0) (z1 := 0) (as := [.inr (.inr (some 45)), .inr (.inl x4), .inl 2]) (rest := []) rfl eg_tj189 (Nat.le_of_ble_eq_true rfl) rfl rfl rfl (Nat.le_of_ble_eq_true rfl) (Nat.le_refl _) (Nat.le_refl _) ?_ (fun Q hQ => ft_189 h26 hQ)
    refine eg_k_lstore (lv' := [some (.inr (.inr (some 45))), some (.inr (.inl x1)), none, some (.inl 1), some (.inr (.inl r27)), none, some (.inl y0)]) rfl rfl ?_
    refine eg_k_goto rfl ?_
    have hx := Option.some.inj hx
    subst hx
    exact hK (some (.inl y0))
set_option maxRecDepth 100000 in
theorem ft_204_31 {cn mo : Nat} {sc : eg_Sc} {d : Nat} {M : eM} {Q : Option eg_V → eg_H → Prop} {x1 : Int} {x3 : Int} {x4 : Int} {x : (Int × Int × eM) ⊕ (Int × eM)} (hx : fn_204_31 x1 x3 x4 M = some x) (hK : (eK (fun (s : Int × Int × eM) => ∀ (w6 : Option eg_V), eg_X sc (eg_wp sc (d + 3)) eg_p204 (some .boolean) 0 0 Q 7 [some (.inr (.inr (some 45))), some (.inr (.inl x1)), none, some (.inl s.1), some (.inr (.inl s.2.1)), none, w6] [] (em_L cn mo, eh_R, s.2.2) 0 0) (fun (x : Int × eM) => Q (some (.inl ((x).1))) (em_L cn mo, eh_R, (x).2))) x) : ∀ (w6 : Option eg_V), eg_X sc (eg_wp sc (d + 3)) eg_p204 (some .boolean) 0 0 Q 31 [some (.inr (.inr (some 45))), some (.inr (.inl x1)), none, some (.inl x3), some (.inr (.inl x4)), none, w6] [] (em_L cn mo, eh_R, M) 0 0 := by
  intro w6
  refine eg_k_ci rfl ?_
  have hz := ft_204_32 (d := d) (sc := sc) hx hK
  exact hz w6
set_option maxRecDepth 100000 in
theorem ft_204_29 {cn mo : Nat} {sc : eg_Sc} {d : Nat} {M : eM} {Q : Option eg_V → eg_H → Prop} {x1 : Int} {x3 : Int} {x4 : Int} {x : (Int × Int × eM) ⊕ (Int × eM)} (hx : fn_204_29 x1 x3 x4 M = some x) (hK : (eK (fun (s : Int × Int × eM) => ∀ (w6 : Option eg_V), eg_X sc (eg_wp sc (d + 3)) eg_p204 (some .boolean) 0 0 Q 7 [some (.inr (.inr (some 45))), some (.inr (.inl x1)), none, some (.inl s.1), some (.inr (.inl s.2.1)), none, w6] [] (em_L cn mo, eh_R, s.2.2) 0 0) (fun (x : Int × eM) => Q (some (.inl ((x).1))) (em_L cn mo, eh_R, (x).2))) x) : ∀ (w6 : Option eg_V), eg_X sc (eg_wp sc (d + 3)) eg_p204 (some .boolean) 0 0 Q 29 [some (.inr (.inr (some 45))), some (.inr (.inl x1)), none, some (.inl x3), some (.inr (.inl x4)), none, w6] [] (em_L cn mo, eh_R, M) 0 0 := by
  intro w6
  refine eg_k_ci rfl ?_
  refine eg_k_goto rfl ?_
  have hz := ft_204_32 (d := d) (sc := sc) hx hK
  exact hz w6
set_option maxRecDepth 100000 in
theorem ft_204_7 {cn mo : Nat} {sc : eg_Sc} {d : Nat} {Q : Option eg_V → eg_H → Prop} {x1 : Int} {s : Int × Int × eM} {x : Int × eM} (hx : lp (fun z => fn_204_7 x1 z.1 z.2.1 z.2.2) s = some x) (hK : (fun (x : Int × eM) => Q (some (.inl ((x).1))) (em_L cn mo, eh_R, (x).2)) x) : ∀ (w6 : Option eg_V), eg_X sc (eg_wp sc (d + 3)) eg_p204 (some .boolean) 0 0 Q 7 [some (.inr (.inr (some 45))), some (.inr (.inl x1)), none, some (.inl s.1), some (.inr (.inl s.2.1)), none, w6] [] (em_L cn mo, eh_R, s.2.2) 0 0 := by
  refine lp_sound (P := (fun (s : Int × Int × eM) => ∀ (w6 : Option eg_V), eg_X sc (eg_wp sc (d + 3)) eg_p204 (some .boolean) 0 0 Q 7 [some (.inr (.inr (some 45))), some (.inr (.inl x1)), none, some (.inl s.1), some (.inr (.inl s.2.1)), none, w6] [] (em_L cn mo, eh_R, s.2.2) 0 0)) (K := (fun (x : Int × eM) => Q (some (.inl ((x).1))) (em_L cn mo, eh_R, (x).2))) hx hK ?_
  intro s x hx hK w6
  obtain ⟨s1, s2, s3⟩ := s
  refine eg_k_lload rfl rfl ?_
  refine eg_k_cl rfl ?_
  refine vk_lcmp rfl rfl hx Iff.rfl (fun c4 hx => ?_) (fun c4 hx => ?_)
  · refine eg_k_iload rfl rfl ?_
    obtain ⟨b9, hx⟩ := vb_if hx
    have hx := Option.some.inj hx
    subst hx
    exact eg_k_iret rfl b9 (Nat.le_refl _) (Nat.le_refl _) hK
  · refine eg_k_aload rfl rfl ?_
    refine eg_k_aload rfl rfl ?_
    refine eg_k_lload rfl rfl ?_
    refine eg_k_ci rfl ?_
    obtain ⟨r6, h5, hx⟩ := vb_bind hx
    refine eg_k_call (c1 := 0) (z1 := 0) (as := [.inr (.inr (some 45)), .inr (.inl s2), .inl 0]) (rest := [.inr (.inr (some 45))]) rfl eg_tj189 (Nat.le_of_ble_eq_true rfl) rfl rfl rfl (Nat.le_of_ble_eq_true rfl) (Nat.le_refl _) (Nat.le_refl _) ?_ (fun Q hQ => ft_189 h5 hQ)
    obtain ⟨r9, h8, hx⟩ := vb_bind hx
    refine eg_k_call (c1 := 0) (z1 := 0) (as := [.inr (.inr (some 45)), .inr (.inl r6)]) (rest := []) rfl eg_tj200 (Nat.le_of_ble_eq_true rfl) rfl rfl rfl (Nat.le_of_ble_eq_true rfl) (Nat.le_refl _) (Nat.le_refl _) ?_ (fun Q hQ => ft_200 h8 hQ)
    refine vk_if rfl hx Iff.rfl (fun c11 hx => ?_) (fun c11 hx => ?_)
    · have hz := ft_204_31 (d := d) (sc := sc) hx hK
      exact hz w6
    · refine eg_k_aload rfl rfl ?_
      refine eg_k_lload rfl rfl ?_
      obtain ⟨r30, h29, hx⟩ := vb_bind hx
      refine eg_k_call (c1 := 0) (z1 := 0) (as := [.inr (.inr (some 45)), .inr (.inl s2)]) (rest := []) rfl eg_tj200 (Nat.le_of_ble_eq_true rfl) rfl rfl rfl (Nat.le_of_ble_eq_true rfl) (Nat.le_refl _) (Nat.le_refl _) ?_ (fun Q hQ => ft_200 h29 hQ)
      refine vk_if rfl hx Iff.rfl (fun c32 hx => ?_) (fun c32 hx => ?_)
      · have hz := ft_204_29 (d := d) (sc := sc) hx hK
        exact hz w6
      · refine eg_k_aload rfl rfl ?_
        refine eg_k_aload rfl rfl ?_
        refine eg_k_lload rfl rfl ?_
        refine eg_k_ci rfl ?_
        obtain ⟨r34, h33, hx⟩ := vb_bind hx
        refine eg_k_call (c1 := 0) (z1 := 0) (as := [.inr (.inr (some 45)), .inr (.inl s2), .inl 1]) (rest := [.inr (.inr (some 45))]) rfl eg_tj189 (Nat.le_of_ble_eq_true rfl) rfl rfl rfl (Nat.le_of_ble_eq_true rfl) (Nat.le_refl _) (Nat.le_refl _) ?_ (fun Q hQ => ft_189 h33 hQ)
        obtain ⟨r37, h36, hx⟩ := vb_bind hx
        refine eg_k_call (c1 := 0) (z1 := 0) (as := [.inr (.inr (some 45)), .inr (.inl r34)]) (rest := []) rfl eg_tj200 (Nat.le_of_ble_eq_true rfl) rfl rfl rfl (Nat.le_of_ble_eq_true rfl) (Nat.le_refl _) (Nat.le_refl _) ?_ (fun Q hQ => ft_200 h36 hQ)
        refine vk_if rfl hx Iff.rfl (fun c39 hx => ?_) (fun c39 hx => ?_)
        · have hz := ft_204_31 (d := d) (sc := sc) hx hK
          exact hz w6
        · have hz := ft_204_29 (d := d) (sc := sc) hx hK
          exact hz w6
set_option maxRecDepth 100000 in
theorem ft_204 {cn mo : Nat} {sc : eg_Sc} {d : Nat} {M : eM} {Q : Option eg_V → eg_H → Prop} {a : Int} {x : Int × eM} (hx : fn_204 a M = some x) (hK : Q (some (.inl ((x).1))) (em_L cn mo, eh_R, (x).2)) : eg_wp sc (d + 4) 204 [.inr (.inr (some 45)), .inr (.inl a)] (em_L cn mo, eh_R, M) 0 0 Q := by
  refine eg_in (lv := [some (.inr (.inr (some 45))), some (.inr (.inl a)), none, none, none, none, none]) eg_tj204 (Nat.le_of_ble_eq_true rfl) rfl ?_
  refine eg_k_ci rfl ?_
  refine eg_k_istore (lv' := [some (.inr (.inr (some 45))), some (.inr (.inl a)), none, some (.inl 0), none, none, none]) rfl rfl ?_
  refine eg_k_aload rfl rfl ?_
  refine eg_k_lload rfl rfl ?_
  refine eg_k_ci rfl ?_
  obtain ⟨r2, h1, hx⟩ := vb_bind hx
  refine eg_k_call (c1 := 0) (z1 := 0) (as := [.inr (.inr (some 45)), .inr (.inl a), .inl 0]) (rest := []) rfl eg_tj189 (Nat.le_of_ble_eq_true rfl) rfl rfl rfl (Nat.le_of_ble_eq_true rfl) (Nat.le_refl _) (Nat.le_refl _) ?_ (fun Q hQ => ft_189 h1 hQ)
  refine eg_k_lstore (lv' := [some (.inr (.inr (some 45))), some (.inr (.inl a)), none, some (.inl 0), some (.inr (.inl r2)), none, none]) rfl rfl ?_
  have hz := ft_204_7 (d := d) (sc := sc) hx hK
  exact hz none
theorem fw_204_32 {M : eM} {c j : Nat} {v : Int} {x1 : Int} {x3 : Int} {x4 : Int} {y0 : Int} {x : (Int × Int × eM) ⊕ (Int × eM)} (hc : c ∉ ([45, 67, 85] : List Nat)) (hx : fn_204_32 x1 x3 x4 y0 M = some x) (hK : (eK (fun (s : Int × Int × eM) => s.2.2 c j = v) (fun (x : Int × eM) => ((x).2) c j = v)) x) : M c j = v := by
  refine vb_ite hx (fun _ hx => ?_) (fun _ hx => ?_)
  · obtain ⟨r14, h13, hx⟩ := vb_bind hx
    have hx := Option.some.inj hx
    subst hx
    exact (Eq.refl _).symm.trans hK
  · obtain ⟨r17, h16, hx⟩ := vb_bind hx
    obtain ⟨_, hx⟩ := vb_if hx
    obtain ⟨r21, h20, hx⟩ := vb_bind hx
    obtain ⟨m25, h23, hx⟩ := vb_bind hx
    obtain ⟨r27, h26, hx⟩ := vb_bind hx
    have hx := Option.some.inj hx
    subst hx
    exact ((fw_199 h23 (vsub hc (by decide)) j).trans ((congrFun (eg_u_ne (vne hc (a := 67) (by decide))) j).trans rfl)).symm.trans hK
theorem fw_204_31 {M : eM} {c j : Nat} {v : Int} {x1 : Int} {x3 : Int} {x4 : Int} {x : (Int × Int × eM) ⊕ (Int × eM)} (hc : c ∉ ([45, 67, 85] : List Nat)) (hx : fn_204_31 x1 x3 x4 M = some x) (hK : (eK (fun (s : Int × Int × eM) => s.2.2 c j = v) (fun (x : Int × eM) => ((x).2) c j = v)) x) : M c j = v := by
  have hz := fw_204_32 hc hx hK
  exact (Eq.refl _).symm.trans hz
theorem fw_204_29 {M : eM} {c j : Nat} {v : Int} {x1 : Int} {x3 : Int} {x4 : Int} {x : (Int × Int × eM) ⊕ (Int × eM)} (hc : c ∉ ([45, 67, 85] : List Nat)) (hx : fn_204_29 x1 x3 x4 M = some x) (hK : (eK (fun (s : Int × Int × eM) => s.2.2 c j = v) (fun (x : Int × eM) => ((x).2) c j = v)) x) : M c j = v := by
  have hz := fw_204_32 hc hx hK
  exact (Eq.refl _).symm.trans hz
theorem fw_204_7 {c j : Nat} {v : Int} {x1 : Int} {s : Int × Int × eM} {x : Int × eM} (hc : c ∉ ([45, 67, 85] : List Nat)) (hx : lp (fun z => fn_204_7 x1 z.1 z.2.1 z.2.2) s = some x) (hK : (fun (x : Int × eM) => ((x).2) c j = v) x) : s.2.2 c j = v := by
  refine lp_sound (P := (fun (s : Int × Int × eM) => s.2.2 c j = v)) (K := (fun (x : Int × eM) => ((x).2) c j = v)) hx hK ?_
  intro s x hx hK
  obtain ⟨s1, s2, s3⟩ := s
  refine vb_ite hx (fun _ hx => ?_) (fun _ hx => ?_)
  · obtain ⟨_, hx⟩ := vb_if hx
    have hx := Option.some.inj hx
    subst hx
    exact (Eq.refl _).symm.trans hK
  · obtain ⟨r6, h5, hx⟩ := vb_bind hx
    obtain ⟨r9, h8, hx⟩ := vb_bind hx
    refine vb_ite hx (fun _ hx => ?_) (fun _ hx => ?_)
    · have hz := fw_204_31 hc hx hK
      exact (Eq.refl _).symm.trans hz
    · obtain ⟨r30, h29, hx⟩ := vb_bind hx
      refine vb_ite hx (fun _ hx => ?_) (fun _ hx => ?_)
      · have hz := fw_204_29 hc hx hK
        exact (Eq.refl _).symm.trans hz
      · obtain ⟨r34, h33, hx⟩ := vb_bind hx
        obtain ⟨r37, h36, hx⟩ := vb_bind hx
        refine vb_ite hx (fun _ hx => ?_) (fun _ hx => ?_)
        · have hz := fw_204_31 hc hx hK
          exact (Eq.refl _).symm.trans hz
        · have hz := fw_204_29 hc hx hK
          exact (Eq.refl _).symm.trans hz
theorem fw_204 {M : eM} {c : Nat} {a : Int} {x : Int × eM} (hx : fn_204 a M = some x) (hc : c ∉ ([45, 67, 85] : List Nat)) (j : Nat) : ((x).2) c j = M c j := by
  obtain ⟨v, hK⟩ : ∃ v, ((x).2) c j = v := ⟨_, rfl⟩
  rw [hK]
  refine Eq.symm ?_
  obtain ⟨r2, h1, hx⟩ := vb_bind hx
  have hz := fw_204_7 hc hx hK
  exact (Eq.refl _).symm.trans hz
noncomputable def fn_203_71 (s1 : Int) (s2 : Int) (s3 : eM) : Option ((Int × Int × eM) ⊕ (Int × eM)) :=
  if (s3 45 45) ≤ s2 then
    (fn_202 s3).bind fun m5 =>
    if s1 = 0 ∨ s1 = 1 then some (.inr (s1, m5)) else none
  else
    if 0 ≤ s2 ∧ s2 < 500 then
    (fn_200 (s3 73 (s2).toNat) s3).bind fun r8 =>
      if r8 = 0 then
        some (.inl (s1, eg_wi (s2 + 1), s3))
      else
        (fn_200 (s3 74 (s2).toNat) s3).bind fun r13 =>
        if ¬ r13 = 0 then
          some (.inl (s1, eg_wi (s2 + 1), s3))
        else
          (fn_199 (s3 74 (s2).toNat) s3).bind fun m19 =>
          some (.inl (1, eg_wi (s2 + 1), m19))
    else none
noncomputable def fn_203_51 (x1 : Int) (x2 : Int) (x3 : Int) (M : eM) : Option ((Int × Int × eM) ⊕ (Int × eM)) :=
  if 0 ≤ x2 ∧ x2 < 6700 then
  if ¬ (M 62 (x2).toNat) = 6 then
      some (.inl (x1, eg_wi (x2 + 1), M))
    else
      (fn_204 x3 M).bind fun r29 =>
      if ¬ r29.1 = 0 then
        some (.inl (1, eg_wi (x2 + 1), r29.2))
      else
        if x1 = 0 then
          some (.inl (0, eg_wi (x2 + 1), r29.2))
        else
          some (.inl (1, eg_wi (x2 + 1), r29.2))
  else none
noncomputable def fn_203_4 (s1 : Int) (s2 : Int) (s3 : eM) : Option ((Int × Int × eM) ⊕ (Int × eM)) :=
  if 6700 ≤ s2 then
    (lp (fun z => fn_203_71 z.1 z.2.1 z.2.2) (s1, 0, s3)).map Sum.inr
  else
    if 0 ≤ s2 ∧ s2 < 6700 then
    if (s3 68 (s2).toNat) = 0 then
        some (.inl (s1, eg_wi (s2 + 1), s3))
      else
        if ¬ (s3 67 (s2).toNat) = 0 then
          if ¬ (s3 62 (s2).toNat) = 5 then
            fn_203_51 s1 s2 (eb_lor 25769803776 s2) s3
          else
            (fn_189 (eb_lor 25769803776 s2) 0 s3).bind fun r34 =>
            (fn_200 r34 s3).bind fun r37 =>
            if r37 = 0 then
              fn_203_51 s1 s2 (eb_lor 25769803776 s2) s3
            else
              (fn_189 (eb_lor 25769803776 s2) 1 s3).bind fun r41 =>
              (fn_200 r41 s3).bind fun r44 =>
              if ¬ r44 = 0 then
                fn_203_51 s1 s2 (eb_lor 25769803776 s2) s3
              else
                (fn_189 (eb_lor 25769803776 s2) 1 s3).bind fun r48 =>
                (fn_199 r48 s3).bind fun m52 =>
                fn_203_51 1 s2 (eb_lor 25769803776 s2) m52
        else
          some (.inl (s1, eg_wi (s2 + 1), s3))
    else none
/-- 203: WeakSchemeModel.keyed()Z -/
noncomputable def fn_203 (M : eM) : Option (Int × eM) :=
  lp (fun z => fn_203_4 z.1 z.2.1 z.2.2) (0, 0, M)
set_option maxRecDepth 100000 in
theorem ft_203_71 {cn mo : Nat} {sc : eg_Sc} {d : Nat} {Q : Option eg_V → eg_H → Prop} {s : Int × Int × eM} {x : Int × eM} (hx : lp (fun z => fn_203_71 z.1 z.2.1 z.2.2) s = some x) (hK : (fun (x : Int × eM) => Q (some (.inl ((x).1))) (em_L cn mo, eh_R, (x).2)) x) : ∀ (w3 w4 : Option eg_V), eg_X sc (eg_wp sc (d + 4)) eg_p203 (some .boolean) 0 0 Q 71 [some (.inr (.inr (some 45))), some (.inl s.1), some (.inl s.2.1), w3, w4] [] (em_L cn mo, eh_R, s.2.2) 0 0 := by
  refine lp_sound (P := (fun (s : Int × Int × eM) => ∀ (w3 w4 : Option eg_V), eg_X sc (eg_wp sc (d + 4)) eg_p203 (some .boolean) 0 0 Q 71 [some (.inr (.inr (some 45))), some (.inl s.1), some (.inl s.2.1), w3, w4] [] (em_L cn mo, eh_R, s.2.2) 0 0)) (K := (fun (x : Int × eM) => Q (some (.inl ((x).1))) (em_L cn mo, eh_R, (x).2))) hx hK ?_
  intro s x hx hK w3 w4
  obtain ⟨s1, s2, s3⟩ := s
  refine eg_k_iload rfl rfl ?_
  refine eg_k_aload rfl rfl ?_
  refine eg_k_gfi rfl rfl rfl ?_
  refine vk_icmp rfl hx Iff.rfl (fun c2 hx => ?_) (fun c2 hx => ?_)
  · refine eg_k_aload rfl rfl ?_
    obtain ⟨m5, h3, hx⟩ := vb_bind hx
    refine eg_k_call (c1 := 0) (z1 := 0) (as := [.inr (.inr (some 45))]) (rest := []) rfl eg_tj202 (Nat.le_of_ble_eq_true rfl) rfl rfl rfl (Nat.le_of_ble_eq_true rfl) (Nat.le_refl _) (Nat.le_refl _) ?_ (fun Q hQ => ft_202 h3 hQ)
    refine eg_k_iload rfl rfl ?_
    obtain ⟨b9, hx⟩ := vb_if hx
    have hx := Option.some.inj hx
    subst hx
    exact eg_k_iret rfl b9 (Nat.le_refl _) (Nat.le_refl _) hK
  · refine eg_k_aload rfl rfl ?_
    refine eg_k_aload rfl rfl ?_
    refine eg_k_gfa rfl rfl rfl eh_r45_46 ?_
    refine eg_k_iload rfl rfl ?_
    obtain ⟨b6, hx⟩ := vb_if hx
    refine eg_k_lald (k := 500) rfl rfl b6.1 b6.2 ?_
    obtain ⟨r8, h7, hx⟩ := vb_bind hx
    refine eg_k_call (c1 := 0) (z1 := 0) (as := [.inr (.inr (some 45)), .inr (.inl (s3 73 (s2).toNat))]) (rest := []) rfl eg_tj200 (Nat.le_of_ble_eq_true rfl) rfl rfl rfl (Nat.le_of_ble_eq_true rfl) (Nat.le_refl _) (Nat.le_refl _) ?_ (fun Q hQ => ft_200 h7 hQ)
    refine vk_if rfl hx Iff.rfl (fun c10 hx => ?_) (fun c10 hx => ?_)
    · refine eg_k_iinc (lv' := [some (.inr (.inr (some 45))), some (.inl s1), some (.inl (eg_wi (s2 + 1))), w3, w4]) rfl rfl rfl ?_
      refine eg_k_goto rfl ?_
      have hx := Option.some.inj hx
      subst hx
      exact hK w3 w4
    · refine eg_k_aload rfl rfl ?_
      refine eg_k_aload rfl rfl ?_
      refine eg_k_gfa rfl rfl rfl eh_r45_47 ?_
      refine eg_k_iload rfl rfl ?_
      refine eg_k_lald (k := 500) rfl rfl b6.1 b6.2 ?_
      obtain ⟨r13, h12, hx⟩ := vb_bind hx
      refine eg_k_call (c1 := 0) (z1 := 0) (as := [.inr (.inr (some 45)), .inr (.inl (s3 74 (s2).toNat))]) (rest := []) rfl eg_tj200 (Nat.le_of_ble_eq_true rfl) rfl rfl rfl (Nat.le_of_ble_eq_true rfl) (Nat.le_refl _) (Nat.le_refl _) ?_ (fun Q hQ => ft_200 h12 hQ)
      refine vk_if rfl hx Iff.rfl (fun c15 hx => ?_) (fun c15 hx => ?_)
      · refine eg_k_iinc (lv' := [some (.inr (.inr (some 45))), some (.inl s1), some (.inl (eg_wi (s2 + 1))), w3, w4]) rfl rfl rfl ?_
        refine eg_k_goto rfl ?_
        have hx := Option.some.inj hx
        subst hx
        exact hK w3 w4
      · refine eg_k_aload rfl rfl ?_
        refine eg_k_aload rfl rfl ?_
        refine eg_k_gfa rfl rfl rfl eh_r45_47 ?_
        refine eg_k_iload rfl rfl ?_
        refine eg_k_lald (k := 500) rfl rfl b6.1 b6.2 ?_
        obtain ⟨m19, h17, hx⟩ := vb_bind hx
        refine eg_k_call (c1 := 0) (z1 := 0) (as := [.inr (.inr (some 45)), .inr (.inl (s3 74 (s2).toNat))]) (rest := []) rfl eg_tj199 (Nat.le_of_ble_eq_true rfl) rfl rfl rfl (Nat.le_of_ble_eq_true rfl) (Nat.le_refl _) (Nat.le_refl _) ?_ (fun Q hQ => ft_199 h17 hQ)
        refine eg_k_ci rfl ?_
        refine eg_k_istore (lv' := [some (.inr (.inr (some 45))), some (.inl 1), some (.inl s2), w3, w4]) rfl rfl ?_
        refine eg_k_iinc (lv' := [some (.inr (.inr (some 45))), some (.inl 1), some (.inl (eg_wi (s2 + 1))), w3, w4]) rfl rfl rfl ?_
        refine eg_k_goto rfl ?_
        have hx := Option.some.inj hx
        subst hx
        exact hK w3 w4
set_option maxRecDepth 100000 in
theorem ft_203_51 {cn mo : Nat} {sc : eg_Sc} {d : Nat} {M : eM} {Q : Option eg_V → eg_H → Prop} {x1 : Int} {x2 : Int} {x3 : Int} {x : (Int × Int × eM) ⊕ (Int × eM)} (hx : fn_203_51 x1 x2 x3 M = some x) (hK : (eK (fun (s : Int × Int × eM) => ∀ (w3 w4 : Option eg_V), eg_X sc (eg_wp sc (d + 4)) eg_p203 (some .boolean) 0 0 Q 4 [some (.inr (.inr (some 45))), some (.inl s.1), some (.inl s.2.1), w3, w4] [] (em_L cn mo, eh_R, s.2.2) 0 0) (fun (x : Int × eM) => Q (some (.inl ((x).1))) (em_L cn mo, eh_R, (x).2))) x) : eg_X sc (eg_wp sc (d + 4)) eg_p203 (some .boolean) 0 0 Q 51 [some (.inr (.inr (some 45))), some (.inl x1), some (.inl x2), some (.inr (.inl x3)), none] [] (em_L cn mo, eh_R, M) 0 0 := by
  refine eg_k_aload rfl rfl ?_
  refine eg_k_gfa rfl rfl rfl eh_r45_30 ?_
  refine eg_k_iload rfl rfl ?_
  obtain ⟨b26, hx⟩ := vb_if hx
  refine eg_k_bald (k := 6700) rfl rfl b26.1 b26.2 ?_
  refine eg_k_ci rfl ?_
  refine vk_icmp rfl hx Iff.rfl (fun c27 hx => ?_) (fun c27 hx => ?_)
  · refine eg_k_iinc (lv' := [some (.inr (.inr (some 45))), some (.inl x1), some (.inl (eg_wi (x2 + 1))), some (.inr (.inl x3)), none]) rfl rfl rfl ?_
    refine eg_k_goto rfl ?_
    have hx := Option.some.inj hx
    subst hx
    exact hK (some (.inr (.inl x3))) none
  · refine eg_k_aload rfl rfl ?_
    refine eg_k_lload rfl rfl ?_
    obtain ⟨r29, h28, hx⟩ := vb_bind hx
    refine eg_k_call (c1 := 0) (z1 := 0) (as := [.inr (.inr (some 45)), .inr (.inl x3)]) (rest := []) rfl eg_tj204 (Nat.le_of_ble_eq_true rfl) rfl rfl rfl (Nat.le_of_ble_eq_true rfl) (Nat.le_refl _) (Nat.le_refl _) ?_ (fun Q hQ => ft_204 h28 hQ)
    refine vk_if rfl hx Iff.rfl (fun c31 hx => ?_) (fun c31 hx => ?_)
    · refine eg_k_ci rfl ?_
      refine eg_k_goto rfl ?_
      refine eg_k_istore (lv' := [some (.inr (.inr (some 45))), some (.inl 1), some (.inl x2), some (.inr (.inl x3)), none]) rfl rfl ?_
      refine eg_k_iinc (lv' := [some (.inr (.inr (some 45))), some (.inl 1), some (.inl (eg_wi (x2 + 1))), some (.inr (.inl x3)), none]) rfl rfl rfl ?_
      refine eg_k_goto rfl ?_
      have hx := Option.some.inj hx
      subst hx
      exact hK (some (.inr (.inl x3))) none
    · refine eg_k_iload rfl rfl ?_
      refine vk_if rfl hx Iff.rfl (fun c32 hx => ?_) (fun c32 hx => ?_)
      · refine eg_k_ci rfl ?_
        refine eg_k_istore (lv' := [some (.inr (.inr (some 45))), some (.inl 0), some (.inl x2), some (.inr (.inl x3)), none]) rfl rfl ?_
        refine eg_k_iinc (lv' := [some (.inr (.inr (some 45))), some (.inl 0), some (.inl (eg_wi (x2 + 1))), some (.inr (.inl x3)), none]) rfl rfl rfl ?_
        refine eg_k_goto rfl ?_
        have hx := Option.some.inj hx
        subst hx
        exact hK (some (.inr (.inl x3))) none
      · refine eg_k_ci rfl ?_
        refine eg_k_goto rfl ?_
        refine eg_k_istore (lv' := [some (.inr (.inr (some 45))), some (.inl 1), some (.inl x2), some (.inr (.inl x3)), none]) rfl rfl ?_
        refine eg_k_iinc (lv' := [some (.inr (.inr (some 45))), some (.inl 1), some (.inl (eg_wi (x2 + 1))), some (.inr (.inl x3)), none]) rfl rfl rfl ?_
        refine eg_k_goto rfl ?_
        have hx := Option.some.inj hx
        subst hx
        exact hK (some (.inr (.inl x3))) none
set_option maxRecDepth 100000 in
theorem ft_203_4 {cn mo : Nat} {sc : eg_Sc} {d : Nat} {Q : Option eg_V → eg_H → Prop} {s : Int × Int × eM} {x : Int × eM} (hx : lp (fun z => fn_203_4 z.1 z.2.1 z.2.2) s = some x) (hK : (fun (x : Int × eM) => Q (some (.inl ((x).1))) (em_L cn mo, eh_R, (x).2)) x) : ∀ (w3 w4 : Option eg_V), eg_X sc (eg_wp sc (d + 4)) eg_p203 (some .boolean) 0 0 Q 4 [some (.inr (.inr (some 45))), some (.inl s.1), some (.inl s.2.1), w3, w4] [] (em_L cn mo, eh_R, s.2.2) 0 0 := by
  refine lp_sound (P := (fun (s : Int × Int × eM) => ∀ (w3 w4 : Option eg_V), eg_X sc (eg_wp sc (d + 4)) eg_p203 (some .boolean) 0 0 Q 4 [some (.inr (.inr (some 45))), some (.inl s.1), some (.inl s.2.1), w3, w4] [] (em_L cn mo, eh_R, s.2.2) 0 0)) (K := (fun (x : Int × eM) => Q (some (.inl ((x).1))) (em_L cn mo, eh_R, (x).2))) hx hK ?_
  intro s x hx hK w3 w4
  obtain ⟨s1, s2, s3⟩ := s
  refine eg_k_iload rfl rfl ?_
  refine eg_k_ci rfl ?_
  refine vk_icmp rfl hx Iff.rfl (fun c1 hx => ?_) (fun c1 hx => ?_)
  · refine eg_k_ci rfl ?_
    refine eg_k_istore (lv' := [some (.inr (.inr (some 45))), some (.inl s1), some (.inl 0), w3, w4]) rfl rfl ?_
    obtain ⟨x, hy, e9⟩ := vb_map hx
    clear hx
    subst e9
    have hx := hy
    clear hy
    have hz := ft_203_71 (d := d) (sc := sc) hx hK
    exact hz w3 w4
  · refine eg_k_aload rfl rfl ?_
    refine eg_k_gfa rfl rfl rfl eh_r45_36 ?_
    refine eg_k_iload rfl rfl ?_
    obtain ⟨b20, hx⟩ := vb_if hx
    refine eg_k_zald (k := 6700) rfl rfl b20.1 b20.2 ?_
    refine vk_if rfl hx Iff.rfl (fun c21 hx => ?_) (fun c21 hx => ?_)
    · refine eg_k_iinc (lv' := [some (.inr (.inr (some 45))), some (.inl s1), some (.inl (eg_wi (s2 + 1))), w3, w4]) rfl rfl rfl ?_
      refine eg_k_goto rfl ?_
      have hx := Option.some.inj hx
      subst hx
      exact hK w3 w4
    · refine eg_k_aload rfl rfl ?_
      refine eg_k_gfa rfl rfl rfl eh_r45_35 ?_
      refine eg_k_iload rfl rfl ?_
      refine eg_k_zald (k := 6700) rfl rfl b20.1 b20.2 ?_
      refine vk_if rfl hx Iff.rfl (fun c23 hx => ?_) (fun c23 hx => ?_)
      · refine eg_k_cl rfl ?_
        refine eg_k_iload rfl rfl ?_
        refine eg_k_i2l rfl ?_
        refine eg_k_lor rfl ?_
        refine eg_k_lstore (lv' := [some (.inr (.inr (some 45))), some (.inl s1), some (.inl s2), some (.inr (.inl (eb_lor 25769803776 s2))), none]) rfl rfl ?_
        refine eg_k_aload rfl rfl ?_
        refine eg_k_gfa rfl rfl rfl eh_r45_30 ?_
        refine eg_k_iload rfl rfl ?_
        refine eg_k_bald (k := 6700) rfl rfl b20.1 b20.2 ?_
        refine eg_k_ci rfl ?_
        refine vk_icmp rfl hx Iff.rfl (fun c25 hx => ?_) (fun c25 hx => ?_)
        · have hz := ft_203_51 (d := d) (sc := sc) hx hK
          exact hz
        · refine eg_k_aload rfl rfl ?_
          refine eg_k_aload rfl rfl ?_
          refine eg_k_lload rfl rfl ?_
          refine eg_k_ci rfl ?_
          obtain ⟨r34, h33, hx⟩ := vb_bind hx
          refine eg_k_call (c1 := 0) (z1 := 0) (as := [.inr (.inr (some 45)), .inr (.inl (eb_lor 25769803776 s2)), .inl 0]) (rest := [.inr (.inr (some 45))]) rfl eg_tj189 (Nat.le_of_ble_eq_true rfl) rfl rfl rfl (Nat.le_of_ble_eq_true rfl) (Nat.le_refl _) (Nat.le_refl _) ?_ (fun Q hQ => ft_189 h33 hQ)
          obtain ⟨r37, h36, hx⟩ := vb_bind hx
          refine eg_k_call (c1 := 0) (z1 := 0) (as := [.inr (.inr (some 45)), .inr (.inl r34)]) (rest := []) rfl eg_tj200 (Nat.le_of_ble_eq_true rfl) rfl rfl rfl (Nat.le_of_ble_eq_true rfl) (Nat.le_refl _) (Nat.le_refl _) ?_ (fun Q hQ => ft_200 h36 hQ)
          refine vk_if rfl hx Iff.rfl (fun c39 hx => ?_) (fun c39 hx => ?_)
          · have hz := ft_203_51 (d := d) (sc := sc) hx hK
            exact hz
          · refine eg_k_aload rfl rfl ?_
            refine eg_k_aload rfl rfl ?_
            refine eg_k_lload rfl rfl ?_
            refine eg_k_ci rfl ?_
            obtain ⟨r41, h40, hx⟩ := vb_bind hx
            refine eg_k_call (c1 := 0) (z1 := 0) (as := [.inr (.inr (some 45)), .inr (.inl (eb_lor 25769803776 s2)), .inl 1]) (rest := [.inr (.inr (some 45))]) rfl eg_tj189 (Nat.le_of_ble_eq_true rfl) rfl rfl rfl (Nat.le_of_ble_eq_true rfl) (Nat.le_refl _) (Nat.le_refl _) ?_ (fun Q hQ => ft_189 h40 hQ)
            obtain ⟨r44, h43, hx⟩ := vb_bind hx
            refine eg_k_call (c1 := 0) (z1 := 0) (as := [.inr (.inr (some 45)), .inr (.inl r41)]) (rest := []) rfl eg_tj200 (Nat.le_of_ble_eq_true rfl) rfl rfl rfl (Nat.le_of_ble_eq_true rfl) (Nat.le_refl _) (Nat.le_refl _) ?_ (fun Q hQ => ft_200 h43 hQ)
            refine vk_if rfl hx Iff.rfl (fun c46 hx => ?_) (fun c46 hx => ?_)
            · have hz := ft_203_51 (d := d) (sc := sc) hx hK
              exact hz
            · refine eg_k_aload rfl rfl ?_
              refine eg_k_aload rfl rfl ?_
              refine eg_k_lload rfl rfl ?_
              refine eg_k_ci rfl ?_
              obtain ⟨r48, h47, hx⟩ := vb_bind hx
              refine eg_k_call (c1 := 0) (z1 := 0) (as := [.inr (.inr (some 45)), .inr (.inl (eb_lor 25769803776 s2)), .inl 1]) (rest := [.inr (.inr (some 45))]) rfl eg_tj189 (Nat.le_of_ble_eq_true rfl) rfl rfl rfl (Nat.le_of_ble_eq_true rfl) (Nat.le_refl _) (Nat.le_refl _) ?_ (fun Q hQ => ft_189 h47 hQ)
              obtain ⟨m52, h50, hx⟩ := vb_bind hx
              refine eg_k_call (c1 := 0) (z1 := 0) (as := [.inr (.inr (some 45)), .inr (.inl r48)]) (rest := []) rfl eg_tj199 (Nat.le_of_ble_eq_true rfl) rfl rfl rfl (Nat.le_of_ble_eq_true rfl) (Nat.le_refl _) (Nat.le_refl _) ?_ (fun Q hQ => ft_199 h50 hQ)
              refine eg_k_ci rfl ?_
              refine eg_k_istore (lv' := [some (.inr (.inr (some 45))), some (.inl 1), some (.inl s2), some (.inr (.inl (eb_lor 25769803776 s2))), none]) rfl rfl ?_
              have hz := ft_203_51 (d := d) (sc := sc) hx hK
              exact hz
      · refine eg_k_goto rfl ?_
        refine eg_k_iinc (lv' := [some (.inr (.inr (some 45))), some (.inl s1), some (.inl (eg_wi (s2 + 1))), w3, w4]) rfl rfl rfl ?_
        refine eg_k_goto rfl ?_
        have hx := Option.some.inj hx
        subst hx
        exact hK w3 w4
set_option maxRecDepth 100000 in
theorem ft_203 {cn mo : Nat} {sc : eg_Sc} {d : Nat} {M : eM} {Q : Option eg_V → eg_H → Prop} {x : Int × eM} (hx : fn_203 M = some x) (hK : Q (some (.inl ((x).1))) (em_L cn mo, eh_R, (x).2)) : eg_wp sc (d + 5) 203 [.inr (.inr (some 45))] (em_L cn mo, eh_R, M) 0 0 Q := by
  refine eg_in (lv := [some (.inr (.inr (some 45))), none, none, none, none]) eg_tj203 (Nat.le_of_ble_eq_true rfl) rfl ?_
  refine eg_k_ci rfl ?_
  refine eg_k_istore (lv' := [some (.inr (.inr (some 45))), some (.inl 0), none, none, none]) rfl rfl ?_
  refine eg_k_ci rfl ?_
  refine eg_k_istore (lv' := [some (.inr (.inr (some 45))), some (.inl 0), some (.inl 0), none, none]) rfl rfl ?_
  have hz := ft_203_4 (d := d) (sc := sc) hx hK
  exact hz none none
theorem fw_203_71 {c j : Nat} {v : Int} {s : Int × Int × eM} {x : Int × eM} (hc : c ∉ ([45, 67, 85] : List Nat)) (hx : lp (fun z => fn_203_71 z.1 z.2.1 z.2.2) s = some x) (hK : (fun (x : Int × eM) => ((x).2) c j = v) x) : s.2.2 c j = v := by
  refine lp_sound (P := (fun (s : Int × Int × eM) => s.2.2 c j = v)) (K := (fun (x : Int × eM) => ((x).2) c j = v)) hx hK ?_
  intro s x hx hK
  obtain ⟨s1, s2, s3⟩ := s
  refine vb_ite hx (fun _ hx => ?_) (fun _ hx => ?_)
  · obtain ⟨m5, h3, hx⟩ := vb_bind hx
    obtain ⟨_, hx⟩ := vb_if hx
    have hx := Option.some.inj hx
    subst hx
    exact ((fw_202 h3 (vsub hc (by decide)) j).trans rfl).symm.trans hK
  · obtain ⟨_, hx⟩ := vb_if hx
    obtain ⟨r8, h7, hx⟩ := vb_bind hx
    refine vb_ite hx (fun _ hx => ?_) (fun _ hx => ?_)
    · have hx := Option.some.inj hx
      subst hx
      exact (Eq.refl _).symm.trans hK
    · obtain ⟨r13, h12, hx⟩ := vb_bind hx
      refine vb_ite hx (fun _ hx => ?_) (fun _ hx => ?_)
      · have hx := Option.some.inj hx
        subst hx
        exact (Eq.refl _).symm.trans hK
      · obtain ⟨m19, h17, hx⟩ := vb_bind hx
        have hx := Option.some.inj hx
        subst hx
        exact ((fw_199 h17 (vsub hc (by decide)) j).trans rfl).symm.trans hK
theorem fw_203_51 {M : eM} {c j : Nat} {v : Int} {x1 : Int} {x2 : Int} {x3 : Int} {x : (Int × Int × eM) ⊕ (Int × eM)} (hc : c ∉ ([45, 67, 85] : List Nat)) (hx : fn_203_51 x1 x2 x3 M = some x) (hK : (eK (fun (s : Int × Int × eM) => s.2.2 c j = v) (fun (x : Int × eM) => ((x).2) c j = v)) x) : M c j = v := by
  obtain ⟨_, hx⟩ := vb_if hx
  refine vb_ite hx (fun _ hx => ?_) (fun _ hx => ?_)
  · have hx := Option.some.inj hx
    subst hx
    exact (Eq.refl _).symm.trans hK
  · obtain ⟨r29, h28, hx⟩ := vb_bind hx
    refine vb_ite hx (fun _ hx => ?_) (fun _ hx => ?_)
    · have hx := Option.some.inj hx
      subst hx
      exact ((fw_204 h28 (vsub hc (by decide)) j).trans rfl).symm.trans hK
    · refine vb_ite hx (fun _ hx => ?_) (fun _ hx => ?_)
      · have hx := Option.some.inj hx
        subst hx
        exact ((fw_204 h28 (vsub hc (by decide)) j).trans rfl).symm.trans hK
      · have hx := Option.some.inj hx
        subst hx
        exact ((fw_204 h28 (vsub hc (by decide)) j).trans rfl).symm.trans hK
theorem fw_203_4 {c j : Nat} {v : Int} {s : Int × Int × eM} {x : Int × eM} (hc : c ∉ ([45, 67, 85] : List Nat)) (hx : lp (fun z => fn_203_4 z.1 z.2.1 z.2.2) s = some x) (hK : (fun (x : Int × eM) => ((x).2) c j = v) x) : s.2.2 c j = v := by
  refine lp_sound (P := (fun (s : Int × Int × eM) => s.2.2 c j = v)) (K := (fun (x : Int × eM) => ((x).2) c j = v)) hx hK ?_
  intro s x hx hK
  obtain ⟨s1, s2, s3⟩ := s
  refine vb_ite hx (fun _ hx => ?_) (fun _ hx => ?_)
  · obtain ⟨x, hy, e9⟩ := vb_map hx
    clear hx
    subst e9
    have hx := hy
    clear hy
    have hz := fw_203_71 hc hx hK
    exact (Eq.refl _).symm.trans hz
  · obtain ⟨_, hx⟩ := vb_if hx
    refine vb_ite hx (fun _ hx => ?_) (fun _ hx => ?_)
    · have hx := Option.some.inj hx
      subst hx
      exact (Eq.refl _).symm.trans hK
    · refine vb_ite hx (fun _ hx => ?_) (fun _ hx => ?_)
      · refine vb_ite hx (fun _ hx => ?_) (fun _ hx => ?_)
        · have hz := fw_203_51 hc hx hK
          exact (Eq.refl _).symm.trans hz
        · obtain ⟨r34, h33, hx⟩ := vb_bind hx
          obtain ⟨r37, h36, hx⟩ := vb_bind hx
          refine vb_ite hx (fun _ hx => ?_) (fun _ hx => ?_)
          · have hz := fw_203_51 hc hx hK
            exact (Eq.refl _).symm.trans hz
          · obtain ⟨r41, h40, hx⟩ := vb_bind hx
            obtain ⟨r44, h43, hx⟩ := vb_bind hx
            refine vb_ite hx (fun _ hx => ?_) (fun _ hx => ?_)
            · have hz := fw_203_51 hc hx hK
              exact (Eq.refl _).symm.trans hz
            · obtain ⟨r48, h47, hx⟩ := vb_bind hx
              obtain ⟨m52, h50, hx⟩ := vb_bind hx
              have hz := fw_203_51 hc hx hK
              exact ((fw_199 h50 (vsub hc (by decide)) j).trans rfl).symm.trans hz
      · have hx := Option.some.inj hx
        subst hx
        exact (Eq.refl _).symm.trans hK
theorem fw_203 {M : eM} {c : Nat} {x : Int × eM} (hx : fn_203 M = some x) (hc : c ∉ ([45, 67, 85] : List Nat)) (j : Nat) : ((x).2) c j = M c j := by
  obtain ⟨v, hK⟩ : ∃ v, ((x).2) c j = v := ⟨_, rfl⟩
  rw [hK]
  refine Eq.symm ?_
  have hz := fw_203_4 hc hx hK
  exact (Eq.refl _).symm.trans hz
noncomputable def fn_198_101 (x1 : Int) (s : eM) : Option ((eM) ⊕ (eM)) :=
  (fn_203 s).bind fun r17 =>
  if r17.1 = 0 then
    some (.inr r17.2)
  else
    (fn_199 (-1) r17.2).bind fun m22 =>
    some (.inl m22)
noncomputable def fn_198_81 (s1 : Int) (s2 : eM) : Option ((Int × eM) ⊕ (eM)) :=
  if (s2 45 48) ≤ s1 then
    (fn_202 s2).bind fun m15 =>
    (lp (fn_198_101 s1) m15).map Sum.inr
  else
    if 0 ≤ s1 ∧ s1 < 501 then
    (fn_199 (s2 75 (s1).toNat) s2).bind fun m26 =>
      (fn_199 (m26 76 (s1).toNat) m26).bind fun m30 =>
      some (.inl (eg_wi (s1 + 1), m30))
    else none
noncomputable def fn_198_67 (s1 : Int) (s2 : eM) : Option ((Int × eM) ⊕ (eM)) :=
  if (s2 45 7) ≤ s1 then
    (lp (fun z => fn_198_81 z.1 z.2) (0, s2)).map Sum.inr
  else
    if 0 ≤ s1 ∧ s1 < 460 then
    (fn_199 (s2 72 (s1).toNat) s2).bind fun m34 =>
      some (.inl (eg_wi (s1 + 1), m34))
    else none
noncomputable def fn_198_45 (s1 : Int) (s2 : eM) : Option ((Int × eM) ⊕ (eM)) :=
  if (s2 45 59) ≤ s1 then
    (fn_199 (s2 45 62) s2).bind fun m7 =>
    (fn_199 (m7 45 63) m7).bind fun m10 =>
    (lp (fun z => fn_198_67 z.1 z.2) (0, m10)).map Sum.inr
  else
    if 0 ≤ s1 ∧ s1 < 31 then
    (fn_199 (s2 84 (s1).toNat) s2).bind fun m38 =>
      some (.inl (eg_wi (s1 + 1), m38))
    else none
noncomputable def fn_198_31 (s1 : Int) (s2 : eM) : Option ((Int × eM) ⊕ (eM)) :=
  if (s2 45 53) ≤ s1 then
    (lp (fun z => fn_198_45 z.1 z.2) (0, s2)).map Sum.inr
  else
    if 0 ≤ s1 ∧ s1 < 4400 then
    (fn_199 (s2 82 (s1).toNat) s2).bind fun m42 =>
      some (.inl (eg_wi (s1 + 1), m42))
    else none
noncomputable def fn_198_17 (s1 : Int) (s2 : eM) : Option ((Int × eM) ⊕ (eM)) :=
  if (s2 45 51) ≤ s1 then
    (lp (fun z => fn_198_31 z.1 z.2) (0, s2)).map Sum.inr
  else
    if 0 ≤ s1 ∧ s1 < 19000 then
    (fn_199 (s2 77 (s1).toNat) s2).bind fun m46 =>
      some (.inl (eg_wi (s1 + 1), m46))
    else none
noncomputable def fn_198_2 (s1 : Int) (s2 : eM) : Option ((Int × eM) ⊕ (eM)) :=
  if 6700 ≤ s1 then
    (lp (fun z => fn_198_17 z.1 z.2) (0, eg_u s2 45 64 0)).map Sum.inr
  else
    if 0 ≤ s1 ∧ s1 < 6700 then
    some (.inl (eg_wi (s1 + 1), eg_u s2 67 (s1).toNat 0))
    else none
/-- 198: WeakSchemeModel.reckon()V -/
noncomputable def fn_198 (M : eM) : Option (eM) :=
  lp (fun z => fn_198_2 z.1 z.2) (0, M)
set_option maxRecDepth 100000 in
theorem ft_198_101 {cn mo : Nat} {sc : eg_Sc} {d : Nat} {Q : Option eg_V → eg_H → Prop} {x1 : Int} {s : eM} {x : eM} (hx : lp (fn_198_101 x1) s = some x) (hK : (fun (x : eM) => Q (none) (em_L cn mo, eh_R, x)) x) : eg_X sc (eg_wp sc (d + 5)) eg_p198 none 0 0 Q 101 [some (.inr (.inr (some 45))), some (.inl x1)] [] (em_L cn mo, eh_R, s) 0 0 := by
  refine lp_sound (P := (fun (s : eM) => eg_X sc (eg_wp sc (d + 5)) eg_p198 none 0 0 Q 101 [some (.inr (.inr (some 45))), some (.inl x1)] [] (em_L cn mo, eh_R, s) 0 0)) (K := (fun (x : eM) => Q (none) (em_L cn mo, eh_R, x))) hx hK ?_
  intro s x hx hK
  refine eg_k_aload rfl rfl ?_
  obtain ⟨r17, h16, hx⟩ := vb_bind hx
  refine eg_k_call (c1 := 0) (z1 := 0) (as := [.inr (.inr (some 45))]) (rest := []) rfl eg_tj203 (Nat.le_of_ble_eq_true rfl) rfl rfl rfl (Nat.le_of_ble_eq_true rfl) (Nat.le_refl _) (Nat.le_refl _) ?_ (fun Q hQ => ft_203 h16 hQ)
  refine vk_if rfl hx Iff.rfl (fun c19 hx => ?_) (fun c19 hx => ?_)
  · have hx := Option.some.inj hx
    subst hx
    exact eg_k_ret rfl rfl (Nat.le_refl _) (Nat.le_refl _) hK
  · refine eg_k_aload rfl rfl ?_
    refine eg_k_cl rfl ?_
    obtain ⟨m22, h20, hx⟩ := vb_bind hx
    refine eg_k_call (c1 := 0) (z1 := 0) (as := [.inr (.inr (some 45)), .inr (.inl (-1))]) (rest := []) rfl eg_tj199 (Nat.le_of_ble_eq_true rfl) rfl rfl rfl (Nat.le_of_ble_eq_true rfl) (Nat.le_refl _) (Nat.le_refl _) ?_ (fun Q hQ => ft_199 h20 hQ)
    refine eg_k_goto rfl ?_
    have hx := Option.some.inj hx
    subst hx
    exact hK
set_option maxRecDepth 100000 in
theorem ft_198_81 {cn mo : Nat} {sc : eg_Sc} {d : Nat} {Q : Option eg_V → eg_H → Prop} {s : Int × eM} {x : eM} (hx : lp (fun z => fn_198_81 z.1 z.2) s = some x) (hK : (fun (x : eM) => Q (none) (em_L cn mo, eh_R, x)) x) : eg_X sc (eg_wp sc (d + 5)) eg_p198 none 0 0 Q 81 [some (.inr (.inr (some 45))), some (.inl s.1)] [] (em_L cn mo, eh_R, s.2) 0 0 := by
  refine lp_sound (P := (fun (s : Int × eM) => eg_X sc (eg_wp sc (d + 5)) eg_p198 none 0 0 Q 81 [some (.inr (.inr (some 45))), some (.inl s.1)] [] (em_L cn mo, eh_R, s.2) 0 0)) (K := (fun (x : eM) => Q (none) (em_L cn mo, eh_R, x))) hx hK ?_
  intro s x hx hK
  obtain ⟨s1, s2⟩ := s
  refine eg_k_iload rfl rfl ?_
  refine eg_k_aload rfl rfl ?_
  refine eg_k_gfi rfl rfl rfl ?_
  refine vk_icmp rfl hx Iff.rfl (fun c12 hx => ?_) (fun c12 hx => ?_)
  · refine eg_k_aload rfl rfl ?_
    obtain ⟨m15, h13, hx⟩ := vb_bind hx
    refine eg_k_call (c1 := 0) (z1 := 0) (as := [.inr (.inr (some 45))]) (rest := []) rfl eg_tj202 (Nat.le_of_ble_eq_true rfl) rfl rfl rfl (Nat.le_of_ble_eq_true rfl) (Nat.le_refl _) (Nat.le_refl _) ?_ (fun Q hQ => ft_202 h13 hQ)
    obtain ⟨x, hy, e9⟩ := vb_map hx
    clear hx
    subst e9
    have hx := hy
    clear hy
    have hz := ft_198_101 (d := d) (sc := sc) hx hK
    exact hz
  · refine eg_k_aload rfl rfl ?_
    refine eg_k_aload rfl rfl ?_
    refine eg_k_gfa rfl rfl rfl eh_r45_49 ?_
    refine eg_k_iload rfl rfl ?_
    obtain ⟨b23, hx⟩ := vb_if hx
    refine eg_k_lald (k := 501) rfl rfl b23.1 b23.2 ?_
    obtain ⟨m26, h24, hx⟩ := vb_bind hx
    refine eg_k_call (c1 := 0) (z1 := 0) (as := [.inr (.inr (some 45)), .inr (.inl (s2 75 (s1).toNat))]) (rest := []) rfl eg_tj199 (Nat.le_of_ble_eq_true rfl) rfl rfl rfl (Nat.le_of_ble_eq_true rfl) (Nat.le_refl _) (Nat.le_refl _) ?_ (fun Q hQ => ft_199 h24 hQ)
    refine eg_k_aload rfl rfl ?_
    refine eg_k_aload rfl rfl ?_
    refine eg_k_gfa rfl rfl rfl eh_r45_50 ?_
    refine eg_k_iload rfl rfl ?_
    refine eg_k_lald (k := 501) rfl rfl b23.1 b23.2 ?_
    obtain ⟨m30, h28, hx⟩ := vb_bind hx
    refine eg_k_call (c1 := 0) (z1 := 0) (as := [.inr (.inr (some 45)), .inr (.inl (m26 76 (s1).toNat))]) (rest := []) rfl eg_tj199 (Nat.le_of_ble_eq_true rfl) rfl rfl rfl (Nat.le_of_ble_eq_true rfl) (Nat.le_refl _) (Nat.le_refl _) ?_ (fun Q hQ => ft_199 h28 hQ)
    refine eg_k_iinc (lv' := [some (.inr (.inr (some 45))), some (.inl (eg_wi (s1 + 1)))]) rfl rfl rfl ?_
    refine eg_k_goto rfl ?_
    have hx := Option.some.inj hx
    subst hx
    exact hK
set_option maxRecDepth 100000 in
theorem ft_198_67 {cn mo : Nat} {sc : eg_Sc} {d : Nat} {Q : Option eg_V → eg_H → Prop} {s : Int × eM} {x : eM} (hx : lp (fun z => fn_198_67 z.1 z.2) s = some x) (hK : (fun (x : eM) => Q (none) (em_L cn mo, eh_R, x)) x) : eg_X sc (eg_wp sc (d + 5)) eg_p198 none 0 0 Q 67 [some (.inr (.inr (some 45))), some (.inl s.1)] [] (em_L cn mo, eh_R, s.2) 0 0 := by
  refine lp_sound (P := (fun (s : Int × eM) => eg_X sc (eg_wp sc (d + 5)) eg_p198 none 0 0 Q 67 [some (.inr (.inr (some 45))), some (.inl s.1)] [] (em_L cn mo, eh_R, s.2) 0 0)) (K := (fun (x : eM) => Q (none) (em_L cn mo, eh_R, x))) hx hK ?_
  intro s x hx hK
  obtain ⟨s1, s2⟩ := s
  refine eg_k_iload rfl rfl ?_
  refine eg_k_aload rfl rfl ?_
  refine eg_k_gfi rfl rfl rfl ?_
  refine vk_icmp rfl hx Iff.rfl (fun c11 hx => ?_) (fun c11 hx => ?_)
  · refine eg_k_ci rfl ?_
    refine eg_k_istore (lv' := [some (.inr (.inr (some 45))), some (.inl 0)]) rfl rfl ?_
    obtain ⟨x, hy, e9⟩ := vb_map hx
    clear hx
    subst e9
    have hx := hy
    clear hy
    have hz := ft_198_81 (d := d) (sc := sc) hx hK
    exact hz
  · refine eg_k_aload rfl rfl ?_
    refine eg_k_aload rfl rfl ?_
    refine eg_k_gfa rfl rfl rfl eh_r45_44 ?_
    refine eg_k_iload rfl rfl ?_
    obtain ⟨b31, hx⟩ := vb_if hx
    refine eg_k_lald (k := 460) rfl rfl b31.1 b31.2 ?_
    obtain ⟨m34, h32, hx⟩ := vb_bind hx
    refine eg_k_call (c1 := 0) (z1 := 0) (as := [.inr (.inr (some 45)), .inr (.inl (s2 72 (s1).toNat))]) (rest := []) rfl eg_tj199 (Nat.le_of_ble_eq_true rfl) rfl rfl rfl (Nat.le_of_ble_eq_true rfl) (Nat.le_refl _) (Nat.le_refl _) ?_ (fun Q hQ => ft_199 h32 hQ)
    refine eg_k_iinc (lv' := [some (.inr (.inr (some 45))), some (.inl (eg_wi (s1 + 1)))]) rfl rfl rfl ?_
    refine eg_k_goto rfl ?_
    have hx := Option.some.inj hx
    subst hx
    exact hK
set_option maxRecDepth 100000 in
theorem ft_198_45 {cn mo : Nat} {sc : eg_Sc} {d : Nat} {Q : Option eg_V → eg_H → Prop} {s : Int × eM} {x : eM} (hx : lp (fun z => fn_198_45 z.1 z.2) s = some x) (hK : (fun (x : eM) => Q (none) (em_L cn mo, eh_R, x)) x) : eg_X sc (eg_wp sc (d + 5)) eg_p198 none 0 0 Q 45 [some (.inr (.inr (some 45))), some (.inl s.1)] [] (em_L cn mo, eh_R, s.2) 0 0 := by
  refine lp_sound (P := (fun (s : Int × eM) => eg_X sc (eg_wp sc (d + 5)) eg_p198 none 0 0 Q 45 [some (.inr (.inr (some 45))), some (.inl s.1)] [] (em_L cn mo, eh_R, s.2) 0 0)) (K := (fun (x : eM) => Q (none) (em_L cn mo, eh_R, x))) hx hK ?_
  intro s x hx hK
  obtain ⟨s1, s2⟩ := s
  refine eg_k_iload rfl rfl ?_
  refine eg_k_aload rfl rfl ?_
  refine eg_k_gfi rfl rfl rfl ?_
  refine vk_icmp rfl hx Iff.rfl (fun c4 hx => ?_) (fun c4 hx => ?_)
  · refine eg_k_aload rfl rfl ?_
    refine eg_k_aload rfl rfl ?_
    refine eg_k_gfl rfl rfl rfl ?_
    obtain ⟨m7, h5, hx⟩ := vb_bind hx
    refine eg_k_call (c1 := 0) (z1 := 0) (as := [.inr (.inr (some 45)), .inr (.inl (s2 45 62))]) (rest := []) rfl eg_tj199 (Nat.le_of_ble_eq_true rfl) rfl rfl rfl (Nat.le_of_ble_eq_true rfl) (Nat.le_refl _) (Nat.le_refl _) ?_ (fun Q hQ => ft_199 h5 hQ)
    refine eg_k_aload rfl rfl ?_
    refine eg_k_aload rfl rfl ?_
    refine eg_k_gfl rfl rfl rfl ?_
    obtain ⟨m10, h8, hx⟩ := vb_bind hx
    refine eg_k_call (c1 := 0) (z1 := 0) (as := [.inr (.inr (some 45)), .inr (.inl (m7 45 63))]) (rest := []) rfl eg_tj199 (Nat.le_of_ble_eq_true rfl) rfl rfl rfl (Nat.le_of_ble_eq_true rfl) (Nat.le_refl _) (Nat.le_refl _) ?_ (fun Q hQ => ft_199 h8 hQ)
    refine eg_k_ci rfl ?_
    refine eg_k_istore (lv' := [some (.inr (.inr (some 45))), some (.inl 0)]) rfl rfl ?_
    obtain ⟨x, hy, e9⟩ := vb_map hx
    clear hx
    subst e9
    have hx := hy
    clear hy
    have hz := ft_198_67 (d := d) (sc := sc) hx hK
    exact hz
  · refine eg_k_aload rfl rfl ?_
    refine eg_k_aload rfl rfl ?_
    refine eg_k_gfa rfl rfl rfl eh_r45_61 ?_
    refine eg_k_iload rfl rfl ?_
    obtain ⟨b35, hx⟩ := vb_if hx
    refine eg_k_lald (k := 31) rfl rfl b35.1 b35.2 ?_
    obtain ⟨m38, h36, hx⟩ := vb_bind hx
    refine eg_k_call (c1 := 0) (z1 := 0) (as := [.inr (.inr (some 45)), .inr (.inl (s2 84 (s1).toNat))]) (rest := []) rfl eg_tj199 (Nat.le_of_ble_eq_true rfl) rfl rfl rfl (Nat.le_of_ble_eq_true rfl) (Nat.le_refl _) (Nat.le_refl _) ?_ (fun Q hQ => ft_199 h36 hQ)
    refine eg_k_iinc (lv' := [some (.inr (.inr (some 45))), some (.inl (eg_wi (s1 + 1)))]) rfl rfl rfl ?_
    refine eg_k_goto rfl ?_
    have hx := Option.some.inj hx
    subst hx
    exact hK
set_option maxRecDepth 100000 in
theorem ft_198_31 {cn mo : Nat} {sc : eg_Sc} {d : Nat} {Q : Option eg_V → eg_H → Prop} {s : Int × eM} {x : eM} (hx : lp (fun z => fn_198_31 z.1 z.2) s = some x) (hK : (fun (x : eM) => Q (none) (em_L cn mo, eh_R, x)) x) : eg_X sc (eg_wp sc (d + 5)) eg_p198 none 0 0 Q 31 [some (.inr (.inr (some 45))), some (.inl s.1)] [] (em_L cn mo, eh_R, s.2) 0 0 := by
  refine lp_sound (P := (fun (s : Int × eM) => eg_X sc (eg_wp sc (d + 5)) eg_p198 none 0 0 Q 31 [some (.inr (.inr (some 45))), some (.inl s.1)] [] (em_L cn mo, eh_R, s.2) 0 0)) (K := (fun (x : eM) => Q (none) (em_L cn mo, eh_R, x))) hx hK ?_
  intro s x hx hK
  obtain ⟨s1, s2⟩ := s
  refine eg_k_iload rfl rfl ?_
  refine eg_k_aload rfl rfl ?_
  refine eg_k_gfi rfl rfl rfl ?_
  refine vk_icmp rfl hx Iff.rfl (fun c3 hx => ?_) (fun c3 hx => ?_)
  · refine eg_k_ci rfl ?_
    refine eg_k_istore (lv' := [some (.inr (.inr (some 45))), some (.inl 0)]) rfl rfl ?_
    obtain ⟨x, hy, e9⟩ := vb_map hx
    clear hx
    subst e9
    have hx := hy
    clear hy
    have hz := ft_198_45 (d := d) (sc := sc) hx hK
    exact hz
  · refine eg_k_aload rfl rfl ?_
    refine eg_k_aload rfl rfl ?_
    refine eg_k_gfa rfl rfl rfl eh_r45_58 ?_
    refine eg_k_iload rfl rfl ?_
    obtain ⟨b39, hx⟩ := vb_if hx
    refine eg_k_lald (k := 4400) rfl rfl b39.1 b39.2 ?_
    obtain ⟨m42, h40, hx⟩ := vb_bind hx
    refine eg_k_call (c1 := 0) (z1 := 0) (as := [.inr (.inr (some 45)), .inr (.inl (s2 82 (s1).toNat))]) (rest := []) rfl eg_tj199 (Nat.le_of_ble_eq_true rfl) rfl rfl rfl (Nat.le_of_ble_eq_true rfl) (Nat.le_refl _) (Nat.le_refl _) ?_ (fun Q hQ => ft_199 h40 hQ)
    refine eg_k_iinc (lv' := [some (.inr (.inr (some 45))), some (.inl (eg_wi (s1 + 1)))]) rfl rfl rfl ?_
    refine eg_k_goto rfl ?_
    have hx := Option.some.inj hx
    subst hx
    exact hK
set_option maxRecDepth 100000 in
theorem ft_198_17 {cn mo : Nat} {sc : eg_Sc} {d : Nat} {Q : Option eg_V → eg_H → Prop} {s : Int × eM} {x : eM} (hx : lp (fun z => fn_198_17 z.1 z.2) s = some x) (hK : (fun (x : eM) => Q (none) (em_L cn mo, eh_R, x)) x) : eg_X sc (eg_wp sc (d + 5)) eg_p198 none 0 0 Q 17 [some (.inr (.inr (some 45))), some (.inl s.1)] [] (em_L cn mo, eh_R, s.2) 0 0 := by
  refine lp_sound (P := (fun (s : Int × eM) => eg_X sc (eg_wp sc (d + 5)) eg_p198 none 0 0 Q 17 [some (.inr (.inr (some 45))), some (.inl s.1)] [] (em_L cn mo, eh_R, s.2) 0 0)) (K := (fun (x : eM) => Q (none) (em_L cn mo, eh_R, x))) hx hK ?_
  intro s x hx hK
  obtain ⟨s1, s2⟩ := s
  refine eg_k_iload rfl rfl ?_
  refine eg_k_aload rfl rfl ?_
  refine eg_k_gfi rfl rfl rfl ?_
  refine vk_icmp rfl hx Iff.rfl (fun c2 hx => ?_) (fun c2 hx => ?_)
  · refine eg_k_ci rfl ?_
    refine eg_k_istore (lv' := [some (.inr (.inr (some 45))), some (.inl 0)]) rfl rfl ?_
    obtain ⟨x, hy, e9⟩ := vb_map hx
    clear hx
    subst e9
    have hx := hy
    clear hy
    have hz := ft_198_31 (d := d) (sc := sc) hx hK
    exact hz
  · refine eg_k_aload rfl rfl ?_
    refine eg_k_aload rfl rfl ?_
    refine eg_k_gfa rfl rfl rfl eh_r45_52 ?_
    refine eg_k_iload rfl rfl ?_
    obtain ⟨b43, hx⟩ := vb_if hx
    refine eg_k_lald (k := 19000) rfl rfl b43.1 b43.2 ?_
    obtain ⟨m46, h44, hx⟩ := vb_bind hx
    refine eg_k_call (c1 := 0) (z1 := 0) (as := [.inr (.inr (some 45)), .inr (.inl (s2 77 (s1).toNat))]) (rest := []) rfl eg_tj199 (Nat.le_of_ble_eq_true rfl) rfl rfl rfl (Nat.le_of_ble_eq_true rfl) (Nat.le_refl _) (Nat.le_refl _) ?_ (fun Q hQ => ft_199 h44 hQ)
    refine eg_k_iinc (lv' := [some (.inr (.inr (some 45))), some (.inl (eg_wi (s1 + 1)))]) rfl rfl rfl ?_
    refine eg_k_goto rfl ?_
    have hx := Option.some.inj hx
    subst hx
    exact hK
set_option maxRecDepth 100000 in
theorem ft_198_2 {cn mo : Nat} {sc : eg_Sc} {d : Nat} {Q : Option eg_V → eg_H → Prop} {s : Int × eM} {x : eM} (hx : lp (fun z => fn_198_2 z.1 z.2) s = some x) (hK : (fun (x : eM) => Q (none) (em_L cn mo, eh_R, x)) x) : eg_X sc (eg_wp sc (d + 5)) eg_p198 none 0 0 Q 2 [some (.inr (.inr (some 45))), some (.inl s.1)] [] (em_L cn mo, eh_R, s.2) 0 0 := by
  refine lp_sound (P := (fun (s : Int × eM) => eg_X sc (eg_wp sc (d + 5)) eg_p198 none 0 0 Q 2 [some (.inr (.inr (some 45))), some (.inl s.1)] [] (em_L cn mo, eh_R, s.2) 0 0)) (K := (fun (x : eM) => Q (none) (em_L cn mo, eh_R, x))) hx hK ?_
  intro s x hx hK
  obtain ⟨s1, s2⟩ := s
  refine eg_k_iload rfl rfl ?_
  refine eg_k_ci rfl ?_
  refine vk_icmp rfl hx Iff.rfl (fun c1 hx => ?_) (fun c1 hx => ?_)
  · refine eg_k_aload rfl rfl ?_
    refine eg_k_ci rfl ?_
    refine eg_k_pfi rfl rfl rfl ?_
    refine eg_k_ci rfl ?_
    refine eg_k_istore (lv' := [some (.inr (.inr (some 45))), some (.inl 0)]) rfl rfl ?_
    obtain ⟨x, hy, e9⟩ := vb_map hx
    clear hx
    subst e9
    have hx := hy
    clear hy
    have hz := ft_198_17 (d := d) (sc := sc) hx hK
    exact hz
  · refine eg_k_aload rfl rfl ?_
    refine eg_k_gfa rfl rfl rfl eh_r45_35 ?_
    refine eg_k_iload rfl rfl ?_
    refine eg_k_ci rfl ?_
    obtain ⟨b47, hx⟩ := vb_if hx
    refine eg_k_zast (k := 6700) rfl rfl b47.1 b47.2 (by decide) ?_
    refine eg_k_iinc (lv' := [some (.inr (.inr (some 45))), some (.inl (eg_wi (s1 + 1)))]) rfl rfl rfl ?_
    refine eg_k_goto rfl ?_
    have hx := Option.some.inj hx
    subst hx
    exact hK
set_option maxRecDepth 100000 in
theorem ft_198 {cn mo : Nat} {sc : eg_Sc} {d : Nat} {M : eM} {Q : Option eg_V → eg_H → Prop} {x : eM} (hx : fn_198 M = some x) (hK : Q (none) (em_L cn mo, eh_R, x)) : eg_wp sc (d + 6) 198 [.inr (.inr (some 45))] (em_L cn mo, eh_R, M) 0 0 Q := by
  refine eg_in (lv := [some (.inr (.inr (some 45))), none]) eg_tj198 (Nat.le_of_ble_eq_true rfl) rfl ?_
  refine eg_k_ci rfl ?_
  refine eg_k_istore (lv' := [some (.inr (.inr (some 45))), some (.inl 0)]) rfl rfl ?_
  have hz := ft_198_2 (d := d) (sc := sc) hx hK
  exact hz
theorem fw_198_101 {c j : Nat} {v : Int} {x1 : Int} {s : eM} {x : eM} (hc : c ∉ ([45, 67, 85] : List Nat)) (hx : lp (fn_198_101 x1) s = some x) (hK : (fun (x : eM) => x c j = v) x) : s c j = v := by
  refine lp_sound (P := (fun (s : eM) => s c j = v)) (K := (fun (x : eM) => x c j = v)) hx hK ?_
  intro s x hx hK
  obtain ⟨r17, h16, hx⟩ := vb_bind hx
  refine vb_ite hx (fun _ hx => ?_) (fun _ hx => ?_)
  · have hx := Option.some.inj hx
    subst hx
    exact ((fw_203 h16 (vsub hc (by decide)) j).trans rfl).symm.trans hK
  · obtain ⟨m22, h20, hx⟩ := vb_bind hx
    have hx := Option.some.inj hx
    subst hx
    exact ((fw_199 h20 (vsub hc (by decide)) j).trans ((fw_203 h16 (vsub hc (by decide)) j).trans rfl)).symm.trans hK
theorem fw_198_81 {c j : Nat} {v : Int} {s : Int × eM} {x : eM} (hc : c ∉ ([45, 67, 85] : List Nat)) (hx : lp (fun z => fn_198_81 z.1 z.2) s = some x) (hK : (fun (x : eM) => x c j = v) x) : s.2 c j = v := by
  refine lp_sound (P := (fun (s : Int × eM) => s.2 c j = v)) (K := (fun (x : eM) => x c j = v)) hx hK ?_
  intro s x hx hK
  obtain ⟨s1, s2⟩ := s
  refine vb_ite hx (fun _ hx => ?_) (fun _ hx => ?_)
  · obtain ⟨m15, h13, hx⟩ := vb_bind hx
    obtain ⟨x, hy, e9⟩ := vb_map hx
    clear hx
    subst e9
    have hx := hy
    clear hy
    have hz := fw_198_101 hc hx hK
    exact ((fw_202 h13 (vsub hc (by decide)) j).trans rfl).symm.trans hz
  · obtain ⟨_, hx⟩ := vb_if hx
    obtain ⟨m26, h24, hx⟩ := vb_bind hx
    obtain ⟨m30, h28, hx⟩ := vb_bind hx
    have hx := Option.some.inj hx
    subst hx
    exact ((fw_199 h28 (vsub hc (by decide)) j).trans ((fw_199 h24 (vsub hc (by decide)) j).trans rfl)).symm.trans hK
theorem fw_198_67 {c j : Nat} {v : Int} {s : Int × eM} {x : eM} (hc : c ∉ ([45, 67, 85] : List Nat)) (hx : lp (fun z => fn_198_67 z.1 z.2) s = some x) (hK : (fun (x : eM) => x c j = v) x) : s.2 c j = v := by
  refine lp_sound (P := (fun (s : Int × eM) => s.2 c j = v)) (K := (fun (x : eM) => x c j = v)) hx hK ?_
  intro s x hx hK
  obtain ⟨s1, s2⟩ := s
  refine vb_ite hx (fun _ hx => ?_) (fun _ hx => ?_)
  · obtain ⟨x, hy, e9⟩ := vb_map hx
    clear hx
    subst e9
    have hx := hy
    clear hy
    have hz := fw_198_81 hc hx hK
    exact (Eq.refl _).symm.trans hz
  · obtain ⟨_, hx⟩ := vb_if hx
    obtain ⟨m34, h32, hx⟩ := vb_bind hx
    have hx := Option.some.inj hx
    subst hx
    exact ((fw_199 h32 (vsub hc (by decide)) j).trans rfl).symm.trans hK
theorem fw_198_45 {c j : Nat} {v : Int} {s : Int × eM} {x : eM} (hc : c ∉ ([45, 67, 85] : List Nat)) (hx : lp (fun z => fn_198_45 z.1 z.2) s = some x) (hK : (fun (x : eM) => x c j = v) x) : s.2 c j = v := by
  refine lp_sound (P := (fun (s : Int × eM) => s.2 c j = v)) (K := (fun (x : eM) => x c j = v)) hx hK ?_
  intro s x hx hK
  obtain ⟨s1, s2⟩ := s
  refine vb_ite hx (fun _ hx => ?_) (fun _ hx => ?_)
  · obtain ⟨m7, h5, hx⟩ := vb_bind hx
    obtain ⟨m10, h8, hx⟩ := vb_bind hx
    obtain ⟨x, hy, e9⟩ := vb_map hx
    clear hx
    subst e9
    have hx := hy
    clear hy
    have hz := fw_198_67 hc hx hK
    exact ((fw_199 h8 (vsub hc (by decide)) j).trans ((fw_199 h5 (vsub hc (by decide)) j).trans rfl)).symm.trans hz
  · obtain ⟨_, hx⟩ := vb_if hx
    obtain ⟨m38, h36, hx⟩ := vb_bind hx
    have hx := Option.some.inj hx
    subst hx
    exact ((fw_199 h36 (vsub hc (by decide)) j).trans rfl).symm.trans hK
theorem fw_198_31 {c j : Nat} {v : Int} {s : Int × eM} {x : eM} (hc : c ∉ ([45, 67, 85] : List Nat)) (hx : lp (fun z => fn_198_31 z.1 z.2) s = some x) (hK : (fun (x : eM) => x c j = v) x) : s.2 c j = v := by
  refine lp_sound (P := (fun (s : Int × eM) => s.2 c j = v)) (K := (fun (x : eM) => x c j = v)) hx hK ?_
  intro s x hx hK
  obtain ⟨s1, s2⟩ := s
  refine vb_ite hx (fun _ hx => ?_) (fun _ hx => ?_)
  · obtain ⟨x, hy, e9⟩ := vb_map hx
    clear hx
    subst e9
    have hx := hy
    clear hy
    have hz := fw_198_45 hc hx hK
    exact (Eq.refl _).symm.trans hz
  · obtain ⟨_, hx⟩ := vb_if hx
    obtain ⟨m42, h40, hx⟩ := vb_bind hx
    have hx := Option.some.inj hx
    subst hx
    exact ((fw_199 h40 (vsub hc (by decide)) j).trans rfl).symm.trans hK
theorem fw_198_17 {c j : Nat} {v : Int} {s : Int × eM} {x : eM} (hc : c ∉ ([45, 67, 85] : List Nat)) (hx : lp (fun z => fn_198_17 z.1 z.2) s = some x) (hK : (fun (x : eM) => x c j = v) x) : s.2 c j = v := by
  refine lp_sound (P := (fun (s : Int × eM) => s.2 c j = v)) (K := (fun (x : eM) => x c j = v)) hx hK ?_
  intro s x hx hK
  obtain ⟨s1, s2⟩ := s
  refine vb_ite hx (fun _ hx => ?_) (fun _ hx => ?_)
  · obtain ⟨x, hy, e9⟩ := vb_map hx
    clear hx
    subst e9
    have hx := hy
    clear hy
    have hz := fw_198_31 hc hx hK
    exact (Eq.refl _).symm.trans hz
  · obtain ⟨_, hx⟩ := vb_if hx
    obtain ⟨m46, h44, hx⟩ := vb_bind hx
    have hx := Option.some.inj hx
    subst hx
    exact ((fw_199 h44 (vsub hc (by decide)) j).trans rfl).symm.trans hK
theorem fw_198_2 {c j : Nat} {v : Int} {s : Int × eM} {x : eM} (hc : c ∉ ([45, 67, 85] : List Nat)) (hx : lp (fun z => fn_198_2 z.1 z.2) s = some x) (hK : (fun (x : eM) => x c j = v) x) : s.2 c j = v := by
  refine lp_sound (P := (fun (s : Int × eM) => s.2 c j = v)) (K := (fun (x : eM) => x c j = v)) hx hK ?_
  intro s x hx hK
  obtain ⟨s1, s2⟩ := s
  refine vb_ite hx (fun _ hx => ?_) (fun _ hx => ?_)
  · obtain ⟨x, hy, e9⟩ := vb_map hx
    clear hx
    subst e9
    have hx := hy
    clear hy
    have hz := fw_198_17 hc hx hK
    exact ((congrFun (eg_u_ne (vne hc (a := 45) (by decide))) j).trans rfl).symm.trans hz
  · obtain ⟨_, hx⟩ := vb_if hx
    have hx := Option.some.inj hx
    subst hx
    exact ((congrFun (eg_u_ne (vne hc (a := 67) (by decide))) j).trans rfl).symm.trans hK
theorem fw_198 {M : eM} {c : Nat} {x : eM} (hx : fn_198 M = some x) (hc : c ∉ ([45, 67, 85] : List Nat)) (j : Nat) : x c j = M c j := by
  obtain ⟨v, hK⟩ : ∃ v, x c j = v := ⟨_, rfl⟩
  rw [hK]
  refine Eq.symm ?_
  have hz := fw_198_2 hc hx hK
  exact (Eq.refl _).symm.trans hz
/-- 205: WeakSchemeModel.set(JIJ)V -/
noncomputable def fn_205 (a : Int) (b : Int) (e : Int) (M : eM) : Option (eM) :=
  (fn_187 a M).bind fun r2 =>
  (fn_190 r2 b M).bind fun r5 =>
  if 0 ≤ r5 ∧ r5 < 20000 then
  some (eg_u M 70 (r5).toNat e)
  else none
set_option maxRecDepth 100000 in
theorem ft_205 {cn mo : Nat} {sc : eg_Sc} {d : Nat} {M : eM} {Q : Option eg_V → eg_H → Prop} {a : Int} {b : Int} {e : Int} {x : eM} (hx : fn_205 a b e M = some x) (hK : Q (none) (em_L cn mo, eh_R, x)) : eg_wp sc (d + 2) 205 [.inr (.inr (some 45)), .inr (.inl a), .inl b, .inr (.inl e)] (em_L cn mo, eh_R, M) 0 0 Q := by
  refine eg_in (lv := [some (.inr (.inr (some 45))), some (.inr (.inl a)), none, some (.inl b), some (.inr (.inl e)), none]) eg_tj205 (Nat.le_of_ble_eq_true rfl) rfl ?_
  refine eg_k_aload rfl rfl ?_
  refine eg_k_gfa rfl rfl rfl eh_r45_39 ?_
  refine eg_k_aload rfl rfl ?_
  refine eg_k_lload rfl rfl ?_
  obtain ⟨r2, h1, hx⟩ := vb_bind hx
  refine eg_k_call (c1 := 0) (z1 := 0) (as := [.inr (.inl a)]) (rest := [.inr (.inr (some 45)), .inr (.inr (some 70))]) rfl eg_tj187 (Nat.le_of_ble_eq_true rfl) rfl rfl trivial (Nat.le_of_ble_eq_true rfl) (Nat.le_refl _) (Nat.le_refl _) ?_ (fun Q hQ => ft_187 h1 hQ)
  refine eg_k_iload rfl rfl ?_
  obtain ⟨r5, h4, hx⟩ := vb_bind hx
  refine eg_k_call (c1 := 0) (z1 := 0) (as := [.inr (.inr (some 45)), .inl r2, .inl b]) (rest := [.inr (.inr (some 70))]) rfl eg_tj190 (Nat.le_of_ble_eq_true rfl) rfl rfl rfl (Nat.le_of_ble_eq_true rfl) (Nat.le_refl _) (Nat.le_refl _) ?_ (fun Q hQ => ft_190 h4 hQ)
  refine eg_k_lload rfl rfl ?_
  obtain ⟨b7, hx⟩ := vb_if hx
  refine eg_k_last (k := 20000) rfl rfl b7.1 b7.2 ?_
  have hx := Option.some.inj hx
  subst hx
  exact eg_k_ret rfl rfl (Nat.le_refl _) (Nat.le_refl _) hK
theorem fw_205 {M : eM} {c : Nat} {a : Int} {b : Int} {e : Int} {x : eM} (hx : fn_205 a b e M = some x) (hc : c ∉ ([70] : List Nat)) (j : Nat) : x c j = M c j := by
  obtain ⟨v, hK⟩ : ∃ v, x c j = v := ⟨_, rfl⟩
  rw [hK]
  refine Eq.symm ?_
  obtain ⟨r2, h1, hx⟩ := vb_bind hx
  obtain ⟨r5, h4, hx⟩ := vb_bind hx
  obtain ⟨_, hx⟩ := vb_if hx
  have hx := Option.some.inj hx
  subst hx
  exact ((congrFun (eg_u_ne (vne hc (a := 70) (by decide))) j).trans rfl).symm.trans hK
noncomputable def fn_206_7 (x1 : Int) (s1 : Int) (s2 : Int) (s3 : eM) : Option ((Int × Int × eM) ⊕ (eM)) :=
  if s2 = (-1) then
    some (.inr s3)
  else
    (fn_189 s2 0 s3).bind fun r6 =>
    (fn_200 r6 s3).bind fun r9 =>
    if r9 = 0 then
      if ¬ s1 = (-1) then
        (fn_189 s2 2 s3).bind fun r14 =>
        (fn_205 s1 2 r14 s3).bind fun m18 =>
        (fn_189 s2 2 m18).bind fun r20 =>
        some (.inl (s1, r20, m18))
      else
        (fn_189 s2 2 s3).bind fun r23 =>
        (fn_205 x1 0 r23 s3).bind fun m27 =>
        (fn_189 s2 2 m27).bind fun r29 =>
        some (.inl (s1, r29, m27))
    else
      (fn_189 s2 2 s3).bind fun r32 =>
      some (.inl (s2, r32, s3))
/-- 206: WeakSchemeModel.thin(J)V -/
noncomputable def fn_206 (a : Int) (M : eM) : Option (eM) :=
  (fn_189 a 0 M).bind fun r2 =>
  lp (fun z => fn_206_7 a z.1 z.2.1 z.2.2) ((-1), r2, M)
set_option maxRecDepth 100000 in
theorem ft_206_7 {cn mo : Nat} {sc : eg_Sc} {d : Nat} {Q : Option eg_V → eg_H → Prop} {x1 : Int} {s : Int × Int × eM} {x : eM} (hx : lp (fun z => fn_206_7 x1 z.1 z.2.1 z.2.2) s = some x) (hK : (fun (x : eM) => Q (none) (em_L cn mo, eh_R, x)) x) : eg_X sc (eg_wp sc (d + 2)) eg_p206 none 0 0 Q 7 [some (.inr (.inr (some 45))), some (.inr (.inl x1)), none, some (.inr (.inl s.1)), none, some (.inr (.inl s.2.1)), none] [] (em_L cn mo, eh_R, s.2.2) 0 0 := by
  refine lp_sound (P := (fun (s : Int × Int × eM) => eg_X sc (eg_wp sc (d + 2)) eg_p206 none 0 0 Q 7 [some (.inr (.inr (some 45))), some (.inr (.inl x1)), none, some (.inr (.inl s.1)), none, some (.inr (.inl s.2.1)), none] [] (em_L cn mo, eh_R, s.2.2) 0 0)) (K := (fun (x : eM) => Q (none) (em_L cn mo, eh_R, x))) hx hK ?_
  intro s x hx hK
  obtain ⟨s1, s2, s3⟩ := s
  refine eg_k_lload rfl rfl ?_
  refine eg_k_cl rfl ?_
  refine vk_lcmp rfl rfl hx Iff.rfl (fun c4 hx => ?_) (fun c4 hx => ?_)
  · have hx := Option.some.inj hx
    subst hx
    exact eg_k_ret rfl rfl (Nat.le_refl _) (Nat.le_refl _) hK
  · refine eg_k_aload rfl rfl ?_
    refine eg_k_aload rfl rfl ?_
    refine eg_k_lload rfl rfl ?_
    refine eg_k_ci rfl ?_
    obtain ⟨r6, h5, hx⟩ := vb_bind hx
    refine eg_k_call (c1 := 0) (z1 := 0) (as := [.inr (.inr (some 45)), .inr (.inl s2), .inl 0]) (rest := [.inr (.inr (some 45))]) rfl eg_tj189 (Nat.le_of_ble_eq_true rfl) rfl rfl rfl (Nat.le_of_ble_eq_true rfl) (Nat.le_refl _) (Nat.le_refl _) ?_ (fun Q hQ => ft_189 h5 hQ)
    obtain ⟨r9, h8, hx⟩ := vb_bind hx
    refine eg_k_call (c1 := 0) (z1 := 0) (as := [.inr (.inr (some 45)), .inr (.inl r6)]) (rest := []) rfl eg_tj200 (Nat.le_of_ble_eq_true rfl) rfl rfl rfl (Nat.le_of_ble_eq_true rfl) (Nat.le_refl _) (Nat.le_refl _) ?_ (fun Q hQ => ft_200 h8 hQ)
    refine vk_if rfl hx Iff.rfl (fun c11 hx => ?_) (fun c11 hx => ?_)
    · refine eg_k_lload rfl rfl ?_
      refine eg_k_cl rfl ?_
      refine vk_lcmp rfl rfl hx Iff.rfl (fun c12 hx => ?_) (fun c12 hx => ?_)
      · refine eg_k_aload rfl rfl ?_
        refine eg_k_lload rfl rfl ?_
        refine eg_k_ci rfl ?_
        refine eg_k_aload rfl rfl ?_
        refine eg_k_lload rfl rfl ?_
        refine eg_k_ci rfl ?_
        obtain ⟨r14, h13, hx⟩ := vb_bind hx
        refine eg_k_call (c1 := 0) (z1 := 0) (as := [.inr (.inr (some 45)), .inr (.inl s2), .inl 2]) (rest := [.inl 2, .inr (.inl s1), .inr (.inr (some 45))]) rfl eg_tj189 (Nat.le_of_ble_eq_true rfl) rfl rfl rfl (Nat.le_of_ble_eq_true rfl) (Nat.le_refl _) (Nat.le_refl _) ?_ (fun Q hQ => ft_189 h13 hQ)
        obtain ⟨m18, h16, hx⟩ := vb_bind hx
        refine eg_k_call (c1 := 0) (z1 := 0) (as := [.inr (.inr (some 45)), .inr (.inl s1), .inl 2, .inr (.inl r14)]) (rest := []) rfl eg_tj205 (Nat.le_of_ble_eq_true rfl) rfl rfl rfl (Nat.le_of_ble_eq_true rfl) (Nat.le_refl _) (Nat.le_refl _) ?_ (fun Q hQ => ft_205 h16 hQ)
        refine eg_k_aload rfl rfl ?_
        refine eg_k_lload rfl rfl ?_
        refine eg_k_ci rfl ?_
        obtain ⟨r20, h19, hx⟩ := vb_bind hx
        refine eg_k_call (c1 := 0) (z1 := 0) (as := [.inr (.inr (some 45)), .inr (.inl s2), .inl 2]) (rest := []) rfl eg_tj189 (Nat.le_of_ble_eq_true rfl) rfl rfl rfl (Nat.le_of_ble_eq_true rfl) (Nat.le_refl _) (Nat.le_refl _) ?_ (fun Q hQ => ft_189 h19 hQ)
        refine eg_k_lstore (lv' := [some (.inr (.inr (some 45))), some (.inr (.inl x1)), none, some (.inr (.inl s1)), none, some (.inr (.inl r20)), none]) rfl rfl ?_
        refine eg_k_goto rfl ?_
        have hx := Option.some.inj hx
        subst hx
        exact hK
      · refine eg_k_aload rfl rfl ?_
        refine eg_k_lload rfl rfl ?_
        refine eg_k_ci rfl ?_
        refine eg_k_aload rfl rfl ?_
        refine eg_k_lload rfl rfl ?_
        refine eg_k_ci rfl ?_
        obtain ⟨r23, h22, hx⟩ := vb_bind hx
        refine eg_k_call (c1 := 0) (z1 := 0) (as := [.inr (.inr (some 45)), .inr (.inl s2), .inl 2]) (rest := [.inl 0, .inr (.inl x1), .inr (.inr (some 45))]) rfl eg_tj189 (Nat.le_of_ble_eq_true rfl) rfl rfl rfl (Nat.le_of_ble_eq_true rfl) (Nat.le_refl _) (Nat.le_refl _) ?_ (fun Q hQ => ft_189 h22 hQ)
        obtain ⟨m27, h25, hx⟩ := vb_bind hx
        refine eg_k_call (c1 := 0) (z1 := 0) (as := [.inr (.inr (some 45)), .inr (.inl x1), .inl 0, .inr (.inl r23)]) (rest := []) rfl eg_tj205 (Nat.le_of_ble_eq_true rfl) rfl rfl rfl (Nat.le_of_ble_eq_true rfl) (Nat.le_refl _) (Nat.le_refl _) ?_ (fun Q hQ => ft_205 h25 hQ)
        refine eg_k_goto rfl ?_
        refine eg_k_aload rfl rfl ?_
        refine eg_k_lload rfl rfl ?_
        refine eg_k_ci rfl ?_
        obtain ⟨r29, h28, hx⟩ := vb_bind hx
        refine eg_k_call (c1 := 0) (z1 := 0) (as := [.inr (.inr (some 45)), .inr (.inl s2), .inl 2]) (rest := []) rfl eg_tj189 (Nat.le_of_ble_eq_true rfl) rfl rfl rfl (Nat.le_of_ble_eq_true rfl) (Nat.le_refl _) (Nat.le_refl _) ?_ (fun Q hQ => ft_189 h28 hQ)
        refine eg_k_lstore (lv' := [some (.inr (.inr (some 45))), some (.inr (.inl x1)), none, some (.inr (.inl s1)), none, some (.inr (.inl r29)), none]) rfl rfl ?_
        refine eg_k_goto rfl ?_
        have hx := Option.some.inj hx
        subst hx
        exact hK
    · refine eg_k_lload rfl rfl ?_
      refine eg_k_lstore (lv' := [some (.inr (.inr (some 45))), some (.inr (.inl x1)), none, some (.inr (.inl s2)), none, some (.inr (.inl s2)), none]) rfl rfl ?_
      refine eg_k_goto rfl ?_
      refine eg_k_aload rfl rfl ?_
      refine eg_k_lload rfl rfl ?_
      refine eg_k_ci rfl ?_
      obtain ⟨r32, h31, hx⟩ := vb_bind hx
      refine eg_k_call (c1 := 0) (z1 := 0) (as := [.inr (.inr (some 45)), .inr (.inl s2), .inl 2]) (rest := []) rfl eg_tj189 (Nat.le_of_ble_eq_true rfl) rfl rfl rfl (Nat.le_of_ble_eq_true rfl) (Nat.le_refl _) (Nat.le_refl _) ?_ (fun Q hQ => ft_189 h31 hQ)
      refine eg_k_lstore (lv' := [some (.inr (.inr (some 45))), some (.inr (.inl x1)), none, some (.inr (.inl s2)), none, some (.inr (.inl r32)), none]) rfl rfl ?_
      refine eg_k_goto rfl ?_
      have hx := Option.some.inj hx
      subst hx
      exact hK
set_option maxRecDepth 100000 in
theorem ft_206 {cn mo : Nat} {sc : eg_Sc} {d : Nat} {M : eM} {Q : Option eg_V → eg_H → Prop} {a : Int} {x : eM} (hx : fn_206 a M = some x) (hK : Q (none) (em_L cn mo, eh_R, x)) : eg_wp sc (d + 3) 206 [.inr (.inr (some 45)), .inr (.inl a)] (em_L cn mo, eh_R, M) 0 0 Q := by
  refine eg_in (lv := [some (.inr (.inr (some 45))), some (.inr (.inl a)), none, none, none, none, none]) eg_tj206 (Nat.le_of_ble_eq_true rfl) rfl ?_
  refine eg_k_cl rfl ?_
  refine eg_k_lstore (lv' := [some (.inr (.inr (some 45))), some (.inr (.inl a)), none, some (.inr (.inl (-1))), none, none, none]) rfl rfl ?_
  refine eg_k_aload rfl rfl ?_
  refine eg_k_lload rfl rfl ?_
  refine eg_k_ci rfl ?_
  obtain ⟨r2, h1, hx⟩ := vb_bind hx
  refine eg_k_call (c1 := 0) (z1 := 0) (as := [.inr (.inr (some 45)), .inr (.inl a), .inl 0]) (rest := []) rfl eg_tj189 (Nat.le_of_ble_eq_true rfl) rfl rfl rfl (Nat.le_of_ble_eq_true rfl) (Nat.le_refl _) (Nat.le_refl _) ?_ (fun Q hQ => ft_189 h1 hQ)
  refine eg_k_lstore (lv' := [some (.inr (.inr (some 45))), some (.inr (.inl a)), none, some (.inr (.inl (-1))), none, some (.inr (.inl r2)), none]) rfl rfl ?_
  have hz := ft_206_7 (d := d) (sc := sc) hx hK
  exact hz
theorem fw_206_7 {c j : Nat} {v : Int} {x1 : Int} {s : Int × Int × eM} {x : eM} (hc : c ∉ ([70] : List Nat)) (hx : lp (fun z => fn_206_7 x1 z.1 z.2.1 z.2.2) s = some x) (hK : (fun (x : eM) => x c j = v) x) : s.2.2 c j = v := by
  refine lp_sound (P := (fun (s : Int × Int × eM) => s.2.2 c j = v)) (K := (fun (x : eM) => x c j = v)) hx hK ?_
  intro s x hx hK
  obtain ⟨s1, s2, s3⟩ := s
  refine vb_ite hx (fun _ hx => ?_) (fun _ hx => ?_)
  · have hx := Option.some.inj hx
    subst hx
    exact (Eq.refl _).symm.trans hK
  · obtain ⟨r6, h5, hx⟩ := vb_bind hx
    obtain ⟨r9, h8, hx⟩ := vb_bind hx
    refine vb_ite hx (fun _ hx => ?_) (fun _ hx => ?_)
    · refine vb_ite hx (fun _ hx => ?_) (fun _ hx => ?_)
      · obtain ⟨r14, h13, hx⟩ := vb_bind hx
        obtain ⟨m18, h16, hx⟩ := vb_bind hx
        obtain ⟨r20, h19, hx⟩ := vb_bind hx
        have hx := Option.some.inj hx
        subst hx
        exact ((fw_205 h16 (vsub hc (by decide)) j).trans rfl).symm.trans hK
      · obtain ⟨r23, h22, hx⟩ := vb_bind hx
        obtain ⟨m27, h25, hx⟩ := vb_bind hx
        obtain ⟨r29, h28, hx⟩ := vb_bind hx
        have hx := Option.some.inj hx
        subst hx
        exact ((fw_205 h25 (vsub hc (by decide)) j).trans rfl).symm.trans hK
    · obtain ⟨r32, h31, hx⟩ := vb_bind hx
      have hx := Option.some.inj hx
      subst hx
      exact (Eq.refl _).symm.trans hK
theorem fw_206 {M : eM} {c : Nat} {a : Int} {x : eM} (hx : fn_206 a M = some x) (hc : c ∉ ([70] : List Nat)) (j : Nat) : x c j = M c j := by
  obtain ⟨v, hK⟩ : ∃ v, x c j = v := ⟨_, rfl⟩
  rw [hK]
  refine Eq.symm ?_
  obtain ⟨r2, h1, hx⟩ := vb_bind hx
  have hz := fw_206_7 hc hx hK
  exact (Eq.refl _).symm.trans hz
noncomputable def fn_207_5 (x1 : Int) (s1 : Int) (s2 : eM) : Option ((Int × eM) ⊕ (eM)) :=
  if s1 < 0 then
    if 0 ≤ x1 ∧ x1 < 6700 then
    (fn_196 (s2 62 (x1).toNat) (s2 63 (x1).toNat) (eg_u s2 68 (x1).toNat 0)).bind fun r7 =>
      if 0 ≤ (s2 45 38) ∧ (s2 45 38) < 6700 then
      some (.inr (eg_u (eg_u (eg_u (eg_u (eg_u s2 68 (x1).toNat 0) 45 28 (eg_wi ((s2 45 28) - r7))) 45 29 (eg_wi ((s2 45 29) - 1))) 69 (s2 45 38).toNat x1) 45 38 (eg_wi ((s2 45 38) + 1))))
      else none
    else none
  else
    if 0 ≤ s1 ∧ s1 < 20000 then
    some (.inl (s2 71 (s1).toNat, eg_u (eg_u s2 71 (s1).toNat (s2 45 41)) 45 41 s1))
    else none
/-- 207: WeakSchemeModel.drop(I)V -/
noncomputable def fn_207 (a : Int) (M : eM) : Option (eM) :=
  if 0 ≤ a ∧ a < 6700 then
  lp (fun z => fn_207_5 a z.1 z.2) (M 65 (a).toNat, M)
  else none
set_option maxRecDepth 100000 in
theorem ft_207_5 {cn mo : Nat} {sc : eg_Sc} {d : Nat} {Q : Option eg_V → eg_H → Prop} {x1 : Int} {s : Int × eM} {x : eM} (hx : lp (fun z => fn_207_5 x1 z.1 z.2) s = some x) (hK : (fun (x : eM) => Q (none) (em_L cn mo, eh_R, x)) x) : ∀ (w3 : Option eg_V), eg_X sc (eg_wp sc (d + 1)) eg_p207 none 0 0 Q 5 [some (.inr (.inr (some 45))), some (.inl x1), some (.inl s.1), w3] [] (em_L cn mo, eh_R, s.2) 0 0 := by
  refine lp_sound (P := (fun (s : Int × eM) => ∀ (w3 : Option eg_V), eg_X sc (eg_wp sc (d + 1)) eg_p207 none 0 0 Q 5 [some (.inr (.inr (some 45))), some (.inl x1), some (.inl s.1), w3] [] (em_L cn mo, eh_R, s.2) 0 0)) (K := (fun (x : eM) => Q (none) (em_L cn mo, eh_R, x))) hx hK ?_
  intro s x hx hK w3
  obtain ⟨s1, s2⟩ := s
  refine eg_k_iload rfl rfl ?_
  refine vk_if rfl hx Iff.rfl (fun c2 hx => ?_) (fun c2 hx => ?_)
  · refine eg_k_aload rfl rfl ?_
    refine eg_k_gfa rfl rfl rfl eh_r45_36 ?_
    refine eg_k_iload rfl rfl ?_
    refine eg_k_ci rfl ?_
    obtain ⟨b3, hx⟩ := vb_if hx
    refine eg_k_zast (k := 6700) rfl rfl b3.1 b3.2 (by decide) ?_
    refine eg_k_aload rfl rfl ?_
    refine eg_k_aload rfl rfl ?_
    refine eg_k_gfie (x := s2 45 28) rfl rfl rfl rfl ?_
    refine eg_k_aload rfl rfl ?_
    refine eg_k_gfa rfl rfl rfl eh_r45_30 ?_
    refine eg_k_iload rfl rfl ?_
    refine vk_bald (k := 6700) (y := s2 62 (x1).toNat) rfl rfl b3.1 b3.2 rfl ?_
    refine eg_k_aload rfl rfl ?_
    refine eg_k_gfa rfl rfl rfl eh_r45_31 ?_
    refine eg_k_iload rfl rfl ?_
    refine vk_sald (k := 6700) (y := s2 63 (x1).toNat) rfl rfl b3.1 b3.2 rfl ?_
    obtain ⟨r7, h6, hx⟩ := vb_bind hx
    refine eg_k_call (c1 := 0) (z1 := 0) (as := [.inl (s2 62 (x1).toNat), .inl (s2 63 (x1).toNat)]) (rest := [.inl (s2 45 28), .inr (.inr (some 45))]) rfl eg_tj196 (Nat.le_of_ble_eq_true rfl) rfl rfl trivial (Nat.le_of_ble_eq_true rfl) (Nat.le_refl _) (Nat.le_refl _) ?_ (fun Q hQ => ft_196 h6 hQ)
    refine eg_k_isub rfl ?_
    refine eg_k_pfi rfl rfl rfl ?_
    refine eg_k_aload rfl rfl ?_
    refine eg_k_aload rfl rfl ?_
    refine eg_k_gfie (x := s2 45 29) rfl rfl rfl rfl ?_
    refine eg_k_ci rfl ?_
    refine eg_k_isub rfl ?_
    refine eg_k_pfi rfl rfl rfl ?_
    refine eg_k_aload rfl rfl ?_
    refine eg_k_gfa rfl rfl rfl eh_r45_37 ?_
    refine eg_k_aload rfl rfl ?_
    refine eg_k_gfie (x := s2 45 38) rfl rfl rfl rfl ?_
    refine eg_k_iload rfl rfl ?_
    obtain ⟨b9, hx⟩ := vb_if hx
    refine eg_k_iast (k := 6700) rfl rfl b9.1 b9.2 ?_
    refine eg_k_aload rfl rfl ?_
    refine eg_k_aload rfl rfl ?_
    refine eg_k_gfie (x := s2 45 38) rfl rfl rfl rfl ?_
    refine eg_k_ci rfl ?_
    refine eg_k_iadd rfl ?_
    refine eg_k_pfi rfl rfl rfl ?_
    have hx := Option.some.inj hx
    subst hx
    exact eg_k_ret rfl rfl (Nat.le_refl _) (Nat.le_refl _) hK
  · refine eg_k_aload rfl rfl ?_
    refine eg_k_gfa rfl rfl rfl eh_r45_40 ?_
    refine eg_k_iload rfl rfl ?_
    obtain ⟨b10, hx⟩ := vb_if hx
    refine eg_k_iald (k := 20000) rfl rfl b10.1 b10.2 ?_
    refine eg_k_istore (lv' := [some (.inr (.inr (some 45))), some (.inl x1), some (.inl s1), some (.inl (s2 71 (s1).toNat))]) rfl rfl ?_
    refine eg_k_aload rfl rfl ?_
    refine eg_k_gfa rfl rfl rfl eh_r45_40 ?_
    refine eg_k_iload rfl rfl ?_
    refine eg_k_aload rfl rfl ?_
    refine eg_k_gfi rfl rfl rfl ?_
    refine eg_k_iast (k := 20000) rfl rfl b10.1 b10.2 ?_
    refine eg_k_aload rfl rfl ?_
    refine eg_k_iload rfl rfl ?_
    refine eg_k_pfi rfl rfl rfl ?_
    refine eg_k_iload rfl rfl ?_
    refine eg_k_istore (lv' := [some (.inr (.inr (some 45))), some (.inl x1), some (.inl (s2 71 (s1).toNat)), some (.inl (s2 71 (s1).toNat))]) rfl rfl ?_
    refine eg_k_goto rfl ?_
    have hx := Option.some.inj hx
    subst hx
    exact hK (some (.inl (s2 71 (s1).toNat)))
set_option maxRecDepth 100000 in
theorem ft_207 {cn mo : Nat} {sc : eg_Sc} {d : Nat} {M : eM} {Q : Option eg_V → eg_H → Prop} {a : Int} {x : eM} (hx : fn_207 a M = some x) (hK : Q (none) (em_L cn mo, eh_R, x)) : eg_wp sc (d + 2) 207 [.inr (.inr (some 45)), .inl a] (em_L cn mo, eh_R, M) 0 0 Q := by
  refine eg_in (lv := [some (.inr (.inr (some 45))), some (.inl a), none, none]) eg_tj207 (Nat.le_of_ble_eq_true rfl) rfl ?_
  refine eg_k_aload rfl rfl ?_
  refine eg_k_gfa rfl rfl rfl eh_r45_33 ?_
  refine eg_k_iload rfl rfl ?_
  obtain ⟨b1, hx⟩ := vb_if hx
  refine eg_k_iald (k := 6700) rfl rfl b1.1 b1.2 ?_
  refine eg_k_istore (lv' := [some (.inr (.inr (some 45))), some (.inl a), some (.inl (M 65 (a).toNat)), none]) rfl rfl ?_
  have hz := ft_207_5 (d := d) (sc := sc) hx hK
  exact hz none
theorem fw_207_5 {c j : Nat} {v : Int} {x1 : Int} {s : Int × eM} {x : eM} (hc : c ∉ ([45, 68, 69, 71] : List Nat)) (hx : lp (fun z => fn_207_5 x1 z.1 z.2) s = some x) (hK : (fun (x : eM) => x c j = v) x) : s.2 c j = v := by
  refine lp_sound (P := (fun (s : Int × eM) => s.2 c j = v)) (K := (fun (x : eM) => x c j = v)) hx hK ?_
  intro s x hx hK
  obtain ⟨s1, s2⟩ := s
  refine vb_ite hx (fun _ hx => ?_) (fun _ hx => ?_)
  · obtain ⟨_, hx⟩ := vb_if hx
    obtain ⟨r7, h6, hx⟩ := vb_bind hx
    obtain ⟨_, hx⟩ := vb_if hx
    have hx := Option.some.inj hx
    subst hx
    exact ((congrFun (eg_u_ne (vne hc (a := 45) (by decide))) j).trans ((congrFun (eg_u_ne (vne hc (a := 69) (by decide))) j).trans ((congrFun (eg_u_ne (vne hc (a := 45) (by decide))) j).trans ((congrFun (eg_u_ne (vne hc (a := 45) (by decide))) j).trans ((congrFun (eg_u_ne (vne hc (a := 68) (by decide))) j).trans rfl))))).symm.trans hK
  · obtain ⟨_, hx⟩ := vb_if hx
    have hx := Option.some.inj hx
    subst hx
    exact ((congrFun (eg_u_ne (vne hc (a := 45) (by decide))) j).trans ((congrFun (eg_u_ne (vne hc (a := 71) (by decide))) j).trans rfl)).symm.trans hK
theorem fw_207 {M : eM} {c : Nat} {a : Int} {x : eM} (hx : fn_207 a M = some x) (hc : c ∉ ([45, 68, 69, 71] : List Nat)) (j : Nat) : x c j = M c j := by
  obtain ⟨v, hK⟩ : ∃ v, x c j = v := ⟨_, rfl⟩
  rw [hK]
  refine Eq.symm ?_
  obtain ⟨_, hx⟩ := vb_if hx
  have hz := fw_207_5 hc hx hK
  exact (Eq.refl _).symm.trans hz
noncomputable def fn_197_160 (x1 : Int) (s1 : Int) (s2 : eM) : Option ((Int × eM) ⊕ (Int × eM)) :=
  if 6700 ≤ s1 then
    some (.inr (1, s2))
  else
    if 0 ≤ s1 ∧ s1 < 6700 then
    if (s2 68 (s1).toNat) = 0 then
        some (.inl (eg_wi (s1 + 1), s2))
      else
        if ¬ (s2 67 (s1).toNat) = 0 then
          some (.inl (eg_wi (s1 + 1), s2))
        else
          (fn_207 s1 s2).bind fun m17 =>
          some (.inl (eg_wi (s1 + 1), m17))
    else none
noncomputable def fn_197_95 (s1 : Int) (s2 : Int) (s3 : eM) : Option ((Int × Int × eM) ⊕ (Int × eM)) :=
  if (s3 45 45) ≤ s2 then
    (fn_198 (eg_u s3 45 45 s1)).bind fun m9 =>
    (lp (fun z => fn_197_160 s1 z.1 z.2) (0, m9)).map Sum.inr
  else
    if 0 ≤ s2 ∧ s2 < 500 then
    (fn_200 (s3 73 (s2).toNat) s3).bind fun r20 =>
      if r20 = 0 then
        if 0 ≤ (s3 45 48) ∧ (s3 45 48) < 501 then
        some (.inl (s1, eg_wi (s2 + 1), eg_u (eg_u (eg_u s3 75 (s3 45 48).toNat (s3 73 (s2).toNat)) 76 (s3 45 48).toNat (s3 74 (s2).toNat)) 45 48 (eg_wi ((s3 45 48) + 1))))
        else none
      else
        if 0 ≤ s1 ∧ s1 < 500 then
        some (.inl (eg_wi (s1 + 1), eg_wi (s2 + 1), eg_u (eg_u s3 73 (s1).toNat (s3 73 (s2).toNat)) 74 (s1).toNat (s3 74 (s2).toNat)))
        else none
    else none
noncomputable def fn_197_57 (x1 : Int) (x2 : Int) (M : eM) : Option ((Int × eM) ⊕ (Int × eM)) :=
  if 0 ≤ x1 ∧ x1 < 6700 then
  if ¬ (M 62 (x1).toNat) = 5 then
      if ¬ (M 62 (x1).toNat) = 6 then
        some (.inl (eg_wi (x1 + 1), M))
      else
        (fn_206 x2 M).bind fun m41 =>
        some (.inl (eg_wi (x1 + 1), m41))
    else
      (fn_189 x2 0 M).bind fun r43 =>
      (fn_200 r43 M).bind fun r46 =>
      if ¬ r46 = 0 then
        if ¬ (M 62 (x1).toNat) = 6 then
          some (.inl (eg_wi (x1 + 1), M))
        else
          (fn_206 x2 M).bind fun m53 =>
          some (.inl (eg_wi (x1 + 1), m53))
      else
        (fn_205 x2 0 8589934592 M).bind fun m56 =>
        (fn_205 x2 1 8589934592 m56).bind fun m59 =>
        if ¬ (m59 62 (x1).toNat) = 6 then
          some (.inl (eg_wi (x1 + 1), m59))
        else
          (fn_206 x2 m59).bind fun m64 =>
          some (.inl (eg_wi (x1 + 1), m64))
  else none
noncomputable def fn_197_25 (s1 : Int) (s2 : eM) : Option ((Int × eM) ⊕ (Int × eM)) :=
  if 6700 ≤ s1 then
    (lp (fun z => fn_197_95 z.1 z.2.1 z.2.2) (0, 0, s2)).map Sum.inr
  else
    if 0 ≤ s1 ∧ s1 < 6700 then
    if ¬ (s2 68 (s1).toNat) = 0 then
        if ¬ (s2 62 (s1).toNat) = 4 then
          fn_197_57 s1 (eb_lor 25769803776 s1) s2
        else
          (fn_189 (eb_lor 25769803776 s1) 0 s2).bind fun r66 =>
          (fn_200 r66 s2).bind fun r69 =>
          if ¬ r69 = 0 then
            fn_197_57 s1 (eb_lor 25769803776 s1) s2
          else
            (fn_205 (eb_lor 25769803776 s1) 0 8589934592 s2).bind fun m74 =>
            fn_197_57 s1 (eb_lor 25769803776 s1) m74
      else
        some (.inl (eg_wi (s1 + 1), s2))
    else none
/-- 197: WeakSchemeModel.collect()Z -/
noncomputable def fn_197 (M : eM) : Option (Int × eM) :=
  if 100 ≤ (M 45 67) then
    (fn_198 (eg_u (eg_u M 45 67 (eg_wi ((M 45 67) - 100))) 45 43 (eg_wi ((M 45 43) + 1)))).bind fun m4 =>
    lp (fun z => fn_197_25 z.1 z.2) (0, m4)
  else
    some (0, eg_u M 45 66 4)
set_option maxRecDepth 100000 in
theorem ft_197_160 {cn mo : Nat} {sc : eg_Sc} {d : Nat} {Q : Option eg_V → eg_H → Prop} {x1 : Int} {s : Int × eM} {x : Int × eM} (hx : lp (fun z => fn_197_160 x1 z.1 z.2) s = some x) (hK : (fun (x : Int × eM) => Q (some (.inl ((x).1))) (em_L cn mo, eh_R, (x).2)) x) : ∀ (w3 : Option eg_V), eg_X sc (eg_wp sc (d + 6)) eg_p197 (some .boolean) 0 0 Q 160 [some (.inr (.inr (some 45))), some (.inl x1), some (.inl s.1), w3] [] (em_L cn mo, eh_R, s.2) 0 0 := by
  refine lp_sound (P := (fun (s : Int × eM) => ∀ (w3 : Option eg_V), eg_X sc (eg_wp sc (d + 6)) eg_p197 (some .boolean) 0 0 Q 160 [some (.inr (.inr (some 45))), some (.inl x1), some (.inl s.1), w3] [] (em_L cn mo, eh_R, s.2) 0 0)) (K := (fun (x : Int × eM) => Q (some (.inl ((x).1))) (em_L cn mo, eh_R, (x).2))) hx hK ?_
  intro s x hx hK w3
  obtain ⟨s1, s2⟩ := s
  refine eg_k_iload rfl rfl ?_
  refine eg_k_ci rfl ?_
  refine vk_icmp rfl hx Iff.rfl (fun c10 hx => ?_) (fun c10 hx => ?_)
  · refine eg_k_ci rfl ?_
    have hx := Option.some.inj hx
    subst hx
    exact eg_k_iret rfl (Or.inr rfl) (Nat.le_refl _) (Nat.le_refl _) hK
  · refine eg_k_aload rfl rfl ?_
    refine eg_k_gfa rfl rfl rfl eh_r45_36 ?_
    refine eg_k_iload rfl rfl ?_
    obtain ⟨b11, hx⟩ := vb_if hx
    refine eg_k_zald (k := 6700) rfl rfl b11.1 b11.2 ?_
    refine vk_if rfl hx Iff.rfl (fun c12 hx => ?_) (fun c12 hx => ?_)
    · refine eg_k_iinc (lv' := [some (.inr (.inr (some 45))), some (.inl x1), some (.inl (eg_wi (s1 + 1))), w3]) rfl rfl rfl ?_
      refine eg_k_goto rfl ?_
      have hx := Option.some.inj hx
      subst hx
      exact hK w3
    · refine eg_k_aload rfl rfl ?_
      refine eg_k_gfa rfl rfl rfl eh_r45_35 ?_
      refine eg_k_iload rfl rfl ?_
      refine eg_k_zald (k := 6700) rfl rfl b11.1 b11.2 ?_
      refine vk_if rfl hx Iff.rfl (fun c14 hx => ?_) (fun c14 hx => ?_)
      · refine eg_k_iinc (lv' := [some (.inr (.inr (some 45))), some (.inl x1), some (.inl (eg_wi (s1 + 1))), w3]) rfl rfl rfl ?_
        refine eg_k_goto rfl ?_
        have hx := Option.some.inj hx
        subst hx
        exact hK w3
      · refine eg_k_aload rfl rfl ?_
        refine eg_k_iload rfl rfl ?_
        obtain ⟨m17, h15, hx⟩ := vb_bind hx
        refine eg_k_call (c1 := 0) (z1 := 0) (as := [.inr (.inr (some 45)), .inl s1]) (rest := []) rfl eg_tj207 (Nat.le_of_ble_eq_true rfl) rfl rfl rfl (Nat.le_of_ble_eq_true rfl) (Nat.le_refl _) (Nat.le_refl _) ?_ (fun Q hQ => ft_207 h15 hQ)
        refine eg_k_iinc (lv' := [some (.inr (.inr (some 45))), some (.inl x1), some (.inl (eg_wi (s1 + 1))), w3]) rfl rfl rfl ?_
        refine eg_k_goto rfl ?_
        have hx := Option.some.inj hx
        subst hx
        exact hK w3
set_option maxRecDepth 100000 in
theorem ft_197_95 {cn mo : Nat} {sc : eg_Sc} {d : Nat} {Q : Option eg_V → eg_H → Prop} {s : Int × Int × eM} {x : Int × eM} (hx : lp (fun z => fn_197_95 z.1 z.2.1 z.2.2) s = some x) (hK : (fun (x : Int × eM) => Q (some (.inl ((x).1))) (em_L cn mo, eh_R, (x).2)) x) : ∀ (w3 : Option eg_V), eg_X sc (eg_wp sc (d + 6)) eg_p197 (some .boolean) 0 0 Q 95 [some (.inr (.inr (some 45))), some (.inl s.1), some (.inl s.2.1), w3] [] (em_L cn mo, eh_R, s.2.2) 0 0 := by
  refine lp_sound (P := (fun (s : Int × Int × eM) => ∀ (w3 : Option eg_V), eg_X sc (eg_wp sc (d + 6)) eg_p197 (some .boolean) 0 0 Q 95 [some (.inr (.inr (some 45))), some (.inl s.1), some (.inl s.2.1), w3] [] (em_L cn mo, eh_R, s.2.2) 0 0)) (K := (fun (x : Int × eM) => Q (some (.inl ((x).1))) (em_L cn mo, eh_R, (x).2))) hx hK ?_
  intro s x hx hK w3
  obtain ⟨s1, s2, s3⟩ := s
  refine eg_k_iload rfl rfl ?_
  refine eg_k_aload rfl rfl ?_
  refine eg_k_gfi rfl rfl rfl ?_
  refine vk_icmp rfl hx Iff.rfl (fun c6 hx => ?_) (fun c6 hx => ?_)
  · refine eg_k_aload rfl rfl ?_
    refine eg_k_iload rfl rfl ?_
    refine eg_k_pfi rfl rfl rfl ?_
    refine eg_k_aload rfl rfl ?_
    obtain ⟨m9, h7, hx⟩ := vb_bind hx
    refine eg_k_call (c1 := 0) (z1 := 0) (as := [.inr (.inr (some 45))]) (rest := []) rfl eg_tj198 (Nat.le_of_ble_eq_true rfl) rfl rfl rfl (Nat.le_of_ble_eq_true rfl) (Nat.le_refl _) (Nat.le_refl _) ?_ (fun Q hQ => ft_198 h7 hQ)
    refine eg_k_ci rfl ?_
    refine eg_k_istore (lv' := [some (.inr (.inr (some 45))), some (.inl s1), some (.inl 0), w3]) rfl rfl ?_
    obtain ⟨x, hy, e9⟩ := vb_map hx
    clear hx
    subst e9
    have hx := hy
    clear hy
    have hz := ft_197_160 (d := d) (sc := sc) hx hK
    exact hz w3
  · refine eg_k_aload rfl rfl ?_
    refine eg_k_aload rfl rfl ?_
    refine eg_k_gfa rfl rfl rfl eh_r45_46 ?_
    refine eg_k_iload rfl rfl ?_
    obtain ⟨b18, hx⟩ := vb_if hx
    refine eg_k_lald (k := 500) rfl rfl b18.1 b18.2 ?_
    obtain ⟨r20, h19, hx⟩ := vb_bind hx
    refine eg_k_call (c1 := 0) (z1 := 0) (as := [.inr (.inr (some 45)), .inr (.inl (s3 73 (s2).toNat))]) (rest := []) rfl eg_tj200 (Nat.le_of_ble_eq_true rfl) rfl rfl rfl (Nat.le_of_ble_eq_true rfl) (Nat.le_refl _) (Nat.le_refl _) ?_ (fun Q hQ => ft_200 h19 hQ)
    refine vk_if rfl hx Iff.rfl (fun c22 hx => ?_) (fun c22 hx => ?_)
    · refine eg_k_aload rfl rfl ?_
      refine eg_k_gfa rfl rfl rfl eh_r45_49 ?_
      refine eg_k_aload rfl rfl ?_
      refine eg_k_gfi rfl rfl rfl ?_
      refine eg_k_aload rfl rfl ?_
      refine eg_k_gfa rfl rfl rfl eh_r45_46 ?_
      refine eg_k_iload rfl rfl ?_
      refine eg_k_lald (k := 500) rfl rfl b18.1 b18.2 ?_
      obtain ⟨b24, hx⟩ := vb_if hx
      refine eg_k_last (k := 501) rfl rfl b24.1 b24.2 ?_
      refine eg_k_aload rfl rfl ?_
      refine eg_k_gfa rfl rfl rfl eh_r45_50 ?_
      refine eg_k_aload rfl rfl ?_
      refine eg_k_gfie (x := s3 45 48) rfl rfl rfl rfl ?_
      refine eg_k_aload rfl rfl ?_
      refine eg_k_gfa rfl rfl rfl eh_r45_47 ?_
      refine eg_k_iload rfl rfl ?_
      refine vk_lald (k := 500) (y := s3 74 (s2).toNat) rfl rfl b18.1 b18.2 rfl ?_
      refine eg_k_last (k := 501) rfl rfl b24.1 b24.2 ?_
      refine eg_k_aload rfl rfl ?_
      refine eg_k_aload rfl rfl ?_
      refine eg_k_gfie (x := s3 45 48) rfl rfl rfl rfl ?_
      refine eg_k_ci rfl ?_
      refine eg_k_iadd rfl ?_
      refine eg_k_pfi rfl rfl rfl ?_
      refine eg_k_iinc (lv' := [some (.inr (.inr (some 45))), some (.inl s1), some (.inl (eg_wi (s2 + 1))), w3]) rfl rfl rfl ?_
      refine eg_k_goto rfl ?_
      have hx := Option.some.inj hx
      subst hx
      exact hK w3
    · refine eg_k_aload rfl rfl ?_
      refine eg_k_gfa rfl rfl rfl eh_r45_46 ?_
      refine eg_k_iload rfl rfl ?_
      refine eg_k_aload rfl rfl ?_
      refine eg_k_gfa rfl rfl rfl eh_r45_46 ?_
      refine eg_k_iload rfl rfl ?_
      refine eg_k_lald (k := 500) rfl rfl b18.1 b18.2 ?_
      obtain ⟨b28, hx⟩ := vb_if hx
      refine eg_k_last (k := 500) rfl rfl b28.1 b28.2 ?_
      refine eg_k_aload rfl rfl ?_
      refine eg_k_gfa rfl rfl rfl eh_r45_47 ?_
      refine eg_k_iload rfl rfl ?_
      refine eg_k_aload rfl rfl ?_
      refine eg_k_gfa rfl rfl rfl eh_r45_47 ?_
      refine eg_k_iload rfl rfl ?_
      refine vk_lald (k := 500) (y := s3 74 (s2).toNat) rfl rfl b18.1 b18.2 rfl ?_
      refine eg_k_last (k := 500) rfl rfl b28.1 b28.2 ?_
      refine eg_k_iload rfl rfl ?_
      refine eg_k_ci rfl ?_
      refine eg_k_iadd rfl ?_
      refine eg_k_istore (lv' := [some (.inr (.inr (some 45))), some (.inl (eg_wi (s1 + 1))), some (.inl s2), w3]) rfl rfl ?_
      refine eg_k_goto rfl ?_
      refine eg_k_iinc (lv' := [some (.inr (.inr (some 45))), some (.inl (eg_wi (s1 + 1))), some (.inl (eg_wi (s2 + 1))), w3]) rfl rfl rfl ?_
      refine eg_k_goto rfl ?_
      have hx := Option.some.inj hx
      subst hx
      exact hK w3
set_option maxRecDepth 100000 in
theorem ft_197_57 {cn mo : Nat} {sc : eg_Sc} {d : Nat} {M : eM} {Q : Option eg_V → eg_H → Prop} {x1 : Int} {x2 : Int} {x : (Int × eM) ⊕ (Int × eM)} (hx : fn_197_57 x1 x2 M = some x) (hK : (eK (fun (s : Int × eM) => ∀ (w2 w3 : Option eg_V), eg_X sc (eg_wp sc (d + 6)) eg_p197 (some .boolean) 0 0 Q 25 [some (.inr (.inr (some 45))), some (.inl s.1), w2, w3] [] (em_L cn mo, eh_R, s.2) 0 0) (fun (x : Int × eM) => Q (some (.inl ((x).1))) (em_L cn mo, eh_R, (x).2))) x) : eg_X sc (eg_wp sc (d + 6)) eg_p197 (some .boolean) 0 0 Q 57 [some (.inr (.inr (some 45))), some (.inl x1), some (.inr (.inl x2)), none] [] (em_L cn mo, eh_R, M) 0 0 := by
  refine eg_k_aload rfl rfl ?_
  refine eg_k_gfa rfl rfl rfl eh_r45_30 ?_
  refine eg_k_iload rfl rfl ?_
  obtain ⟨b35, hx⟩ := vb_if hx
  refine eg_k_bald (k := 6700) rfl rfl b35.1 b35.2 ?_
  refine eg_k_ci rfl ?_
  refine vk_icmp rfl hx Iff.rfl (fun c36 hx => ?_) (fun c36 hx => ?_)
  · refine eg_k_aload rfl rfl ?_
    refine eg_k_gfa rfl rfl rfl eh_r45_30 ?_
    refine eg_k_iload rfl rfl ?_
    refine eg_k_bald (k := 6700) rfl rfl b35.1 b35.2 ?_
    refine eg_k_ci rfl ?_
    refine vk_icmp rfl hx Iff.rfl (fun c38 hx => ?_) (fun c38 hx => ?_)
    · refine eg_k_iinc (lv' := [some (.inr (.inr (some 45))), some (.inl (eg_wi (x1 + 1))), some (.inr (.inl x2)), none]) rfl rfl rfl ?_
      refine eg_k_goto rfl ?_
      have hx := Option.some.inj hx
      subst hx
      exact hK (some (.inr (.inl x2))) none
    · refine eg_k_aload rfl rfl ?_
      refine eg_k_lload rfl rfl ?_
      obtain ⟨m41, h39, hx⟩ := vb_bind hx
      refine eg_k_call (c1 := 0) (z1 := 0) (as := [.inr (.inr (some 45)), .inr (.inl x2)]) (rest := []) rfl eg_tj206 (Nat.le_of_ble_eq_true rfl) rfl rfl rfl (Nat.le_of_ble_eq_true rfl) (Nat.le_refl _) (Nat.le_refl _) ?_ (fun Q hQ => ft_206 h39 hQ)
      refine eg_k_iinc (lv' := [some (.inr (.inr (some 45))), some (.inl (eg_wi (x1 + 1))), some (.inr (.inl x2)), none]) rfl rfl rfl ?_
      refine eg_k_goto rfl ?_
      have hx := Option.some.inj hx
      subst hx
      exact hK (some (.inr (.inl x2))) none
  · refine eg_k_aload rfl rfl ?_
    refine eg_k_aload rfl rfl ?_
    refine eg_k_lload rfl rfl ?_
    refine eg_k_ci rfl ?_
    obtain ⟨r43, h42, hx⟩ := vb_bind hx
    refine eg_k_call (c1 := 0) (z1 := 0) (as := [.inr (.inr (some 45)), .inr (.inl x2), .inl 0]) (rest := [.inr (.inr (some 45))]) rfl eg_tj189 (Nat.le_of_ble_eq_true rfl) rfl rfl rfl (Nat.le_of_ble_eq_true rfl) (Nat.le_refl _) (Nat.le_refl _) ?_ (fun Q hQ => ft_189 h42 hQ)
    obtain ⟨r46, h45, hx⟩ := vb_bind hx
    refine eg_k_call (c1 := 0) (z1 := 0) (as := [.inr (.inr (some 45)), .inr (.inl r43)]) (rest := []) rfl eg_tj200 (Nat.le_of_ble_eq_true rfl) rfl rfl rfl (Nat.le_of_ble_eq_true rfl) (Nat.le_refl _) (Nat.le_refl _) ?_ (fun Q hQ => ft_200 h45 hQ)
    refine vk_if rfl hx Iff.rfl (fun c48 hx => ?_) (fun c48 hx => ?_)
    · refine eg_k_aload rfl rfl ?_
      refine eg_k_gfa rfl rfl rfl eh_r45_30 ?_
      refine eg_k_iload rfl rfl ?_
      refine eg_k_bald (k := 6700) rfl rfl b35.1 b35.2 ?_
      refine eg_k_ci rfl ?_
      refine vk_icmp rfl hx Iff.rfl (fun c50 hx => ?_) (fun c50 hx => ?_)
      · refine eg_k_iinc (lv' := [some (.inr (.inr (some 45))), some (.inl (eg_wi (x1 + 1))), some (.inr (.inl x2)), none]) rfl rfl rfl ?_
        refine eg_k_goto rfl ?_
        have hx := Option.some.inj hx
        subst hx
        exact hK (some (.inr (.inl x2))) none
      · refine eg_k_aload rfl rfl ?_
        refine eg_k_lload rfl rfl ?_
        obtain ⟨m53, h51, hx⟩ := vb_bind hx
        refine eg_k_call (c1 := 0) (z1 := 0) (as := [.inr (.inr (some 45)), .inr (.inl x2)]) (rest := []) rfl eg_tj206 (Nat.le_of_ble_eq_true rfl) rfl rfl rfl (Nat.le_of_ble_eq_true rfl) (Nat.le_refl _) (Nat.le_refl _) ?_ (fun Q hQ => ft_206 h51 hQ)
        refine eg_k_iinc (lv' := [some (.inr (.inr (some 45))), some (.inl (eg_wi (x1 + 1))), some (.inr (.inl x2)), none]) rfl rfl rfl ?_
        refine eg_k_goto rfl ?_
        have hx := Option.some.inj hx
        subst hx
        exact hK (some (.inr (.inl x2))) none
    · refine eg_k_aload rfl rfl ?_
      refine eg_k_lload rfl rfl ?_
      refine eg_k_ci rfl ?_
      refine eg_k_cl rfl ?_
      obtain ⟨m56, h54, hx⟩ := vb_bind hx
      refine eg_k_call (c1 := 0) (z1 := 0) (as := [.inr (.inr (some 45)), .inr (.inl x2), .inl 0, .inr (.inl 8589934592)]) (rest := []) rfl eg_tj205 (Nat.le_of_ble_eq_true rfl) rfl rfl rfl (Nat.le_of_ble_eq_true rfl) (Nat.le_refl _) (Nat.le_refl _) ?_ (fun Q hQ => ft_205 h54 hQ)
      refine eg_k_aload rfl rfl ?_
      refine eg_k_lload rfl rfl ?_
      refine eg_k_ci rfl ?_
      refine eg_k_cl rfl ?_
      obtain ⟨m59, h57, hx⟩ := vb_bind hx
      refine eg_k_call (c1 := 0) (z1 := 0) (as := [.inr (.inr (some 45)), .inr (.inl x2), .inl 1, .inr (.inl 8589934592)]) (rest := []) rfl eg_tj205 (Nat.le_of_ble_eq_true rfl) rfl rfl rfl (Nat.le_of_ble_eq_true rfl) (Nat.le_refl _) (Nat.le_refl _) ?_ (fun Q hQ => ft_205 h57 hQ)
      refine eg_k_aload rfl rfl ?_
      refine eg_k_gfa rfl rfl rfl eh_r45_30 ?_
      refine eg_k_iload rfl rfl ?_
      refine eg_k_bald (k := 6700) rfl rfl b35.1 b35.2 ?_
      refine eg_k_ci rfl ?_
      refine vk_icmp rfl hx Iff.rfl (fun c61 hx => ?_) (fun c61 hx => ?_)
      · refine eg_k_iinc (lv' := [some (.inr (.inr (some 45))), some (.inl (eg_wi (x1 + 1))), some (.inr (.inl x2)), none]) rfl rfl rfl ?_
        refine eg_k_goto rfl ?_
        have hx := Option.some.inj hx
        subst hx
        exact hK (some (.inr (.inl x2))) none
      · refine eg_k_aload rfl rfl ?_
        refine eg_k_lload rfl rfl ?_
        obtain ⟨m64, h62, hx⟩ := vb_bind hx
        refine eg_k_call (c1 := 0) (z1 := 0) (as := [.inr (.inr (some 45)), .inr (.inl x2)]) (rest := []) rfl eg_tj206 (Nat.le_of_ble_eq_true rfl) rfl rfl rfl (Nat.le_of_ble_eq_true rfl) (Nat.le_refl _) (Nat.le_refl _) ?_ (fun Q hQ => ft_206 h62 hQ)
        refine eg_k_iinc (lv' := [some (.inr (.inr (some 45))), some (.inl (eg_wi (x1 + 1))), some (.inr (.inl x2)), none]) rfl rfl rfl ?_
        refine eg_k_goto rfl ?_
        have hx := Option.some.inj hx
        subst hx
        exact hK (some (.inr (.inl x2))) none
set_option maxRecDepth 100000 in
theorem ft_197_25 {cn mo : Nat} {sc : eg_Sc} {d : Nat} {Q : Option eg_V → eg_H → Prop} {s : Int × eM} {x : Int × eM} (hx : lp (fun z => fn_197_25 z.1 z.2) s = some x) (hK : (fun (x : Int × eM) => Q (some (.inl ((x).1))) (em_L cn mo, eh_R, (x).2)) x) : ∀ (w2 w3 : Option eg_V), eg_X sc (eg_wp sc (d + 6)) eg_p197 (some .boolean) 0 0 Q 25 [some (.inr (.inr (some 45))), some (.inl s.1), w2, w3] [] (em_L cn mo, eh_R, s.2) 0 0 := by
  refine lp_sound (P := (fun (s : Int × eM) => ∀ (w2 w3 : Option eg_V), eg_X sc (eg_wp sc (d + 6)) eg_p197 (some .boolean) 0 0 Q 25 [some (.inr (.inr (some 45))), some (.inl s.1), w2, w3] [] (em_L cn mo, eh_R, s.2) 0 0)) (K := (fun (x : Int × eM) => Q (some (.inl ((x).1))) (em_L cn mo, eh_R, (x).2))) hx hK ?_
  intro s x hx hK w2 w3
  obtain ⟨s1, s2⟩ := s
  refine eg_k_iload rfl rfl ?_
  refine eg_k_ci rfl ?_
  refine vk_icmp rfl hx Iff.rfl (fun c5 hx => ?_) (fun c5 hx => ?_)
  · refine eg_k_ci rfl ?_
    refine eg_k_istore (lv' := [some (.inr (.inr (some 45))), some (.inl 0), w2, w3]) rfl rfl ?_
    refine eg_k_ci rfl ?_
    refine eg_k_istore (lv' := [some (.inr (.inr (some 45))), some (.inl 0), some (.inl 0), w3]) rfl rfl ?_
    obtain ⟨x, hy, e9⟩ := vb_map hx
    clear hx
    subst e9
    have hx := hy
    clear hy
    have hz := ft_197_95 (d := d) (sc := sc) hx hK
    exact hz w3
  · refine eg_k_aload rfl rfl ?_
    refine eg_k_gfa rfl rfl rfl eh_r45_36 ?_
    refine eg_k_iload rfl rfl ?_
    obtain ⟨b31, hx⟩ := vb_if hx
    refine eg_k_zald (k := 6700) rfl rfl b31.1 b31.2 ?_
    refine vk_if rfl hx Iff.rfl (fun c32 hx => ?_) (fun c32 hx => ?_)
    · refine eg_k_cl rfl ?_
      refine eg_k_iload rfl rfl ?_
      refine eg_k_i2l rfl ?_
      refine eg_k_lor rfl ?_
      refine eg_k_lstore (lv' := [some (.inr (.inr (some 45))), some (.inl s1), some (.inr (.inl (eb_lor 25769803776 s1))), none]) rfl rfl ?_
      refine eg_k_aload rfl rfl ?_
      refine eg_k_gfa rfl rfl rfl eh_r45_30 ?_
      refine eg_k_iload rfl rfl ?_
      refine eg_k_bald (k := 6700) rfl rfl b31.1 b31.2 ?_
      refine eg_k_ci rfl ?_
      refine vk_icmp rfl hx Iff.rfl (fun c34 hx => ?_) (fun c34 hx => ?_)
      · have hz := ft_197_57 (d := d) (sc := sc) hx hK
        exact hz
      · refine eg_k_aload rfl rfl ?_
        refine eg_k_aload rfl rfl ?_
        refine eg_k_lload rfl rfl ?_
        refine eg_k_ci rfl ?_
        obtain ⟨r66, h65, hx⟩ := vb_bind hx
        refine eg_k_call (c1 := 0) (z1 := 0) (as := [.inr (.inr (some 45)), .inr (.inl (eb_lor 25769803776 s1)), .inl 0]) (rest := [.inr (.inr (some 45))]) rfl eg_tj189 (Nat.le_of_ble_eq_true rfl) rfl rfl rfl (Nat.le_of_ble_eq_true rfl) (Nat.le_refl _) (Nat.le_refl _) ?_ (fun Q hQ => ft_189 h65 hQ)
        obtain ⟨r69, h68, hx⟩ := vb_bind hx
        refine eg_k_call (c1 := 0) (z1 := 0) (as := [.inr (.inr (some 45)), .inr (.inl r66)]) (rest := []) rfl eg_tj200 (Nat.le_of_ble_eq_true rfl) rfl rfl rfl (Nat.le_of_ble_eq_true rfl) (Nat.le_refl _) (Nat.le_refl _) ?_ (fun Q hQ => ft_200 h68 hQ)
        refine vk_if rfl hx Iff.rfl (fun c71 hx => ?_) (fun c71 hx => ?_)
        · have hz := ft_197_57 (d := d) (sc := sc) hx hK
          exact hz
        · refine eg_k_aload rfl rfl ?_
          refine eg_k_lload rfl rfl ?_
          refine eg_k_ci rfl ?_
          refine eg_k_cl rfl ?_
          obtain ⟨m74, h72, hx⟩ := vb_bind hx
          refine eg_k_call (c1 := 0) (z1 := 0) (as := [.inr (.inr (some 45)), .inr (.inl (eb_lor 25769803776 s1)), .inl 0, .inr (.inl 8589934592)]) (rest := []) rfl eg_tj205 (Nat.le_of_ble_eq_true rfl) rfl rfl rfl (Nat.le_of_ble_eq_true rfl) (Nat.le_refl _) (Nat.le_refl _) ?_ (fun Q hQ => ft_205 h72 hQ)
          have hz := ft_197_57 (d := d) (sc := sc) hx hK
          exact hz
    · refine eg_k_goto rfl ?_
      refine eg_k_iinc (lv' := [some (.inr (.inr (some 45))), some (.inl (eg_wi (s1 + 1))), w2, w3]) rfl rfl rfl ?_
      refine eg_k_goto rfl ?_
      have hx := Option.some.inj hx
      subst hx
      exact hK w2 w3
set_option maxRecDepth 100000 in
theorem ft_197 {cn mo : Nat} {sc : eg_Sc} {d : Nat} {M : eM} {Q : Option eg_V → eg_H → Prop} {x : Int × eM} (hx : fn_197 M = some x) (hK : Q (some (.inl ((x).1))) (em_L cn mo, eh_R, (x).2)) : eg_wp sc (d + 7) 197 [.inr (.inr (some 45))] (em_L cn mo, eh_R, M) 0 0 Q := by
  refine eg_in (lv := [some (.inr (.inr (some 45))), none, none, none]) eg_tj197 (Nat.le_of_ble_eq_true rfl) rfl ?_
  refine eg_k_aload rfl rfl ?_
  refine eg_k_gfi rfl rfl rfl ?_
  refine eg_k_ci rfl ?_
  refine vk_icmp rfl hx Iff.rfl (fun c1 hx => ?_) (fun c1 hx => ?_)
  · refine eg_k_aload rfl rfl ?_
    refine eg_k_aload rfl rfl ?_
    refine eg_k_gfi rfl rfl rfl ?_
    refine eg_k_ci rfl ?_
    refine eg_k_isub rfl ?_
    refine eg_k_pfi rfl rfl rfl ?_
    refine eg_k_aload rfl rfl ?_
    refine eg_k_aload rfl rfl ?_
    refine eg_k_gfie (x := M 45 43) rfl rfl rfl rfl ?_
    refine eg_k_ci rfl ?_
    refine eg_k_iadd rfl ?_
    refine eg_k_pfi rfl rfl rfl ?_
    refine eg_k_aload rfl rfl ?_
    obtain ⟨m4, h2, hx⟩ := vb_bind hx
    refine eg_k_call (c1 := 0) (z1 := 0) (as := [.inr (.inr (some 45))]) (rest := []) rfl eg_tj198 (Nat.le_of_ble_eq_true rfl) rfl rfl rfl (Nat.le_of_ble_eq_true rfl) (Nat.le_refl _) (Nat.le_refl _) ?_ (fun Q hQ => ft_198 h2 hQ)
    refine eg_k_ci rfl ?_
    refine eg_k_istore (lv' := [some (.inr (.inr (some 45))), some (.inl 0), none, none]) rfl rfl ?_
    have hz := ft_197_25 (d := d) (sc := sc) hx hK
    exact hz none none
  · refine eg_k_aload rfl rfl ?_
    refine eg_k_ci rfl ?_
    refine eg_k_pfi rfl rfl rfl ?_
    refine eg_k_ci rfl ?_
    have hx := Option.some.inj hx
    subst hx
    exact eg_k_iret rfl (Or.inl rfl) (Nat.le_refl _) (Nat.le_refl _) hK
theorem fw_197_160 {c j : Nat} {v : Int} {x1 : Int} {s : Int × eM} {x : Int × eM} (hc : c ∉ ([45, 67, 68, 69, 70, 71, 73, 74, 75, 76, 85] : List Nat)) (hx : lp (fun z => fn_197_160 x1 z.1 z.2) s = some x) (hK : (fun (x : Int × eM) => ((x).2) c j = v) x) : s.2 c j = v := by
  refine lp_sound (P := (fun (s : Int × eM) => s.2 c j = v)) (K := (fun (x : Int × eM) => ((x).2) c j = v)) hx hK ?_
  intro s x hx hK
  obtain ⟨s1, s2⟩ := s
  refine vb_ite hx (fun _ hx => ?_) (fun _ hx => ?_)
  · have hx := Option.some.inj hx
    subst hx
    exact (Eq.refl _).symm.trans hK
  · obtain ⟨_, hx⟩ := vb_if hx
    refine vb_ite hx (fun _ hx => ?_) (fun _ hx => ?_)
    · have hx := Option.some.inj hx
      subst hx
      exact (Eq.refl _).symm.trans hK
    · refine vb_ite hx (fun _ hx => ?_) (fun _ hx => ?_)
      · have hx := Option.some.inj hx
        subst hx
        exact (Eq.refl _).symm.trans hK
      · obtain ⟨m17, h15, hx⟩ := vb_bind hx
        have hx := Option.some.inj hx
        subst hx
        exact ((fw_207 h15 (vsub hc (by decide)) j).trans rfl).symm.trans hK
theorem fw_197_95 {c j : Nat} {v : Int} {s : Int × Int × eM} {x : Int × eM} (hc : c ∉ ([45, 67, 68, 69, 70, 71, 73, 74, 75, 76, 85] : List Nat)) (hx : lp (fun z => fn_197_95 z.1 z.2.1 z.2.2) s = some x) (hK : (fun (x : Int × eM) => ((x).2) c j = v) x) : s.2.2 c j = v := by
  refine lp_sound (P := (fun (s : Int × Int × eM) => s.2.2 c j = v)) (K := (fun (x : Int × eM) => ((x).2) c j = v)) hx hK ?_
  intro s x hx hK
  obtain ⟨s1, s2, s3⟩ := s
  refine vb_ite hx (fun _ hx => ?_) (fun _ hx => ?_)
  · obtain ⟨m9, h7, hx⟩ := vb_bind hx
    obtain ⟨x, hy, e9⟩ := vb_map hx
    clear hx
    subst e9
    have hx := hy
    clear hy
    have hz := fw_197_160 hc hx hK
    exact ((fw_198 h7 (vsub hc (by decide)) j).trans ((congrFun (eg_u_ne (vne hc (a := 45) (by decide))) j).trans rfl)).symm.trans hz
  · obtain ⟨_, hx⟩ := vb_if hx
    obtain ⟨r20, h19, hx⟩ := vb_bind hx
    refine vb_ite hx (fun _ hx => ?_) (fun _ hx => ?_)
    · obtain ⟨_, hx⟩ := vb_if hx
      have hx := Option.some.inj hx
      subst hx
      exact ((congrFun (eg_u_ne (vne hc (a := 45) (by decide))) j).trans ((congrFun (eg_u_ne (vne hc (a := 76) (by decide))) j).trans ((congrFun (eg_u_ne (vne hc (a := 75) (by decide))) j).trans rfl))).symm.trans hK
    · obtain ⟨_, hx⟩ := vb_if hx
      have hx := Option.some.inj hx
      subst hx
      exact ((congrFun (eg_u_ne (vne hc (a := 74) (by decide))) j).trans ((congrFun (eg_u_ne (vne hc (a := 73) (by decide))) j).trans rfl)).symm.trans hK
theorem fw_197_57 {M : eM} {c j : Nat} {v : Int} {x1 : Int} {x2 : Int} {x : (Int × eM) ⊕ (Int × eM)} (hc : c ∉ ([45, 67, 68, 69, 70, 71, 73, 74, 75, 76, 85] : List Nat)) (hx : fn_197_57 x1 x2 M = some x) (hK : (eK (fun (s : Int × eM) => s.2 c j = v) (fun (x : Int × eM) => ((x).2) c j = v)) x) : M c j = v := by
  obtain ⟨_, hx⟩ := vb_if hx
  refine vb_ite hx (fun _ hx => ?_) (fun _ hx => ?_)
  · refine vb_ite hx (fun _ hx => ?_) (fun _ hx => ?_)
    · have hx := Option.some.inj hx
      subst hx
      exact (Eq.refl _).symm.trans hK
    · obtain ⟨m41, h39, hx⟩ := vb_bind hx
      have hx := Option.some.inj hx
      subst hx
      exact ((fw_206 h39 (vsub hc (by decide)) j).trans rfl).symm.trans hK
  · obtain ⟨r43, h42, hx⟩ := vb_bind hx
    obtain ⟨r46, h45, hx⟩ := vb_bind hx
    refine vb_ite hx (fun _ hx => ?_) (fun _ hx => ?_)
    · refine vb_ite hx (fun _ hx => ?_) (fun _ hx => ?_)
      · have hx := Option.some.inj hx
        subst hx
        exact (Eq.refl _).symm.trans hK
      · obtain ⟨m53, h51, hx⟩ := vb_bind hx
        have hx := Option.some.inj hx
        subst hx
        exact ((fw_206 h51 (vsub hc (by decide)) j).trans rfl).symm.trans hK
    · obtain ⟨m56, h54, hx⟩ := vb_bind hx
      obtain ⟨m59, h57, hx⟩ := vb_bind hx
      refine vb_ite hx (fun _ hx => ?_) (fun _ hx => ?_)
      · have hx := Option.some.inj hx
        subst hx
        exact ((fw_205 h57 (vsub hc (by decide)) j).trans ((fw_205 h54 (vsub hc (by decide)) j).trans rfl)).symm.trans hK
      · obtain ⟨m64, h62, hx⟩ := vb_bind hx
        have hx := Option.some.inj hx
        subst hx
        exact ((fw_206 h62 (vsub hc (by decide)) j).trans ((fw_205 h57 (vsub hc (by decide)) j).trans ((fw_205 h54 (vsub hc (by decide)) j).trans rfl))).symm.trans hK
theorem fw_197_25 {c j : Nat} {v : Int} {s : Int × eM} {x : Int × eM} (hc : c ∉ ([45, 67, 68, 69, 70, 71, 73, 74, 75, 76, 85] : List Nat)) (hx : lp (fun z => fn_197_25 z.1 z.2) s = some x) (hK : (fun (x : Int × eM) => ((x).2) c j = v) x) : s.2 c j = v := by
  refine lp_sound (P := (fun (s : Int × eM) => s.2 c j = v)) (K := (fun (x : Int × eM) => ((x).2) c j = v)) hx hK ?_
  intro s x hx hK
  obtain ⟨s1, s2⟩ := s
  refine vb_ite hx (fun _ hx => ?_) (fun _ hx => ?_)
  · obtain ⟨x, hy, e9⟩ := vb_map hx
    clear hx
    subst e9
    have hx := hy
    clear hy
    have hz := fw_197_95 hc hx hK
    exact (Eq.refl _).symm.trans hz
  · obtain ⟨_, hx⟩ := vb_if hx
    refine vb_ite hx (fun _ hx => ?_) (fun _ hx => ?_)
    · refine vb_ite hx (fun _ hx => ?_) (fun _ hx => ?_)
      · have hz := fw_197_57 hc hx hK
        exact (Eq.refl _).symm.trans hz
      · obtain ⟨r66, h65, hx⟩ := vb_bind hx
        obtain ⟨r69, h68, hx⟩ := vb_bind hx
        refine vb_ite hx (fun _ hx => ?_) (fun _ hx => ?_)
        · have hz := fw_197_57 hc hx hK
          exact (Eq.refl _).symm.trans hz
        · obtain ⟨m74, h72, hx⟩ := vb_bind hx
          have hz := fw_197_57 hc hx hK
          exact ((fw_205 h72 (vsub hc (by decide)) j).trans rfl).symm.trans hz
    · have hx := Option.some.inj hx
      subst hx
      exact (Eq.refl _).symm.trans hK
theorem fw_197 {M : eM} {c : Nat} {x : Int × eM} (hx : fn_197 M = some x) (hc : c ∉ ([45, 67, 68, 69, 70, 71, 73, 74, 75, 76, 85] : List Nat)) (j : Nat) : ((x).2) c j = M c j := by
  obtain ⟨v, hK⟩ : ∃ v, ((x).2) c j = v := ⟨_, rfl⟩
  rw [hK]
  refine Eq.symm ?_
  refine vb_ite hx (fun _ hx => ?_) (fun _ hx => ?_)
  · obtain ⟨m4, h2, hx⟩ := vb_bind hx
    have hz := fw_197_25 hc hx hK
    exact ((fw_198 h2 (vsub hc (by decide)) j).trans ((congrFun (eg_u_ne (vne hc (a := 45) (by decide))) j).trans ((congrFun (eg_u_ne (vne hc (a := 45) (by decide))) j).trans rfl))).symm.trans hz
  · have hx := Option.some.inj hx
    subst hx
    exact ((congrFun (eg_u_ne (vne hc (a := 45) (by decide))) j).trans rfl).symm.trans hK
noncomputable def fn_195_69 (x1 : Int) (x2 : Int) (x3 : Int) (x5 : Int) (x6 : Int) (s1 : Int) (s2 : eM) : Option ((Int × eM) ⊕ (Int × eM)) :=
  if x2 ≤ s1 then
    some (.inr (eb_lor 25769803776 x6, eg_u (eg_u s2 45 28 (eg_wi ((s2 45 28) + x5))) 45 29 (eg_wi ((s2 45 29) + 1))))
  else
    if 0 ≤ (s2 45 41) ∧ (s2 45 41) < 20000 then
    if 0 ≤ x6 ∧ x6 < 6700 then
      some (.inl (eg_wi (s1 + 1), eg_u (eg_u (eg_u (eg_u s2 45 41 (s2 71 (s2 45 41).toNat)) 70 (s2 45 41).toNat x3) 71 (s2 45 41).toNat (s2 65 (x6).toNat)) 65 (x6).toNat (s2 45 41)))
      else none
    else none
noncomputable def fn_195_16 (x1 : Int) (x2 : Int) (x3 : Int) (x5 : Int) (M : eM) : Option (Int × eM) :=
  if x5 ≤ (eg_wi ((M 45 27) - (M 45 28))) then
    if 0 ≤ (eg_wi ((M 45 38) - 1)) ∧ (eg_wi ((M 45 38) - 1)) < 6700 then
    if 0 ≤ (M 69 (eg_wi ((M 45 38) - 1)).toNat) ∧ (M 69 (eg_wi ((M 45 38) - 1)).toNat) < 6700 then
      lp (fun z => fn_195_69 x1 x2 x3 x5 (M 69 (eg_wi ((M 45 38) - 1)).toNat) z.1 z.2) (0, eg_u (eg_u (eg_u (eg_u (eg_u (eg_u M 45 38 (eg_wi ((M 45 38) - 1))) 62 (M 69 (eg_wi ((M 45 38) - 1)).toNat).toNat (eg_wb (eg_wb x1))) 63 (M 69 (eg_wi ((M 45 38) - 1)).toNat).toNat (eg_ws (eg_ws x2))) 66 (M 69 (eg_wi ((M 45 38) - 1)).toNat).toNat 0) 68 (M 69 (eg_wi ((M 45 38) - 1)).toNat).toNat 1) 65 (M 69 (eg_wi ((M 45 38) - 1)).toNat).toNat (-1))
      else none
    else none
  else
    some ((-1), eg_u M 45 66 12)
/-- 195: WeakSchemeModel.make(IIJ)J -/
noncomputable def fn_195 (a : Int) (b : Int) (e : Int) (M : eM) : Option (Int × eM) :=
  (fn_196 a b M).bind fun r2 =>
  if r2 ≤ (eg_wi ((M 45 27) - (M 45 28))) then
    fn_195_16 a b e r2 M
  else
    (fn_197 M).bind fun r19 =>
    if ¬ r19.1 = 0 then
      fn_195_16 a b e r2 r19.2
    else
      some ((-1), r19.2)
set_option maxRecDepth 100000 in
theorem ft_195_69 {cn mo : Nat} {sc : eg_Sc} {d : Nat} {Q : Option eg_V → eg_H → Prop} {x1 : Int} {x2 : Int} {x3 : Int} {x5 : Int} {x6 : Int} {s : Int × eM} {x : Int × eM} (hx : lp (fun z => fn_195_69 x1 x2 x3 x5 x6 z.1 z.2) s = some x) (hK : (fun (x : Int × eM) => Q (some (.inr (.inl ((x).1)))) (em_L cn mo, eh_R, (x).2)) x) : ∀ (w8 : Option eg_V), eg_X sc (eg_wp sc (d + 7)) eg_p195 (some .long) 0 0 Q 69 [some (.inr (.inr (some 45))), some (.inl x1), some (.inl x2), some (.inr (.inl x3)), none, some (.inl x5), some (.inl x6), some (.inl s.1), w8] [] (em_L cn mo, eh_R, s.2) 0 0 := by
  refine lp_sound (P := (fun (s : Int × eM) => ∀ (w8 : Option eg_V), eg_X sc (eg_wp sc (d + 7)) eg_p195 (some .long) 0 0 Q 69 [some (.inr (.inr (some 45))), some (.inl x1), some (.inl x2), some (.inr (.inl x3)), none, some (.inl x5), some (.inl x6), some (.inl s.1), w8] [] (em_L cn mo, eh_R, s.2) 0 0)) (K := (fun (x : Int × eM) => Q (some (.inr (.inl ((x).1)))) (em_L cn mo, eh_R, (x).2))) hx hK ?_
  intro s x hx hK w8
  obtain ⟨s1, s2⟩ := s
  refine eg_k_iload rfl rfl ?_
  refine eg_k_iload rfl rfl ?_
  refine vk_icmp rfl hx Iff.rfl (fun c12 hx => ?_) (fun c12 hx => ?_)
  · refine eg_k_aload rfl rfl ?_
    refine eg_k_aload rfl rfl ?_
    refine eg_k_gfi rfl rfl rfl ?_
    refine eg_k_iload rfl rfl ?_
    refine eg_k_iadd rfl ?_
    refine eg_k_pfi rfl rfl rfl ?_
    refine eg_k_aload rfl rfl ?_
    refine eg_k_aload rfl rfl ?_
    refine eg_k_gfie (x := s2 45 29) rfl rfl rfl rfl ?_
    refine eg_k_ci rfl ?_
    refine eg_k_iadd rfl ?_
    refine eg_k_pfi rfl rfl rfl ?_
    refine eg_k_cl rfl ?_
    refine eg_k_iload rfl rfl ?_
    refine eg_k_i2l rfl ?_
    refine eg_k_lor rfl ?_
    have hx := Option.some.inj hx
    subst hx
    exact eg_k_lret rfl rfl (Nat.le_refl _) (Nat.le_refl _) hK
  · refine eg_k_aload rfl rfl ?_
    refine eg_k_gfi rfl rfl rfl ?_
    refine eg_k_istore (lv' := [some (.inr (.inr (some 45))), some (.inl x1), some (.inl x2), some (.inr (.inl x3)), none, some (.inl x5), some (.inl x6), some (.inl s1), some (.inl (s2 45 41))]) rfl rfl ?_
    refine eg_k_aload rfl rfl ?_
    refine eg_k_aload rfl rfl ?_
    refine eg_k_gfa rfl rfl rfl eh_r45_40 ?_
    refine eg_k_iload rfl rfl ?_
    obtain ⟨b13, hx⟩ := vb_if hx
    refine eg_k_iald (k := 20000) rfl rfl b13.1 b13.2 ?_
    refine eg_k_pfi rfl rfl rfl ?_
    refine eg_k_aload rfl rfl ?_
    refine eg_k_gfa rfl rfl rfl eh_r45_39 ?_
    refine eg_k_iload rfl rfl ?_
    refine eg_k_lload rfl rfl ?_
    refine eg_k_last (k := 20000) rfl rfl b13.1 b13.2 ?_
    refine eg_k_aload rfl rfl ?_
    refine eg_k_gfa rfl rfl rfl eh_r45_40 ?_
    refine eg_k_iload rfl rfl ?_
    refine eg_k_aload rfl rfl ?_
    refine eg_k_gfa rfl rfl rfl eh_r45_33 ?_
    refine eg_k_iload rfl rfl ?_
    obtain ⟨b15, hx⟩ := vb_if hx
    refine vk_iald (k := 6700) (y := s2 65 (x6).toNat) rfl rfl b15.1 b15.2 rfl ?_
    refine eg_k_iast (k := 20000) rfl rfl b13.1 b13.2 ?_
    refine eg_k_aload rfl rfl ?_
    refine eg_k_gfa rfl rfl rfl eh_r45_33 ?_
    refine eg_k_iload rfl rfl ?_
    refine eg_k_iload rfl rfl ?_
    refine eg_k_iast (k := 6700) rfl rfl b15.1 b15.2 ?_
    refine eg_k_iinc (lv' := [some (.inr (.inr (some 45))), some (.inl x1), some (.inl x2), some (.inr (.inl x3)), none, some (.inl x5), some (.inl x6), some (.inl (eg_wi (s1 + 1))), some (.inl (s2 45 41))]) rfl rfl rfl ?_
    refine eg_k_goto rfl ?_
    have hx := Option.some.inj hx
    subst hx
    exact hK (some (.inl (s2 45 41)))
set_option maxRecDepth 100000 in
theorem ft_195_16 {cn mo : Nat} {sc : eg_Sc} {d : Nat} {M : eM} {Q : Option eg_V → eg_H → Prop} {x1 : Int} {x2 : Int} {x3 : Int} {x5 : Int} {x : Int × eM} (hx : fn_195_16 x1 x2 x3 x5 M = some x) (hK : (fun (x : Int × eM) => Q (some (.inr (.inl ((x).1)))) (em_L cn mo, eh_R, (x).2)) x) : ∀ (w6 w7 w8 : Option eg_V), eg_X sc (eg_wp sc (d + 7)) eg_p195 (some .long) 0 0 Q 16 [some (.inr (.inr (some 45))), some (.inl x1), some (.inl x2), some (.inr (.inl x3)), none, some (.inl x5), w6, w7, w8] [] (em_L cn mo, eh_R, M) 0 0 := by
  intro w6 w7 w8
  refine eg_k_iload rfl rfl ?_
  refine eg_k_aload rfl rfl ?_
  refine eg_k_gfi rfl rfl rfl ?_
  refine eg_k_aload rfl rfl ?_
  refine eg_k_gfi rfl rfl rfl ?_
  refine eg_k_isub rfl ?_
  refine vk_icmp rfl hx Iff.rfl (fun c5 hx => ?_) (fun c5 hx => ?_)
  · refine eg_k_aload rfl rfl ?_
    refine eg_k_aload rfl rfl ?_
    refine eg_k_gfi rfl rfl rfl ?_
    refine eg_k_ci rfl ?_
    refine eg_k_isub rfl ?_
    refine eg_k_pfi rfl rfl rfl ?_
    refine eg_k_aload rfl rfl ?_
    refine eg_k_gfa rfl rfl rfl eh_r45_37 ?_
    refine eg_k_aload rfl rfl ?_
    refine eg_k_gfie (x := eg_wi ((M 45 38) - 1)) rfl rfl rfl rfl ?_
    obtain ⟨b6, hx⟩ := vb_if hx
    refine vk_iald (k := 6700) (y := M 69 (eg_wi ((M 45 38) - 1)).toNat) rfl rfl b6.1 b6.2 rfl ?_
    refine eg_k_istore (lv' := [some (.inr (.inr (some 45))), some (.inl x1), some (.inl x2), some (.inr (.inl x3)), none, some (.inl x5), some (.inl (M 69 (eg_wi ((M 45 38) - 1)).toNat)), w7, w8]) rfl rfl ?_
    refine eg_k_aload rfl rfl ?_
    refine eg_k_gfa rfl rfl rfl eh_r45_30 ?_
    refine eg_k_iload rfl rfl ?_
    refine eg_k_iload rfl rfl ?_
    refine eg_k_i2b rfl ?_
    obtain ⟨b7, hx⟩ := vb_if hx
    refine eg_k_bast (k := 6700) rfl rfl b7.1 b7.2 ?_
    refine eg_k_aload rfl rfl ?_
    refine eg_k_gfa rfl rfl rfl eh_r45_31 ?_
    refine eg_k_iload rfl rfl ?_
    refine eg_k_iload rfl rfl ?_
    refine eg_k_i2s rfl ?_
    refine eg_k_sast (k := 6700) rfl rfl b7.1 b7.2 ?_
    refine eg_k_aload rfl rfl ?_
    refine eg_k_gfa rfl rfl rfl eh_r45_34 ?_
    refine eg_k_iload rfl rfl ?_
    refine eg_k_ci rfl ?_
    refine eg_k_iast (k := 6700) rfl rfl b7.1 b7.2 ?_
    refine eg_k_aload rfl rfl ?_
    refine eg_k_gfa rfl rfl rfl eh_r45_36 ?_
    refine eg_k_iload rfl rfl ?_
    refine eg_k_ci rfl ?_
    refine eg_k_zast (k := 6700) rfl rfl b7.1 b7.2 (by decide) ?_
    refine eg_k_aload rfl rfl ?_
    refine eg_k_gfa rfl rfl rfl eh_r45_33 ?_
    refine eg_k_iload rfl rfl ?_
    refine eg_k_ci rfl ?_
    refine eg_k_iast (k := 6700) rfl rfl b7.1 b7.2 ?_
    refine eg_k_ci rfl ?_
    refine eg_k_istore (lv' := [some (.inr (.inr (some 45))), some (.inl x1), some (.inl x2), some (.inr (.inl x3)), none, some (.inl x5), some (.inl (M 69 (eg_wi ((M 45 38) - 1)).toNat)), some (.inl 0), w8]) rfl rfl ?_
    have hz := ft_195_69 (d := d) (sc := sc) hx hK
    exact hz w8
  · refine eg_k_aload rfl rfl ?_
    refine eg_k_ci rfl ?_
    refine eg_k_pfi rfl rfl rfl ?_
    refine eg_k_cl rfl ?_
    have hx := Option.some.inj hx
    subst hx
    exact eg_k_lret rfl rfl (Nat.le_refl _) (Nat.le_refl _) hK
set_option maxRecDepth 100000 in
theorem ft_195 {cn mo : Nat} {sc : eg_Sc} {d : Nat} {M : eM} {Q : Option eg_V → eg_H → Prop} {a : Int} {b : Int} {e : Int} {x : Int × eM} (hx : fn_195 a b e M = some x) (hK : Q (some (.inr (.inl ((x).1)))) (em_L cn mo, eh_R, (x).2)) : eg_wp sc (d + 8) 195 [.inr (.inr (some 45)), .inl a, .inl b, .inr (.inl e)] (em_L cn mo, eh_R, M) 0 0 Q := by
  refine eg_in (lv := [some (.inr (.inr (some 45))), some (.inl a), some (.inl b), some (.inr (.inl e)), none, none, none, none, none]) eg_tj195 (Nat.le_of_ble_eq_true rfl) rfl ?_
  refine eg_k_iload rfl rfl ?_
  refine eg_k_iload rfl rfl ?_
  obtain ⟨r2, h1, hx⟩ := vb_bind hx
  refine eg_k_call (c1 := 0) (z1 := 0) (as := [.inl a, .inl b]) (rest := []) rfl eg_tj196 (Nat.le_of_ble_eq_true rfl) rfl rfl trivial (Nat.le_of_ble_eq_true rfl) (Nat.le_refl _) (Nat.le_refl _) ?_ (fun Q hQ => ft_196 h1 hQ)
  refine eg_k_istore (lv' := [some (.inr (.inr (some 45))), some (.inl a), some (.inl b), some (.inr (.inl e)), none, some (.inl r2), none, none, none]) rfl rfl ?_
  refine eg_k_iload rfl rfl ?_
  refine eg_k_aload rfl rfl ?_
  refine eg_k_gfi rfl rfl rfl ?_
  refine eg_k_aload rfl rfl ?_
  refine eg_k_gfi rfl rfl rfl ?_
  refine eg_k_isub rfl ?_
  refine vk_icmp rfl hx Iff.rfl (fun c4 hx => ?_) (fun c4 hx => ?_)
  · have hz := ft_195_16 (d := d) (sc := sc) hx hK
    exact hz none none none
  · refine eg_k_aload rfl rfl ?_
    obtain ⟨r19, h18, hx⟩ := vb_bind hx
    refine eg_k_call (c1 := 0) (z1 := 0) (as := [.inr (.inr (some 45))]) (rest := []) rfl eg_tj197 (Nat.le_of_ble_eq_true rfl) rfl rfl rfl (Nat.le_of_ble_eq_true rfl) (Nat.le_refl _) (Nat.le_refl _) ?_ (fun Q hQ => ft_197 h18 hQ)
    refine vk_if rfl hx Iff.rfl (fun c21 hx => ?_) (fun c21 hx => ?_)
    · have hz := ft_195_16 (d := d) (sc := sc) hx hK
      exact hz none none none
    · refine eg_k_cl rfl ?_
      have hx := Option.some.inj hx
      subst hx
      exact eg_k_lret rfl rfl (Nat.le_refl _) (Nat.le_refl _) hK
theorem fw_195_69 {c j : Nat} {v : Int} {x1 : Int} {x2 : Int} {x3 : Int} {x5 : Int} {x6 : Int} {s : Int × eM} {x : Int × eM} (hc : c ∉ ([45, 62, 63, 65, 66, 67, 68, 69, 70, 71, 73, 74, 75, 76, 85] : List Nat)) (hx : lp (fun z => fn_195_69 x1 x2 x3 x5 x6 z.1 z.2) s = some x) (hK : (fun (x : Int × eM) => ((x).2) c j = v) x) : s.2 c j = v := by
  refine lp_sound (P := (fun (s : Int × eM) => s.2 c j = v)) (K := (fun (x : Int × eM) => ((x).2) c j = v)) hx hK ?_
  intro s x hx hK
  obtain ⟨s1, s2⟩ := s
  refine vb_ite hx (fun _ hx => ?_) (fun _ hx => ?_)
  · have hx := Option.some.inj hx
    subst hx
    exact ((congrFun (eg_u_ne (vne hc (a := 45) (by decide))) j).trans ((congrFun (eg_u_ne (vne hc (a := 45) (by decide))) j).trans rfl)).symm.trans hK
  · obtain ⟨_, hx⟩ := vb_if hx
    obtain ⟨_, hx⟩ := vb_if hx
    have hx := Option.some.inj hx
    subst hx
    exact ((congrFun (eg_u_ne (vne hc (a := 65) (by decide))) j).trans ((congrFun (eg_u_ne (vne hc (a := 71) (by decide))) j).trans ((congrFun (eg_u_ne (vne hc (a := 70) (by decide))) j).trans ((congrFun (eg_u_ne (vne hc (a := 45) (by decide))) j).trans rfl)))).symm.trans hK
theorem fw_195_16 {M : eM} {c j : Nat} {v : Int} {x1 : Int} {x2 : Int} {x3 : Int} {x5 : Int} {x : Int × eM} (hc : c ∉ ([45, 62, 63, 65, 66, 67, 68, 69, 70, 71, 73, 74, 75, 76, 85] : List Nat)) (hx : fn_195_16 x1 x2 x3 x5 M = some x) (hK : (fun (x : Int × eM) => ((x).2) c j = v) x) : M c j = v := by
  refine vb_ite hx (fun _ hx => ?_) (fun _ hx => ?_)
  · obtain ⟨_, hx⟩ := vb_if hx
    obtain ⟨_, hx⟩ := vb_if hx
    have hz := fw_195_69 hc hx hK
    exact ((congrFun (eg_u_ne (vne hc (a := 65) (by decide))) j).trans ((congrFun (eg_u_ne (vne hc (a := 68) (by decide))) j).trans ((congrFun (eg_u_ne (vne hc (a := 66) (by decide))) j).trans ((congrFun (eg_u_ne (vne hc (a := 63) (by decide))) j).trans ((congrFun (eg_u_ne (vne hc (a := 62) (by decide))) j).trans ((congrFun (eg_u_ne (vne hc (a := 45) (by decide))) j).trans rfl)))))).symm.trans hz
  · have hx := Option.some.inj hx
    subst hx
    exact ((congrFun (eg_u_ne (vne hc (a := 45) (by decide))) j).trans rfl).symm.trans hK
theorem fw_195 {M : eM} {c : Nat} {a : Int} {b : Int} {e : Int} {x : Int × eM} (hx : fn_195 a b e M = some x) (hc : c ∉ ([45, 62, 63, 65, 66, 67, 68, 69, 70, 71, 73, 74, 75, 76, 85] : List Nat)) (j : Nat) : ((x).2) c j = M c j := by
  obtain ⟨v, hK⟩ : ∃ v, ((x).2) c j = v := ⟨_, rfl⟩
  rw [hK]
  refine Eq.symm ?_
  obtain ⟨r2, h1, hx⟩ := vb_bind hx
  refine vb_ite hx (fun _ hx => ?_) (fun _ hx => ?_)
  · have hz := fw_195_16 hc hx hK
    exact (Eq.refl _).symm.trans hz
  · obtain ⟨r19, h18, hx⟩ := vb_bind hx
    refine vb_ite hx (fun _ hx => ?_) (fun _ hx => ?_)
    · have hz := fw_195_16 hc hx hK
      exact ((fw_197 h18 (vsub hc (by decide)) j).trans rfl).symm.trans hz
    · have hx := Option.some.inj hx
      subst hx
      exact ((fw_197 h18 (vsub hc (by decide)) j).trans rfl).symm.trans hK
/-- 223: WeakSchemeModel.is(JI)Z -/
noncomputable def fn_223 (a : Int) (b : Int) (M : eM) : Option (Int) :=
  (fn_201 a M).bind fun r2 =>
  if r2 = 0 then
    some 0
  else
    (fn_187 a M).bind fun r6 =>
    if 0 ≤ r6 ∧ r6 < 6700 then
    if ¬ (M 62 (r6).toNat) = b then
        some 0
      else
        some 1
    else none
set_option maxRecDepth 100000 in
theorem ft_223 {cn mo : Nat} {sc : eg_Sc} {d : Nat} {M : eM} {Q : Option eg_V → eg_H → Prop} {a : Int} {b : Int} {x : Int} (hx : fn_223 a b M = some x) (hK : Q (some (.inl x)) (em_L cn mo, eh_R, M)) : eg_wp sc (d + 2) 223 [.inr (.inr (some 45)), .inr (.inl a), .inl b] (em_L cn mo, eh_R, M) 0 0 Q := by
  refine eg_in (lv := [some (.inr (.inr (some 45))), some (.inr (.inl a)), none, some (.inl b)]) eg_tj223 (Nat.le_of_ble_eq_true rfl) rfl ?_
  refine eg_k_lload rfl rfl ?_
  obtain ⟨r2, h1, hx⟩ := vb_bind hx
  refine eg_k_call (c1 := 0) (z1 := 0) (as := [.inr (.inl a)]) (rest := []) rfl eg_tj201 (Nat.le_of_ble_eq_true rfl) rfl rfl trivial (Nat.le_of_ble_eq_true rfl) (Nat.le_refl _) (Nat.le_refl _) ?_ (fun Q hQ => ft_201 h1 hQ)
  refine vk_if rfl hx Iff.rfl (fun c4 hx => ?_) (fun c4 hx => ?_)
  · refine eg_k_ci rfl ?_
    have hx := Option.some.inj hx
    subst hx
    exact eg_k_iret rfl (Or.inl rfl) (Nat.le_refl _) (Nat.le_refl _) hK
  · refine eg_k_aload rfl rfl ?_
    refine eg_k_gfa rfl rfl rfl eh_r45_30 ?_
    refine eg_k_lload rfl rfl ?_
    obtain ⟨r6, h5, hx⟩ := vb_bind hx
    refine eg_k_call (c1 := 0) (z1 := 0) (as := [.inr (.inl a)]) (rest := [.inr (.inr (some 62))]) rfl eg_tj187 (Nat.le_of_ble_eq_true rfl) rfl rfl trivial (Nat.le_of_ble_eq_true rfl) (Nat.le_refl _) (Nat.le_refl _) ?_ (fun Q hQ => ft_187 h5 hQ)
    obtain ⟨b8, hx⟩ := vb_if hx
    refine eg_k_bald (k := 6700) rfl rfl b8.1 b8.2 ?_
    refine eg_k_iload rfl rfl ?_
    refine vk_icmp rfl hx Iff.rfl (fun c9 hx => ?_) (fun c9 hx => ?_)
    · refine eg_k_ci rfl ?_
      have hx := Option.some.inj hx
      subst hx
      exact eg_k_iret rfl (Or.inl rfl) (Nat.le_refl _) (Nat.le_refl _) hK
    · refine eg_k_ci rfl ?_
      refine eg_k_goto rfl ?_
      have hx := Option.some.inj hx
      subst hx
      exact eg_k_iret rfl (Or.inr rfl) (Nat.le_refl _) (Nat.le_refl _) hK
