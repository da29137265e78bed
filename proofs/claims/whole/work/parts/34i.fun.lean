/-- 185: WeakSchemeModel.fault(I)I -/
noncomputable def fn_185 (a : Int) (M : eM) : Option (Int × eM) :=
  some ((-1), eg_u M 45 69 a)
set_option maxRecDepth 100000 in
theorem ft_185 {cn mo : Nat} {sc : eg_Sc} {d : Nat} {M : eM} {Q : Option eg_V → eg_H → Prop} {a : Int} {x : Int × eM} (hx : fn_185 a M = some x) (hK : Q (some (.inl ((x).1))) (em_L cn mo, eh_R, (x).2)) : eg_wp sc (d + 1) 185 [.inr (.inr (some 45)), .inl a] (em_L cn mo, eh_R, M) 0 0 Q := by
  refine eg_in (lv := [some (.inr (.inr (some 45))), some (.inl a)]) eg_tj185 (Nat.le_of_ble_eq_true rfl) rfl ?_
  refine eg_k_aload rfl rfl ?_
  refine eg_k_iload rfl rfl ?_
  refine eg_k_pfi rfl rfl rfl ?_
  refine eg_k_ci rfl ?_
  have hx := Option.some.inj hx
  subst hx
  exact eg_k_iret rfl True.intro (Nat.le_refl _) (Nat.le_refl _) hK
theorem fw_185 {M : eM} {c : Nat} {a : Int} {x : Int × eM} (hx : fn_185 a M = some x) (hc : c ∉ ([45] : List Nat)) (j : Nat) : ((x).2) c j = M c j := by
  obtain ⟨v, hK⟩ : ∃ v, ((x).2) c j = v := ⟨_, rfl⟩
  rw [hK]
  refine Eq.symm ?_
  have hx := Option.some.inj hx
  subst hx
  exact ((congrFun (eg_u_ne (vne hc (a := 45) (by decide))) j).trans rfl).symm.trans hK
noncomputable def fn_193_118 (x1 : Int) (x2 : Int) (x3 : Int) (x7 : Int) (y0 : Int) (M : eM) : Option ((Int × Int × eM) ⊕ ((Int × Int × eM) ⊕ (Int × eM))) :=
  if y0 = 0 then
    some (.inl (x7, y0, M))
  else
    if 0 ≤ (eg_wi ((M 45 59) - 1)) ∧ (eg_wi ((M 45 59) - 1)) < 31 then
    some (.inl (x2, y0, eg_u (eg_u M 45 59 (eg_wi ((M 45 59) - 1))) 45 63 (M 84 (eg_wi ((M 45 59) - 1)).toNat)))
    else none
noncomputable def fn_193_51 (x1 : Int) (x3 : Int) (s1 : Int) (s2 : Int) (s3 : eM) : Option ((Int × Int × eM) ⊕ ((Int × Int × eM) ⊕ (Int × eM))) :=
  if s2 = 0 then
    if ¬ (s3 45 59) = 0 then
      some (.inr (.inl (s1, 0, s3)))
    else
      some (.inr (.inl (s1, 1, s3)))
  else
    if (s3 45 59) ≤ 0 then
      if ¬ (s3 45 59) = 0 then
        some (.inr (.inl (s1, 0, s3)))
      else
        some (.inr (.inl (s1, 1, s3)))
    else
      if 0 ≤ (eg_wi ((s3 45 59) - 1)) ∧ (eg_wi ((s3 45 59) - 1)) < 31 then
      (fn_195 0 2 (s3 84 (eg_wi ((s3 45 59) - 1)).toNat) s3).bind fun r13 =>
        if ¬ r13.1 = (-1) then
          (fn_205 r13.1 0 (r13.2 45 63) r13.2).bind fun m18 =>
          if 0 ≤ (eg_wi ((m18 45 59) - 1)) ∧ (eg_wi ((m18 45 59) - 1)) < 31 then
          if 0 ≤ (m18 83 (eg_wi ((m18 45 59) - 1)).toNat) ∧ (m18 83 (eg_wi ((m18 45 59) - 1)).toNat) < 20100 then
            if 0 ≤ (m18 54 (m18 83 (eg_wi ((m18 45 59) - 1)).toNat).toNat) then
                fn_193_118 x1 s1 x3 (m18 54 (m18 83 (eg_wi ((m18 45 59) - 1)).toNat).toNat) 0 (eg_u (eg_u (eg_u m18 84 (eg_wi ((m18 45 59) - 1)).toNat r13.1) 45 63 (-1)) 83 (eg_wi ((m18 45 59) - 1)).toNat (m18 54 (m18 83 (eg_wi ((m18 45 59) - 1)).toNat).toNat))
              else
                fn_193_118 x1 s1 x3 (m18 54 (m18 83 (eg_wi ((m18 45 59) - 1)).toNat).toNat) 1 (eg_u (eg_u (eg_u m18 84 (eg_wi ((m18 45 59) - 1)).toNat r13.1) 45 63 (-1)) 83 (eg_wi ((m18 45 59) - 1)).toNat (m18 54 (m18 83 (eg_wi ((m18 45 59) - 1)).toNat).toNat))
            else none
          else none
        else
          (fn_185 (r13.2 45 66) r13.2).bind fun r27 =>
          some (.inr (.inr (r27.1, r27.2)))
      else none
noncomputable def fn_193_4 (x1 : Int) (s1 : Int) (s2 : Int) (s3 : eM) : Option ((Int × Int × eM) ⊕ (Int × eM)) :=
  if ¬ s2 = 0 then
    some (.inr (0, eg_u s3 45 70 (s3 45 63)))
  else
    if 0 ≤ s1 ∧ s1 < 20100 then
    if ¬ (s3 49 (s1).toNat) = 4 then
        (fn_194 s1 s3).bind fun r5 =>
        lp (fun z => fn_193_51 x1 s2 z.1 z.2.1 z.2.2) (s1, 1, eg_u s3 45 63 r5)
      else
        if (s3 55 (s1).toNat) ≤ 0 then
          (fn_194 s1 s3).bind fun r32 =>
          lp (fun z => fn_193_51 x1 s2 z.1 z.2.1 z.2.2) (s1, 1, eg_u s3 45 63 r32)
        else
          if 0 ≤ (s3 45 59) ∧ (s3 45 59) < 31 then
          some (.inl (s3 52 (s1).toNat, s2, eg_u (eg_u (eg_u s3 83 (s3 45 59).toNat (s3 52 (s1).toNat)) 84 (s3 45 59).toNat 12884901888) 45 59 (eg_wi ((s3 45 59) + 1))))
          else none
    else none
/-- 193: WeakSchemeModel.build(I)I -/
noncomputable def fn_193 (a : Int) (M : eM) : Option (Int × eM) :=
  lp (fun z => fn_193_4 a z.1 z.2.1 z.2.2) (a, 0, M)
set_option maxRecDepth 100000 in
theorem ft_193_118 {cn mo : Nat} {sc : eg_Sc} {d : Nat} {M : eM} {Q : Option eg_V → eg_H → Prop} {x1 : Int} {x2 : Int} {x3 : Int} {x7 : Int} {y0 : Int} {x : (Int × Int × eM) ⊕ ((Int × Int × eM) ⊕ (Int × eM))} (hx : fn_193_118 x1 x2 x3 x7 y0 M = some x) (hK : (eK (fun (s : Int × Int × eM) => ∀ (w5 w6 w7 : Option eg_V), eg_X sc (eg_wp sc (d + 8)) eg_p193 (some .int) 0 0 Q 51 [some (.inr (.inr (some 45))), some (.inl x1), some (.inl s.1), some (.inl x3), some (.inl s.2.1), w5, w6, w7] [] (em_L cn mo, eh_R, s.2.2) 0 0) (eK (fun (s : Int × Int × eM) => ∀ (w4 w5 w6 w7 : Option eg_V), eg_X sc (eg_wp sc (d + 8)) eg_p193 (some .int) 0 0 Q 4 [some (.inr (.inr (some 45))), some (.inl x1), some (.inl s.1), some (.inl s.2.1), w4, w5, w6, w7] [] (em_L cn mo, eh_R, s.2.2) 0 0) (fun (x : Int × eM) => Q (some (.inl ((x).1))) (em_L cn mo, eh_R, (x).2)))) x) : ∀ (w4 w5 w6 : Option eg_V), eg_X sc (eg_wp sc (d + 8)) eg_p193 (some .int) 0 0 Q 118 [some (.inr (.inr (some 45))), some (.inl x1), some (.inl x2), some (.inl x3), w4, w5, w6, some (.inl x7)] [.inl y0] (em_L cn mo, eh_R, M) 0 0 := by
  intro w4 w5 w6
  refine eg_k_istore (lv' := [some (.inr (.inr (some 45))), some (.inl x1), some (.inl x2), some (.inl x3), some (.inl y0), w5, w6, some (.inl x7)]) rfl rfl ?_
  refine eg_k_iload rfl rfl ?_
  refine vk_if rfl hx Iff.rfl (fun c24 hx => ?_) (fun c24 hx => ?_)
  · refine eg_k_iload rfl rfl ?_
    refine eg_k_istore (lv' := [some (.inr (.inr (some 45))), some (.inl x1), some (.inl x7), some (.inl x3), some (.inl y0), w5, w6, some (.inl x7)]) rfl rfl ?_
    refine eg_k_goto rfl ?_
    have hx := Option.some.inj hx
    subst hx
    exact hK w5 w6 (some (.inl x7))
  · refine eg_k_aload rfl rfl ?_
    refine eg_k_aload rfl rfl ?_
    refine eg_k_gfi rfl rfl rfl ?_
    refine eg_k_ci rfl ?_
    refine eg_k_isub rfl ?_
    refine eg_k_pfi rfl rfl rfl ?_
    refine eg_k_aload rfl rfl ?_
    refine eg_k_aload rfl rfl ?_
    refine eg_k_gfa rfl rfl rfl eh_r45_61 ?_
    refine eg_k_aload rfl rfl ?_
    refine eg_k_gfie (x := eg_wi ((M 45 59) - 1)) rfl rfl rfl rfl ?_
    obtain ⟨b25, hx⟩ := vb_if hx
    refine vk_lald (k := 31) (y := M 84 (eg_wi ((M 45 59) - 1)).toNat) rfl rfl b25.1 b25.2 rfl ?_
    refine eg_k_pfl rfl rfl rfl ?_
    refine eg_k_goto rfl ?_
    refine eg_k_goto rfl ?_
    have hx := Option.some.inj hx
    subst hx
    exact hK w5 w6 (some (.inl x7))
set_option maxRecDepth 100000 in
theorem ft_193_51 {cn mo : Nat} {sc : eg_Sc} {d : Nat} {Q : Option eg_V → eg_H → Prop} {x1 : Int} {x3 : Int} {s : Int × Int × eM} {x : (Int × Int × eM) ⊕ (Int × eM)} (hx : lp (fun z => fn_193_51 x1 x3 z.1 z.2.1 z.2.2) s = some x) (hK : (eK (fun (s : Int × Int × eM) => ∀ (w4 w5 w6 w7 : Option eg_V), eg_X sc (eg_wp sc (d + 8)) eg_p193 (some .int) 0 0 Q 4 [some (.inr (.inr (some 45))), some (.inl x1), some (.inl s.1), some (.inl s.2.1), w4, w5, w6, w7] [] (em_L cn mo, eh_R, s.2.2) 0 0) (fun (x : Int × eM) => Q (some (.inl ((x).1))) (em_L cn mo, eh_R, (x).2))) x) : ∀ (w5 w6 w7 : Option eg_V), eg_X sc (eg_wp sc (d + 8)) eg_p193 (some .int) 0 0 Q 51 [some (.inr (.inr (some 45))), some (.inl x1), some (.inl s.1), some (.inl x3), some (.inl s.2.1), w5, w6, w7] [] (em_L cn mo, eh_R, s.2.2) 0 0 := by
  refine lp_sound (P := (fun (s : Int × Int × eM) => ∀ (w5 w6 w7 : Option eg_V), eg_X sc (eg_wp sc (d + 8)) eg_p193 (some .int) 0 0 Q 51 [some (.inr (.inr (some 45))), some (.inl x1), some (.inl s.1), some (.inl x3), some (.inl s.2.1), w5, w6, w7] [] (em_L cn mo, eh_R, s.2.2) 0 0)) (K := (eK (fun (s : Int × Int × eM) => ∀ (w4 w5 w6 w7 : Option eg_V), eg_X sc (eg_wp sc (d + 8)) eg_p193 (some .int) 0 0 Q 4 [some (.inr (.inr (some 45))), some (.inl x1), some (.inl s.1), some (.inl s.2.1), w4, w5, w6, w7] [] (em_L cn mo, eh_R, s.2.2) 0 0) (fun (x : Int × eM) => Q (some (.inl ((x).1))) (em_L cn mo, eh_R, (x).2)))) hx hK ?_
  intro s x hx hK w5 w6 w7
  obtain ⟨s1, s2, s3⟩ := s
  refine eg_k_iload rfl rfl ?_
  refine vk_if rfl hx Iff.rfl (fun c7 hx => ?_) (fun c7 hx => ?_)
  · refine eg_k_aload rfl rfl ?_
    refine eg_k_gfi rfl rfl rfl ?_
    refine vk_if rfl hx Iff.rfl (fun c8 hx => ?_) (fun c8 hx => ?_)
    · refine eg_k_ci rfl ?_
      refine eg_k_istore (lv' := [some (.inr (.inr (some 45))), some (.inl x1), some (.inl s1), some (.inl 0), some (.inl s2), w5, w6, w7]) rfl rfl ?_
      refine eg_k_goto rfl ?_
      have hx := Option.some.inj hx
      subst hx
      exact hK (some (.inl s2)) w5 w6 w7
    · refine eg_k_ci rfl ?_
      refine eg_k_goto rfl ?_
      refine eg_k_istore (lv' := [some (.inr (.inr (some 45))), some (.inl x1), some (.inl s1), some (.inl 1), some (.inl s2), w5, w6, w7]) rfl rfl ?_
      refine eg_k_goto rfl ?_
      have hx := Option.some.inj hx
      subst hx
      exact hK (some (.inl s2)) w5 w6 w7
  · refine eg_k_aload rfl rfl ?_
    refine eg_k_gfi rfl rfl rfl ?_
    refine vk_if rfl hx Iff.rfl (fun c9 hx => ?_) (fun c9 hx => ?_)
    · refine eg_k_aload rfl rfl ?_
      refine eg_k_gfi rfl rfl rfl ?_
      refine vk_if rfl hx Iff.rfl (fun c10 hx => ?_) (fun c10 hx => ?_)
      · refine eg_k_ci rfl ?_
        refine eg_k_istore (lv' := [some (.inr (.inr (some 45))), some (.inl x1), some (.inl s1), some (.inl 0), some (.inl s2), w5, w6, w7]) rfl rfl ?_
        refine eg_k_goto rfl ?_
        have hx := Option.some.inj hx
        subst hx
        exact hK (some (.inl s2)) w5 w6 w7
      · refine eg_k_ci rfl ?_
        refine eg_k_goto rfl ?_
        refine eg_k_istore (lv' := [some (.inr (.inr (some 45))), some (.inl x1), some (.inl s1), some (.inl 1), some (.inl s2), w5, w6, w7]) rfl rfl ?_
        refine eg_k_goto rfl ?_
        have hx := Option.some.inj hx
        subst hx
        exact hK (some (.inl s2)) w5 w6 w7
    · refine eg_k_aload rfl rfl ?_
      refine eg_k_ci rfl ?_
      refine eg_k_ci rfl ?_
      refine eg_k_aload rfl rfl ?_
      refine eg_k_gfa rfl rfl rfl eh_r45_61 ?_
      refine eg_k_aload rfl rfl ?_
      refine eg_k_gfi rfl rfl rfl ?_
      refine eg_k_ci rfl ?_
      refine eg_k_isub rfl ?_
      obtain ⟨b11, hx⟩ := vb_if hx
      refine eg_k_lald (k := 31) rfl rfl b11.1 b11.2 ?_
      obtain ⟨r13, h12, hx⟩ := vb_bind hx
      refine eg_k_call (c1 := 0) (z1 := 0) (as := [.inr (.inr (some 45)), .inl 0, .inl 2, .inr (.inl (s3 84 (eg_wi ((s3 45 59) - 1)).toNat))]) (rest := []) rfl eg_tj195 (Nat.le_of_ble_eq_true rfl) rfl rfl rfl (Nat.le_of_ble_eq_true rfl) (Nat.le_refl _) (Nat.le_refl _) ?_ (fun Q hQ => ft_195 h12 hQ)
      refine eg_k_lstore (lv' := [some (.inr (.inr (some 45))), some (.inl x1), some (.inl s1), some (.inl x3), some (.inl s2), some (.inr (.inl r13.1)), none, w7]) rfl rfl ?_
      refine eg_k_lload rfl rfl ?_
      refine eg_k_cl rfl ?_
      refine vk_lcmp rfl rfl hx Iff.rfl (fun c15 hx => ?_) (fun c15 hx => ?_)
      · refine eg_k_aload rfl rfl ?_
        refine eg_k_lload rfl rfl ?_
        refine eg_k_ci rfl ?_
        refine eg_k_aload rfl rfl ?_
        refine eg_k_gfl rfl rfl rfl ?_
        obtain ⟨m18, h16, hx⟩ := vb_bind hx
        refine eg_k_call (c1 := 0) (z1 := 0) (as := [.inr (.inr (some 45)), .inr (.inl r13.1), .inl 0, .inr (.inl (r13.2 45 63))]) (rest := []) rfl eg_tj205 (Nat.le_of_ble_eq_true rfl) rfl rfl rfl (Nat.le_of_ble_eq_true rfl) (Nat.le_refl _) (Nat.le_refl _) ?_ (fun Q hQ => ft_205 h16 hQ)
        refine eg_k_aload rfl rfl ?_
        refine eg_k_gfa rfl rfl rfl eh_r45_61 ?_
        refine eg_k_aload rfl rfl ?_
        refine eg_k_gfi rfl rfl rfl ?_
        refine eg_k_ci rfl ?_
        refine eg_k_isub rfl ?_
        refine eg_k_lload rfl rfl ?_
        obtain ⟨b19, hx⟩ := vb_if hx
        refine eg_k_last (k := 31) rfl rfl b19.1 b19.2 ?_
        refine eg_k_aload rfl rfl ?_
        refine eg_k_cl rfl ?_
        refine eg_k_pfl rfl rfl rfl ?_
        refine eg_k_aload rfl rfl ?_
        refine eg_k_gfa rfl rfl rfl eh_r45_13 ?_
        refine eg_k_aload rfl rfl ?_
        refine eg_k_gfa rfl rfl rfl eh_r45_60 ?_
        refine eg_k_aload rfl rfl ?_
        refine eg_k_gfie (x := m18 45 59) rfl rfl rfl rfl ?_
        refine eg_k_ci rfl ?_
        refine eg_k_isub rfl ?_
        refine vk_iald (k := 31) (y := m18 83 (eg_wi ((m18 45 59) - 1)).toNat) rfl rfl b19.1 b19.2 rfl ?_
        obtain ⟨b21, hx⟩ := vb_if hx
        refine vk_iald (k := 20100) (y := m18 54 (m18 83 (eg_wi ((m18 45 59) - 1)).toNat).toNat) rfl rfl b21.1 b21.2 rfl ?_
        refine eg_k_istore (lv' := [some (.inr (.inr (some 45))), some (.inl x1), some (.inl s1), some (.inl x3), some (.inl s2), some (.inr (.inl r13.1)), none, some (.inl (m18 54 (m18 83 (eg_wi ((m18 45 59) - 1)).toNat).toNat))]) rfl rfl ?_
        refine eg_k_aload rfl rfl ?_
        refine eg_k_gfa rfl rfl rfl eh_r45_60 ?_
        refine eg_k_aload rfl rfl ?_
        refine eg_k_gfie (x := m18 45 59) rfl rfl rfl rfl ?_
        refine eg_k_ci rfl ?_
        refine eg_k_isub rfl ?_
        refine eg_k_iload rfl rfl ?_
        refine eg_k_iast (k := 31) rfl rfl b19.1 b19.2 ?_
        refine eg_k_iload rfl rfl ?_
        refine vk_if rfl hx Iff.rfl (fun c23 hx => ?_) (fun c23 hx => ?_)
        · refine eg_k_ci rfl ?_
          have hz := ft_193_118 (d := d) (sc := sc) hx hK
          exact hz (some (.inl s2)) (some (.inr (.inl r13.1))) none
        · refine eg_k_ci rfl ?_
          refine eg_k_goto rfl ?_
          have hz := ft_193_118 (d := d) (sc := sc) hx hK
          exact hz (some (.inl s2)) (some (.inr (.inl r13.1))) none
      · refine eg_k_aload rfl rfl ?_
        refine eg_k_aload rfl rfl ?_
        refine eg_k_gfi rfl rfl rfl ?_
        obtain ⟨r27, h26, hx⟩ := vb_bind hx
        refine eg_k_call (c1 := 0) (z1 := 0) (as := [.inr (.inr (some 45)), .inl (r13.2 45 66)]) (rest := []) rfl eg_tj185 (Nat.le_of_ble_eq_true rfl) rfl rfl rfl (Nat.le_of_ble_eq_true rfl) (Nat.le_refl _) (Nat.le_refl _) ?_ (fun Q hQ => ft_185 h26 hQ)
        have hx := Option.some.inj hx
        subst hx
        exact eg_k_iret rfl True.intro (Nat.le_refl _) (Nat.le_refl _) hK
set_option maxRecDepth 100000 in
theorem ft_193_4 {cn mo : Nat} {sc : eg_Sc} {d : Nat} {Q : Option eg_V → eg_H → Prop} {x1 : Int} {s : Int × Int × eM} {x : Int × eM} (hx : lp (fun z => fn_193_4 x1 z.1 z.2.1 z.2.2) s = some x) (hK : (fun (x : Int × eM) => Q (some (.inl ((x).1))) (em_L cn mo, eh_R, (x).2)) x) : ∀ (w4 w5 w6 w7 : Option eg_V), eg_X sc (eg_wp sc (d + 8)) eg_p193 (some .int) 0 0 Q 4 [some (.inr (.inr (some 45))), some (.inl x1), some (.inl s.1), some (.inl s.2.1), w4, w5, w6, w7] [] (em_L cn mo, eh_R, s.2.2) 0 0 := by
  refine lp_sound (P := (fun (s : Int × Int × eM) => ∀ (w4 w5 w6 w7 : Option eg_V), eg_X sc (eg_wp sc (d + 8)) eg_p193 (some .int) 0 0 Q 4 [some (.inr (.inr (some 45))), some (.inl x1), some (.inl s.1), some (.inl s.2.1), w4, w5, w6, w7] [] (em_L cn mo, eh_R, s.2.2) 0 0)) (K := (fun (x : Int × eM) => Q (some (.inl ((x).1))) (em_L cn mo, eh_R, (x).2))) hx hK ?_
  intro s x hx hK w4 w5 w6 w7
  obtain ⟨s1, s2, s3⟩ := s
  refine eg_k_iload rfl rfl ?_
  refine vk_if rfl hx Iff.rfl (fun c1 hx => ?_) (fun c1 hx => ?_)
  · refine eg_k_aload rfl rfl ?_
    refine eg_k_aload rfl rfl ?_
    refine eg_k_gfl rfl rfl rfl ?_
    refine eg_k_pfl rfl rfl rfl ?_
    refine eg_k_ci rfl ?_
    have hx := Option.some.inj hx
    subst hx
    exact eg_k_iret rfl True.intro (Nat.le_refl _) (Nat.le_refl _) hK
  · refine eg_k_aload rfl rfl ?_
    refine eg_k_gfa rfl rfl rfl eh_r45_8 ?_
    refine eg_k_iload rfl rfl ?_
    obtain ⟨b2, hx⟩ := vb_if hx
    refine eg_k_bald (k := 20100) rfl rfl b2.1 b2.2 ?_
    refine eg_k_ci rfl ?_
    refine vk_icmp rfl hx Iff.rfl (fun c3 hx => ?_) (fun c3 hx => ?_)
    · refine eg_k_aload rfl rfl ?_
      refine eg_k_aload rfl rfl ?_
      refine eg_k_iload rfl rfl ?_
      obtain ⟨r5, h4, hx⟩ := vb_bind hx
      refine eg_k_call (c1 := 0) (z1 := 0) (as := [.inr (.inr (some 45)), .inl s1]) (rest := [.inr (.inr (some 45))]) rfl eg_tj194 (Nat.le_of_ble_eq_true rfl) rfl rfl rfl (Nat.le_of_ble_eq_true rfl) (Nat.le_refl _) (Nat.le_refl _) ?_ (fun Q hQ => ft_194 h4 hQ)
      refine eg_k_pfl rfl rfl rfl ?_
      refine eg_k_ci rfl ?_
      refine eg_k_istore (lv' := [some (.inr (.inr (some 45))), some (.inl x1), some (.inl s1), some (.inl s2), some (.inl 1), w5, w6, w7]) rfl rfl ?_
      have hz := ft_193_51 (d := d) (sc := sc) hx hK
      exact hz w5 w6 w7
    · refine eg_k_aload rfl rfl ?_
      refine eg_k_gfa rfl rfl rfl eh_r45_14 ?_
      refine eg_k_iload rfl rfl ?_
      refine eg_k_sald (k := 20100) rfl rfl b2.1 b2.2 ?_
      refine vk_if rfl hx Iff.rfl (fun c30 hx => ?_) (fun c30 hx => ?_)
      · refine eg_k_aload rfl rfl ?_
        refine eg_k_aload rfl rfl ?_
        refine eg_k_iload rfl rfl ?_
        obtain ⟨r32, h31, hx⟩ := vb_bind hx
        refine eg_k_call (c1 := 0) (z1 := 0) (as := [.inr (.inr (some 45)), .inl s1]) (rest := [.inr (.inr (some 45))]) rfl eg_tj194 (Nat.le_of_ble_eq_true rfl) rfl rfl rfl (Nat.le_of_ble_eq_true rfl) (Nat.le_refl _) (Nat.le_refl _) ?_ (fun Q hQ => ft_194 h31 hQ)
        refine eg_k_pfl rfl rfl rfl ?_
        refine eg_k_ci rfl ?_
        refine eg_k_istore (lv' := [some (.inr (.inr (some 45))), some (.inl x1), some (.inl s1), some (.inl s2), some (.inl 1), w5, w6, w7]) rfl rfl ?_
        have hz := ft_193_51 (d := d) (sc := sc) hx hK
        exact hz w5 w6 w7
      · refine eg_k_aload rfl rfl ?_
        refine eg_k_gfa rfl rfl rfl eh_r45_60 ?_
        refine eg_k_aload rfl rfl ?_
        refine eg_k_gfi rfl rfl rfl ?_
        refine eg_k_aload rfl rfl ?_
        refine eg_k_gfa rfl rfl rfl eh_r45_11 ?_
        refine eg_k_iload rfl rfl ?_
        refine eg_k_iald (k := 20100) rfl rfl b2.1 b2.2 ?_
        obtain ⟨b35, hx⟩ := vb_if hx
        refine eg_k_iast (k := 31) rfl rfl b35.1 b35.2 ?_
        refine eg_k_aload rfl rfl ?_
        refine eg_k_gfa rfl rfl rfl eh_r45_61 ?_
        refine eg_k_aload rfl rfl ?_
        refine eg_k_gfie (x := s3 45 59) rfl rfl rfl rfl ?_
        refine eg_k_cl rfl ?_
        refine eg_k_last (k := 31) rfl rfl b35.1 b35.2 ?_
        refine eg_k_aload rfl rfl ?_
        refine eg_k_aload rfl rfl ?_
        refine eg_k_gfie (x := s3 45 59) rfl rfl rfl rfl ?_
        refine eg_k_ci rfl ?_
        refine eg_k_iadd rfl ?_
        refine eg_k_pfi rfl rfl rfl ?_
        refine eg_k_aload rfl rfl ?_
        refine eg_k_gfa rfl rfl rfl eh_r45_11 ?_
        refine eg_k_iload rfl rfl ?_
        refine vk_iald (k := 20100) (y := s3 52 (s1).toNat) rfl rfl b2.1 b2.2 rfl ?_
        refine eg_k_istore (lv' := [some (.inr (.inr (some 45))), some (.inl x1), some (.inl (s3 52 (s1).toNat)), some (.inl s2), w4, w5, w6, w7]) rfl rfl ?_
        refine eg_k_goto rfl ?_
        have hx := Option.some.inj hx
        subst hx
        exact hK w4 w5 w6 w7
set_option maxRecDepth 100000 in
theorem ft_193 {cn mo : Nat} {sc : eg_Sc} {d : Nat} {M : eM} {Q : Option eg_V → eg_H → Prop} {a : Int} {x : Int × eM} (hx : fn_193 a M = some x) (hK : Q (some (.inl ((x).1))) (em_L cn mo, eh_R, (x).2)) : eg_wp sc (d + 9) 193 [.inr (.inr (some 45)), .inl a] (em_L cn mo, eh_R, M) 0 0 Q := by
  refine eg_in (lv := [some (.inr (.inr (some 45))), some (.inl a), none, none, none, none, none, none]) eg_tj193 (Nat.le_of_ble_eq_true rfl) rfl ?_
  refine eg_k_iload rfl rfl ?_
  refine eg_k_istore (lv' := [some (.inr (.inr (some 45))), some (.inl a), some (.inl a), none, none, none, none, none]) rfl rfl ?_
  refine eg_k_ci rfl ?_
  refine eg_k_istore (lv' := [some (.inr (.inr (some 45))), some (.inl a), some (.inl a), some (.inl 0), none, none, none, none]) rfl rfl ?_
  have hz := ft_193_4 (d := d) (sc := sc) hx hK
  exact hz none none none none
theorem fw_193_118 {M : eM} {c j : Nat} {v : Int} {x1 : Int} {x2 : Int} {x3 : Int} {x7 : Int} {y0 : Int} {x : (Int × Int × eM) ⊕ ((Int × Int × eM) ⊕ (Int × eM))} (hc : c ∉ ([45, 62, 63, 65, 66, 67, 68, 69, 70, 71, 73, 74, 75, 76, 83, 84, 85] : List Nat)) (hx : fn_193_118 x1 x2 x3 x7 y0 M = some x) (hK : (eK (fun (s : Int × Int × eM) => s.2.2 c j = v) (eK (fun (s : Int × Int × eM) => s.2.2 c j = v) (fun (x : Int × eM) => ((x).2) c j = v))) x) : M c j = v := by
  refine vb_ite hx (fun _ hx => ?_) (fun _ hx => ?_)
  · have hx := Option.some.inj hx
    subst hx
    exact (Eq.refl _).symm.trans hK
  · obtain ⟨_, hx⟩ := vb_if hx
    have hx := Option.some.inj hx
    subst hx
    exact ((congrFun (eg_u_ne (vne hc (a := 45) (by decide))) j).trans ((congrFun (eg_u_ne (vne hc (a := 45) (by decide))) j).trans rfl)).symm.trans hK
theorem fw_193_51 {c j : Nat} {v : Int} {x1 : Int} {x3 : Int} {s : Int × Int × eM} {x : (Int × Int × eM) ⊕ (Int × eM)} (hc : c ∉ ([45, 62, 63, 65, 66, 67, 68, 69, 70, 71, 73, 74, 75, 76, 83, 84, 85] : List Nat)) (hx : lp (fun z => fn_193_51 x1 x3 z.1 z.2.1 z.2.2) s = some x) (hK : (eK (fun (s : Int × Int × eM) => s.2.2 c j = v) (fun (x : Int × eM) => ((x).2) c j = v)) x) : s.2.2 c j = v := by
  refine lp_sound (P := (fun (s : Int × Int × eM) => s.2.2 c j = v)) (K := (eK (fun (s : Int × Int × eM) => s.2.2 c j = v) (fun (x : Int × eM) => ((x).2) c j = v))) hx hK ?_
  intro s x hx hK
  obtain ⟨s1, s2, s3⟩ := s
  refine vb_ite hx (fun _ hx => ?_) (fun _ hx => ?_)
  · refine vb_ite hx (fun _ hx => ?_) (fun _ hx => ?_)
    · have hx := Option.some.inj hx
      subst hx
      exact (Eq.refl _).symm.trans hK
    · have hx := Option.some.inj hx
      subst hx
      exact (Eq.refl _).symm.trans hK
  · refine vb_ite hx (fun _ hx => ?_) (fun _ hx => ?_)
    · refine vb_ite hx (fun _ hx => ?_) (fun _ hx => ?_)
      · have hx := Option.some.inj hx
        subst hx
        exact (Eq.refl _).symm.trans hK
      · have hx := Option.some.inj hx
        subst hx
        exact (Eq.refl _).symm.trans hK
    · obtain ⟨_, hx⟩ := vb_if hx
      obtain ⟨r13, h12, hx⟩ := vb_bind hx
      refine vb_ite hx (fun _ hx => ?_) (fun _ hx => ?_)
      · obtain ⟨m18, h16, hx⟩ := vb_bind hx
        obtain ⟨_, hx⟩ := vb_if hx
        obtain ⟨_, hx⟩ := vb_if hx
        refine vb_ite hx (fun _ hx => ?_) (fun _ hx => ?_)
        · have hz := fw_193_118 hc hx hK
          exact ((congrFun (eg_u_ne (vne hc (a := 83) (by decide))) j).trans ((congrFun (eg_u_ne (vne hc (a := 45) (by decide))) j).trans ((congrFun (eg_u_ne (vne hc (a := 84) (by decide))) j).trans ((fw_205 h16 (vsub hc (by decide)) j).trans ((fw_195 h12 (vsub hc (by decide)) j).trans rfl))))).symm.trans hz
        · have hz := fw_193_118 hc hx hK
          exact ((congrFun (eg_u_ne (vne hc (a := 83) (by decide))) j).trans ((congrFun (eg_u_ne (vne hc (a := 45) (by decide))) j).trans ((congrFun (eg_u_ne (vne hc (a := 84) (by decide))) j).trans ((fw_205 h16 (vsub hc (by decide)) j).trans ((fw_195 h12 (vsub hc (by decide)) j).trans rfl))))).symm.trans hz
      · obtain ⟨r27, h26, hx⟩ := vb_bind hx
        have hx := Option.some.inj hx
        subst hx
        exact ((fw_185 h26 (vsub hc (by decide)) j).trans ((fw_195 h12 (vsub hc (by decide)) j).trans rfl)).symm.trans hK
theorem fw_193_4 {c j : Nat} {v : Int} {x1 : Int} {s : Int × Int × eM} {x : Int × eM} (hc : c ∉ ([45, 62, 63, 65, 66, 67, 68, 69, 70, 71, 73, 74, 75, 76, 83, 84, 85] : List Nat)) (hx : lp (fun z => fn_193_4 x1 z.1 z.2.1 z.2.2) s = some x) (hK : (fun (x : Int × eM) => ((x).2) c j = v) x) : s.2.2 c j = v := by
  refine lp_sound (P := (fun (s : Int × Int × eM) => s.2.2 c j = v)) (K := (fun (x : Int × eM) => ((x).2) c j = v)) hx hK ?_
  intro s x hx hK
  obtain ⟨s1, s2, s3⟩ := s
  refine vb_ite hx (fun _ hx => ?_) (fun _ hx => ?_)
  · have hx := Option.some.inj hx
    subst hx
    exact ((congrFun (eg_u_ne (vne hc (a := 45) (by decide))) j).trans rfl).symm.trans hK
  · obtain ⟨_, hx⟩ := vb_if hx
    refine vb_ite hx (fun _ hx => ?_) (fun _ hx => ?_)
    · obtain ⟨r5, h4, hx⟩ := vb_bind hx
      have hz := fw_193_51 hc hx hK
      exact ((congrFun (eg_u_ne (vne hc (a := 45) (by decide))) j).trans rfl).symm.trans hz
    · refine vb_ite hx (fun _ hx => ?_) (fun _ hx => ?_)
      · obtain ⟨r32, h31, hx⟩ := vb_bind hx
        have hz := fw_193_51 hc hx hK
        exact ((congrFun (eg_u_ne (vne hc (a := 45) (by decide))) j).trans rfl).symm.trans hz
      · obtain ⟨_, hx⟩ := vb_if hx
        have hx := Option.some.inj hx
        subst hx
        exact ((congrFun (eg_u_ne (vne hc (a := 45) (by decide))) j).trans ((congrFun (eg_u_ne (vne hc (a := 84) (by decide))) j).trans ((congrFun (eg_u_ne (vne hc (a := 83) (by decide))) j).trans rfl))).symm.trans hK
theorem fw_193 {M : eM} {c : Nat} {a : Int} {x : Int × eM} (hx : fn_193 a M = some x) (hc : c ∉ ([45, 62, 63, 65, 66, 67, 68, 69, 70, 71, 73, 74, 75, 76, 83, 84, 85] : List Nat)) (j : Nat) : ((x).2) c j = M c j := by
  obtain ⟨v, hK⟩ : ∃ v, ((x).2) c j = v := ⟨_, rfl⟩
  rw [hK]
  refine Eq.symm ?_
  have hz := fw_193_4 hc hx hK
  exact (Eq.refl _).symm.trans hz
/-- 192: WeakSchemeModel.quote(IJ)I -/
noncomputable def fn_192 (a : Int) (b : Int) (M : eM) : Option (Int × eM) :=
  (fn_193 a (eg_u (eg_u M 45 62 b) 45 59 0)).bind fun r2 =>
  some (r2.1, eg_u (eg_u (eg_u r2.2 45 59 0) 45 62 (-1)) 45 63 (-1))
set_option maxRecDepth 100000 in
theorem ft_192 {cn mo : Nat} {sc : eg_Sc} {d : Nat} {M : eM} {Q : Option eg_V → eg_H → Prop} {a : Int} {b : Int} {x : Int × eM} (hx : fn_192 a b M = some x) (hK : Q (some (.inl ((x).1))) (em_L cn mo, eh_R, (x).2)) : eg_wp sc (d + 10) 192 [.inr (.inr (some 45)), .inl a, .inr (.inl b)] (em_L cn mo, eh_R, M) 0 0 Q := by
  refine eg_in (lv := [some (.inr (.inr (some 45))), some (.inl a), some (.inr (.inl b)), none, none]) eg_tj192 (Nat.le_of_ble_eq_true rfl) rfl ?_
  refine eg_k_aload rfl rfl ?_
  refine eg_k_lload rfl rfl ?_
  refine eg_k_pfl rfl rfl rfl ?_
  refine eg_k_aload rfl rfl ?_
  refine eg_k_ci rfl ?_
  refine eg_k_pfi rfl rfl rfl ?_
  refine eg_k_aload rfl rfl ?_
  refine eg_k_iload rfl rfl ?_
  obtain ⟨r2, h1, hx⟩ := vb_bind hx
  refine eg_k_call (c1 := 0) (z1 := 0) (as := [.inr (.inr (some 45)), .inl a]) (rest := []) rfl eg_tj193 (Nat.le_of_ble_eq_true rfl) rfl rfl rfl (Nat.le_of_ble_eq_true rfl) (Nat.le_refl _) (Nat.le_refl _) ?_ (fun Q hQ => ft_193 h1 hQ)
  refine eg_k_istore (lv' := [some (.inr (.inr (some 45))), some (.inl a), some (.inr (.inl b)), none, some (.inl r2.1)]) rfl rfl ?_
  refine eg_k_aload rfl rfl ?_
  refine eg_k_ci rfl ?_
  refine eg_k_pfi rfl rfl rfl ?_
  refine eg_k_aload rfl rfl ?_
  refine eg_k_cl rfl ?_
  refine eg_k_pfl rfl rfl rfl ?_
  refine eg_k_aload rfl rfl ?_
  refine eg_k_cl rfl ?_
  refine eg_k_pfl rfl rfl rfl ?_
  refine eg_k_iload rfl rfl ?_
  have hx := Option.some.inj hx
  subst hx
  exact eg_k_iret rfl True.intro (Nat.le_refl _) (Nat.le_refl _) hK
theorem fw_192 {M : eM} {c : Nat} {a : Int} {b : Int} {x : Int × eM} (hx : fn_192 a b M = some x) (hc : c ∉ ([45, 62, 63, 65, 66, 67, 68, 69, 70, 71, 73, 74, 75, 76, 83, 84, 85] : List Nat)) (j : Nat) : ((x).2) c j = M c j := by
  obtain ⟨v, hK⟩ : ∃ v, ((x).2) c j = v := ⟨_, rfl⟩
  rw [hK]
  refine Eq.symm ?_
  obtain ⟨r2, h1, hx⟩ := vb_bind hx
  have hx := Option.some.inj hx
  subst hx
  exact ((congrFun (eg_u_ne (vne hc (a := 45) (by decide))) j).trans ((congrFun (eg_u_ne (vne hc (a := 45) (by decide))) j).trans ((congrFun (eg_u_ne (vne hc (a := 45) (by decide))) j).trans ((fw_193 h1 (vsub hc (by decide)) j).trans ((congrFun (eg_u_ne (vne hc (a := 45) (by decide))) j).trans ((congrFun (eg_u_ne (vne hc (a := 45) (by decide))) j).trans rfl)))))).symm.trans hK
/-- 208: WeakSchemeModel.second2(I)I -/
noncomputable def fn_208 (a : Int) (M : eM) : Option (Int) :=
  if 0 ≤ a ∧ a < 20100 then
  if (M 55 (a).toNat) ≤ 1 then
      some (-1)
    else
      (fn_176 a M).bind fun r4 =>
      some r4
  else none
set_option maxRecDepth 100000 in
theorem ft_208 {cn mo : Nat} {sc : eg_Sc} {d : Nat} {M : eM} {Q : Option eg_V → eg_H → Prop} {a : Int} {x : Int} (hx : fn_208 a M = some x) (hK : Q (some (.inl x)) (em_L cn mo, eh_R, M)) : eg_wp sc (d + 2) 208 [.inr (.inr (some 45)), .inl a] (em_L cn mo, eh_R, M) 0 0 Q := by
  refine eg_in (lv := [some (.inr (.inr (some 45))), some (.inl a)]) eg_tj208 (Nat.le_of_ble_eq_true rfl) rfl ?_
  refine eg_k_aload rfl rfl ?_
  refine eg_k_gfa rfl rfl rfl eh_r45_14 ?_
  refine eg_k_iload rfl rfl ?_
  obtain ⟨b1, hx⟩ := vb_if hx
  refine eg_k_sald (k := 20100) rfl rfl b1.1 b1.2 ?_
  refine eg_k_ci rfl ?_
  refine vk_icmp rfl hx Iff.rfl (fun c2 hx => ?_) (fun c2 hx => ?_)
  · refine eg_k_ci rfl ?_
    have hx := Option.some.inj hx
    subst hx
    exact eg_k_iret rfl True.intro (Nat.le_refl _) (Nat.le_refl _) hK
  · refine eg_k_aload rfl rfl ?_
    refine eg_k_iload rfl rfl ?_
    obtain ⟨r4, h3, hx⟩ := vb_bind hx
    refine eg_k_call (c1 := 0) (z1 := 0) (as := [.inr (.inr (some 45)), .inl a]) (rest := []) rfl eg_tj176 (Nat.le_of_ble_eq_true rfl) rfl rfl rfl (Nat.le_of_ble_eq_true rfl) (Nat.le_refl _) (Nat.le_refl _) ?_ (fun Q hQ => ft_176 h3 hQ)
    refine eg_k_goto rfl ?_
    have hx := Option.some.inj hx
    subst hx
    exact eg_k_iret rfl True.intro (Nat.le_refl _) (Nat.le_refl _) hK
/-- 209: WeakSchemeModel.push(IIJI)V -/
noncomputable def fn_209 (a : Int) (b : Int) (e : Int) (f : Int) (M : eM) : Option (eM) :=
  if 0 ≤ (M 45 53) ∧ (M 45 53) < 4400 then
  some (eg_u (eg_u (eg_u (eg_u (eg_u (eg_u M 78 (M 45 53).toNat (eg_wb (eg_wb a))) 79 (M 45 53).toNat b) 82 (M 45 53).toNat e) 80 (M 45 53).toNat f) 81 (M 45 53).toNat (M 45 51)) 45 53 (eg_wi ((M 45 53) + 1)))
  else none
set_option maxRecDepth 100000 in
theorem ft_209 {cn mo : Nat} {sc : eg_Sc} {d : Nat} {M : eM} {Q : Option eg_V → eg_H → Prop} {a : Int} {b : Int} {e : Int} {f : Int} {x : eM} (hx : fn_209 a b e f M = some x) (hK : Q (none) (em_L cn mo, eh_R, x)) : eg_wp sc (d + 1) 209 [.inr (.inr (some 45)), .inl a, .inl b, .inr (.inl e), .inl f] (em_L cn mo, eh_R, M) 0 0 Q := by
  refine eg_in (lv := [some (.inr (.inr (some 45))), some (.inl a), some (.inl b), some (.inr (.inl e)), none, some (.inl f)]) eg_tj209 (Nat.le_of_ble_eq_true rfl) rfl ?_
  refine eg_k_aload rfl rfl ?_
  refine eg_k_gfa rfl rfl rfl eh_r45_54 ?_
  refine eg_k_aload rfl rfl ?_
  refine eg_k_gfi rfl rfl rfl ?_
  refine eg_k_iload rfl rfl ?_
  refine eg_k_i2b rfl ?_
  obtain ⟨b1, hx⟩ := vb_if hx
  refine eg_k_bast (k := 4400) rfl rfl b1.1 b1.2 ?_
  refine eg_k_aload rfl rfl ?_
  refine eg_k_gfa rfl rfl rfl eh_r45_55 ?_
  refine eg_k_aload rfl rfl ?_
  refine eg_k_gfie (x := M 45 53) rfl rfl rfl rfl ?_
  refine eg_k_iload rfl rfl ?_
  refine eg_k_iast (k := 4400) rfl rfl b1.1 b1.2 ?_
  refine eg_k_aload rfl rfl ?_
  refine eg_k_gfa rfl rfl rfl eh_r45_58 ?_
  refine eg_k_aload rfl rfl ?_
  refine eg_k_gfie (x := M 45 53) rfl rfl rfl rfl ?_
  refine eg_k_lload rfl rfl ?_
  refine eg_k_last (k := 4400) rfl rfl b1.1 b1.2 ?_
  refine eg_k_aload rfl rfl ?_
  refine eg_k_gfa rfl rfl rfl eh_r45_56 ?_
  refine eg_k_aload rfl rfl ?_
  refine eg_k_gfie (x := M 45 53) rfl rfl rfl rfl ?_
  refine eg_k_iload rfl rfl ?_
  refine eg_k_iast (k := 4400) rfl rfl b1.1 b1.2 ?_
  refine eg_k_aload rfl rfl ?_
  refine eg_k_gfa rfl rfl rfl eh_r45_57 ?_
  refine eg_k_aload rfl rfl ?_
  refine eg_k_gfie (x := M 45 53) rfl rfl rfl rfl ?_
  refine eg_k_aload rfl rfl ?_
  refine eg_k_gfie (x := M 45 51) rfl rfl rfl rfl ?_
  refine eg_k_iast (k := 4400) rfl rfl b1.1 b1.2 ?_
  refine eg_k_aload rfl rfl ?_
  refine eg_k_aload rfl rfl ?_
  refine eg_k_gfie (x := M 45 53) rfl rfl rfl rfl ?_
  refine eg_k_ci rfl ?_
  refine eg_k_iadd rfl ?_
  refine eg_k_pfi rfl rfl rfl ?_
  have hx := Option.some.inj hx
  subst hx
  exact eg_k_ret rfl rfl (Nat.le_refl _) (Nat.le_refl _) hK
theorem fw_209 {M : eM} {c : Nat} {a : Int} {b : Int} {e : Int} {f : Int} {x : eM} (hx : fn_209 a b e f M = some x) (hc : c ∉ ([45, 78, 79, 80, 81, 82] : List Nat)) (j : Nat) : x c j = M c j := by
  obtain ⟨v, hK⟩ : ∃ v, x c j = v := ⟨_, rfl⟩
  rw [hK]
  refine Eq.symm ?_
  obtain ⟨_, hx⟩ := vb_if hx
  have hx := Option.some.inj hx
  subst hx
  exact ((congrFun (eg_u_ne (vne hc (a := 45) (by decide))) j).trans ((congrFun (eg_u_ne (vne hc (a := 81) (by decide))) j).trans ((congrFun (eg_u_ne (vne hc (a := 80) (by decide))) j).trans ((congrFun (eg_u_ne (vne hc (a := 82) (by decide))) j).trans ((congrFun (eg_u_ne (vne hc (a := 79) (by decide))) j).trans ((congrFun (eg_u_ne (vne hc (a := 78) (by decide))) j).trans rfl)))))).symm.trans hK
/-- 191: WeakSchemeModel.list(IJ)I -/
noncomputable def fn_191 (a : Int) (b : Int) (M : eM) : Option (Int × eM) :=
  (fn_175 a M).bind fun r2 =>
  if r2 = 0 then
    (fn_176 a M).bind fun r5 =>
    (fn_192 r5 b M).bind fun r8 =>
    some (r8.1, r8.2)
  else if r2 = 1 then
    (fn_208 a M).bind fun r11 =>
    (fn_209 r2 a b r11 M).bind fun m15 =>
    some (1, m15)
  else if r2 = 2 then
    (fn_176 a M).bind fun r17 =>
    if 0 ≤ r17 ∧ r17 < 20100 then
    (fn_209 r2 a b (M 53 (r17).toNat) M).bind fun m22 =>
      some (1, m22)
    else none
  else if r2 = 3 then
    (fn_176 a M).bind fun r24 =>
    if 0 ≤ r24 ∧ r24 < 20100 then
    (fn_209 r2 a b (M 53 (r24).toNat) M).bind fun m29 =>
      some (1, m29)
    else none
  else if r2 = 4 then
    (fn_195 2 1 b (eg_u M 45 62 b)).bind fun r31 =>
    if ¬ r31.1 = (-1) then
      (fn_187 r31.1 (eg_u (eg_u r31.2 45 70 r31.1) 45 62 (-1))).bind fun r35 =>
      if 0 ≤ r35 ∧ r35 < 6700 then
      some (0, eg_u (eg_u (eg_u r31.2 45 70 r31.1) 45 62 (-1)) 64 (r35).toNat a)
      else none
    else
      (fn_185 (r31.2 45 66) (eg_u (eg_u r31.2 45 70 r31.1) 45 62 (-1))).bind fun r39 =>
      some (r39.1, r39.2)
  else if r2 = 5 then
    (fn_176 a M).bind fun r42 =>
    if 0 ≤ r42 ∧ r42 < 20100 then
    (fn_209 5 a b (M 51 (r42).toNat) M).bind fun m47 =>
      some (1, m47)
    else none
  else if r2 = 6 then
    (fn_208 a M).bind fun r49 =>
    (fn_209 r2 a b r49 M).bind fun m53 =>
    some (1, m53)
  else if r2 = 7 then
    (fn_208 a M).bind fun r55 =>
    (fn_209 r2 a b r55 M).bind fun m59 =>
    some (1, m59)
  else if r2 = 8 then
    (fn_208 a M).bind fun r61 =>
    (fn_209 r2 a b r61 M).bind fun m65 =>
    some (1, m65)
  else if r2 = 9 then
    (fn_208 a M).bind fun r67 =>
    (fn_209 r2 a b r67 M).bind fun m71 =>
    some (1, m71)
  else 
    if 0 ≤ a ∧ a < 20100 then
    (fn_209 10 a b (M 51 (a).toNat) M).bind fun m75 =>
      some (1, m75)
    else none
set_option maxRecDepth 100000 in
theorem ft_191 {cn mo : Nat} {sc : eg_Sc} {d : Nat} {M : eM} {Q : Option eg_V → eg_H → Prop} {a : Int} {b : Int} {x : Int × eM} (hx : fn_191 a b M = some x) (hK : Q (some (.inl ((x).1))) (em_L cn mo, eh_R, (x).2)) : eg_wp sc (d + 11) 191 [.inr (.inr (some 45)), .inl a, .inr (.inl b)] (em_L cn mo, eh_R, M) 0 0 Q := by
  refine eg_in (lv := [some (.inr (.inr (some 45))), some (.inl a), some (.inr (.inl b)), none, none]) eg_tj191 (Nat.le_of_ble_eq_true rfl) rfl ?_
  refine eg_k_aload rfl rfl ?_
  refine eg_k_iload rfl rfl ?_
  obtain ⟨r2, h1, hx⟩ := vb_bind hx
  refine eg_k_call (c1 := 0) (z1 := 0) (as := [.inr (.inr (some 45)), .inl a]) (rest := []) rfl eg_tj175 (Nat.le_of_ble_eq_true rfl) rfl rfl rfl (Nat.le_of_ble_eq_true rfl) (Nat.le_refl _) (Nat.le_refl _) ?_ (fun Q hQ => ft_175 h1 hQ)
  refine eg_k_istore (lv' := [some (.inr (.inr (some 45))), some (.inl a), some (.inr (.inl b)), none, some (.inl r2)]) rfl rfl ?_
  refine eg_k_iload rfl rfl ?_
  refine vb_ite hx (fun e9 hx => ?_) (fun e9 hx => ?_)
  · refine eg_k_tsw (x := r2) (t := 6) rfl (by rw [e9]; rfl) ?_
    refine eg_k_aload rfl rfl ?_
    refine eg_k_aload rfl rfl ?_
    refine eg_k_iload rfl rfl ?_
    obtain ⟨r5, h4, hx⟩ := vb_bind hx
    refine eg_k_call (c1 := 0) (z1 := 0) (as := [.inr (.inr (some 45)), .inl a]) (rest := [.inr (.inr (some 45))]) rfl eg_tj176 (Nat.le_of_ble_eq_true rfl) rfl rfl rfl (Nat.le_of_ble_eq_true rfl) (Nat.le_refl _) (Nat.le_refl _) ?_ (fun Q hQ => ft_176 h4 hQ)
    refine eg_k_lload rfl rfl ?_
    obtain ⟨r8, h7, hx⟩ := vb_bind hx
    refine eg_k_call (c1 := 0) (z1 := 0) (as := [.inr (.inr (some 45)), .inl r5, .inr (.inl b)]) (rest := []) rfl eg_tj192 (Nat.le_of_ble_eq_true rfl) rfl rfl rfl (Nat.le_of_ble_eq_true rfl) (Nat.le_refl _) (Nat.le_refl _) ?_ (fun Q hQ => ft_192 h7 hQ)
    have hx := Option.some.inj hx
    subst hx
    exact eg_k_iret rfl True.intro (Nat.le_refl _) (Nat.le_refl _) hK
  have e0_ := e9
  refine vb_ite hx (fun e9 hx => ?_) (fun e9 hx => ?_)
  · refine eg_k_tsw (x := r2) (t := 13) rfl (by rw [e9]; rfl) ?_
    refine eg_k_aload rfl rfl ?_
    refine eg_k_iload rfl rfl ?_
    refine eg_k_iload rfl rfl ?_
    refine eg_k_lload rfl rfl ?_
    refine eg_k_aload rfl rfl ?_
    refine eg_k_iload rfl rfl ?_
    obtain ⟨r11, h10, hx⟩ := vb_bind hx
    refine eg_k_call (c1 := 0) (z1 := 0) (as := [.inr (.inr (some 45)), .inl a]) (rest := [.inr (.inl b), .inl a, .inl r2, .inr (.inr (some 45))]) rfl eg_tj208 (Nat.le_of_ble_eq_true rfl) rfl rfl rfl (Nat.le_of_ble_eq_true rfl) (Nat.le_refl _) (Nat.le_refl _) ?_ (fun Q hQ => ft_208 h10 hQ)
    obtain ⟨m15, h13, hx⟩ := vb_bind hx
    refine eg_k_call (c1 := 0) (z1 := 0) (as := [.inr (.inr (some 45)), .inl r2, .inl a, .inr (.inl b), .inl r11]) (rest := []) rfl eg_tj209 (Nat.le_of_ble_eq_true rfl) rfl rfl rfl (Nat.le_of_ble_eq_true rfl) (Nat.le_refl _) (Nat.le_refl _) ?_ (fun Q hQ => ft_209 h13 hQ)
    refine eg_k_ci rfl ?_
    have hx := Option.some.inj hx
    subst hx
    exact eg_k_iret rfl True.intro (Nat.le_refl _) (Nat.le_refl _) hK
  have e1_ := e9
  refine vb_ite hx (fun e9 hx => ?_) (fun e9 hx => ?_)
  · refine eg_k_tsw (x := r2) (t := 23) rfl (by rw [e9]; rfl) ?_
    refine eg_k_aload rfl rfl ?_
    refine eg_k_iload rfl rfl ?_
    refine eg_k_iload rfl rfl ?_
    refine eg_k_lload rfl rfl ?_
    refine eg_k_aload rfl rfl ?_
    refine eg_k_gfa rfl rfl rfl eh_r45_12 ?_
    refine eg_k_aload rfl rfl ?_
    refine eg_k_iload rfl rfl ?_
    obtain ⟨r17, h16, hx⟩ := vb_bind hx
    refine eg_k_call (c1 := 0) (z1 := 0) (as := [.inr (.inr (some 45)), .inl a]) (rest := [.inr (.inr (some 53)), .inr (.inl b), .inl a, .inl r2, .inr (.inr (some 45))]) rfl eg_tj176 (Nat.le_of_ble_eq_true rfl) rfl rfl rfl (Nat.le_of_ble_eq_true rfl) (Nat.le_refl _) (Nat.le_refl _) ?_ (fun Q hQ => ft_176 h16 hQ)
    obtain ⟨b19, hx⟩ := vb_if hx
    refine eg_k_iald (k := 20100) rfl rfl b19.1 b19.2 ?_
    obtain ⟨m22, h20, hx⟩ := vb_bind hx
    refine eg_k_call (c1 := 0) (z1 := 0) (as := [.inr (.inr (some 45)), .inl r2, .inl a, .inr (.inl b), .inl (M 53 (r17).toNat)]) (rest := []) rfl eg_tj209 (Nat.le_of_ble_eq_true rfl) rfl rfl rfl (Nat.le_of_ble_eq_true rfl) (Nat.le_refl _) (Nat.le_refl _) ?_ (fun Q hQ => ft_209 h20 hQ)
    refine eg_k_ci rfl ?_
    have hx := Option.some.inj hx
    subst hx
    exact eg_k_iret rfl True.intro (Nat.le_refl _) (Nat.le_refl _) hK
  have e2_ := e9
  refine vb_ite hx (fun e9 hx => ?_) (fun e9 hx => ?_)
  · refine eg_k_tsw (x := r2) (t := 23) rfl (by rw [e9]; rfl) ?_
    refine eg_k_aload rfl rfl ?_
    refine eg_k_iload rfl rfl ?_
    refine eg_k_iload rfl rfl ?_
    refine eg_k_lload rfl rfl ?_
    refine eg_k_aload rfl rfl ?_
    refine eg_k_gfa rfl rfl rfl eh_r45_12 ?_
    refine eg_k_aload rfl rfl ?_
    refine eg_k_iload rfl rfl ?_
    obtain ⟨r24, h23, hx⟩ := vb_bind hx
    refine eg_k_call (c1 := 0) (z1 := 0) (as := [.inr (.inr (some 45)), .inl a]) (rest := [.inr (.inr (some 53)), .inr (.inl b), .inl a, .inl r2, .inr (.inr (some 45))]) rfl eg_tj176 (Nat.le_of_ble_eq_true rfl) rfl rfl rfl (Nat.le_of_ble_eq_true rfl) (Nat.le_refl _) (Nat.le_refl _) ?_ (fun Q hQ => ft_176 h23 hQ)
    obtain ⟨b26, hx⟩ := vb_if hx
    refine eg_k_iald (k := 20100) rfl rfl b26.1 b26.2 ?_
    obtain ⟨m29, h27, hx⟩ := vb_bind hx
    refine eg_k_call (c1 := 0) (z1 := 0) (as := [.inr (.inr (some 45)), .inl r2, .inl a, .inr (.inl b), .inl (M 53 (r24).toNat)]) (rest := []) rfl eg_tj209 (Nat.le_of_ble_eq_true rfl) rfl rfl rfl (Nat.le_of_ble_eq_true rfl) (Nat.le_refl _) (Nat.le_refl _) ?_ (fun Q hQ => ft_209 h27 hQ)
    refine eg_k_ci rfl ?_
    have hx := Option.some.inj hx
    subst hx
    exact eg_k_iret rfl True.intro (Nat.le_refl _) (Nat.le_refl _) hK
  have e3_ := e9
  refine vb_ite hx (fun e9 hx => ?_) (fun e9 hx => ?_)
  · refine eg_k_tsw (x := r2) (t := 36) rfl (by rw [e9]; rfl) ?_
    refine eg_k_aload rfl rfl ?_
    refine eg_k_lload rfl rfl ?_
    refine eg_k_pfl rfl rfl rfl ?_
    refine eg_k_aload rfl rfl ?_
    refine eg_k_aload rfl rfl ?_
    refine eg_k_ci rfl ?_
    refine eg_k_ci rfl ?_
    refine eg_k_lload rfl rfl ?_
    obtain ⟨r31, h30, hx⟩ := vb_bind hx
    refine eg_k_call (c1 := 0) (z1 := 0) (as := [.inr (.inr (some 45)), .inl 2, .inl 1, .inr (.inl b)]) (rest := [.inr (.inr (some 45))]) rfl eg_tj195 (Nat.le_of_ble_eq_true rfl) rfl rfl rfl (Nat.le_of_ble_eq_true rfl) (Nat.le_refl _) (Nat.le_refl _) ?_ (fun Q hQ => ft_195 h30 hQ)
    refine eg_k_pfl rfl rfl rfl ?_
    refine eg_k_aload rfl rfl ?_
    refine eg_k_cl rfl ?_
    refine eg_k_pfl rfl rfl rfl ?_
    refine eg_k_aload rfl rfl ?_
    refine eg_k_gfle (x := r31.1) rfl rfl rfl rfl ?_
    refine eg_k_cl rfl ?_
    refine vk_lcmp rfl rfl hx Iff.rfl (fun c33 hx => ?_) (fun c33 hx => ?_)
    · refine eg_k_aload rfl rfl ?_
      refine eg_k_gfa rfl rfl rfl eh_r45_32 ?_
      refine eg_k_aload rfl rfl ?_
      refine eg_k_gfle (x := r31.1) rfl rfl rfl rfl ?_
      obtain ⟨r35, h34, hx⟩ := vb_bind hx
      refine eg_k_call (c1 := 0) (z1 := 0) (as := [.inr (.inl r31.1)]) (rest := [.inr (.inr (some 64))]) rfl eg_tj187 (Nat.le_of_ble_eq_true rfl) rfl rfl trivial (Nat.le_of_ble_eq_true rfl) (Nat.le_refl _) (Nat.le_refl _) ?_ (fun Q hQ => ft_187 h34 hQ)
      refine eg_k_iload rfl rfl ?_
      obtain ⟨b37, hx⟩ := vb_if hx
      refine eg_k_iast (k := 6700) rfl rfl b37.1 b37.2 ?_
      refine eg_k_ci rfl ?_
      have hx := Option.some.inj hx
      subst hx
      exact eg_k_iret rfl True.intro (Nat.le_refl _) (Nat.le_refl _) hK
    · refine eg_k_aload rfl rfl ?_
      refine eg_k_aload rfl rfl ?_
      refine eg_k_gfie (x := r31.2 45 66) rfl rfl rfl rfl ?_
      obtain ⟨r39, h38, hx⟩ := vb_bind hx
      refine eg_k_call (c1 := 0) (z1 := 0) (as := [.inr (.inr (some 45)), .inl (r31.2 45 66)]) (rest := []) rfl eg_tj185 (Nat.le_of_ble_eq_true rfl) rfl rfl rfl (Nat.le_of_ble_eq_true rfl) (Nat.le_refl _) (Nat.le_refl _) ?_ (fun Q hQ => ft_185 h38 hQ)
      have hx := Option.some.inj hx
      subst hx
      exact eg_k_iret rfl True.intro (Nat.le_refl _) (Nat.le_refl _) hK
  have e4_ := e9
  refine vb_ite hx (fun e9 hx => ?_) (fun e9 hx => ?_)
  · refine eg_k_tsw (x := r2) (t := 68) rfl (by rw [e9]; rfl) ?_
    refine eg_k_aload rfl rfl ?_
    refine eg_k_ci rfl ?_
    refine eg_k_iload rfl rfl ?_
    refine eg_k_lload rfl rfl ?_
    refine eg_k_aload rfl rfl ?_
    refine eg_k_gfa rfl rfl rfl eh_r45_10 ?_
    refine eg_k_aload rfl rfl ?_
    refine eg_k_iload rfl rfl ?_
    obtain ⟨r42, h41, hx⟩ := vb_bind hx
    refine eg_k_call (c1 := 0) (z1 := 0) (as := [.inr (.inr (some 45)), .inl a]) (rest := [.inr (.inr (some 51)), .inr (.inl b), .inl a, .inl 5, .inr (.inr (some 45))]) rfl eg_tj176 (Nat.le_of_ble_eq_true rfl) rfl rfl rfl (Nat.le_of_ble_eq_true rfl) (Nat.le_refl _) (Nat.le_refl _) ?_ (fun Q hQ => ft_176 h41 hQ)
    obtain ⟨b44, hx⟩ := vb_if hx
    refine eg_k_iald (k := 20100) rfl rfl b44.1 b44.2 ?_
    obtain ⟨m47, h45, hx⟩ := vb_bind hx
    refine eg_k_call (c1 := 0) (z1 := 0) (as := [.inr (.inr (some 45)), .inl 5, .inl a, .inr (.inl b), .inl (M 51 (r42).toNat)]) (rest := []) rfl eg_tj209 (Nat.le_of_ble_eq_true rfl) rfl rfl rfl (Nat.le_of_ble_eq_true rfl) (Nat.le_refl _) (Nat.le_refl _) ?_ (fun Q hQ => ft_209 h45 hQ)
    refine eg_k_ci rfl ?_
    have hx := Option.some.inj hx
    subst hx
    exact eg_k_iret rfl True.intro (Nat.le_refl _) (Nat.le_refl _) hK
  have e5_ := e9
  refine vb_ite hx (fun e9 hx => ?_) (fun e9 hx => ?_)
  · refine eg_k_tsw (x := r2) (t := 13) rfl (by rw [e9]; rfl) ?_
    refine eg_k_aload rfl rfl ?_
    refine eg_k_iload rfl rfl ?_
    refine eg_k_iload rfl rfl ?_
    refine eg_k_lload rfl rfl ?_
    refine eg_k_aload rfl rfl ?_
    refine eg_k_iload rfl rfl ?_
    obtain ⟨r49, h48, hx⟩ := vb_bind hx
    refine eg_k_call (c1 := 0) (z1 := 0) (as := [.inr (.inr (some 45)), .inl a]) (rest := [.inr (.inl b), .inl a, .inl r2, .inr (.inr (some 45))]) rfl eg_tj208 (Nat.le_of_ble_eq_true rfl) rfl rfl rfl (Nat.le_of_ble_eq_true rfl) (Nat.le_refl _) (Nat.le_refl _) ?_ (fun Q hQ => ft_208 h48 hQ)
    obtain ⟨m53, h51, hx⟩ := vb_bind hx
    refine eg_k_call (c1 := 0) (z1 := 0) (as := [.inr (.inr (some 45)), .inl r2, .inl a, .inr (.inl b), .inl r49]) (rest := []) rfl eg_tj209 (Nat.le_of_ble_eq_true rfl) rfl rfl rfl (Nat.le_of_ble_eq_true rfl) (Nat.le_refl _) (Nat.le_refl _) ?_ (fun Q hQ => ft_209 h51 hQ)
    refine eg_k_ci rfl ?_
    have hx := Option.some.inj hx
    subst hx
    exact eg_k_iret rfl True.intro (Nat.le_refl _) (Nat.le_refl _) hK
  have e6_ := e9
  refine vb_ite hx (fun e9 hx => ?_) (fun e9 hx => ?_)
  · refine eg_k_tsw (x := r2) (t := 13) rfl (by rw [e9]; rfl) ?_
    refine eg_k_aload rfl rfl ?_
    refine eg_k_iload rfl rfl ?_
    refine eg_k_iload rfl rfl ?_
    refine eg_k_lload rfl rfl ?_
    refine eg_k_aload rfl rfl ?_
    refine eg_k_iload rfl rfl ?_
    obtain ⟨r55, h54, hx⟩ := vb_bind hx
    refine eg_k_call (c1 := 0) (z1 := 0) (as := [.inr (.inr (some 45)), .inl a]) (rest := [.inr (.inl b), .inl a, .inl r2, .inr (.inr (some 45))]) rfl eg_tj208 (Nat.le_of_ble_eq_true rfl) rfl rfl rfl (Nat.le_of_ble_eq_true rfl) (Nat.le_refl _) (Nat.le_refl _) ?_ (fun Q hQ => ft_208 h54 hQ)
    obtain ⟨m59, h57, hx⟩ := vb_bind hx
    refine eg_k_call (c1 := 0) (z1 := 0) (as := [.inr (.inr (some 45)), .inl r2, .inl a, .inr (.inl b), .inl r55]) (rest := []) rfl eg_tj209 (Nat.le_of_ble_eq_true rfl) rfl rfl rfl (Nat.le_of_ble_eq_true rfl) (Nat.le_refl _) (Nat.le_refl _) ?_ (fun Q hQ => ft_209 h57 hQ)
    refine eg_k_ci rfl ?_
    have hx := Option.some.inj hx
    subst hx
    exact eg_k_iret rfl True.intro (Nat.le_refl _) (Nat.le_refl _) hK
  have e7_ := e9
  refine vb_ite hx (fun e9 hx => ?_) (fun e9 hx => ?_)
  · refine eg_k_tsw (x := r2) (t := 13) rfl (by rw [e9]; rfl) ?_
    refine eg_k_aload rfl rfl ?_
    refine eg_k_iload rfl rfl ?_
    refine eg_k_iload rfl rfl ?_
    refine eg_k_lload rfl rfl ?_
    refine eg_k_aload rfl rfl ?_
    refine eg_k_iload rfl rfl ?_
    obtain ⟨r61, h60, hx⟩ := vb_bind hx
    refine eg_k_call (c1 := 0) (z1 := 0) (as := [.inr (.inr (some 45)), .inl a]) (rest := [.inr (.inl b), .inl a, .inl r2, .inr (.inr (some 45))]) rfl eg_tj208 (Nat.le_of_ble_eq_true rfl) rfl rfl rfl (Nat.le_of_ble_eq_true rfl) (Nat.le_refl _) (Nat.le_refl _) ?_ (fun Q hQ => ft_208 h60 hQ)
    obtain ⟨m65, h63, hx⟩ := vb_bind hx
    refine eg_k_call (c1 := 0) (z1 := 0) (as := [.inr (.inr (some 45)), .inl r2, .inl a, .inr (.inl b), .inl r61]) (rest := []) rfl eg_tj209 (Nat.le_of_ble_eq_true rfl) rfl rfl rfl (Nat.le_of_ble_eq_true rfl) (Nat.le_refl _) (Nat.le_refl _) ?_ (fun Q hQ => ft_209 h63 hQ)
    refine eg_k_ci rfl ?_
    have hx := Option.some.inj hx
    subst hx
    exact eg_k_iret rfl True.intro (Nat.le_refl _) (Nat.le_refl _) hK
  have e8_ := e9
  refine vb_ite hx (fun e9 hx => ?_) (fun e9 hx => ?_)
  · refine eg_k_tsw (x := r2) (t := 13) rfl (by rw [e9]; rfl) ?_
    refine eg_k_aload rfl rfl ?_
    refine eg_k_iload rfl rfl ?_
    refine eg_k_iload rfl rfl ?_
    refine eg_k_lload rfl rfl ?_
    refine eg_k_aload rfl rfl ?_
    refine eg_k_iload rfl rfl ?_
    obtain ⟨r67, h66, hx⟩ := vb_bind hx
    refine eg_k_call (c1 := 0) (z1 := 0) (as := [.inr (.inr (some 45)), .inl a]) (rest := [.inr (.inl b), .inl a, .inl r2, .inr (.inr (some 45))]) rfl eg_tj208 (Nat.le_of_ble_eq_true rfl) rfl rfl rfl (Nat.le_of_ble_eq_true rfl) (Nat.le_refl _) (Nat.le_refl _) ?_ (fun Q hQ => ft_208 h66 hQ)
    obtain ⟨m71, h69, hx⟩ := vb_bind hx
    refine eg_k_call (c1 := 0) (z1 := 0) (as := [.inr (.inr (some 45)), .inl r2, .inl a, .inr (.inl b), .inl r67]) (rest := []) rfl eg_tj209 (Nat.le_of_ble_eq_true rfl) rfl rfl rfl (Nat.le_of_ble_eq_true rfl) (Nat.le_refl _) (Nat.le_refl _) ?_ (fun Q hQ => ft_209 h69 hQ)
    refine eg_k_ci rfl ?_
    have hx := Option.some.inj hx
    subst hx
    exact eg_k_iret rfl True.intro (Nat.le_refl _) (Nat.le_refl _) hK
  have e9_ := e9
  refine eg_k_tsw (x := r2) (t := 81) rfl (by unfold eg_tb; rw [if_pos (by omega)]; rfl) ?_
  refine eg_k_aload rfl rfl ?_
  refine eg_k_ci rfl ?_
  refine eg_k_iload rfl rfl ?_
  refine eg_k_lload rfl rfl ?_
  refine eg_k_aload rfl rfl ?_
  refine eg_k_gfa rfl rfl rfl eh_r45_10 ?_
  refine eg_k_iload rfl rfl ?_
  obtain ⟨b72, hx⟩ := vb_if hx
  refine eg_k_iald (k := 20100) rfl rfl b72.1 b72.2 ?_
  obtain ⟨m75, h73, hx⟩ := vb_bind hx
  refine eg_k_call (c1 := 0) (z1 := 0) (as := [.inr (.inr (some 45)), .inl 10, .inl a, .inr (.inl b), .inl (M 51 (a).toNat)]) (rest := []) rfl eg_tj209 (Nat.le_of_ble_eq_true rfl) rfl rfl rfl (Nat.le_of_ble_eq_true rfl) (Nat.le_refl _) (Nat.le_refl _) ?_ (fun Q hQ => ft_209 h73 hQ)
  refine eg_k_ci rfl ?_
  have hx := Option.some.inj hx
  subst hx
  exact eg_k_iret rfl True.intro (Nat.le_refl _) (Nat.le_refl _) hK
theorem fw_191 {M : eM} {c : Nat} {a : Int} {b : Int} {x : Int × eM} (hx : fn_191 a b M = some x) (hc : c ∉ ([45, 62, 63, 64, 65, 66, 67, 68, 69, 70, 71, 73, 74, 75, 76, 78, 79, 80, 81, 82, 83, 84, 85] : List Nat)) (j : Nat) : ((x).2) c j = M c j := by
  obtain ⟨v, hK⟩ : ∃ v, ((x).2) c j = v := ⟨_, rfl⟩
  rw [hK]
  refine Eq.symm ?_
  obtain ⟨r2, h1, hx⟩ := vb_bind hx
  refine vb_ite hx (fun _ hx => ?_) (fun _ hx => ?_)
  · obtain ⟨r5, h4, hx⟩ := vb_bind hx
    obtain ⟨r8, h7, hx⟩ := vb_bind hx
    have hx := Option.some.inj hx
    subst hx
    exact ((fw_192 h7 (vsub hc (by decide)) j).trans rfl).symm.trans hK
  refine vb_ite hx (fun _ hx => ?_) (fun _ hx => ?_)
  · obtain ⟨r11, h10, hx⟩ := vb_bind hx
    obtain ⟨m15, h13, hx⟩ := vb_bind hx
    have hx := Option.some.inj hx
    subst hx
    exact ((fw_209 h13 (vsub hc (by decide)) j).trans rfl).symm.trans hK
  refine vb_ite hx (fun _ hx => ?_) (fun _ hx => ?_)
  · obtain ⟨r17, h16, hx⟩ := vb_bind hx
    obtain ⟨_, hx⟩ := vb_if hx
    obtain ⟨m22, h20, hx⟩ := vb_bind hx
    have hx := Option.some.inj hx
    subst hx
    exact ((fw_209 h20 (vsub hc (by decide)) j).trans rfl).symm.trans hK
  refine vb_ite hx (fun _ hx => ?_) (fun _ hx => ?_)
  · obtain ⟨r24, h23, hx⟩ := vb_bind hx
    obtain ⟨_, hx⟩ := vb_if hx
    obtain ⟨m29, h27, hx⟩ := vb_bind hx
    have hx := Option.some.inj hx
    subst hx
    exact ((fw_209 h27 (vsub hc (by decide)) j).trans rfl).symm.trans hK
  refine vb_ite hx (fun _ hx => ?_) (fun _ hx => ?_)
  · obtain ⟨r31, h30, hx⟩ := vb_bind hx
    refine vb_ite hx (fun _ hx => ?_) (fun _ hx => ?_)
    · obtain ⟨r35, h34, hx⟩ := vb_bind hx
      obtain ⟨_, hx⟩ := vb_if hx
      have hx := Option.some.inj hx
      subst hx
      exact ((congrFun (eg_u_ne (vne hc (a := 64) (by decide))) j).trans ((congrFun (eg_u_ne (vne hc (a := 45) (by decide))) j).trans ((congrFun (eg_u_ne (vne hc (a := 45) (by decide))) j).trans ((fw_195 h30 (vsub hc (by decide)) j).trans ((congrFun (eg_u_ne (vne hc (a := 45) (by decide))) j).trans rfl))))).symm.trans hK
    · obtain ⟨r39, h38, hx⟩ := vb_bind hx
      have hx := Option.some.inj hx
      subst hx
      exact ((fw_185 h38 (vsub hc (by decide)) j).trans ((congrFun (eg_u_ne (vne hc (a := 45) (by decide))) j).trans ((congrFun (eg_u_ne (vne hc (a := 45) (by decide))) j).trans ((fw_195 h30 (vsub hc (by decide)) j).trans ((congrFun (eg_u_ne (vne hc (a := 45) (by decide))) j).trans rfl))))).symm.trans hK
  refine vb_ite hx (fun _ hx => ?_) (fun _ hx => ?_)
  · obtain ⟨r42, h41, hx⟩ := vb_bind hx
    obtain ⟨_, hx⟩ := vb_if hx
    obtain ⟨m47, h45, hx⟩ := vb_bind hx
    have hx := Option.some.inj hx
    subst hx
    exact ((fw_209 h45 (vsub hc (by decide)) j).trans rfl).symm.trans hK
  refine vb_ite hx (fun _ hx => ?_) (fun _ hx => ?_)
  · obtain ⟨r49, h48, hx⟩ := vb_bind hx
    obtain ⟨m53, h51, hx⟩ := vb_bind hx
    have hx := Option.some.inj hx
    subst hx
    exact ((fw_209 h51 (vsub hc (by decide)) j).trans rfl).symm.trans hK
  refine vb_ite hx (fun _ hx => ?_) (fun _ hx => ?_)
  · obtain ⟨r55, h54, hx⟩ := vb_bind hx
    obtain ⟨m59, h57, hx⟩ := vb_bind hx
    have hx := Option.some.inj hx
    subst hx
    exact ((fw_209 h57 (vsub hc (by decide)) j).trans rfl).symm.trans hK
  refine vb_ite hx (fun _ hx => ?_) (fun _ hx => ?_)
  · obtain ⟨r61, h60, hx⟩ := vb_bind hx
    obtain ⟨m65, h63, hx⟩ := vb_bind hx
    have hx := Option.some.inj hx
    subst hx
    exact ((fw_209 h63 (vsub hc (by decide)) j).trans rfl).symm.trans hK
  refine vb_ite hx (fun _ hx => ?_) (fun _ hx => ?_)
  · obtain ⟨r67, h66, hx⟩ := vb_bind hx
    obtain ⟨m71, h69, hx⟩ := vb_bind hx
    have hx := Option.some.inj hx
    subst hx
    exact ((fw_209 h69 (vsub hc (by decide)) j).trans rfl).symm.trans hK
  obtain ⟨_, hx⟩ := vb_if hx
  obtain ⟨m75, h73, hx⟩ := vb_bind hx
  have hx := Option.some.inj hx
  subst hx
  exact ((fw_209 h73 (vsub hc (by decide)) j).trans rfl).symm.trans hK
/-- 184: WeakSchemeModel.evaluate(IJ)I -/
noncomputable def fn_184 (a : Int) (b : Int) (M : eM) : Option (Int × eM) :=
  if ¬ (M 45 67) = 0 then
    if 0 ≤ a ∧ a < 20100 then
    if (M 49 (a).toNat) = 0 then
        some (0, eg_u (eg_u M 45 67 (eg_wi ((M 45 67) - 1))) 45 70 (eb_land (M 50 (a).toNat) 4294967295))
      else if (M 49 (a).toNat) = 1 then
        if ¬ (M 49 (a).toNat) = 1 then
          some (0, eg_u (eg_u M 45 67 (eg_wi ((M 45 67) - 1))) 45 70 8589934592)
        else
          some (0, eg_u (eg_u M 45 67 (eg_wi ((M 45 67) - 1))) 45 70 4294967296)
      else if (M 49 (a).toNat) = 2 then
        if ¬ (M 49 (a).toNat) = 1 then
          some (0, eg_u (eg_u M 45 67 (eg_wi ((M 45 67) - 1))) 45 70 8589934592)
        else
          some (0, eg_u (eg_u M 45 67 (eg_wi ((M 45 67) - 1))) 45 70 4294967296)
      else if (M 49 (a).toNat) = 3 then
        (fn_186 b (M 50 (a).toNat) (eg_u M 45 67 (eg_wi ((M 45 67) - 1)))).bind fun r10 =>
        if r10 = (-1) then
          if 0 ≤ (M 50 (a).toNat) ∧ (M 50 (a).toNat) < 460 then
          if ¬ (M 72 (M 50 (a).toNat).toNat) = (-1) then
              some (0, eg_u (eg_u M 45 67 (eg_wi ((M 45 67) - 1))) 45 70 (M 72 (M 50 (a).toNat).toNat))
            else
              (fn_185 5 (eg_u (eg_u M 45 67 (eg_wi ((M 45 67) - 1))) 45 70 (M 72 (M 50 (a).toNat).toNat))).bind fun r17 =>
              some (r17.1, r17.2)
          else none
        else
          (fn_187 r10 (eg_u M 45 67 (eg_wi ((M 45 67) - 1)))).bind fun r20 =>
          if 0 ≤ r20 ∧ r20 < 6700 then
          (fn_188 (M 64 (r20).toNat) (M 50 (a).toNat) (eg_u M 45 67 (eg_wi ((M 45 67) - 1)))).bind fun r25 =>
            (fn_189 r10 (eg_wi (1 + r25)) (eg_u M 45 67 (eg_wi ((M 45 67) - 1)))).bind fun r28 =>
            if ¬ r28 = (-1) then
              some (0, eg_u (eg_u M 45 67 (eg_wi ((M 45 67) - 1))) 45 70 r28)
            else
              (fn_185 5 (eg_u (eg_u M 45 67 (eg_wi ((M 45 67) - 1))) 45 70 r28)).bind fun r32 =>
              some (r32.1, r32.2)
          else none
      else 
        (fn_191 a b (eg_u M 45 67 (eg_wi ((M 45 67) - 1)))).bind fun r35 =>
        some (r35.1, r35.2)
    else none
  else
    (fn_185 4 M).bind fun r38 =>
    some (r38.1, r38.2)
set_option maxRecDepth 100000 in
theorem ft_184 {cn mo : Nat} {sc : eg_Sc} {d : Nat} {M : eM} {Q : Option eg_V → eg_H → Prop} {a : Int} {b : Int} {x : Int × eM} (hx : fn_184 a b M = some x) (hK : Q (some (.inl ((x).1))) (em_L cn mo, eh_R, (x).2)) : eg_wp sc (d + 12) 184 [.inr (.inr (some 45)), .inl a, .inr (.inl b)] (em_L cn mo, eh_R, M) 0 0 Q := by
  refine eg_in (lv := [some (.inr (.inr (some 45))), some (.inl a), some (.inr (.inl b)), none, none, none]) eg_tj184 (Nat.le_of_ble_eq_true rfl) rfl ?_
  refine eg_k_aload rfl rfl ?_
  refine eg_k_gfi rfl rfl rfl ?_
  refine vk_if rfl hx Iff.rfl (fun c1 hx => ?_) (fun c1 hx => ?_)
  · refine eg_k_aload rfl rfl ?_
    refine eg_k_aload rfl rfl ?_
    refine eg_k_gfi rfl rfl rfl ?_
    refine eg_k_ci rfl ?_
    refine eg_k_isub rfl ?_
    refine eg_k_pfi rfl rfl rfl ?_
    refine eg_k_aload rfl rfl ?_
    refine eg_k_gfa rfl rfl rfl eh_r45_8 ?_
    refine eg_k_iload rfl rfl ?_
    obtain ⟨b2, hx⟩ := vb_if hx
    refine vk_bald (k := 20100) (y := M 49 (a).toNat) rfl rfl b2.1 b2.2 rfl ?_
    refine vb_ite hx (fun e9 hx => ?_) (fun e9 hx => ?_)
    · refine eg_k_tsw (x := M 49 (a).toNat) (t := 18) rfl (by rw [e9]; rfl) ?_
      refine eg_k_aload rfl rfl ?_
      refine eg_k_aload rfl rfl ?_
      refine eg_k_gfa rfl rfl rfl eh_r45_9 ?_
      refine eg_k_iload rfl rfl ?_
      refine vk_iald (k := 20100) (y := M 50 (a).toNat) rfl rfl b2.1 b2.2 rfl ?_
      refine eg_k_i2l rfl ?_
      refine eg_k_cl rfl ?_
      refine eg_k_land rfl ?_
      refine eg_k_pfl rfl rfl rfl ?_
      refine eg_k_ci rfl ?_
      have hx := Option.some.inj hx
      subst hx
      exact eg_k_iret rfl True.intro (Nat.le_refl _) (Nat.le_refl _) hK
    have e0_ := e9
    refine vb_ite hx (fun e9 hx => ?_) (fun e9 hx => ?_)
    · refine eg_k_tsw (x := M 49 (a).toNat) (t := 29) rfl (by rw [e9]; rfl) ?_
      refine eg_k_aload rfl rfl ?_
      refine eg_k_aload rfl rfl ?_
      refine eg_k_gfa rfl rfl rfl eh_r45_8 ?_
      refine eg_k_iload rfl rfl ?_
      refine vk_bald (k := 20100) (y := M 49 (a).toNat) rfl rfl b2.1 b2.2 rfl ?_
      refine eg_k_ci rfl ?_
      refine vk_icmp rfl hx Iff.rfl (fun c5 hx => ?_) (fun c5 hx => ?_)
      · refine eg_k_cl rfl ?_
        refine eg_k_pfl rfl rfl rfl ?_
        refine eg_k_ci rfl ?_
        have hx := Option.some.inj hx
        subst hx
        exact eg_k_iret rfl True.intro (Nat.le_refl _) (Nat.le_refl _) hK
      · refine eg_k_cl rfl ?_
        refine eg_k_goto rfl ?_
        refine eg_k_pfl rfl rfl rfl ?_
        refine eg_k_ci rfl ?_
        have hx := Option.some.inj hx
        subst hx
        exact eg_k_iret rfl True.intro (Nat.le_refl _) (Nat.le_refl _) hK
    have e1_ := e9
    refine vb_ite hx (fun e9 hx => ?_) (fun e9 hx => ?_)
    · refine eg_k_tsw (x := M 49 (a).toNat) (t := 29) rfl (by rw [e9]; rfl) ?_
      refine eg_k_aload rfl rfl ?_
      refine eg_k_aload rfl rfl ?_
      refine eg_k_gfa rfl rfl rfl eh_r45_8 ?_
      refine eg_k_iload rfl rfl ?_
      refine vk_bald (k := 20100) (y := M 49 (a).toNat) rfl rfl b2.1 b2.2 rfl ?_
      refine eg_k_ci rfl ?_
      refine vk_icmp rfl hx Iff.rfl (fun c7 hx => ?_) (fun c7 hx => ?_)
      · refine eg_k_cl rfl ?_
        refine eg_k_pfl rfl rfl rfl ?_
        refine eg_k_ci rfl ?_
        have hx := Option.some.inj hx
        subst hx
        exact eg_k_iret rfl True.intro (Nat.le_refl _) (Nat.le_refl _) hK
      · refine eg_k_cl rfl ?_
        refine eg_k_goto rfl ?_
        refine eg_k_pfl rfl rfl rfl ?_
        refine eg_k_ci rfl ?_
        have hx := Option.some.inj hx
        subst hx
        exact eg_k_iret rfl True.intro (Nat.le_refl _) (Nat.le_refl _) hK
    have e2_ := e9
    refine vb_ite hx (fun e9 hx => ?_) (fun e9 hx => ?_)
    · refine eg_k_tsw (x := M 49 (a).toNat) (t := 42) rfl (by rw [e9]; rfl) ?_
      refine eg_k_aload rfl rfl ?_
      refine eg_k_lload rfl rfl ?_
      refine eg_k_aload rfl rfl ?_
      refine eg_k_gfa rfl rfl rfl eh_r45_9 ?_
      refine eg_k_iload rfl rfl ?_
      refine vk_iald (k := 20100) (y := M 50 (a).toNat) rfl rfl b2.1 b2.2 rfl ?_
      obtain ⟨r10, h9, hx⟩ := vb_bind hx
      refine eg_k_call (c1 := 0) (z1 := 0) (as := [.inr (.inr (some 45)), .inr (.inl b), .inl (M 50 (a).toNat)]) (rest := []) rfl eg_tj186 (Nat.le_of_ble_eq_true rfl) rfl rfl rfl (Nat.le_of_ble_eq_true rfl) (Nat.le_refl _) (Nat.le_refl _) ?_ (fun Q hQ => ft_186 h9 hQ)
      refine eg_k_lstore (lv' := [some (.inr (.inr (some 45))), some (.inl a), some (.inr (.inl b)), none, some (.inr (.inl r10)), none]) rfl rfl ?_
      refine eg_k_aload rfl rfl ?_
      refine eg_k_lload rfl rfl ?_
      refine eg_k_cl rfl ?_
      refine vk_lcmp rfl rfl hx Iff.rfl (fun c12 hx => ?_) (fun c12 hx => ?_)
      · refine eg_k_aload rfl rfl ?_
        refine eg_k_gfa rfl rfl rfl eh_r45_44 ?_
        refine eg_k_aload rfl rfl ?_
        refine eg_k_gfa rfl rfl rfl eh_r45_9 ?_
        refine eg_k_iload rfl rfl ?_
        refine vk_iald (k := 20100) (y := M 50 (a).toNat) rfl rfl b2.1 b2.2 rfl ?_
        obtain ⟨b14, hx⟩ := vb_if hx
        refine vk_lald (k := 460) (y := M 72 (M 50 (a).toNat).toNat) rfl rfl b14.1 b14.2 rfl ?_
        refine eg_k_pfl rfl rfl rfl ?_
        refine eg_k_aload rfl rfl ?_
        refine eg_k_gfle (x := M 72 (M 50 (a).toNat).toNat) rfl rfl rfl rfl ?_
        refine eg_k_cl rfl ?_
        refine vk_lcmp rfl rfl hx Iff.rfl (fun c15 hx => ?_) (fun c15 hx => ?_)
        · refine eg_k_ci rfl ?_
          have hx := Option.some.inj hx
          subst hx
          exact eg_k_iret rfl True.intro (Nat.le_refl _) (Nat.le_refl _) hK
        · refine eg_k_aload rfl rfl ?_
          refine eg_k_ci rfl ?_
          obtain ⟨r17, h16, hx⟩ := vb_bind hx
          refine eg_k_call (c1 := 0) (z1 := 0) (as := [.inr (.inr (some 45)), .inl 5]) (rest := []) rfl eg_tj185 (Nat.le_of_ble_eq_true rfl) rfl rfl rfl (Nat.le_of_ble_eq_true rfl) (Nat.le_refl _) (Nat.le_refl _) ?_ (fun Q hQ => ft_185 h16 hQ)
          refine eg_k_goto rfl ?_
          have hx := Option.some.inj hx
          subst hx
          exact eg_k_iret rfl True.intro (Nat.le_refl _) (Nat.le_refl _) hK
      · refine eg_k_aload rfl rfl ?_
        refine eg_k_lload rfl rfl ?_
        refine eg_k_ci rfl ?_
        refine eg_k_aload rfl rfl ?_
        refine eg_k_aload rfl rfl ?_
        refine eg_k_gfa rfl rfl rfl eh_r45_32 ?_
        refine eg_k_lload rfl rfl ?_
        obtain ⟨r20, h19, hx⟩ := vb_bind hx
        refine eg_k_call (c1 := 0) (z1 := 0) (as := [.inr (.inl r10)]) (rest := [.inr (.inr (some 64)), .inr (.inr (some 45)), .inl 1, .inr (.inl r10), .inr (.inr (some 45)), .inr (.inr (some 45))]) rfl eg_tj187 (Nat.le_of_ble_eq_true rfl) rfl rfl trivial (Nat.le_of_ble_eq_true rfl) (Nat.le_refl _) (Nat.le_refl _) ?_ (fun Q hQ => ft_187 h19 hQ)
        obtain ⟨b22, hx⟩ := vb_if hx
        refine vk_iald (k := 6700) (y := M 64 (r20).toNat) rfl rfl b22.1 b22.2 rfl ?_
        refine eg_k_aload rfl rfl ?_
        refine eg_k_gfa rfl rfl rfl eh_r45_9 ?_
        refine eg_k_iload rfl rfl ?_
        refine vk_iald (k := 20100) (y := M 50 (a).toNat) rfl rfl b2.1 b2.2 rfl ?_
        obtain ⟨r25, h24, hx⟩ := vb_bind hx
        refine eg_k_call (c1 := 0) (z1 := 0) (as := [.inr (.inr (some 45)), .inl (M 64 (r20).toNat), .inl (M 50 (a).toNat)]) (rest := [.inl 1, .inr (.inl r10), .inr (.inr (some 45)), .inr (.inr (some 45))]) rfl eg_tj188 (Nat.le_of_ble_eq_true rfl) rfl rfl rfl (Nat.le_of_ble_eq_true rfl) (Nat.le_refl _) (Nat.le_refl _) ?_ (fun Q hQ => ft_188 h24 hQ)
        refine eg_k_iadd rfl ?_
        obtain ⟨r28, h27, hx⟩ := vb_bind hx
        refine eg_k_call (c1 := 0) (z1 := 0) (as := [.inr (.inr (some 45)), .inr (.inl r10), .inl (eg_wi (1 + r25))]) (rest := [.inr (.inr (some 45))]) rfl eg_tj189 (Nat.le_of_ble_eq_true rfl) rfl rfl rfl (Nat.le_of_ble_eq_true rfl) (Nat.le_refl _) (Nat.le_refl _) ?_ (fun Q hQ => ft_189 h27 hQ)
        refine eg_k_goto rfl ?_
        refine eg_k_pfl rfl rfl rfl ?_
        refine eg_k_aload rfl rfl ?_
        refine eg_k_gfle (x := r28) rfl rfl rfl rfl ?_
        refine eg_k_cl rfl ?_
        refine vk_lcmp rfl rfl hx Iff.rfl (fun c30 hx => ?_) (fun c30 hx => ?_)
        · refine eg_k_ci rfl ?_
          have hx := Option.some.inj hx
          subst hx
          exact eg_k_iret rfl True.intro (Nat.le_refl _) (Nat.le_refl _) hK
        · refine eg_k_aload rfl rfl ?_
          refine eg_k_ci rfl ?_
          obtain ⟨r32, h31, hx⟩ := vb_bind hx
          refine eg_k_call (c1 := 0) (z1 := 0) (as := [.inr (.inr (some 45)), .inl 5]) (rest := []) rfl eg_tj185 (Nat.le_of_ble_eq_true rfl) rfl rfl rfl (Nat.le_of_ble_eq_true rfl) (Nat.le_refl _) (Nat.le_refl _) ?_ (fun Q hQ => ft_185 h31 hQ)
          refine eg_k_goto rfl ?_
          have hx := Option.some.inj hx
          subst hx
          exact eg_k_iret rfl True.intro (Nat.le_refl _) (Nat.le_refl _) hK
    have e3_ := e9
    refine eg_k_tsw (x := M 49 (a).toNat) (t := 91) rfl (by unfold eg_tb; rw [if_pos (by omega)]; rfl) ?_
    refine eg_k_aload rfl rfl ?_
    refine eg_k_iload rfl rfl ?_
    refine eg_k_lload rfl rfl ?_
    obtain ⟨r35, h34, hx⟩ := vb_bind hx
    refine eg_k_call (c1 := 0) (z1 := 0) (as := [.inr (.inr (some 45)), .inl a, .inr (.inl b)]) (rest := []) rfl eg_tj191 (Nat.le_of_ble_eq_true rfl) rfl rfl rfl (Nat.le_of_ble_eq_true rfl) (Nat.le_refl _) (Nat.le_refl _) ?_ (fun Q hQ => ft_191 h34 hQ)
    have hx := Option.some.inj hx
    subst hx
    exact eg_k_iret rfl True.intro (Nat.le_refl _) (Nat.le_refl _) hK
  · refine eg_k_aload rfl rfl ?_
    refine eg_k_ci rfl ?_
    obtain ⟨r38, h37, hx⟩ := vb_bind hx
    refine eg_k_call (c1 := 0) (z1 := 0) (as := [.inr (.inr (some 45)), .inl 4]) (rest := []) rfl eg_tj185 (Nat.le_of_ble_eq_true rfl) rfl rfl rfl (Nat.le_of_ble_eq_true rfl) (Nat.le_refl _) (Nat.le_refl _) ?_ (fun Q hQ => ft_185 h37 hQ)
    have hx := Option.some.inj hx
    subst hx
    exact eg_k_iret rfl True.intro (Nat.le_refl _) (Nat.le_refl _) hK
theorem fw_184 {M : eM} {c : Nat} {a : Int} {b : Int} {x : Int × eM} (hx : fn_184 a b M = some x) (hc : c ∉ ([45, 62, 63, 64, 65, 66, 67, 68, 69, 70, 71, 73, 74, 75, 76, 78, 79, 80, 81, 82, 83, 84, 85] : List Nat)) (j : Nat) : ((x).2) c j = M c j := by
  obtain ⟨v, hK⟩ : ∃ v, ((x).2) c j = v := ⟨_, rfl⟩
  rw [hK]
  refine Eq.symm ?_
  refine vb_ite hx (fun _ hx => ?_) (fun _ hx => ?_)
  · obtain ⟨_, hx⟩ := vb_if hx
    refine vb_ite hx (fun _ hx => ?_) (fun _ hx => ?_)
    · have hx := Option.some.inj hx
      subst hx
      exact ((congrFun (eg_u_ne (vne hc (a := 45) (by decide))) j).trans ((congrFun (eg_u_ne (vne hc (a := 45) (by decide))) j).trans rfl)).symm.trans hK
    refine vb_ite hx (fun _ hx => ?_) (fun _ hx => ?_)
    · refine vb_ite hx (fun _ hx => ?_) (fun _ hx => ?_)
      · have hx := Option.some.inj hx
        subst hx
        exact ((congrFun (eg_u_ne (vne hc (a := 45) (by decide))) j).trans ((congrFun (eg_u_ne (vne hc (a := 45) (by decide))) j).trans rfl)).symm.trans hK
      · have hx := Option.some.inj hx
        subst hx
        exact ((congrFun (eg_u_ne (vne hc (a := 45) (by decide))) j).trans ((congrFun (eg_u_ne (vne hc (a := 45) (by decide))) j).trans rfl)).symm.trans hK
    refine vb_ite hx (fun _ hx => ?_) (fun _ hx => ?_)
    · refine vb_ite hx (fun _ hx => ?_) (fun _ hx => ?_)
      · have hx := Option.some.inj hx
        subst hx
        exact ((congrFun (eg_u_ne (vne hc (a := 45) (by decide))) j).trans ((congrFun (eg_u_ne (vne hc (a := 45) (by decide))) j).trans rfl)).symm.trans hK
      · have hx := Option.some.inj hx
        subst hx
        exact ((congrFun (eg_u_ne (vne hc (a := 45) (by decide))) j).trans ((congrFun (eg_u_ne (vne hc (a := 45) (by decide))) j).trans rfl)).symm.trans hK
    refine vb_ite hx (fun _ hx => ?_) (fun _ hx => ?_)
    · obtain ⟨r10, h9, hx⟩ := vb_bind hx
      refine vb_ite hx (fun _ hx => ?_) (fun _ hx => ?_)
      · obtain ⟨_, hx⟩ := vb_if hx
        refine vb_ite hx (fun _ hx => ?_) (fun _ hx => ?_)
        · have hx := Option.some.inj hx
          subst hx
          exact ((congrFun (eg_u_ne (vne hc (a := 45) (by decide))) j).trans ((congrFun (eg_u_ne (vne hc (a := 45) (by decide))) j).trans rfl)).symm.trans hK
        · obtain ⟨r17, h16, hx⟩ := vb_bind hx
          have hx := Option.some.inj hx
          subst hx
          exact ((fw_185 h16 (vsub hc (by decide)) j).trans ((congrFun (eg_u_ne (vne hc (a := 45) (by decide))) j).trans ((congrFun (eg_u_ne (vne hc (a := 45) (by decide))) j).trans rfl))).symm.trans hK
      · obtain ⟨r20, h19, hx⟩ := vb_bind hx
        obtain ⟨_, hx⟩ := vb_if hx
        obtain ⟨r25, h24, hx⟩ := vb_bind hx
        obtain ⟨r28, h27, hx⟩ := vb_bind hx
        refine vb_ite hx (fun _ hx => ?_) (fun _ hx => ?_)
        · have hx := Option.some.inj hx
          subst hx
          exact ((congrFun (eg_u_ne (vne hc (a := 45) (by decide))) j).trans ((congrFun (eg_u_ne (vne hc (a := 45) (by decide))) j).trans rfl)).symm.trans hK
        · obtain ⟨r32, h31, hx⟩ := vb_bind hx
          have hx := Option.some.inj hx
          subst hx
          exact ((fw_185 h31 (vsub hc (by decide)) j).trans ((congrFun (eg_u_ne (vne hc (a := 45) (by decide))) j).trans ((congrFun (eg_u_ne (vne hc (a := 45) (by decide))) j).trans rfl))).symm.trans hK
    obtain ⟨r35, h34, hx⟩ := vb_bind hx
    have hx := Option.some.inj hx
    subst hx
    exact ((fw_191 h34 (vsub hc (by decide)) j).trans ((congrFun (eg_u_ne (vne hc (a := 45) (by decide))) j).trans rfl)).symm.trans hK
  · obtain ⟨r38, h37, hx⟩ := vb_bind hx
    have hx := Option.some.inj hx
    subst hx
    exact ((fw_185 h37 (vsub hc (by decide)) j).trans rfl).symm.trans hK
/-- 214: WeakSchemeModel.pop()V -/
noncomputable def fn_214 (M : eM) : Option (eM) :=
  if 0 ≤ (eg_wi ((M 45 53) - 1)) ∧ (eg_wi ((M 45 53) - 1)) < 4400 then
  some (eg_u (eg_u M 45 53 (eg_wi ((M 45 53) - 1))) 45 51 (M 81 (eg_wi ((M 45 53) - 1)).toNat))
  else none
set_option maxRecDepth 100000 in
theorem ft_214 {cn mo : Nat} {sc : eg_Sc} {d : Nat} {M : eM} {Q : Option eg_V → eg_H → Prop} {x : eM} (hx : fn_214 M = some x) (hK : Q (none) (em_L cn mo, eh_R, x)) : eg_wp sc (d + 1) 214 [.inr (.inr (some 45))] (em_L cn mo, eh_R, M) 0 0 Q := by
  refine eg_in (lv := [some (.inr (.inr (some 45)))]) eg_tj214 (Nat.le_of_ble_eq_true rfl) rfl ?_
  refine eg_k_aload rfl rfl ?_
  refine eg_k_aload rfl rfl ?_
  refine eg_k_gfi rfl rfl rfl ?_
  refine eg_k_ci rfl ?_
  refine eg_k_isub rfl ?_
  refine eg_k_pfi rfl rfl rfl ?_
  refine eg_k_aload rfl rfl ?_
  refine eg_k_aload rfl rfl ?_
  refine eg_k_gfa rfl rfl rfl eh_r45_57 ?_
  refine eg_k_aload rfl rfl ?_
  refine eg_k_gfie (x := eg_wi ((M 45 53) - 1)) rfl rfl rfl rfl ?_
  obtain ⟨b1, hx⟩ := vb_if hx
  refine vk_iald (k := 4400) (y := M 81 (eg_wi ((M 45 53) - 1)).toNat) rfl rfl b1.1 b1.2 rfl ?_
  refine eg_k_pfi rfl rfl rfl ?_
  have hx := Option.some.inj hx
  subst hx
  exact eg_k_ret rfl rfl (Nat.le_refl _) (Nat.le_refl _) hK
theorem fw_214 {M : eM} {c : Nat} {x : eM} (hx : fn_214 M = some x) (hc : c ∉ ([45] : List Nat)) (j : Nat) : x c j = M c j := by
  obtain ⟨v, hK⟩ : ∃ v, x c j = v := ⟨_, rfl⟩
  rw [hK]
  refine Eq.symm ?_
  obtain ⟨_, hx⟩ := vb_if hx
  have hx := Option.some.inj hx
  subst hx
  exact ((congrFun (eg_u_ne (vne hc (a := 45) (by decide))) j).trans ((congrFun (eg_u_ne (vne hc (a := 45) (by decide))) j).trans rfl)).symm.trans hK
/-- 213: WeakSchemeModel.through(J)I -/
noncomputable def fn_213 (a : Int) (M : eM) : Option (Int × eM) :=
  (fn_214 M).bind fun m3 =>
  some (0, eg_u m3 45 70 a)
set_option maxRecDepth 100000 in
theorem ft_213 {cn mo : Nat} {sc : eg_Sc} {d : Nat} {M : eM} {Q : Option eg_V → eg_H → Prop} {a : Int} {x : Int × eM} (hx : fn_213 a M = some x) (hK : Q (some (.inl ((x).1))) (em_L cn mo, eh_R, (x).2)) : eg_wp sc (d + 2) 213 [.inr (.inr (some 45)), .inr (.inl a)] (em_L cn mo, eh_R, M) 0 0 Q := by
  refine eg_in (lv := [some (.inr (.inr (some 45))), some (.inr (.inl a)), none]) eg_tj213 (Nat.le_of_ble_eq_true rfl) rfl ?_
  refine eg_k_aload rfl rfl ?_
  obtain ⟨m3, h1, hx⟩ := vb_bind hx
  refine eg_k_call (c1 := 0) (z1 := 0) (as := [.inr (.inr (some 45))]) (rest := []) rfl eg_tj214 (Nat.le_of_ble_eq_true rfl) rfl rfl rfl (Nat.le_of_ble_eq_true rfl) (Nat.le_refl _) (Nat.le_refl _) ?_ (fun Q hQ => ft_214 h1 hQ)
  refine eg_k_aload rfl rfl ?_
  refine eg_k_lload rfl rfl ?_
  refine eg_k_pfl rfl rfl rfl ?_
  refine eg_k_ci rfl ?_
  have hx := Option.some.inj hx
  subst hx
  exact eg_k_iret rfl True.intro (Nat.le_refl _) (Nat.le_refl _) hK
theorem fw_213 {M : eM} {c : Nat} {a : Int} {x : Int × eM} (hx : fn_213 a M = some x) (hc : c ∉ ([45] : List Nat)) (j : Nat) : ((x).2) c j = M c j := by
  obtain ⟨v, hK⟩ : ∃ v, ((x).2) c j = v := ⟨_, rfl⟩
  rw [hK]
  refine Eq.symm ?_
  obtain ⟨m3, h1, hx⟩ := vb_bind hx
  have hx := Option.some.inj hx
  subst hx
  exact ((congrFun (eg_u_ne (vne hc (a := 45) (by decide))) j).trans ((fw_214 h1 (vsub hc (by decide)) j).trans rfl)).symm.trans hK
noncomputable def fn_212_24 (x1 : Int) (y0 : Int) (M : eM) : Option (Int × eM) :=
  if 0 ≤ y0 then
    if 0 ≤ x1 ∧ x1 < 4400 then
    some (2, eg_u (eg_u M 80 (x1).toNat y0) 78 (x1).toNat (eg_wb 14))
    else none
  else
    (fn_213 12884901888 M).bind fun r9 =>
    some (r9.1, r9.2)
/-- 212: WeakSchemeModel.stepIf()I -/
noncomputable def fn_212 (M : eM) : Option (Int × eM) :=
  if 0 ≤ (eg_wi ((M 45 53) - 1)) ∧ (eg_wi ((M 45 53) - 1)) < 4400 then
  if 0 ≤ (M 80 (eg_wi ((M 45 53) - 1)).toNat) ∧ (M 80 (eg_wi ((M 45 53) - 1)).toNat) < 20100 then
    if (M 45 70) = 8589934592 then
        if 0 ≤ (M 53 (M 80 (eg_wi ((M 45 53) - 1)).toNat).toNat) ∧ (M 53 (M 80 (eg_wi ((M 45 53) - 1)).toNat).toNat) < 20100 then
        fn_212_24 (eg_wi ((M 45 53) - 1)) (M 53 (M 53 (M 80 (eg_wi ((M 45 53) - 1)).toNat).toNat).toNat) M
        else none
      else
        fn_212_24 (eg_wi ((M 45 53) - 1)) (M 53 (M 80 (eg_wi ((M 45 53) - 1)).toNat).toNat) M
    else none
  else none
set_option maxRecDepth 100000 in
theorem ft_212_24 {cn mo : Nat} {sc : eg_Sc} {d : Nat} {M : eM} {Q : Option eg_V → eg_H → Prop} {x1 : Int} {y0 : Int} {x : Int × eM} (hx : fn_212_24 x1 y0 M = some x) (hK : (fun (x : Int × eM) => Q (some (.inl ((x).1))) (em_L cn mo, eh_R, (x).2)) x) : ∀ (w2 w3 : Option eg_V), eg_X sc (eg_wp sc (d + 2)) eg_p212 (some .int) 0 0 Q 24 [some (.inr (.inr (some 45))), some (.inl x1), w2, w3] [.inl y0] (em_L cn mo, eh_R, M) 0 0 := by
  intro w2 w3
  refine eg_k_istore (lv' := [some (.inr (.inr (some 45))), some (.inl x1), ev_nw w2, some (.inl y0)]) rfl (by rcases w2 with _ | (_ | (_ | _)) <;> rfl) ?_
  refine eg_k_iload rfl rfl ?_
  refine vk_if rfl hx Iff.rfl (fun c5 hx => ?_) (fun c5 hx => ?_)
  · refine eg_k_aload rfl rfl ?_
    refine eg_k_gfa rfl rfl rfl eh_r45_56 ?_
    refine eg_k_iload rfl rfl ?_
    refine eg_k_iload rfl rfl ?_
    obtain ⟨b6, hx⟩ := vb_if hx
    refine eg_k_iast (k := 4400) rfl rfl b6.1 b6.2 ?_
    refine eg_k_aload rfl rfl ?_
    refine eg_k_gfa rfl rfl rfl eh_r45_54 ?_
    refine eg_k_iload rfl rfl ?_
    refine eg_k_ci rfl ?_
    refine eg_k_bast (k := 4400) rfl rfl b6.1 b6.2 ?_
    refine eg_k_ci rfl ?_
    have hx := Option.some.inj hx
    subst hx
    exact eg_k_iret rfl True.intro (Nat.le_refl _) (Nat.le_refl _) hK
  · refine eg_k_aload rfl rfl ?_
    refine eg_k_cl rfl ?_
    obtain ⟨r9, h8, hx⟩ := vb_bind hx
    refine eg_k_call (c1 := 0) (z1 := 0) (as := [.inr (.inr (some 45)), .inr (.inl 12884901888)]) (rest := []) rfl eg_tj213 (Nat.le_of_ble_eq_true rfl) rfl rfl rfl (Nat.le_of_ble_eq_true rfl) (Nat.le_refl _) (Nat.le_refl _) ?_ (fun Q hQ => ft_213 h8 hQ)
    have hx := Option.some.inj hx
    subst hx
    exact eg_k_iret rfl True.intro (Nat.le_refl _) (Nat.le_refl _) hK
set_option maxRecDepth 100000 in
theorem ft_212 {cn mo : Nat} {sc : eg_Sc} {d : Nat} {M : eM} {Q : Option eg_V → eg_H → Prop} {x : Int × eM} (hx : fn_212 M = some x) (hK : Q (some (.inl ((x).1))) (em_L cn mo, eh_R, (x).2)) : eg_wp sc (d + 3) 212 [.inr (.inr (some 45))] (em_L cn mo, eh_R, M) 0 0 Q := by
  refine eg_in (lv := [some (.inr (.inr (some 45))), none, none, none]) eg_tj212 (Nat.le_of_ble_eq_true rfl) rfl ?_
  refine eg_k_aload rfl rfl ?_
  refine eg_k_gfi rfl rfl rfl ?_
  refine eg_k_ci rfl ?_
  refine eg_k_isub rfl ?_
  refine eg_k_istore (lv' := [some (.inr (.inr (some 45))), some (.inl (eg_wi ((M 45 53) - 1))), none, none]) rfl rfl ?_
  refine eg_k_aload rfl rfl ?_
  refine eg_k_gfa rfl rfl rfl eh_r45_12 ?_
  refine eg_k_aload rfl rfl ?_
  refine eg_k_gfa rfl rfl rfl eh_r45_56 ?_
  refine eg_k_iload rfl rfl ?_
  obtain ⟨b1, hx⟩ := vb_if hx
  refine eg_k_iald (k := 4400) rfl rfl b1.1 b1.2 ?_
  obtain ⟨b2, hx⟩ := vb_if hx
  refine eg_k_iald (k := 20100) rfl rfl b2.1 b2.2 ?_
  refine eg_k_istore (lv' := [some (.inr (.inr (some 45))), some (.inl (eg_wi ((M 45 53) - 1))), some (.inl (M 53 (M 80 (eg_wi ((M 45 53) - 1)).toNat).toNat)), none]) rfl rfl ?_
  refine eg_k_aload rfl rfl ?_
  refine eg_k_gfl rfl rfl rfl ?_
  refine eg_k_cl rfl ?_
  refine vk_lcmp rfl rfl hx Iff.rfl (fun c3 hx => ?_) (fun c3 hx => ?_)
  · refine eg_k_aload rfl rfl ?_
    refine eg_k_gfa rfl rfl rfl eh_r45_12 ?_
    refine eg_k_iload rfl rfl ?_
    obtain ⟨b4, hx⟩ := vb_if hx
    refine eg_k_iald (k := 20100) rfl rfl b4.1 b4.2 ?_
    have hz := ft_212_24 (d := d) (sc := sc) hx hK
    exact hz (some (.inl (M 53 (M 80 (eg_wi ((M 45 53) - 1)).toNat).toNat))) none
  · refine eg_k_iload rfl rfl ?_
    refine eg_k_goto rfl ?_
    have hz := ft_212_24 (d := d) (sc := sc) hx hK
    exact hz (some (.inl (M 53 (M 80 (eg_wi ((M 45 53) - 1)).toNat).toNat))) none
theorem fw_212_24 {M : eM} {c j : Nat} {v : Int} {x1 : Int} {y0 : Int} {x : Int × eM} (hc : c ∉ ([45, 78, 80] : List Nat)) (hx : fn_212_24 x1 y0 M = some x) (hK : (fun (x : Int × eM) => ((x).2) c j = v) x) : M c j = v := by
  refine vb_ite hx (fun _ hx => ?_) (fun _ hx => ?_)
  · obtain ⟨_, hx⟩ := vb_if hx
    have hx := Option.some.inj hx
    subst hx
    exact ((congrFun (eg_u_ne (vne hc (a := 78) (by decide))) j).trans ((congrFun (eg_u_ne (vne hc (a := 80) (by decide))) j).trans rfl)).symm.trans hK
  · obtain ⟨r9, h8, hx⟩ := vb_bind hx
    have hx := Option.some.inj hx
    subst hx
    exact ((fw_213 h8 (vsub hc (by decide)) j).trans rfl).symm.trans hK
theorem fw_212 {M : eM} {c : Nat} {x : Int × eM} (hx : fn_212 M = some x) (hc : c ∉ ([45, 78, 80] : List Nat)) (j : Nat) : ((x).2) c j = M c j := by
  obtain ⟨v, hK⟩ : ∃ v, ((x).2) c j = v := ⟨_, rfl⟩
  rw [hK]
  refine Eq.symm ?_
  obtain ⟨_, hx⟩ := vb_if hx
  obtain ⟨_, hx⟩ := vb_if hx
  refine vb_ite hx (fun _ hx => ?_) (fun _ hx => ?_)
  · obtain ⟨_, hx⟩ := vb_if hx
    have hz := fw_212_24 hc hx hK
    exact (Eq.refl _).symm.trans hz
  · have hz := fw_212_24 hc hx hK
    exact (Eq.refl _).symm.trans hz
noncomputable def fn_215_56 (x1 : Int) (x2 : Int) (x4 : Int) (x7 : Int) (M : eM) : Option (Int × eM) :=
  if ¬ x7 = (-1) then
    (fn_187 x7 M).bind fun r14 =>
    if 0 ≤ r14 ∧ r14 < 6700 then
    (fn_188 (M 64 (r14).toNat) x4 M).bind fun r18 =>
      (fn_205 x7 (eg_wi (1 + r18)) x2 M).bind fun m22 =>
      (fn_213 12884901888 m22).bind fun r24 =>
      some (r24.1, r24.2)
    else none
  else
    if 0 ≤ x4 ∧ x4 < 460 then
    (fn_213 12884901888 (eg_u M 72 (x4).toNat x2)).bind fun r28 =>
      some (r28.1, r28.2)
    else none
/-- 215: WeakSchemeModel.stepSet(I)I -/
noncomputable def fn_215 (a : Int) (M : eM) : Option (Int × eM) :=
  (fn_176 a M).bind fun r2 =>
  if 0 ≤ r2 ∧ r2 < 20100 then
  if 0 ≤ (eg_wi ((M 45 53) - 1)) ∧ (eg_wi ((M 45 53) - 1)) < 4400 then
    if ¬ (M 78 (eg_wi ((M 45 53) - 1)).toNat) = 3 then
        (fn_186 (M 82 (eg_wi ((M 45 53) - 1)).toNat) (M 50 (r2).toNat) M).bind fun r9 =>
        if ¬ r9 = (-1) then
          fn_215_56 a (M 45 70) (M 50 (r2).toNat) r9 M
        else
          if 0 ≤ (M 50 (r2).toNat) ∧ (M 50 (r2).toNat) < 460 then
          if ¬ (M 72 (M 50 (r2).toNat).toNat) = (-1) then
              fn_215_56 a (M 45 70) (M 50 (r2).toNat) r9 M
            else
              (fn_185 5 M).bind fun r33 =>
              some (r33.1, r33.2)
          else none
      else
        if 0 ≤ (M 50 (r2).toNat) ∧ (M 50 (r2).toNat) < 460 then
        (fn_213 12884901888 (eg_u M 72 (M 50 (r2).toNat).toNat (M 45 70))).bind fun r37 =>
          some (r37.1, r37.2)
        else none
    else none
  else none
set_option maxRecDepth 100000 in
theorem ft_215_56 {cn mo : Nat} {sc : eg_Sc} {d : Nat} {M : eM} {Q : Option eg_V → eg_H → Prop} {x1 : Int} {x2 : Int} {x4 : Int} {x7 : Int} {x : Int × eM} (hx : fn_215_56 x1 x2 x4 x7 M = some x) (hK : (fun (x : Int × eM) => Q (some (.inl ((x).1))) (em_L cn mo, eh_R, (x).2)) x) : ∀ (w5 w6 : Option eg_V), eg_X sc (eg_wp sc (d + 4)) eg_p215 (some .int) 0 0 Q 56 [some (.inr (.inr (some 45))), some (.inl x1), some (.inr (.inl x2)), none, some (.inl x4), w5, w6, some (.inr (.inl x7)), none] [] (em_L cn mo, eh_R, M) 0 0 := by
  intro w5 w6
  refine eg_k_lload rfl rfl ?_
  refine eg_k_cl rfl ?_
  refine vk_lcmp rfl rfl hx Iff.rfl (fun c12 hx => ?_) (fun c12 hx => ?_)
  · refine eg_k_aload rfl rfl ?_
    refine eg_k_lload rfl rfl ?_
    refine eg_k_ci rfl ?_
    refine eg_k_aload rfl rfl ?_
    refine eg_k_aload rfl rfl ?_
    refine eg_k_gfa rfl rfl rfl eh_r45_32 ?_
    refine eg_k_lload rfl rfl ?_
    obtain ⟨r14, h13, hx⟩ := vb_bind hx
    refine eg_k_call (c1 := 0) (z1 := 0) (as := [.inr (.inl x7)]) (rest := [.inr (.inr (some 64)), .inr (.inr (some 45)), .inl 1, .inr (.inl x7), .inr (.inr (some 45))]) rfl eg_tj187 (Nat.le_of_ble_eq_true rfl) rfl rfl trivial (Nat.le_of_ble_eq_true rfl) (Nat.le_refl _) (Nat.le_refl _) ?_ (fun Q hQ => ft_187 h13 hQ)
    obtain ⟨b16, hx⟩ := vb_if hx
    refine eg_k_iald (k := 6700) rfl rfl b16.1 b16.2 ?_
    refine eg_k_iload rfl rfl ?_
    obtain ⟨r18, h17, hx⟩ := vb_bind hx
    refine eg_k_call (c1 := 0) (z1 := 0) (as := [.inr (.inr (some 45)), .inl (M 64 (r14).toNat), .inl x4]) (rest := [.inl 1, .inr (.inl x7), .inr (.inr (some 45))]) rfl eg_tj188 (Nat.le_of_ble_eq_true rfl) rfl rfl rfl (Nat.le_of_ble_eq_true rfl) (Nat.le_refl _) (Nat.le_refl _) ?_ (fun Q hQ => ft_188 h17 hQ)
    refine eg_k_iadd rfl ?_
    refine eg_k_lload rfl rfl ?_
    obtain ⟨m22, h20, hx⟩ := vb_bind hx
    refine eg_k_call (c1 := 0) (z1 := 0) (as := [.inr (.inr (some 45)), .inr (.inl x7), .inl (eg_wi (1 + r18)), .inr (.inl x2)]) (rest := []) rfl eg_tj205 (Nat.le_of_ble_eq_true rfl) rfl rfl rfl (Nat.le_of_ble_eq_true rfl) (Nat.le_refl _) (Nat.le_refl _) ?_ (fun Q hQ => ft_205 h20 hQ)
    refine eg_k_aload rfl rfl ?_
    refine eg_k_cl rfl ?_
    obtain ⟨r24, h23, hx⟩ := vb_bind hx
    refine eg_k_call (c1 := 0) (z1 := 0) (as := [.inr (.inr (some 45)), .inr (.inl 12884901888)]) (rest := []) rfl eg_tj213 (Nat.le_of_ble_eq_true rfl) rfl rfl rfl (Nat.le_of_ble_eq_true rfl) (Nat.le_refl _) (Nat.le_refl _) ?_ (fun Q hQ => ft_213 h23 hQ)
    have hx := Option.some.inj hx
    subst hx
    exact eg_k_iret rfl True.intro (Nat.le_refl _) (Nat.le_refl _) hK
  · refine eg_k_aload rfl rfl ?_
    refine eg_k_gfa rfl rfl rfl eh_r45_44 ?_
    refine eg_k_iload rfl rfl ?_
    refine eg_k_lload rfl rfl ?_
    obtain ⟨b26, hx⟩ := vb_if hx
    refine eg_k_last (k := 460) rfl rfl b26.1 b26.2 ?_
    refine eg_k_goto rfl ?_
    refine eg_k_aload rfl rfl ?_
    refine eg_k_cl rfl ?_
    obtain ⟨r28, h27, hx⟩ := vb_bind hx
    refine eg_k_call (c1 := 0) (z1 := 0) (as := [.inr (.inr (some 45)), .inr (.inl 12884901888)]) (rest := []) rfl eg_tj213 (Nat.le_of_ble_eq_true rfl) rfl rfl rfl (Nat.le_of_ble_eq_true rfl) (Nat.le_refl _) (Nat.le_refl _) ?_ (fun Q hQ => ft_213 h27 hQ)
    have hx := Option.some.inj hx
    subst hx
    exact eg_k_iret rfl True.intro (Nat.le_refl _) (Nat.le_refl _) hK
set_option maxRecDepth 100000 in
theorem ft_215 {cn mo : Nat} {sc : eg_Sc} {d : Nat} {M : eM} {Q : Option eg_V → eg_H → Prop} {a : Int} {x : Int × eM} (hx : fn_215 a M = some x) (hK : Q (some (.inl ((x).1))) (em_L cn mo, eh_R, (x).2)) : eg_wp sc (d + 5) 215 [.inr (.inr (some 45)), .inl a] (em_L cn mo, eh_R, M) 0 0 Q := by
  refine eg_in (lv := [some (.inr (.inr (some 45))), some (.inl a), none, none, none, none, none, none, none]) eg_tj215 (Nat.le_of_ble_eq_true rfl) rfl ?_
  refine eg_k_aload rfl rfl ?_
  refine eg_k_gfl rfl rfl rfl ?_
  refine eg_k_lstore (lv' := [some (.inr (.inr (some 45))), some (.inl a), some (.inr (.inl (M 45 70))), none, none, none, none, none, none]) rfl rfl ?_
  refine eg_k_aload rfl rfl ?_
  refine eg_k_gfa rfl rfl rfl eh_r45_9 ?_
  refine eg_k_aload rfl rfl ?_
  refine eg_k_iload rfl rfl ?_
  obtain ⟨r2, h1, hx⟩ := vb_bind hx
  refine eg_k_call (c1 := 0) (z1 := 0) (as := [.inr (.inr (some 45)), .inl a]) (rest := [.inr (.inr (some 50))]) rfl eg_tj176 (Nat.le_of_ble_eq_true rfl) rfl rfl rfl (Nat.le_of_ble_eq_true rfl) (Nat.le_refl _) (Nat.le_refl _) ?_ (fun Q hQ => ft_176 h1 hQ)
  obtain ⟨b4, hx⟩ := vb_if hx
  refine eg_k_iald (k := 20100) rfl rfl b4.1 b4.2 ?_
  refine eg_k_istore (lv' := [some (.inr (.inr (some 45))), some (.inl a), some (.inr (.inl (M 45 70))), none, some (.inl (M 50 (r2).toNat)), none, none, none, none]) rfl rfl ?_
  refine eg_k_aload rfl rfl ?_
  refine eg_k_gfa rfl rfl rfl eh_r45_58 ?_
  refine eg_k_aload rfl rfl ?_
  refine eg_k_gfi rfl rfl rfl ?_
  refine eg_k_ci rfl ?_
  refine eg_k_isub rfl ?_
  obtain ⟨b5, hx⟩ := vb_if hx
  refine eg_k_lald (k := 4400) rfl rfl b5.1 b5.2 ?_
  refine eg_k_lstore (lv' := [some (.inr (.inr (some 45))), some (.inl a), some (.inr (.inl (M 45 70))), none, some (.inl (M 50 (r2).toNat)), some (.inr (.inl (M 82 (eg_wi ((M 45 53) - 1)).toNat))), none, none, none]) rfl rfl ?_
  refine eg_k_aload rfl rfl ?_
  refine eg_k_gfa rfl rfl rfl eh_r45_54 ?_
  refine eg_k_aload rfl rfl ?_
  refine eg_k_gfi rfl rfl rfl ?_
  refine eg_k_ci rfl ?_
  refine eg_k_isub rfl ?_
  refine eg_k_bald (k := 4400) rfl rfl b5.1 b5.2 ?_
  refine eg_k_ci rfl ?_
  refine vk_icmp rfl hx Iff.rfl (fun c7 hx => ?_) (fun c7 hx => ?_)
  · refine eg_k_aload rfl rfl ?_
    refine eg_k_lload rfl rfl ?_
    refine eg_k_iload rfl rfl ?_
    obtain ⟨r9, h8, hx⟩ := vb_bind hx
    refine eg_k_call (c1 := 0) (z1 := 0) (as := [.inr (.inr (some 45)), .inr (.inl (M 82 (eg_wi ((M 45 53) - 1)).toNat)), .inl (M 50 (r2).toNat)]) (rest := []) rfl eg_tj186 (Nat.le_of_ble_eq_true rfl) rfl rfl rfl (Nat.le_of_ble_eq_true rfl) (Nat.le_refl _) (Nat.le_refl _) ?_ (fun Q hQ => ft_186 h8 hQ)
    refine eg_k_lstore (lv' := [some (.inr (.inr (some 45))), some (.inl a), some (.inr (.inl (M 45 70))), none, some (.inl (M 50 (r2).toNat)), some (.inr (.inl (M 82 (eg_wi ((M 45 53) - 1)).toNat))), none, some (.inr (.inl r9)), none]) rfl rfl ?_
    refine eg_k_lload rfl rfl ?_
    refine eg_k_cl rfl ?_
    refine vk_lcmp rfl rfl hx Iff.rfl (fun c11 hx => ?_) (fun c11 hx => ?_)
    · have hz := ft_215_56 (d := d) (sc := sc) hx hK
      exact hz (some (.inr (.inl (M 82 (eg_wi ((M 45 53) - 1)).toNat)))) none
    · refine eg_k_aload rfl rfl ?_
      refine eg_k_gfa rfl rfl rfl eh_r45_44 ?_
      refine eg_k_iload rfl rfl ?_
      obtain ⟨b30, hx⟩ := vb_if hx
      refine eg_k_lald (k := 460) rfl rfl b30.1 b30.2 ?_
      refine eg_k_cl rfl ?_
      refine vk_lcmp rfl rfl hx Iff.rfl (fun c31 hx => ?_) (fun c31 hx => ?_)
      · have hz := ft_215_56 (d := d) (sc := sc) hx hK
        exact hz (some (.inr (.inl (M 82 (eg_wi ((M 45 53) - 1)).toNat)))) none
      · refine eg_k_aload rfl rfl ?_
        refine eg_k_ci rfl ?_
        obtain ⟨r33, h32, hx⟩ := vb_bind hx
        refine eg_k_call (c1 := 0) (z1 := 0) (as := [.inr (.inr (some 45)), .inl 5]) (rest := []) rfl eg_tj185 (Nat.le_of_ble_eq_true rfl) rfl rfl rfl (Nat.le_of_ble_eq_true rfl) (Nat.le_refl _) (Nat.le_refl _) ?_ (fun Q hQ => ft_185 h32 hQ)
        have hx := Option.some.inj hx
        subst hx
        exact eg_k_iret rfl True.intro (Nat.le_refl _) (Nat.le_refl _) hK
  · refine eg_k_aload rfl rfl ?_
    refine eg_k_gfa rfl rfl rfl eh_r45_44 ?_
    refine eg_k_iload rfl rfl ?_
    refine eg_k_lload rfl rfl ?_
    obtain ⟨b35, hx⟩ := vb_if hx
    refine eg_k_last (k := 460) rfl rfl b35.1 b35.2 ?_
    refine eg_k_aload rfl rfl ?_
    refine eg_k_cl rfl ?_
    obtain ⟨r37, h36, hx⟩ := vb_bind hx
    refine eg_k_call (c1 := 0) (z1 := 0) (as := [.inr (.inr (some 45)), .inr (.inl 12884901888)]) (rest := []) rfl eg_tj213 (Nat.le_of_ble_eq_true rfl) rfl rfl rfl (Nat.le_of_ble_eq_true rfl) (Nat.le_refl _) (Nat.le_refl _) ?_ (fun Q hQ => ft_213 h36 hQ)
    have hx := Option.some.inj hx
    subst hx
    exact eg_k_iret rfl True.intro (Nat.le_refl _) (Nat.le_refl _) hK
theorem fw_215_56 {M : eM} {c j : Nat} {v : Int} {x1 : Int} {x2 : Int} {x4 : Int} {x7 : Int} {x : Int × eM} (hc : c ∉ ([45, 70, 72] : List Nat)) (hx : fn_215_56 x1 x2 x4 x7 M = some x) (hK : (fun (x : Int × eM) => ((x).2) c j = v) x) : M c j = v := by
  refine vb_ite hx (fun _ hx => ?_) (fun _ hx => ?_)
  · obtain ⟨r14, h13, hx⟩ := vb_bind hx
    obtain ⟨_, hx⟩ := vb_if hx
    obtain ⟨r18, h17, hx⟩ := vb_bind hx
    obtain ⟨m22, h20, hx⟩ := vb_bind hx
    obtain ⟨r24, h23, hx⟩ := vb_bind hx
    have hx := Option.some.inj hx
    subst hx
    exact ((fw_213 h23 (vsub hc (by decide)) j).trans ((fw_205 h20 (vsub hc (by decide)) j).trans rfl)).symm.trans hK
  · obtain ⟨_, hx⟩ := vb_if hx
    obtain ⟨r28, h27, hx⟩ := vb_bind hx
    have hx := Option.some.inj hx
    subst hx
    exact ((fw_213 h27 (vsub hc (by decide)) j).trans ((congrFun (eg_u_ne (vne hc (a := 72) (by decide))) j).trans rfl)).symm.trans hK
theorem fw_215 {M : eM} {c : Nat} {a : Int} {x : Int × eM} (hx : fn_215 a M = some x) (hc : c ∉ ([45, 70, 72] : List Nat)) (j : Nat) : ((x).2) c j = M c j := by
  obtain ⟨v, hK⟩ : ∃ v, ((x).2) c j = v := ⟨_, rfl⟩
  rw [hK]
  refine Eq.symm ?_
  obtain ⟨r2, h1, hx⟩ := vb_bind hx
  obtain ⟨_, hx⟩ := vb_if hx
  obtain ⟨_, hx⟩ := vb_if hx
  refine vb_ite hx (fun _ hx => ?_) (fun _ hx => ?_)
  · obtain ⟨r9, h8, hx⟩ := vb_bind hx
    refine vb_ite hx (fun _ hx => ?_) (fun _ hx => ?_)
    · have hz := fw_215_56 hc hx hK
      exact (Eq.refl _).symm.trans hz
    · obtain ⟨_, hx⟩ := vb_if hx
      refine vb_ite hx (fun _ hx => ?_) (fun _ hx => ?_)
      · have hz := fw_215_56 hc hx hK
        exact (Eq.refl _).symm.trans hz
      · obtain ⟨r33, h32, hx⟩ := vb_bind hx
        have hx := Option.some.inj hx
        subst hx
        exact ((fw_185 h32 (vsub hc (by decide)) j).trans rfl).symm.trans hK
  · obtain ⟨_, hx⟩ := vb_if hx
    obtain ⟨r37, h36, hx⟩ := vb_bind hx
    have hx := Option.some.inj hx
    subst hx
    exact ((fw_213 h36 (vsub hc (by decide)) j).trans ((congrFun (eg_u_ne (vne hc (a := 72) (by decide))) j).trans rfl)).symm.trans hK
/-- 217: WeakSchemeModel.hold(J)V -/
noncomputable def fn_217 (a : Int) (M : eM) : Option (eM) :=
  if 0 ≤ (M 45 51) ∧ (M 45 51) < 19000 then
  some (eg_u (eg_u M 77 (M 45 51).toNat a) 45 51 (eg_wi ((M 45 51) + 1)))
  else none
set_option maxRecDepth 100000 in
theorem ft_217 {cn mo : Nat} {sc : eg_Sc} {d : Nat} {M : eM} {Q : Option eg_V → eg_H → Prop} {a : Int} {x : eM} (hx : fn_217 a M = some x) (hK : Q (none) (em_L cn mo, eh_R, x)) : eg_wp sc (d + 1) 217 [.inr (.inr (some 45)), .inr (.inl a)] (em_L cn mo, eh_R, M) 0 0 Q := by
  refine eg_in (lv := [some (.inr (.inr (some 45))), some (.inr (.inl a)), none]) eg_tj217 (Nat.le_of_ble_eq_true rfl) rfl ?_
  refine eg_k_aload rfl rfl ?_
  refine eg_k_gfa rfl rfl rfl eh_r45_52 ?_
  refine eg_k_aload rfl rfl ?_
  refine eg_k_gfi rfl rfl rfl ?_
  refine eg_k_lload rfl rfl ?_
  obtain ⟨b1, hx⟩ := vb_if hx
  refine eg_k_last (k := 19000) rfl rfl b1.1 b1.2 ?_
  refine eg_k_aload rfl rfl ?_
  refine eg_k_aload rfl rfl ?_
  refine eg_k_gfie (x := M 45 51) rfl rfl rfl rfl ?_
  refine eg_k_ci rfl ?_
  refine eg_k_iadd rfl ?_
  refine eg_k_pfi rfl rfl rfl ?_
  have hx := Option.some.inj hx
  subst hx
  exact eg_k_ret rfl rfl (Nat.le_refl _) (Nat.le_refl _) hK
theorem fw_217 {M : eM} {c : Nat} {a : Int} {x : eM} (hx : fn_217 a M = some x) (hc : c ∉ ([45, 77] : List Nat)) (j : Nat) : x c j = M c j := by
  obtain ⟨v, hK⟩ : ∃ v, x c j = v := ⟨_, rfl⟩
  rw [hK]
  refine Eq.symm ?_
  obtain ⟨_, hx⟩ := vb_if hx
  have hx := Option.some.inj hx
  subst hx
  exact ((congrFun (eg_u_ne (vne hc (a := 45) (by decide))) j).trans ((congrFun (eg_u_ne (vne hc (a := 77) (by decide))) j).trans rfl)).symm.trans hK
noncomputable def fn_216_65 (x1 : Int) (x2 : Int) (x3 : Int) (x4 : Int) (x5 : Int) (s1 : Int) (s2 : eM) : Option ((Int × eM) ⊕ (Int × eM)) :=
  if x4 ≤ s1 then
    if 0 ≤ x3 ∧ x3 < 4400 then
    (fn_176 x1 (eg_u (eg_u (eg_u s2 45 51 (s2 81 (x3).toNat)) 78 (x3).toNat (eg_wb 6)) 82 (x3).toNat x5)).bind fun r19 =>
      if 0 ≤ r19 ∧ r19 < 20100 then
      some (.inr (2, eg_u (eg_u (eg_u (eg_u s2 45 51 (s2 81 (x3).toNat)) 78 (x3).toNat (eg_wb 6)) 82 (x3).toNat x5) 80 (x3).toNat (s2 53 (r19).toNat)))
      else none
    else none
  else
    if 0 ≤ x3 ∧ x3 < 4400 then
    if 0 ≤ (eg_wi ((s2 81 (x3).toNat) + s1)) ∧ (eg_wi ((s2 81 (x3).toNat) + s1)) < 19000 then
      (fn_205 x5 (eg_wi (1 + s1)) (s2 77 (eg_wi ((s2 81 (x3).toNat) + s1)).toNat) s2).bind fun m27 =>
        some (.inl (eg_wi (s1 + 1), m27))
      else none
    else none
noncomputable def fn_216_22 (x1 : Int) (x2 : Int) (x3 : Int) (M : eM) : Option (Int × eM) :=
  if 0 ≤ x3 ∧ x3 < 4400 then
  if (M 80 (x3).toNat) < 0 then
      (fn_195 3 (eg_wi (1 + (eg_wi ((M 45 51) - (M 81 (x3).toNat))))) (M 82 (x3).toNat) M).bind fun r7 =>
      if ¬ r7.1 = (-1) then
        (fn_187 r7.1 r7.2).bind fun r11 =>
        if 0 ≤ r11 ∧ r11 < 6700 then
        lp (fun z => fn_216_65 x1 x2 x3 (eg_wi ((M 45 51) - (M 81 (x3).toNat))) r7.1 z.1 z.2) (0, eg_u r7.2 64 (r11).toNat x1)
        else none
      else
        (fn_185 (r7.2 45 66) r7.2).bind fun r29 =>
        some (r29.1, r29.2)
    else
      some (2, M)
  else none
/-- 216: WeakSchemeModel.stepLet(IZ)I -/
noncomputable def fn_216 (a : Int) (b : Int) (M : eM) : Option (Int × eM) :=
  if b = 0 then
    fn_216_22 a b (eg_wi ((M 45 53) - 1)) M
  else
    (fn_217 (M 45 70) M).bind fun m33 =>
    if 0 ≤ (eg_wi ((M 45 53) - 1)) ∧ (eg_wi ((M 45 53) - 1)) < 4400 then
    if 0 ≤ (m33 80 (eg_wi ((M 45 53) - 1)).toNat) ∧ (m33 80 (eg_wi ((M 45 53) - 1)).toNat) < 20100 then
      fn_216_22 a b (eg_wi ((M 45 53) - 1)) (eg_u m33 80 (eg_wi ((M 45 53) - 1)).toNat (m33 53 (m33 80 (eg_wi ((M 45 53) - 1)).toNat).toNat))
      else none
    else none
set_option maxRecDepth 100000 in
theorem ft_216_65 {cn mo : Nat} {sc : eg_Sc} {d : Nat} {Q : Option eg_V → eg_H → Prop} {x1 : Int} {x2 : Int} {x3 : Int} {x4 : Int} {x5 : Int} {s : Int × eM} {x : Int × eM} (hx : lp (fun z => fn_216_65 x1 x2 x3 x4 x5 z.1 z.2) s = some x) (hK : (fun (x : Int × eM) => Q (some (.inl ((x).1))) (em_L cn mo, eh_R, (x).2)) x) : eg_X sc (eg_wp sc (d + 8)) eg_p216 (some .int) 0 0 Q 65 [some (.inr (.inr (some 45))), some (.inl x1), some (.inl x2), some (.inl x3), some (.inl x4), some (.inr (.inl x5)), none, some (.inl s.1)] [] (em_L cn mo, eh_R, s.2) 0 0 := by
  refine lp_sound (P := (fun (s : Int × eM) => eg_X sc (eg_wp sc (d + 8)) eg_p216 (some .int) 0 0 Q 65 [some (.inr (.inr (some 45))), some (.inl x1), some (.inl x2), some (.inl x3), some (.inl x4), some (.inr (.inl x5)), none, some (.inl s.1)] [] (em_L cn mo, eh_R, s.2) 0 0)) (K := (fun (x : Int × eM) => Q (some (.inl ((x).1))) (em_L cn mo, eh_R, (x).2))) hx hK ?_
  intro s x hx hK
  obtain ⟨s1, s2⟩ := s
  refine eg_k_iload rfl rfl ?_
  refine eg_k_iload rfl rfl ?_
  refine vk_icmp rfl hx Iff.rfl (fun c14 hx => ?_) (fun c14 hx => ?_)
  · refine eg_k_aload rfl rfl ?_
    refine eg_k_aload rfl rfl ?_
    refine eg_k_gfa rfl rfl rfl eh_r45_57 ?_
    refine eg_k_iload rfl rfl ?_
    obtain ⟨b15, hx⟩ := vb_if hx
    refine eg_k_iald (k := 4400) rfl rfl b15.1 b15.2 ?_
    refine eg_k_pfi rfl rfl rfl ?_
    refine eg_k_aload rfl rfl ?_
    refine eg_k_gfa rfl rfl rfl eh_r45_54 ?_
    refine eg_k_iload rfl rfl ?_
    refine eg_k_ci rfl ?_
    refine eg_k_bast (k := 4400) rfl rfl b15.1 b15.2 ?_
    refine eg_k_aload rfl rfl ?_
    refine eg_k_gfa rfl rfl rfl eh_r45_58 ?_
    refine eg_k_iload rfl rfl ?_
    refine eg_k_lload rfl rfl ?_
    refine eg_k_last (k := 4400) rfl rfl b15.1 b15.2 ?_
    refine eg_k_aload rfl rfl ?_
    refine eg_k_gfa rfl rfl rfl eh_r45_56 ?_
    refine eg_k_iload rfl rfl ?_
    refine eg_k_aload rfl rfl ?_
    refine eg_k_gfa rfl rfl rfl eh_r45_12 ?_
    refine eg_k_aload rfl rfl ?_
    refine eg_k_iload rfl rfl ?_
    obtain ⟨r19, h18, hx⟩ := vb_bind hx
    refine eg_k_call (c1 := 0) (z1 := 0) (as := [.inr (.inr (some 45)), .inl x1]) (rest := [.inr (.inr (some 53)), .inl x3, .inr (.inr (some 80))]) rfl eg_tj176 (Nat.le_of_ble_eq_true rfl) rfl rfl rfl (Nat.le_of_ble_eq_true rfl) (Nat.le_refl _) (Nat.le_refl _) ?_ (fun Q hQ => ft_176 h18 hQ)
    obtain ⟨b21, hx⟩ := vb_if hx
    refine vk_iald (k := 20100) (y := s2 53 (r19).toNat) rfl rfl b21.1 b21.2 rfl ?_
    refine eg_k_iast (k := 4400) rfl rfl b15.1 b15.2 ?_
    refine eg_k_ci rfl ?_
    have hx := Option.some.inj hx
    subst hx
    exact eg_k_iret rfl True.intro (Nat.le_refl _) (Nat.le_refl _) hK
  · refine eg_k_aload rfl rfl ?_
    refine eg_k_lload rfl rfl ?_
    refine eg_k_ci rfl ?_
    refine eg_k_iload rfl rfl ?_
    refine eg_k_iadd rfl ?_
    refine eg_k_aload rfl rfl ?_
    refine eg_k_gfa rfl rfl rfl eh_r45_52 ?_
    refine eg_k_aload rfl rfl ?_
    refine eg_k_gfa rfl rfl rfl eh_r45_57 ?_
    refine eg_k_iload rfl rfl ?_
    obtain ⟨b23, hx⟩ := vb_if hx
    refine eg_k_iald (k := 4400) rfl rfl b23.1 b23.2 ?_
    refine eg_k_iload rfl rfl ?_
    refine eg_k_iadd rfl ?_
    obtain ⟨b24, hx⟩ := vb_if hx
    refine eg_k_lald (k := 19000) rfl rfl b24.1 b24.2 ?_
    obtain ⟨m27, h25, hx⟩ := vb_bind hx
    refine eg_k_call (c1 := 0) (z1 := 0) (as := [.inr (.inr (some 45)), .inr (.inl x5), .inl (eg_wi (1 + s1)), .inr (.inl (s2 77 (eg_wi ((s2 81 (x3).toNat) + s1)).toNat))]) (rest := []) rfl eg_tj205 (Nat.le_of_ble_eq_true rfl) rfl rfl rfl (Nat.le_of_ble_eq_true rfl) (Nat.le_refl _) (Nat.le_refl _) ?_ (fun Q hQ => ft_205 h25 hQ)
    refine eg_k_iinc (lv' := [some (.inr (.inr (some 45))), some (.inl x1), some (.inl x2), some (.inl x3), some (.inl x4), some (.inr (.inl x5)), none, some (.inl (eg_wi (s1 + 1)))]) rfl rfl rfl ?_
    refine eg_k_goto rfl ?_
    have hx := Option.some.inj hx
    subst hx
    exact hK
set_option maxRecDepth 100000 in
theorem ft_216_22 {cn mo : Nat} {sc : eg_Sc} {d : Nat} {M : eM} {Q : Option eg_V → eg_H → Prop} {x1 : Int} {x2 : Int} {x3 : Int} {x : Int × eM} (hx : fn_216_22 x1 x2 x3 M = some x) (hK : (fun (x : Int × eM) => Q (some (.inl ((x).1))) (em_L cn mo, eh_R, (x).2)) x) : ∀ (w4 w5 w6 w7 : Option eg_V), eg_X sc (eg_wp sc (d + 8)) eg_p216 (some .int) 0 0 Q 22 [some (.inr (.inr (some 45))), some (.inl x1), some (.inl x2), some (.inl x3), w4, w5, w6, w7] [] (em_L cn mo, eh_R, M) 0 0 := by
  intro w4 w5 w6 w7
  refine eg_k_aload rfl rfl ?_
  refine eg_k_gfa rfl rfl rfl eh_r45_56 ?_
  refine eg_k_iload rfl rfl ?_
  obtain ⟨b2, hx⟩ := vb_if hx
  refine eg_k_iald (k := 4400) rfl rfl b2.1 b2.2 ?_
  refine vk_if rfl hx Iff.rfl (fun c3 hx => ?_) (fun c3 hx => ?_)
  · refine eg_k_aload rfl rfl ?_
    refine eg_k_gfi rfl rfl rfl ?_
    refine eg_k_aload rfl rfl ?_
    refine eg_k_gfa rfl rfl rfl eh_r45_57 ?_
    refine eg_k_iload rfl rfl ?_
    refine eg_k_iald (k := 4400) rfl rfl b2.1 b2.2 ?_
    refine eg_k_isub rfl ?_
    refine eg_k_istore (lv' := [some (.inr (.inr (some 45))), some (.inl x1), some (.inl x2), some (.inl x3), some (.inl (eg_wi ((M 45 51) - (M 81 (x3).toNat)))), w5, w6, w7]) rfl rfl ?_
    refine eg_k_aload rfl rfl ?_
    refine eg_k_ci rfl ?_
    refine eg_k_ci rfl ?_
    refine eg_k_iload rfl rfl ?_
    refine eg_k_iadd rfl ?_
    refine eg_k_aload rfl rfl ?_
    refine eg_k_gfa rfl rfl rfl eh_r45_58 ?_
    refine eg_k_iload rfl rfl ?_
    refine eg_k_lald (k := 4400) rfl rfl b2.1 b2.2 ?_
    obtain ⟨r7, h6, hx⟩ := vb_bind hx
    refine eg_k_call (c1 := 0) (z1 := 0) (as := [.inr (.inr (some 45)), .inl 3, .inl (eg_wi (1 + (eg_wi ((M 45 51) - (M 81 (x3).toNat))))), .inr (.inl (M 82 (x3).toNat))]) (rest := []) rfl eg_tj195 (Nat.le_of_ble_eq_true rfl) rfl rfl rfl (Nat.le_of_ble_eq_true rfl) (Nat.le_refl _) (Nat.le_refl _) ?_ (fun Q hQ => ft_195 h6 hQ)
    refine eg_k_lstore (lv' := [some (.inr (.inr (some 45))), some (.inl x1), some (.inl x2), some (.inl x3), some (.inl (eg_wi ((M 45 51) - (M 81 (x3).toNat)))), some (.inr (.inl r7.1)), none, w7]) rfl rfl ?_
    refine eg_k_lload rfl rfl ?_
    refine eg_k_cl rfl ?_
    refine vk_lcmp rfl rfl hx Iff.rfl (fun c9 hx => ?_) (fun c9 hx => ?_)
    · refine eg_k_aload rfl rfl ?_
      refine eg_k_gfa rfl rfl rfl eh_r45_32 ?_
      refine eg_k_lload rfl rfl ?_
      obtain ⟨r11, h10, hx⟩ := vb_bind hx
      refine eg_k_call (c1 := 0) (z1 := 0) (as := [.inr (.inl r7.1)]) (rest := [.inr (.inr (some 64))]) rfl eg_tj187 (Nat.le_of_ble_eq_true rfl) rfl rfl trivial (Nat.le_of_ble_eq_true rfl) (Nat.le_refl _) (Nat.le_refl _) ?_ (fun Q hQ => ft_187 h10 hQ)
      refine eg_k_iload rfl rfl ?_
      obtain ⟨b13, hx⟩ := vb_if hx
      refine eg_k_iast (k := 6700) rfl rfl b13.1 b13.2 ?_
      refine eg_k_ci rfl ?_
      refine eg_k_istore (lv' := [some (.inr (.inr (some 45))), some (.inl x1), some (.inl x2), some (.inl x3), some (.inl (eg_wi ((M 45 51) - (M 81 (x3).toNat)))), some (.inr (.inl r7.1)), none, some (.inl 0)]) rfl rfl ?_
      have hz := ft_216_65 (d := d) (sc := sc) hx hK
      exact hz
    · refine eg_k_aload rfl rfl ?_
      refine eg_k_aload rfl rfl ?_
      refine eg_k_gfi rfl rfl rfl ?_
      obtain ⟨r29, h28, hx⟩ := vb_bind hx
      refine eg_k_call (c1 := 0) (z1 := 0) (as := [.inr (.inr (some 45)), .inl (r7.2 45 66)]) (rest := []) rfl eg_tj185 (Nat.le_of_ble_eq_true rfl) rfl rfl rfl (Nat.le_of_ble_eq_true rfl) (Nat.le_refl _) (Nat.le_refl _) ?_ (fun Q hQ => ft_185 h28 hQ)
      have hx := Option.some.inj hx
      subst hx
      exact eg_k_iret rfl True.intro (Nat.le_refl _) (Nat.le_refl _) hK
  · refine eg_k_ci rfl ?_
    have hx := Option.some.inj hx
    subst hx
    exact eg_k_iret rfl True.intro (Nat.le_refl _) (Nat.le_refl _) hK
set_option maxRecDepth 100000 in
theorem ft_216 {cn mo : Nat} {sc : eg_Sc} {d : Nat} {M : eM} {Q : Option eg_V → eg_H → Prop} {a : Int} {b : Int} {x : Int × eM} (hx : fn_216 a b M = some x) (hK : Q (some (.inl ((x).1))) (em_L cn mo, eh_R, (x).2)) : eg_wp sc (d + 9) 216 [.inr (.inr (some 45)), .inl a, .inl b] (em_L cn mo, eh_R, M) 0 0 Q := by
  refine eg_in (lv := [some (.inr (.inr (some 45))), some (.inl a), some (.inl b), none, none, none, none, none]) eg_tj216 (Nat.le_of_ble_eq_true rfl) rfl ?_
  refine eg_k_aload rfl rfl ?_
  refine eg_k_gfi rfl rfl rfl ?_
  refine eg_k_ci rfl ?_
  refine eg_k_isub rfl ?_
  refine eg_k_istore (lv' := [some (.inr (.inr (some 45))), some (.inl a), some (.inl b), some (.inl (eg_wi ((M 45 53) - 1))), none, none, none, none]) rfl rfl ?_
  refine eg_k_iload rfl rfl ?_
  refine vk_if rfl hx Iff.rfl (fun c1 hx => ?_) (fun c1 hx => ?_)
  · have hz := ft_216_22 (d := d) (sc := sc) hx hK
    exact hz none none none none
  · refine eg_k_aload rfl rfl ?_
    refine eg_k_aload rfl rfl ?_
    refine eg_k_gfl rfl rfl rfl ?_
    obtain ⟨m33, h31, hx⟩ := vb_bind hx
    refine eg_k_call (c1 := 0) (z1 := 0) (as := [.inr (.inr (some 45)), .inr (.inl (M 45 70))]) (rest := []) rfl eg_tj217 (Nat.le_of_ble_eq_true rfl) rfl rfl rfl (Nat.le_of_ble_eq_true rfl) (Nat.le_refl _) (Nat.le_refl _) ?_ (fun Q hQ => ft_217 h31 hQ)
    refine eg_k_aload rfl rfl ?_
    refine eg_k_gfa rfl rfl rfl eh_r45_56 ?_
    refine eg_k_iload rfl rfl ?_
    refine eg_k_aload rfl rfl ?_
    refine eg_k_gfa rfl rfl rfl eh_r45_12 ?_
    refine eg_k_aload rfl rfl ?_
    refine eg_k_gfa rfl rfl rfl eh_r45_56 ?_
    refine eg_k_iload rfl rfl ?_
    obtain ⟨b34, hx⟩ := vb_if hx
    refine eg_k_iald (k := 4400) rfl rfl b34.1 b34.2 ?_
    obtain ⟨b35, hx⟩ := vb_if hx
    refine eg_k_iald (k := 20100) rfl rfl b35.1 b35.2 ?_
    refine eg_k_iast (k := 4400) rfl rfl b34.1 b34.2 ?_
    have hz := ft_216_22 (d := d) (sc := sc) hx hK
    exact hz none none none none
theorem fw_216_65 {c j : Nat} {v : Int} {x1 : Int} {x2 : Int} {x3 : Int} {x4 : Int} {x5 : Int} {s : Int × eM} {x : Int × eM} (hc : c ∉ ([45, 62, 63, 64, 65, 66, 67, 68, 69, 70, 71, 73, 74, 75, 76, 77, 78, 80, 82, 85] : List Nat)) (hx : lp (fun z => fn_216_65 x1 x2 x3 x4 x5 z.1 z.2) s = some x) (hK : (fun (x : Int × eM) => ((x).2) c j = v) x) : s.2 c j = v := by
  refine lp_sound (P := (fun (s : Int × eM) => s.2 c j = v)) (K := (fun (x : Int × eM) => ((x).2) c j = v)) hx hK ?_
  intro s x hx hK
  obtain ⟨s1, s2⟩ := s
  refine vb_ite hx (fun _ hx => ?_) (fun _ hx => ?_)
  · obtain ⟨_, hx⟩ := vb_if hx
    obtain ⟨r19, h18, hx⟩ := vb_bind hx
    obtain ⟨_, hx⟩ := vb_if hx
    have hx := Option.some.inj hx
    subst hx
    exact ((congrFun (eg_u_ne (vne hc (a := 80) (by decide))) j).trans ((congrFun (eg_u_ne (vne hc (a := 82) (by decide))) j).trans ((congrFun (eg_u_ne (vne hc (a := 78) (by decide))) j).trans ((congrFun (eg_u_ne (vne hc (a := 45) (by decide))) j).trans rfl)))).symm.trans hK
  · obtain ⟨_, hx⟩ := vb_if hx
    obtain ⟨_, hx⟩ := vb_if hx
    obtain ⟨m27, h25, hx⟩ := vb_bind hx
    have hx := Option.some.inj hx
    subst hx
    exact ((fw_205 h25 (vsub hc (by decide)) j).trans rfl).symm.trans hK
theorem fw_216_22 {M : eM} {c j : Nat} {v : Int} {x1 : Int} {x2 : Int} {x3 : Int} {x : Int × eM} (hc : c ∉ ([45, 62, 63, 64, 65, 66, 67, 68, 69, 70, 71, 73, 74, 75, 76, 77, 78, 80, 82, 85] : List Nat)) (hx : fn_216_22 x1 x2 x3 M = some x) (hK : (fun (x : Int × eM) => ((x).2) c j = v) x) : M c j = v := by
  obtain ⟨_, hx⟩ := vb_if hx
  refine vb_ite hx (fun _ hx => ?_) (fun _ hx => ?_)
  · obtain ⟨r7, h6, hx⟩ := vb_bind hx
    refine vb_ite hx (fun _ hx => ?_) (fun _ hx => ?_)
    · obtain ⟨r11, h10, hx⟩ := vb_bind hx
      obtain ⟨_, hx⟩ := vb_if hx
      have hz := fw_216_65 hc hx hK
      exact ((congrFun (eg_u_ne (vne hc (a := 64) (by decide))) j).trans ((fw_195 h6 (vsub hc (by decide)) j).trans rfl)).symm.trans hz
    · obtain ⟨r29, h28, hx⟩ := vb_bind hx
      have hx := Option.some.inj hx
      subst hx
      exact ((fw_185 h28 (vsub hc (by decide)) j).trans ((fw_195 h6 (vsub hc (by decide)) j).trans rfl)).symm.trans hK
  · have hx := Option.some.inj hx
    subst hx
    exact (Eq.refl _).symm.trans hK
theorem fw_216 {M : eM} {c : Nat} {a : Int} {b : Int} {x : Int × eM} (hx : fn_216 a b M = some x) (hc : c ∉ ([45, 62, 63, 64, 65, 66, 67, 68, 69, 70, 71, 73, 74, 75, 76, 77, 78, 80, 82, 85] : List Nat)) (j : Nat) : ((x).2) c j = M c j := by
  obtain ⟨v, hK⟩ : ∃ v, ((x).2) c j = v := ⟨_, rfl⟩
  rw [hK]
  refine Eq.symm ?_
  refine vb_ite hx (fun _ hx => ?_) (fun _ hx => ?_)
  · have hz := fw_216_22 hc hx hK
    exact (Eq.refl _).symm.trans hz
  · obtain ⟨m33, h31, hx⟩ := vb_bind hx
    obtain ⟨_, hx⟩ := vb_if hx
    obtain ⟨_, hx⟩ := vb_if hx
    have hz := fw_216_22 hc hx hK
    exact ((congrFun (eg_u_ne (vne hc (a := 80) (by decide))) j).trans ((fw_217 h31 (vsub hc (by decide)) j).trans rfl)).symm.trans hz
/-- 218: WeakSchemeModel.stepBody()I -/
noncomputable def fn_218 (M : eM) : Option (Int × eM) :=
  if 0 ≤ (eg_wi ((M 45 53) - 1)) ∧ (eg_wi ((M 45 53) - 1)) < 4400 then
  if 0 ≤ (M 80 (eg_wi ((M 45 53) - 1)).toNat) ∧ (M 80 (eg_wi ((M 45 53) - 1)).toNat) < 20100 then
    if 0 ≤ (M 53 (M 80 (eg_wi ((M 45 53) - 1)).toNat).toNat) then
        some (2, eg_u M 80 (eg_wi ((M 45 53) - 1)).toNat (M 53 (M 80 (eg_wi ((M 45 53) - 1)).toNat).toNat))
      else
        if ¬ (M 78 (eg_wi ((M 45 53) - 1)).toNat) = 11 then
          (fn_213 (M 45 70) M).bind fun r8 =>
          some (r8.1, r8.2)
        else
          (fn_213 (M 45 70) (eg_u M 45 68 (eg_wi ((M 45 68) - 1)))).bind fun r11 =>
          some (r11.1, r11.2)
    else none
  else none
set_option maxRecDepth 100000 in
theorem ft_218 {cn mo : Nat} {sc : eg_Sc} {d : Nat} {M : eM} {Q : Option eg_V → eg_H → Prop} {x : Int × eM} (hx : fn_218 M = some x) (hK : Q (some (.inl ((x).1))) (em_L cn mo, eh_R, (x).2)) : eg_wp sc (d + 3) 218 [.inr (.inr (some 45))] (em_L cn mo, eh_R, M) 0 0 Q := by
  refine eg_in (lv := [some (.inr (.inr (some 45))), none, none]) eg_tj218 (Nat.le_of_ble_eq_true rfl) rfl ?_
  refine eg_k_aload rfl rfl ?_
  refine eg_k_gfi rfl rfl rfl ?_
  refine eg_k_ci rfl ?_
  refine eg_k_isub rfl ?_
  refine eg_k_istore (lv' := [some (.inr (.inr (some 45))), some (.inl (eg_wi ((M 45 53) - 1))), none]) rfl rfl ?_
  refine eg_k_aload rfl rfl ?_
  refine eg_k_gfa rfl rfl rfl eh_r45_12 ?_
  refine eg_k_aload rfl rfl ?_
  refine eg_k_gfa rfl rfl rfl eh_r45_56 ?_
  refine eg_k_iload rfl rfl ?_
  obtain ⟨b1, hx⟩ := vb_if hx
  refine eg_k_iald (k := 4400) rfl rfl b1.1 b1.2 ?_
  obtain ⟨b2, hx⟩ := vb_if hx
  refine eg_k_iald (k := 20100) rfl rfl b2.1 b2.2 ?_
  refine eg_k_istore (lv' := [some (.inr (.inr (some 45))), some (.inl (eg_wi ((M 45 53) - 1))), some (.inl (M 53 (M 80 (eg_wi ((M 45 53) - 1)).toNat).toNat))]) rfl rfl ?_
  refine eg_k_iload rfl rfl ?_
  refine vk_if rfl hx Iff.rfl (fun c3 hx => ?_) (fun c3 hx => ?_)
  · refine eg_k_aload rfl rfl ?_
    refine eg_k_gfa rfl rfl rfl eh_r45_56 ?_
    refine eg_k_iload rfl rfl ?_
    refine eg_k_iload rfl rfl ?_
    refine eg_k_iast (k := 4400) rfl rfl b1.1 b1.2 ?_
    refine eg_k_ci rfl ?_
    have hx := Option.some.inj hx
    subst hx
    exact eg_k_iret rfl True.intro (Nat.le_refl _) (Nat.le_refl _) hK
  · refine eg_k_aload rfl rfl ?_
    refine eg_k_gfa rfl rfl rfl eh_r45_54 ?_
    refine eg_k_iload rfl rfl ?_
    refine eg_k_bald (k := 4400) rfl rfl b1.1 b1.2 ?_
    refine eg_k_ci rfl ?_
    refine vk_icmp rfl hx Iff.rfl (fun c6 hx => ?_) (fun c6 hx => ?_)
    · refine eg_k_aload rfl rfl ?_
      refine eg_k_aload rfl rfl ?_
      refine eg_k_gfl rfl rfl rfl ?_
      obtain ⟨r8, h7, hx⟩ := vb_bind hx
      refine eg_k_call (c1 := 0) (z1 := 0) (as := [.inr (.inr (some 45)), .inr (.inl (M 45 70))]) (rest := []) rfl eg_tj213 (Nat.le_of_ble_eq_true rfl) rfl rfl rfl (Nat.le_of_ble_eq_true rfl) (Nat.le_refl _) (Nat.le_refl _) ?_ (fun Q hQ => ft_213 h7 hQ)
      have hx := Option.some.inj hx
      subst hx
      exact eg_k_iret rfl True.intro (Nat.le_refl _) (Nat.le_refl _) hK
    · refine eg_k_aload rfl rfl ?_
      refine eg_k_aload rfl rfl ?_
      refine eg_k_gfi rfl rfl rfl ?_
      refine eg_k_ci rfl ?_
      refine eg_k_isub rfl ?_
      refine eg_k_pfi rfl rfl rfl ?_
      refine eg_k_aload rfl rfl ?_
      refine eg_k_aload rfl rfl ?_
      refine eg_k_gfle (x := M 45 70) rfl rfl rfl rfl ?_
      obtain ⟨r11, h10, hx⟩ := vb_bind hx
      refine eg_k_call (c1 := 0) (z1 := 0) (as := [.inr (.inr (some 45)), .inr (.inl (M 45 70))]) (rest := []) rfl eg_tj213 (Nat.le_of_ble_eq_true rfl) rfl rfl rfl (Nat.le_of_ble_eq_true rfl) (Nat.le_refl _) (Nat.le_refl _) ?_ (fun Q hQ => ft_213 h10 hQ)
      have hx := Option.some.inj hx
      subst hx
      exact eg_k_iret rfl True.intro (Nat.le_refl _) (Nat.le_refl _) hK
theorem fw_218 {M : eM} {c : Nat} {x : Int × eM} (hx : fn_218 M = some x) (hc : c ∉ ([45, 80] : List Nat)) (j : Nat) : ((x).2) c j = M c j := by
  obtain ⟨v, hK⟩ : ∃ v, ((x).2) c j = v := ⟨_, rfl⟩
  rw [hK]
  refine Eq.symm ?_
  obtain ⟨_, hx⟩ := vb_if hx
  obtain ⟨_, hx⟩ := vb_if hx
  refine vb_ite hx (fun _ hx => ?_) (fun _ hx => ?_)
  · have hx := Option.some.inj hx
    subst hx
    exact ((congrFun (eg_u_ne (vne hc (a := 80) (by decide))) j).trans rfl).symm.trans hK
  · refine vb_ite hx (fun _ hx => ?_) (fun _ hx => ?_)
    · obtain ⟨r8, h7, hx⟩ := vb_bind hx
      have hx := Option.some.inj hx
      subst hx
      exact ((fw_213 h7 (vsub hc (by decide)) j).trans rfl).symm.trans hK
    · obtain ⟨r11, h10, hx⟩ := vb_bind hx
      have hx := Option.some.inj hx
      subst hx
      exact ((fw_213 h10 (vsub hc (by decide)) j).trans ((congrFun (eg_u_ne (vne hc (a := 45) (by decide))) j).trans rfl)).symm.trans hK
noncomputable def fn_219_22 (x1 : Int) (x2 : Int) (M : eM) : Option (Int × eM) :=
  if 0 ≤ x2 ∧ x2 < 20100 then
  if 0 ≤ (M 53 (x2).toNat) then
      if 0 ≤ (eg_wi ((M 45 53) - 1)) ∧ (eg_wi ((M 45 53) - 1)) < 4400 then
      some (2, eg_u M 80 (eg_wi ((M 45 53) - 1)).toNat (M 53 (x2).toNat))
      else none
    else
      (fn_176 x1 M).bind fun r10 =>
      if 0 ≤ (eg_wi ((M 45 53) - 1)) ∧ (eg_wi ((M 45 53) - 1)) < 4400 then
      some (2, eg_u M 80 (eg_wi ((M 45 53) - 1)).toNat r10)
      else none
  else none
/-- 219: WeakSchemeModel.stepWhile(I)I -/
noncomputable def fn_219 (a : Int) (M : eM) : Option (Int × eM) :=
  if 0 ≤ (eg_wi ((M 45 53) - 1)) ∧ (eg_wi ((M 45 53) - 1)) < 4400 then
  (fn_176 a M).bind fun r3 =>
    if ¬ (M 80 (eg_wi ((M 45 53) - 1)).toNat) = r3 then
      fn_219_22 a (M 80 (eg_wi ((M 45 53) - 1)).toNat) M
    else
      if ¬ (M 45 70) = 8589934592 then
        fn_219_22 a (M 80 (eg_wi ((M 45 53) - 1)).toNat) M
      else
        (fn_213 12884901888 M).bind fun r15 =>
        some (r15.1, r15.2)
  else none
set_option maxRecDepth 100000 in
theorem ft_219_22 {cn mo : Nat} {sc : eg_Sc} {d : Nat} {M : eM} {Q : Option eg_V → eg_H → Prop} {x1 : Int} {x2 : Int} {x : Int × eM} (hx : fn_219_22 x1 x2 M = some x) (hK : (fun (x : Int × eM) => Q (some (.inl ((x).1))) (em_L cn mo, eh_R, (x).2)) x) : ∀ (w3 : Option eg_V), eg_X sc (eg_wp sc (d + 2)) eg_p219 (some .int) 0 0 Q 22 [some (.inr (.inr (some 45))), some (.inl x1), some (.inl x2), w3] [] (em_L cn mo, eh_R, M) 0 0 := by
  intro w3
  refine eg_k_aload rfl rfl ?_
  refine eg_k_gfa rfl rfl rfl eh_r45_12 ?_
  refine eg_k_iload rfl rfl ?_
  obtain ⟨b6, hx⟩ := vb_if hx
  refine eg_k_iald (k := 20100) rfl rfl b6.1 b6.2 ?_
  refine eg_k_istore (lv' := [some (.inr (.inr (some 45))), some (.inl x1), some (.inl x2), some (.inl (M 53 (x2).toNat))]) rfl rfl ?_
  refine eg_k_aload rfl rfl ?_
  refine eg_k_gfa rfl rfl rfl eh_r45_56 ?_
  refine eg_k_aload rfl rfl ?_
  refine eg_k_gfi rfl rfl rfl ?_
  refine eg_k_ci rfl ?_
  refine eg_k_isub rfl ?_
  refine eg_k_iload rfl rfl ?_
  refine vk_if rfl hx Iff.rfl (fun c7 hx => ?_) (fun c7 hx => ?_)
  · refine eg_k_iload rfl rfl ?_
    obtain ⟨b8, hx⟩ := vb_if hx
    refine eg_k_iast (k := 4400) rfl rfl b8.1 b8.2 ?_
    refine eg_k_ci rfl ?_
    have hx := Option.some.inj hx
    subst hx
    exact eg_k_iret rfl True.intro (Nat.le_refl _) (Nat.le_refl _) hK
  · refine eg_k_aload rfl rfl ?_
    refine eg_k_iload rfl rfl ?_
    obtain ⟨r10, h9, hx⟩ := vb_bind hx
    refine eg_k_call (c1 := 0) (z1 := 0) (as := [.inr (.inr (some 45)), .inl x1]) (rest := [.inl (eg_wi ((M 45 53) - 1)), .inr (.inr (some 80))]) rfl eg_tj176 (Nat.le_of_ble_eq_true rfl) rfl rfl rfl (Nat.le_of_ble_eq_true rfl) (Nat.le_refl _) (Nat.le_refl _) ?_ (fun Q hQ => ft_176 h9 hQ)
    refine eg_k_goto rfl ?_
    obtain ⟨b12, hx⟩ := vb_if hx
    refine eg_k_iast (k := 4400) rfl rfl b12.1 b12.2 ?_
    refine eg_k_ci rfl ?_
    have hx := Option.some.inj hx
    subst hx
    exact eg_k_iret rfl True.intro (Nat.le_refl _) (Nat.le_refl _) hK
set_option maxRecDepth 100000 in
theorem ft_219 {cn mo : Nat} {sc : eg_Sc} {d : Nat} {M : eM} {Q : Option eg_V → eg_H → Prop} {a : Int} {x : Int × eM} (hx : fn_219 a M = some x) (hK : Q (some (.inl ((x).1))) (em_L cn mo, eh_R, (x).2)) : eg_wp sc (d + 3) 219 [.inr (.inr (some 45)), .inl a] (em_L cn mo, eh_R, M) 0 0 Q := by
  refine eg_in (lv := [some (.inr (.inr (some 45))), some (.inl a), none, none]) eg_tj219 (Nat.le_of_ble_eq_true rfl) rfl ?_
  refine eg_k_aload rfl rfl ?_
  refine eg_k_gfa rfl rfl rfl eh_r45_56 ?_
  refine eg_k_aload rfl rfl ?_
  refine eg_k_gfi rfl rfl rfl ?_
  refine eg_k_ci rfl ?_
  refine eg_k_isub rfl ?_
  obtain ⟨b1, hx⟩ := vb_if hx
  refine eg_k_iald (k := 4400) rfl rfl b1.1 b1.2 ?_
  refine eg_k_istore (lv' := [some (.inr (.inr (some 45))), some (.inl a), some (.inl (M 80 (eg_wi ((M 45 53) - 1)).toNat)), none]) rfl rfl ?_
  refine eg_k_iload rfl rfl ?_
  refine eg_k_aload rfl rfl ?_
  refine eg_k_iload rfl rfl ?_
  obtain ⟨r3, h2, hx⟩ := vb_bind hx
  refine eg_k_call (c1 := 0) (z1 := 0) (as := [.inr (.inr (some 45)), .inl a]) (rest := [.inl (M 80 (eg_wi ((M 45 53) - 1)).toNat)]) rfl eg_tj176 (Nat.le_of_ble_eq_true rfl) rfl rfl rfl (Nat.le_of_ble_eq_true rfl) (Nat.le_refl _) (Nat.le_refl _) ?_ (fun Q hQ => ft_176 h2 hQ)
  refine vk_icmp rfl hx Iff.rfl (fun c5 hx => ?_) (fun c5 hx => ?_)
  · have hz := ft_219_22 (d := d) (sc := sc) hx hK
    exact hz none
  · refine eg_k_aload rfl rfl ?_
    refine eg_k_gfl rfl rfl rfl ?_
    refine eg_k_cl rfl ?_
    refine vk_lcmp rfl rfl hx Iff.rfl (fun c13 hx => ?_) (fun c13 hx => ?_)
    · have hz := ft_219_22 (d := d) (sc := sc) hx hK
      exact hz none
    · refine eg_k_aload rfl rfl ?_
      refine eg_k_cl rfl ?_
      obtain ⟨r15, h14, hx⟩ := vb_bind hx
      refine eg_k_call (c1 := 0) (z1 := 0) (as := [.inr (.inr (some 45)), .inr (.inl 12884901888)]) (rest := []) rfl eg_tj213 (Nat.le_of_ble_eq_true rfl) rfl rfl rfl (Nat.le_of_ble_eq_true rfl) (Nat.le_refl _) (Nat.le_refl _) ?_ (fun Q hQ => ft_213 h14 hQ)
      have hx := Option.some.inj hx
      subst hx
      exact eg_k_iret rfl True.intro (Nat.le_refl _) (Nat.le_refl _) hK
theorem fw_219_22 {M : eM} {c j : Nat} {v : Int} {x1 : Int} {x2 : Int} {x : Int × eM} (hc : c ∉ ([45, 80] : List Nat)) (hx : fn_219_22 x1 x2 M = some x) (hK : (fun (x : Int × eM) => ((x).2) c j = v) x) : M c j = v := by
  obtain ⟨_, hx⟩ := vb_if hx
  refine vb_ite hx (fun _ hx => ?_) (fun _ hx => ?_)
  · obtain ⟨_, hx⟩ := vb_if hx
    have hx := Option.some.inj hx
    subst hx
    exact ((congrFun (eg_u_ne (vne hc (a := 80) (by decide))) j).trans rfl).symm.trans hK
  · obtain ⟨r10, h9, hx⟩ := vb_bind hx
    obtain ⟨_, hx⟩ := vb_if hx
    have hx := Option.some.inj hx
    subst hx
    exact ((congrFun (eg_u_ne (vne hc (a := 80) (by decide))) j).trans rfl).symm.trans hK
theorem fw_219 {M : eM} {c : Nat} {a : Int} {x : Int × eM} (hx : fn_219 a M = some x) (hc : c ∉ ([45, 80] : List Nat)) (j : Nat) : ((x).2) c j = M c j := by
  obtain ⟨v, hK⟩ : ∃ v, ((x).2) c j = v := ⟨_, rfl⟩
  rw [hK]
  refine Eq.symm ?_
  obtain ⟨_, hx⟩ := vb_if hx
  obtain ⟨r3, h2, hx⟩ := vb_bind hx
  refine vb_ite hx (fun _ hx => ?_) (fun _ hx => ?_)
  · have hz := fw_219_22 hc hx hK
    exact (Eq.refl _).symm.trans hz
  · refine vb_ite hx (fun _ hx => ?_) (fun _ hx => ?_)
    · have hz := fw_219_22 hc hx hK
      exact (Eq.refl _).symm.trans hz
    · obtain ⟨r15, h14, hx⟩ := vb_bind hx
      have hx := Option.some.inj hx
      subst hx
      exact ((fw_213 h14 (vsub hc (by decide)) j).trans rfl).symm.trans hK
noncomputable def fn_220_54 (x1 : Int) (x2 : Int) (y0 : Int) (M : eM) : Option (Int × eM) :=
  if 0 ≤ x2 ∧ x2 < 20100 then
  if ¬ y0 = 0 then
      (fn_213 (M 45 70) M).bind fun r10 =>
      some (r10.1, r10.2)
    else
      if 0 ≤ (M 53 (x2).toNat) then
        if 0 ≤ (eg_wi ((M 45 53) - 1)) ∧ (eg_wi ((M 45 53) - 1)) < 4400 then
        some (2, eg_u M 80 (eg_wi ((M 45 53) - 1)).toNat (M 53 (x2).toNat))
        else none
      else
        (fn_213 (M 45 70) M).bind fun r15 =>
        some (r15.1, r15.2)
  else none
noncomputable def fn_220_20 (x1 : Int) (x2 : Int) (y0 : Int) (M : eM) : Option (Int × eM) :=
  if ¬ x1 = 0 then
    if y0 = 0 then
      if (M 45 70) = 8589934592 then
        fn_220_54 x1 x2 0 M
      else
        fn_220_54 x1 x2 1 M
    else
      if ¬ (M 45 70) = 8589934592 then
        fn_220_54 x1 x2 0 M
      else
        fn_220_54 x1 x2 1 M
  else
    if 0 ≤ x2 then
      some (2, M)
    else
      if y0 = 0 then
        (fn_213 8589934592 M).bind fun r21 =>
        some (r21.1, r21.2)
      else
        (fn_213 4294967296 M).bind fun r24 =>
        some (r24.1, r24.2)
/-- 220: WeakSchemeModel.stepAnd(Z)I -/
noncomputable def fn_220 (a : Int) (M : eM) : Option (Int × eM) :=
  if 0 ≤ (eg_wi ((M 45 53) - 1)) ∧ (eg_wi ((M 45 53) - 1)) < 4400 then
  if ¬ (M 78 (eg_wi ((M 45 53) - 1)).toNat) = 8 then
      fn_220_20 a (M 80 (eg_wi ((M 45 53) - 1)).toNat) 0 M
    else
      fn_220_20 a (M 80 (eg_wi ((M 45 53) - 1)).toNat) 1 M
  else none
set_option maxRecDepth 100000 in
theorem ft_220_54 {cn mo : Nat} {sc : eg_Sc} {d : Nat} {M : eM} {Q : Option eg_V → eg_H → Prop} {x1 : Int} {x2 : Int} {y0 : Int} {x : Int × eM} (hx : fn_220_54 x1 x2 y0 M = some x) (hK : (fun (x : Int × eM) => Q (some (.inl ((x).1))) (em_L cn mo, eh_R, (x).2)) x) : ∀ (w3 w4 w5 : Option eg_V), eg_X sc (eg_wp sc (d + 2)) eg_p220 (some .int) 0 0 Q 54 [some (.inr (.inr (some 45))), some (.inl x1), some (.inl x2), w3, w4, w5] [.inl y0] (em_L cn mo, eh_R, M) 0 0 := by
  intro w3 w4 w5
  refine eg_k_istore (lv' := [some (.inr (.inr (some 45))), some (.inl x1), some (.inl x2), ev_nw w3, some (.inl y0), w5]) rfl (by rcases w3 with _ | (_ | (_ | _)) <;> rfl) ?_
  refine eg_k_aload rfl rfl ?_
  refine eg_k_gfa rfl rfl rfl eh_r45_12 ?_
  refine eg_k_iload rfl rfl ?_
  obtain ⟨b7, hx⟩ := vb_if hx
  refine eg_k_iald (k := 20100) rfl rfl b7.1 b7.2 ?_
  refine eg_k_istore (lv' := [some (.inr (.inr (some 45))), some (.inl x1), some (.inl x2), ev_nw w3, some (.inl y0), some (.inl (M 53 (x2).toNat))]) rfl rfl ?_
  refine eg_k_iload rfl rfl ?_
  refine vk_if rfl hx Iff.rfl (fun c8 hx => ?_) (fun c8 hx => ?_)
  · refine eg_k_aload rfl rfl ?_
    refine eg_k_aload rfl rfl ?_
    refine eg_k_gfl rfl rfl rfl ?_
    obtain ⟨r10, h9, hx⟩ := vb_bind hx
    refine eg_k_call (c1 := 0) (z1 := 0) (as := [.inr (.inr (some 45)), .inr (.inl (M 45 70))]) (rest := []) rfl eg_tj213 (Nat.le_of_ble_eq_true rfl) rfl rfl rfl (Nat.le_of_ble_eq_true rfl) (Nat.le_refl _) (Nat.le_refl _) ?_ (fun Q hQ => ft_213 h9 hQ)
    have hx := Option.some.inj hx
    subst hx
    exact eg_k_iret rfl True.intro (Nat.le_refl _) (Nat.le_refl _) hK
  · refine eg_k_iload rfl rfl ?_
    refine vk_if rfl hx Iff.rfl (fun c12 hx => ?_) (fun c12 hx => ?_)
    · refine eg_k_aload rfl rfl ?_
      refine eg_k_gfa rfl rfl rfl eh_r45_56 ?_
      refine eg_k_aload rfl rfl ?_
      refine eg_k_gfi rfl rfl rfl ?_
      refine eg_k_ci rfl ?_
      refine eg_k_isub rfl ?_
      refine eg_k_iload rfl rfl ?_
      obtain ⟨b13, hx⟩ := vb_if hx
      refine eg_k_iast (k := 4400) rfl rfl b13.1 b13.2 ?_
      refine eg_k_ci rfl ?_
      have hx := Option.some.inj hx
      subst hx
      exact eg_k_iret rfl True.intro (Nat.le_refl _) (Nat.le_refl _) hK
    · refine eg_k_aload rfl rfl ?_
      refine eg_k_aload rfl rfl ?_
      refine eg_k_gfl rfl rfl rfl ?_
      obtain ⟨r15, h14, hx⟩ := vb_bind hx
      refine eg_k_call (c1 := 0) (z1 := 0) (as := [.inr (.inr (some 45)), .inr (.inl (M 45 70))]) (rest := []) rfl eg_tj213 (Nat.le_of_ble_eq_true rfl) rfl rfl rfl (Nat.le_of_ble_eq_true rfl) (Nat.le_refl _) (Nat.le_refl _) ?_ (fun Q hQ => ft_213 h14 hQ)
      have hx := Option.some.inj hx
      subst hx
      exact eg_k_iret rfl True.intro (Nat.le_refl _) (Nat.le_refl _) hK
set_option maxRecDepth 100000 in
theorem ft_220_20 {cn mo : Nat} {sc : eg_Sc} {d : Nat} {M : eM} {Q : Option eg_V → eg_H → Prop} {x1 : Int} {x2 : Int} {y0 : Int} {x : Int × eM} (hx : fn_220_20 x1 x2 y0 M = some x) (hK : (fun (x : Int × eM) => Q (some (.inl ((x).1))) (em_L cn mo, eh_R, (x).2)) x) : ∀ (w3 w4 w5 : Option eg_V), eg_X sc (eg_wp sc (d + 2)) eg_p220 (some .int) 0 0 Q 20 [some (.inr (.inr (some 45))), some (.inl x1), some (.inl x2), w3, w4, w5] [.inl y0] (em_L cn mo, eh_R, M) 0 0 := by
  intro w3 w4 w5
  refine eg_k_istore (lv' := [some (.inr (.inr (some 45))), some (.inl x1), some (.inl x2), some (.inl y0), w4, w5]) rfl rfl ?_
  refine eg_k_iload rfl rfl ?_
  refine vk_if rfl hx Iff.rfl (fun c4 hx => ?_) (fun c4 hx => ?_)
  · refine eg_k_iload rfl rfl ?_
    refine vk_if rfl hx Iff.rfl (fun c5 hx => ?_) (fun c5 hx => ?_)
    · refine eg_k_aload rfl rfl ?_
      refine eg_k_gfl rfl rfl rfl ?_
      refine eg_k_cl rfl ?_
      refine vk_lcmp rfl rfl hx Iff.rfl (fun c6 hx => ?_) (fun c6 hx => ?_)
      · refine eg_k_ci rfl ?_
        have hz := ft_220_54 (d := d) (sc := sc) hx hK
        exact hz (some (.inl y0)) w4 w5
      · refine eg_k_ci rfl ?_
        refine eg_k_goto rfl ?_
        have hz := ft_220_54 (d := d) (sc := sc) hx hK
        exact hz (some (.inl y0)) w4 w5
    · refine eg_k_aload rfl rfl ?_
      refine eg_k_gfl rfl rfl rfl ?_
      refine eg_k_cl rfl ?_
      refine vk_lcmp rfl rfl hx Iff.rfl (fun c17 hx => ?_) (fun c17 hx => ?_)
      · refine eg_k_ci rfl ?_
        refine eg_k_goto rfl ?_
        have hz := ft_220_54 (d := d) (sc := sc) hx hK
        exact hz (some (.inl y0)) w4 w5
      · refine eg_k_ci rfl ?_
        refine eg_k_goto rfl ?_
        have hz := ft_220_54 (d := d) (sc := sc) hx hK
        exact hz (some (.inl y0)) w4 w5
  · refine eg_k_iload rfl rfl ?_
    refine vk_if rfl hx Iff.rfl (fun c18 hx => ?_) (fun c18 hx => ?_)
    · refine eg_k_ci rfl ?_
      have hx := Option.some.inj hx
      subst hx
      exact eg_k_iret rfl True.intro (Nat.le_refl _) (Nat.le_refl _) hK
    · refine eg_k_aload rfl rfl ?_
      refine eg_k_iload rfl rfl ?_
      refine vk_if rfl hx Iff.rfl (fun c19 hx => ?_) (fun c19 hx => ?_)
      · refine eg_k_cl rfl ?_
        obtain ⟨r21, h20, hx⟩ := vb_bind hx
        refine eg_k_call (c1 := 0) (z1 := 0) (as := [.inr (.inr (some 45)), .inr (.inl 8589934592)]) (rest := []) rfl eg_tj213 (Nat.le_of_ble_eq_true rfl) rfl rfl rfl (Nat.le_of_ble_eq_true rfl) (Nat.le_refl _) (Nat.le_refl _) ?_ (fun Q hQ => ft_213 h20 hQ)
        refine eg_k_goto rfl ?_
        have hx := Option.some.inj hx
        subst hx
        exact eg_k_iret rfl True.intro (Nat.le_refl _) (Nat.le_refl _) hK
      · refine eg_k_cl rfl ?_
        refine eg_k_goto rfl ?_
        obtain ⟨r24, h23, hx⟩ := vb_bind hx
        refine eg_k_call (c1 := 0) (z1 := 0) (as := [.inr (.inr (some 45)), .inr (.inl 4294967296)]) (rest := []) rfl eg_tj213 (Nat.le_of_ble_eq_true rfl) rfl rfl rfl (Nat.le_of_ble_eq_true rfl) (Nat.le_refl _) (Nat.le_refl _) ?_ (fun Q hQ => ft_213 h23 hQ)
        refine eg_k_goto rfl ?_
        have hx := Option.some.inj hx
        subst hx
        exact eg_k_iret rfl True.intro (Nat.le_refl _) (Nat.le_refl _) hK
set_option maxRecDepth 100000 in
theorem ft_220 {cn mo : Nat} {sc : eg_Sc} {d : Nat} {M : eM} {Q : Option eg_V → eg_H → Prop} {a : Int} {x : Int × eM} (hx : fn_220 a M = some x) (hK : Q (some (.inl ((x).1))) (em_L cn mo, eh_R, (x).2)) : eg_wp sc (d + 3) 220 [.inr (.inr (some 45)), .inl a] (em_L cn mo, eh_R, M) 0 0 Q := by
  refine eg_in (lv := [some (.inr (.inr (some 45))), some (.inl a), none, none, none, none]) eg_tj220 (Nat.le_of_ble_eq_true rfl) rfl ?_
  refine eg_k_aload rfl rfl ?_
  refine eg_k_gfa rfl rfl rfl eh_r45_56 ?_
  refine eg_k_aload rfl rfl ?_
  refine eg_k_gfi rfl rfl rfl ?_
  refine eg_k_ci rfl ?_
  refine eg_k_isub rfl ?_
  obtain ⟨b1, hx⟩ := vb_if hx
  refine eg_k_iald (k := 4400) rfl rfl b1.1 b1.2 ?_
  refine eg_k_istore (lv' := [some (.inr (.inr (some 45))), some (.inl a), some (.inl (M 80 (eg_wi ((M 45 53) - 1)).toNat)), none, none, none]) rfl rfl ?_
  refine eg_k_aload rfl rfl ?_
  refine eg_k_gfa rfl rfl rfl eh_r45_54 ?_
  refine eg_k_aload rfl rfl ?_
  refine eg_k_gfi rfl rfl rfl ?_
  refine eg_k_ci rfl ?_
  refine eg_k_isub rfl ?_
  refine eg_k_bald (k := 4400) rfl rfl b1.1 b1.2 ?_
  refine eg_k_ci rfl ?_
  refine vk_icmp rfl hx Iff.rfl (fun c3 hx => ?_) (fun c3 hx => ?_)
  · refine eg_k_ci rfl ?_
    have hz := ft_220_20 (d := d) (sc := sc) hx hK
    exact hz none none none
  · refine eg_k_ci rfl ?_
    refine eg_k_goto rfl ?_
    have hz := ft_220_20 (d := d) (sc := sc) hx hK
    exact hz none none none
theorem fw_220_54 {M : eM} {c j : Nat} {v : Int} {x1 : Int} {x2 : Int} {y0 : Int} {x : Int × eM} (hc : c ∉ ([45, 80] : List Nat)) (hx : fn_220_54 x1 x2 y0 M = some x) (hK : (fun (x : Int × eM) => ((x).2) c j = v) x) : M c j = v := by
  obtain ⟨_, hx⟩ := vb_if hx
  refine vb_ite hx (fun _ hx => ?_) (fun _ hx => ?_)
  · obtain ⟨r10, h9, hx⟩ := vb_bind hx
    have hx := Option.some.inj hx
    subst hx
    exact ((fw_213 h9 (vsub hc (by decide)) j).trans rfl).symm.trans hK
  · refine vb_ite hx (fun _ hx => ?_) (fun _ hx => ?_)
    · obtain ⟨_, hx⟩ := vb_if hx
      have hx := Option.some.inj hx
      subst hx
      exact ((congrFun (eg_u_ne (vne hc (a := 80) (by decide))) j).trans rfl).symm.trans hK
    · obtain ⟨r15, h14, hx⟩ := vb_bind hx
      have hx := Option.some.inj hx
      subst hx
      exact ((fw_213 h14 (vsub hc (by decide)) j).trans rfl).symm.trans hK
theorem fw_220_20 {M : eM} {c j : Nat} {v : Int} {x1 : Int} {x2 : Int} {y0 : Int} {x : Int × eM} (hc : c ∉ ([45, 80] : List Nat)) (hx : fn_220_20 x1 x2 y0 M = some x) (hK : (fun (x : Int × eM) => ((x).2) c j = v) x) : M c j = v := by
  refine vb_ite hx (fun _ hx => ?_) (fun _ hx => ?_)
  · refine vb_ite hx (fun _ hx => ?_) (fun _ hx => ?_)
    · refine vb_ite hx (fun _ hx => ?_) (fun _ hx => ?_)
      · have hz := fw_220_54 hc hx hK
        exact (Eq.refl _).symm.trans hz
      · have hz := fw_220_54 hc hx hK
        exact (Eq.refl _).symm.trans hz
    · refine vb_ite hx (fun _ hx => ?_) (fun _ hx => ?_)
      · have hz := fw_220_54 hc hx hK
        exact (Eq.refl _).symm.trans hz
      · have hz := fw_220_54 hc hx hK
        exact (Eq.refl _).symm.trans hz
  · refine vb_ite hx (fun _ hx => ?_) (fun _ hx => ?_)
    · have hx := Option.some.inj hx
      subst hx
      exact (Eq.refl _).symm.trans hK
    · refine vb_ite hx (fun _ hx => ?_) (fun _ hx => ?_)
      · obtain ⟨r21, h20, hx⟩ := vb_bind hx
        have hx := Option.some.inj hx
        subst hx
        exact ((fw_213 h20 (vsub hc (by decide)) j).trans rfl).symm.trans hK
      · obtain ⟨r24, h23, hx⟩ := vb_bind hx
        have hx := Option.some.inj hx
        subst hx
        exact ((fw_213 h23 (vsub hc (by decide)) j).trans rfl).symm.trans hK
theorem fw_220 {M : eM} {c : Nat} {a : Int} {x : Int × eM} (hx : fn_220 a M = some x) (hc : c ∉ ([45, 80] : List Nat)) (j : Nat) : ((x).2) c j = M c j := by
  obtain ⟨v, hK⟩ : ∃ v, ((x).2) c j = v := ⟨_, rfl⟩
  rw [hK]
  refine Eq.symm ?_
  obtain ⟨_, hx⟩ := vb_if hx
  refine vb_ite hx (fun _ hx => ?_) (fun _ hx => ?_)
  · have hz := fw_220_20 hc hx hK
    exact (Eq.refl _).symm.trans hz
  · have hz := fw_220_20 hc hx hK
    exact (Eq.refl _).symm.trans hz
noncomputable def fn_224_42 (x1 : Int) (x3 : Int) (x4 : Int) (x5 : Int) (x7 : Int) (s1 : Int) (s2 : eM) : Option ((Int × eM) ⊕ (Int × eM)) :=
  if x4 ≤ s1 then
    if 0 ≤ (eg_wi ((s2 45 53) - 1)) ∧ (eg_wi ((s2 45 53) - 1)) < 4400 then
    (fn_176 x7 (eg_u (eg_u (eg_u s2 45 51 x3) 80 (eg_wi ((s2 45 53) - 1)).toNat (-3)) 45 68 (eg_wi ((s2 45 68) + 1)))).bind fun r20 =>
      if 0 ≤ r20 ∧ r20 < 20100 then
      (fn_209 11 x7 x5 (s2 53 (r20).toNat) (eg_u (eg_u (eg_u s2 45 51 x3) 80 (eg_wi ((s2 45 53) - 1)).toNat (-3)) 45 68 (eg_wi ((s2 45 68) + 1)))).bind fun m25 =>
        some (.inr (2, m25))
      else none
    else none
  else
    if 0 ≤ (eg_wi ((eg_wi (x3 + 1)) + s1)) ∧ (eg_wi ((eg_wi (x3 + 1)) + s1)) < 19000 then
    (fn_205 x5 (eg_wi (1 + s1)) (s2 77 (eg_wi ((eg_wi (x3 + 1)) + s1)).toNat) s2).bind fun m29 =>
      some (.inl (eg_wi (s1 + 1), m29))
    else none
/-- 224: WeakSchemeModel.enter(JII)I -/
noncomputable def fn_224 (a : Int) (b : Int) (e : Int) (M : eM) : Option (Int × eM) :=
  if ¬ (M 45 68) = 60 then
    (fn_189 a 0 M).bind fun r3 =>
    (fn_195 3 (eg_wi (1 + e)) r3 M).bind fun r6 =>
    if ¬ r6.1 = (-1) then
      (fn_187 a r6.2).bind fun r10 =>
      if 0 ≤ r10 ∧ r10 < 6700 then
      (fn_187 r6.1 r6.2).bind fun r14 =>
        if 0 ≤ r14 ∧ r14 < 6700 then
        lp (fun z => fn_224_42 a b e r6.1 (r6.2 64 (r10).toNat) z.1 z.2) (0, eg_u r6.2 64 (r14).toNat (r6.2 64 (r10).toNat))
        else none
      else none
    else
      (fn_185 (r6.2 45 66) r6.2).bind fun r31 =>
      some (r31.1, r31.2)
  else
    (fn_185 8 M).bind fun r34 =>
    some (r34.1, r34.2)
set_option maxRecDepth 100000 in
theorem ft_224_42 {cn mo : Nat} {sc : eg_Sc} {d : Nat} {Q : Option eg_V → eg_H → Prop} {x1 : Int} {x3 : Int} {x4 : Int} {x5 : Int} {x7 : Int} {s : Int × eM} {x : Int × eM} (hx : lp (fun z => fn_224_42 x1 x3 x4 x5 x7 z.1 z.2) s = some x) (hK : (fun (x : Int × eM) => Q (some (.inl ((x).1))) (em_L cn mo, eh_R, (x).2)) x) : eg_X sc (eg_wp sc (d + 8)) eg_p224 (some .int) 0 0 Q 42 [some (.inr (.inr (some 45))), some (.inr (.inl x1)), none, some (.inl x3), some (.inl x4), some (.inr (.inl x5)), none, some (.inl x7), some (.inl s.1)] [] (em_L cn mo, eh_R, s.2) 0 0 := by
  refine lp_sound (P := (fun (s : Int × eM) => eg_X sc (eg_wp sc (d + 8)) eg_p224 (some .int) 0 0 Q 42 [some (.inr (.inr (some 45))), some (.inr (.inl x1)), none, some (.inl x3), some (.inl x4), some (.inr (.inl x5)), none, some (.inl x7), some (.inl s.1)] [] (em_L cn mo, eh_R, s.2) 0 0)) (K := (fun (x : Int × eM) => Q (some (.inl ((x).1))) (em_L cn mo, eh_R, (x).2))) hx hK ?_
  intro s x hx hK
  obtain ⟨s1, s2⟩ := s
  refine eg_k_iload rfl rfl ?_
  refine eg_k_iload rfl rfl ?_
  refine vk_icmp rfl hx Iff.rfl (fun c17 hx => ?_) (fun c17 hx => ?_)
  · refine eg_k_aload rfl rfl ?_
    refine eg_k_iload rfl rfl ?_
    refine eg_k_pfi rfl rfl rfl ?_
    refine eg_k_aload rfl rfl ?_
    refine eg_k_gfa rfl rfl rfl eh_r45_56 ?_
    refine eg_k_aload rfl rfl ?_
    refine eg_k_gfie (x := s2 45 53) rfl rfl rfl rfl ?_
    refine eg_k_ci rfl ?_
    refine eg_k_isub rfl ?_
    refine eg_k_ci rfl ?_
    obtain ⟨b18, hx⟩ := vb_if hx
    refine eg_k_iast (k := 4400) rfl rfl b18.1 b18.2 ?_
    refine eg_k_aload rfl rfl ?_
    refine eg_k_aload rfl rfl ?_
    refine eg_k_gfie (x := s2 45 68) rfl rfl rfl rfl ?_
    refine eg_k_ci rfl ?_
    refine eg_k_iadd rfl ?_
    refine eg_k_pfi rfl rfl rfl ?_
    refine eg_k_aload rfl rfl ?_
    refine eg_k_ci rfl ?_
    refine eg_k_iload rfl rfl ?_
    refine eg_k_lload rfl rfl ?_
    refine eg_k_aload rfl rfl ?_
    refine eg_k_gfa rfl rfl rfl eh_r45_12 ?_
    refine eg_k_aload rfl rfl ?_
    refine eg_k_iload rfl rfl ?_
    obtain ⟨r20, h19, hx⟩ := vb_bind hx
    refine eg_k_call (c1 := 0) (z1 := 0) (as := [.inr (.inr (some 45)), .inl x7]) (rest := [.inr (.inr (some 53)), .inr (.inl x5), .inl x7, .inl 11, .inr (.inr (some 45))]) rfl eg_tj176 (Nat.le_of_ble_eq_true rfl) rfl rfl rfl (Nat.le_of_ble_eq_true rfl) (Nat.le_refl _) (Nat.le_refl _) ?_ (fun Q hQ => ft_176 h19 hQ)
    obtain ⟨b22, hx⟩ := vb_if hx
    refine vk_iald (k := 20100) (y := s2 53 (r20).toNat) rfl rfl b22.1 b22.2 rfl ?_
    obtain ⟨m25, h23, hx⟩ := vb_bind hx
    refine eg_k_call (c1 := 0) (z1 := 0) (as := [.inr (.inr (some 45)), .inl 11, .inl x7, .inr (.inl x5), .inl (s2 53 (r20).toNat)]) (rest := []) rfl eg_tj209 (Nat.le_of_ble_eq_true rfl) rfl rfl rfl (Nat.le_of_ble_eq_true rfl) (Nat.le_refl _) (Nat.le_refl _) ?_ (fun Q hQ => ft_209 h23 hQ)
    refine eg_k_ci rfl ?_
    have hx := Option.some.inj hx
    subst hx
    exact eg_k_iret rfl True.intro (Nat.le_refl _) (Nat.le_refl _) hK
  · refine eg_k_aload rfl rfl ?_
    refine eg_k_lload rfl rfl ?_
    refine eg_k_ci rfl ?_
    refine eg_k_iload rfl rfl ?_
    refine eg_k_iadd rfl ?_
    refine eg_k_aload rfl rfl ?_
    refine eg_k_gfa rfl rfl rfl eh_r45_52 ?_
    refine eg_k_iload rfl rfl ?_
    refine eg_k_ci rfl ?_
    refine eg_k_iadd rfl ?_
    refine eg_k_iload rfl rfl ?_
    refine eg_k_iadd rfl ?_
    obtain ⟨b26, hx⟩ := vb_if hx
    refine eg_k_lald (k := 19000) rfl rfl b26.1 b26.2 ?_
    obtain ⟨m29, h27, hx⟩ := vb_bind hx
    refine eg_k_call (c1 := 0) (z1 := 0) (as := [.inr (.inr (some 45)), .inr (.inl x5), .inl (eg_wi (1 + s1)), .inr (.inl (s2 77 (eg_wi ((eg_wi (x3 + 1)) + s1)).toNat))]) (rest := []) rfl eg_tj205 (Nat.le_of_ble_eq_true rfl) rfl rfl rfl (Nat.le_of_ble_eq_true rfl) (Nat.le_refl _) (Nat.le_refl _) ?_ (fun Q hQ => ft_205 h27 hQ)
    refine eg_k_iinc (lv' := [some (.inr (.inr (some 45))), some (.inr (.inl x1)), none, some (.inl x3), some (.inl x4), some (.inr (.inl x5)), none, some (.inl x7), some (.inl (eg_wi (s1 + 1)))]) rfl rfl rfl ?_
    refine eg_k_goto rfl ?_
    have hx := Option.some.inj hx
    subst hx
    exact hK
set_option maxRecDepth 100000 in
theorem ft_224 {cn mo : Nat} {sc : eg_Sc} {d : Nat} {M : eM} {Q : Option eg_V → eg_H → Prop} {a : Int} {b : Int} {e : Int} {x : Int × eM} (hx : fn_224 a b e M = some x) (hK : Q (some (.inl ((x).1))) (em_L cn mo, eh_R, (x).2)) : eg_wp sc (d + 9) 224 [.inr (.inr (some 45)), .inr (.inl a), .inl b, .inl e] (em_L cn mo, eh_R, M) 0 0 Q := by
  refine eg_in (lv := [some (.inr (.inr (some 45))), some (.inr (.inl a)), none, some (.inl b), some (.inl e), none, none, none, none]) eg_tj224 (Nat.le_of_ble_eq_true rfl) rfl ?_
  refine eg_k_aload rfl rfl ?_
  refine eg_k_gfi rfl rfl rfl ?_
  refine eg_k_ci rfl ?_
  refine vk_icmp rfl hx Iff.rfl (fun c1 hx => ?_) (fun c1 hx => ?_)
  · refine eg_k_aload rfl rfl ?_
    refine eg_k_ci rfl ?_
    refine eg_k_ci rfl ?_
    refine eg_k_iload rfl rfl ?_
    refine eg_k_iadd rfl ?_
    refine eg_k_aload rfl rfl ?_
    refine eg_k_lload rfl rfl ?_
    refine eg_k_ci rfl ?_
    obtain ⟨r3, h2, hx⟩ := vb_bind hx
    refine eg_k_call (c1 := 0) (z1 := 0) (as := [.inr (.inr (some 45)), .inr (.inl a), .inl 0]) (rest := [.inl (eg_wi (1 + e)), .inl 3, .inr (.inr (some 45))]) rfl eg_tj189 (Nat.le_of_ble_eq_true rfl) rfl rfl rfl (Nat.le_of_ble_eq_true rfl) (Nat.le_refl _) (Nat.le_refl _) ?_ (fun Q hQ => ft_189 h2 hQ)
    obtain ⟨r6, h5, hx⟩ := vb_bind hx
    refine eg_k_call (c1 := 0) (z1 := 0) (as := [.inr (.inr (some 45)), .inl 3, .inl (eg_wi (1 + e)), .inr (.inl r3)]) (rest := []) rfl eg_tj195 (Nat.le_of_ble_eq_true rfl) rfl rfl rfl (Nat.le_of_ble_eq_true rfl) (Nat.le_refl _) (Nat.le_refl _) ?_ (fun Q hQ => ft_195 h5 hQ)
    refine eg_k_lstore (lv' := [some (.inr (.inr (some 45))), some (.inr (.inl a)), none, some (.inl b), some (.inl e), some (.inr (.inl r6.1)), none, none, none]) rfl rfl ?_
    refine eg_k_lload rfl rfl ?_
    refine eg_k_cl rfl ?_
    refine vk_lcmp rfl rfl hx Iff.rfl (fun c8 hx => ?_) (fun c8 hx => ?_)
    · refine eg_k_aload rfl rfl ?_
      refine eg_k_gfa rfl rfl rfl eh_r45_32 ?_
      refine eg_k_lload rfl rfl ?_
      obtain ⟨r10, h9, hx⟩ := vb_bind hx
      refine eg_k_call (c1 := 0) (z1 := 0) (as := [.inr (.inl a)]) (rest := [.inr (.inr (some 64))]) rfl eg_tj187 (Nat.le_of_ble_eq_true rfl) rfl rfl trivial (Nat.le_of_ble_eq_true rfl) (Nat.le_refl _) (Nat.le_refl _) ?_ (fun Q hQ => ft_187 h9 hQ)
      obtain ⟨b12, hx⟩ := vb_if hx
      refine eg_k_iald (k := 6700) rfl rfl b12.1 b12.2 ?_
      refine eg_k_istore (lv' := [some (.inr (.inr (some 45))), some (.inr (.inl a)), none, some (.inl b), some (.inl e), some (.inr (.inl r6.1)), none, some (.inl (r6.2 64 (r10).toNat)), none]) rfl rfl ?_
      refine eg_k_aload rfl rfl ?_
      refine eg_k_gfa rfl rfl rfl eh_r45_32 ?_
      refine eg_k_lload rfl rfl ?_
      obtain ⟨r14, h13, hx⟩ := vb_bind hx
      refine eg_k_call (c1 := 0) (z1 := 0) (as := [.inr (.inl r6.1)]) (rest := [.inr (.inr (some 64))]) rfl eg_tj187 (Nat.le_of_ble_eq_true rfl) rfl rfl trivial (Nat.le_of_ble_eq_true rfl) (Nat.le_refl _) (Nat.le_refl _) ?_ (fun Q hQ => ft_187 h13 hQ)
      refine eg_k_iload rfl rfl ?_
      obtain ⟨b16, hx⟩ := vb_if hx
      refine eg_k_iast (k := 6700) rfl rfl b16.1 b16.2 ?_
      refine eg_k_ci rfl ?_
      refine eg_k_istore (lv' := [some (.inr (.inr (some 45))), some (.inr (.inl a)), none, some (.inl b), some (.inl e), some (.inr (.inl r6.1)), none, some (.inl (r6.2 64 (r10).toNat)), some (.inl 0)]) rfl rfl ?_
      have hz := ft_224_42 (d := d) (sc := sc) hx hK
      exact hz
    · refine eg_k_aload rfl rfl ?_
      refine eg_k_aload rfl rfl ?_
      refine eg_k_gfi rfl rfl rfl ?_
      obtain ⟨r31, h30, hx⟩ := vb_bind hx
      refine eg_k_call (c1 := 0) (z1 := 0) (as := [.inr (.inr (some 45)), .inl (r6.2 45 66)]) (rest := []) rfl eg_tj185 (Nat.le_of_ble_eq_true rfl) rfl rfl rfl (Nat.le_of_ble_eq_true rfl) (Nat.le_refl _) (Nat.le_refl _) ?_ (fun Q hQ => ft_185 h30 hQ)
      have hx := Option.some.inj hx
      subst hx
      exact eg_k_iret rfl True.intro (Nat.le_refl _) (Nat.le_refl _) hK
  · refine eg_k_aload rfl rfl ?_
    refine eg_k_ci rfl ?_
    obtain ⟨r34, h33, hx⟩ := vb_bind hx
    refine eg_k_call (c1 := 0) (z1 := 0) (as := [.inr (.inr (some 45)), .inl 8]) (rest := []) rfl eg_tj185 (Nat.le_of_ble_eq_true rfl) rfl rfl rfl (Nat.le_of_ble_eq_true rfl) (Nat.le_refl _) (Nat.le_refl _) ?_ (fun Q hQ => ft_185 h33 hQ)
    have hx := Option.some.inj hx
    subst hx
    exact eg_k_iret rfl True.intro (Nat.le_refl _) (Nat.le_refl _) hK
theorem fw_224_42 {c j : Nat} {v : Int} {x1 : Int} {x3 : Int} {x4 : Int} {x5 : Int} {x7 : Int} {s : Int × eM} {x : Int × eM} (hc : c ∉ ([45, 62, 63, 64, 65, 66, 67, 68, 69, 70, 71, 73, 74, 75, 76, 78, 79, 80, 81, 82, 85] : List Nat)) (hx : lp (fun z => fn_224_42 x1 x3 x4 x5 x7 z.1 z.2) s = some x) (hK : (fun (x : Int × eM) => ((x).2) c j = v) x) : s.2 c j = v := by
  refine lp_sound (P := (fun (s : Int × eM) => s.2 c j = v)) (K := (fun (x : Int × eM) => ((x).2) c j = v)) hx hK ?_
  intro s x hx hK
  obtain ⟨s1, s2⟩ := s
  refine vb_ite hx (fun _ hx => ?_) (fun _ hx => ?_)
  · obtain ⟨_, hx⟩ := vb_if hx
    obtain ⟨r20, h19, hx⟩ := vb_bind hx
    obtain ⟨_, hx⟩ := vb_if hx
    obtain ⟨m25, h23, hx⟩ := vb_bind hx
    have hx := Option.some.inj hx
    subst hx
    exact ((fw_209 h23 (vsub hc (by decide)) j).trans ((congrFun (eg_u_ne (vne hc (a := 45) (by decide))) j).trans ((congrFun (eg_u_ne (vne hc (a := 80) (by decide))) j).trans ((congrFun (eg_u_ne (vne hc (a := 45) (by decide))) j).trans rfl)))).symm.trans hK
  · obtain ⟨_, hx⟩ := vb_if hx
    obtain ⟨m29, h27, hx⟩ := vb_bind hx
    have hx := Option.some.inj hx
    subst hx
    exact ((fw_205 h27 (vsub hc (by decide)) j).trans rfl).symm.trans hK
theorem fw_224 {M : eM} {c : Nat} {a : Int} {b : Int} {e : Int} {x : Int × eM} (hx : fn_224 a b e M = some x) (hc : c ∉ ([45, 62, 63, 64, 65, 66, 67, 68, 69, 70, 71, 73, 74, 75, 76, 78, 79, 80, 81, 82, 85] : List Nat)) (j : Nat) : ((x).2) c j = M c j := by
  obtain ⟨v, hK⟩ : ∃ v, ((x).2) c j = v := ⟨_, rfl⟩
  rw [hK]
  refine Eq.symm ?_
  refine vb_ite hx (fun _ hx => ?_) (fun _ hx => ?_)
  · obtain ⟨r3, h2, hx⟩ := vb_bind hx
    obtain ⟨r6, h5, hx⟩ := vb_bind hx
    refine vb_ite hx (fun _ hx => ?_) (fun _ hx => ?_)
    · obtain ⟨r10, h9, hx⟩ := vb_bind hx
      obtain ⟨_, hx⟩ := vb_if hx
      obtain ⟨r14, h13, hx⟩ := vb_bind hx
      obtain ⟨_, hx⟩ := vb_if hx
      have hz := fw_224_42 hc hx hK
      exact ((congrFun (eg_u_ne (vne hc (a := 64) (by decide))) j).trans ((fw_195 h5 (vsub hc (by decide)) j).trans rfl)).symm.trans hz
    · obtain ⟨r31, h30, hx⟩ := vb_bind hx
      have hx := Option.some.inj hx
      subst hx
      exact ((fw_185 h30 (vsub hc (by decide)) j).trans ((fw_195 h5 (vsub hc (by decide)) j).trans rfl)).symm.trans hK
  · obtain ⟨r34, h33, hx⟩ := vb_bind hx
    have hx := Option.some.inj hx
    subst hx
    exact ((fw_185 h33 (vsub hc (by decide)) j).trans rfl).symm.trans hK
/-- 225: WeakSchemeModel.operands(I)I -/
noncomputable def fn_225 (a : Int) (M : eM) : Option (Int) :=
  if a = 8 then
    some 1
  else if a = 9 then
    some 1
  else if a = 10 then
    some 1
  else if a = 11 then
    some 2
  else if a = 12 then
    some 1
  else if a = 13 then
    some 1
  else if a = 14 then
    some 2
  else if a = 15 then
    some 2
  else if a = 16 then
    some 2
  else if a = 17 then
    some 2
  else if a = 18 then
    some 3
  else if a = 19 then
    some 1
  else if a = 20 then
    some 1
  else if a = 21 then
    some 1
  else if a = 22 then
    some 2
  else if a = 23 then
    some 1
  else if a = 24 then
    some 1
  else if a = 25 then
    some 0
  else if a = 26 then
    some 3
  else if a = 27 then
    some 2
  else if a = 28 then
    some 1
  else if a = 29 then
    some 2
  else if a = 30 then
    some 1
  else if a = 31 then
    some 0
  else if a = 32 then
    some 0
  else if a = 33 then
    some 1
  else 
    some 2
set_option maxRecDepth 100000 in
theorem ft_225 {cn mo : Nat} {sc : eg_Sc} {d : Nat} {M : eM} {Q : Option eg_V → eg_H → Prop} {a : Int} {x : Int} (hx : fn_225 a M = some x) (hK : Q (some (.inl x)) (em_L cn mo, eh_R, M)) : eg_wp sc (d + 1) 225 [.inl a] (em_L cn mo, eh_R, M) 0 0 Q := by
  refine eg_in (lv := [some (.inl a)]) eg_tj225 (Nat.le_of_ble_eq_true rfl) rfl ?_
  refine eg_k_iload rfl rfl ?_
  refine vb_ite hx (fun e9 hx => ?_) (fun e9 hx => ?_)
  · refine eg_k_tsw (x := a) (t := 4) rfl (by rw [e9]; rfl) ?_
    refine eg_k_ci rfl ?_
    have hx := Option.some.inj hx
    subst hx
    exact eg_k_iret rfl True.intro (Nat.le_refl _) (Nat.le_refl _) hK
  have e8_ := e9
  refine vb_ite hx (fun e9 hx => ?_) (fun e9 hx => ?_)
  · refine eg_k_tsw (x := a) (t := 4) rfl (by rw [e9]; rfl) ?_
    refine eg_k_ci rfl ?_
    have hx := Option.some.inj hx
    subst hx
    exact eg_k_iret rfl True.intro (Nat.le_refl _) (Nat.le_refl _) hK
  have e9_ := e9
  refine vb_ite hx (fun e9 hx => ?_) (fun e9 hx => ?_)
  · refine eg_k_tsw (x := a) (t := 4) rfl (by rw [e9]; rfl) ?_
    refine eg_k_ci rfl ?_
    have hx := Option.some.inj hx
    subst hx
    exact eg_k_iret rfl True.intro (Nat.le_refl _) (Nat.le_refl _) hK
  have e10_ := e9
  refine vb_ite hx (fun e9 hx => ?_) (fun e9 hx => ?_)
  · refine eg_k_tsw (x := a) (t := 8) rfl (by rw [e9]; rfl) ?_
    refine eg_k_ci rfl ?_
    have hx := Option.some.inj hx
    subst hx
    exact eg_k_iret rfl True.intro (Nat.le_refl _) (Nat.le_refl _) hK
  have e11_ := e9
  refine vb_ite hx (fun e9 hx => ?_) (fun e9 hx => ?_)
  · refine eg_k_tsw (x := a) (t := 4) rfl (by rw [e9]; rfl) ?_
    refine eg_k_ci rfl ?_
    have hx := Option.some.inj hx
    subst hx
    exact eg_k_iret rfl True.intro (Nat.le_refl _) (Nat.le_refl _) hK
  have e12_ := e9
  refine vb_ite hx (fun e9 hx => ?_) (fun e9 hx => ?_)
  · refine eg_k_tsw (x := a) (t := 4) rfl (by rw [e9]; rfl) ?_
    refine eg_k_ci rfl ?_
    have hx := Option.some.inj hx
    subst hx
    exact eg_k_iret rfl True.intro (Nat.le_refl _) (Nat.le_refl _) hK
  have e13_ := e9
  refine vb_ite hx (fun e9 hx => ?_) (fun e9 hx => ?_)
  · refine eg_k_tsw (x := a) (t := 8) rfl (by rw [e9]; rfl) ?_
    refine eg_k_ci rfl ?_
    have hx := Option.some.inj hx
    subst hx
    exact eg_k_iret rfl True.intro (Nat.le_refl _) (Nat.le_refl _) hK
  have e14_ := e9
  refine vb_ite hx (fun e9 hx => ?_) (fun e9 hx => ?_)
  · refine eg_k_tsw (x := a) (t := 8) rfl (by rw [e9]; rfl) ?_
    refine eg_k_ci rfl ?_
    have hx := Option.some.inj hx
    subst hx
    exact eg_k_iret rfl True.intro (Nat.le_refl _) (Nat.le_refl _) hK
  have e15_ := e9
  refine vb_ite hx (fun e9 hx => ?_) (fun e9 hx => ?_)
  · refine eg_k_tsw (x := a) (t := 8) rfl (by rw [e9]; rfl) ?_
    refine eg_k_ci rfl ?_
    have hx := Option.some.inj hx
    subst hx
    exact eg_k_iret rfl True.intro (Nat.le_refl _) (Nat.le_refl _) hK
  have e16_ := e9
  refine vb_ite hx (fun e9 hx => ?_) (fun e9 hx => ?_)
  · refine eg_k_tsw (x := a) (t := 8) rfl (by rw [e9]; rfl) ?_
    refine eg_k_ci rfl ?_
    have hx := Option.some.inj hx
    subst hx
    exact eg_k_iret rfl True.intro (Nat.le_refl _) (Nat.le_refl _) hK
  have e17_ := e9
  refine vb_ite hx (fun e9 hx => ?_) (fun e9 hx => ?_)
  · refine eg_k_tsw (x := a) (t := 6) rfl (by rw [e9]; rfl) ?_
    refine eg_k_ci rfl ?_
    have hx := Option.some.inj hx
    subst hx
    exact eg_k_iret rfl True.intro (Nat.le_refl _) (Nat.le_refl _) hK
  have e18_ := e9
  refine vb_ite hx (fun e9 hx => ?_) (fun e9 hx => ?_)
  · refine eg_k_tsw (x := a) (t := 4) rfl (by rw [e9]; rfl) ?_
    refine eg_k_ci rfl ?_
    have hx := Option.some.inj hx
    subst hx
    exact eg_k_iret rfl True.intro (Nat.le_refl _) (Nat.le_refl _) hK
  have e19_ := e9
  refine vb_ite hx (fun e9 hx => ?_) (fun e9 hx => ?_)
  · refine eg_k_tsw (x := a) (t := 4) rfl (by rw [e9]; rfl) ?_
    refine eg_k_ci rfl ?_
    have hx := Option.some.inj hx
    subst hx
    exact eg_k_iret rfl True.intro (Nat.le_refl _) (Nat.le_refl _) hK
  have e20_ := e9
  refine vb_ite hx (fun e9 hx => ?_) (fun e9 hx => ?_)
  · refine eg_k_tsw (x := a) (t := 4) rfl (by rw [e9]; rfl) ?_
    refine eg_k_ci rfl ?_
    have hx := Option.some.inj hx
    subst hx
    exact eg_k_iret rfl True.intro (Nat.le_refl _) (Nat.le_refl _) hK
  have e21_ := e9
  refine vb_ite hx (fun e9 hx => ?_) (fun e9 hx => ?_)
  · refine eg_k_tsw (x := a) (t := 8) rfl (by rw [e9]; rfl) ?_
    refine eg_k_ci rfl ?_
    have hx := Option.some.inj hx
    subst hx
    exact eg_k_iret rfl True.intro (Nat.le_refl _) (Nat.le_refl _) hK
  have e22_ := e9
  refine vb_ite hx (fun e9 hx => ?_) (fun e9 hx => ?_)
  · refine eg_k_tsw (x := a) (t := 4) rfl (by rw [e9]; rfl) ?_
    refine eg_k_ci rfl ?_
    have hx := Option.some.inj hx
    subst hx
    exact eg_k_iret rfl True.intro (Nat.le_refl _) (Nat.le_refl _) hK
  have e23_ := e9
  refine vb_ite hx (fun e9 hx => ?_) (fun e9 hx => ?_)
  · refine eg_k_tsw (x := a) (t := 4) rfl (by rw [e9]; rfl) ?_
    refine eg_k_ci rfl ?_
    have hx := Option.some.inj hx
    subst hx
    exact eg_k_iret rfl True.intro (Nat.le_refl _) (Nat.le_refl _) hK
  have e24_ := e9
  refine vb_ite hx (fun e9 hx => ?_) (fun e9 hx => ?_)
  · refine eg_k_tsw (x := a) (t := 2) rfl (by rw [e9]; rfl) ?_
    refine eg_k_ci rfl ?_
    have hx := Option.some.inj hx
    subst hx
    exact eg_k_iret rfl True.intro (Nat.le_refl _) (Nat.le_refl _) hK
  have e25_ := e9
  refine vb_ite hx (fun e9 hx => ?_) (fun e9 hx => ?_)
  · refine eg_k_tsw (x := a) (t := 6) rfl (by rw [e9]; rfl) ?_
    refine eg_k_ci rfl ?_
    have hx := Option.some.inj hx
    subst hx
    exact eg_k_iret rfl True.intro (Nat.le_refl _) (Nat.le_refl _) hK
  have e26_ := e9
  refine vb_ite hx (fun e9 hx => ?_) (fun e9 hx => ?_)
  · refine eg_k_tsw (x := a) (t := 8) rfl (by rw [e9]; rfl) ?_
    refine eg_k_ci rfl ?_
    have hx := Option.some.inj hx
    subst hx
    exact eg_k_iret rfl True.intro (Nat.le_refl _) (Nat.le_refl _) hK
  have e27_ := e9
  refine vb_ite hx (fun e9 hx => ?_) (fun e9 hx => ?_)
  · refine eg_k_tsw (x := a) (t := 4) rfl (by rw [e9]; rfl) ?_
    refine eg_k_ci rfl ?_
    have hx := Option.some.inj hx
    subst hx
    exact eg_k_iret rfl True.intro (Nat.le_refl _) (Nat.le_refl _) hK
  have e28_ := e9
  refine vb_ite hx (fun e9 hx => ?_) (fun e9 hx => ?_)
  · refine eg_k_tsw (x := a) (t := 8) rfl (by rw [e9]; rfl) ?_
    refine eg_k_ci rfl ?_
    have hx := Option.some.inj hx
    subst hx
    exact eg_k_iret rfl True.intro (Nat.le_refl _) (Nat.le_refl _) hK
  have e29_ := e9
  refine vb_ite hx (fun e9 hx => ?_) (fun e9 hx => ?_)
  · refine eg_k_tsw (x := a) (t := 4) rfl (by rw [e9]; rfl) ?_
    refine eg_k_ci rfl ?_
    have hx := Option.some.inj hx
    subst hx
    exact eg_k_iret rfl True.intro (Nat.le_refl _) (Nat.le_refl _) hK
  have e30_ := e9
  refine vb_ite hx (fun e9 hx => ?_) (fun e9 hx => ?_)
  · refine eg_k_tsw (x := a) (t := 2) rfl (by rw [e9]; rfl) ?_
    refine eg_k_ci rfl ?_
    have hx := Option.some.inj hx
    subst hx
    exact eg_k_iret rfl True.intro (Nat.le_refl _) (Nat.le_refl _) hK
  have e31_ := e9
  refine vb_ite hx (fun e9 hx => ?_) (fun e9 hx => ?_)
  · refine eg_k_tsw (x := a) (t := 2) rfl (by rw [e9]; rfl) ?_
    refine eg_k_ci rfl ?_
    have hx := Option.some.inj hx
    subst hx
    exact eg_k_iret rfl True.intro (Nat.le_refl _) (Nat.le_refl _) hK
  have e32_ := e9
  refine vb_ite hx (fun e9 hx => ?_) (fun e9 hx => ?_)
  · refine eg_k_tsw (x := a) (t := 4) rfl (by rw [e9]; rfl) ?_
    refine eg_k_ci rfl ?_
    have hx := Option.some.inj hx
    subst hx
    exact eg_k_iret rfl True.intro (Nat.le_refl _) (Nat.le_refl _) hK
  have e33_ := e9
  refine eg_k_tsw (x := a) (t := 8) rfl (by unfold eg_tb; rw [if_pos (by omega)]; rfl) ?_
  refine eg_k_ci rfl ?_
  have hx := Option.some.inj hx
  subst hx
  exact eg_k_iret rfl True.intro (Nat.le_refl _) (Nat.le_refl _) hK
/-- 228: WeakSchemeModel.isNumber(J)Z -/
noncomputable def fn_228 (a : Int) (M : eM) : Option (Int) :=
  if ¬ (eb_lshr a 32) = 0 then
    some 0
  else
    some 1
set_option maxRecDepth 100000 in
theorem ft_228 {cn mo : Nat} {sc : eg_Sc} {d : Nat} {M : eM} {Q : Option eg_V → eg_H → Prop} {a : Int} {x : Int} (hx : fn_228 a M = some x) (hK : Q (some (.inl x)) (em_L cn mo, eh_R, M)) : eg_wp sc (d + 1) 228 [.inr (.inl a)] (em_L cn mo, eh_R, M) 0 0 Q := by
  refine eg_in (lv := [some (.inr (.inl a)), none]) eg_tj228 (Nat.le_of_ble_eq_true rfl) rfl ?_
  refine eg_k_lload rfl rfl ?_
  refine eg_k_ci rfl ?_
  refine eg_k_lshr rfl ?_
  refine eg_k_cl rfl ?_
  refine vk_lcmp rfl rfl hx Iff.rfl (fun c1 hx => ?_) (fun c1 hx => ?_)
  · refine eg_k_ci rfl ?_
    have hx := Option.some.inj hx
    subst hx
    exact eg_k_iret rfl (Or.inl rfl) (Nat.le_refl _) (Nat.le_refl _) hK
  · refine eg_k_ci rfl ?_
    refine eg_k_goto rfl ?_
    have hx := Option.some.inj hx
    subst hx
    exact eg_k_iret rfl (Or.inr rfl) (Nat.le_refl _) (Nat.le_refl _) hK
/-- 229: WeakSchemeModel.give(J)I -/
noncomputable def fn_229 (a : Int) (M : eM) : Option (Int × eM) :=
  some (0, eg_u M 45 70 a)
set_option maxRecDepth 100000 in
theorem ft_229 {cn mo : Nat} {sc : eg_Sc} {d : Nat} {M : eM} {Q : Option eg_V → eg_H → Prop} {a : Int} {x : Int × eM} (hx : fn_229 a M = some x) (hK : Q (some (.inl ((x).1))) (em_L cn mo, eh_R, (x).2)) : eg_wp sc (d + 1) 229 [.inr (.inr (some 45)), .inr (.inl a)] (em_L cn mo, eh_R, M) 0 0 Q := by
  refine eg_in (lv := [some (.inr (.inr (some 45))), some (.inr (.inl a)), none]) eg_tj229 (Nat.le_of_ble_eq_true rfl) rfl ?_
  refine eg_k_aload rfl rfl ?_
  refine eg_k_lload rfl rfl ?_
  refine eg_k_pfl rfl rfl rfl ?_
  refine eg_k_ci rfl ?_
  have hx := Option.some.inj hx
  subst hx
  exact eg_k_iret rfl True.intro (Nat.le_refl _) (Nat.le_refl _) hK
theorem fw_229 {M : eM} {c : Nat} {a : Int} {x : Int × eM} (hx : fn_229 a M = some x) (hc : c ∉ ([45] : List Nat)) (j : Nat) : ((x).2) c j = M c j := by
  obtain ⟨v, hK⟩ : ∃ v, ((x).2) c j = v := ⟨_, rfl⟩
  rw [hK]
  refine Eq.symm ?_
  have hx := Option.some.inj hx
  subst hx
  exact ((congrFun (eg_u_ne (vne hc (a := 45) (by decide))) j).trans rfl).symm.trans hK
noncomputable def fn_227_28 (x1 : Int) (x2 : Int) (x4 : Int) (x6 : Int) (x7 : Int) (M : eM) : Option (Int × eM) :=
  if x1 = 0 then
    (fn_229 (eb_land (eg_wi (x6 + x7)) 4294967295) M).bind fun r15 =>
    some (r15.1, r15.2)
  else if x1 = 1 then
    (fn_229 (eb_land (eg_wi (x6 - x7)) 4294967295) M).bind fun r18 =>
    some (r18.1, r18.2)
  else if x1 = 2 then
    (fn_229 (eb_land (eg_wi (x6 * x7)) 4294967295) M).bind fun r21 =>
    some (r21.1, r21.2)
  else if x1 = 3 then
    if ¬ x7 = 0 then
    (fn_229 (eb_land (eg_wi (Int.tdiv x6 x7)) 4294967295) M).bind fun r25 =>
      some (r25.1, r25.2)
    else none
  else if x1 = 4 then
    if ¬ x7 = 0 then
    (fn_229 (eb_land (eg_wi (x6 - eg_wi (Int.tdiv x6 x7) * x7)) 4294967295) M).bind fun r29 =>
      some (r29.1, r29.2)
    else none
  else if x1 = 5 then
    if ¬ x6 = x7 then
      (fn_229 8589934592 M).bind fun r33 =>
      some (r33.1, r33.2)
    else
      (fn_229 4294967296 M).bind fun r36 =>
      some (r36.1, r36.2)
  else 
    if x7 ≤ x6 then
      (fn_229 8589934592 M).bind fun r40 =>
      some (r40.1, r40.2)
    else
      (fn_229 4294967296 M).bind fun r43 =>
      some (r43.1, r43.2)
noncomputable def fn_227_22 (x1 : Int) (x2 : Int) (x4 : Int) (x6 : Int) (x7 : Int) (M : eM) : Option (Int × eM) :=
  if ¬ x7 = 0 then
    fn_227_28 x1 x2 x4 x6 x7 M
  else
    (fn_185 10 M).bind fun r46 =>
    some (r46.1, r46.2)
/-- 227: WeakSchemeModel.arithmetic(IJJ)I -/
noncomputable def fn_227 (a : Int) (b : Int) (e : Int) (M : eM) : Option (Int × eM) :=
  (fn_228 b M).bind fun r2 =>
  if r2 = 0 then
    (fn_185 9 M).bind fun r6 =>
    some (r6.1, r6.2)
  else
    (fn_228 e M).bind fun r9 =>
    if ¬ r9 = 0 then
      if a = 3 then
        fn_227_22 a b e (eg_wi b) (eg_wi e) M
      else
        if ¬ a = 4 then
          fn_227_28 a b e (eg_wi b) (eg_wi e) M
        else
          fn_227_22 a b e (eg_wi b) (eg_wi e) M
    else
      (fn_185 9 M).bind fun r50 =>
      some (r50.1, r50.2)
set_option maxRecDepth 100000 in
theorem ft_227_28 {cn mo : Nat} {sc : eg_Sc} {d : Nat} {M : eM} {Q : Option eg_V → eg_H → Prop} {x1 : Int} {x2 : Int} {x4 : Int} {x6 : Int} {x7 : Int} {x : Int × eM} (hx : fn_227_28 x1 x2 x4 x6 x7 M = some x) (hK : (fun (x : Int × eM) => Q (some (.inl ((x).1))) (em_L cn mo, eh_R, (x).2)) x) : eg_X sc (eg_wp sc (d + 1)) eg_p227 (some .int) 0 0 Q 28 [some (.inr (.inr (some 45))), some (.inl x1), some (.inr (.inl x2)), none, some (.inr (.inl x4)), none, some (.inl x6), some (.inl x7)] [] (em_L cn mo, eh_R, M) 0 0 := by
  refine eg_k_iload rfl rfl ?_
  refine vb_ite hx (fun e9 hx => ?_) (fun e9 hx => ?_)
  · refine eg_k_tsw (x := x1) (t := 30) rfl (by rw [e9]; rfl) ?_
    refine eg_k_aload rfl rfl ?_
    refine eg_k_iload rfl rfl ?_
    refine eg_k_iload rfl rfl ?_
    refine eg_k_iadd rfl ?_
    refine eg_k_i2l rfl ?_
    refine eg_k_cl rfl ?_
    refine eg_k_land rfl ?_
    obtain ⟨r15, h14, hx⟩ := vb_bind hx
    refine eg_k_call (c1 := 0) (z1 := 0) (as := [.inr (.inr (some 45)), .inr (.inl (eb_land (eg_wi (x6 + x7)) 4294967295))]) (rest := []) rfl eg_tj229 (Nat.le_of_ble_eq_true rfl) rfl rfl rfl (Nat.le_of_ble_eq_true rfl) (Nat.le_refl _) (Nat.le_refl _) ?_ (fun Q hQ => ft_229 h14 hQ)
    have hx := Option.some.inj hx
    subst hx
    exact eg_k_iret rfl True.intro (Nat.le_refl _) (Nat.le_refl _) hK
  have e0_ := e9
  refine vb_ite hx (fun e9 hx => ?_) (fun e9 hx => ?_)
  · refine eg_k_tsw (x := x1) (t := 39) rfl (by rw [e9]; rfl) ?_
    refine eg_k_aload rfl rfl ?_
    refine eg_k_iload rfl rfl ?_
    refine eg_k_iload rfl rfl ?_
    refine eg_k_isub rfl ?_
    refine eg_k_i2l rfl ?_
    refine eg_k_cl rfl ?_
    refine eg_k_land rfl ?_
    obtain ⟨r18, h17, hx⟩ := vb_bind hx
    refine eg_k_call (c1 := 0) (z1 := 0) (as := [.inr (.inr (some 45)), .inr (.inl (eb_land (eg_wi (x6 - x7)) 4294967295))]) (rest := []) rfl eg_tj229 (Nat.le_of_ble_eq_true rfl) rfl rfl rfl (Nat.le_of_ble_eq_true rfl) (Nat.le_refl _) (Nat.le_refl _) ?_ (fun Q hQ => ft_229 h17 hQ)
    have hx := Option.some.inj hx
    subst hx
    exact eg_k_iret rfl True.intro (Nat.le_refl _) (Nat.le_refl _) hK
  have e1_ := e9
  refine vb_ite hx (fun e9 hx => ?_) (fun e9 hx => ?_)
  · refine eg_k_tsw (x := x1) (t := 48) rfl (by rw [e9]; rfl) ?_
    refine eg_k_aload rfl rfl ?_
    refine eg_k_iload rfl rfl ?_
    refine eg_k_iload rfl rfl ?_
    refine eg_k_imul rfl ?_
    refine eg_k_i2l rfl ?_
    refine eg_k_cl rfl ?_
    refine eg_k_land rfl ?_
    obtain ⟨r21, h20, hx⟩ := vb_bind hx
    refine eg_k_call (c1 := 0) (z1 := 0) (as := [.inr (.inr (some 45)), .inr (.inl (eb_land (eg_wi (x6 * x7)) 4294967295))]) (rest := []) rfl eg_tj229 (Nat.le_of_ble_eq_true rfl) rfl rfl rfl (Nat.le_of_ble_eq_true rfl) (Nat.le_refl _) (Nat.le_refl _) ?_ (fun Q hQ => ft_229 h20 hQ)
    have hx := Option.some.inj hx
    subst hx
    exact eg_k_iret rfl True.intro (Nat.le_refl _) (Nat.le_refl _) hK
  have e2_ := e9
  refine vb_ite hx (fun e9 hx => ?_) (fun e9 hx => ?_)
  · refine eg_k_tsw (x := x1) (t := 57) rfl (by rw [e9]; rfl) ?_
    refine eg_k_aload rfl rfl ?_
    refine eg_k_iload rfl rfl ?_
    refine eg_k_iload rfl rfl ?_
    obtain ⟨b23, hx⟩ := vb_if hx
    refine eg_k_idiv rfl b23 ?_
    refine eg_k_i2l rfl ?_
    refine eg_k_cl rfl ?_
    refine eg_k_land rfl ?_
    obtain ⟨r25, h24, hx⟩ := vb_bind hx
    refine eg_k_call (c1 := 0) (z1 := 0) (as := [.inr (.inr (some 45)), .inr (.inl (eb_land (eg_wi (Int.tdiv x6 x7)) 4294967295))]) (rest := []) rfl eg_tj229 (Nat.le_of_ble_eq_true rfl) rfl rfl rfl (Nat.le_of_ble_eq_true rfl) (Nat.le_refl _) (Nat.le_refl _) ?_ (fun Q hQ => ft_229 h24 hQ)
    have hx := Option.some.inj hx
    subst hx
    exact eg_k_iret rfl True.intro (Nat.le_refl _) (Nat.le_refl _) hK
  have e3_ := e9
  refine vb_ite hx (fun e9 hx => ?_) (fun e9 hx => ?_)
  · refine eg_k_tsw (x := x1) (t := 66) rfl (by rw [e9]; rfl) ?_
    refine eg_k_aload rfl rfl ?_
    refine eg_k_iload rfl rfl ?_
    refine eg_k_iload rfl rfl ?_
    obtain ⟨b27, hx⟩ := vb_if hx
    refine eg_k_irem rfl b27 ?_
    refine eg_k_i2l rfl ?_
    refine eg_k_cl rfl ?_
    refine eg_k_land rfl ?_
    obtain ⟨r29, h28, hx⟩ := vb_bind hx
    refine eg_k_call (c1 := 0) (z1 := 0) (as := [.inr (.inr (some 45)), .inr (.inl (eb_land (eg_wi (x6 - eg_wi (Int.tdiv x6 x7) * x7)) 4294967295))]) (rest := []) rfl eg_tj229 (Nat.le_of_ble_eq_true rfl) rfl rfl rfl (Nat.le_of_ble_eq_true rfl) (Nat.le_refl _) (Nat.le_refl _) ?_ (fun Q hQ => ft_229 h28 hQ)
    have hx := Option.some.inj hx
    subst hx
    exact eg_k_iret rfl True.intro (Nat.le_refl _) (Nat.le_refl _) hK
  have e4_ := e9
  refine vb_ite hx (fun e9 hx => ?_) (fun e9 hx => ?_)
  · refine eg_k_tsw (x := x1) (t := 75) rfl (by rw [e9]; rfl) ?_
    refine eg_k_aload rfl rfl ?_
    refine eg_k_iload rfl rfl ?_
    refine eg_k_iload rfl rfl ?_
    refine vk_icmp rfl hx Iff.rfl (fun c31 hx => ?_) (fun c31 hx => ?_)
    · refine eg_k_cl rfl ?_
      obtain ⟨r33, h32, hx⟩ := vb_bind hx
      refine eg_k_call (c1 := 0) (z1 := 0) (as := [.inr (.inr (some 45)), .inr (.inl 8589934592)]) (rest := []) rfl eg_tj229 (Nat.le_of_ble_eq_true rfl) rfl rfl rfl (Nat.le_of_ble_eq_true rfl) (Nat.le_refl _) (Nat.le_refl _) ?_ (fun Q hQ => ft_229 h32 hQ)
      have hx := Option.some.inj hx
      subst hx
      exact eg_k_iret rfl True.intro (Nat.le_refl _) (Nat.le_refl _) hK
    · refine eg_k_cl rfl ?_
      refine eg_k_goto rfl ?_
      obtain ⟨r36, h35, hx⟩ := vb_bind hx
      refine eg_k_call (c1 := 0) (z1 := 0) (as := [.inr (.inr (some 45)), .inr (.inl 4294967296)]) (rest := []) rfl eg_tj229 (Nat.le_of_ble_eq_true rfl) rfl rfl rfl (Nat.le_of_ble_eq_true rfl) (Nat.le_refl _) (Nat.le_refl _) ?_ (fun Q hQ => ft_229 h35 hQ)
      have hx := Option.some.inj hx
      subst hx
      exact eg_k_iret rfl True.intro (Nat.le_refl _) (Nat.le_refl _) hK
  have e5_ := e9
  refine eg_k_tsw (x := x1) (t := 84) rfl (by unfold eg_tb; rw [if_pos (by omega)]; rfl) ?_
  refine eg_k_aload rfl rfl ?_
  refine eg_k_iload rfl rfl ?_
  refine eg_k_iload rfl rfl ?_
  refine vk_icmp rfl hx Iff.rfl (fun c38 hx => ?_) (fun c38 hx => ?_)
  · refine eg_k_cl rfl ?_
    obtain ⟨r40, h39, hx⟩ := vb_bind hx
    refine eg_k_call (c1 := 0) (z1 := 0) (as := [.inr (.inr (some 45)), .inr (.inl 8589934592)]) (rest := []) rfl eg_tj229 (Nat.le_of_ble_eq_true rfl) rfl rfl rfl (Nat.le_of_ble_eq_true rfl) (Nat.le_refl _) (Nat.le_refl _) ?_ (fun Q hQ => ft_229 h39 hQ)
    have hx := Option.some.inj hx
    subst hx
    exact eg_k_iret rfl True.intro (Nat.le_refl _) (Nat.le_refl _) hK
  · refine eg_k_cl rfl ?_
    refine eg_k_goto rfl ?_
    obtain ⟨r43, h42, hx⟩ := vb_bind hx
    refine eg_k_call (c1 := 0) (z1 := 0) (as := [.inr (.inr (some 45)), .inr (.inl 4294967296)]) (rest := []) rfl eg_tj229 (Nat.le_of_ble_eq_true rfl) rfl rfl rfl (Nat.le_of_ble_eq_true rfl) (Nat.le_refl _) (Nat.le_refl _) ?_ (fun Q hQ => ft_229 h42 hQ)
    have hx := Option.some.inj hx
    subst hx
    exact eg_k_iret rfl True.intro (Nat.le_refl _) (Nat.le_refl _) hK
set_option maxRecDepth 100000 in
theorem ft_227_22 {cn mo : Nat} {sc : eg_Sc} {d : Nat} {M : eM} {Q : Option eg_V → eg_H → Prop} {x1 : Int} {x2 : Int} {x4 : Int} {x6 : Int} {x7 : Int} {x : Int × eM} (hx : fn_227_22 x1 x2 x4 x6 x7 M = some x) (hK : (fun (x : Int × eM) => Q (some (.inl ((x).1))) (em_L cn mo, eh_R, (x).2)) x) : eg_X sc (eg_wp sc (d + 1)) eg_p227 (some .int) 0 0 Q 22 [some (.inr (.inr (some 45))), some (.inl x1), some (.inr (.inl x2)), none, some (.inr (.inl x4)), none, some (.inl x6), some (.inl x7)] [] (em_L cn mo, eh_R, M) 0 0 := by
  refine eg_k_iload rfl rfl ?_
  refine vk_if rfl hx Iff.rfl (fun c13 hx => ?_) (fun c13 hx => ?_)
  · have hz := ft_227_28 (d := d) (sc := sc) hx hK
    exact hz
  · refine eg_k_aload rfl rfl ?_
    refine eg_k_ci rfl ?_
    obtain ⟨r46, h45, hx⟩ := vb_bind hx
    refine eg_k_call (c1 := 0) (z1 := 0) (as := [.inr (.inr (some 45)), .inl 10]) (rest := []) rfl eg_tj185 (Nat.le_of_ble_eq_true rfl) rfl rfl rfl (Nat.le_of_ble_eq_true rfl) (Nat.le_refl _) (Nat.le_refl _) ?_ (fun Q hQ => ft_185 h45 hQ)
    have hx := Option.some.inj hx
    subst hx
    exact eg_k_iret rfl True.intro (Nat.le_refl _) (Nat.le_refl _) hK
set_option maxRecDepth 100000 in
theorem ft_227 {cn mo : Nat} {sc : eg_Sc} {d : Nat} {M : eM} {Q : Option eg_V → eg_H → Prop} {a : Int} {b : Int} {e : Int} {x : Int × eM} (hx : fn_227 a b e M = some x) (hK : Q (some (.inl ((x).1))) (em_L cn mo, eh_R, (x).2)) : eg_wp sc (d + 2) 227 [.inr (.inr (some 45)), .inl a, .inr (.inl b), .inr (.inl e)] (em_L cn mo, eh_R, M) 0 0 Q := by
  refine eg_in (lv := [some (.inr (.inr (some 45))), some (.inl a), some (.inr (.inl b)), none, some (.inr (.inl e)), none, none, none]) eg_tj227 (Nat.le_of_ble_eq_true rfl) rfl ?_
  refine eg_k_lload rfl rfl ?_
  obtain ⟨r2, h1, hx⟩ := vb_bind hx
  refine eg_k_call (c1 := 0) (z1 := 0) (as := [.inr (.inl b)]) (rest := []) rfl eg_tj228 (Nat.le_of_ble_eq_true rfl) rfl rfl trivial (Nat.le_of_ble_eq_true rfl) (Nat.le_refl _) (Nat.le_refl _) ?_ (fun Q hQ => ft_228 h1 hQ)
  refine vk_if rfl hx Iff.rfl (fun c4 hx => ?_) (fun c4 hx => ?_)
  · refine eg_k_aload rfl rfl ?_
    refine eg_k_ci rfl ?_
    obtain ⟨r6, h5, hx⟩ := vb_bind hx
    refine eg_k_call (c1 := 0) (z1 := 0) (as := [.inr (.inr (some 45)), .inl 9]) (rest := []) rfl eg_tj185 (Nat.le_of_ble_eq_true rfl) rfl rfl rfl (Nat.le_of_ble_eq_true rfl) (Nat.le_refl _) (Nat.le_refl _) ?_ (fun Q hQ => ft_185 h5 hQ)
    have hx := Option.some.inj hx
    subst hx
    exact eg_k_iret rfl True.intro (Nat.le_refl _) (Nat.le_refl _) hK
  · refine eg_k_lload rfl rfl ?_
    obtain ⟨r9, h8, hx⟩ := vb_bind hx
    refine eg_k_call (c1 := 0) (z1 := 0) (as := [.inr (.inl e)]) (rest := []) rfl eg_tj228 (Nat.le_of_ble_eq_true rfl) rfl rfl trivial (Nat.le_of_ble_eq_true rfl) (Nat.le_refl _) (Nat.le_refl _) ?_ (fun Q hQ => ft_228 h8 hQ)
    refine vk_if rfl hx Iff.rfl (fun c11 hx => ?_) (fun c11 hx => ?_)
    · refine eg_k_lload rfl rfl ?_
      refine eg_k_l2i rfl ?_
      refine eg_k_istore (lv' := [some (.inr (.inr (some 45))), some (.inl a), some (.inr (.inl b)), none, some (.inr (.inl e)), none, some (.inl (eg_wi b)), none]) rfl rfl ?_
      refine eg_k_lload rfl rfl ?_
      refine eg_k_l2i rfl ?_
      refine eg_k_istore (lv' := [some (.inr (.inr (some 45))), some (.inl a), some (.inr (.inl b)), none, some (.inr (.inl e)), none, some (.inl (eg_wi b)), some (.inl (eg_wi e))]) rfl rfl ?_
      refine eg_k_iload rfl rfl ?_
      refine eg_k_ci rfl ?_
      refine vk_icmp rfl hx Iff.rfl (fun c12 hx => ?_) (fun c12 hx => ?_)
      · have hz := ft_227_22 (d := d) (sc := sc) hx hK
        exact hz
      · refine eg_k_iload rfl rfl ?_
        refine eg_k_ci rfl ?_
        refine vk_icmp rfl hx Iff.rfl (fun c48 hx => ?_) (fun c48 hx => ?_)
        · have hz := ft_227_28 (d := d) (sc := sc) hx hK
          exact hz
        · have hz := ft_227_22 (d := d) (sc := sc) hx hK
          exact hz
    · refine eg_k_aload rfl rfl ?_
      refine eg_k_ci rfl ?_
      obtain ⟨r50, h49, hx⟩ := vb_bind hx
      refine eg_k_call (c1 := 0) (z1 := 0) (as := [.inr (.inr (some 45)), .inl 9]) (rest := []) rfl eg_tj185 (Nat.le_of_ble_eq_true rfl) rfl rfl rfl (Nat.le_of_ble_eq_true rfl) (Nat.le_refl _) (Nat.le_refl _) ?_ (fun Q hQ => ft_185 h49 hQ)
      have hx := Option.some.inj hx
      subst hx
      exact eg_k_iret rfl True.intro (Nat.le_refl _) (Nat.le_refl _) hK
theorem fw_227_28 {M : eM} {c j : Nat} {v : Int} {x1 : Int} {x2 : Int} {x4 : Int} {x6 : Int} {x7 : Int} {x : Int × eM} (hc : c ∉ ([45] : List Nat)) (hx : fn_227_28 x1 x2 x4 x6 x7 M = some x) (hK : (fun (x : Int × eM) => ((x).2) c j = v) x) : M c j = v := by
  refine vb_ite hx (fun _ hx => ?_) (fun _ hx => ?_)
  · obtain ⟨r15, h14, hx⟩ := vb_bind hx
    have hx := Option.some.inj hx
    subst hx
    exact ((fw_229 h14 (vsub hc (by decide)) j).trans rfl).symm.trans hK
  refine vb_ite hx (fun _ hx => ?_) (fun _ hx => ?_)
  · obtain ⟨r18, h17, hx⟩ := vb_bind hx
    have hx := Option.some.inj hx
    subst hx
    exact ((fw_229 h17 (vsub hc (by decide)) j).trans rfl).symm.trans hK
  refine vb_ite hx (fun _ hx => ?_) (fun _ hx => ?_)
  · obtain ⟨r21, h20, hx⟩ := vb_bind hx
    have hx := Option.some.inj hx
    subst hx
    exact ((fw_229 h20 (vsub hc (by decide)) j).trans rfl).symm.trans hK
  refine vb_ite hx (fun _ hx => ?_) (fun _ hx => ?_)
  · obtain ⟨_, hx⟩ := vb_if hx
    obtain ⟨r25, h24, hx⟩ := vb_bind hx
    have hx := Option.some.inj hx
    subst hx
    exact ((fw_229 h24 (vsub hc (by decide)) j).trans rfl).symm.trans hK
  refine vb_ite hx (fun _ hx => ?_) (fun _ hx => ?_)
  · obtain ⟨_, hx⟩ := vb_if hx
    obtain ⟨r29, h28, hx⟩ := vb_bind hx
    have hx := Option.some.inj hx
    subst hx
    exact ((fw_229 h28 (vsub hc (by decide)) j).trans rfl).symm.trans hK
  refine vb_ite hx (fun _ hx => ?_) (fun _ hx => ?_)
  · refine vb_ite hx (fun _ hx => ?_) (fun _ hx => ?_)
    · obtain ⟨r33, h32, hx⟩ := vb_bind hx
      have hx := Option.some.inj hx
      subst hx
      exact ((fw_229 h32 (vsub hc (by decide)) j).trans rfl).symm.trans hK
    · obtain ⟨r36, h35, hx⟩ := vb_bind hx
      have hx := Option.some.inj hx
      subst hx
      exact ((fw_229 h35 (vsub hc (by decide)) j).trans rfl).symm.trans hK
  refine vb_ite hx (fun _ hx => ?_) (fun _ hx => ?_)
  · obtain ⟨r40, h39, hx⟩ := vb_bind hx
    have hx := Option.some.inj hx
    subst hx
    exact ((fw_229 h39 (vsub hc (by decide)) j).trans rfl).symm.trans hK
  · obtain ⟨r43, h42, hx⟩ := vb_bind hx
    have hx := Option.some.inj hx
    subst hx
    exact ((fw_229 h42 (vsub hc (by decide)) j).trans rfl).symm.trans hK
theorem fw_227_22 {M : eM} {c j : Nat} {v : Int} {x1 : Int} {x2 : Int} {x4 : Int} {x6 : Int} {x7 : Int} {x : Int × eM} (hc : c ∉ ([45] : List Nat)) (hx : fn_227_22 x1 x2 x4 x6 x7 M = some x) (hK : (fun (x : Int × eM) => ((x).2) c j = v) x) : M c j = v := by
  refine vb_ite hx (fun _ hx => ?_) (fun _ hx => ?_)
  · have hz := fw_227_28 hc hx hK
    exact (Eq.refl _).symm.trans hz
  · obtain ⟨r46, h45, hx⟩ := vb_bind hx
    have hx := Option.some.inj hx
    subst hx
    exact ((fw_185 h45 (vsub hc (by decide)) j).trans rfl).symm.trans hK
theorem fw_227 {M : eM} {c : Nat} {a : Int} {b : Int} {e : Int} {x : Int × eM} (hx : fn_227 a b e M = some x) (hc : c ∉ ([45] : List Nat)) (j : Nat) : ((x).2) c j = M c j := by
  obtain ⟨v, hK⟩ : ∃ v, ((x).2) c j = v := ⟨_, rfl⟩
  rw [hK]
  refine Eq.symm ?_
  obtain ⟨r2, h1, hx⟩ := vb_bind hx
  refine vb_ite hx (fun _ hx => ?_) (fun _ hx => ?_)
  · obtain ⟨r6, h5, hx⟩ := vb_bind hx
    have hx := Option.some.inj hx
    subst hx
    exact ((fw_185 h5 (vsub hc (by decide)) j).trans rfl).symm.trans hK
  · obtain ⟨r9, h8, hx⟩ := vb_bind hx
    refine vb_ite hx (fun _ hx => ?_) (fun _ hx => ?_)
    · refine vb_ite hx (fun _ hx => ?_) (fun _ hx => ?_)
      · have hz := fw_227_22 hc hx hK
        exact (Eq.refl _).symm.trans hz
      · refine vb_ite hx (fun _ hx => ?_) (fun _ hx => ?_)
        · have hz := fw_227_28 hc hx hK
          exact (Eq.refl _).symm.trans hz
        · have hz := fw_227_22 hc hx hK
          exact (Eq.refl _).symm.trans hz
    · obtain ⟨r50, h49, hx⟩ := vb_bind hx
      have hx := Option.some.inj hx
      subst hx
      exact ((fw_185 h49 (vsub hc (by decide)) j).trans rfl).symm.trans hK
/-- 231: WeakSchemeModel.made(J)I -/
noncomputable def fn_231 (a : Int) (M : eM) : Option (Int × eM) :=
  if ¬ a = (-1) then
    (fn_229 a M).bind fun r3 =>
    some (r3.1, r3.2)
  else
    (fn_185 (M 45 66) M).bind fun r6 =>
    some (r6.1, r6.2)
set_option maxRecDepth 100000 in
theorem ft_231 {cn mo : Nat} {sc : eg_Sc} {d : Nat} {M : eM} {Q : Option eg_V → eg_H → Prop} {a : Int} {x : Int × eM} (hx : fn_231 a M = some x) (hK : Q (some (.inl ((x).1))) (em_L cn mo, eh_R, (x).2)) : eg_wp sc (d + 2) 231 [.inr (.inr (some 45)), .inr (.inl a)] (em_L cn mo, eh_R, M) 0 0 Q := by
  refine eg_in (lv := [some (.inr (.inr (some 45))), some (.inr (.inl a)), none]) eg_tj231 (Nat.le_of_ble_eq_true rfl) rfl ?_
  refine eg_k_lload rfl rfl ?_
  refine eg_k_cl rfl ?_
  refine vk_lcmp rfl rfl hx Iff.rfl (fun c1 hx => ?_) (fun c1 hx => ?_)
  · refine eg_k_aload rfl rfl ?_
    refine eg_k_lload rfl rfl ?_
    obtain ⟨r3, h2, hx⟩ := vb_bind hx
    refine eg_k_call (c1 := 0) (z1 := 0) (as := [.inr (.inr (some 45)), .inr (.inl a)]) (rest := []) rfl eg_tj229 (Nat.le_of_ble_eq_true rfl) rfl rfl rfl (Nat.le_of_ble_eq_true rfl) (Nat.le_refl _) (Nat.le_refl _) ?_ (fun Q hQ => ft_229 h2 hQ)
    have hx := Option.some.inj hx
    subst hx
    exact eg_k_iret rfl True.intro (Nat.le_refl _) (Nat.le_refl _) hK
  · refine eg_k_aload rfl rfl ?_
    refine eg_k_aload rfl rfl ?_
    refine eg_k_gfi rfl rfl rfl ?_
    obtain ⟨r6, h5, hx⟩ := vb_bind hx
    refine eg_k_call (c1 := 0) (z1 := 0) (as := [.inr (.inr (some 45)), .inl (M 45 66)]) (rest := []) rfl eg_tj185 (Nat.le_of_ble_eq_true rfl) rfl rfl rfl (Nat.le_of_ble_eq_true rfl) (Nat.le_refl _) (Nat.le_refl _) ?_ (fun Q hQ => ft_185 h5 hQ)
    refine eg_k_goto rfl ?_
    have hx := Option.some.inj hx
    subst hx
    exact eg_k_iret rfl True.intro (Nat.le_refl _) (Nat.le_refl _) hK
theorem fw_231 {M : eM} {c : Nat} {a : Int} {x : Int × eM} (hx : fn_231 a M = some x) (hc : c ∉ ([45] : List Nat)) (j : Nat) : ((x).2) c j = M c j := by
  obtain ⟨v, hK⟩ : ∃ v, ((x).2) c j = v := ⟨_, rfl⟩
  rw [hK]
  refine Eq.symm ?_
  refine vb_ite hx (fun _ hx => ?_) (fun _ hx => ?_)
  · obtain ⟨r3, h2, hx⟩ := vb_bind hx
    have hx := Option.some.inj hx
    subst hx
    exact ((fw_229 h2 (vsub hc (by decide)) j).trans rfl).symm.trans hK
  · obtain ⟨r6, h5, hx⟩ := vb_bind hx
    have hx := Option.some.inj hx
    subst hx
    exact ((fw_185 h5 (vsub hc (by decide)) j).trans rfl).symm.trans hK
/-- 232: WeakSchemeModel.vectors(II)I -/
noncomputable def fn_232 (a : Int) (b : Int) (M : eM) : Option (Int × eM) :=
  if 0 ≤ b ∧ b < 19000 then
  if 0 ≤ (eg_wi (b + 1)) ∧ (eg_wi (b + 1)) < 19000 then
    (fn_223 (M 77 (b).toNat) 1 M).bind fun r4 =>
      if r4 = 0 then
        (fn_185 9 M).bind fun r8 =>
        some (r8.1, r8.2)
      else
        (fn_228 (M 77 (eg_wi (b + 1)).toNat) M).bind fun r11 =>
        if ¬ r11 = 0 then
          if (eg_wi (M 77 (eg_wi (b + 1)).toNat)) < 0 then
            (fn_185 11 M).bind fun r16 =>
            some (r16.1, r16.2)
          else
            (fn_187 (M 77 (b).toNat) M).bind fun r19 =>
            if 0 ≤ r19 ∧ r19 < 6700 then
            if (eg_wi (M 77 (eg_wi (b + 1)).toNat)) < (M 63 (r19).toNat) then
                if ¬ a = 17 then
                  if 0 ≤ (eg_wi (b + 2)) ∧ (eg_wi (b + 2)) < 19000 then
                  (fn_205 (M 77 (b).toNat) (eg_wi (M 77 (eg_wi (b + 1)).toNat)) (M 77 (eg_wi (b + 2)).toNat) M).bind fun m27 =>
                    (fn_229 12884901888 m27).bind fun r29 =>
                    some (r29.1, r29.2)
                  else none
                else
                  (fn_189 (M 77 (b).toNat) (eg_wi (M 77 (eg_wi (b + 1)).toNat)) M).bind fun r32 =>
                  (fn_229 r32 M).bind fun r35 =>
                  some (r35.1, r35.2)
              else
                (fn_185 11 M).bind fun r38 =>
                some (r38.1, r38.2)
            else none
        else
          (fn_185 9 M).bind fun r41 =>
          some (r41.1, r41.2)
    else none
  else none
set_option maxRecDepth 100000 in
theorem ft_232 {cn mo : Nat} {sc : eg_Sc} {d : Nat} {M : eM} {Q : Option eg_V → eg_H → Prop} {a : Int} {b : Int} {x : Int × eM} (hx : fn_232 a b M = some x) (hK : Q (some (.inl ((x).1))) (em_L cn mo, eh_R, (x).2)) : eg_wp sc (d + 3) 232 [.inr (.inr (some 45)), .inl a, .inl b] (em_L cn mo, eh_R, M) 0 0 Q := by
  refine eg_in (lv := [some (.inr (.inr (some 45))), some (.inl a), some (.inl b), none, none, none, none]) eg_tj232 (Nat.le_of_ble_eq_true rfl) rfl ?_
  refine eg_k_aload rfl rfl ?_
  refine eg_k_gfa rfl rfl rfl eh_r45_52 ?_
  refine eg_k_iload rfl rfl ?_
  obtain ⟨b1, hx⟩ := vb_if hx
  refine eg_k_lald (k := 19000) rfl rfl b1.1 b1.2 ?_
  refine eg_k_lstore (lv' := [some (.inr (.inr (some 45))), some (.inl a), some (.inl b), some (.inr (.inl (M 77 (b).toNat))), none, none, none]) rfl rfl ?_
  refine eg_k_aload rfl rfl ?_
  refine eg_k_gfa rfl rfl rfl eh_r45_52 ?_
  refine eg_k_iload rfl rfl ?_
  refine eg_k_ci rfl ?_
  refine eg_k_iadd rfl ?_
  obtain ⟨b2, hx⟩ := vb_if hx
  refine eg_k_lald (k := 19000) rfl rfl b2.1 b2.2 ?_
  refine eg_k_lstore (lv' := [some (.inr (.inr (some 45))), some (.inl a), some (.inl b), some (.inr (.inl (M 77 (b).toNat))), none, some (.inr (.inl (M 77 (eg_wi (b + 1)).toNat))), none]) rfl rfl ?_
  refine eg_k_aload rfl rfl ?_
  refine eg_k_lload rfl rfl ?_
  refine eg_k_ci rfl ?_
  obtain ⟨r4, h3, hx⟩ := vb_bind hx
  refine eg_k_call (c1 := 0) (z1 := 0) (as := [.inr (.inr (some 45)), .inr (.inl (M 77 (b).toNat)), .inl 1]) (rest := []) rfl eg_tj223 (Nat.le_of_ble_eq_true rfl) rfl rfl rfl (Nat.le_of_ble_eq_true rfl) (Nat.le_refl _) (Nat.le_refl _) ?_ (fun Q hQ => ft_223 h3 hQ)
  refine vk_if rfl hx Iff.rfl (fun c6 hx => ?_) (fun c6 hx => ?_)
  · refine eg_k_aload rfl rfl ?_
    refine eg_k_ci rfl ?_
    obtain ⟨r8, h7, hx⟩ := vb_bind hx
    refine eg_k_call (c1 := 0) (z1 := 0) (as := [.inr (.inr (some 45)), .inl 9]) (rest := []) rfl eg_tj185 (Nat.le_of_ble_eq_true rfl) rfl rfl rfl (Nat.le_of_ble_eq_true rfl) (Nat.le_refl _) (Nat.le_refl _) ?_ (fun Q hQ => ft_185 h7 hQ)
    have hx := Option.some.inj hx
    subst hx
    exact eg_k_iret rfl True.intro (Nat.le_refl _) (Nat.le_refl _) hK
  · refine eg_k_lload rfl rfl ?_
    obtain ⟨r11, h10, hx⟩ := vb_bind hx
    refine eg_k_call (c1 := 0) (z1 := 0) (as := [.inr (.inl (M 77 (eg_wi (b + 1)).toNat))]) (rest := []) rfl eg_tj228 (Nat.le_of_ble_eq_true rfl) rfl rfl trivial (Nat.le_of_ble_eq_true rfl) (Nat.le_refl _) (Nat.le_refl _) ?_ (fun Q hQ => ft_228 h10 hQ)
    refine vk_if rfl hx Iff.rfl (fun c13 hx => ?_) (fun c13 hx => ?_)
    · refine eg_k_lload rfl rfl ?_
      refine eg_k_l2i rfl ?_
      refine vk_if rfl hx Iff.rfl (fun c14 hx => ?_) (fun c14 hx => ?_)
      · refine eg_k_aload rfl rfl ?_
        refine eg_k_ci rfl ?_
        obtain ⟨r16, h15, hx⟩ := vb_bind hx
        refine eg_k_call (c1 := 0) (z1 := 0) (as := [.inr (.inr (some 45)), .inl 11]) (rest := []) rfl eg_tj185 (Nat.le_of_ble_eq_true rfl) rfl rfl rfl (Nat.le_of_ble_eq_true rfl) (Nat.le_refl _) (Nat.le_refl _) ?_ (fun Q hQ => ft_185 h15 hQ)
        have hx := Option.some.inj hx
        subst hx
        exact eg_k_iret rfl True.intro (Nat.le_refl _) (Nat.le_refl _) hK
      · refine eg_k_lload rfl rfl ?_
        refine eg_k_l2i rfl ?_
        refine eg_k_aload rfl rfl ?_
        refine eg_k_gfa rfl rfl rfl eh_r45_31 ?_
        refine eg_k_lload rfl rfl ?_
        obtain ⟨r19, h18, hx⟩ := vb_bind hx
        refine eg_k_call (c1 := 0) (z1 := 0) (as := [.inr (.inl (M 77 (b).toNat))]) (rest := [.inr (.inr (some 63)), .inl (eg_wi (M 77 (eg_wi (b + 1)).toNat))]) rfl eg_tj187 (Nat.le_of_ble_eq_true rfl) rfl rfl trivial (Nat.le_of_ble_eq_true rfl) (Nat.le_refl _) (Nat.le_refl _) ?_ (fun Q hQ => ft_187 h18 hQ)
        obtain ⟨b21, hx⟩ := vb_if hx
        refine eg_k_sald (k := 6700) rfl rfl b21.1 b21.2 ?_
        refine vk_icmp rfl hx Iff.rfl (fun c22 hx => ?_) (fun c22 hx => ?_)
        · refine eg_k_iload rfl rfl ?_
          refine eg_k_ci rfl ?_
          refine vk_icmp rfl hx Iff.rfl (fun c23 hx => ?_) (fun c23 hx => ?_)
          · refine eg_k_aload rfl rfl ?_
            refine eg_k_lload rfl rfl ?_
            refine eg_k_lload rfl rfl ?_
            refine eg_k_l2i rfl ?_
            refine eg_k_aload rfl rfl ?_
            refine eg_k_gfa rfl rfl rfl eh_r45_52 ?_
            refine eg_k_iload rfl rfl ?_
            refine eg_k_ci rfl ?_
            refine eg_k_iadd rfl ?_
            obtain ⟨b24, hx⟩ := vb_if hx
            refine eg_k_lald (k := 19000) rfl rfl b24.1 b24.2 ?_
            obtain ⟨m27, h25, hx⟩ := vb_bind hx
            refine eg_k_call (c1 := 0) (z1 := 0) (as := [.inr (.inr (some 45)), .inr (.inl (M 77 (b).toNat)), .inl (eg_wi (M 77 (eg_wi (b + 1)).toNat)), .inr (.inl (M 77 (eg_wi (b + 2)).toNat))]) (rest := []) rfl eg_tj205 (Nat.le_of_ble_eq_true rfl) rfl rfl rfl (Nat.le_of_ble_eq_true rfl) (Nat.le_refl _) (Nat.le_refl _) ?_ (fun Q hQ => ft_205 h25 hQ)
            refine eg_k_aload rfl rfl ?_
            refine eg_k_cl rfl ?_
            obtain ⟨r29, h28, hx⟩ := vb_bind hx
            refine eg_k_call (c1 := 0) (z1 := 0) (as := [.inr (.inr (some 45)), .inr (.inl 12884901888)]) (rest := []) rfl eg_tj229 (Nat.le_of_ble_eq_true rfl) rfl rfl rfl (Nat.le_of_ble_eq_true rfl) (Nat.le_refl _) (Nat.le_refl _) ?_ (fun Q hQ => ft_229 h28 hQ)
            have hx := Option.some.inj hx
            subst hx
            exact eg_k_iret rfl True.intro (Nat.le_refl _) (Nat.le_refl _) hK
          · refine eg_k_aload rfl rfl ?_
            refine eg_k_aload rfl rfl ?_
            refine eg_k_lload rfl rfl ?_
            refine eg_k_lload rfl rfl ?_
            refine eg_k_l2i rfl ?_
            obtain ⟨r32, h31, hx⟩ := vb_bind hx
            refine eg_k_call (c1 := 0) (z1 := 0) (as := [.inr (.inr (some 45)), .inr (.inl (M 77 (b).toNat)), .inl (eg_wi (M 77 (eg_wi (b + 1)).toNat))]) (rest := [.inr (.inr (some 45))]) rfl eg_tj189 (Nat.le_of_ble_eq_true rfl) rfl rfl rfl (Nat.le_of_ble_eq_true rfl) (Nat.le_refl _) (Nat.le_refl _) ?_ (fun Q hQ => ft_189 h31 hQ)
            obtain ⟨r35, h34, hx⟩ := vb_bind hx
            refine eg_k_call (c1 := 0) (z1 := 0) (as := [.inr (.inr (some 45)), .inr (.inl r32)]) (rest := []) rfl eg_tj229 (Nat.le_of_ble_eq_true rfl) rfl rfl rfl (Nat.le_of_ble_eq_true rfl) (Nat.le_refl _) (Nat.le_refl _) ?_ (fun Q hQ => ft_229 h34 hQ)
            have hx := Option.some.inj hx
            subst hx
            exact eg_k_iret rfl True.intro (Nat.le_refl _) (Nat.le_refl _) hK
        · refine eg_k_aload rfl rfl ?_
          refine eg_k_ci rfl ?_
          obtain ⟨r38, h37, hx⟩ := vb_bind hx
          refine eg_k_call (c1 := 0) (z1 := 0) (as := [.inr (.inr (some 45)), .inl 11]) (rest := []) rfl eg_tj185 (Nat.le_of_ble_eq_true rfl) rfl rfl rfl (Nat.le_of_ble_eq_true rfl) (Nat.le_refl _) (Nat.le_refl _) ?_ (fun Q hQ => ft_185 h37 hQ)
          have hx := Option.some.inj hx
          subst hx
          exact eg_k_iret rfl True.intro (Nat.le_refl _) (Nat.le_refl _) hK
    · refine eg_k_aload rfl rfl ?_
      refine eg_k_ci rfl ?_
      obtain ⟨r41, h40, hx⟩ := vb_bind hx
      refine eg_k_call (c1 := 0) (z1 := 0) (as := [.inr (.inr (some 45)), .inl 9]) (rest := []) rfl eg_tj185 (Nat.le_of_ble_eq_true rfl) rfl rfl rfl (Nat.le_of_ble_eq_true rfl) (Nat.le_refl _) (Nat.le_refl _) ?_ (fun Q hQ => ft_185 h40 hQ)
      have hx := Option.some.inj hx
      subst hx
      exact eg_k_iret rfl True.intro (Nat.le_refl _) (Nat.le_refl _) hK
theorem fw_232 {M : eM} {c : Nat} {a : Int} {b : Int} {x : Int × eM} (hx : fn_232 a b M = some x) (hc : c ∉ ([45, 70] : List Nat)) (j : Nat) : ((x).2) c j = M c j := by
  obtain ⟨v, hK⟩ : ∃ v, ((x).2) c j = v := ⟨_, rfl⟩
  rw [hK]
  refine Eq.symm ?_
  obtain ⟨_, hx⟩ := vb_if hx
  obtain ⟨_, hx⟩ := vb_if hx
  obtain ⟨r4, h3, hx⟩ := vb_bind hx
  refine vb_ite hx (fun _ hx => ?_) (fun _ hx => ?_)
  · obtain ⟨r8, h7, hx⟩ := vb_bind hx
    have hx := Option.some.inj hx
    subst hx
    exact ((fw_185 h7 (vsub hc (by decide)) j).trans rfl).symm.trans hK
  · obtain ⟨r11, h10, hx⟩ := vb_bind hx
    refine vb_ite hx (fun _ hx => ?_) (fun _ hx => ?_)
    · refine vb_ite hx (fun _ hx => ?_) (fun _ hx => ?_)
      · obtain ⟨r16, h15, hx⟩ := vb_bind hx
        have hx := Option.some.inj hx
        subst hx
        exact ((fw_185 h15 (vsub hc (by decide)) j).trans rfl).symm.trans hK
      · obtain ⟨r19, h18, hx⟩ := vb_bind hx
        obtain ⟨_, hx⟩ := vb_if hx
        refine vb_ite hx (fun _ hx => ?_) (fun _ hx => ?_)
        · refine vb_ite hx (fun _ hx => ?_) (fun _ hx => ?_)
          · obtain ⟨_, hx⟩ := vb_if hx
            obtain ⟨m27, h25, hx⟩ := vb_bind hx
            obtain ⟨r29, h28, hx⟩ := vb_bind hx
            have hx := Option.some.inj hx
            subst hx
            exact ((fw_229 h28 (vsub hc (by decide)) j).trans ((fw_205 h25 (vsub hc (by decide)) j).trans rfl)).symm.trans hK
          · obtain ⟨r32, h31, hx⟩ := vb_bind hx
            obtain ⟨r35, h34, hx⟩ := vb_bind hx
            have hx := Option.some.inj hx
            subst hx
            exact ((fw_229 h34 (vsub hc (by decide)) j).trans rfl).symm.trans hK
        · obtain ⟨r38, h37, hx⟩ := vb_bind hx
          have hx := Option.some.inj hx
          subst hx
          exact ((fw_185 h37 (vsub hc (by decide)) j).trans rfl).symm.trans hK
    · obtain ⟨r41, h40, hx⟩ := vb_bind hx
      have hx := Option.some.inj hx
      subst hx
      exact ((fw_185 h40 (vsub hc (by decide)) j).trans rfl).symm.trans hK
/-- 230: WeakSchemeModel.lists(II)I -/
noncomputable def fn_230 (a : Int) (b : Int) (M : eM) : Option (Int × eM) :=
  if 0 ≤ b ∧ b < 19000 then
  if a = 7 then
      if 0 ≤ (eg_wi (b + 1)) ∧ (eg_wi (b + 1)) < 19000 then
      if ¬ (M 77 (b).toNat) = (M 77 (eg_wi (b + 1)).toNat) then
          (fn_229 8589934592 M).bind fun r5 =>
          some (r5.1, r5.2)
        else
          (fn_229 4294967296 M).bind fun r8 =>
          some (r8.1, r8.2)
      else none
    else if a = 8 then
      if ¬ (M 77 (b).toNat) = 8589934592 then
        (fn_229 8589934592 M).bind fun r12 =>
        some (r12.1, r12.2)
      else
        (fn_229 4294967296 M).bind fun r15 =>
        some (r15.1, r15.2)
    else if a = 9 then
      if ¬ (M 77 (b).toNat) = 12884901888 then
        (fn_229 8589934592 M).bind fun r19 =>
        some (r19.1, r19.2)
      else
        (fn_229 4294967296 M).bind fun r22 =>
        some (r22.1, r22.2)
    else if a = 10 then
      (fn_223 (M 77 (b).toNat) 0 M).bind fun r25 =>
      if r25 = 0 then
        (fn_229 8589934592 M).bind fun r29 =>
        some (r29.1, r29.2)
      else
        (fn_229 4294967296 M).bind fun r32 =>
        some (r32.1, r32.2)
    else if a = 11 then
      (fn_195 0 2 (M 77 (b).toNat) M).bind fun r35 =>
      if r35.1 = (-1) then
        (fn_231 r35.1 r35.2).bind fun r39 =>
        some (r39.1, r39.2)
      else
        if 0 ≤ (eg_wi (b + 1)) ∧ (eg_wi (b + 1)) < 19000 then
        (fn_205 r35.1 1 (r35.2 77 (eg_wi (b + 1)).toNat) r35.2).bind fun m44 =>
          (fn_231 r35.1 m44).bind fun r46 =>
          some (r46.1, r46.2)
        else none
    else if a = 12 then
      (fn_223 (M 77 (b).toNat) 0 M).bind fun r49 =>
      if r49 = 0 then
        (fn_185 9 M).bind fun r53 =>
        some (r53.1, r53.2)
      else
        (fn_189 (M 77 (b).toNat) (eg_wi (a - 12)) M).bind fun r56 =>
        (fn_229 r56 M).bind fun r59 =>
        some (r59.1, r59.2)
    else if a = 13 then
      (fn_223 (M 77 (b).toNat) 0 M).bind fun r62 =>
      if r62 = 0 then
        (fn_185 9 M).bind fun r66 =>
        some (r66.1, r66.2)
      else
        (fn_189 (M 77 (b).toNat) (eg_wi (a - 12)) M).bind fun r69 =>
        (fn_229 r69 M).bind fun r72 =>
        some (r72.1, r72.2)
    else if a = 14 then
      (fn_223 (M 77 (b).toNat) 0 M).bind fun r75 =>
      if ¬ r75 = 0 then
        if 0 ≤ (eg_wi (b + 1)) ∧ (eg_wi (b + 1)) < 19000 then
        (fn_205 (M 77 (b).toNat) (eg_wi (a - 14)) (M 77 (eg_wi (b + 1)).toNat) M).bind fun m81 =>
          (fn_229 12884901888 m81).bind fun r83 =>
          some (r83.1, r83.2)
        else none
      else
        (fn_185 9 M).bind fun r86 =>
        some (r86.1, r86.2)
    else if a = 15 then
      (fn_223 (M 77 (b).toNat) 0 M).bind fun r89 =>
      if ¬ r89 = 0 then
        if 0 ≤ (eg_wi (b + 1)) ∧ (eg_wi (b + 1)) < 19000 then
        (fn_205 (M 77 (b).toNat) (eg_wi (a - 14)) (M 77 (eg_wi (b + 1)).toNat) M).bind fun m95 =>
          (fn_229 12884901888 m95).bind fun r97 =>
          some (r97.1, r97.2)
        else none
      else
        (fn_185 9 M).bind fun r100 =>
        some (r100.1, r100.2)
    else if a = 16 then
      (fn_228 (M 77 (b).toNat) M).bind fun r103 =>
      if ¬ r103 = 0 then
        if (eg_wi (M 77 (b).toNat)) < 0 then
          (fn_185 11 M).bind fun r108 =>
          some (r108.1, r108.2)
        else
          if (eg_wi (M 77 (b).toNat)) ≤ 100 then
            if 0 ≤ (eg_wi (b + 1)) ∧ (eg_wi (b + 1)) < 19000 then
            (fn_195 1 (eg_wi (M 77 (b).toNat)) (M 77 (eg_wi (b + 1)).toNat) M).bind fun r113 =>
              (fn_231 r113.1 r113.2).bind fun r116 =>
              some (r116.1, r116.2)
            else none
          else
            (fn_185 11 M).bind fun r119 =>
            some (r119.1, r119.2)
      else
        (fn_185 9 M).bind fun r122 =>
        some (r122.1, r122.2)
    else if a = 17 then
      (fn_232 a b M).bind fun r125 =>
      some (r125.1, r125.2)
    else if a = 18 then
      (fn_232 a b M).bind fun r128 =>
      some (r128.1, r128.2)
    else if a = 19 then
      (fn_223 (M 77 (b).toNat) 1 M).bind fun r131 =>
      if r131 = 0 then
        (fn_185 9 M).bind fun r135 =>
        some (r135.1, r135.2)
      else
        (fn_187 (M 77 (b).toNat) M).bind fun r138 =>
        if 0 ≤ r138 ∧ r138 < 6700 then
        (fn_229 (M 63 (r138).toNat) M).bind fun r142 =>
          some (r142.1, r142.2)
        else none
    else 
      (fn_232 a b M).bind fun r145 =>
      some (r145.1, r145.2)
  else none
set_option maxRecDepth 100000 in
theorem ft_230 {cn mo : Nat} {sc : eg_Sc} {d : Nat} {M : eM} {Q : Option eg_V → eg_H → Prop} {a : Int} {b : Int} {x : Int × eM} (hx : fn_230 a b M = some x) (hK : Q (some (.inl ((x).1))) (em_L cn mo, eh_R, (x).2)) : eg_wp sc (d + 9) 230 [.inr (.inr (some 45)), .inl a, .inl b] (em_L cn mo, eh_R, M) 0 0 Q := by
  refine eg_in (lv := [some (.inr (.inr (some 45))), some (.inl a), some (.inl b), none, none, none, none]) eg_tj230 (Nat.le_of_ble_eq_true rfl) rfl ?_
  refine eg_k_aload rfl rfl ?_
  refine eg_k_gfa rfl rfl rfl eh_r45_52 ?_
  refine eg_k_iload rfl rfl ?_
  obtain ⟨b1, hx⟩ := vb_if hx
  refine eg_k_lald (k := 19000) rfl rfl b1.1 b1.2 ?_
  refine eg_k_lstore (lv' := [some (.inr (.inr (some 45))), some (.inl a), some (.inl b), some (.inr (.inl (M 77 (b).toNat))), none, none, none]) rfl rfl ?_
  refine eg_k_iload rfl rfl ?_
  refine vb_ite hx (fun e9 hx => ?_) (fun e9 hx => ?_)
  · refine eg_k_tsw (x := a) (t := 7) rfl (by rw [e9]; rfl) ?_
    refine eg_k_aload rfl rfl ?_
    refine eg_k_lload rfl rfl ?_
    refine eg_k_aload rfl rfl ?_
    refine eg_k_gfa rfl rfl rfl eh_r45_52 ?_
    refine eg_k_iload rfl rfl ?_
    refine eg_k_ci rfl ?_
    refine eg_k_iadd rfl ?_
    obtain ⟨b2, hx⟩ := vb_if hx
    refine eg_k_lald (k := 19000) rfl rfl b2.1 b2.2 ?_
    refine vk_lcmp rfl rfl hx Iff.rfl (fun c3 hx => ?_) (fun c3 hx => ?_)
    · refine eg_k_cl rfl ?_
      obtain ⟨r5, h4, hx⟩ := vb_bind hx
      refine eg_k_call (c1 := 0) (z1 := 0) (as := [.inr (.inr (some 45)), .inr (.inl 8589934592)]) (rest := []) rfl eg_tj229 (Nat.le_of_ble_eq_true rfl) rfl rfl rfl (Nat.le_of_ble_eq_true rfl) (Nat.le_refl _) (Nat.le_refl _) ?_ (fun Q hQ => ft_229 h4 hQ)
      have hx := Option.some.inj hx
      subst hx
      exact eg_k_iret rfl True.intro (Nat.le_refl _) (Nat.le_refl _) hK
    · refine eg_k_cl rfl ?_
      refine eg_k_goto rfl ?_
      obtain ⟨r8, h7, hx⟩ := vb_bind hx
      refine eg_k_call (c1 := 0) (z1 := 0) (as := [.inr (.inr (some 45)), .inr (.inl 4294967296)]) (rest := []) rfl eg_tj229 (Nat.le_of_ble_eq_true rfl) rfl rfl rfl (Nat.le_of_ble_eq_true rfl) (Nat.le_refl _) (Nat.le_refl _) ?_ (fun Q hQ => ft_229 h7 hQ)
      have hx := Option.some.inj hx
      subst hx
      exact eg_k_iret rfl True.intro (Nat.le_refl _) (Nat.le_refl _) hK
  have e7_ := e9
  refine vb_ite hx (fun e9 hx => ?_) (fun e9 hx => ?_)
  · refine eg_k_tsw (x := a) (t := 22) rfl (by rw [e9]; rfl) ?_
    refine eg_k_aload rfl rfl ?_
    refine eg_k_lload rfl rfl ?_
    refine eg_k_cl rfl ?_
    refine vk_lcmp rfl rfl hx Iff.rfl (fun c10 hx => ?_) (fun c10 hx => ?_)
    · refine eg_k_cl rfl ?_
      obtain ⟨r12, h11, hx⟩ := vb_bind hx
      refine eg_k_call (c1 := 0) (z1 := 0) (as := [.inr (.inr (some 45)), .inr (.inl 8589934592)]) (rest := []) rfl eg_tj229 (Nat.le_of_ble_eq_true rfl) rfl rfl rfl (Nat.le_of_ble_eq_true rfl) (Nat.le_refl _) (Nat.le_refl _) ?_ (fun Q hQ => ft_229 h11 hQ)
      have hx := Option.some.inj hx
      subst hx
      exact eg_k_iret rfl True.intro (Nat.le_refl _) (Nat.le_refl _) hK
    · refine eg_k_cl rfl ?_
      refine eg_k_goto rfl ?_
      obtain ⟨r15, h14, hx⟩ := vb_bind hx
      refine eg_k_call (c1 := 0) (z1 := 0) (as := [.inr (.inr (some 45)), .inr (.inl 4294967296)]) (rest := []) rfl eg_tj229 (Nat.le_of_ble_eq_true rfl) rfl rfl rfl (Nat.le_of_ble_eq_true rfl) (Nat.le_refl _) (Nat.le_refl _) ?_ (fun Q hQ => ft_229 h14 hQ)
      have hx := Option.some.inj hx
      subst hx
      exact eg_k_iret rfl True.intro (Nat.le_refl _) (Nat.le_refl _) hK
  have e8_ := e9
  refine vb_ite hx (fun e9 hx => ?_) (fun e9 hx => ?_)
  · refine eg_k_tsw (x := a) (t := 32) rfl (by rw [e9]; rfl) ?_
    refine eg_k_aload rfl rfl ?_
    refine eg_k_lload rfl rfl ?_
    refine eg_k_cl rfl ?_
    refine vk_lcmp rfl rfl hx Iff.rfl (fun c17 hx => ?_) (fun c17 hx => ?_)
    · refine eg_k_cl rfl ?_
      obtain ⟨r19, h18, hx⟩ := vb_bind hx
      refine eg_k_call (c1 := 0) (z1 := 0) (as := [.inr (.inr (some 45)), .inr (.inl 8589934592)]) (rest := []) rfl eg_tj229 (Nat.le_of_ble_eq_true rfl) rfl rfl rfl (Nat.le_of_ble_eq_true rfl) (Nat.le_refl _) (Nat.le_refl _) ?_ (fun Q hQ => ft_229 h18 hQ)
      have hx := Option.some.inj hx
      subst hx
      exact eg_k_iret rfl True.intro (Nat.le_refl _) (Nat.le_refl _) hK
    · refine eg_k_cl rfl ?_
      refine eg_k_goto rfl ?_
      obtain ⟨r22, h21, hx⟩ := vb_bind hx
      refine eg_k_call (c1 := 0) (z1 := 0) (as := [.inr (.inr (some 45)), .inr (.inl 4294967296)]) (rest := []) rfl eg_tj229 (Nat.le_of_ble_eq_true rfl) rfl rfl rfl (Nat.le_of_ble_eq_true rfl) (Nat.le_refl _) (Nat.le_refl _) ?_ (fun Q hQ => ft_229 h21 hQ)
      have hx := Option.some.inj hx
      subst hx
      exact eg_k_iret rfl True.intro (Nat.le_refl _) (Nat.le_refl _) hK
  have e9_ := e9
  refine vb_ite hx (fun e9 hx => ?_) (fun e9 hx => ?_)
  · refine eg_k_tsw (x := a) (t := 42) rfl (by rw [e9]; rfl) ?_
    refine eg_k_aload rfl rfl ?_
    refine eg_k_aload rfl rfl ?_
    refine eg_k_lload rfl rfl ?_
    refine eg_k_ci rfl ?_
    obtain ⟨r25, h24, hx⟩ := vb_bind hx
    refine eg_k_call (c1 := 0) (z1 := 0) (as := [.inr (.inr (some 45)), .inr (.inl (M 77 (b).toNat)), .inl 0]) (rest := [.inr (.inr (some 45))]) rfl eg_tj223 (Nat.le_of_ble_eq_true rfl) rfl rfl rfl (Nat.le_of_ble_eq_true rfl) (Nat.le_refl _) (Nat.le_refl _) ?_ (fun Q hQ => ft_223 h24 hQ)
    refine vk_if rfl hx Iff.rfl (fun c27 hx => ?_) (fun c27 hx => ?_)
    · refine eg_k_cl rfl ?_
      obtain ⟨r29, h28, hx⟩ := vb_bind hx
      refine eg_k_call (c1 := 0) (z1 := 0) (as := [.inr (.inr (some 45)), .inr (.inl 8589934592)]) (rest := []) rfl eg_tj229 (Nat.le_of_ble_eq_true rfl) rfl rfl rfl (Nat.le_of_ble_eq_true rfl) (Nat.le_refl _) (Nat.le_refl _) ?_ (fun Q hQ => ft_229 h28 hQ)
      have hx := Option.some.inj hx
      subst hx
      exact eg_k_iret rfl True.intro (Nat.le_refl _) (Nat.le_refl _) hK
    · refine eg_k_cl rfl ?_
      refine eg_k_goto rfl ?_
      obtain ⟨r32, h31, hx⟩ := vb_bind hx
      refine eg_k_call (c1 := 0) (z1 := 0) (as := [.inr (.inr (some 45)), .inr (.inl 4294967296)]) (rest := []) rfl eg_tj229 (Nat.le_of_ble_eq_true rfl) rfl rfl rfl (Nat.le_of_ble_eq_true rfl) (Nat.le_refl _) (Nat.le_refl _) ?_ (fun Q hQ => ft_229 h31 hQ)
      have hx := Option.some.inj hx
      subst hx
      exact eg_k_iret rfl True.intro (Nat.le_refl _) (Nat.le_refl _) hK
  have e10_ := e9
  refine vb_ite hx (fun e9 hx => ?_) (fun e9 hx => ?_)
  · refine eg_k_tsw (x := a) (t := 53) rfl (by rw [e9]; rfl) ?_
    refine eg_k_aload rfl rfl ?_
    refine eg_k_ci rfl ?_
    refine eg_k_ci rfl ?_
    refine eg_k_lload rfl rfl ?_
    obtain ⟨r35, h34, hx⟩ := vb_bind hx
    refine eg_k_call (c1 := 0) (z1 := 0) (as := [.inr (.inr (some 45)), .inl 0, .inl 2, .inr (.inl (M 77 (b).toNat))]) (rest := []) rfl eg_tj195 (Nat.le_of_ble_eq_true rfl) rfl rfl rfl (Nat.le_of_ble_eq_true rfl) (Nat.le_refl _) (Nat.le_refl _) ?_ (fun Q hQ => ft_195 h34 hQ)
    refine eg_k_lstore (lv' := [some (.inr (.inr (some 45))), some (.inl a), some (.inl b), some (.inr (.inl (M 77 (b).toNat))), none, some (.inr (.inl r35.1)), none]) rfl rfl ?_
    refine eg_k_lload rfl rfl ?_
    refine eg_k_cl rfl ?_
    refine vk_lcmp rfl rfl hx Iff.rfl (fun c37 hx => ?_) (fun c37 hx => ?_)
    · refine eg_k_aload rfl rfl ?_
      refine eg_k_lload rfl rfl ?_
      obtain ⟨r39, h38, hx⟩ := vb_bind hx
      refine eg_k_call (c1 := 0) (z1 := 0) (as := [.inr (.inr (some 45)), .inr (.inl r35.1)]) (rest := []) rfl eg_tj231 (Nat.le_of_ble_eq_true rfl) rfl rfl rfl (Nat.le_of_ble_eq_true rfl) (Nat.le_refl _) (Nat.le_refl _) ?_ (fun Q hQ => ft_231 h38 hQ)
      have hx := Option.some.inj hx
      subst hx
      exact eg_k_iret rfl True.intro (Nat.le_refl _) (Nat.le_refl _) hK
    · refine eg_k_aload rfl rfl ?_
      refine eg_k_lload rfl rfl ?_
      refine eg_k_ci rfl ?_
      refine eg_k_aload rfl rfl ?_
      refine eg_k_gfa rfl rfl rfl eh_r45_52 ?_
      refine eg_k_iload rfl rfl ?_
      refine eg_k_ci rfl ?_
      refine eg_k_iadd rfl ?_
      obtain ⟨b41, hx⟩ := vb_if hx
      refine eg_k_lald (k := 19000) rfl rfl b41.1 b41.2 ?_
      obtain ⟨m44, h42, hx⟩ := vb_bind hx
      refine eg_k_call (c1 := 0) (z1 := 0) (as := [.inr (.inr (some 45)), .inr (.inl r35.1), .inl 1, .inr (.inl (r35.2 77 (eg_wi (b + 1)).toNat))]) (rest := []) rfl eg_tj205 (Nat.le_of_ble_eq_true rfl) rfl rfl rfl (Nat.le_of_ble_eq_true rfl) (Nat.le_refl _) (Nat.le_refl _) ?_ (fun Q hQ => ft_205 h42 hQ)
      refine eg_k_aload rfl rfl ?_
      refine eg_k_lload rfl rfl ?_
      obtain ⟨r46, h45, hx⟩ := vb_bind hx
      refine eg_k_call (c1 := 0) (z1 := 0) (as := [.inr (.inr (some 45)), .inr (.inl r35.1)]) (rest := []) rfl eg_tj231 (Nat.le_of_ble_eq_true rfl) rfl rfl rfl (Nat.le_of_ble_eq_true rfl) (Nat.le_refl _) (Nat.le_refl _) ?_ (fun Q hQ => ft_231 h45 hQ)
      have hx := Option.some.inj hx
      subst hx
      exact eg_k_iret rfl True.intro (Nat.le_refl _) (Nat.le_refl _) hK
  have e11_ := e9
  refine vb_ite hx (fun e9 hx => ?_) (fun e9 hx => ?_)
  · refine eg_k_tsw (x := a) (t := 77) rfl (by rw [e9]; rfl) ?_
    refine eg_k_aload rfl rfl ?_
    refine eg_k_lload rfl rfl ?_
    refine eg_k_ci rfl ?_
    obtain ⟨r49, h48, hx⟩ := vb_bind hx
    refine eg_k_call (c1 := 0) (z1 := 0) (as := [.inr (.inr (some 45)), .inr (.inl (M 77 (b).toNat)), .inl 0]) (rest := []) rfl eg_tj223 (Nat.le_of_ble_eq_true rfl) rfl rfl rfl (Nat.le_of_ble_eq_true rfl) (Nat.le_refl _) (Nat.le_refl _) ?_ (fun Q hQ => ft_223 h48 hQ)
    refine vk_if rfl hx Iff.rfl (fun c51 hx => ?_) (fun c51 hx => ?_)
    · refine eg_k_aload rfl rfl ?_
      refine eg_k_ci rfl ?_
      obtain ⟨r53, h52, hx⟩ := vb_bind hx
      refine eg_k_call (c1 := 0) (z1 := 0) (as := [.inr (.inr (some 45)), .inl 9]) (rest := []) rfl eg_tj185 (Nat.le_of_ble_eq_true rfl) rfl rfl rfl (Nat.le_of_ble_eq_true rfl) (Nat.le_refl _) (Nat.le_refl _) ?_ (fun Q hQ => ft_185 h52 hQ)
      have hx := Option.some.inj hx
      subst hx
      exact eg_k_iret rfl True.intro (Nat.le_refl _) (Nat.le_refl _) hK
    · refine eg_k_aload rfl rfl ?_
      refine eg_k_aload rfl rfl ?_
      refine eg_k_lload rfl rfl ?_
      refine eg_k_iload rfl rfl ?_
      refine eg_k_ci rfl ?_
      refine eg_k_isub rfl ?_
      obtain ⟨r56, h55, hx⟩ := vb_bind hx
      refine eg_k_call (c1 := 0) (z1 := 0) (as := [.inr (.inr (some 45)), .inr (.inl (M 77 (b).toNat)), .inl (eg_wi (a - 12))]) (rest := [.inr (.inr (some 45))]) rfl eg_tj189 (Nat.le_of_ble_eq_true rfl) rfl rfl rfl (Nat.le_of_ble_eq_true rfl) (Nat.le_refl _) (Nat.le_refl _) ?_ (fun Q hQ => ft_189 h55 hQ)
      obtain ⟨r59, h58, hx⟩ := vb_bind hx
      refine eg_k_call (c1 := 0) (z1 := 0) (as := [.inr (.inr (some 45)), .inr (.inl r56)]) (rest := []) rfl eg_tj229 (Nat.le_of_ble_eq_true rfl) rfl rfl rfl (Nat.le_of_ble_eq_true rfl) (Nat.le_refl _) (Nat.le_refl _) ?_ (fun Q hQ => ft_229 h58 hQ)
      refine eg_k_goto rfl ?_
      have hx := Option.some.inj hx
      subst hx
      exact eg_k_iret rfl True.intro (Nat.le_refl _) (Nat.le_refl _) hK
  have e12_ := e9
  refine vb_ite hx (fun e9 hx => ?_) (fun e9 hx => ?_)
  · refine eg_k_tsw (x := a) (t := 77) rfl (by rw [e9]; rfl) ?_
    refine eg_k_aload rfl rfl ?_
    refine eg_k_lload rfl rfl ?_
    refine eg_k_ci rfl ?_
    obtain ⟨r62, h61, hx⟩ := vb_bind hx
    refine eg_k_call (c1 := 0) (z1 := 0) (as := [.inr (.inr (some 45)), .inr (.inl (M 77 (b).toNat)), .inl 0]) (rest := []) rfl eg_tj223 (Nat.le_of_ble_eq_true rfl) rfl rfl rfl (Nat.le_of_ble_eq_true rfl) (Nat.le_refl _) (Nat.le_refl _) ?_ (fun Q hQ => ft_223 h61 hQ)
    refine vk_if rfl hx Iff.rfl (fun c64 hx => ?_) (fun c64 hx => ?_)
    · refine eg_k_aload rfl rfl ?_
      refine eg_k_ci rfl ?_
      obtain ⟨r66, h65, hx⟩ := vb_bind hx
      refine eg_k_call (c1 := 0) (z1 := 0) (as := [.inr (.inr (some 45)), .inl 9]) (rest := []) rfl eg_tj185 (Nat.le_of_ble_eq_true rfl) rfl rfl rfl (Nat.le_of_ble_eq_true rfl) (Nat.le_refl _) (Nat.le_refl _) ?_ (fun Q hQ => ft_185 h65 hQ)
      have hx := Option.some.inj hx
      subst hx
      exact eg_k_iret rfl True.intro (Nat.le_refl _) (Nat.le_refl _) hK
    · refine eg_k_aload rfl rfl ?_
      refine eg_k_aload rfl rfl ?_
      refine eg_k_lload rfl rfl ?_
      refine eg_k_iload rfl rfl ?_
      refine eg_k_ci rfl ?_
      refine eg_k_isub rfl ?_
      obtain ⟨r69, h68, hx⟩ := vb_bind hx
      refine eg_k_call (c1 := 0) (z1 := 0) (as := [.inr (.inr (some 45)), .inr (.inl (M 77 (b).toNat)), .inl (eg_wi (a - 12))]) (rest := [.inr (.inr (some 45))]) rfl eg_tj189 (Nat.le_of_ble_eq_true rfl) rfl rfl rfl (Nat.le_of_ble_eq_true rfl) (Nat.le_refl _) (Nat.le_refl _) ?_ (fun Q hQ => ft_189 h68 hQ)
      obtain ⟨r72, h71, hx⟩ := vb_bind hx
      refine eg_k_call (c1 := 0) (z1 := 0) (as := [.inr (.inr (some 45)), .inr (.inl r69)]) (rest := []) rfl eg_tj229 (Nat.le_of_ble_eq_true rfl) rfl rfl rfl (Nat.le_of_ble_eq_true rfl) (Nat.le_refl _) (Nat.le_refl _) ?_ (fun Q hQ => ft_229 h71 hQ)
      refine eg_k_goto rfl ?_
      have hx := Option.some.inj hx
      subst hx
      exact eg_k_iret rfl True.intro (Nat.le_refl _) (Nat.le_refl _) hK
  have e13_ := e9
  refine vb_ite hx (fun e9 hx => ?_) (fun e9 hx => ?_)
  · refine eg_k_tsw (x := a) (t := 95) rfl (by rw [e9]; rfl) ?_
    refine eg_k_aload rfl rfl ?_
    refine eg_k_lload rfl rfl ?_
    refine eg_k_ci rfl ?_
    obtain ⟨r75, h74, hx⟩ := vb_bind hx
    refine eg_k_call (c1 := 0) (z1 := 0) (as := [.inr (.inr (some 45)), .inr (.inl (M 77 (b).toNat)), .inl 0]) (rest := []) rfl eg_tj223 (Nat.le_of_ble_eq_true rfl) rfl rfl rfl (Nat.le_of_ble_eq_true rfl) (Nat.le_refl _) (Nat.le_refl _) ?_ (fun Q hQ => ft_223 h74 hQ)
    refine vk_if rfl hx Iff.rfl (fun c77 hx => ?_) (fun c77 hx => ?_)
    · refine eg_k_aload rfl rfl ?_
      refine eg_k_lload rfl rfl ?_
      refine eg_k_iload rfl rfl ?_
      refine eg_k_ci rfl ?_
      refine eg_k_isub rfl ?_
      refine eg_k_aload rfl rfl ?_
      refine eg_k_gfa rfl rfl rfl eh_r45_52 ?_
      refine eg_k_iload rfl rfl ?_
      refine eg_k_ci rfl ?_
      refine eg_k_iadd rfl ?_
      obtain ⟨b78, hx⟩ := vb_if hx
      refine eg_k_lald (k := 19000) rfl rfl b78.1 b78.2 ?_
      obtain ⟨m81, h79, hx⟩ := vb_bind hx
      refine eg_k_call (c1 := 0) (z1 := 0) (as := [.inr (.inr (some 45)), .inr (.inl (M 77 (b).toNat)), .inl (eg_wi (a - 14)), .inr (.inl (M 77 (eg_wi (b + 1)).toNat))]) (rest := []) rfl eg_tj205 (Nat.le_of_ble_eq_true rfl) rfl rfl rfl (Nat.le_of_ble_eq_true rfl) (Nat.le_refl _) (Nat.le_refl _) ?_ (fun Q hQ => ft_205 h79 hQ)
      refine eg_k_aload rfl rfl ?_
      refine eg_k_cl rfl ?_
      obtain ⟨r83, h82, hx⟩ := vb_bind hx
      refine eg_k_call (c1 := 0) (z1 := 0) (as := [.inr (.inr (some 45)), .inr (.inl 12884901888)]) (rest := []) rfl eg_tj229 (Nat.le_of_ble_eq_true rfl) rfl rfl rfl (Nat.le_of_ble_eq_true rfl) (Nat.le_refl _) (Nat.le_refl _) ?_ (fun Q hQ => ft_229 h82 hQ)
      have hx := Option.some.inj hx
      subst hx
      exact eg_k_iret rfl True.intro (Nat.le_refl _) (Nat.le_refl _) hK
    · refine eg_k_aload rfl rfl ?_
      refine eg_k_ci rfl ?_
      obtain ⟨r86, h85, hx⟩ := vb_bind hx
      refine eg_k_call (c1 := 0) (z1 := 0) (as := [.inr (.inr (some 45)), .inl 9]) (rest := []) rfl eg_tj185 (Nat.le_of_ble_eq_true rfl) rfl rfl rfl (Nat.le_of_ble_eq_true rfl) (Nat.le_refl _) (Nat.le_refl _) ?_ (fun Q hQ => ft_185 h85 hQ)
      have hx := Option.some.inj hx
      subst hx
      exact eg_k_iret rfl True.intro (Nat.le_refl _) (Nat.le_refl _) hK
  have e14_ := e9
  refine vb_ite hx (fun e9 hx => ?_) (fun e9 hx => ?_)
  · refine eg_k_tsw (x := a) (t := 95) rfl (by rw [e9]; rfl) ?_
    refine eg_k_aload rfl rfl ?_
    refine eg_k_lload rfl rfl ?_
    refine eg_k_ci rfl ?_
    obtain ⟨r89, h88, hx⟩ := vb_bind hx
    refine eg_k_call (c1 := 0) (z1 := 0) (as := [.inr (.inr (some 45)), .inr (.inl (M 77 (b).toNat)), .inl 0]) (rest := []) rfl eg_tj223 (Nat.le_of_ble_eq_true rfl) rfl rfl rfl (Nat.le_of_ble_eq_true rfl) (Nat.le_refl _) (Nat.le_refl _) ?_ (fun Q hQ => ft_223 h88 hQ)
    refine vk_if rfl hx Iff.rfl (fun c91 hx => ?_) (fun c91 hx => ?_)
    · refine eg_k_aload rfl rfl ?_
      refine eg_k_lload rfl rfl ?_
      refine eg_k_iload rfl rfl ?_
      refine eg_k_ci rfl ?_
      refine eg_k_isub rfl ?_
      refine eg_k_aload rfl rfl ?_
      refine eg_k_gfa rfl rfl rfl eh_r45_52 ?_
      refine eg_k_iload rfl rfl ?_
      refine eg_k_ci rfl ?_
      refine eg_k_iadd rfl ?_
      obtain ⟨b92, hx⟩ := vb_if hx
      refine eg_k_lald (k := 19000) rfl rfl b92.1 b92.2 ?_
      obtain ⟨m95, h93, hx⟩ := vb_bind hx
      refine eg_k_call (c1 := 0) (z1 := 0) (as := [.inr (.inr (some 45)), .inr (.inl (M 77 (b).toNat)), .inl (eg_wi (a - 14)), .inr (.inl (M 77 (eg_wi (b + 1)).toNat))]) (rest := []) rfl eg_tj205 (Nat.le_of_ble_eq_true rfl) rfl rfl rfl (Nat.le_of_ble_eq_true rfl) (Nat.le_refl _) (Nat.le_refl _) ?_ (fun Q hQ => ft_205 h93 hQ)
      refine eg_k_aload rfl rfl ?_
      refine eg_k_cl rfl ?_
      obtain ⟨r97, h96, hx⟩ := vb_bind hx
      refine eg_k_call (c1 := 0) (z1 := 0) (as := [.inr (.inr (some 45)), .inr (.inl 12884901888)]) (rest := []) rfl eg_tj229 (Nat.le_of_ble_eq_true rfl) rfl rfl rfl (Nat.le_of_ble_eq_true rfl) (Nat.le_refl _) (Nat.le_refl _) ?_ (fun Q hQ => ft_229 h96 hQ)
      have hx := Option.some.inj hx
      subst hx
      exact eg_k_iret rfl True.intro (Nat.le_refl _) (Nat.le_refl _) hK
    · refine eg_k_aload rfl rfl ?_
      refine eg_k_ci rfl ?_
      obtain ⟨r100, h99, hx⟩ := vb_bind hx
      refine eg_k_call (c1 := 0) (z1 := 0) (as := [.inr (.inr (some 45)), .inl 9]) (rest := []) rfl eg_tj185 (Nat.le_of_ble_eq_true rfl) rfl rfl rfl (Nat.le_of_ble_eq_true rfl) (Nat.le_refl _) (Nat.le_refl _) ?_ (fun Q hQ => ft_185 h99 hQ)
      have hx := Option.some.inj hx
      subst hx
      exact eg_k_iret rfl True.intro (Nat.le_refl _) (Nat.le_refl _) hK
  have e15_ := e9
  refine vb_ite hx (fun e9 hx => ?_) (fun e9 hx => ?_)
  · refine eg_k_tsw (x := a) (t := 120) rfl (by rw [e9]; rfl) ?_
    refine eg_k_lload rfl rfl ?_
    obtain ⟨r103, h102, hx⟩ := vb_bind hx
    refine eg_k_call (c1 := 0) (z1 := 0) (as := [.inr (.inl (M 77 (b).toNat))]) (rest := []) rfl eg_tj228 (Nat.le_of_ble_eq_true rfl) rfl rfl trivial (Nat.le_of_ble_eq_true rfl) (Nat.le_refl _) (Nat.le_refl _) ?_ (fun Q hQ => ft_228 h102 hQ)
    refine vk_if rfl hx Iff.rfl (fun c105 hx => ?_) (fun c105 hx => ?_)
    · refine eg_k_lload rfl rfl ?_
      refine eg_k_l2i rfl ?_
      refine vk_if rfl hx Iff.rfl (fun c106 hx => ?_) (fun c106 hx => ?_)
      · refine eg_k_aload rfl rfl ?_
        refine eg_k_ci rfl ?_
        obtain ⟨r108, h107, hx⟩ := vb_bind hx
        refine eg_k_call (c1 := 0) (z1 := 0) (as := [.inr (.inr (some 45)), .inl 11]) (rest := []) rfl eg_tj185 (Nat.le_of_ble_eq_true rfl) rfl rfl rfl (Nat.le_of_ble_eq_true rfl) (Nat.le_refl _) (Nat.le_refl _) ?_ (fun Q hQ => ft_185 h107 hQ)
        have hx := Option.some.inj hx
        subst hx
        exact eg_k_iret rfl True.intro (Nat.le_refl _) (Nat.le_refl _) hK
      · refine eg_k_lload rfl rfl ?_
        refine eg_k_l2i rfl ?_
        refine eg_k_ci rfl ?_
        refine vk_icmp rfl hx Iff.rfl (fun c110 hx => ?_) (fun c110 hx => ?_)
        · refine eg_k_aload rfl rfl ?_
          refine eg_k_aload rfl rfl ?_
          refine eg_k_ci rfl ?_
          refine eg_k_lload rfl rfl ?_
          refine eg_k_l2i rfl ?_
          refine eg_k_aload rfl rfl ?_
          refine eg_k_gfa rfl rfl rfl eh_r45_52 ?_
          refine eg_k_iload rfl rfl ?_
          refine eg_k_ci rfl ?_
          refine eg_k_iadd rfl ?_
          obtain ⟨b111, hx⟩ := vb_if hx
          refine eg_k_lald (k := 19000) rfl rfl b111.1 b111.2 ?_
          obtain ⟨r113, h112, hx⟩ := vb_bind hx
          refine eg_k_call (c1 := 0) (z1 := 0) (as := [.inr (.inr (some 45)), .inl 1, .inl (eg_wi (M 77 (b).toNat)), .inr (.inl (M 77 (eg_wi (b + 1)).toNat))]) (rest := [.inr (.inr (some 45))]) rfl eg_tj195 (Nat.le_of_ble_eq_true rfl) rfl rfl rfl (Nat.le_of_ble_eq_true rfl) (Nat.le_refl _) (Nat.le_refl _) ?_ (fun Q hQ => ft_195 h112 hQ)
          obtain ⟨r116, h115, hx⟩ := vb_bind hx
          refine eg_k_call (c1 := 0) (z1 := 0) (as := [.inr (.inr (some 45)), .inr (.inl r113.1)]) (rest := []) rfl eg_tj231 (Nat.le_of_ble_eq_true rfl) rfl rfl rfl (Nat.le_of_ble_eq_true rfl) (Nat.le_refl _) (Nat.le_refl _) ?_ (fun Q hQ => ft_231 h115 hQ)
          have hx := Option.some.inj hx
          subst hx
          exact eg_k_iret rfl True.intro (Nat.le_refl _) (Nat.le_refl _) hK
        · refine eg_k_aload rfl rfl ?_
          refine eg_k_ci rfl ?_
          obtain ⟨r119, h118, hx⟩ := vb_bind hx
          refine eg_k_call (c1 := 0) (z1 := 0) (as := [.inr (.inr (some 45)), .inl 11]) (rest := []) rfl eg_tj185 (Nat.le_of_ble_eq_true rfl) rfl rfl rfl (Nat.le_of_ble_eq_true rfl) (Nat.le_refl _) (Nat.le_refl _) ?_ (fun Q hQ => ft_185 h118 hQ)
          have hx := Option.some.inj hx
          subst hx
          exact eg_k_iret rfl True.intro (Nat.le_refl _) (Nat.le_refl _) hK
    · refine eg_k_aload rfl rfl ?_
      refine eg_k_ci rfl ?_
      obtain ⟨r122, h121, hx⟩ := vb_bind hx
      refine eg_k_call (c1 := 0) (z1 := 0) (as := [.inr (.inr (some 45)), .inl 9]) (rest := []) rfl eg_tj185 (Nat.le_of_ble_eq_true rfl) rfl rfl rfl (Nat.le_of_ble_eq_true rfl) (Nat.le_refl _) (Nat.le_refl _) ?_ (fun Q hQ => ft_185 h121 hQ)
      have hx := Option.some.inj hx
      subst hx
      exact eg_k_iret rfl True.intro (Nat.le_refl _) (Nat.le_refl _) hK
  have e16_ := e9
  refine vb_ite hx (fun e9 hx => ?_) (fun e9 hx => ?_)
  · refine eg_k_tsw (x := a) (t := 170) rfl (by rw [e9]; rfl) ?_
    refine eg_k_aload rfl rfl ?_
    refine eg_k_iload rfl rfl ?_
    refine eg_k_iload rfl rfl ?_
    obtain ⟨r125, h124, hx⟩ := vb_bind hx
    refine eg_k_call (c1 := 0) (z1 := 0) (as := [.inr (.inr (some 45)), .inl a, .inl b]) (rest := []) rfl eg_tj232 (Nat.le_of_ble_eq_true rfl) rfl rfl rfl (Nat.le_of_ble_eq_true rfl) (Nat.le_refl _) (Nat.le_refl _) ?_ (fun Q hQ => ft_232 h124 hQ)
    have hx := Option.some.inj hx
    subst hx
    exact eg_k_iret rfl True.intro (Nat.le_refl _) (Nat.le_refl _) hK
  have e17_ := e9
  refine vb_ite hx (fun e9 hx => ?_) (fun e9 hx => ?_)
  · refine eg_k_tsw (x := a) (t := 170) rfl (by rw [e9]; rfl) ?_
    refine eg_k_aload rfl rfl ?_
    refine eg_k_iload rfl rfl ?_
    refine eg_k_iload rfl rfl ?_
    obtain ⟨r128, h127, hx⟩ := vb_bind hx
    refine eg_k_call (c1 := 0) (z1 := 0) (as := [.inr (.inr (some 45)), .inl a, .inl b]) (rest := []) rfl eg_tj232 (Nat.le_of_ble_eq_true rfl) rfl rfl rfl (Nat.le_of_ble_eq_true rfl) (Nat.le_refl _) (Nat.le_refl _) ?_ (fun Q hQ => ft_232 h127 hQ)
    have hx := Option.some.inj hx
    subst hx
    exact eg_k_iret rfl True.intro (Nat.le_refl _) (Nat.le_refl _) hK
  have e18_ := e9
  refine vb_ite hx (fun e9 hx => ?_) (fun e9 hx => ?_)
  · refine eg_k_tsw (x := a) (t := 152) rfl (by rw [e9]; rfl) ?_
    refine eg_k_aload rfl rfl ?_
    refine eg_k_lload rfl rfl ?_
    refine eg_k_ci rfl ?_
    obtain ⟨r131, h130, hx⟩ := vb_bind hx
    refine eg_k_call (c1 := 0) (z1 := 0) (as := [.inr (.inr (some 45)), .inr (.inl (M 77 (b).toNat)), .inl 1]) (rest := []) rfl eg_tj223 (Nat.le_of_ble_eq_true rfl) rfl rfl rfl (Nat.le_of_ble_eq_true rfl) (Nat.le_refl _) (Nat.le_refl _) ?_ (fun Q hQ => ft_223 h130 hQ)
    refine vk_if rfl hx Iff.rfl (fun c133 hx => ?_) (fun c133 hx => ?_)
    · refine eg_k_aload rfl rfl ?_
      refine eg_k_ci rfl ?_
      obtain ⟨r135, h134, hx⟩ := vb_bind hx
      refine eg_k_call (c1 := 0) (z1 := 0) (as := [.inr (.inr (some 45)), .inl 9]) (rest := []) rfl eg_tj185 (Nat.le_of_ble_eq_true rfl) rfl rfl rfl (Nat.le_of_ble_eq_true rfl) (Nat.le_refl _) (Nat.le_refl _) ?_ (fun Q hQ => ft_185 h134 hQ)
      have hx := Option.some.inj hx
      subst hx
      exact eg_k_iret rfl True.intro (Nat.le_refl _) (Nat.le_refl _) hK
    · refine eg_k_aload rfl rfl ?_
      refine eg_k_aload rfl rfl ?_
      refine eg_k_gfa rfl rfl rfl eh_r45_31 ?_
      refine eg_k_lload rfl rfl ?_
      obtain ⟨r138, h137, hx⟩ := vb_bind hx
      refine eg_k_call (c1 := 0) (z1 := 0) (as := [.inr (.inl (M 77 (b).toNat))]) (rest := [.inr (.inr (some 63)), .inr (.inr (some 45))]) rfl eg_tj187 (Nat.le_of_ble_eq_true rfl) rfl rfl trivial (Nat.le_of_ble_eq_true rfl) (Nat.le_refl _) (Nat.le_refl _) ?_ (fun Q hQ => ft_187 h137 hQ)
      obtain ⟨b140, hx⟩ := vb_if hx
      refine eg_k_sald (k := 6700) rfl rfl b140.1 b140.2 ?_
      refine eg_k_i2l rfl ?_
      obtain ⟨r142, h141, hx⟩ := vb_bind hx
      refine eg_k_call (c1 := 0) (z1 := 0) (as := [.inr (.inr (some 45)), .inr (.inl (M 63 (r138).toNat))]) (rest := []) rfl eg_tj229 (Nat.le_of_ble_eq_true rfl) rfl rfl rfl (Nat.le_of_ble_eq_true rfl) (Nat.le_refl _) (Nat.le_refl _) ?_ (fun Q hQ => ft_229 h141 hQ)
      refine eg_k_goto rfl ?_
      have hx := Option.some.inj hx
      subst hx
      exact eg_k_iret rfl True.intro (Nat.le_refl _) (Nat.le_refl _) hK
  have e19_ := e9
  refine eg_k_tsw (x := a) (t := 170) rfl (by unfold eg_tb; rw [if_pos (by omega)]; rfl) ?_
  refine eg_k_aload rfl rfl ?_
  refine eg_k_iload rfl rfl ?_
  refine eg_k_iload rfl rfl ?_
  obtain ⟨r145, h144, hx⟩ := vb_bind hx
  refine eg_k_call (c1 := 0) (z1 := 0) (as := [.inr (.inr (some 45)), .inl a, .inl b]) (rest := []) rfl eg_tj232 (Nat.le_of_ble_eq_true rfl) rfl rfl rfl (Nat.le_of_ble_eq_true rfl) (Nat.le_refl _) (Nat.le_refl _) ?_ (fun Q hQ => ft_232 h144 hQ)
  have hx := Option.some.inj hx
  subst hx
  exact eg_k_iret rfl True.intro (Nat.le_refl _) (Nat.le_refl _) hK
theorem fw_230 {M : eM} {c : Nat} {a : Int} {b : Int} {x : Int × eM} (hx : fn_230 a b M = some x) (hc : c ∉ ([45, 62, 63, 65, 66, 67, 68, 69, 70, 71, 73, 74, 75, 76, 85] : List Nat)) (j : Nat) : ((x).2) c j = M c j := by
  obtain ⟨v, hK⟩ : ∃ v, ((x).2) c j = v := ⟨_, rfl⟩
  rw [hK]
  refine Eq.symm ?_
  obtain ⟨_, hx⟩ := vb_if hx
  refine vb_ite hx (fun _ hx => ?_) (fun _ hx => ?_)
  · obtain ⟨_, hx⟩ := vb_if hx
    refine vb_ite hx (fun _ hx => ?_) (fun _ hx => ?_)
    · obtain ⟨r5, h4, hx⟩ := vb_bind hx
      have hx := Option.some.inj hx
      subst hx
      exact ((fw_229 h4 (vsub hc (by decide)) j).trans rfl).symm.trans hK
    · obtain ⟨r8, h7, hx⟩ := vb_bind hx
      have hx := Option.some.inj hx
      subst hx
      exact ((fw_229 h7 (vsub hc (by decide)) j).trans rfl).symm.trans hK
  refine vb_ite hx (fun _ hx => ?_) (fun _ hx => ?_)
  · refine vb_ite hx (fun _ hx => ?_) (fun _ hx => ?_)
    · obtain ⟨r12, h11, hx⟩ := vb_bind hx
      have hx := Option.some.inj hx
      subst hx
      exact ((fw_229 h11 (vsub hc (by decide)) j).trans rfl).symm.trans hK
    · obtain ⟨r15, h14, hx⟩ := vb_bind hx
      have hx := Option.some.inj hx
      subst hx
      exact ((fw_229 h14 (vsub hc (by decide)) j).trans rfl).symm.trans hK
  refine vb_ite hx (fun _ hx => ?_) (fun _ hx => ?_)
  · refine vb_ite hx (fun _ hx => ?_) (fun _ hx => ?_)
    · obtain ⟨r19, h18, hx⟩ := vb_bind hx
      have hx := Option.some.inj hx
      subst hx
      exact ((fw_229 h18 (vsub hc (by decide)) j).trans rfl).symm.trans hK
    · obtain ⟨r22, h21, hx⟩ := vb_bind hx
      have hx := Option.some.inj hx
      subst hx
      exact ((fw_229 h21 (vsub hc (by decide)) j).trans rfl).symm.trans hK
  refine vb_ite hx (fun _ hx => ?_) (fun _ hx => ?_)
  · obtain ⟨r25, h24, hx⟩ := vb_bind hx
    refine vb_ite hx (fun _ hx => ?_) (fun _ hx => ?_)
    · obtain ⟨r29, h28, hx⟩ := vb_bind hx
      have hx := Option.some.inj hx
      subst hx
      exact ((fw_229 h28 (vsub hc (by decide)) j).trans rfl).symm.trans hK
    · obtain ⟨r32, h31, hx⟩ := vb_bind hx
      have hx := Option.some.inj hx
      subst hx
      exact ((fw_229 h31 (vsub hc (by decide)) j).trans rfl).symm.trans hK
  refine vb_ite hx (fun _ hx => ?_) (fun _ hx => ?_)
  · obtain ⟨r35, h34, hx⟩ := vb_bind hx
    refine vb_ite hx (fun _ hx => ?_) (fun _ hx => ?_)
    · obtain ⟨r39, h38, hx⟩ := vb_bind hx
      have hx := Option.some.inj hx
      subst hx
      exact ((fw_231 h38 (vsub hc (by decide)) j).trans ((fw_195 h34 (vsub hc (by decide)) j).trans rfl)).symm.trans hK
    · obtain ⟨_, hx⟩ := vb_if hx
      obtain ⟨m44, h42, hx⟩ := vb_bind hx
      obtain ⟨r46, h45, hx⟩ := vb_bind hx
      have hx := Option.some.inj hx
      subst hx
      exact ((fw_231 h45 (vsub hc (by decide)) j).trans ((fw_205 h42 (vsub hc (by decide)) j).trans ((fw_195 h34 (vsub hc (by decide)) j).trans rfl))).symm.trans hK
  refine vb_ite hx (fun _ hx => ?_) (fun _ hx => ?_)
  · obtain ⟨r49, h48, hx⟩ := vb_bind hx
    refine vb_ite hx (fun _ hx => ?_) (fun _ hx => ?_)
    · obtain ⟨r53, h52, hx⟩ := vb_bind hx
      have hx := Option.some.inj hx
      subst hx
      exact ((fw_185 h52 (vsub hc (by decide)) j).trans rfl).symm.trans hK
    · obtain ⟨r56, h55, hx⟩ := vb_bind hx
      obtain ⟨r59, h58, hx⟩ := vb_bind hx
      have hx := Option.some.inj hx
      subst hx
      exact ((fw_229 h58 (vsub hc (by decide)) j).trans rfl).symm.trans hK
  refine vb_ite hx (fun _ hx => ?_) (fun _ hx => ?_)
  · obtain ⟨r62, h61, hx⟩ := vb_bind hx
    refine vb_ite hx (fun _ hx => ?_) (fun _ hx => ?_)
    · obtain ⟨r66, h65, hx⟩ := vb_bind hx
      have hx := Option.some.inj hx
      subst hx
      exact ((fw_185 h65 (vsub hc (by decide)) j).trans rfl).symm.trans hK
    · obtain ⟨r69, h68, hx⟩ := vb_bind hx
      obtain ⟨r72, h71, hx⟩ := vb_bind hx
      have hx := Option.some.inj hx
      subst hx
      exact ((fw_229 h71 (vsub hc (by decide)) j).trans rfl).symm.trans hK
  refine vb_ite hx (fun _ hx => ?_) (fun _ hx => ?_)
  · obtain ⟨r75, h74, hx⟩ := vb_bind hx
    refine vb_ite hx (fun _ hx => ?_) (fun _ hx => ?_)
    · obtain ⟨_, hx⟩ := vb_if hx
      obtain ⟨m81, h79, hx⟩ := vb_bind hx
      obtain ⟨r83, h82, hx⟩ := vb_bind hx
      have hx := Option.some.inj hx
      subst hx
      exact ((fw_229 h82 (vsub hc (by decide)) j).trans ((fw_205 h79 (vsub hc (by decide)) j).trans rfl)).symm.trans hK
    · obtain ⟨r86, h85, hx⟩ := vb_bind hx
      have hx := Option.some.inj hx
      subst hx
      exact ((fw_185 h85 (vsub hc (by decide)) j).trans rfl).symm.trans hK
  refine vb_ite hx (fun _ hx => ?_) (fun _ hx => ?_)
  · obtain ⟨r89, h88, hx⟩ := vb_bind hx
    refine vb_ite hx (fun _ hx => ?_) (fun _ hx => ?_)
    · obtain ⟨_, hx⟩ := vb_if hx
      obtain ⟨m95, h93, hx⟩ := vb_bind hx
      obtain ⟨r97, h96, hx⟩ := vb_bind hx
      have hx := Option.some.inj hx
      subst hx
      exact ((fw_229 h96 (vsub hc (by decide)) j).trans ((fw_205 h93 (vsub hc (by decide)) j).trans rfl)).symm.trans hK
    · obtain ⟨r100, h99, hx⟩ := vb_bind hx
      have hx := Option.some.inj hx
      subst hx
      exact ((fw_185 h99 (vsub hc (by decide)) j).trans rfl).symm.trans hK
  refine vb_ite hx (fun _ hx => ?_) (fun _ hx => ?_)
  · obtain ⟨r103, h102, hx⟩ := vb_bind hx
    refine vb_ite hx (fun _ hx => ?_) (fun _ hx => ?_)
    · refine vb_ite hx (fun _ hx => ?_) (fun _ hx => ?_)
      · obtain ⟨r108, h107, hx⟩ := vb_bind hx
        have hx := Option.some.inj hx
        subst hx
        exact ((fw_185 h107 (vsub hc (by decide)) j).trans rfl).symm.trans hK
      · refine vb_ite hx (fun _ hx => ?_) (fun _ hx => ?_)
        · obtain ⟨_, hx⟩ := vb_if hx
          obtain ⟨r113, h112, hx⟩ := vb_bind hx
          obtain ⟨r116, h115, hx⟩ := vb_bind hx
          have hx := Option.some.inj hx
          subst hx
          exact ((fw_231 h115 (vsub hc (by decide)) j).trans ((fw_195 h112 (vsub hc (by decide)) j).trans rfl)).symm.trans hK
        · obtain ⟨r119, h118, hx⟩ := vb_bind hx
          have hx := Option.some.inj hx
          subst hx
          exact ((fw_185 h118 (vsub hc (by decide)) j).trans rfl).symm.trans hK
    · obtain ⟨r122, h121, hx⟩ := vb_bind hx
      have hx := Option.some.inj hx
      subst hx
      exact ((fw_185 h121 (vsub hc (by decide)) j).trans rfl).symm.trans hK
  refine vb_ite hx (fun _ hx => ?_) (fun _ hx => ?_)
  · obtain ⟨r125, h124, hx⟩ := vb_bind hx
    have hx := Option.some.inj hx
    subst hx
    exact ((fw_232 h124 (vsub hc (by decide)) j).trans rfl).symm.trans hK
  refine vb_ite hx (fun _ hx => ?_) (fun _ hx => ?_)
  · obtain ⟨r128, h127, hx⟩ := vb_bind hx
    have hx := Option.some.inj hx
    subst hx
    exact ((fw_232 h127 (vsub hc (by decide)) j).trans rfl).symm.trans hK
  refine vb_ite hx (fun _ hx => ?_) (fun _ hx => ?_)
  · obtain ⟨r131, h130, hx⟩ := vb_bind hx
    refine vb_ite hx (fun _ hx => ?_) (fun _ hx => ?_)
    · obtain ⟨r135, h134, hx⟩ := vb_bind hx
      have hx := Option.some.inj hx
      subst hx
      exact ((fw_185 h134 (vsub hc (by decide)) j).trans rfl).symm.trans hK
    · obtain ⟨r138, h137, hx⟩ := vb_bind hx
      obtain ⟨_, hx⟩ := vb_if hx
      obtain ⟨r142, h141, hx⟩ := vb_bind hx
      have hx := Option.some.inj hx
      subst hx
      exact ((fw_229 h141 (vsub hc (by decide)) j).trans rfl).symm.trans hK
  obtain ⟨r145, h144, hx⟩ := vb_bind hx
  have hx := Option.some.inj hx
  subst hx
  exact ((fw_232 h144 (vsub hc (by decide)) j).trans rfl).symm.trans hK
/-- 234: WeakSchemeModel.finalize(JJ)I -/
noncomputable def fn_234 (a : Int) (b : Int) (M : eM) : Option (Int × eM) :=
  (fn_201 a M).bind fun r2 =>
  if r2 = 0 then
    (fn_185 9 M).bind fun r6 =>
    some (r6.1, r6.2)
  else
    (fn_223 b 2 M).bind fun r9 =>
    if r9 = 0 then
      (fn_185 9 M).bind fun r13 =>
      some (r13.1, r13.2)
    else
      (fn_187 b M).bind fun r16 =>
      if 0 ≤ r16 ∧ r16 < 6700 then
      (fn_176 (M 64 (r16).toNat) M).bind fun r20 =>
        if 0 ≤ r20 ∧ r20 < 20100 then
        if (M 55 (r20).toNat) = 1 then
            if ¬ (eg_wi ((M 45 45) + (M 45 48))) = 500 then
              if 0 ≤ (M 45 45) ∧ (M 45 45) < 500 then
              (fn_229 12884901888 (eg_u (eg_u (eg_u M 73 (M 45 45).toNat a) 74 (M 45 45).toNat b) 45 45 (eg_wi ((M 45 45) + 1)))).bind fun r28 =>
                some (r28.1, r28.2)
              else none
            else
              (fn_185 11 M).bind fun r31 =>
              some (r31.1, r31.2)
          else
            (fn_185 9 M).bind fun r34 =>
            some (r34.1, r34.2)
        else none
      else none
set_option maxRecDepth 100000 in
theorem ft_234 {cn mo : Nat} {sc : eg_Sc} {d : Nat} {M : eM} {Q : Option eg_V → eg_H → Prop} {a : Int} {b : Int} {x : Int × eM} (hx : fn_234 a b M = some x) (hK : Q (some (.inl ((x).1))) (em_L cn mo, eh_R, (x).2)) : eg_wp sc (d + 3) 234 [.inr (.inr (some 45)), .inr (.inl a), .inr (.inl b)] (em_L cn mo, eh_R, M) 0 0 Q := by
  refine eg_in (lv := [some (.inr (.inr (some 45))), some (.inr (.inl a)), none, some (.inr (.inl b)), none]) eg_tj234 (Nat.le_of_ble_eq_true rfl) rfl ?_
  refine eg_k_lload rfl rfl ?_
  obtain ⟨r2, h1, hx⟩ := vb_bind hx
  refine eg_k_call (c1 := 0) (z1 := 0) (as := [.inr (.inl a)]) (rest := []) rfl eg_tj201 (Nat.le_of_ble_eq_true rfl) rfl rfl trivial (Nat.le_of_ble_eq_true rfl) (Nat.le_refl _) (Nat.le_refl _) ?_ (fun Q hQ => ft_201 h1 hQ)
  refine vk_if rfl hx Iff.rfl (fun c4 hx => ?_) (fun c4 hx => ?_)
  · refine eg_k_aload rfl rfl ?_
    refine eg_k_ci rfl ?_
    obtain ⟨r6, h5, hx⟩ := vb_bind hx
    refine eg_k_call (c1 := 0) (z1 := 0) (as := [.inr (.inr (some 45)), .inl 9]) (rest := []) rfl eg_tj185 (Nat.le_of_ble_eq_true rfl) rfl rfl rfl (Nat.le_of_ble_eq_true rfl) (Nat.le_refl _) (Nat.le_refl _) ?_ (fun Q hQ => ft_185 h5 hQ)
    have hx := Option.some.inj hx
    subst hx
    exact eg_k_iret rfl True.intro (Nat.le_refl _) (Nat.le_refl _) hK
  · refine eg_k_aload rfl rfl ?_
    refine eg_k_lload rfl rfl ?_
    refine eg_k_ci rfl ?_
    obtain ⟨r9, h8, hx⟩ := vb_bind hx
    refine eg_k_call (c1 := 0) (z1 := 0) (as := [.inr (.inr (some 45)), .inr (.inl b), .inl 2]) (rest := []) rfl eg_tj223 (Nat.le_of_ble_eq_true rfl) rfl rfl rfl (Nat.le_of_ble_eq_true rfl) (Nat.le_refl _) (Nat.le_refl _) ?_ (fun Q hQ => ft_223 h8 hQ)
    refine vk_if rfl hx Iff.rfl (fun c11 hx => ?_) (fun c11 hx => ?_)
    · refine eg_k_aload rfl rfl ?_
      refine eg_k_ci rfl ?_
      obtain ⟨r13, h12, hx⟩ := vb_bind hx
      refine eg_k_call (c1 := 0) (z1 := 0) (as := [.inr (.inr (some 45)), .inl 9]) (rest := []) rfl eg_tj185 (Nat.le_of_ble_eq_true rfl) rfl rfl rfl (Nat.le_of_ble_eq_true rfl) (Nat.le_refl _) (Nat.le_refl _) ?_ (fun Q hQ => ft_185 h12 hQ)
      have hx := Option.some.inj hx
      subst hx
      exact eg_k_iret rfl True.intro (Nat.le_refl _) (Nat.le_refl _) hK
    · refine eg_k_aload rfl rfl ?_
      refine eg_k_gfa rfl rfl rfl eh_r45_14 ?_
      refine eg_k_aload rfl rfl ?_
      refine eg_k_aload rfl rfl ?_
      refine eg_k_gfa rfl rfl rfl eh_r45_32 ?_
      refine eg_k_lload rfl rfl ?_
      obtain ⟨r16, h15, hx⟩ := vb_bind hx
      refine eg_k_call (c1 := 0) (z1 := 0) (as := [.inr (.inl b)]) (rest := [.inr (.inr (some 64)), .inr (.inr (some 45)), .inr (.inr (some 55))]) rfl eg_tj187 (Nat.le_of_ble_eq_true rfl) rfl rfl trivial (Nat.le_of_ble_eq_true rfl) (Nat.le_refl _) (Nat.le_refl _) ?_ (fun Q hQ => ft_187 h15 hQ)
      obtain ⟨b18, hx⟩ := vb_if hx
      refine eg_k_iald (k := 6700) rfl rfl b18.1 b18.2 ?_
      obtain ⟨r20, h19, hx⟩ := vb_bind hx
      refine eg_k_call (c1 := 0) (z1 := 0) (as := [.inr (.inr (some 45)), .inl (M 64 (r16).toNat)]) (rest := [.inr (.inr (some 55))]) rfl eg_tj176 (Nat.le_of_ble_eq_true rfl) rfl rfl rfl (Nat.le_of_ble_eq_true rfl) (Nat.le_refl _) (Nat.le_refl _) ?_ (fun Q hQ => ft_176 h19 hQ)
      obtain ⟨b22, hx⟩ := vb_if hx
      refine eg_k_sald (k := 20100) rfl rfl b22.1 b22.2 ?_
      refine eg_k_ci rfl ?_
      refine vk_icmp rfl hx Iff.rfl (fun c23 hx => ?_) (fun c23 hx => ?_)
      · refine eg_k_aload rfl rfl ?_
        refine eg_k_gfi rfl rfl rfl ?_
        refine eg_k_aload rfl rfl ?_
        refine eg_k_gfi rfl rfl rfl ?_
        refine eg_k_iadd rfl ?_
        refine eg_k_ci rfl ?_
        refine vk_icmp rfl hx Iff.rfl (fun c24 hx => ?_) (fun c24 hx => ?_)
        · refine eg_k_aload rfl rfl ?_
          refine eg_k_gfa rfl rfl rfl eh_r45_46 ?_
          refine eg_k_aload rfl rfl ?_
          refine eg_k_gfi rfl rfl rfl ?_
          refine eg_k_lload rfl rfl ?_
          obtain ⟨b25, hx⟩ := vb_if hx
          refine eg_k_last (k := 500) rfl rfl b25.1 b25.2 ?_
          refine eg_k_aload rfl rfl ?_
          refine eg_k_gfa rfl rfl rfl eh_r45_47 ?_
          refine eg_k_aload rfl rfl ?_
          refine eg_k_gfie (x := M 45 45) rfl rfl rfl rfl ?_
          refine eg_k_lload rfl rfl ?_
          refine eg_k_last (k := 500) rfl rfl b25.1 b25.2 ?_
          refine eg_k_aload rfl rfl ?_
          refine eg_k_aload rfl rfl ?_
          refine eg_k_gfie (x := M 45 45) rfl rfl rfl rfl ?_
          refine eg_k_ci rfl ?_
          refine eg_k_iadd rfl ?_
          refine eg_k_pfi rfl rfl rfl ?_
          refine eg_k_aload rfl rfl ?_
          refine eg_k_cl rfl ?_
          obtain ⟨r28, h27, hx⟩ := vb_bind hx
          refine eg_k_call (c1 := 0) (z1 := 0) (as := [.inr (.inr (some 45)), .inr (.inl 12884901888)]) (rest := []) rfl eg_tj229 (Nat.le_of_ble_eq_true rfl) rfl rfl rfl (Nat.le_of_ble_eq_true rfl) (Nat.le_refl _) (Nat.le_refl _) ?_ (fun Q hQ => ft_229 h27 hQ)
          have hx := Option.some.inj hx
          subst hx
          exact eg_k_iret rfl True.intro (Nat.le_refl _) (Nat.le_refl _) hK
        · refine eg_k_aload rfl rfl ?_
          refine eg_k_ci rfl ?_
          obtain ⟨r31, h30, hx⟩ := vb_bind hx
          refine eg_k_call (c1 := 0) (z1 := 0) (as := [.inr (.inr (some 45)), .inl 11]) (rest := []) rfl eg_tj185 (Nat.le_of_ble_eq_true rfl) rfl rfl rfl (Nat.le_of_ble_eq_true rfl) (Nat.le_refl _) (Nat.le_refl _) ?_ (fun Q hQ => ft_185 h30 hQ)
          have hx := Option.some.inj hx
          subst hx
          exact eg_k_iret rfl True.intro (Nat.le_refl _) (Nat.le_refl _) hK
      · refine eg_k_aload rfl rfl ?_
        refine eg_k_ci rfl ?_
        obtain ⟨r34, h33, hx⟩ := vb_bind hx
        refine eg_k_call (c1 := 0) (z1 := 0) (as := [.inr (.inr (some 45)), .inl 9]) (rest := []) rfl eg_tj185 (Nat.le_of_ble_eq_true rfl) rfl rfl rfl (Nat.le_of_ble_eq_true rfl) (Nat.le_refl _) (Nat.le_refl _) ?_ (fun Q hQ => ft_185 h33 hQ)
        have hx := Option.some.inj hx
        subst hx
        exact eg_k_iret rfl True.intro (Nat.le_refl _) (Nat.le_refl _) hK
theorem fw_234 {M : eM} {c : Nat} {a : Int} {b : Int} {x : Int × eM} (hx : fn_234 a b M = some x) (hc : c ∉ ([45, 73, 74] : List Nat)) (j : Nat) : ((x).2) c j = M c j := by
  obtain ⟨v, hK⟩ : ∃ v, ((x).2) c j = v := ⟨_, rfl⟩
  rw [hK]
  refine Eq.symm ?_
  obtain ⟨r2, h1, hx⟩ := vb_bind hx
  refine vb_ite hx (fun _ hx => ?_) (fun _ hx => ?_)
  · obtain ⟨r6, h5, hx⟩ := vb_bind hx
    have hx := Option.some.inj hx
    subst hx
    exact ((fw_185 h5 (vsub hc (by decide)) j).trans rfl).symm.trans hK
  · obtain ⟨r9, h8, hx⟩ := vb_bind hx
    refine vb_ite hx (fun _ hx => ?_) (fun _ hx => ?_)
    · obtain ⟨r13, h12, hx⟩ := vb_bind hx
      have hx := Option.some.inj hx
      subst hx
      exact ((fw_185 h12 (vsub hc (by decide)) j).trans rfl).symm.trans hK
    · obtain ⟨r16, h15, hx⟩ := vb_bind hx
      obtain ⟨_, hx⟩ := vb_if hx
      obtain ⟨r20, h19, hx⟩ := vb_bind hx
      obtain ⟨_, hx⟩ := vb_if hx
      refine vb_ite hx (fun _ hx => ?_) (fun _ hx => ?_)
      · refine vb_ite hx (fun _ hx => ?_) (fun _ hx => ?_)
        · obtain ⟨_, hx⟩ := vb_if hx
          obtain ⟨r28, h27, hx⟩ := vb_bind hx
          have hx := Option.some.inj hx
          subst hx
          exact ((fw_229 h27 (vsub hc (by decide)) j).trans ((congrFun (eg_u_ne (vne hc (a := 45) (by decide))) j).trans ((congrFun (eg_u_ne (vne hc (a := 74) (by decide))) j).trans ((congrFun (eg_u_ne (vne hc (a := 73) (by decide))) j).trans rfl)))).symm.trans hK
        · obtain ⟨r31, h30, hx⟩ := vb_bind hx
          have hx := Option.some.inj hx
          subst hx
          exact ((fw_185 h30 (vsub hc (by decide)) j).trans rfl).symm.trans hK
      · obtain ⟨r34, h33, hx⟩ := vb_bind hx
        have hx := Option.some.inj hx
        subst hx
        exact ((fw_185 h33 (vsub hc (by decide)) j).trans rfl).symm.trans hK
noncomputable def fn_236_5 (x1 : Int) (x3 : Int) (M : eM) (s : Int) : Option ((Int) ⊕ (Int)) :=
  if s = (-1) then
    some (.inr s)
  else
    (fn_189 s 0 M).bind fun r6 =>
    if r6 = x3 then
      some (.inr s)
    else
      (fn_189 s 2 M).bind fun r10 =>
      some (.inl r10)
/-- 236: WeakSchemeModel.entryOf(JJ)J -/
noncomputable def fn_236 (a : Int) (b : Int) (M : eM) : Option (Int) :=
  (fn_189 a 0 M).bind fun r2 =>
  lp (fn_236_5 a b M) r2
set_option maxRecDepth 100000 in
theorem ft_236_5 {cn mo : Nat} {sc : eg_Sc} {d : Nat} {M : eM} {Q : Option eg_V → eg_H → Prop} {x1 : Int} {x3 : Int} {s : Int} {x : Int} (hx : lp (fn_236_5 x1 x3 M) s = some x) (hK : (fun (x : Int) => Q (some (.inr (.inl x))) (em_L cn mo, eh_R, M)) x) : eg_X sc (eg_wp sc (d + 2)) eg_p236 (some .long) 0 0 Q 5 [some (.inr (.inr (some 45))), some (.inr (.inl x1)), none, some (.inr (.inl x3)), none, some (.inr (.inl s)), none] [] (em_L cn mo, eh_R, M) 0 0 := by
  refine lp_sound (P := (fun (s : Int) => eg_X sc (eg_wp sc (d + 2)) eg_p236 (some .long) 0 0 Q 5 [some (.inr (.inr (some 45))), some (.inr (.inl x1)), none, some (.inr (.inl x3)), none, some (.inr (.inl s)), none] [] (em_L cn mo, eh_R, M) 0 0)) (K := (fun (x : Int) => Q (some (.inr (.inl x))) (em_L cn mo, eh_R, M))) hx hK ?_
  intro s x hx hK
  refine eg_k_lload rfl rfl ?_
  refine eg_k_cl rfl ?_
  refine vk_lcmp rfl rfl hx Iff.rfl (fun c4 hx => ?_) (fun c4 hx => ?_)
  · refine eg_k_lload rfl rfl ?_
    have hx := Option.some.inj hx
    subst hx
    exact eg_k_lret rfl rfl (Nat.le_refl _) (Nat.le_refl _) hK
  · refine eg_k_aload rfl rfl ?_
    refine eg_k_lload rfl rfl ?_
    refine eg_k_ci rfl ?_
    obtain ⟨r6, h5, hx⟩ := vb_bind hx
    refine eg_k_call (c1 := 0) (z1 := 0) (as := [.inr (.inr (some 45)), .inr (.inl s), .inl 0]) (rest := []) rfl eg_tj189 (Nat.le_of_ble_eq_true rfl) rfl rfl rfl (Nat.le_of_ble_eq_true rfl) (Nat.le_refl _) (Nat.le_refl _) ?_ (fun Q hQ => ft_189 h5 hQ)
    refine eg_k_lload rfl rfl ?_
    refine vk_lcmp rfl rfl hx Iff.rfl (fun c8 hx => ?_) (fun c8 hx => ?_)
    · refine eg_k_lload rfl rfl ?_
      have hx := Option.some.inj hx
      subst hx
      exact eg_k_lret rfl rfl (Nat.le_refl _) (Nat.le_refl _) hK
    · refine eg_k_aload rfl rfl ?_
      refine eg_k_lload rfl rfl ?_
      refine eg_k_ci rfl ?_
      obtain ⟨r10, h9, hx⟩ := vb_bind hx
      refine eg_k_call (c1 := 0) (z1 := 0) (as := [.inr (.inr (some 45)), .inr (.inl s), .inl 2]) (rest := []) rfl eg_tj189 (Nat.le_of_ble_eq_true rfl) rfl rfl rfl (Nat.le_of_ble_eq_true rfl) (Nat.le_refl _) (Nat.le_refl _) ?_ (fun Q hQ => ft_189 h9 hQ)
      refine eg_k_lstore (lv' := [some (.inr (.inr (some 45))), some (.inr (.inl x1)), none, some (.inr (.inl x3)), none, some (.inr (.inl r10)), none]) rfl rfl ?_
      refine eg_k_goto rfl ?_
      have hx := Option.some.inj hx
      subst hx
      exact hK
set_option maxRecDepth 100000 in
theorem ft_236 {cn mo : Nat} {sc : eg_Sc} {d : Nat} {M : eM} {Q : Option eg_V → eg_H → Prop} {a : Int} {b : Int} {x : Int} (hx : fn_236 a b M = some x) (hK : Q (some (.inr (.inl x))) (em_L cn mo, eh_R, M)) : eg_wp sc (d + 3) 236 [.inr (.inr (some 45)), .inr (.inl a), .inr (.inl b)] (em_L cn mo, eh_R, M) 0 0 Q := by
  refine eg_in (lv := [some (.inr (.inr (some 45))), some (.inr (.inl a)), none, some (.inr (.inl b)), none, none, none]) eg_tj236 (Nat.le_of_ble_eq_true rfl) rfl ?_
  refine eg_k_aload rfl rfl ?_
  refine eg_k_lload rfl rfl ?_
  refine eg_k_ci rfl ?_
  obtain ⟨r2, h1, hx⟩ := vb_bind hx
  refine eg_k_call (c1 := 0) (z1 := 0) (as := [.inr (.inr (some 45)), .inr (.inl a), .inl 0]) (rest := []) rfl eg_tj189 (Nat.le_of_ble_eq_true rfl) rfl rfl rfl (Nat.le_of_ble_eq_true rfl) (Nat.le_refl _) (Nat.le_refl _) ?_ (fun Q hQ => ft_189 h1 hQ)
  refine eg_k_lstore (lv' := [some (.inr (.inr (some 45))), some (.inr (.inl a)), none, some (.inr (.inl b)), none, some (.inr (.inl r2)), none]) rfl rfl ?_
  have hz := ft_236_5 (d := d) (sc := sc) hx hK
  exact hz
noncomputable def fn_235_19 (x1 : Int) (x2 : Int) (x4 : Int) (M : eM) (s1 : Int) (s2 : Int) : Option ((Int × Int) ⊕ (Int × eM)) :=
  if s2 = (-1) then
    (fn_229 s1 M).bind fun r61 =>
    some (.inr (r61.1, r61.2))
  else
    (fn_189 s2 2 M).bind fun r64 =>
    some (.inl (eg_wi (s1 + 1), r64))
/-- 235: WeakSchemeModel.tables(IJI)I -/
noncomputable def fn_235 (a : Int) (b : Int) (e : Int) (M : eM) : Option (Int × eM) :=
  (fn_223 b 6 M).bind fun r2 =>
  if ¬ r2 = 0 then
    if ¬ a = 28 then
      if 0 ≤ (eg_wi (e + 1)) ∧ (eg_wi (e + 1)) < 19000 then
      (fn_236 b (M 77 (eg_wi (e + 1)).toNat) M).bind fun r8 =>
        if ¬ a = 27 then
          if ¬ r8 = (-1) then
            if 0 ≤ (eg_wi (e + 2)) ∧ (eg_wi (e + 2)) < 19000 then
            (fn_205 r8 1 (M 77 (eg_wi (e + 2)).toNat) M).bind fun m15 =>
              (fn_229 12884901888 m15).bind fun r17 =>
              some (r17.1, r17.2)
            else none
          else
            (fn_195 7 3 (-1) M).bind fun r20 =>
            if ¬ r20.1 = (-1) then
              (fn_205 r20.1 0 (r20.2 77 (eg_wi (e + 1)).toNat) r20.2).bind fun m26 =>
              (fn_189 b 0 m26).bind fun r28 =>
              (fn_205 r20.1 2 r28 m26).bind fun m32 =>
              (fn_205 b 0 r20.1 m32).bind fun m35 =>
              if 0 ≤ (eg_wi (e + 2)) ∧ (eg_wi (e + 2)) < 19000 then
              (fn_205 r20.1 1 (m35 77 (eg_wi (e + 2)).toNat) m35).bind fun m39 =>
                (fn_229 12884901888 m39).bind fun r41 =>
                some (r41.1, r41.2)
              else none
            else
              (fn_185 (r20.2 45 66) r20.2).bind fun r44 =>
              some (r44.1, r44.2)
        else
          if ¬ r8 = (-1) then
            (fn_189 r8 1 M).bind fun r48 =>
            (fn_229 r48 M).bind fun r51 =>
            some (r51.1, r51.2)
          else
            (fn_229 8589934592 M).bind fun r54 =>
            some (r54.1, r54.2)
      else none
    else
      (fn_189 b 0 M).bind fun r57 =>
      lp (fun z => fn_235_19 a b e M z.1 z.2) (0, r57)
  else
    (fn_185 9 M).bind fun r67 =>
    some (r67.1, r67.2)
set_option maxRecDepth 100000 in
theorem ft_235_19 {cn mo : Nat} {sc : eg_Sc} {d : Nat} {M : eM} {Q : Option eg_V → eg_H → Prop} {x1 : Int} {x2 : Int} {x4 : Int} {s : Int × Int} {x : Int × eM} (hx : lp (fun z => fn_235_19 x1 x2 x4 M z.1 z.2) s = some x) (hK : (fun (x : Int × eM) => Q (some (.inl ((x).1))) (em_L cn mo, eh_R, (x).2)) x) : eg_X sc (eg_wp sc (d + 8)) eg_p235 (some .int) 0 0 Q 19 [some (.inr (.inr (some 45))), some (.inl x1), some (.inr (.inl x2)), none, some (.inl x4), some (.inl s.1), some (.inr (.inl s.2)), none] [] (em_L cn mo, eh_R, M) 0 0 := by
  refine lp_sound (P := (fun (s : Int × Int) => eg_X sc (eg_wp sc (d + 8)) eg_p235 (some .int) 0 0 Q 19 [some (.inr (.inr (some 45))), some (.inl x1), some (.inr (.inl x2)), none, some (.inl x4), some (.inl s.1), some (.inr (.inl s.2)), none] [] (em_L cn mo, eh_R, M) 0 0)) (K := (fun (x : Int × eM) => Q (some (.inl ((x).1))) (em_L cn mo, eh_R, (x).2))) hx hK ?_
  intro s x hx hK
  obtain ⟨s1, s2⟩ := s
  refine eg_k_lload rfl rfl ?_
  refine eg_k_cl rfl ?_
  refine vk_lcmp rfl rfl hx Iff.rfl (fun c59 hx => ?_) (fun c59 hx => ?_)
  · refine eg_k_aload rfl rfl ?_
    refine eg_k_iload rfl rfl ?_
    refine eg_k_i2l rfl ?_
    obtain ⟨r61, h60, hx⟩ := vb_bind hx
    refine eg_k_call (c1 := 0) (z1 := 0) (as := [.inr (.inr (some 45)), .inr (.inl s1)]) (rest := []) rfl eg_tj229 (Nat.le_of_ble_eq_true rfl) rfl rfl rfl (Nat.le_of_ble_eq_true rfl) (Nat.le_refl _) (Nat.le_refl _) ?_ (fun Q hQ => ft_229 h60 hQ)
    have hx := Option.some.inj hx
    subst hx
    exact eg_k_iret rfl True.intro (Nat.le_refl _) (Nat.le_refl _) hK
  · refine eg_k_iload rfl rfl ?_
    refine eg_k_ci rfl ?_
    refine eg_k_iadd rfl ?_
    refine eg_k_istore (lv' := [some (.inr (.inr (some 45))), some (.inl x1), some (.inr (.inl x2)), none, some (.inl x4), some (.inl (eg_wi (s1 + 1))), some (.inr (.inl s2)), none]) rfl rfl ?_
    refine eg_k_aload rfl rfl ?_
    refine eg_k_lload rfl rfl ?_
    refine eg_k_ci rfl ?_
    obtain ⟨r64, h63, hx⟩ := vb_bind hx
    refine eg_k_call (c1 := 0) (z1 := 0) (as := [.inr (.inr (some 45)), .inr (.inl s2), .inl 2]) (rest := []) rfl eg_tj189 (Nat.le_of_ble_eq_true rfl) rfl rfl rfl (Nat.le_of_ble_eq_true rfl) (Nat.le_refl _) (Nat.le_refl _) ?_ (fun Q hQ => ft_189 h63 hQ)
    refine eg_k_lstore (lv' := [some (.inr (.inr (some 45))), some (.inl x1), some (.inr (.inl x2)), none, some (.inl x4), some (.inl (eg_wi (s1 + 1))), some (.inr (.inl r64)), none]) rfl rfl ?_
    refine eg_k_goto rfl ?_
    have hx := Option.some.inj hx
    subst hx
    exact hK
set_option maxRecDepth 100000 in
theorem ft_235 {cn mo : Nat} {sc : eg_Sc} {d : Nat} {M : eM} {Q : Option eg_V → eg_H → Prop} {a : Int} {b : Int} {e : Int} {x : Int × eM} (hx : fn_235 a b e M = some x) (hK : Q (some (.inl ((x).1))) (em_L cn mo, eh_R, (x).2)) : eg_wp sc (d + 9) 235 [.inr (.inr (some 45)), .inl a, .inr (.inl b), .inl e] (em_L cn mo, eh_R, M) 0 0 Q := by
  refine eg_in (lv := [some (.inr (.inr (some 45))), some (.inl a), some (.inr (.inl b)), none, some (.inl e), none, none, none]) eg_tj235 (Nat.le_of_ble_eq_true rfl) rfl ?_
  refine eg_k_aload rfl rfl ?_
  refine eg_k_lload rfl rfl ?_
  refine eg_k_ci rfl ?_
  obtain ⟨r2, h1, hx⟩ := vb_bind hx
  refine eg_k_call (c1 := 0) (z1 := 0) (as := [.inr (.inr (some 45)), .inr (.inl b), .inl 6]) (rest := []) rfl eg_tj223 (Nat.le_of_ble_eq_true rfl) rfl rfl rfl (Nat.le_of_ble_eq_true rfl) (Nat.le_refl _) (Nat.le_refl _) ?_ (fun Q hQ => ft_223 h1 hQ)
  refine vk_if rfl hx Iff.rfl (fun c4 hx => ?_) (fun c4 hx => ?_)
  · refine eg_k_iload rfl rfl ?_
    refine eg_k_ci rfl ?_
    refine vk_icmp rfl hx Iff.rfl (fun c5 hx => ?_) (fun c5 hx => ?_)
    · refine eg_k_aload rfl rfl ?_
      refine eg_k_lload rfl rfl ?_
      refine eg_k_aload rfl rfl ?_
      refine eg_k_gfa rfl rfl rfl eh_r45_52 ?_
      refine eg_k_iload rfl rfl ?_
      refine eg_k_ci rfl ?_
      refine eg_k_iadd rfl ?_
      obtain ⟨b6, hx⟩ := vb_if hx
      refine eg_k_lald (k := 19000) rfl rfl b6.1 b6.2 ?_
      obtain ⟨r8, h7, hx⟩ := vb_bind hx
      refine eg_k_call (c1 := 0) (z1 := 0) (as := [.inr (.inr (some 45)), .inr (.inl b), .inr (.inl (M 77 (eg_wi (e + 1)).toNat))]) (rest := []) rfl eg_tj236 (Nat.le_of_ble_eq_true rfl) rfl rfl rfl (Nat.le_of_ble_eq_true rfl) (Nat.le_refl _) (Nat.le_refl _) ?_ (fun Q hQ => ft_236 h7 hQ)
      refine eg_k_lstore (lv' := [some (.inr (.inr (some 45))), some (.inl a), some (.inr (.inl b)), none, some (.inl e), some (.inr (.inl r8)), none, none]) rfl rfl ?_
      refine eg_k_iload rfl rfl ?_
      refine eg_k_ci rfl ?_
      refine vk_icmp rfl hx Iff.rfl (fun c10 hx => ?_) (fun c10 hx => ?_)
      · refine eg_k_lload rfl rfl ?_
        refine eg_k_cl rfl ?_
        refine vk_lcmp rfl rfl hx Iff.rfl (fun c11 hx => ?_) (fun c11 hx => ?_)
        · refine eg_k_aload rfl rfl ?_
          refine eg_k_lload rfl rfl ?_
          refine eg_k_ci rfl ?_
          refine eg_k_aload rfl rfl ?_
          refine eg_k_gfa rfl rfl rfl eh_r45_52 ?_
          refine eg_k_iload rfl rfl ?_
          refine eg_k_ci rfl ?_
          refine eg_k_iadd rfl ?_
          obtain ⟨b12, hx⟩ := vb_if hx
          refine eg_k_lald (k := 19000) rfl rfl b12.1 b12.2 ?_
          obtain ⟨m15, h13, hx⟩ := vb_bind hx
          refine eg_k_call (c1 := 0) (z1 := 0) (as := [.inr (.inr (some 45)), .inr (.inl r8), .inl 1, .inr (.inl (M 77 (eg_wi (e + 2)).toNat))]) (rest := []) rfl eg_tj205 (Nat.le_of_ble_eq_true rfl) rfl rfl rfl (Nat.le_of_ble_eq_true rfl) (Nat.le_refl _) (Nat.le_refl _) ?_ (fun Q hQ => ft_205 h13 hQ)
          refine eg_k_aload rfl rfl ?_
          refine eg_k_cl rfl ?_
          obtain ⟨r17, h16, hx⟩ := vb_bind hx
          refine eg_k_call (c1 := 0) (z1 := 0) (as := [.inr (.inr (some 45)), .inr (.inl 12884901888)]) (rest := []) rfl eg_tj229 (Nat.le_of_ble_eq_true rfl) rfl rfl rfl (Nat.le_of_ble_eq_true rfl) (Nat.le_refl _) (Nat.le_refl _) ?_ (fun Q hQ => ft_229 h16 hQ)
          have hx := Option.some.inj hx
          subst hx
          exact eg_k_iret rfl True.intro (Nat.le_refl _) (Nat.le_refl _) hK
        · refine eg_k_aload rfl rfl ?_
          refine eg_k_ci rfl ?_
          refine eg_k_ci rfl ?_
          refine eg_k_cl rfl ?_
          obtain ⟨r20, h19, hx⟩ := vb_bind hx
          refine eg_k_call (c1 := 0) (z1 := 0) (as := [.inr (.inr (some 45)), .inl 7, .inl 3, .inr (.inl (-1))]) (rest := []) rfl eg_tj195 (Nat.le_of_ble_eq_true rfl) rfl rfl rfl (Nat.le_of_ble_eq_true rfl) (Nat.le_refl _) (Nat.le_refl _) ?_ (fun Q hQ => ft_195 h19 hQ)
          refine eg_k_lstore (lv' := [some (.inr (.inr (some 45))), some (.inl a), some (.inr (.inl b)), none, some (.inl e), some (.inr (.inl r20.1)), none, none]) rfl rfl ?_
          refine eg_k_lload rfl rfl ?_
          refine eg_k_cl rfl ?_
          refine vk_lcmp rfl rfl hx Iff.rfl (fun c22 hx => ?_) (fun c22 hx => ?_)
          · refine eg_k_aload rfl rfl ?_
            refine eg_k_lload rfl rfl ?_
            refine eg_k_ci rfl ?_
            refine eg_k_aload rfl rfl ?_
            refine eg_k_gfa rfl rfl rfl eh_r45_52 ?_
            refine eg_k_iload rfl rfl ?_
            refine eg_k_ci rfl ?_
            refine eg_k_iadd rfl ?_
            refine eg_k_lald (k := 19000) rfl rfl b6.1 b6.2 ?_
            obtain ⟨m26, h24, hx⟩ := vb_bind hx
            refine eg_k_call (c1 := 0) (z1 := 0) (as := [.inr (.inr (some 45)), .inr (.inl r20.1), .inl 0, .inr (.inl (r20.2 77 (eg_wi (e + 1)).toNat))]) (rest := []) rfl eg_tj205 (Nat.le_of_ble_eq_true rfl) rfl rfl rfl (Nat.le_of_ble_eq_true rfl) (Nat.le_refl _) (Nat.le_refl _) ?_ (fun Q hQ => ft_205 h24 hQ)
            refine eg_k_aload rfl rfl ?_
            refine eg_k_lload rfl rfl ?_
            refine eg_k_ci rfl ?_
            refine eg_k_aload rfl rfl ?_
            refine eg_k_lload rfl rfl ?_
            refine eg_k_ci rfl ?_
            obtain ⟨r28, h27, hx⟩ := vb_bind hx
            refine eg_k_call (c1 := 0) (z1 := 0) (as := [.inr (.inr (some 45)), .inr (.inl b), .inl 0]) (rest := [.inl 2, .inr (.inl r20.1), .inr (.inr (some 45))]) rfl eg_tj189 (Nat.le_of_ble_eq_true rfl) rfl rfl rfl (Nat.le_of_ble_eq_true rfl) (Nat.le_refl _) (Nat.le_refl _) ?_ (fun Q hQ => ft_189 h27 hQ)
            obtain ⟨m32, h30, hx⟩ := vb_bind hx
            refine eg_k_call (c1 := 0) (z1 := 0) (as := [.inr (.inr (some 45)), .inr (.inl r20.1), .inl 2, .inr (.inl r28)]) (rest := []) rfl eg_tj205 (Nat.le_of_ble_eq_true rfl) rfl rfl rfl (Nat.le_of_ble_eq_true rfl) (Nat.le_refl _) (Nat.le_refl _) ?_ (fun Q hQ => ft_205 h30 hQ)
            refine eg_k_aload rfl rfl ?_
            refine eg_k_lload rfl rfl ?_
            refine eg_k_ci rfl ?_
            refine eg_k_lload rfl rfl ?_
            obtain ⟨m35, h33, hx⟩ := vb_bind hx
            refine eg_k_call (c1 := 0) (z1 := 0) (as := [.inr (.inr (some 45)), .inr (.inl b), .inl 0, .inr (.inl r20.1)]) (rest := []) rfl eg_tj205 (Nat.le_of_ble_eq_true rfl) rfl rfl rfl (Nat.le_of_ble_eq_true rfl) (Nat.le_refl _) (Nat.le_refl _) ?_ (fun Q hQ => ft_205 h33 hQ)
            refine eg_k_aload rfl rfl ?_
            refine eg_k_lload rfl rfl ?_
            refine eg_k_ci rfl ?_
            refine eg_k_aload rfl rfl ?_
            refine eg_k_gfa rfl rfl rfl eh_r45_52 ?_
            refine eg_k_iload rfl rfl ?_
            refine eg_k_ci rfl ?_
            refine eg_k_iadd rfl ?_
            obtain ⟨b36, hx⟩ := vb_if hx
            refine eg_k_lald (k := 19000) rfl rfl b36.1 b36.2 ?_
            obtain ⟨m39, h37, hx⟩ := vb_bind hx
            refine eg_k_call (c1 := 0) (z1 := 0) (as := [.inr (.inr (some 45)), .inr (.inl r20.1), .inl 1, .inr (.inl (m35 77 (eg_wi (e + 2)).toNat))]) (rest := []) rfl eg_tj205 (Nat.le_of_ble_eq_true rfl) rfl rfl rfl (Nat.le_of_ble_eq_true rfl) (Nat.le_refl _) (Nat.le_refl _) ?_ (fun Q hQ => ft_205 h37 hQ)
            refine eg_k_aload rfl rfl ?_
            refine eg_k_cl rfl ?_
            obtain ⟨r41, h40, hx⟩ := vb_bind hx
            refine eg_k_call (c1 := 0) (z1 := 0) (as := [.inr (.inr (some 45)), .inr (.inl 12884901888)]) (rest := []) rfl eg_tj229 (Nat.le_of_ble_eq_true rfl) rfl rfl rfl (Nat.le_of_ble_eq_true rfl) (Nat.le_refl _) (Nat.le_refl _) ?_ (fun Q hQ => ft_229 h40 hQ)
            have hx := Option.some.inj hx
            subst hx
            exact eg_k_iret rfl True.intro (Nat.le_refl _) (Nat.le_refl _) hK
          · refine eg_k_aload rfl rfl ?_
            refine eg_k_aload rfl rfl ?_
            refine eg_k_gfi rfl rfl rfl ?_
            obtain ⟨r44, h43, hx⟩ := vb_bind hx
            refine eg_k_call (c1 := 0) (z1 := 0) (as := [.inr (.inr (some 45)), .inl (r20.2 45 66)]) (rest := []) rfl eg_tj185 (Nat.le_of_ble_eq_true rfl) rfl rfl rfl (Nat.le_of_ble_eq_true rfl) (Nat.le_refl _) (Nat.le_refl _) ?_ (fun Q hQ => ft_185 h43 hQ)
            have hx := Option.some.inj hx
            subst hx
            exact eg_k_iret rfl True.intro (Nat.le_refl _) (Nat.le_refl _) hK
      · refine eg_k_aload rfl rfl ?_
        refine eg_k_lload rfl rfl ?_
        refine eg_k_cl rfl ?_
        refine vk_lcmp rfl rfl hx Iff.rfl (fun c46 hx => ?_) (fun c46 hx => ?_)
        · refine eg_k_aload rfl rfl ?_
          refine eg_k_lload rfl rfl ?_
          refine eg_k_ci rfl ?_
          obtain ⟨r48, h47, hx⟩ := vb_bind hx
          refine eg_k_call (c1 := 0) (z1 := 0) (as := [.inr (.inr (some 45)), .inr (.inl r8), .inl 1]) (rest := [.inr (.inr (some 45))]) rfl eg_tj189 (Nat.le_of_ble_eq_true rfl) rfl rfl rfl (Nat.le_of_ble_eq_true rfl) (Nat.le_refl _) (Nat.le_refl _) ?_ (fun Q hQ => ft_189 h47 hQ)
          obtain ⟨r51, h50, hx⟩ := vb_bind hx
          refine eg_k_call (c1 := 0) (z1 := 0) (as := [.inr (.inr (some 45)), .inr (.inl r48)]) (rest := []) rfl eg_tj229 (Nat.le_of_ble_eq_true rfl) rfl rfl rfl (Nat.le_of_ble_eq_true rfl) (Nat.le_refl _) (Nat.le_refl _) ?_ (fun Q hQ => ft_229 h50 hQ)
          have hx := Option.some.inj hx
          subst hx
          exact eg_k_iret rfl True.intro (Nat.le_refl _) (Nat.le_refl _) hK
        · refine eg_k_cl rfl ?_
          refine eg_k_goto rfl ?_
          obtain ⟨r54, h53, hx⟩ := vb_bind hx
          refine eg_k_call (c1 := 0) (z1 := 0) (as := [.inr (.inr (some 45)), .inr (.inl 8589934592)]) (rest := []) rfl eg_tj229 (Nat.le_of_ble_eq_true rfl) rfl rfl rfl (Nat.le_of_ble_eq_true rfl) (Nat.le_refl _) (Nat.le_refl _) ?_ (fun Q hQ => ft_229 h53 hQ)
          have hx := Option.some.inj hx
          subst hx
          exact eg_k_iret rfl True.intro (Nat.le_refl _) (Nat.le_refl _) hK
    · refine eg_k_ci rfl ?_
      refine eg_k_istore (lv' := [some (.inr (.inr (some 45))), some (.inl a), some (.inr (.inl b)), none, some (.inl e), some (.inl 0), none, none]) rfl rfl ?_
      refine eg_k_aload rfl rfl ?_
      refine eg_k_lload rfl rfl ?_
      refine eg_k_ci rfl ?_
      obtain ⟨r57, h56, hx⟩ := vb_bind hx
      refine eg_k_call (c1 := 0) (z1 := 0) (as := [.inr (.inr (some 45)), .inr (.inl b), .inl 0]) (rest := []) rfl eg_tj189 (Nat.le_of_ble_eq_true rfl) rfl rfl rfl (Nat.le_of_ble_eq_true rfl) (Nat.le_refl _) (Nat.le_refl _) ?_ (fun Q hQ => ft_189 h56 hQ)
      refine eg_k_lstore (lv' := [some (.inr (.inr (some 45))), some (.inl a), some (.inr (.inl b)), none, some (.inl e), some (.inl 0), some (.inr (.inl r57)), none]) rfl rfl ?_
      have hz := ft_235_19 (d := d) (sc := sc) hx hK
      exact hz
  · refine eg_k_aload rfl rfl ?_
    refine eg_k_ci rfl ?_
    obtain ⟨r67, h66, hx⟩ := vb_bind hx
    refine eg_k_call (c1 := 0) (z1 := 0) (as := [.inr (.inr (some 45)), .inl 9]) (rest := []) rfl eg_tj185 (Nat.le_of_ble_eq_true rfl) rfl rfl rfl (Nat.le_of_ble_eq_true rfl) (Nat.le_refl _) (Nat.le_refl _) ?_ (fun Q hQ => ft_185 h66 hQ)
    have hx := Option.some.inj hx
    subst hx
    exact eg_k_iret rfl True.intro (Nat.le_refl _) (Nat.le_refl _) hK
theorem fw_235_19 {M : eM} {c j : Nat} {v : Int} {x1 : Int} {x2 : Int} {x4 : Int} {s : Int × Int} {x : Int × eM} (hc : c ∉ ([45, 62, 63, 65, 66, 67, 68, 69, 70, 71, 73, 74, 75, 76, 85] : List Nat)) (hx : lp (fun z => fn_235_19 x1 x2 x4 M z.1 z.2) s = some x) (hK : (fun (x : Int × eM) => ((x).2) c j = v) x) : M c j = v := by
  refine lp_sound (P := (fun (s : Int × Int) => M c j = v)) (K := (fun (x : Int × eM) => ((x).2) c j = v)) hx hK ?_
  intro s x hx hK
  obtain ⟨s1, s2⟩ := s
  refine vb_ite hx (fun _ hx => ?_) (fun _ hx => ?_)
  · obtain ⟨r61, h60, hx⟩ := vb_bind hx
    have hx := Option.some.inj hx
    subst hx
    exact ((fw_229 h60 (vsub hc (by decide)) j).trans rfl).symm.trans hK
  · obtain ⟨r64, h63, hx⟩ := vb_bind hx
    have hx := Option.some.inj hx
    subst hx
    exact hK
theorem fw_235 {M : eM} {c : Nat} {a : Int} {b : Int} {e : Int} {x : Int × eM} (hx : fn_235 a b e M = some x) (hc : c ∉ ([45, 62, 63, 65, 66, 67, 68, 69, 70, 71, 73, 74, 75, 76, 85] : List Nat)) (j : Nat) : ((x).2) c j = M c j := by
  obtain ⟨v, hK⟩ : ∃ v, ((x).2) c j = v := ⟨_, rfl⟩
  rw [hK]
  refine Eq.symm ?_
  obtain ⟨r2, h1, hx⟩ := vb_bind hx
  refine vb_ite hx (fun _ hx => ?_) (fun _ hx => ?_)
  · refine vb_ite hx (fun _ hx => ?_) (fun _ hx => ?_)
    · obtain ⟨_, hx⟩ := vb_if hx
      obtain ⟨r8, h7, hx⟩ := vb_bind hx
      refine vb_ite hx (fun _ hx => ?_) (fun _ hx => ?_)
      · refine vb_ite hx (fun _ hx => ?_) (fun _ hx => ?_)
        · obtain ⟨_, hx⟩ := vb_if hx
          obtain ⟨m15, h13, hx⟩ := vb_bind hx
          obtain ⟨r17, h16, hx⟩ := vb_bind hx
          have hx := Option.some.inj hx
          subst hx
          exact ((fw_229 h16 (vsub hc (by decide)) j).trans ((fw_205 h13 (vsub hc (by decide)) j).trans rfl)).symm.trans hK
        · obtain ⟨r20, h19, hx⟩ := vb_bind hx
          refine vb_ite hx (fun _ hx => ?_) (fun _ hx => ?_)
          · obtain ⟨m26, h24, hx⟩ := vb_bind hx
            obtain ⟨r28, h27, hx⟩ := vb_bind hx
            obtain ⟨m32, h30, hx⟩ := vb_bind hx
            obtain ⟨m35, h33, hx⟩ := vb_bind hx
            obtain ⟨_, hx⟩ := vb_if hx
            obtain ⟨m39, h37, hx⟩ := vb_bind hx
            obtain ⟨r41, h40, hx⟩ := vb_bind hx
            have hx := Option.some.inj hx
            subst hx
            exact ((fw_229 h40 (vsub hc (by decide)) j).trans ((fw_205 h37 (vsub hc (by decide)) j).trans ((fw_205 h33 (vsub hc (by decide)) j).trans ((fw_205 h30 (vsub hc (by decide)) j).trans ((fw_205 h24 (vsub hc (by decide)) j).trans ((fw_195 h19 (vsub hc (by decide)) j).trans rfl)))))).symm.trans hK
          · obtain ⟨r44, h43, hx⟩ := vb_bind hx
            have hx := Option.some.inj hx
            subst hx
            exact ((fw_185 h43 (vsub hc (by decide)) j).trans ((fw_195 h19 (vsub hc (by decide)) j).trans rfl)).symm.trans hK
      · refine vb_ite hx (fun _ hx => ?_) (fun _ hx => ?_)
        · obtain ⟨r48, h47, hx⟩ := vb_bind hx
          obtain ⟨r51, h50, hx⟩ := vb_bind hx
          have hx := Option.some.inj hx
          subst hx
          exact ((fw_229 h50 (vsub hc (by decide)) j).trans rfl).symm.trans hK
        · obtain ⟨r54, h53, hx⟩ := vb_bind hx
          have hx := Option.some.inj hx
          subst hx
          exact ((fw_229 h53 (vsub hc (by decide)) j).trans rfl).symm.trans hK
    · obtain ⟨r57, h56, hx⟩ := vb_bind hx
      have hz := fw_235_19 hc hx hK
      exact (Eq.refl _).symm.trans hz
  · obtain ⟨r67, h66, hx⟩ := vb_bind hx
    have hx := Option.some.inj hx
    subst hx
    exact ((fw_185 h66 (vsub hc (by decide)) j).trans rfl).symm.trans hK
noncomputable def fn_233_9 (x1 : Int) (x2 : Int) (y0 : Int) (M : eM) : Option (Int × eM) :=
  if x1 = 20 then
    (fn_195 4 1 y0 M).bind fun r4 =>
    (fn_231 r4.1 r4.2).bind fun r7 =>
    some (r7.1, r7.2)
  else if x1 = 21 then
    (fn_223 y0 4 M).bind fun r10 =>
    if r10 = 0 then
      (fn_185 9 M).bind fun r14 =>
      some (r14.1, r14.2)
    else
      (fn_189 y0 0 M).bind fun r17 =>
      (fn_229 r17 M).bind fun r20 =>
      some (r20.1, r20.2)
  else if x1 = 22 then
    (fn_195 5 2 y0 M).bind fun r23 =>
    if r23.1 = (-1) then
      (fn_231 r23.1 r23.2).bind fun r27 =>
      some (r27.1, r27.2)
    else
      if 0 ≤ (eg_wi (x2 + 1)) ∧ (eg_wi (x2 + 1)) < 19000 then
      (fn_205 r23.1 1 (r23.2 77 (eg_wi (x2 + 1)).toNat) r23.2).bind fun m32 =>
        (fn_231 r23.1 m32).bind fun r34 =>
        some (r34.1, r34.2)
      else none
  else if x1 = 23 then
    (fn_223 y0 5 M).bind fun r37 =>
    if r37 = 0 then
      (fn_185 9 M).bind fun r41 =>
      some (r41.1, r41.2)
    else
      (fn_189 y0 (eg_wi (x1 - 23)) M).bind fun r44 =>
      (fn_229 r44 M).bind fun r47 =>
      some (r47.1, r47.2)
  else if x1 = 24 then
    (fn_223 y0 5 M).bind fun r50 =>
    if r50 = 0 then
      (fn_185 9 M).bind fun r54 =>
      some (r54.1, r54.2)
    else
      (fn_189 y0 (eg_wi (x1 - 23)) M).bind fun r57 =>
      (fn_229 r57 M).bind fun r60 =>
      some (r60.1, r60.2)
  else if x1 = 25 then
    (fn_195 6 1 (-1) M).bind fun r63 =>
    (fn_231 r63.1 r63.2).bind fun r66 =>
    some (r66.1, r66.2)
  else if x1 = 26 then
    (fn_235 x1 y0 x2 M).bind fun r69 =>
    some (r69.1, r69.2)
  else if x1 = 27 then
    (fn_235 x1 y0 x2 M).bind fun r72 =>
    some (r72.1, r72.2)
  else if x1 = 28 then
    (fn_235 x1 y0 x2 M).bind fun r75 =>
    some (r75.1, r75.2)
  else if x1 = 29 then
    if 0 ≤ (eg_wi (x2 + 1)) ∧ (eg_wi (x2 + 1)) < 19000 then
    (fn_234 y0 (M 77 (eg_wi (x2 + 1)).toNat) M).bind fun r79 =>
      some (r79.1, r79.2)
    else none
  else 
    (fn_235 x1 y0 x2 M).bind fun r82 =>
    some (r82.1, r82.2)
/-- 233: WeakSchemeModel.weaks(II)I -/
noncomputable def fn_233 (a : Int) (b : Int) (M : eM) : Option (Int × eM) :=
  if ¬ a = 25 then
    if 0 ≤ b ∧ b < 19000 then
    fn_233_9 a b (M 77 (b).toNat) M
    else none
  else
    fn_233_9 a b 12884901888 M
set_option maxRecDepth 100000 in
theorem ft_233_9 {cn mo : Nat} {sc : eg_Sc} {d : Nat} {M : eM} {Q : Option eg_V → eg_H → Prop} {x1 : Int} {x2 : Int} {y0 : Int} {x : Int × eM} (hx : fn_233_9 x1 x2 y0 M = some x) (hK : (fun (x : Int × eM) => Q (some (.inl ((x).1))) (em_L cn mo, eh_R, (x).2)) x) : ∀ (w3 w4 w5 w6 : Option eg_V), eg_X sc (eg_wp sc (d + 9)) eg_p233 (some .int) 0 0 Q 9 [some (.inr (.inr (some 45))), some (.inl x1), some (.inl x2), w3, w4, w5, w6] [.inr (.inl y0)] (em_L cn mo, eh_R, M) 0 0 := by
  intro w3 w4 w5 w6
  refine eg_k_lstore (lv' := [some (.inr (.inr (some 45))), some (.inl x1), some (.inl x2), some (.inr (.inl y0)), none, w5, w6]) rfl rfl ?_
  refine eg_k_iload rfl rfl ?_
  refine vb_ite hx (fun e9 hx => ?_) (fun e9 hx => ?_)
  · refine eg_k_tsw (x := x1) (t := 12) rfl (by rw [e9]; rfl) ?_
    refine eg_k_aload rfl rfl ?_
    refine eg_k_aload rfl rfl ?_
    refine eg_k_ci rfl ?_
    refine eg_k_ci rfl ?_
    refine eg_k_lload rfl rfl ?_
    obtain ⟨r4, h3, hx⟩ := vb_bind hx
    refine eg_k_call (c1 := 0) (z1 := 0) (as := [.inr (.inr (some 45)), .inl 4, .inl 1, .inr (.inl y0)]) (rest := [.inr (.inr (some 45))]) rfl eg_tj195 (Nat.le_of_ble_eq_true rfl) rfl rfl rfl (Nat.le_of_ble_eq_true rfl) (Nat.le_refl _) (Nat.le_refl _) ?_ (fun Q hQ => ft_195 h3 hQ)
    obtain ⟨r7, h6, hx⟩ := vb_bind hx
    refine eg_k_call (c1 := 0) (z1 := 0) (as := [.inr (.inr (some 45)), .inr (.inl r4.1)]) (rest := []) rfl eg_tj231 (Nat.le_of_ble_eq_true rfl) rfl rfl rfl (Nat.le_of_ble_eq_true rfl) (Nat.le_refl _) (Nat.le_refl _) ?_ (fun Q hQ => ft_231 h6 hQ)
    have hx := Option.some.inj hx
    subst hx
    exact eg_k_iret rfl True.intro (Nat.le_refl _) (Nat.le_refl _) hK
  have e20_ := e9
  refine vb_ite hx (fun e9 hx => ?_) (fun e9 hx => ?_)
  · refine eg_k_tsw (x := x1) (t := 20) rfl (by rw [e9]; rfl) ?_
    refine eg_k_aload rfl rfl ?_
    refine eg_k_lload rfl rfl ?_
    refine eg_k_ci rfl ?_
    obtain ⟨r10, h9, hx⟩ := vb_bind hx
    refine eg_k_call (c1 := 0) (z1 := 0) (as := [.inr (.inr (some 45)), .inr (.inl y0), .inl 4]) (rest := []) rfl eg_tj223 (Nat.le_of_ble_eq_true rfl) rfl rfl rfl (Nat.le_of_ble_eq_true rfl) (Nat.le_refl _) (Nat.le_refl _) ?_ (fun Q hQ => ft_223 h9 hQ)
    refine vk_if rfl hx Iff.rfl (fun c12 hx => ?_) (fun c12 hx => ?_)
    · refine eg_k_aload rfl rfl ?_
      refine eg_k_ci rfl ?_
      obtain ⟨r14, h13, hx⟩ := vb_bind hx
      refine eg_k_call (c1 := 0) (z1 := 0) (as := [.inr (.inr (some 45)), .inl 9]) (rest := []) rfl eg_tj185 (Nat.le_of_ble_eq_true rfl) rfl rfl rfl (Nat.le_of_ble_eq_true rfl) (Nat.le_refl _) (Nat.le_refl _) ?_ (fun Q hQ => ft_185 h13 hQ)
      have hx := Option.some.inj hx
      subst hx
      exact eg_k_iret rfl True.intro (Nat.le_refl _) (Nat.le_refl _) hK
    · refine eg_k_aload rfl rfl ?_
      refine eg_k_aload rfl rfl ?_
      refine eg_k_lload rfl rfl ?_
      refine eg_k_ci rfl ?_
      obtain ⟨r17, h16, hx⟩ := vb_bind hx
      refine eg_k_call (c1 := 0) (z1 := 0) (as := [.inr (.inr (some 45)), .inr (.inl y0), .inl 0]) (rest := [.inr (.inr (some 45))]) rfl eg_tj189 (Nat.le_of_ble_eq_true rfl) rfl rfl rfl (Nat.le_of_ble_eq_true rfl) (Nat.le_refl _) (Nat.le_refl _) ?_ (fun Q hQ => ft_189 h16 hQ)
      obtain ⟨r20, h19, hx⟩ := vb_bind hx
      refine eg_k_call (c1 := 0) (z1 := 0) (as := [.inr (.inr (some 45)), .inr (.inl r17)]) (rest := []) rfl eg_tj229 (Nat.le_of_ble_eq_true rfl) rfl rfl rfl (Nat.le_of_ble_eq_true rfl) (Nat.le_refl _) (Nat.le_refl _) ?_ (fun Q hQ => ft_229 h19 hQ)
      refine eg_k_goto rfl ?_
      have hx := Option.some.inj hx
      subst hx
      exact eg_k_iret rfl True.intro (Nat.le_refl _) (Nat.le_refl _) hK
  have e21_ := e9
  refine vb_ite hx (fun e9 hx => ?_) (fun e9 hx => ?_)
  · refine eg_k_tsw (x := x1) (t := 36) rfl (by rw [e9]; rfl) ?_
    refine eg_k_aload rfl rfl ?_
    refine eg_k_ci rfl ?_
    refine eg_k_ci rfl ?_
    refine eg_k_lload rfl rfl ?_
    obtain ⟨r23, h22, hx⟩ := vb_bind hx
    refine eg_k_call (c1 := 0) (z1 := 0) (as := [.inr (.inr (some 45)), .inl 5, .inl 2, .inr (.inl y0)]) (rest := []) rfl eg_tj195 (Nat.le_of_ble_eq_true rfl) rfl rfl rfl (Nat.le_of_ble_eq_true rfl) (Nat.le_refl _) (Nat.le_refl _) ?_ (fun Q hQ => ft_195 h22 hQ)
    refine eg_k_lstore (lv' := [some (.inr (.inr (some 45))), some (.inl x1), some (.inl x2), some (.inr (.inl y0)), none, some (.inr (.inl r23.1)), none]) rfl rfl ?_
    refine eg_k_lload rfl rfl ?_
    refine eg_k_cl rfl ?_
    refine vk_lcmp rfl rfl hx Iff.rfl (fun c25 hx => ?_) (fun c25 hx => ?_)
    · refine eg_k_aload rfl rfl ?_
      refine eg_k_lload rfl rfl ?_
      obtain ⟨r27, h26, hx⟩ := vb_bind hx
      refine eg_k_call (c1 := 0) (z1 := 0) (as := [.inr (.inr (some 45)), .inr (.inl r23.1)]) (rest := []) rfl eg_tj231 (Nat.le_of_ble_eq_true rfl) rfl rfl rfl (Nat.le_of_ble_eq_true rfl) (Nat.le_refl _) (Nat.le_refl _) ?_ (fun Q hQ => ft_231 h26 hQ)
      have hx := Option.some.inj hx
      subst hx
      exact eg_k_iret rfl True.intro (Nat.le_refl _) (Nat.le_refl _) hK
    · refine eg_k_aload rfl rfl ?_
      refine eg_k_lload rfl rfl ?_
      refine eg_k_ci rfl ?_
      refine eg_k_aload rfl rfl ?_
      refine eg_k_gfa rfl rfl rfl eh_r45_52 ?_
      refine eg_k_iload rfl rfl ?_
      refine eg_k_ci rfl ?_
      refine eg_k_iadd rfl ?_
      obtain ⟨b29, hx⟩ := vb_if hx
      refine eg_k_lald (k := 19000) rfl rfl b29.1 b29.2 ?_
      obtain ⟨m32, h30, hx⟩ := vb_bind hx
      refine eg_k_call (c1 := 0) (z1 := 0) (as := [.inr (.inr (some 45)), .inr (.inl r23.1), .inl 1, .inr (.inl (r23.2 77 (eg_wi (x2 + 1)).toNat))]) (rest := []) rfl eg_tj205 (Nat.le_of_ble_eq_true rfl) rfl rfl rfl (Nat.le_of_ble_eq_true rfl) (Nat.le_refl _) (Nat.le_refl _) ?_ (fun Q hQ => ft_205 h30 hQ)
      refine eg_k_aload rfl rfl ?_
      refine eg_k_lload rfl rfl ?_
      obtain ⟨r34, h33, hx⟩ := vb_bind hx
      refine eg_k_call (c1 := 0) (z1 := 0) (as := [.inr (.inr (some 45)), .inr (.inl r23.1)]) (rest := []) rfl eg_tj231 (Nat.le_of_ble_eq_true rfl) rfl rfl rfl (Nat.le_of_ble_eq_true rfl) (Nat.le_refl _) (Nat.le_refl _) ?_ (fun Q hQ => ft_231 h33 hQ)
      have hx := Option.some.inj hx
      subst hx
      exact eg_k_iret rfl True.intro (Nat.le_refl _) (Nat.le_refl _) hK
  have e22_ := e9
  refine vb_ite hx (fun e9 hx => ?_) (fun e9 hx => ?_)
  · refine eg_k_tsw (x := x1) (t := 60) rfl (by rw [e9]; rfl) ?_
    refine eg_k_aload rfl rfl ?_
    refine eg_k_lload rfl rfl ?_
    refine eg_k_ci rfl ?_
    obtain ⟨r37, h36, hx⟩ := vb_bind hx
    refine eg_k_call (c1 := 0) (z1 := 0) (as := [.inr (.inr (some 45)), .inr (.inl y0), .inl 5]) (rest := []) rfl eg_tj223 (Nat.le_of_ble_eq_true rfl) rfl rfl rfl (Nat.le_of_ble_eq_true rfl) (Nat.le_refl _) (Nat.le_refl _) ?_ (fun Q hQ => ft_223 h36 hQ)
    refine vk_if rfl hx Iff.rfl (fun c39 hx => ?_) (fun c39 hx => ?_)
    · refine eg_k_aload rfl rfl ?_
      refine eg_k_ci rfl ?_
      obtain ⟨r41, h40, hx⟩ := vb_bind hx
      refine eg_k_call (c1 := 0) (z1 := 0) (as := [.inr (.inr (some 45)), .inl 9]) (rest := []) rfl eg_tj185 (Nat.le_of_ble_eq_true rfl) rfl rfl rfl (Nat.le_of_ble_eq_true rfl) (Nat.le_refl _) (Nat.le_refl _) ?_ (fun Q hQ => ft_185 h40 hQ)
      have hx := Option.some.inj hx
      subst hx
      exact eg_k_iret rfl True.intro (Nat.le_refl _) (Nat.le_refl _) hK
    · refine eg_k_aload rfl rfl ?_
      refine eg_k_aload rfl rfl ?_
      refine eg_k_lload rfl rfl ?_
      refine eg_k_iload rfl rfl ?_
      refine eg_k_ci rfl ?_
      refine eg_k_isub rfl ?_
      obtain ⟨r44, h43, hx⟩ := vb_bind hx
      refine eg_k_call (c1 := 0) (z1 := 0) (as := [.inr (.inr (some 45)), .inr (.inl y0), .inl (eg_wi (x1 - 23))]) (rest := [.inr (.inr (some 45))]) rfl eg_tj189 (Nat.le_of_ble_eq_true rfl) rfl rfl rfl (Nat.le_of_ble_eq_true rfl) (Nat.le_refl _) (Nat.le_refl _) ?_ (fun Q hQ => ft_189 h43 hQ)
      obtain ⟨r47, h46, hx⟩ := vb_bind hx
      refine eg_k_call (c1 := 0) (z1 := 0) (as := [.inr (.inr (some 45)), .inr (.inl r44)]) (rest := []) rfl eg_tj229 (Nat.le_of_ble_eq_true rfl) rfl rfl rfl (Nat.le_of_ble_eq_true rfl) (Nat.le_refl _) (Nat.le_refl _) ?_ (fun Q hQ => ft_229 h46 hQ)
      refine eg_k_goto rfl ?_
      have hx := Option.some.inj hx
      subst hx
      exact eg_k_iret rfl True.intro (Nat.le_refl _) (Nat.le_refl _) hK
  have e23_ := e9
  refine vb_ite hx (fun e9 hx => ?_) (fun e9 hx => ?_)
  · refine eg_k_tsw (x := x1) (t := 60) rfl (by rw [e9]; rfl) ?_
    refine eg_k_aload rfl rfl ?_
    refine eg_k_lload rfl rfl ?_
    refine eg_k_ci rfl ?_
    obtain ⟨r50, h49, hx⟩ := vb_bind hx
    refine eg_k_call (c1 := 0) (z1 := 0) (as := [.inr (.inr (some 45)), .inr (.inl y0), .inl 5]) (rest := []) rfl eg_tj223 (Nat.le_of_ble_eq_true rfl) rfl rfl rfl (Nat.le_of_ble_eq_true rfl) (Nat.le_refl _) (Nat.le_refl _) ?_ (fun Q hQ => ft_223 h49 hQ)
    refine vk_if rfl hx Iff.rfl (fun c52 hx => ?_) (fun c52 hx => ?_)
    · refine eg_k_aload rfl rfl ?_
      refine eg_k_ci rfl ?_
      obtain ⟨r54, h53, hx⟩ := vb_bind hx
      refine eg_k_call (c1 := 0) (z1 := 0) (as := [.inr (.inr (some 45)), .inl 9]) (rest := []) rfl eg_tj185 (Nat.le_of_ble_eq_true rfl) rfl rfl rfl (Nat.le_of_ble_eq_true rfl) (Nat.le_refl _) (Nat.le_refl _) ?_ (fun Q hQ => ft_185 h53 hQ)
      have hx := Option.some.inj hx
      subst hx
      exact eg_k_iret rfl True.intro (Nat.le_refl _) (Nat.le_refl _) hK
    · refine eg_k_aload rfl rfl ?_
      refine eg_k_aload rfl rfl ?_
      refine eg_k_lload rfl rfl ?_
      refine eg_k_iload rfl rfl ?_
      refine eg_k_ci rfl ?_
      refine eg_k_isub rfl ?_
      obtain ⟨r57, h56, hx⟩ := vb_bind hx
      refine eg_k_call (c1 := 0) (z1 := 0) (as := [.inr (.inr (some 45)), .inr (.inl y0), .inl (eg_wi (x1 - 23))]) (rest := [.inr (.inr (some 45))]) rfl eg_tj189 (Nat.le_of_ble_eq_true rfl) rfl rfl rfl (Nat.le_of_ble_eq_true rfl) (Nat.le_refl _) (Nat.le_refl _) ?_ (fun Q hQ => ft_189 h56 hQ)
      obtain ⟨r60, h59, hx⟩ := vb_bind hx
      refine eg_k_call (c1 := 0) (z1 := 0) (as := [.inr (.inr (some 45)), .inr (.inl r57)]) (rest := []) rfl eg_tj229 (Nat.le_of_ble_eq_true rfl) rfl rfl rfl (Nat.le_of_ble_eq_true rfl) (Nat.le_refl _) (Nat.le_refl _) ?_ (fun Q hQ => ft_229 h59 hQ)
      refine eg_k_goto rfl ?_
      have hx := Option.some.inj hx
      subst hx
      exact eg_k_iret rfl True.intro (Nat.le_refl _) (Nat.le_refl _) hK
  have e24_ := e9
  refine vb_ite hx (fun e9 hx => ?_) (fun e9 hx => ?_)
  · refine eg_k_tsw (x := x1) (t := 78) rfl (by rw [e9]; rfl) ?_
    refine eg_k_aload rfl rfl ?_
    refine eg_k_aload rfl rfl ?_
    refine eg_k_ci rfl ?_
    refine eg_k_ci rfl ?_
    refine eg_k_cl rfl ?_
    obtain ⟨r63, h62, hx⟩ := vb_bind hx
    refine eg_k_call (c1 := 0) (z1 := 0) (as := [.inr (.inr (some 45)), .inl 6, .inl 1, .inr (.inl (-1))]) (rest := [.inr (.inr (some 45))]) rfl eg_tj195 (Nat.le_of_ble_eq_true rfl) rfl rfl rfl (Nat.le_of_ble_eq_true rfl) (Nat.le_refl _) (Nat.le_refl _) ?_ (fun Q hQ => ft_195 h62 hQ)
    obtain ⟨r66, h65, hx⟩ := vb_bind hx
    refine eg_k_call (c1 := 0) (z1 := 0) (as := [.inr (.inr (some 45)), .inr (.inl r63.1)]) (rest := []) rfl eg_tj231 (Nat.le_of_ble_eq_true rfl) rfl rfl rfl (Nat.le_of_ble_eq_true rfl) (Nat.le_refl _) (Nat.le_refl _) ?_ (fun Q hQ => ft_231 h65 hQ)
    have hx := Option.some.inj hx
    subst hx
    exact eg_k_iret rfl True.intro (Nat.le_refl _) (Nat.le_refl _) hK
  have e25_ := e9
  refine vb_ite hx (fun e9 hx => ?_) (fun e9 hx => ?_)
  · refine eg_k_tsw (x := x1) (t := 96) rfl (by rw [e9]; rfl) ?_
    refine eg_k_aload rfl rfl ?_
    refine eg_k_iload rfl rfl ?_
    refine eg_k_lload rfl rfl ?_
    refine eg_k_iload rfl rfl ?_
    obtain ⟨r69, h68, hx⟩ := vb_bind hx
    refine eg_k_call (c1 := 0) (z1 := 0) (as := [.inr (.inr (some 45)), .inl x1, .inr (.inl y0), .inl x2]) (rest := []) rfl eg_tj235 (Nat.le_of_ble_eq_true rfl) rfl rfl rfl (Nat.le_of_ble_eq_true rfl) (Nat.le_refl _) (Nat.le_refl _) ?_ (fun Q hQ => ft_235 h68 hQ)
    have hx := Option.some.inj hx
    subst hx
    exact eg_k_iret rfl True.intro (Nat.le_refl _) (Nat.le_refl _) hK
  have e26_ := e9
  refine vb_ite hx (fun e9 hx => ?_) (fun e9 hx => ?_)
  · refine eg_k_tsw (x := x1) (t := 96) rfl (by rw [e9]; rfl) ?_
    refine eg_k_aload rfl rfl ?_
    refine eg_k_iload rfl rfl ?_
    refine eg_k_lload rfl rfl ?_
    refine eg_k_iload rfl rfl ?_
    obtain ⟨r72, h71, hx⟩ := vb_bind hx
    refine eg_k_call (c1 := 0) (z1 := 0) (as := [.inr (.inr (some 45)), .inl x1, .inr (.inl y0), .inl x2]) (rest := []) rfl eg_tj235 (Nat.le_of_ble_eq_true rfl) rfl rfl rfl (Nat.le_of_ble_eq_true rfl) (Nat.le_refl _) (Nat.le_refl _) ?_ (fun Q hQ => ft_235 h71 hQ)
    have hx := Option.some.inj hx
    subst hx
    exact eg_k_iret rfl True.intro (Nat.le_refl _) (Nat.le_refl _) hK
  have e27_ := e9
  refine vb_ite hx (fun e9 hx => ?_) (fun e9 hx => ?_)
  · refine eg_k_tsw (x := x1) (t := 96) rfl (by rw [e9]; rfl) ?_
    refine eg_k_aload rfl rfl ?_
    refine eg_k_iload rfl rfl ?_
    refine eg_k_lload rfl rfl ?_
    refine eg_k_iload rfl rfl ?_
    obtain ⟨r75, h74, hx⟩ := vb_bind hx
    refine eg_k_call (c1 := 0) (z1 := 0) (as := [.inr (.inr (some 45)), .inl x1, .inr (.inl y0), .inl x2]) (rest := []) rfl eg_tj235 (Nat.le_of_ble_eq_true rfl) rfl rfl rfl (Nat.le_of_ble_eq_true rfl) (Nat.le_refl _) (Nat.le_refl _) ?_ (fun Q hQ => ft_235 h74 hQ)
    have hx := Option.some.inj hx
    subst hx
    exact eg_k_iret rfl True.intro (Nat.le_refl _) (Nat.le_refl _) hK
  have e28_ := e9
  refine vb_ite hx (fun e9 hx => ?_) (fun e9 hx => ?_)
  · refine eg_k_tsw (x := x1) (t := 86) rfl (by rw [e9]; rfl) ?_
    refine eg_k_aload rfl rfl ?_
    refine eg_k_lload rfl rfl ?_
    refine eg_k_aload rfl rfl ?_
    refine eg_k_gfa rfl rfl rfl eh_r45_52 ?_
    refine eg_k_iload rfl rfl ?_
    refine eg_k_ci rfl ?_
    refine eg_k_iadd rfl ?_
    obtain ⟨b77, hx⟩ := vb_if hx
    refine eg_k_lald (k := 19000) rfl rfl b77.1 b77.2 ?_
    obtain ⟨r79, h78, hx⟩ := vb_bind hx
    refine eg_k_call (c1 := 0) (z1 := 0) (as := [.inr (.inr (some 45)), .inr (.inl y0), .inr (.inl (M 77 (eg_wi (x2 + 1)).toNat))]) (rest := []) rfl eg_tj234 (Nat.le_of_ble_eq_true rfl) rfl rfl rfl (Nat.le_of_ble_eq_true rfl) (Nat.le_refl _) (Nat.le_refl _) ?_ (fun Q hQ => ft_234 h78 hQ)
    have hx := Option.some.inj hx
    subst hx
    exact eg_k_iret rfl True.intro (Nat.le_refl _) (Nat.le_refl _) hK
  have e29_ := e9
  refine eg_k_tsw (x := x1) (t := 96) rfl (by unfold eg_tb; rw [if_pos (by omega)]; rfl) ?_
  refine eg_k_aload rfl rfl ?_
  refine eg_k_iload rfl rfl ?_
  refine eg_k_lload rfl rfl ?_
  refine eg_k_iload rfl rfl ?_
  obtain ⟨r82, h81, hx⟩ := vb_bind hx
  refine eg_k_call (c1 := 0) (z1 := 0) (as := [.inr (.inr (some 45)), .inl x1, .inr (.inl y0), .inl x2]) (rest := []) rfl eg_tj235 (Nat.le_of_ble_eq_true rfl) rfl rfl rfl (Nat.le_of_ble_eq_true rfl) (Nat.le_refl _) (Nat.le_refl _) ?_ (fun Q hQ => ft_235 h81 hQ)
  have hx := Option.some.inj hx
  subst hx
  exact eg_k_iret rfl True.intro (Nat.le_refl _) (Nat.le_refl _) hK
set_option maxRecDepth 100000 in
theorem ft_233 {cn mo : Nat} {sc : eg_Sc} {d : Nat} {M : eM} {Q : Option eg_V → eg_H → Prop} {a : Int} {b : Int} {x : Int × eM} (hx : fn_233 a b M = some x) (hK : Q (some (.inl ((x).1))) (em_L cn mo, eh_R, (x).2)) : eg_wp sc (d + 10) 233 [.inr (.inr (some 45)), .inl a, .inl b] (em_L cn mo, eh_R, M) 0 0 Q := by
  refine eg_in (lv := [some (.inr (.inr (some 45))), some (.inl a), some (.inl b), none, none, none, none]) eg_tj233 (Nat.le_of_ble_eq_true rfl) rfl ?_
  refine eg_k_iload rfl rfl ?_
  refine eg_k_ci rfl ?_
  refine vk_icmp rfl hx Iff.rfl (fun c1 hx => ?_) (fun c1 hx => ?_)
  · refine eg_k_aload rfl rfl ?_
    refine eg_k_gfa rfl rfl rfl eh_r45_52 ?_
    refine eg_k_iload rfl rfl ?_
    obtain ⟨b2, hx⟩ := vb_if hx
    refine eg_k_lald (k := 19000) rfl rfl b2.1 b2.2 ?_
    have hz := ft_233_9 (d := d) (sc := sc) hx hK
    exact hz none none none none
  · refine eg_k_cl rfl ?_
    refine eg_k_goto rfl ?_
    have hz := ft_233_9 (d := d) (sc := sc) hx hK
    exact hz none none none none
theorem fw_233_9 {M : eM} {c j : Nat} {v : Int} {x1 : Int} {x2 : Int} {y0 : Int} {x : Int × eM} (hc : c ∉ ([45, 62, 63, 65, 66, 67, 68, 69, 70, 71, 73, 74, 75, 76, 85] : List Nat)) (hx : fn_233_9 x1 x2 y0 M = some x) (hK : (fun (x : Int × eM) => ((x).2) c j = v) x) : M c j = v := by
  refine vb_ite hx (fun _ hx => ?_) (fun _ hx => ?_)
  · obtain ⟨r4, h3, hx⟩ := vb_bind hx
    obtain ⟨r7, h6, hx⟩ := vb_bind hx
    have hx := Option.some.inj hx
    subst hx
    exact ((fw_231 h6 (vsub hc (by decide)) j).trans ((fw_195 h3 (vsub hc (by decide)) j).trans rfl)).symm.trans hK
  refine vb_ite hx (fun _ hx => ?_) (fun _ hx => ?_)
  · obtain ⟨r10, h9, hx⟩ := vb_bind hx
    refine vb_ite hx (fun _ hx => ?_) (fun _ hx => ?_)
    · obtain ⟨r14, h13, hx⟩ := vb_bind hx
      have hx := Option.some.inj hx
      subst hx
      exact ((fw_185 h13 (vsub hc (by decide)) j).trans rfl).symm.trans hK
    · obtain ⟨r17, h16, hx⟩ := vb_bind hx
      obtain ⟨r20, h19, hx⟩ := vb_bind hx
      have hx := Option.some.inj hx
      subst hx
      exact ((fw_229 h19 (vsub hc (by decide)) j).trans rfl).symm.trans hK
  refine vb_ite hx (fun _ hx => ?_) (fun _ hx => ?_)
  · obtain ⟨r23, h22, hx⟩ := vb_bind hx
    refine vb_ite hx (fun _ hx => ?_) (fun _ hx => ?_)
    · obtain ⟨r27, h26, hx⟩ := vb_bind hx
      have hx := Option.some.inj hx
      subst hx
      exact ((fw_231 h26 (vsub hc (by decide)) j).trans ((fw_195 h22 (vsub hc (by decide)) j).trans rfl)).symm.trans hK
    · obtain ⟨_, hx⟩ := vb_if hx
      obtain ⟨m32, h30, hx⟩ := vb_bind hx
      obtain ⟨r34, h33, hx⟩ := vb_bind hx
      have hx := Option.some.inj hx
      subst hx
      exact ((fw_231 h33 (vsub hc (by decide)) j).trans ((fw_205 h30 (vsub hc (by decide)) j).trans ((fw_195 h22 (vsub hc (by decide)) j).trans rfl))).symm.trans hK
  refine vb_ite hx (fun _ hx => ?_) (fun _ hx => ?_)
  · obtain ⟨r37, h36, hx⟩ := vb_bind hx
    refine vb_ite hx (fun _ hx => ?_) (fun _ hx => ?_)
    · obtain ⟨r41, h40, hx⟩ := vb_bind hx
      have hx := Option.some.inj hx
      subst hx
      exact ((fw_185 h40 (vsub hc (by decide)) j).trans rfl).symm.trans hK
    · obtain ⟨r44, h43, hx⟩ := vb_bind hx
      obtain ⟨r47, h46, hx⟩ := vb_bind hx
      have hx := Option.some.inj hx
      subst hx
      exact ((fw_229 h46 (vsub hc (by decide)) j).trans rfl).symm.trans hK
  refine vb_ite hx (fun _ hx => ?_) (fun _ hx => ?_)
  · obtain ⟨r50, h49, hx⟩ := vb_bind hx
    refine vb_ite hx (fun _ hx => ?_) (fun _ hx => ?_)
    · obtain ⟨r54, h53, hx⟩ := vb_bind hx
      have hx := Option.some.inj hx
      subst hx
      exact ((fw_185 h53 (vsub hc (by decide)) j).trans rfl).symm.trans hK
    · obtain ⟨r57, h56, hx⟩ := vb_bind hx
      obtain ⟨r60, h59, hx⟩ := vb_bind hx
      have hx := Option.some.inj hx
      subst hx
      exact ((fw_229 h59 (vsub hc (by decide)) j).trans rfl).symm.trans hK
  refine vb_ite hx (fun _ hx => ?_) (fun _ hx => ?_)
  · obtain ⟨r63, h62, hx⟩ := vb_bind hx
    obtain ⟨r66, h65, hx⟩ := vb_bind hx
    have hx := Option.some.inj hx
    subst hx
    exact ((fw_231 h65 (vsub hc (by decide)) j).trans ((fw_195 h62 (vsub hc (by decide)) j).trans rfl)).symm.trans hK
  refine vb_ite hx (fun _ hx => ?_) (fun _ hx => ?_)
  · obtain ⟨r69, h68, hx⟩ := vb_bind hx
    have hx := Option.some.inj hx
    subst hx
    exact ((fw_235 h68 (vsub hc (by decide)) j).trans rfl).symm.trans hK
  refine vb_ite hx (fun _ hx => ?_) (fun _ hx => ?_)
  · obtain ⟨r72, h71, hx⟩ := vb_bind hx
    have hx := Option.some.inj hx
    subst hx
    exact ((fw_235 h71 (vsub hc (by decide)) j).trans rfl).symm.trans hK
  refine vb_ite hx (fun _ hx => ?_) (fun _ hx => ?_)
  · obtain ⟨r75, h74, hx⟩ := vb_bind hx
    have hx := Option.some.inj hx
    subst hx
    exact ((fw_235 h74 (vsub hc (by decide)) j).trans rfl).symm.trans hK
  refine vb_ite hx (fun _ hx => ?_) (fun _ hx => ?_)
  · obtain ⟨_, hx⟩ := vb_if hx
    obtain ⟨r79, h78, hx⟩ := vb_bind hx
    have hx := Option.some.inj hx
    subst hx
    exact ((fw_234 h78 (vsub hc (by decide)) j).trans rfl).symm.trans hK
  obtain ⟨r82, h81, hx⟩ := vb_bind hx
  have hx := Option.some.inj hx
  subst hx
  exact ((fw_235 h81 (vsub hc (by decide)) j).trans rfl).symm.trans hK
theorem fw_233 {M : eM} {c : Nat} {a : Int} {b : Int} {x : Int × eM} (hx : fn_233 a b M = some x) (hc : c ∉ ([45, 62, 63, 65, 66, 67, 68, 69, 70, 71, 73, 74, 75, 76, 85] : List Nat)) (j : Nat) : ((x).2) c j = M c j := by
  obtain ⟨v, hK⟩ : ∃ v, ((x).2) c j = v := ⟨_, rfl⟩
  rw [hK]
  refine Eq.symm ?_
  refine vb_ite hx (fun _ hx => ?_) (fun _ hx => ?_)
  · obtain ⟨_, hx⟩ := vb_if hx
    have hz := fw_233_9 hc hx hK
    exact (Eq.refl _).symm.trans hz
  · have hz := fw_233_9 hc hx hK
    exact (Eq.refl _).symm.trans hz
/-- 240: WeakSchemeModel.write(I)V -/
noncomputable def fn_240 (a : Int) (M : eM) : Option (eM) :=
  if ¬ (M 45 72) = 4000 then
    if 0 ≤ (M 45 72) ∧ (M 45 72) < 4000 then
    some (eg_u (eg_u M 86 (M 45 72).toNat a) 45 72 (eg_wi ((M 45 72) + 1)))
    else none
  else
    some M
set_option maxRecDepth 100000 in
theorem ft_240 {cn mo : Nat} {sc : eg_Sc} {d : Nat} {M : eM} {Q : Option eg_V → eg_H → Prop} {a : Int} {x : eM} (hx : fn_240 a M = some x) (hK : Q (none) (em_L cn mo, eh_R, x)) : eg_wp sc (d + 1) 240 [.inr (.inr (some 45)), .inl a] (em_L cn mo, eh_R, M) 0 0 Q := by
  refine eg_in (lv := [some (.inr (.inr (some 45))), some (.inl a)]) eg_tj240 (Nat.le_of_ble_eq_true rfl) rfl ?_
  refine eg_k_aload rfl rfl ?_
  refine eg_k_gfi rfl rfl rfl ?_
  refine eg_k_ci rfl ?_
  refine vk_icmp rfl hx Iff.rfl (fun c1 hx => ?_) (fun c1 hx => ?_)
  · refine eg_k_aload rfl rfl ?_
    refine eg_k_gfa rfl rfl rfl eh_r45_71 ?_
    refine eg_k_aload rfl rfl ?_
    refine eg_k_gfi rfl rfl rfl ?_
    refine eg_k_iload rfl rfl ?_
    obtain ⟨b2, hx⟩ := vb_if hx
    refine eg_k_iast (k := 4000) rfl rfl b2.1 b2.2 ?_
    refine eg_k_aload rfl rfl ?_
    refine eg_k_aload rfl rfl ?_
    refine eg_k_gfie (x := M 45 72) rfl rfl rfl rfl ?_
    refine eg_k_ci rfl ?_
    refine eg_k_iadd rfl ?_
    refine eg_k_pfi rfl rfl rfl ?_
    have hx := Option.some.inj hx
    subst hx
    exact eg_k_ret rfl rfl (Nat.le_refl _) (Nat.le_refl _) hK
  · have hx := Option.some.inj hx
    subst hx
    exact eg_k_ret rfl rfl (Nat.le_refl _) (Nat.le_refl _) hK
theorem fw_240 {M : eM} {c : Nat} {a : Int} {x : eM} (hx : fn_240 a M = some x) (hc : c ∉ ([45, 86] : List Nat)) (j : Nat) : x c j = M c j := by
  obtain ⟨v, hK⟩ : ∃ v, x c j = v := ⟨_, rfl⟩
  rw [hK]
  refine Eq.symm ?_
  refine vb_ite hx (fun _ hx => ?_) (fun _ hx => ?_)
  · obtain ⟨_, hx⟩ := vb_if hx
    have hx := Option.some.inj hx
    subst hx
    exact ((congrFun (eg_u_ne (vne hc (a := 45) (by decide))) j).trans ((congrFun (eg_u_ne (vne hc (a := 86) (by decide))) j).trans rfl)).symm.trans hK
  · have hx := Option.some.inj hx
    subst hx
    exact (Eq.refl _).symm.trans hK
noncomputable def fn_241_2 (s1 : Int) (s2 : eM) : Option ((Int × eM) ⊕ (eM)) :=
  if 3 ≤ s1 then
    some (.inr s2)
  else
    (fn_240 46 s2).bind fun m4 =>
    some (.inl (eg_wi (s1 + 1), m4))
/-- 241: WeakSchemeModel.writeDots()V -/
noncomputable def fn_241 (M : eM) : Option (eM) :=
  lp (fun z => fn_241_2 z.1 z.2) (0, M)
set_option maxRecDepth 100000 in
theorem ft_241_2 {cn mo : Nat} {sc : eg_Sc} {d : Nat} {Q : Option eg_V → eg_H → Prop} {s : Int × eM} {x : eM} (hx : lp (fun z => fn_241_2 z.1 z.2) s = some x) (hK : (fun (x : eM) => Q (none) (em_L cn mo, eh_R, x)) x) : eg_X sc (eg_wp sc (d + 1)) eg_p241 none 0 0 Q 2 [some (.inr (.inr (some 45))), some (.inl s.1)] [] (em_L cn mo, eh_R, s.2) 0 0 := by
  refine lp_sound (P := (fun (s : Int × eM) => eg_X sc (eg_wp sc (d + 1)) eg_p241 none 0 0 Q 2 [some (.inr (.inr (some 45))), some (.inl s.1)] [] (em_L cn mo, eh_R, s.2) 0 0)) (K := (fun (x : eM) => Q (none) (em_L cn mo, eh_R, x))) hx hK ?_
  intro s x hx hK
  obtain ⟨s1, s2⟩ := s
  refine eg_k_iload rfl rfl ?_
  refine eg_k_ci rfl ?_
  refine vk_icmp rfl hx Iff.rfl (fun c1 hx => ?_) (fun c1 hx => ?_)
  · have hx := Option.some.inj hx
    subst hx
    exact eg_k_ret rfl rfl (Nat.le_refl _) (Nat.le_refl _) hK
  · refine eg_k_aload rfl rfl ?_
    refine eg_k_ci rfl ?_
    obtain ⟨m4, h2, hx⟩ := vb_bind hx
    refine eg_k_call (c1 := 0) (z1 := 0) (as := [.inr (.inr (some 45)), .inl 46]) (rest := []) rfl eg_tj240 (Nat.le_of_ble_eq_true rfl) rfl rfl rfl (Nat.le_of_ble_eq_true rfl) (Nat.le_refl _) (Nat.le_refl _) ?_ (fun Q hQ => ft_240 h2 hQ)
    refine eg_k_iinc (lv' := [some (.inr (.inr (some 45))), some (.inl (eg_wi (s1 + 1)))]) rfl rfl rfl ?_
    refine eg_k_goto rfl ?_
    have hx := Option.some.inj hx
    subst hx
    exact hK
set_option maxRecDepth 100000 in
theorem ft_241 {cn mo : Nat} {sc : eg_Sc} {d : Nat} {M : eM} {Q : Option eg_V → eg_H → Prop} {x : eM} (hx : fn_241 M = some x) (hK : Q (none) (em_L cn mo, eh_R, x)) : eg_wp sc (d + 2) 241 [.inr (.inr (some 45))] (em_L cn mo, eh_R, M) 0 0 Q := by
  refine eg_in (lv := [some (.inr (.inr (some 45))), none]) eg_tj241 (Nat.le_of_ble_eq_true rfl) rfl ?_
  refine eg_k_ci rfl ?_
  refine eg_k_istore (lv' := [some (.inr (.inr (some 45))), some (.inl 0)]) rfl rfl ?_
  have hz := ft_241_2 (d := d) (sc := sc) hx hK
  exact hz
theorem fw_241_2 {c j : Nat} {v : Int} {s : Int × eM} {x : eM} (hc : c ∉ ([45, 86] : List Nat)) (hx : lp (fun z => fn_241_2 z.1 z.2) s = some x) (hK : (fun (x : eM) => x c j = v) x) : s.2 c j = v := by
  refine lp_sound (P := (fun (s : Int × eM) => s.2 c j = v)) (K := (fun (x : eM) => x c j = v)) hx hK ?_
  intro s x hx hK
  obtain ⟨s1, s2⟩ := s
  refine vb_ite hx (fun _ hx => ?_) (fun _ hx => ?_)
  · have hx := Option.some.inj hx
    subst hx
    exact (Eq.refl _).symm.trans hK
  · obtain ⟨m4, h2, hx⟩ := vb_bind hx
    have hx := Option.some.inj hx
    subst hx
    exact ((fw_240 h2 (vsub hc (by decide)) j).trans rfl).symm.trans hK
theorem fw_241 {M : eM} {c : Nat} {x : eM} (hx : fn_241 M = some x) (hc : c ∉ ([45, 86] : List Nat)) (j : Nat) : x c j = M c j := by
  obtain ⟨v, hK⟩ : ∃ v, x c j = v := ⟨_, rfl⟩
  rw [hK]
  refine Eq.symm ?_
  have hz := fw_241_2 hc hx hK
  exact (Eq.refl _).symm.trans hz
noncomputable def fn_243_27 (x1 : Int) (x2 : Int) (s1 : Int) (s2 : eM) : Option ((Int × eM) ⊕ (eM)) :=
  if s1 ≤ 0 then
    some (.inr s2)
  else
    if ¬ s1 = 0 then
    (fn_240 (eg_wi (48 + (eg_wi (eg_wl ((eg_wl (Int.tdiv x2 s1)) - eg_wl (Int.tdiv (eg_wl (Int.tdiv x2 s1)) 10) * 10))))) s2).bind fun m8 =>
      some (.inl (eg_wl (Int.tdiv s1 10), m8))
    else none
noncomputable def fn_243_16 (x1 : Int) (x2 : Int) (M : eM) (s : Int) : Option ((Int) ⊕ (eM)) :=
  if ¬ s = 0 then
  if (eg_wl (Int.tdiv x2 s)) < 10 then
      (lp (fun z => fn_243_27 x1 x2 z.1 z.2) (s, M)).map Sum.inr
    else
      some (.inl (eg_wl (s * 10)))
  else none
/-- 243: WeakSchemeModel.writeNumber(I)V -/
noncomputable def fn_243 (a : Int) (M : eM) : Option (eM) :=
  if 0 ≤ a then
    lp (fn_243_16 a a M) 1
  else
    (fn_240 45 M).bind fun m11 =>
    lp (fn_243_16 a (eg_wl (-a)) m11) 1
set_option maxRecDepth 100000 in
theorem ft_243_27 {cn mo : Nat} {sc : eg_Sc} {d : Nat} {Q : Option eg_V → eg_H → Prop} {x1 : Int} {x2 : Int} {s : Int × eM} {x : eM} (hx : lp (fun z => fn_243_27 x1 x2 z.1 z.2) s = some x) (hK : (fun (x : eM) => Q (none) (em_L cn mo, eh_R, x)) x) : eg_X sc (eg_wp sc (d + 1)) eg_p243 none 0 0 Q 27 [some (.inr (.inr (some 45))), some (.inl x1), some (.inr (.inl x2)), none, some (.inr (.inl s.1)), none] [] (em_L cn mo, eh_R, s.2) 0 0 := by
  refine lp_sound (P := (fun (s : Int × eM) => eg_X sc (eg_wp sc (d + 1)) eg_p243 none 0 0 Q 27 [some (.inr (.inr (some 45))), some (.inl x1), some (.inr (.inl x2)), none, some (.inr (.inl s.1)), none] [] (em_L cn mo, eh_R, s.2) 0 0)) (K := (fun (x : eM) => Q (none) (em_L cn mo, eh_R, x))) hx hK ?_
  intro s x hx hK
  obtain ⟨s1, s2⟩ := s
  refine eg_k_lload rfl rfl ?_
  refine eg_k_cl rfl ?_
  refine vk_lcmp rfl rfl hx Iff.rfl (fun c4 hx => ?_) (fun c4 hx => ?_)
  · have hx := Option.some.inj hx
    subst hx
    exact eg_k_ret rfl rfl (Nat.le_refl _) (Nat.le_refl _) hK
  · refine eg_k_aload rfl rfl ?_
    refine eg_k_ci rfl ?_
    refine eg_k_lload rfl rfl ?_
    refine eg_k_lload rfl rfl ?_
    obtain ⟨b5, hx⟩ := vb_if hx
    refine eg_k_ldiv rfl b5 ?_
    refine eg_k_cl rfl ?_
    refine eg_k_lrem rfl (by decide) ?_
    refine eg_k_l2i rfl ?_
    refine eg_k_iadd rfl ?_
    obtain ⟨m8, h6, hx⟩ := vb_bind hx
    refine eg_k_call (c1 := 0) (z1 := 0) (as := [.inr (.inr (some 45)), .inl (eg_wi (48 + (eg_wi (eg_wl ((eg_wl (Int.tdiv x2 s1)) - eg_wl (Int.tdiv (eg_wl (Int.tdiv x2 s1)) 10) * 10)))))]) (rest := []) rfl eg_tj240 (Nat.le_of_ble_eq_true rfl) rfl rfl rfl (Nat.le_of_ble_eq_true rfl) (Nat.le_refl _) (Nat.le_refl _) ?_ (fun Q hQ => ft_240 h6 hQ)
    refine eg_k_lload rfl rfl ?_
    refine eg_k_cl rfl ?_
    refine eg_k_ldiv rfl (by decide) ?_
    refine eg_k_lstore (lv' := [some (.inr (.inr (some 45))), some (.inl x1), some (.inr (.inl x2)), none, some (.inr (.inl (eg_wl (Int.tdiv s1 10)))), none]) rfl rfl ?_
    refine eg_k_goto rfl ?_
    have hx := Option.some.inj hx
    subst hx
    exact hK
set_option maxRecDepth 100000 in
theorem ft_243_16 {cn mo : Nat} {sc : eg_Sc} {d : Nat} {M : eM} {Q : Option eg_V → eg_H → Prop} {x1 : Int} {x2 : Int} {s : Int} {x : eM} (hx : lp (fn_243_16 x1 x2 M) s = some x) (hK : (fun (x : eM) => Q (none) (em_L cn mo, eh_R, x)) x) : eg_X sc (eg_wp sc (d + 1)) eg_p243 none 0 0 Q 16 [some (.inr (.inr (some 45))), some (.inl x1), some (.inr (.inl x2)), none, some (.inr (.inl s)), none] [] (em_L cn mo, eh_R, M) 0 0 := by
  refine lp_sound (P := (fun (s : Int) => eg_X sc (eg_wp sc (d + 1)) eg_p243 none 0 0 Q 16 [some (.inr (.inr (some 45))), some (.inl x1), some (.inr (.inl x2)), none, some (.inr (.inl s)), none] [] (em_L cn mo, eh_R, M) 0 0)) (K := (fun (x : eM) => Q (none) (em_L cn mo, eh_R, x))) hx hK ?_
  intro s x hx hK
  refine eg_k_lload rfl rfl ?_
  refine eg_k_lload rfl rfl ?_
  obtain ⟨b2, hx⟩ := vb_if hx
  refine eg_k_ldiv rfl b2 ?_
  refine eg_k_cl rfl ?_
  refine vk_lcmp rfl rfl hx Iff.rfl (fun c3 hx => ?_) (fun c3 hx => ?_)
  · obtain ⟨x, hy, e9⟩ := vb_map hx
    clear hx
    subst e9
    have hx := hy
    clear hy
    have hz := ft_243_27 (d := d) (sc := sc) hx hK
    exact hz
  · refine eg_k_lload rfl rfl ?_
    refine eg_k_cl rfl ?_
    refine eg_k_lmul rfl ?_
    refine eg_k_lstore (lv' := [some (.inr (.inr (some 45))), some (.inl x1), some (.inr (.inl x2)), none, some (.inr (.inl (eg_wl (s * 10)))), none]) rfl rfl ?_
    refine eg_k_goto rfl ?_
    have hx := Option.some.inj hx
    subst hx
    exact hK
set_option maxRecDepth 100000 in
theorem ft_243 {cn mo : Nat} {sc : eg_Sc} {d : Nat} {M : eM} {Q : Option eg_V → eg_H → Prop} {a : Int} {x : eM} (hx : fn_243 a M = some x) (hK : Q (none) (em_L cn mo, eh_R, x)) : eg_wp sc (d + 2) 243 [.inr (.inr (some 45)), .inl a] (em_L cn mo, eh_R, M) 0 0 Q := by
  refine eg_in (lv := [some (.inr (.inr (some 45))), some (.inl a), none, none, none, none]) eg_tj243 (Nat.le_of_ble_eq_true rfl) rfl ?_
  refine eg_k_iload rfl rfl ?_
  refine vk_if rfl hx Iff.rfl (fun c1 hx => ?_) (fun c1 hx => ?_)
  · refine eg_k_iload rfl rfl ?_
    refine eg_k_i2l rfl ?_
    refine eg_k_lstore (lv' := [some (.inr (.inr (some 45))), some (.inl a), some (.inr (.inl a)), none, none, none]) rfl rfl ?_
    refine eg_k_iload rfl rfl ?_
    refine eg_k_if rfl (fun _ => ?_) (fun z => absurd c1 z)
    refine eg_k_cl rfl ?_
    refine eg_k_lstore (lv' := [some (.inr (.inr (some 45))), some (.inl a), some (.inr (.inl a)), none, some (.inr (.inl 1)), none]) rfl rfl ?_
    have hz := ft_243_16 (d := d) (sc := sc) hx hK
    exact hz
  · refine eg_k_iload rfl rfl ?_
    refine eg_k_i2l rfl ?_
    refine eg_k_lneg rfl ?_
    refine eg_k_goto rfl ?_
    refine eg_k_lstore (lv' := [some (.inr (.inr (some 45))), some (.inl a), some (.inr (.inl (eg_wl (-a)))), none, none, none]) rfl rfl ?_
    refine eg_k_iload rfl rfl ?_
    refine eg_k_if rfl (fun z => absurd z c1) (fun _ => ?_)
    refine eg_k_aload rfl rfl ?_
    refine eg_k_ci rfl ?_
    obtain ⟨m11, h9, hx⟩ := vb_bind hx
    refine eg_k_call (c1 := 0) (z1 := 0) (as := [.inr (.inr (some 45)), .inl 45]) (rest := []) rfl eg_tj240 (Nat.le_of_ble_eq_true rfl) rfl rfl rfl (Nat.le_of_ble_eq_true rfl) (Nat.le_refl _) (Nat.le_refl _) ?_ (fun Q hQ => ft_240 h9 hQ)
    refine eg_k_cl rfl ?_
    refine eg_k_lstore (lv' := [some (.inr (.inr (some 45))), some (.inl a), some (.inr (.inl (eg_wl (-a)))), none, some (.inr (.inl 1)), none]) rfl rfl ?_
    have hz := ft_243_16 (d := d) (sc := sc) hx hK
    exact hz
theorem fw_243_27 {c j : Nat} {v : Int} {x1 : Int} {x2 : Int} {s : Int × eM} {x : eM} (hc : c ∉ ([45, 86] : List Nat)) (hx : lp (fun z => fn_243_27 x1 x2 z.1 z.2) s = some x) (hK : (fun (x : eM) => x c j = v) x) : s.2 c j = v := by
  refine lp_sound (P := (fun (s : Int × eM) => s.2 c j = v)) (K := (fun (x : eM) => x c j = v)) hx hK ?_
  intro s x hx hK
  obtain ⟨s1, s2⟩ := s
  refine vb_ite hx (fun _ hx => ?_) (fun _ hx => ?_)
  · have hx := Option.some.inj hx
    subst hx
    exact (Eq.refl _).symm.trans hK
  · obtain ⟨_, hx⟩ := vb_if hx
    obtain ⟨m8, h6, hx⟩ := vb_bind hx
    have hx := Option.some.inj hx
    subst hx
    exact ((fw_240 h6 (vsub hc (by decide)) j).trans rfl).symm.trans hK
theorem fw_243_16 {M : eM} {c j : Nat} {v : Int} {x1 : Int} {x2 : Int} {s : Int} {x : eM} (hc : c ∉ ([45, 86] : List Nat)) (hx : lp (fn_243_16 x1 x2 M) s = some x) (hK : (fun (x : eM) => x c j = v) x) : M c j = v := by
  refine lp_sound (P := (fun (s : Int) => M c j = v)) (K := (fun (x : eM) => x c j = v)) hx hK ?_
  intro s x hx hK
  obtain ⟨_, hx⟩ := vb_if hx
  refine vb_ite hx (fun _ hx => ?_) (fun _ hx => ?_)
  · obtain ⟨x, hy, e9⟩ := vb_map hx
    clear hx
    subst e9
    have hx := hy
    clear hy
    have hz := fw_243_27 hc hx hK
    exact (Eq.refl _).symm.trans hz
  · have hx := Option.some.inj hx
    subst hx
    exact hK
theorem fw_243 {M : eM} {c : Nat} {a : Int} {x : eM} (hx : fn_243 a M = some x) (hc : c ∉ ([45, 86] : List Nat)) (j : Nat) : x c j = M c j := by
  obtain ⟨v, hK⟩ : ∃ v, x c j = v := ⟨_, rfl⟩
  rw [hK]
  refine Eq.symm ?_
  refine vb_ite hx (fun _ hx => ?_) (fun _ hx => ?_)
  · have hz := fw_243_16 hc hx hK
    exact (Eq.refl _).symm.trans hz
  · obtain ⟨m11, h9, hx⟩ := vb_bind hx
    have hz := fw_243_16 hc hx hK
    exact ((fw_240 h9 (vsub hc (by decide)) j).trans rfl).symm.trans hz
noncomputable def fn_244_5 (x1 : Int) (s1 : Int) (s2 : eM) : Option ((Int × eM) ⊕ (eM)) :=
  if 0 ≤ (eg_wi (x1 + 1)) ∧ (eg_wi (x1 + 1)) < 460 then
  if (s2 48 (eg_wi (x1 + 1)).toNat) ≤ s1 then
      some (.inr s2)
    else
      if 0 ≤ s1 ∧ s1 < 9200 then
      (fn_240 (s2 47 (s1).toNat) s2).bind fun m7 =>
        some (.inl (eg_wi (s1 + 1), m7))
      else none
  else none
/-- 244: WeakSchemeModel.writeName(I)V -/
noncomputable def fn_244 (a : Int) (M : eM) : Option (eM) :=
  if 0 ≤ a ∧ a < 460 then
  lp (fun z => fn_244_5 a z.1 z.2) (M 48 (a).toNat, M)
  else none
set_option maxRecDepth 100000 in
theorem ft_244_5 {cn mo : Nat} {sc : eg_Sc} {d : Nat} {Q : Option eg_V → eg_H → Prop} {x1 : Int} {s : Int × eM} {x : eM} (hx : lp (fun z => fn_244_5 x1 z.1 z.2) s = some x) (hK : (fun (x : eM) => Q (none) (em_L cn mo, eh_R, x)) x) : eg_X sc (eg_wp sc (d + 1)) eg_p244 none 0 0 Q 5 [some (.inr (.inr (some 45))), some (.inl x1), some (.inl s.1)] [] (em_L cn mo, eh_R, s.2) 0 0 := by
  refine lp_sound (P := (fun (s : Int × eM) => eg_X sc (eg_wp sc (d + 1)) eg_p244 none 0 0 Q 5 [some (.inr (.inr (some 45))), some (.inl x1), some (.inl s.1)] [] (em_L cn mo, eh_R, s.2) 0 0)) (K := (fun (x : eM) => Q (none) (em_L cn mo, eh_R, x))) hx hK ?_
  intro s x hx hK
  obtain ⟨s1, s2⟩ := s
  refine eg_k_iload rfl rfl ?_
  refine eg_k_aload rfl rfl ?_
  refine eg_k_gfa rfl rfl rfl eh_r45_6 ?_
  refine eg_k_iload rfl rfl ?_
  refine eg_k_ci rfl ?_
  refine eg_k_iadd rfl ?_
  obtain ⟨b2, hx⟩ := vb_if hx
  refine eg_k_iald (k := 460) rfl rfl b2.1 b2.2 ?_
  refine vk_icmp rfl hx Iff.rfl (fun c3 hx => ?_) (fun c3 hx => ?_)
  · have hx := Option.some.inj hx
    subst hx
    exact eg_k_ret rfl rfl (Nat.le_refl _) (Nat.le_refl _) hK
  · refine eg_k_aload rfl rfl ?_
    refine eg_k_aload rfl rfl ?_
    refine eg_k_gfa rfl rfl rfl eh_r45_5 ?_
    refine eg_k_iload rfl rfl ?_
    obtain ⟨b4, hx⟩ := vb_if hx
    refine eg_k_iald (k := 9200) rfl rfl b4.1 b4.2 ?_
    obtain ⟨m7, h5, hx⟩ := vb_bind hx
    refine eg_k_call (c1 := 0) (z1 := 0) (as := [.inr (.inr (some 45)), .inl (s2 47 (s1).toNat)]) (rest := []) rfl eg_tj240 (Nat.le_of_ble_eq_true rfl) rfl rfl rfl (Nat.le_of_ble_eq_true rfl) (Nat.le_refl _) (Nat.le_refl _) ?_ (fun Q hQ => ft_240 h5 hQ)
    refine eg_k_iinc (lv' := [some (.inr (.inr (some 45))), some (.inl x1), some (.inl (eg_wi (s1 + 1)))]) rfl rfl rfl ?_
    refine eg_k_goto rfl ?_
    have hx := Option.some.inj hx
    subst hx
    exact hK
set_option maxRecDepth 100000 in
theorem ft_244 {cn mo : Nat} {sc : eg_Sc} {d : Nat} {M : eM} {Q : Option eg_V → eg_H → Prop} {a : Int} {x : eM} (hx : fn_244 a M = some x) (hK : Q (none) (em_L cn mo, eh_R, x)) : eg_wp sc (d + 2) 244 [.inr (.inr (some 45)), .inl a] (em_L cn mo, eh_R, M) 0 0 Q := by
  refine eg_in (lv := [some (.inr (.inr (some 45))), some (.inl a), none]) eg_tj244 (Nat.le_of_ble_eq_true rfl) rfl ?_
  refine eg_k_aload rfl rfl ?_
  refine eg_k_gfa rfl rfl rfl eh_r45_6 ?_
  refine eg_k_iload rfl rfl ?_
  obtain ⟨b1, hx⟩ := vb_if hx
  refine eg_k_iald (k := 460) rfl rfl b1.1 b1.2 ?_
  refine eg_k_istore (lv' := [some (.inr (.inr (some 45))), some (.inl a), some (.inl (M 48 (a).toNat))]) rfl rfl ?_
  have hz := ft_244_5 (d := d) (sc := sc) hx hK
  exact hz
theorem fw_244_5 {c j : Nat} {v : Int} {x1 : Int} {s : Int × eM} {x : eM} (hc : c ∉ ([45, 86] : List Nat)) (hx : lp (fun z => fn_244_5 x1 z.1 z.2) s = some x) (hK : (fun (x : eM) => x c j = v) x) : s.2 c j = v := by
  refine lp_sound (P := (fun (s : Int × eM) => s.2 c j = v)) (K := (fun (x : eM) => x c j = v)) hx hK ?_
  intro s x hx hK
  obtain ⟨s1, s2⟩ := s
  obtain ⟨_, hx⟩ := vb_if hx
  refine vb_ite hx (fun _ hx => ?_) (fun _ hx => ?_)
  · have hx := Option.some.inj hx
    subst hx
    exact (Eq.refl _).symm.trans hK
  · obtain ⟨_, hx⟩ := vb_if hx
    obtain ⟨m7, h5, hx⟩ := vb_bind hx
    have hx := Option.some.inj hx
    subst hx
    exact ((fw_240 h5 (vsub hc (by decide)) j).trans rfl).symm.trans hK
theorem fw_244 {M : eM} {c : Nat} {a : Int} {x : eM} (hx : fn_244 a M = some x) (hc : c ∉ ([45, 86] : List Nat)) (j : Nat) : x c j = M c j := by
  obtain ⟨v, hK⟩ : ∃ v, x c j = v := ⟨_, rfl⟩
  rw [hK]
  refine Eq.symm ?_
  obtain ⟨_, hx⟩ := vb_if hx
  have hz := fw_244_5 hc hx hK
  exact (Eq.refl _).symm.trans hz
noncomputable def fn_245_8 (x1 : Int) (s1 : Int) (s2 : eM) : Option ((Int × eM) ⊕ (eM)) :=
  if s1 < 0 then
    (fn_240 62 s2).bind fun m10 =>
    some (.inr m10)
  else
    if (eg_wi (eb_land (eb_lshr x1 (eg_wi (5 * s1))) 31)) ≤ 0 then
      some (.inl (eg_wi (s1 + (-1)), s2))
    else
      (fn_240 (eg_wi (96 + (eg_wi (eb_land (eb_lshr x1 (eg_wi (5 * s1))) 31)))) s2).bind fun m14 =>
      some (.inl (eg_wi (s1 + (-1)), m14))
/-- 245: WeakSchemeModel.writeSort(J)V -/
noncomputable def fn_245 (a : Int) (M : eM) : Option (eM) :=
  (fn_240 35 M).bind fun m3 =>
  (fn_240 60 m3).bind fun m6 =>
  lp (fun z => fn_245_8 a z.1 z.2) (11, m6)
set_option maxRecDepth 100000 in
theorem ft_245_8 {cn mo : Nat} {sc : eg_Sc} {d : Nat} {Q : Option eg_V → eg_H → Prop} {x1 : Int} {s : Int × eM} {x : eM} (hx : lp (fun z => fn_245_8 x1 z.1 z.2) s = some x) (hK : (fun (x : eM) => Q (none) (em_L cn mo, eh_R, x)) x) : ∀ (w4 : Option eg_V), eg_X sc (eg_wp sc (d + 1)) eg_p245 none 0 0 Q 8 [some (.inr (.inr (some 45))), some (.inr (.inl x1)), none, some (.inl s.1), w4] [] (em_L cn mo, eh_R, s.2) 0 0 := by
  refine lp_sound (P := (fun (s : Int × eM) => ∀ (w4 : Option eg_V), eg_X sc (eg_wp sc (d + 1)) eg_p245 none 0 0 Q 8 [some (.inr (.inr (some 45))), some (.inr (.inl x1)), none, some (.inl s.1), w4] [] (em_L cn mo, eh_R, s.2) 0 0)) (K := (fun (x : eM) => Q (none) (em_L cn mo, eh_R, x))) hx hK ?_
  intro s x hx hK w4
  obtain ⟨s1, s2⟩ := s
  refine eg_k_iload rfl rfl ?_
  refine vk_if rfl hx Iff.rfl (fun c7 hx => ?_) (fun c7 hx => ?_)
  · refine eg_k_aload rfl rfl ?_
    refine eg_k_ci rfl ?_
    obtain ⟨m10, h8, hx⟩ := vb_bind hx
    refine eg_k_call (c1 := 0) (z1 := 0) (as := [.inr (.inr (some 45)), .inl 62]) (rest := []) rfl eg_tj240 (Nat.le_of_ble_eq_true rfl) rfl rfl rfl (Nat.le_of_ble_eq_true rfl) (Nat.le_refl _) (Nat.le_refl _) ?_ (fun Q hQ => ft_240 h8 hQ)
    have hx := Option.some.inj hx
    subst hx
    exact eg_k_ret rfl rfl (Nat.le_refl _) (Nat.le_refl _) hK
  · refine eg_k_lload rfl rfl ?_
    refine eg_k_ci rfl ?_
    refine eg_k_iload rfl rfl ?_
    refine eg_k_imul rfl ?_
    refine eg_k_lshr rfl ?_
    refine eg_k_cl rfl ?_
    refine eg_k_land rfl ?_
    refine eg_k_l2i rfl ?_
    refine eg_k_istore (lv' := [some (.inr (.inr (some 45))), some (.inr (.inl x1)), none, some (.inl s1), some (.inl (eg_wi (eb_land (eb_lshr x1 (eg_wi (5 * s1))) 31)))]) rfl rfl ?_
    refine eg_k_iload rfl rfl ?_
    refine vk_if rfl hx Iff.rfl (fun c11 hx => ?_) (fun c11 hx => ?_)
    · refine eg_k_iinc (lv' := [some (.inr (.inr (some 45))), some (.inr (.inl x1)), none, some (.inl (eg_wi (s1 + (-1)))), some (.inl (eg_wi (eb_land (eb_lshr x1 (eg_wi (5 * s1))) 31)))]) rfl rfl rfl ?_
      refine eg_k_goto rfl ?_
      have hx := Option.some.inj hx
      subst hx
      exact hK (some (.inl (eg_wi (eb_land (eb_lshr x1 (eg_wi (5 * s1))) 31))))
    · refine eg_k_aload rfl rfl ?_
      refine eg_k_ci rfl ?_
      refine eg_k_iload rfl rfl ?_
      refine eg_k_iadd rfl ?_
      obtain ⟨m14, h12, hx⟩ := vb_bind hx
      refine eg_k_call (c1 := 0) (z1 := 0) (as := [.inr (.inr (some 45)), .inl (eg_wi (96 + (eg_wi (eb_land (eb_lshr x1 (eg_wi (5 * s1))) 31))))]) (rest := []) rfl eg_tj240 (Nat.le_of_ble_eq_true rfl) rfl rfl rfl (Nat.le_of_ble_eq_true rfl) (Nat.le_refl _) (Nat.le_refl _) ?_ (fun Q hQ => ft_240 h12 hQ)
      refine eg_k_iinc (lv' := [some (.inr (.inr (some 45))), some (.inr (.inl x1)), none, some (.inl (eg_wi (s1 + (-1)))), some (.inl (eg_wi (eb_land (eb_lshr x1 (eg_wi (5 * s1))) 31)))]) rfl rfl rfl ?_
      refine eg_k_goto rfl ?_
      have hx := Option.some.inj hx
      subst hx
      exact hK (some (.inl (eg_wi (eb_land (eb_lshr x1 (eg_wi (5 * s1))) 31))))
set_option maxRecDepth 100000 in
theorem ft_245 {cn mo : Nat} {sc : eg_Sc} {d : Nat} {M : eM} {Q : Option eg_V → eg_H → Prop} {a : Int} {x : eM} (hx : fn_245 a M = some x) (hK : Q (none) (em_L cn mo, eh_R, x)) : eg_wp sc (d + 2) 245 [.inr (.inr (some 45)), .inr (.inl a)] (em_L cn mo, eh_R, M) 0 0 Q := by
  refine eg_in (lv := [some (.inr (.inr (some 45))), some (.inr (.inl a)), none, none, none]) eg_tj245 (Nat.le_of_ble_eq_true rfl) rfl ?_
  refine eg_k_aload rfl rfl ?_
  refine eg_k_ci rfl ?_
  obtain ⟨m3, h1, hx⟩ := vb_bind hx
  refine eg_k_call (c1 := 0) (z1 := 0) (as := [.inr (.inr (some 45)), .inl 35]) (rest := []) rfl eg_tj240 (Nat.le_of_ble_eq_true rfl) rfl rfl rfl (Nat.le_of_ble_eq_true rfl) (Nat.le_refl _) (Nat.le_refl _) ?_ (fun Q hQ => ft_240 h1 hQ)
  refine eg_k_aload rfl rfl ?_
  refine eg_k_ci rfl ?_
  obtain ⟨m6, h4, hx⟩ := vb_bind hx
  refine eg_k_call (c1 := 0) (z1 := 0) (as := [.inr (.inr (some 45)), .inl 60]) (rest := []) rfl eg_tj240 (Nat.le_of_ble_eq_true rfl) rfl rfl rfl (Nat.le_of_ble_eq_true rfl) (Nat.le_refl _) (Nat.le_refl _) ?_ (fun Q hQ => ft_240 h4 hQ)
  refine eg_k_ci rfl ?_
  refine eg_k_istore (lv' := [some (.inr (.inr (some 45))), some (.inr (.inl a)), none, some (.inl 11), none]) rfl rfl ?_
  have hz := ft_245_8 (d := d) (sc := sc) hx hK
  exact hz none
theorem fw_245_8 {c j : Nat} {v : Int} {x1 : Int} {s : Int × eM} {x : eM} (hc : c ∉ ([45, 86] : List Nat)) (hx : lp (fun z => fn_245_8 x1 z.1 z.2) s = some x) (hK : (fun (x : eM) => x c j = v) x) : s.2 c j = v := by
  refine lp_sound (P := (fun (s : Int × eM) => s.2 c j = v)) (K := (fun (x : eM) => x c j = v)) hx hK ?_
  intro s x hx hK
  obtain ⟨s1, s2⟩ := s
  refine vb_ite hx (fun _ hx => ?_) (fun _ hx => ?_)
  · obtain ⟨m10, h8, hx⟩ := vb_bind hx
    have hx := Option.some.inj hx
    subst hx
    exact ((fw_240 h8 (vsub hc (by decide)) j).trans rfl).symm.trans hK
  · refine vb_ite hx (fun _ hx => ?_) (fun _ hx => ?_)
    · have hx := Option.some.inj hx
      subst hx
      exact (Eq.refl _).symm.trans hK
    · obtain ⟨m14, h12, hx⟩ := vb_bind hx
      have hx := Option.some.inj hx
      subst hx
      exact ((fw_240 h12 (vsub hc (by decide)) j).trans rfl).symm.trans hK
theorem fw_245 {M : eM} {c : Nat} {a : Int} {x : eM} (hx : fn_245 a M = some x) (hc : c ∉ ([45, 86] : List Nat)) (j : Nat) : x c j = M c j := by
  obtain ⟨v, hK⟩ : ∃ v, x c j = v := ⟨_, rfl⟩
  rw [hK]
  refine Eq.symm ?_
  obtain ⟨m3, h1, hx⟩ := vb_bind hx
  obtain ⟨m6, h4, hx⟩ := vb_bind hx
  have hz := fw_245_8 hc hx hK
  exact ((fw_240 h4 (vsub hc (by decide)) j).trans ((fw_240 h1 (vsub hc (by decide)) j).trans rfl)).symm.trans hz
/-- 242: WeakSchemeModel.writeAtom(J)V -/
noncomputable def fn_242 (a : Int) (M : eM) : Option (eM) :=
  if (eg_wi (eb_lshr a 32)) = 0 then
    (fn_243 (eg_wi a) M).bind fun m3 =>
    some m3
  else if (eg_wi (eb_lshr a 32)) = 1 then
    (fn_240 35 M).bind fun m6 =>
    if ¬ a = 4294967296 then
      (fn_240 102 m6).bind fun m10 =>
      some m10
    else
      (fn_240 116 m6).bind fun m13 =>
      some m13
  else if (eg_wi (eb_lshr a 32)) = 2 then
    (fn_240 35 M).bind fun m16 =>
    if ¬ a = 4294967296 then
      (fn_240 102 m16).bind fun m20 =>
      some m20
    else
      (fn_240 116 m16).bind fun m23 =>
      some m23
  else if (eg_wi (eb_lshr a 32)) = 3 then
    (fn_240 40 M).bind fun m26 =>
    (fn_240 41 m26).bind fun m29 =>
    some m29
  else if (eg_wi (eb_lshr a 32)) = 4 then
    (fn_244 (eg_wi a) M).bind fun m32 =>
    some m32
  else if (eg_wi (eb_lshr a 32)) = 5 then
    (fn_245 18226873521733 M).bind fun m35 =>
    some m35
  else 
    (fn_187 a M).bind fun r37 =>
    if 0 ≤ r37 ∧ r37 < 6700 then
    if ¬ (M 62 (r37).toNat) = 1 then
        if ¬ (M 62 (r37).toNat) = 2 then
          if ¬ (M 62 (r37).toNat) = 4 then
            if ¬ (M 62 (r37).toNat) = 5 then
              (fn_245 21006725 M).bind fun m46 =>
              some m46
            else
              (fn_245 6056085473774 M).bind fun m49 =>
              some m49
          else
            (fn_245 758827 M).bind fun m52 =>
            some m52
        else
          (fn_245 18226873521733 M).bind fun m55 =>
          some m55
      else
        (fn_245 743559666 M).bind fun m58 =>
        some m58
    else none
set_option maxRecDepth 100000 in
theorem ft_242 {cn mo : Nat} {sc : eg_Sc} {d : Nat} {M : eM} {Q : Option eg_V → eg_H → Prop} {a : Int} {x : eM} (hx : fn_242 a M = some x) (hK : Q (none) (em_L cn mo, eh_R, x)) : eg_wp sc (d + 3) 242 [.inr (.inr (some 45)), .inr (.inl a)] (em_L cn mo, eh_R, M) 0 0 Q := by
  refine eg_in (lv := [some (.inr (.inr (some 45))), some (.inr (.inl a)), none, none]) eg_tj242 (Nat.le_of_ble_eq_true rfl) rfl ?_
  refine eg_k_lload rfl rfl ?_
  refine eg_k_ci rfl ?_
  refine eg_k_lshr rfl ?_
  refine eg_k_l2i rfl ?_
  refine vb_ite hx (fun e9 hx => ?_) (fun e9 hx => ?_)
  · refine eg_k_tsw (x := eg_wi (eb_lshr a 32)) (t := 5) rfl (by rw [e9]; rfl) ?_
    refine eg_k_aload rfl rfl ?_
    refine eg_k_lload rfl rfl ?_
    refine eg_k_l2i rfl ?_
    obtain ⟨m3, h1, hx⟩ := vb_bind hx
    refine eg_k_call (c1 := 0) (z1 := 0) (as := [.inr (.inr (some 45)), .inl (eg_wi a)]) (rest := []) rfl eg_tj243 (Nat.le_of_ble_eq_true rfl) rfl rfl rfl (Nat.le_of_ble_eq_true rfl) (Nat.le_refl _) (Nat.le_refl _) ?_ (fun Q hQ => ft_243 h1 hQ)
    have hx := Option.some.inj hx
    subst hx
    exact eg_k_ret rfl rfl (Nat.le_refl _) (Nat.le_refl _) hK
  have e0_ := e9
  refine vb_ite hx (fun e9 hx => ?_) (fun e9 hx => ?_)
  · refine eg_k_tsw (x := eg_wi (eb_lshr a 32)) (t := 10) rfl (by rw [e9]; rfl) ?_
    refine eg_k_aload rfl rfl ?_
    refine eg_k_ci rfl ?_
    obtain ⟨m6, h4, hx⟩ := vb_bind hx
    refine eg_k_call (c1 := 0) (z1 := 0) (as := [.inr (.inr (some 45)), .inl 35]) (rest := []) rfl eg_tj240 (Nat.le_of_ble_eq_true rfl) rfl rfl rfl (Nat.le_of_ble_eq_true rfl) (Nat.le_refl _) (Nat.le_refl _) ?_ (fun Q hQ => ft_240 h4 hQ)
    refine eg_k_aload rfl rfl ?_
    refine eg_k_lload rfl rfl ?_
    refine eg_k_cl rfl ?_
    refine vk_lcmp rfl rfl hx Iff.rfl (fun c7 hx => ?_) (fun c7 hx => ?_)
    · refine eg_k_ci rfl ?_
      obtain ⟨m10, h8, hx⟩ := vb_bind hx
      refine eg_k_call (c1 := 0) (z1 := 0) (as := [.inr (.inr (some 45)), .inl 102]) (rest := []) rfl eg_tj240 (Nat.le_of_ble_eq_true rfl) rfl rfl rfl (Nat.le_of_ble_eq_true rfl) (Nat.le_refl _) (Nat.le_refl _) ?_ (fun Q hQ => ft_240 h8 hQ)
      have hx := Option.some.inj hx
      subst hx
      exact eg_k_ret rfl rfl (Nat.le_refl _) (Nat.le_refl _) hK
    · refine eg_k_ci rfl ?_
      refine eg_k_goto rfl ?_
      obtain ⟨m13, h11, hx⟩ := vb_bind hx
      refine eg_k_call (c1 := 0) (z1 := 0) (as := [.inr (.inr (some 45)), .inl 116]) (rest := []) rfl eg_tj240 (Nat.le_of_ble_eq_true rfl) rfl rfl rfl (Nat.le_of_ble_eq_true rfl) (Nat.le_refl _) (Nat.le_refl _) ?_ (fun Q hQ => ft_240 h11 hQ)
      have hx := Option.some.inj hx
      subst hx
      exact eg_k_ret rfl rfl (Nat.le_refl _) (Nat.le_refl _) hK
  have e1_ := e9
  refine vb_ite hx (fun e9 hx => ?_) (fun e9 hx => ?_)
  · refine eg_k_tsw (x := eg_wi (eb_lshr a 32)) (t := 10) rfl (by rw [e9]; rfl) ?_
    refine eg_k_aload rfl rfl ?_
    refine eg_k_ci rfl ?_
    obtain ⟨m16, h14, hx⟩ := vb_bind hx
    refine eg_k_call (c1 := 0) (z1 := 0) (as := [.inr (.inr (some 45)), .inl 35]) (rest := []) rfl eg_tj240 (Nat.le_of_ble_eq_true rfl) rfl rfl rfl (Nat.le_of_ble_eq_true rfl) (Nat.le_refl _) (Nat.le_refl _) ?_ (fun Q hQ => ft_240 h14 hQ)
    refine eg_k_aload rfl rfl ?_
    refine eg_k_lload rfl rfl ?_
    refine eg_k_cl rfl ?_
    refine vk_lcmp rfl rfl hx Iff.rfl (fun c17 hx => ?_) (fun c17 hx => ?_)
    · refine eg_k_ci rfl ?_
      obtain ⟨m20, h18, hx⟩ := vb_bind hx
      refine eg_k_call (c1 := 0) (z1 := 0) (as := [.inr (.inr (some 45)), .inl 102]) (rest := []) rfl eg_tj240 (Nat.le_of_ble_eq_true rfl) rfl rfl rfl (Nat.le_of_ble_eq_true rfl) (Nat.le_refl _) (Nat.le_refl _) ?_ (fun Q hQ => ft_240 h18 hQ)
      have hx := Option.some.inj hx
      subst hx
      exact eg_k_ret rfl rfl (Nat.le_refl _) (Nat.le_refl _) hK
    · refine eg_k_ci rfl ?_
      refine eg_k_goto rfl ?_
      obtain ⟨m23, h21, hx⟩ := vb_bind hx
      refine eg_k_call (c1 := 0) (z1 := 0) (as := [.inr (.inr (some 45)), .inl 116]) (rest := []) rfl eg_tj240 (Nat.le_of_ble_eq_true rfl) rfl rfl rfl (Nat.le_of_ble_eq_true rfl) (Nat.le_refl _) (Nat.le_refl _) ?_ (fun Q hQ => ft_240 h21 hQ)
      have hx := Option.some.inj hx
      subst hx
      exact eg_k_ret rfl rfl (Nat.le_refl _) (Nat.le_refl _) hK
  have e2_ := e9
  refine vb_ite hx (fun e9 hx => ?_) (fun e9 hx => ?_)
  · refine eg_k_tsw (x := eg_wi (eb_lshr a 32)) (t := 23) rfl (by rw [e9]; rfl) ?_
    refine eg_k_aload rfl rfl ?_
    refine eg_k_ci rfl ?_
    obtain ⟨m26, h24, hx⟩ := vb_bind hx
    refine eg_k_call (c1 := 0) (z1 := 0) (as := [.inr (.inr (some 45)), .inl 40]) (rest := []) rfl eg_tj240 (Nat.le_of_ble_eq_true rfl) rfl rfl rfl (Nat.le_of_ble_eq_true rfl) (Nat.le_refl _) (Nat.le_refl _) ?_ (fun Q hQ => ft_240 h24 hQ)
    refine eg_k_aload rfl rfl ?_
    refine eg_k_ci rfl ?_
    obtain ⟨m29, h27, hx⟩ := vb_bind hx
    refine eg_k_call (c1 := 0) (z1 := 0) (as := [.inr (.inr (some 45)), .inl 41]) (rest := []) rfl eg_tj240 (Nat.le_of_ble_eq_true rfl) rfl rfl rfl (Nat.le_of_ble_eq_true rfl) (Nat.le_refl _) (Nat.le_refl _) ?_ (fun Q hQ => ft_240 h27 hQ)
    have hx := Option.some.inj hx
    subst hx
    exact eg_k_ret rfl rfl (Nat.le_refl _) (Nat.le_refl _) hK
  have e3_ := e9
  refine vb_ite hx (fun e9 hx => ?_) (fun e9 hx => ?_)
  · refine eg_k_tsw (x := eg_wi (eb_lshr a 32)) (t := 30) rfl (by rw [e9]; rfl) ?_
    refine eg_k_aload rfl rfl ?_
    refine eg_k_lload rfl rfl ?_
    refine eg_k_l2i rfl ?_
    obtain ⟨m32, h30, hx⟩ := vb_bind hx
    refine eg_k_call (c1 := 0) (z1 := 0) (as := [.inr (.inr (some 45)), .inl (eg_wi a)]) (rest := []) rfl eg_tj244 (Nat.le_of_ble_eq_true rfl) rfl rfl rfl (Nat.le_of_ble_eq_true rfl) (Nat.le_refl _) (Nat.le_refl _) ?_ (fun Q hQ => ft_244 h30 hQ)
    have hx := Option.some.inj hx
    subst hx
    exact eg_k_ret rfl rfl (Nat.le_refl _) (Nat.le_refl _) hK
  have e4_ := e9
  refine vb_ite hx (fun e9 hx => ?_) (fun e9 hx => ?_)
  · refine eg_k_tsw (x := eg_wi (eb_lshr a 32)) (t := 35) rfl (by rw [e9]; rfl) ?_
    refine eg_k_aload rfl rfl ?_
    refine eg_k_cl rfl ?_
    obtain ⟨m35, h33, hx⟩ := vb_bind hx
    refine eg_k_call (c1 := 0) (z1 := 0) (as := [.inr (.inr (some 45)), .inr (.inl 18226873521733)]) (rest := []) rfl eg_tj245 (Nat.le_of_ble_eq_true rfl) rfl rfl rfl (Nat.le_of_ble_eq_true rfl) (Nat.le_refl _) (Nat.le_refl _) ?_ (fun Q hQ => ft_245 h33 hQ)
    have hx := Option.some.inj hx
    subst hx
    exact eg_k_ret rfl rfl (Nat.le_refl _) (Nat.le_refl _) hK
  have e5_ := e9
  refine eg_k_tsw (x := eg_wi (eb_lshr a 32)) (t := 39) rfl (by unfold eg_tb; rw [if_pos (by omega)]; rfl) ?_
  refine eg_k_aload rfl rfl ?_
  refine eg_k_gfa rfl rfl rfl eh_r45_30 ?_
  refine eg_k_lload rfl rfl ?_
  obtain ⟨r37, h36, hx⟩ := vb_bind hx
  refine eg_k_call (c1 := 0) (z1 := 0) (as := [.inr (.inl a)]) (rest := [.inr (.inr (some 62))]) rfl eg_tj187 (Nat.le_of_ble_eq_true rfl) rfl rfl trivial (Nat.le_of_ble_eq_true rfl) (Nat.le_refl _) (Nat.le_refl _) ?_ (fun Q hQ => ft_187 h36 hQ)
  obtain ⟨b39, hx⟩ := vb_if hx
  refine eg_k_bald (k := 6700) rfl rfl b39.1 b39.2 ?_
  refine eg_k_istore (lv' := [some (.inr (.inr (some 45))), some (.inr (.inl a)), none, some (.inl (M 62 (r37).toNat))]) rfl rfl ?_
  refine eg_k_aload rfl rfl ?_
  refine eg_k_iload rfl rfl ?_
  refine eg_k_ci rfl ?_
  refine vk_icmp rfl hx Iff.rfl (fun c40 hx => ?_) (fun c40 hx => ?_)
  · refine eg_k_iload rfl rfl ?_
    refine eg_k_ci rfl ?_
    refine vk_icmp rfl hx Iff.rfl (fun c41 hx => ?_) (fun c41 hx => ?_)
    · refine eg_k_iload rfl rfl ?_
      refine eg_k_ci rfl ?_
      refine vk_icmp rfl hx Iff.rfl (fun c42 hx => ?_) (fun c42 hx => ?_)
      · refine eg_k_iload rfl rfl ?_
        refine eg_k_ci rfl ?_
        refine vk_icmp rfl hx Iff.rfl (fun c43 hx => ?_) (fun c43 hx => ?_)
        · refine eg_k_cl rfl ?_
          obtain ⟨m46, h44, hx⟩ := vb_bind hx
          refine eg_k_call (c1 := 0) (z1 := 0) (as := [.inr (.inr (some 45)), .inr (.inl 21006725)]) (rest := []) rfl eg_tj245 (Nat.le_of_ble_eq_true rfl) rfl rfl rfl (Nat.le_of_ble_eq_true rfl) (Nat.le_refl _) (Nat.le_refl _) ?_ (fun Q hQ => ft_245 h44 hQ)
          have hx := Option.some.inj hx
          subst hx
          exact eg_k_ret rfl rfl (Nat.le_refl _) (Nat.le_refl _) hK
        · refine eg_k_cl rfl ?_
          refine eg_k_goto rfl ?_
          obtain ⟨m49, h47, hx⟩ := vb_bind hx
          refine eg_k_call (c1 := 0) (z1 := 0) (as := [.inr (.inr (some 45)), .inr (.inl 6056085473774)]) (rest := []) rfl eg_tj245 (Nat.le_of_ble_eq_true rfl) rfl rfl rfl (Nat.le_of_ble_eq_true rfl) (Nat.le_refl _) (Nat.le_refl _) ?_ (fun Q hQ => ft_245 h47 hQ)
          have hx := Option.some.inj hx
          subst hx
          exact eg_k_ret rfl rfl (Nat.le_refl _) (Nat.le_refl _) hK
      · refine eg_k_cl rfl ?_
        refine eg_k_goto rfl ?_
        obtain ⟨m52, h50, hx⟩ := vb_bind hx
        refine eg_k_call (c1 := 0) (z1 := 0) (as := [.inr (.inr (some 45)), .inr (.inl 758827)]) (rest := []) rfl eg_tj245 (Nat.le_of_ble_eq_true rfl) rfl rfl rfl (Nat.le_of_ble_eq_true rfl) (Nat.le_refl _) (Nat.le_refl _) ?_ (fun Q hQ => ft_245 h50 hQ)
        have hx := Option.some.inj hx
        subst hx
        exact eg_k_ret rfl rfl (Nat.le_refl _) (Nat.le_refl _) hK
    · refine eg_k_cl rfl ?_
      refine eg_k_goto rfl ?_
      obtain ⟨m55, h53, hx⟩ := vb_bind hx
      refine eg_k_call (c1 := 0) (z1 := 0) (as := [.inr (.inr (some 45)), .inr (.inl 18226873521733)]) (rest := []) rfl eg_tj245 (Nat.le_of_ble_eq_true rfl) rfl rfl rfl (Nat.le_of_ble_eq_true rfl) (Nat.le_refl _) (Nat.le_refl _) ?_ (fun Q hQ => ft_245 h53 hQ)
      have hx := Option.some.inj hx
      subst hx
      exact eg_k_ret rfl rfl (Nat.le_refl _) (Nat.le_refl _) hK
  · refine eg_k_cl rfl ?_
    refine eg_k_goto rfl ?_
    obtain ⟨m58, h56, hx⟩ := vb_bind hx
    refine eg_k_call (c1 := 0) (z1 := 0) (as := [.inr (.inr (some 45)), .inr (.inl 743559666)]) (rest := []) rfl eg_tj245 (Nat.le_of_ble_eq_true rfl) rfl rfl rfl (Nat.le_of_ble_eq_true rfl) (Nat.le_refl _) (Nat.le_refl _) ?_ (fun Q hQ => ft_245 h56 hQ)
    have hx := Option.some.inj hx
    subst hx
    exact eg_k_ret rfl rfl (Nat.le_refl _) (Nat.le_refl _) hK
theorem fw_242 {M : eM} {c : Nat} {a : Int} {x : eM} (hx : fn_242 a M = some x) (hc : c ∉ ([45, 86] : List Nat)) (j : Nat) : x c j = M c j := by
  obtain ⟨v, hK⟩ : ∃ v, x c j = v := ⟨_, rfl⟩
  rw [hK]
  refine Eq.symm ?_
  refine vb_ite hx (fun _ hx => ?_) (fun _ hx => ?_)
  · obtain ⟨m3, h1, hx⟩ := vb_bind hx
    have hx := Option.some.inj hx
    subst hx
    exact ((fw_243 h1 (vsub hc (by decide)) j).trans rfl).symm.trans hK
  refine vb_ite hx (fun _ hx => ?_) (fun _ hx => ?_)
  · obtain ⟨m6, h4, hx⟩ := vb_bind hx
    refine vb_ite hx (fun _ hx => ?_) (fun _ hx => ?_)
    · obtain ⟨m10, h8, hx⟩ := vb_bind hx
      have hx := Option.some.inj hx
      subst hx
      exact ((fw_240 h8 (vsub hc (by decide)) j).trans ((fw_240 h4 (vsub hc (by decide)) j).trans rfl)).symm.trans hK
    · obtain ⟨m13, h11, hx⟩ := vb_bind hx
      have hx := Option.some.inj hx
      subst hx
      exact ((fw_240 h11 (vsub hc (by decide)) j).trans ((fw_240 h4 (vsub hc (by decide)) j).trans rfl)).symm.trans hK
  refine vb_ite hx (fun _ hx => ?_) (fun _ hx => ?_)
  · obtain ⟨m16, h14, hx⟩ := vb_bind hx
    refine vb_ite hx (fun _ hx => ?_) (fun _ hx => ?_)
    · obtain ⟨m20, h18, hx⟩ := vb_bind hx
      have hx := Option.some.inj hx
      subst hx
      exact ((fw_240 h18 (vsub hc (by decide)) j).trans ((fw_240 h14 (vsub hc (by decide)) j).trans rfl)).symm.trans hK
    · obtain ⟨m23, h21, hx⟩ := vb_bind hx
      have hx := Option.some.inj hx
      subst hx
      exact ((fw_240 h21 (vsub hc (by decide)) j).trans ((fw_240 h14 (vsub hc (by decide)) j).trans rfl)).symm.trans hK
  refine vb_ite hx (fun _ hx => ?_) (fun _ hx => ?_)
  · obtain ⟨m26, h24, hx⟩ := vb_bind hx
    obtain ⟨m29, h27, hx⟩ := vb_bind hx
    have hx := Option.some.inj hx
    subst hx
    exact ((fw_240 h27 (vsub hc (by decide)) j).trans ((fw_240 h24 (vsub hc (by decide)) j).trans rfl)).symm.trans hK
  refine vb_ite hx (fun _ hx => ?_) (fun _ hx => ?_)
  · obtain ⟨m32, h30, hx⟩ := vb_bind hx
    have hx := Option.some.inj hx
    subst hx
    exact ((fw_244 h30 (vsub hc (by decide)) j).trans rfl).symm.trans hK
  refine vb_ite hx (fun _ hx => ?_) (fun _ hx => ?_)
  · obtain ⟨m35, h33, hx⟩ := vb_bind hx
    have hx := Option.some.inj hx
    subst hx
    exact ((fw_245 h33 (vsub hc (by decide)) j).trans rfl).symm.trans hK
  obtain ⟨r37, h36, hx⟩ := vb_bind hx
  obtain ⟨_, hx⟩ := vb_if hx
  refine vb_ite hx (fun _ hx => ?_) (fun _ hx => ?_)
  · refine vb_ite hx (fun _ hx => ?_) (fun _ hx => ?_)
    · refine vb_ite hx (fun _ hx => ?_) (fun _ hx => ?_)
      · refine vb_ite hx (fun _ hx => ?_) (fun _ hx => ?_)
        · obtain ⟨m46, h44, hx⟩ := vb_bind hx
          have hx := Option.some.inj hx
          subst hx
          exact ((fw_245 h44 (vsub hc (by decide)) j).trans rfl).symm.trans hK
        · obtain ⟨m49, h47, hx⟩ := vb_bind hx
          have hx := Option.some.inj hx
          subst hx
          exact ((fw_245 h47 (vsub hc (by decide)) j).trans rfl).symm.trans hK
      · obtain ⟨m52, h50, hx⟩ := vb_bind hx
        have hx := Option.some.inj hx
        subst hx
        exact ((fw_245 h50 (vsub hc (by decide)) j).trans rfl).symm.trans hK
    · obtain ⟨m55, h53, hx⟩ := vb_bind hx
      have hx := Option.some.inj hx
      subst hx
      exact ((fw_245 h53 (vsub hc (by decide)) j).trans rfl).symm.trans hK
  · obtain ⟨m58, h56, hx⟩ := vb_bind hx
    have hx := Option.some.inj hx
    subst hx
    exact ((fw_245 h56 (vsub hc (by decide)) j).trans rfl).symm.trans hK
noncomputable def fn_239_26 (x1 : Int) (M : eM) : Option (Int × eM) :=
  if ¬ (M 45 73) = 40 then
    (fn_223 x1 0 (eg_u M 45 73 (eg_wi ((M 45 73) + 1)))).bind fun r7 =>
    if r7 = 0 then
      (fn_242 x1 (eg_u M 45 73 (eg_wi ((M 45 73) + 1)))).bind fun m12 =>
      some (1, m12)
    else
      (fn_241 (eg_u M 45 73 (eg_wi ((M 45 73) + 1)))).bind fun m15 =>
      some (1, m15)
  else
    (fn_241 M).bind fun m18 =>
    some (0, m18)
/-- 239: WeakSchemeModel.writePart(J)Z -/
noncomputable def fn_239 (a : Int) (M : eM) : Option (Int × eM) :=
  (fn_223 a 0 M).bind fun r2 =>
  if r2 = 0 then
    fn_239_26 a M
  else
    if 10 ≤ (M 45 74) then
      fn_239_26 a M
    else
      (fn_240 40 M).bind fun m22 =>
      if 0 ≤ (m22 45 74) ∧ (m22 45 74) < 10 then
      some (1, eg_u (eg_u m22 87 (m22 45 74).toNat a) 45 74 (eg_wi ((m22 45 74) + 1)))
      else none
set_option maxRecDepth 100000 in
theorem ft_239_26 {cn mo : Nat} {sc : eg_Sc} {d : Nat} {M : eM} {Q : Option eg_V → eg_H → Prop} {x1 : Int} {x : Int × eM} (hx : fn_239_26 x1 M = some x) (hK : (fun (x : Int × eM) => Q (some (.inl ((x).1))) (em_L cn mo, eh_R, (x).2)) x) : eg_X sc (eg_wp sc (d + 3)) eg_p239 (some .boolean) 0 0 Q 26 [some (.inr (.inr (some 45))), some (.inr (.inl x1)), none] [] (em_L cn mo, eh_R, M) 0 0 := by
  refine eg_k_aload rfl rfl ?_
  refine eg_k_gfi rfl rfl rfl ?_
  refine eg_k_ci rfl ?_
  refine vk_icmp rfl hx Iff.rfl (fun c5 hx => ?_) (fun c5 hx => ?_)
  · refine eg_k_aload rfl rfl ?_
    refine eg_k_aload rfl rfl ?_
    refine eg_k_gfi rfl rfl rfl ?_
    refine eg_k_ci rfl ?_
    refine eg_k_iadd rfl ?_
    refine eg_k_pfi rfl rfl rfl ?_
    refine eg_k_aload rfl rfl ?_
    refine eg_k_lload rfl rfl ?_
    refine eg_k_ci rfl ?_
    obtain ⟨r7, h6, hx⟩ := vb_bind hx
    refine eg_k_call (c1 := 0) (z1 := 0) (as := [.inr (.inr (some 45)), .inr (.inl x1), .inl 0]) (rest := []) rfl eg_tj223 (Nat.le_of_ble_eq_true rfl) rfl rfl rfl (Nat.le_of_ble_eq_true rfl) (Nat.le_refl _) (Nat.le_refl _) ?_ (fun Q hQ => ft_223 h6 hQ)
    refine vk_if rfl hx Iff.rfl (fun c9 hx => ?_) (fun c9 hx => ?_)
    · refine eg_k_aload rfl rfl ?_
      refine eg_k_lload rfl rfl ?_
      obtain ⟨m12, h10, hx⟩ := vb_bind hx
      refine eg_k_call (c1 := 0) (z1 := 0) (as := [.inr (.inr (some 45)), .inr (.inl x1)]) (rest := []) rfl eg_tj242 (Nat.le_of_ble_eq_true rfl) rfl rfl rfl (Nat.le_of_ble_eq_true rfl) (Nat.le_refl _) (Nat.le_refl _) ?_ (fun Q hQ => ft_242 h10 hQ)
      refine eg_k_ci rfl ?_
      have hx := Option.some.inj hx
      subst hx
      exact eg_k_iret rfl (Or.inr rfl) (Nat.le_refl _) (Nat.le_refl _) hK
    · refine eg_k_aload rfl rfl ?_
      obtain ⟨m15, h13, hx⟩ := vb_bind hx
      refine eg_k_call (c1 := 0) (z1 := 0) (as := [.inr (.inr (some 45))]) (rest := []) rfl eg_tj241 (Nat.le_of_ble_eq_true rfl) rfl rfl rfl (Nat.le_of_ble_eq_true rfl) (Nat.le_refl _) (Nat.le_refl _) ?_ (fun Q hQ => ft_241 h13 hQ)
      refine eg_k_goto rfl ?_
      refine eg_k_ci rfl ?_
      have hx := Option.some.inj hx
      subst hx
      exact eg_k_iret rfl (Or.inr rfl) (Nat.le_refl _) (Nat.le_refl _) hK
  · refine eg_k_aload rfl rfl ?_
    obtain ⟨m18, h16, hx⟩ := vb_bind hx
    refine eg_k_call (c1 := 0) (z1 := 0) (as := [.inr (.inr (some 45))]) (rest := []) rfl eg_tj241 (Nat.le_of_ble_eq_true rfl) rfl rfl rfl (Nat.le_of_ble_eq_true rfl) (Nat.le_refl _) (Nat.le_refl _) ?_ (fun Q hQ => ft_241 h16 hQ)
    refine eg_k_ci rfl ?_
    have hx := Option.some.inj hx
    subst hx
    exact eg_k_iret rfl (Or.inl rfl) (Nat.le_refl _) (Nat.le_refl _) hK
set_option maxRecDepth 100000 in
theorem ft_239 {cn mo : Nat} {sc : eg_Sc} {d : Nat} {M : eM} {Q : Option eg_V → eg_H → Prop} {a : Int} {x : Int × eM} (hx : fn_239 a M = some x) (hK : Q (some (.inl ((x).1))) (em_L cn mo, eh_R, (x).2)) : eg_wp sc (d + 4) 239 [.inr (.inr (some 45)), .inr (.inl a)] (em_L cn mo, eh_R, M) 0 0 Q := by
  refine eg_in (lv := [some (.inr (.inr (some 45))), some (.inr (.inl a)), none]) eg_tj239 (Nat.le_of_ble_eq_true rfl) rfl ?_
  refine eg_k_aload rfl rfl ?_
  refine eg_k_lload rfl rfl ?_
  refine eg_k_ci rfl ?_
  obtain ⟨r2, h1, hx⟩ := vb_bind hx
  refine eg_k_call (c1 := 0) (z1 := 0) (as := [.inr (.inr (some 45)), .inr (.inl a), .inl 0]) (rest := []) rfl eg_tj223 (Nat.le_of_ble_eq_true rfl) rfl rfl rfl (Nat.le_of_ble_eq_true rfl) (Nat.le_refl _) (Nat.le_refl _) ?_ (fun Q hQ => ft_223 h1 hQ)
  refine vk_if rfl hx Iff.rfl (fun c4 hx => ?_) (fun c4 hx => ?_)
  · have hz := ft_239_26 (d := d) (sc := sc) hx hK
    exact hz
  · refine eg_k_aload rfl rfl ?_
    refine eg_k_gfi rfl rfl rfl ?_
    refine eg_k_ci rfl ?_
    refine vk_icmp rfl hx Iff.rfl (fun c19 hx => ?_) (fun c19 hx => ?_)
    · have hz := ft_239_26 (d := d) (sc := sc) hx hK
      exact hz
    · refine eg_k_aload rfl rfl ?_
      refine eg_k_ci rfl ?_
      obtain ⟨m22, h20, hx⟩ := vb_bind hx
      refine eg_k_call (c1 := 0) (z1 := 0) (as := [.inr (.inr (some 45)), .inl 40]) (rest := []) rfl eg_tj240 (Nat.le_of_ble_eq_true rfl) rfl rfl rfl (Nat.le_of_ble_eq_true rfl) (Nat.le_refl _) (Nat.le_refl _) ?_ (fun Q hQ => ft_240 h20 hQ)
      refine eg_k_aload rfl rfl ?_
      refine eg_k_gfa rfl rfl rfl eh_r45_75 ?_
      refine eg_k_aload rfl rfl ?_
      refine eg_k_gfi rfl rfl rfl ?_
      refine eg_k_lload rfl rfl ?_
      obtain ⟨b23, hx⟩ := vb_if hx
      refine eg_k_last (k := 10) rfl rfl b23.1 b23.2 ?_
      refine eg_k_aload rfl rfl ?_
      refine eg_k_aload rfl rfl ?_
      refine eg_k_gfie (x := m22 45 74) rfl rfl rfl rfl ?_
      refine eg_k_ci rfl ?_
      refine eg_k_iadd rfl ?_
      refine eg_k_pfi rfl rfl rfl ?_
      refine eg_k_ci rfl ?_
      have hx := Option.some.inj hx
      subst hx
      exact eg_k_iret rfl (Or.inr rfl) (Nat.le_refl _) (Nat.le_refl _) hK
theorem fw_239_26 {M : eM} {c j : Nat} {v : Int} {x1 : Int} {x : Int × eM} (hc : c ∉ ([45, 86, 87] : List Nat)) (hx : fn_239_26 x1 M = some x) (hK : (fun (x : Int × eM) => ((x).2) c j = v) x) : M c j = v := by
  refine vb_ite hx (fun _ hx => ?_) (fun _ hx => ?_)
  · obtain ⟨r7, h6, hx⟩ := vb_bind hx
    refine vb_ite hx (fun _ hx => ?_) (fun _ hx => ?_)
    · obtain ⟨m12, h10, hx⟩ := vb_bind hx
      have hx := Option.some.inj hx
      subst hx
      exact ((fw_242 h10 (vsub hc (by decide)) j).trans ((congrFun (eg_u_ne (vne hc (a := 45) (by decide))) j).trans rfl)).symm.trans hK
    · obtain ⟨m15, h13, hx⟩ := vb_bind hx
      have hx := Option.some.inj hx
      subst hx
      exact ((fw_241 h13 (vsub hc (by decide)) j).trans ((congrFun (eg_u_ne (vne hc (a := 45) (by decide))) j).trans rfl)).symm.trans hK
  · obtain ⟨m18, h16, hx⟩ := vb_bind hx
    have hx := Option.some.inj hx
    subst hx
    exact ((fw_241 h16 (vsub hc (by decide)) j).trans rfl).symm.trans hK
theorem fw_239 {M : eM} {c : Nat} {a : Int} {x : Int × eM} (hx : fn_239 a M = some x) (hc : c ∉ ([45, 86, 87] : List Nat)) (j : Nat) : ((x).2) c j = M c j := by
  obtain ⟨v, hK⟩ : ∃ v, ((x).2) c j = v := ⟨_, rfl⟩
  rw [hK]
  refine Eq.symm ?_
  obtain ⟨r2, h1, hx⟩ := vb_bind hx
  refine vb_ite hx (fun _ hx => ?_) (fun _ hx => ?_)
  · have hz := fw_239_26 hc hx hK
    exact (Eq.refl _).symm.trans hz
  · refine vb_ite hx (fun _ hx => ?_) (fun _ hx => ?_)
    · have hz := fw_239_26 hc hx hK
      exact (Eq.refl _).symm.trans hz
    · obtain ⟨m22, h20, hx⟩ := vb_bind hx
      obtain ⟨_, hx⟩ := vb_if hx
      have hx := Option.some.inj hx
      subst hx
      exact ((congrFun (eg_u_ne (vne hc (a := 45) (by decide))) j).trans ((congrFun (eg_u_ne (vne hc (a := 87) (by decide))) j).trans ((fw_240 h20 (vsub hc (by decide)) j).trans rfl))).symm.trans hK
noncomputable def fn_238_111 (x1 : Int) (x3 : Int) (x4 : Int) (s1 : Int) (s2 : eM) : Option ((Int × eM) ⊕ (eM)) :=
  if (s2 45 74) ≤ s1 then
    (fn_240 10 s2).bind fun m12 =>
    some (.inr m12)
  else
    (fn_240 41 s2).bind fun m15 =>
    some (.inl (eg_wi (s1 + 1), m15))
noncomputable def fn_238_22 (x1 : Int) (s1 : Int) (s2 : Int) (s3 : eM) : Option ((Int × Int × eM) ⊕ (eM)) :=
  if s1 = 0 then
    (lp (fun z => fn_238_111 x1 s1 s2 z.1 z.2) (0, s3)).map Sum.inr
  else
    if (s3 45 74) ≤ 0 then
      (lp (fun z => fn_238_111 x1 s1 s2 z.1 z.2) (0, s3)).map Sum.inr
    else
      if 0 ≤ (eg_wi ((s3 45 74) - 1)) ∧ (eg_wi ((s3 45 74) - 1)) < 10 then
      if ¬ s2 = 0 then
          (fn_189 (s3 87 (eg_wi ((s3 45 74) - 1)).toNat) 1 s3).bind fun r20 =>
          (fn_223 r20 0 s3).bind fun r23 =>
          if r23 = 0 then
            if r20 = 12884901888 then
              (fn_240 41 s3).bind fun m29 =>
              some (.inl (s1, s2, eg_u m29 45 74 (eg_wi ((m29 45 74) - 1))))
            else
              (fn_240 32 s3).bind fun m32 =>
              (fn_240 46 m32).bind fun m35 =>
              (fn_240 32 m35).bind fun m38 =>
              (fn_239 r20 m38).bind fun r40 =>
              if r40.1 = 0 then
                some (.inl (r40.1, s2, r40.2))
              else
                (fn_240 41 r40.2).bind fun m45 =>
                some (.inl (r40.1, s2, eg_u m45 45 74 (eg_wi ((m45 45 74) - 1))))
          else
            (fn_240 32 s3).bind fun m48 =>
            if 0 ≤ (eg_wi ((m48 45 74) - 1)) ∧ (eg_wi ((m48 45 74) - 1)) < 10 then
            some (.inl (s1, 0, eg_u m48 87 (eg_wi ((m48 45 74) - 1)).toNat r20))
            else none
        else
          (fn_189 (s3 87 (eg_wi ((s3 45 74) - 1)).toNat) 0 s3).bind fun r51 =>
          (fn_239 r51 s3).bind fun r54 =>
          if ¬ (r54.2 45 74) = (s3 45 74) then
            some (.inl (r54.1, 0, r54.2))
          else
            some (.inl (r54.1, 1, r54.2))
      else none
/-- 238: WeakSchemeModel.print(J)V -/
noncomputable def fn_238 (a : Int) (M : eM) : Option (eM) :=
  (fn_239 a (eg_u (eg_u M 45 73 0) 45 74 0)).bind fun r2 =>
  (fn_223 a 0 r2.2).bind fun r5 =>
  if r5 = 0 then
    lp (fun z => fn_238_22 a z.1 z.2.1 z.2.2) (r2.1, 0, r2.2)
  else
    if ¬ (r2.2 45 74) = 0 then
      lp (fun z => fn_238_22 a z.1 z.2.1 z.2.2) (r2.1, 0, r2.2)
    else
      lp (fun z => fn_238_22 a z.1 z.2.1 z.2.2) (r2.1, 1, r2.2)
set_option maxRecDepth 100000 in
theorem ft_238_111 {cn mo : Nat} {sc : eg_Sc} {d : Nat} {Q : Option eg_V → eg_H → Prop} {x1 : Int} {x3 : Int} {x4 : Int} {s : Int × eM} {x : eM} (hx : lp (fun z => fn_238_111 x1 x3 x4 z.1 z.2) s = some x) (hK : (fun (x : eM) => Q (none) (em_L cn mo, eh_R, x)) x) : ∀ (w6 w7 w8 w9 : Option eg_V), eg_X sc (eg_wp sc (d + 4)) eg_p238 none 0 0 Q 111 [some (.inr (.inr (some 45))), some (.inr (.inl x1)), none, some (.inl x3), some (.inl x4), some (.inl s.1), w6, w7, w8, w9] [] (em_L cn mo, eh_R, s.2) 0 0 := by
  refine lp_sound (P := (fun (s : Int × eM) => ∀ (w6 w7 w8 w9 : Option eg_V), eg_X sc (eg_wp sc (d + 4)) eg_p238 none 0 0 Q 111 [some (.inr (.inr (some 45))), some (.inr (.inl x1)), none, some (.inl x3), some (.inl x4), some (.inl s.1), w6, w7, w8, w9] [] (em_L cn mo, eh_R, s.2) 0 0)) (K := (fun (x : eM) => Q (none) (em_L cn mo, eh_R, x))) hx hK ?_
  intro s x hx hK w6 w7 w8 w9
  obtain ⟨s1, s2⟩ := s
  refine eg_k_iload rfl rfl ?_
  refine eg_k_aload rfl rfl ?_
  refine eg_k_gfi rfl rfl rfl ?_
  refine vk_icmp rfl hx Iff.rfl (fun c9 hx => ?_) (fun c9 hx => ?_)
  · refine eg_k_aload rfl rfl ?_
    refine eg_k_ci rfl ?_
    obtain ⟨m12, h10, hx⟩ := vb_bind hx
    refine eg_k_call (c1 := 0) (z1 := 0) (as := [.inr (.inr (some 45)), .inl 10]) (rest := []) rfl eg_tj240 (Nat.le_of_ble_eq_true rfl) rfl rfl rfl (Nat.le_of_ble_eq_true rfl) (Nat.le_refl _) (Nat.le_refl _) ?_ (fun Q hQ => ft_240 h10 hQ)
    have hx := Option.some.inj hx
    subst hx
    exact eg_k_ret rfl rfl (Nat.le_refl _) (Nat.le_refl _) hK
  · refine eg_k_aload rfl rfl ?_
    refine eg_k_ci rfl ?_
    obtain ⟨m15, h13, hx⟩ := vb_bind hx
    refine eg_k_call (c1 := 0) (z1 := 0) (as := [.inr (.inr (some 45)), .inl 41]) (rest := []) rfl eg_tj240 (Nat.le_of_ble_eq_true rfl) rfl rfl rfl (Nat.le_of_ble_eq_true rfl) (Nat.le_refl _) (Nat.le_refl _) ?_ (fun Q hQ => ft_240 h13 hQ)
    refine eg_k_iinc (lv' := [some (.inr (.inr (some 45))), some (.inr (.inl x1)), none, some (.inl x3), some (.inl x4), some (.inl (eg_wi (s1 + 1))), w6, w7, w8, w9]) rfl rfl rfl ?_
    refine eg_k_goto rfl ?_
    have hx := Option.some.inj hx
    subst hx
    exact hK w6 w7 w8 w9
set_option maxRecDepth 100000 in
theorem ft_238_22 {cn mo : Nat} {sc : eg_Sc} {d : Nat} {Q : Option eg_V → eg_H → Prop} {x1 : Int} {s : Int × Int × eM} {x : eM} (hx : lp (fun z => fn_238_22 x1 z.1 z.2.1 z.2.2) s = some x) (hK : (fun (x : eM) => Q (none) (em_L cn mo, eh_R, x)) x) : ∀ (w5 w6 w7 w8 w9 : Option eg_V), eg_X sc (eg_wp sc (d + 4)) eg_p238 none 0 0 Q 22 [some (.inr (.inr (some 45))), some (.inr (.inl x1)), none, some (.inl s.1), some (.inl s.2.1), w5, w6, w7, w8, w9] [] (em_L cn mo, eh_R, s.2.2) 0 0 := by
  refine lp_sound (P := (fun (s : Int × Int × eM) => ∀ (w5 w6 w7 w8 w9 : Option eg_V), eg_X sc (eg_wp sc (d + 4)) eg_p238 none 0 0 Q 22 [some (.inr (.inr (some 45))), some (.inr (.inl x1)), none, some (.inl s.1), some (.inl s.2.1), w5, w6, w7, w8, w9] [] (em_L cn mo, eh_R, s.2.2) 0 0)) (K := (fun (x : eM) => Q (none) (em_L cn mo, eh_R, x))) hx hK ?_
  intro s x hx hK w5 w6 w7 w8 w9
  obtain ⟨s1, s2, s3⟩ := s
  refine eg_k_iload rfl rfl ?_
  refine vk_if rfl hx Iff.rfl (fun c8 hx => ?_) (fun c8 hx => ?_)
  · refine eg_k_ci rfl ?_
    refine eg_k_istore (lv' := [some (.inr (.inr (some 45))), some (.inr (.inl x1)), none, some (.inl s1), some (.inl s2), some (.inl 0), w6, w7, w8, w9]) rfl rfl ?_
    obtain ⟨x, hy, e9⟩ := vb_map hx
    clear hx
    subst e9
    have hx := hy
    clear hy
    have hz := ft_238_111 (d := d) (sc := sc) hx hK
    exact hz w6 w7 w8 w9
  · refine eg_k_aload rfl rfl ?_
    refine eg_k_gfi rfl rfl rfl ?_
    refine vk_if rfl hx Iff.rfl (fun c16 hx => ?_) (fun c16 hx => ?_)
    · refine eg_k_ci rfl ?_
      refine eg_k_istore (lv' := [some (.inr (.inr (some 45))), some (.inr (.inl x1)), none, some (.inl s1), some (.inl s2), some (.inl 0), w6, w7, w8, w9]) rfl rfl ?_
      obtain ⟨x, hy, e9⟩ := vb_map hx
      clear hx
      subst e9
      have hx := hy
      clear hy
      have hz := ft_238_111 (d := d) (sc := sc) hx hK
      exact hz w6 w7 w8 w9
    · refine eg_k_aload rfl rfl ?_
      refine eg_k_gfa rfl rfl rfl eh_r45_75 ?_
      refine eg_k_aload rfl rfl ?_
      refine eg_k_gfi rfl rfl rfl ?_
      refine eg_k_ci rfl ?_
      refine eg_k_isub rfl ?_
      obtain ⟨b17, hx⟩ := vb_if hx
      refine eg_k_lald (k := 10) rfl rfl b17.1 b17.2 ?_
      refine eg_k_lstore (lv' := [some (.inr (.inr (some 45))), some (.inr (.inl x1)), none, some (.inl s1), some (.inl s2), some (.inr (.inl (s3 87 (eg_wi ((s3 45 74) - 1)).toNat))), none, w7, w8, w9]) rfl rfl ?_
      refine eg_k_aload rfl rfl ?_
      refine eg_k_gfi rfl rfl rfl ?_
      refine eg_k_istore (lv' := [some (.inr (.inr (some 45))), some (.inr (.inl x1)), none, some (.inl s1), some (.inl s2), some (.inr (.inl (s3 87 (eg_wi ((s3 45 74) - 1)).toNat))), none, some (.inl (s3 45 74)), w8, w9]) rfl rfl ?_
      refine eg_k_iload rfl rfl ?_
      refine vk_if rfl hx Iff.rfl (fun c18 hx => ?_) (fun c18 hx => ?_)
      · refine eg_k_aload rfl rfl ?_
        refine eg_k_lload rfl rfl ?_
        refine eg_k_ci rfl ?_
        obtain ⟨r20, h19, hx⟩ := vb_bind hx
        refine eg_k_call (c1 := 0) (z1 := 0) (as := [.inr (.inr (some 45)), .inr (.inl (s3 87 (eg_wi ((s3 45 74) - 1)).toNat)), .inl 1]) (rest := []) rfl eg_tj189 (Nat.le_of_ble_eq_true rfl) rfl rfl rfl (Nat.le_of_ble_eq_true rfl) (Nat.le_refl _) (Nat.le_refl _) ?_ (fun Q hQ => ft_189 h19 hQ)
        refine eg_k_lstore (lv' := [some (.inr (.inr (some 45))), some (.inr (.inl x1)), none, some (.inl s1), some (.inl s2), some (.inr (.inl (s3 87 (eg_wi ((s3 45 74) - 1)).toNat))), none, some (.inl (s3 45 74)), some (.inr (.inl r20)), none]) rfl rfl ?_
        refine eg_k_aload rfl rfl ?_
        refine eg_k_lload rfl rfl ?_
        refine eg_k_ci rfl ?_
        obtain ⟨r23, h22, hx⟩ := vb_bind hx
        refine eg_k_call (c1 := 0) (z1 := 0) (as := [.inr (.inr (some 45)), .inr (.inl r20), .inl 0]) (rest := []) rfl eg_tj223 (Nat.le_of_ble_eq_true rfl) rfl rfl rfl (Nat.le_of_ble_eq_true rfl) (Nat.le_refl _) (Nat.le_refl _) ?_ (fun Q hQ => ft_223 h22 hQ)
        refine vk_if rfl hx Iff.rfl (fun c25 hx => ?_) (fun c25 hx => ?_)
        · refine eg_k_lload rfl rfl ?_
          refine eg_k_cl rfl ?_
          refine vk_lcmp rfl rfl hx Iff.rfl (fun c26 hx => ?_) (fun c26 hx => ?_)
          · refine eg_k_iload rfl rfl ?_
            refine eg_k_if rfl (fun z => absurd z c8) (fun _ => ?_)
            refine eg_k_aload rfl rfl ?_
            refine eg_k_ci rfl ?_
            obtain ⟨m29, h27, hx⟩ := vb_bind hx
            refine eg_k_call (c1 := 0) (z1 := 0) (as := [.inr (.inr (some 45)), .inl 41]) (rest := []) rfl eg_tj240 (Nat.le_of_ble_eq_true rfl) rfl rfl rfl (Nat.le_of_ble_eq_true rfl) (Nat.le_refl _) (Nat.le_refl _) ?_ (fun Q hQ => ft_240 h27 hQ)
            refine eg_k_aload rfl rfl ?_
            refine eg_k_aload rfl rfl ?_
            refine eg_k_gfi rfl rfl rfl ?_
            refine eg_k_ci rfl ?_
            refine eg_k_isub rfl ?_
            refine eg_k_pfi rfl rfl rfl ?_
            refine eg_k_goto rfl ?_
            have hx := Option.some.inj hx
            subst hx
            exact hK (some (.inr (.inl (s3 87 (eg_wi ((s3 45 74) - 1)).toNat)))) none (some (.inl (s3 45 74))) (some (.inr (.inl r20))) none
          · refine eg_k_aload rfl rfl ?_
            refine eg_k_ci rfl ?_
            obtain ⟨m32, h30, hx⟩ := vb_bind hx
            refine eg_k_call (c1 := 0) (z1 := 0) (as := [.inr (.inr (some 45)), .inl 32]) (rest := []) rfl eg_tj240 (Nat.le_of_ble_eq_true rfl) rfl rfl rfl (Nat.le_of_ble_eq_true rfl) (Nat.le_refl _) (Nat.le_refl _) ?_ (fun Q hQ => ft_240 h30 hQ)
            refine eg_k_aload rfl rfl ?_
            refine eg_k_ci rfl ?_
            obtain ⟨m35, h33, hx⟩ := vb_bind hx
            refine eg_k_call (c1 := 0) (z1 := 0) (as := [.inr (.inr (some 45)), .inl 46]) (rest := []) rfl eg_tj240 (Nat.le_of_ble_eq_true rfl) rfl rfl rfl (Nat.le_of_ble_eq_true rfl) (Nat.le_refl _) (Nat.le_refl _) ?_ (fun Q hQ => ft_240 h33 hQ)
            refine eg_k_aload rfl rfl ?_
            refine eg_k_ci rfl ?_
            obtain ⟨m38, h36, hx⟩ := vb_bind hx
            refine eg_k_call (c1 := 0) (z1 := 0) (as := [.inr (.inr (some 45)), .inl 32]) (rest := []) rfl eg_tj240 (Nat.le_of_ble_eq_true rfl) rfl rfl rfl (Nat.le_of_ble_eq_true rfl) (Nat.le_refl _) (Nat.le_refl _) ?_ (fun Q hQ => ft_240 h36 hQ)
            refine eg_k_aload rfl rfl ?_
            refine eg_k_lload rfl rfl ?_
            obtain ⟨r40, h39, hx⟩ := vb_bind hx
            refine eg_k_call (c1 := 0) (z1 := 0) (as := [.inr (.inr (some 45)), .inr (.inl r20)]) (rest := []) rfl eg_tj239 (Nat.le_of_ble_eq_true rfl) rfl rfl rfl (Nat.le_of_ble_eq_true rfl) (Nat.le_refl _) (Nat.le_refl _) ?_ (fun Q hQ => ft_239 h39 hQ)
            refine eg_k_istore (lv' := [some (.inr (.inr (some 45))), some (.inr (.inl x1)), none, some (.inl r40.1), some (.inl s2), some (.inr (.inl (s3 87 (eg_wi ((s3 45 74) - 1)).toNat))), none, some (.inl (s3 45 74)), some (.inr (.inl r20)), none]) rfl rfl ?_
            refine eg_k_iload rfl rfl ?_
            refine vk_if rfl hx Iff.rfl (fun c42 hx => ?_) (fun c42 hx => ?_)
            · refine eg_k_goto rfl ?_
              have hx := Option.some.inj hx
              subst hx
              exact hK (some (.inr (.inl (s3 87 (eg_wi ((s3 45 74) - 1)).toNat)))) none (some (.inl (s3 45 74))) (some (.inr (.inl r20))) none
            · refine eg_k_aload rfl rfl ?_
              refine eg_k_ci rfl ?_
              obtain ⟨m45, h43, hx⟩ := vb_bind hx
              refine eg_k_call (c1 := 0) (z1 := 0) (as := [.inr (.inr (some 45)), .inl 41]) (rest := []) rfl eg_tj240 (Nat.le_of_ble_eq_true rfl) rfl rfl rfl (Nat.le_of_ble_eq_true rfl) (Nat.le_refl _) (Nat.le_refl _) ?_ (fun Q hQ => ft_240 h43 hQ)
              refine eg_k_aload rfl rfl ?_
              refine eg_k_aload rfl rfl ?_
              refine eg_k_gfi rfl rfl rfl ?_
              refine eg_k_ci rfl ?_
              refine eg_k_isub rfl ?_
              refine eg_k_pfi rfl rfl rfl ?_
              refine eg_k_goto rfl ?_
              have hx := Option.some.inj hx
              subst hx
              exact hK (some (.inr (.inl (s3 87 (eg_wi ((s3 45 74) - 1)).toNat)))) none (some (.inl (s3 45 74))) (some (.inr (.inl r20))) none
        · refine eg_k_aload rfl rfl ?_
          refine eg_k_ci rfl ?_
          obtain ⟨m48, h46, hx⟩ := vb_bind hx
          refine eg_k_call (c1 := 0) (z1 := 0) (as := [.inr (.inr (some 45)), .inl 32]) (rest := []) rfl eg_tj240 (Nat.le_of_ble_eq_true rfl) rfl rfl rfl (Nat.le_of_ble_eq_true rfl) (Nat.le_refl _) (Nat.le_refl _) ?_ (fun Q hQ => ft_240 h46 hQ)
          refine eg_k_aload rfl rfl ?_
          refine eg_k_gfa rfl rfl rfl eh_r45_75 ?_
          refine eg_k_aload rfl rfl ?_
          refine eg_k_gfi rfl rfl rfl ?_
          refine eg_k_ci rfl ?_
          refine eg_k_isub rfl ?_
          refine eg_k_lload rfl rfl ?_
          obtain ⟨b49, hx⟩ := vb_if hx
          refine eg_k_last (k := 10) rfl rfl b49.1 b49.2 ?_
          refine eg_k_ci rfl ?_
          refine eg_k_istore (lv' := [some (.inr (.inr (some 45))), some (.inr (.inl x1)), none, some (.inl s1), some (.inl 0), some (.inr (.inl (s3 87 (eg_wi ((s3 45 74) - 1)).toNat))), none, some (.inl (s3 45 74)), some (.inr (.inl r20)), none]) rfl rfl ?_
          refine eg_k_goto rfl ?_
          refine eg_k_goto rfl ?_
          have hx := Option.some.inj hx
          subst hx
          exact hK (some (.inr (.inl (s3 87 (eg_wi ((s3 45 74) - 1)).toNat)))) none (some (.inl (s3 45 74))) (some (.inr (.inl r20))) none
      · refine eg_k_aload rfl rfl ?_
        refine eg_k_aload rfl rfl ?_
        refine eg_k_lload rfl rfl ?_
        refine eg_k_ci rfl ?_
        obtain ⟨r51, h50, hx⟩ := vb_bind hx
        refine eg_k_call (c1 := 0) (z1 := 0) (as := [.inr (.inr (some 45)), .inr (.inl (s3 87 (eg_wi ((s3 45 74) - 1)).toNat)), .inl 0]) (rest := [.inr (.inr (some 45))]) rfl eg_tj189 (Nat.le_of_ble_eq_true rfl) rfl rfl rfl (Nat.le_of_ble_eq_true rfl) (Nat.le_refl _) (Nat.le_refl _) ?_ (fun Q hQ => ft_189 h50 hQ)
        obtain ⟨r54, h53, hx⟩ := vb_bind hx
        refine eg_k_call (c1 := 0) (z1 := 0) (as := [.inr (.inr (some 45)), .inr (.inl r51)]) (rest := []) rfl eg_tj239 (Nat.le_of_ble_eq_true rfl) rfl rfl rfl (Nat.le_of_ble_eq_true rfl) (Nat.le_refl _) (Nat.le_refl _) ?_ (fun Q hQ => ft_239 h53 hQ)
        refine eg_k_istore (lv' := [some (.inr (.inr (some 45))), some (.inr (.inl x1)), none, some (.inl r54.1), some (.inl s2), some (.inr (.inl (s3 87 (eg_wi ((s3 45 74) - 1)).toNat))), none, some (.inl (s3 45 74)), w8, w9]) rfl rfl ?_
        refine eg_k_aload rfl rfl ?_
        refine eg_k_gfi rfl rfl rfl ?_
        refine eg_k_iload rfl rfl ?_
        refine vk_icmp rfl hx Iff.rfl (fun c56 hx => ?_) (fun c56 hx => ?_)
        · refine eg_k_ci rfl ?_
          refine eg_k_istore (lv' := [some (.inr (.inr (some 45))), some (.inr (.inl x1)), none, some (.inl r54.1), some (.inl 0), some (.inr (.inl (s3 87 (eg_wi ((s3 45 74) - 1)).toNat))), none, some (.inl (s3 45 74)), w8, w9]) rfl rfl ?_
          refine eg_k_goto rfl ?_
          refine eg_k_goto rfl ?_
          have hx := Option.some.inj hx
          subst hx
          exact hK (some (.inr (.inl (s3 87 (eg_wi ((s3 45 74) - 1)).toNat)))) none (some (.inl (s3 45 74))) w8 w9
        · refine eg_k_ci rfl ?_
          refine eg_k_goto rfl ?_
          refine eg_k_istore (lv' := [some (.inr (.inr (some 45))), some (.inr (.inl x1)), none, some (.inl r54.1), some (.inl 1), some (.inr (.inl (s3 87 (eg_wi ((s3 45 74) - 1)).toNat))), none, some (.inl (s3 45 74)), w8, w9]) rfl rfl ?_
          refine eg_k_goto rfl ?_
          refine eg_k_goto rfl ?_
          have hx := Option.some.inj hx
          subst hx
          exact hK (some (.inr (.inl (s3 87 (eg_wi ((s3 45 74) - 1)).toNat)))) none (some (.inl (s3 45 74))) w8 w9
set_option maxRecDepth 100000 in
theorem ft_238 {cn mo : Nat} {sc : eg_Sc} {d : Nat} {M : eM} {Q : Option eg_V → eg_H → Prop} {a : Int} {x : eM} (hx : fn_238 a M = some x) (hK : Q (none) (em_L cn mo, eh_R, x)) : eg_wp sc (d + 5) 238 [.inr (.inr (some 45)), .inr (.inl a)] (em_L cn mo, eh_R, M) 0 0 Q := by
  refine eg_in (lv := [some (.inr (.inr (some 45))), some (.inr (.inl a)), none, none, none, none, none, none, none, none]) eg_tj238 (Nat.le_of_ble_eq_true rfl) rfl ?_
  refine eg_k_aload rfl rfl ?_
  refine eg_k_ci rfl ?_
  refine eg_k_pfi rfl rfl rfl ?_
  refine eg_k_aload rfl rfl ?_
  refine eg_k_ci rfl ?_
  refine eg_k_pfi rfl rfl rfl ?_
  refine eg_k_aload rfl rfl ?_
  refine eg_k_lload rfl rfl ?_
  obtain ⟨r2, h1, hx⟩ := vb_bind hx
  refine eg_k_call (c1 := 0) (z1 := 0) (as := [.inr (.inr (some 45)), .inr (.inl a)]) (rest := []) rfl eg_tj239 (Nat.le_of_ble_eq_true rfl) rfl rfl rfl (Nat.le_of_ble_eq_true rfl) (Nat.le_refl _) (Nat.le_refl _) ?_ (fun Q hQ => ft_239 h1 hQ)
  refine eg_k_istore (lv' := [some (.inr (.inr (some 45))), some (.inr (.inl a)), none, some (.inl r2.1), none, none, none, none, none, none]) rfl rfl ?_
  refine eg_k_aload rfl rfl ?_
  refine eg_k_lload rfl rfl ?_
  refine eg_k_ci rfl ?_
  obtain ⟨r5, h4, hx⟩ := vb_bind hx
  refine eg_k_call (c1 := 0) (z1 := 0) (as := [.inr (.inr (some 45)), .inr (.inl a), .inl 0]) (rest := []) rfl eg_tj223 (Nat.le_of_ble_eq_true rfl) rfl rfl rfl (Nat.le_of_ble_eq_true rfl) (Nat.le_refl _) (Nat.le_refl _) ?_ (fun Q hQ => ft_223 h4 hQ)
  refine vk_if rfl hx Iff.rfl (fun c7 hx => ?_) (fun c7 hx => ?_)
  · refine eg_k_ci rfl ?_
    refine eg_k_istore (lv' := [some (.inr (.inr (some 45))), some (.inr (.inl a)), none, some (.inl r2.1), some (.inl 0), none, none, none, none, none]) rfl rfl ?_
    have hz := ft_238_22 (d := d) (sc := sc) hx hK
    exact hz none none none none none
  · refine eg_k_aload rfl rfl ?_
    refine eg_k_gfi rfl rfl rfl ?_
    refine vk_if rfl hx Iff.rfl (fun c57 hx => ?_) (fun c57 hx => ?_)
    · refine eg_k_ci rfl ?_
      refine eg_k_istore (lv' := [some (.inr (.inr (some 45))), some (.inr (.inl a)), none, some (.inl r2.1), some (.inl 0), none, none, none, none, none]) rfl rfl ?_
      have hz := ft_238_22 (d := d) (sc := sc) hx hK
      exact hz none none none none none
    · refine eg_k_ci rfl ?_
      refine eg_k_goto rfl ?_
      refine eg_k_istore (lv' := [some (.inr (.inr (some 45))), some (.inr (.inl a)), none, some (.inl r2.1), some (.inl 1), none, none, none, none, none]) rfl rfl ?_
      have hz := ft_238_22 (d := d) (sc := sc) hx hK
      exact hz none none none none none
theorem fw_238_111 {c j : Nat} {v : Int} {x1 : Int} {x3 : Int} {x4 : Int} {s : Int × eM} {x : eM} (hc : c ∉ ([45, 86, 87] : List Nat)) (hx : lp (fun z => fn_238_111 x1 x3 x4 z.1 z.2) s = some x) (hK : (fun (x : eM) => x c j = v) x) : s.2 c j = v := by
  refine lp_sound (P := (fun (s : Int × eM) => s.2 c j = v)) (K := (fun (x : eM) => x c j = v)) hx hK ?_
  intro s x hx hK
  obtain ⟨s1, s2⟩ := s
  refine vb_ite hx (fun _ hx => ?_) (fun _ hx => ?_)
  · obtain ⟨m12, h10, hx⟩ := vb_bind hx
    have hx := Option.some.inj hx
    subst hx
    exact ((fw_240 h10 (vsub hc (by decide)) j).trans rfl).symm.trans hK
  · obtain ⟨m15, h13, hx⟩ := vb_bind hx
    have hx := Option.some.inj hx
    subst hx
    exact ((fw_240 h13 (vsub hc (by decide)) j).trans rfl).symm.trans hK
theorem fw_238_22 {c j : Nat} {v : Int} {x1 : Int} {s : Int × Int × eM} {x : eM} (hc : c ∉ ([45, 86, 87] : List Nat)) (hx : lp (fun z => fn_238_22 x1 z.1 z.2.1 z.2.2) s = some x) (hK : (fun (x : eM) => x c j = v) x) : s.2.2 c j = v := by
  refine lp_sound (P := (fun (s : Int × Int × eM) => s.2.2 c j = v)) (K := (fun (x : eM) => x c j = v)) hx hK ?_
  intro s x hx hK
  obtain ⟨s1, s2, s3⟩ := s
  refine vb_ite hx (fun _ hx => ?_) (fun _ hx => ?_)
  · obtain ⟨x, hy, e9⟩ := vb_map hx
    clear hx
    subst e9
    have hx := hy
    clear hy
    have hz := fw_238_111 hc hx hK
    exact (Eq.refl _).symm.trans hz
  · refine vb_ite hx (fun _ hx => ?_) (fun _ hx => ?_)
    · obtain ⟨x, hy, e9⟩ := vb_map hx
      clear hx
      subst e9
      have hx := hy
      clear hy
      have hz := fw_238_111 hc hx hK
      exact (Eq.refl _).symm.trans hz
    · obtain ⟨_, hx⟩ := vb_if hx
      refine vb_ite hx (fun _ hx => ?_) (fun _ hx => ?_)
      · obtain ⟨r20, h19, hx⟩ := vb_bind hx
        obtain ⟨r23, h22, hx⟩ := vb_bind hx
        refine vb_ite hx (fun _ hx => ?_) (fun _ hx => ?_)
        · refine vb_ite hx (fun _ hx => ?_) (fun _ hx => ?_)
          · obtain ⟨m29, h27, hx⟩ := vb_bind hx
            have hx := Option.some.inj hx
            subst hx
            exact ((congrFun (eg_u_ne (vne hc (a := 45) (by decide))) j).trans ((fw_240 h27 (vsub hc (by decide)) j).trans rfl)).symm.trans hK
          · obtain ⟨m32, h30, hx⟩ := vb_bind hx
            obtain ⟨m35, h33, hx⟩ := vb_bind hx
            obtain ⟨m38, h36, hx⟩ := vb_bind hx
            obtain ⟨r40, h39, hx⟩ := vb_bind hx
            refine vb_ite hx (fun _ hx => ?_) (fun _ hx => ?_)
            · have hx := Option.some.inj hx
              subst hx
              exact ((fw_239 h39 (vsub hc (by decide)) j).trans ((fw_240 h36 (vsub hc (by decide)) j).trans ((fw_240 h33 (vsub hc (by decide)) j).trans ((fw_240 h30 (vsub hc (by decide)) j).trans rfl)))).symm.trans hK
            · obtain ⟨m45, h43, hx⟩ := vb_bind hx
              have hx := Option.some.inj hx
              subst hx
              exact ((congrFun (eg_u_ne (vne hc (a := 45) (by decide))) j).trans ((fw_240 h43 (vsub hc (by decide)) j).trans ((fw_239 h39 (vsub hc (by decide)) j).trans ((fw_240 h36 (vsub hc (by decide)) j).trans ((fw_240 h33 (vsub hc (by decide)) j).trans ((fw_240 h30 (vsub hc (by decide)) j).trans rfl)))))).symm.trans hK
        · obtain ⟨m48, h46, hx⟩ := vb_bind hx
          obtain ⟨_, hx⟩ := vb_if hx
          have hx := Option.some.inj hx
          subst hx
          exact ((congrFun (eg_u_ne (vne hc (a := 87) (by decide))) j).trans ((fw_240 h46 (vsub hc (by decide)) j).trans rfl)).symm.trans hK
      · obtain ⟨r51, h50, hx⟩ := vb_bind hx
        obtain ⟨r54, h53, hx⟩ := vb_bind hx
        refine vb_ite hx (fun _ hx => ?_) (fun _ hx => ?_)
        · have hx := Option.some.inj hx
          subst hx
          exact ((fw_239 h53 (vsub hc (by decide)) j).trans rfl).symm.trans hK
        · have hx := Option.some.inj hx
          subst hx
          exact ((fw_239 h53 (vsub hc (by decide)) j).trans rfl).symm.trans hK
theorem fw_238 {M : eM} {c : Nat} {a : Int} {x : eM} (hx : fn_238 a M = some x) (hc : c ∉ ([45, 86, 87] : List Nat)) (j : Nat) : x c j = M c j := by
  obtain ⟨v, hK⟩ : ∃ v, x c j = v := ⟨_, rfl⟩
  rw [hK]
  refine Eq.symm ?_
  obtain ⟨r2, h1, hx⟩ := vb_bind hx
  obtain ⟨r5, h4, hx⟩ := vb_bind hx
  refine vb_ite hx (fun _ hx => ?_) (fun _ hx => ?_)
  · have hz := fw_238_22 hc hx hK
    exact ((fw_239 h1 (vsub hc (by decide)) j).trans ((congrFun (eg_u_ne (vne hc (a := 45) (by decide))) j).trans ((congrFun (eg_u_ne (vne hc (a := 45) (by decide))) j).trans rfl))).symm.trans hz
  · refine vb_ite hx (fun _ hx => ?_) (fun _ hx => ?_)
    · have hz := fw_238_22 hc hx hK
      exact ((fw_239 h1 (vsub hc (by decide)) j).trans ((congrFun (eg_u_ne (vne hc (a := 45) (by decide))) j).trans ((congrFun (eg_u_ne (vne hc (a := 45) (by decide))) j).trans rfl))).symm.trans hz
    · have hz := fw_238_22 hc hx hK
      exact ((fw_239 h1 (vsub hc (by decide)) j).trans ((congrFun (eg_u_ne (vne hc (a := 45) (by decide))) j).trans ((congrFun (eg_u_ne (vne hc (a := 45) (by decide))) j).trans rfl))).symm.trans hz
/-- 237: WeakSchemeModel.others(II)I -/
noncomputable def fn_237 (a : Int) (b : Int) (M : eM) : Option (Int × eM) :=
  if ¬ a = 32 then
    if 0 ≤ b ∧ b < 19000 then
    if ¬ a = 33 then
        (fn_201 (M 77 (b).toNat) M).bind fun r5 =>
        if ¬ r5 = 0 then
          (fn_187 (M 77 (b).toNat) M).bind fun r9 =>
          if 0 ≤ r9 ∧ r9 < 6700 then
          if ¬ (M 66 (r9).toNat) = 0 then
              (fn_187 (M 77 (b).toNat) M).bind fun r14 =>
              if 0 ≤ r14 ∧ r14 < 6700 then
              (fn_229 (M 66 (r14).toNat) M).bind fun r18 =>
                some (r18.1, r18.2)
              else none
            else
              (fn_187 (M 77 (b).toNat) (eg_u M 45 42 (eg_wi ((M 45 42) + 1)))).bind fun r21 =>
              if 0 ≤ r21 ∧ r21 < 6700 then
              (fn_187 (M 77 (b).toNat) (eg_u (eg_u M 45 42 (eg_wi ((M 45 42) + 1))) 66 (r21).toNat (eg_wi ((M 45 42) + 1)))).bind fun r25 =>
                if 0 ≤ r25 ∧ r25 < 6700 then
                (fn_229 ((eg_u (eg_u M 45 42 (eg_wi ((M 45 42) + 1))) 66 (r21).toNat (eg_wi ((M 45 42) + 1))) 66 (r25).toNat) (eg_u (eg_u M 45 42 (eg_wi ((M 45 42) + 1))) 66 (r21).toNat (eg_wi ((M 45 42) + 1)))).bind fun r29 =>
                  some (r29.1, r29.2)
                else none
              else none
          else none
        else
          (fn_229 0 M).bind fun r32 =>
          some (r32.1, r32.2)
      else
        (fn_238 (M 77 (b).toNat) M).bind fun m36 =>
        (fn_229 12884901888 m36).bind fun r38 =>
        some (r38.1, r38.2)
    else none
  else
    (fn_229 (M 45 28) M).bind fun r41 =>
    some (r41.1, r41.2)
set_option maxRecDepth 100000 in
theorem ft_237 {cn mo : Nat} {sc : eg_Sc} {d : Nat} {M : eM} {Q : Option eg_V → eg_H → Prop} {a : Int} {b : Int} {x : Int × eM} (hx : fn_237 a b M = some x) (hK : Q (some (.inl ((x).1))) (em_L cn mo, eh_R, (x).2)) : eg_wp sc (d + 6) 237 [.inr (.inr (some 45)), .inl a, .inl b] (em_L cn mo, eh_R, M) 0 0 Q := by
  refine eg_in (lv := [some (.inr (.inr (some 45))), some (.inl a), some (.inl b), none, none]) eg_tj237 (Nat.le_of_ble_eq_true rfl) rfl ?_
  refine eg_k_iload rfl rfl ?_
  refine eg_k_ci rfl ?_
  refine vk_icmp rfl hx Iff.rfl (fun c1 hx => ?_) (fun c1 hx => ?_)
  · refine eg_k_aload rfl rfl ?_
    refine eg_k_gfa rfl rfl rfl eh_r45_52 ?_
    refine eg_k_iload rfl rfl ?_
    obtain ⟨b2, hx⟩ := vb_if hx
    refine eg_k_lald (k := 19000) rfl rfl b2.1 b2.2 ?_
    refine eg_k_lstore (lv' := [some (.inr (.inr (some 45))), some (.inl a), some (.inl b), some (.inr (.inl (M 77 (b).toNat))), none]) rfl rfl ?_
    refine eg_k_iload rfl rfl ?_
    refine eg_k_ci rfl ?_
    refine vk_icmp rfl hx Iff.rfl (fun c3 hx => ?_) (fun c3 hx => ?_)
    · refine eg_k_lload rfl rfl ?_
      obtain ⟨r5, h4, hx⟩ := vb_bind hx
      refine eg_k_call (c1 := 0) (z1 := 0) (as := [.inr (.inl (M 77 (b).toNat))]) (rest := []) rfl eg_tj201 (Nat.le_of_ble_eq_true rfl) rfl rfl trivial (Nat.le_of_ble_eq_true rfl) (Nat.le_refl _) (Nat.le_refl _) ?_ (fun Q hQ => ft_201 h4 hQ)
      refine vk_if rfl hx Iff.rfl (fun c7 hx => ?_) (fun c7 hx => ?_)
      · refine eg_k_aload rfl rfl ?_
        refine eg_k_gfa rfl rfl rfl eh_r45_34 ?_
        refine eg_k_lload rfl rfl ?_
        obtain ⟨r9, h8, hx⟩ := vb_bind hx
        refine eg_k_call (c1 := 0) (z1 := 0) (as := [.inr (.inl (M 77 (b).toNat))]) (rest := [.inr (.inr (some 66))]) rfl eg_tj187 (Nat.le_of_ble_eq_true rfl) rfl rfl trivial (Nat.le_of_ble_eq_true rfl) (Nat.le_refl _) (Nat.le_refl _) ?_ (fun Q hQ => ft_187 h8 hQ)
        obtain ⟨b11, hx⟩ := vb_if hx
        refine eg_k_iald (k := 6700) rfl rfl b11.1 b11.2 ?_
        refine vk_if rfl hx Iff.rfl (fun c12 hx => ?_) (fun c12 hx => ?_)
        · refine eg_k_aload rfl rfl ?_
          refine eg_k_aload rfl rfl ?_
          refine eg_k_gfa rfl rfl rfl eh_r45_34 ?_
          refine eg_k_lload rfl rfl ?_
          obtain ⟨r14, h13, hx⟩ := vb_bind hx
          refine eg_k_call (c1 := 0) (z1 := 0) (as := [.inr (.inl (M 77 (b).toNat))]) (rest := [.inr (.inr (some 66)), .inr (.inr (some 45))]) rfl eg_tj187 (Nat.le_of_ble_eq_true rfl) rfl rfl trivial (Nat.le_of_ble_eq_true rfl) (Nat.le_refl _) (Nat.le_refl _) ?_ (fun Q hQ => ft_187 h13 hQ)
          obtain ⟨b16, hx⟩ := vb_if hx
          refine eg_k_iald (k := 6700) rfl rfl b16.1 b16.2 ?_
          refine eg_k_i2l rfl ?_
          obtain ⟨r18, h17, hx⟩ := vb_bind hx
          refine eg_k_call (c1 := 0) (z1 := 0) (as := [.inr (.inr (some 45)), .inr (.inl (M 66 (r14).toNat))]) (rest := []) rfl eg_tj229 (Nat.le_of_ble_eq_true rfl) rfl rfl rfl (Nat.le_of_ble_eq_true rfl) (Nat.le_refl _) (Nat.le_refl _) ?_ (fun Q hQ => ft_229 h17 hQ)
          have hx := Option.some.inj hx
          subst hx
          exact eg_k_iret rfl True.intro (Nat.le_refl _) (Nat.le_refl _) hK
        · refine eg_k_aload rfl rfl ?_
          refine eg_k_aload rfl rfl ?_
          refine eg_k_gfi rfl rfl rfl ?_
          refine eg_k_ci rfl ?_
          refine eg_k_iadd rfl ?_
          refine eg_k_pfi rfl rfl rfl ?_
          refine eg_k_aload rfl rfl ?_
          refine eg_k_gfa rfl rfl rfl eh_r45_34 ?_
          refine eg_k_lload rfl rfl ?_
          obtain ⟨r21, h20, hx⟩ := vb_bind hx
          refine eg_k_call (c1 := 0) (z1 := 0) (as := [.inr (.inl (M 77 (b).toNat))]) (rest := [.inr (.inr (some 66))]) rfl eg_tj187 (Nat.le_of_ble_eq_true rfl) rfl rfl trivial (Nat.le_of_ble_eq_true rfl) (Nat.le_refl _) (Nat.le_refl _) ?_ (fun Q hQ => ft_187 h20 hQ)
          refine eg_k_aload rfl rfl ?_
          refine eg_k_gfie (x := eg_wi ((M 45 42) + 1)) rfl rfl rfl rfl ?_
          obtain ⟨b23, hx⟩ := vb_if hx
          refine eg_k_iast (k := 6700) rfl rfl b23.1 b23.2 ?_
          refine eg_k_aload rfl rfl ?_
          refine eg_k_aload rfl rfl ?_
          refine eg_k_gfa rfl rfl rfl eh_r45_34 ?_
          refine eg_k_lload rfl rfl ?_
          obtain ⟨r25, h24, hx⟩ := vb_bind hx
          refine eg_k_call (c1 := 0) (z1 := 0) (as := [.inr (.inl (M 77 (b).toNat))]) (rest := [.inr (.inr (some 66)), .inr (.inr (some 45))]) rfl eg_tj187 (Nat.le_of_ble_eq_true rfl) rfl rfl trivial (Nat.le_of_ble_eq_true rfl) (Nat.le_refl _) (Nat.le_refl _) ?_ (fun Q hQ => ft_187 h24 hQ)
          obtain ⟨b27, hx⟩ := vb_if hx
          refine eg_k_iald (k := 6700) rfl rfl b27.1 b27.2 ?_
          refine eg_k_i2l rfl ?_
          obtain ⟨r29, h28, hx⟩ := vb_bind hx
          refine eg_k_call (c1 := 0) (z1 := 0) (as := [.inr (.inr (some 45)), .inr (.inl ((eg_u (eg_u M 45 42 (eg_wi ((M 45 42) + 1))) 66 (r21).toNat (eg_wi ((M 45 42) + 1))) 66 (r25).toNat))]) (rest := []) rfl eg_tj229 (Nat.le_of_ble_eq_true rfl) rfl rfl rfl (Nat.le_of_ble_eq_true rfl) (Nat.le_refl _) (Nat.le_refl _) ?_ (fun Q hQ => ft_229 h28 hQ)
          have hx := Option.some.inj hx
          subst hx
          exact eg_k_iret rfl True.intro (Nat.le_refl _) (Nat.le_refl _) hK
      · refine eg_k_aload rfl rfl ?_
        refine eg_k_cl rfl ?_
        obtain ⟨r32, h31, hx⟩ := vb_bind hx
        refine eg_k_call (c1 := 0) (z1 := 0) (as := [.inr (.inr (some 45)), .inr (.inl 0)]) (rest := []) rfl eg_tj229 (Nat.le_of_ble_eq_true rfl) rfl rfl rfl (Nat.le_of_ble_eq_true rfl) (Nat.le_refl _) (Nat.le_refl _) ?_ (fun Q hQ => ft_229 h31 hQ)
        have hx := Option.some.inj hx
        subst hx
        exact eg_k_iret rfl True.intro (Nat.le_refl _) (Nat.le_refl _) hK
    · refine eg_k_aload rfl rfl ?_
      refine eg_k_lload rfl rfl ?_
      obtain ⟨m36, h34, hx⟩ := vb_bind hx
      refine eg_k_call (c1 := 0) (z1 := 0) (as := [.inr (.inr (some 45)), .inr (.inl (M 77 (b).toNat))]) (rest := []) rfl eg_tj238 (Nat.le_of_ble_eq_true rfl) rfl rfl rfl (Nat.le_of_ble_eq_true rfl) (Nat.le_refl _) (Nat.le_refl _) ?_ (fun Q hQ => ft_238 h34 hQ)
      refine eg_k_aload rfl rfl ?_
      refine eg_k_cl rfl ?_
      obtain ⟨r38, h37, hx⟩ := vb_bind hx
      refine eg_k_call (c1 := 0) (z1 := 0) (as := [.inr (.inr (some 45)), .inr (.inl 12884901888)]) (rest := []) rfl eg_tj229 (Nat.le_of_ble_eq_true rfl) rfl rfl rfl (Nat.le_of_ble_eq_true rfl) (Nat.le_refl _) (Nat.le_refl _) ?_ (fun Q hQ => ft_229 h37 hQ)
      have hx := Option.some.inj hx
      subst hx
      exact eg_k_iret rfl True.intro (Nat.le_refl _) (Nat.le_refl _) hK
  · refine eg_k_aload rfl rfl ?_
    refine eg_k_aload rfl rfl ?_
    refine eg_k_gfi rfl rfl rfl ?_
    refine eg_k_i2l rfl ?_
    obtain ⟨r41, h40, hx⟩ := vb_bind hx
    refine eg_k_call (c1 := 0) (z1 := 0) (as := [.inr (.inr (some 45)), .inr (.inl (M 45 28))]) (rest := []) rfl eg_tj229 (Nat.le_of_ble_eq_true rfl) rfl rfl rfl (Nat.le_of_ble_eq_true rfl) (Nat.le_refl _) (Nat.le_refl _) ?_ (fun Q hQ => ft_229 h40 hQ)
    have hx := Option.some.inj hx
    subst hx
    exact eg_k_iret rfl True.intro (Nat.le_refl _) (Nat.le_refl _) hK
theorem fw_237 {M : eM} {c : Nat} {a : Int} {b : Int} {x : Int × eM} (hx : fn_237 a b M = some x) (hc : c ∉ ([45, 66, 86, 87] : List Nat)) (j : Nat) : ((x).2) c j = M c j := by
  obtain ⟨v, hK⟩ : ∃ v, ((x).2) c j = v := ⟨_, rfl⟩
  rw [hK]
  refine Eq.symm ?_
  refine vb_ite hx (fun _ hx => ?_) (fun _ hx => ?_)
  · obtain ⟨_, hx⟩ := vb_if hx
    refine vb_ite hx (fun _ hx => ?_) (fun _ hx => ?_)
    · obtain ⟨r5, h4, hx⟩ := vb_bind hx
      refine vb_ite hx (fun _ hx => ?_) (fun _ hx => ?_)
      · obtain ⟨r9, h8, hx⟩ := vb_bind hx
        obtain ⟨_, hx⟩ := vb_if hx
        refine vb_ite hx (fun _ hx => ?_) (fun _ hx => ?_)
        · obtain ⟨r14, h13, hx⟩ := vb_bind hx
          obtain ⟨_, hx⟩ := vb_if hx
          obtain ⟨r18, h17, hx⟩ := vb_bind hx
          have hx := Option.some.inj hx
          subst hx
          exact ((fw_229 h17 (vsub hc (by decide)) j).trans rfl).symm.trans hK
        · obtain ⟨r21, h20, hx⟩ := vb_bind hx
          obtain ⟨_, hx⟩ := vb_if hx
          obtain ⟨r25, h24, hx⟩ := vb_bind hx
          obtain ⟨_, hx⟩ := vb_if hx
          obtain ⟨r29, h28, hx⟩ := vb_bind hx
          have hx := Option.some.inj hx
          subst hx
          exact ((fw_229 h28 (vsub hc (by decide)) j).trans ((congrFun (eg_u_ne (vne hc (a := 66) (by decide))) j).trans ((congrFun (eg_u_ne (vne hc (a := 45) (by decide))) j).trans rfl))).symm.trans hK
      · obtain ⟨r32, h31, hx⟩ := vb_bind hx
        have hx := Option.some.inj hx
        subst hx
        exact ((fw_229 h31 (vsub hc (by decide)) j).trans rfl).symm.trans hK
    · obtain ⟨m36, h34, hx⟩ := vb_bind hx
      obtain ⟨r38, h37, hx⟩ := vb_bind hx
      have hx := Option.some.inj hx
      subst hx
      exact ((fw_229 h37 (vsub hc (by decide)) j).trans ((fw_238 h34 (vsub hc (by decide)) j).trans rfl)).symm.trans hK
  · obtain ⟨r41, h40, hx⟩ := vb_bind hx
    have hx := Option.some.inj hx
    subst hx
    exact ((fw_229 h40 (vsub hc (by decide)) j).trans rfl).symm.trans hK
/-- 226: WeakSchemeModel.primitive(II)I -/
noncomputable def fn_226 (a : Int) (b : Int) (M : eM) : Option (Int × eM) :=
  if 7 ≤ a then
    if 20 ≤ a then
      if 30 ≤ a then
        (fn_237 a b M).bind fun r5 =>
        some (r5.1, r5.2)
      else
        (fn_233 a b M).bind fun r8 =>
        some (r8.1, r8.2)
    else
      (fn_230 a b M).bind fun r11 =>
      some (r11.1, r11.2)
  else
    if 0 ≤ b ∧ b < 19000 then
    if 0 ≤ (eg_wi (b + 1)) ∧ (eg_wi (b + 1)) < 19000 then
      (fn_227 a (M 77 (b).toNat) (M 77 (eg_wi (b + 1)).toNat) M).bind fun r16 =>
        some (r16.1, r16.2)
      else none
    else none
set_option maxRecDepth 100000 in
theorem ft_226 {cn mo : Nat} {sc : eg_Sc} {d : Nat} {M : eM} {Q : Option eg_V → eg_H → Prop} {a : Int} {b : Int} {x : Int × eM} (hx : fn_226 a b M = some x) (hK : Q (some (.inl ((x).1))) (em_L cn mo, eh_R, (x).2)) : eg_wp sc (d + 11) 226 [.inr (.inr (some 45)), .inl a, .inl b] (em_L cn mo, eh_R, M) 0 0 Q := by
  refine eg_in (lv := [some (.inr (.inr (some 45))), some (.inl a), some (.inl b)]) eg_tj226 (Nat.le_of_ble_eq_true rfl) rfl ?_
  refine eg_k_iload rfl rfl ?_
  refine eg_k_ci rfl ?_
  refine vk_icmp rfl hx Iff.rfl (fun c1 hx => ?_) (fun c1 hx => ?_)
  · refine eg_k_iload rfl rfl ?_
    refine eg_k_ci rfl ?_
    refine vk_icmp rfl hx Iff.rfl (fun c2 hx => ?_) (fun c2 hx => ?_)
    · refine eg_k_iload rfl rfl ?_
      refine eg_k_ci rfl ?_
      refine vk_icmp rfl hx Iff.rfl (fun c3 hx => ?_) (fun c3 hx => ?_)
      · refine eg_k_aload rfl rfl ?_
        refine eg_k_iload rfl rfl ?_
        refine eg_k_iload rfl rfl ?_
        obtain ⟨r5, h4, hx⟩ := vb_bind hx
        refine eg_k_call (c1 := 0) (z1 := 0) (as := [.inr (.inr (some 45)), .inl a, .inl b]) (rest := []) rfl eg_tj237 (Nat.le_of_ble_eq_true rfl) rfl rfl rfl (Nat.le_of_ble_eq_true rfl) (Nat.le_refl _) (Nat.le_refl _) ?_ (fun Q hQ => ft_237 h4 hQ)
        have hx := Option.some.inj hx
        subst hx
        exact eg_k_iret rfl True.intro (Nat.le_refl _) (Nat.le_refl _) hK
      · refine eg_k_aload rfl rfl ?_
        refine eg_k_iload rfl rfl ?_
        refine eg_k_iload rfl rfl ?_
        obtain ⟨r8, h7, hx⟩ := vb_bind hx
        refine eg_k_call (c1 := 0) (z1 := 0) (as := [.inr (.inr (some 45)), .inl a, .inl b]) (rest := []) rfl eg_tj233 (Nat.le_of_ble_eq_true rfl) rfl rfl rfl (Nat.le_of_ble_eq_true rfl) (Nat.le_refl _) (Nat.le_refl _) ?_ (fun Q hQ => ft_233 h7 hQ)
        refine eg_k_goto rfl ?_
        have hx := Option.some.inj hx
        subst hx
        exact eg_k_iret rfl True.intro (Nat.le_refl _) (Nat.le_refl _) hK
    · refine eg_k_aload rfl rfl ?_
      refine eg_k_iload rfl rfl ?_
      refine eg_k_iload rfl rfl ?_
      obtain ⟨r11, h10, hx⟩ := vb_bind hx
      refine eg_k_call (c1 := 0) (z1 := 0) (as := [.inr (.inr (some 45)), .inl a, .inl b]) (rest := []) rfl eg_tj230 (Nat.le_of_ble_eq_true rfl) rfl rfl rfl (Nat.le_of_ble_eq_true rfl) (Nat.le_refl _) (Nat.le_refl _) ?_ (fun Q hQ => ft_230 h10 hQ)
      have hx := Option.some.inj hx
      subst hx
      exact eg_k_iret rfl True.intro (Nat.le_refl _) (Nat.le_refl _) hK
  · refine eg_k_aload rfl rfl ?_
    refine eg_k_iload rfl rfl ?_
    refine eg_k_aload rfl rfl ?_
    refine eg_k_gfa rfl rfl rfl eh_r45_52 ?_
    refine eg_k_iload rfl rfl ?_
    obtain ⟨b13, hx⟩ := vb_if hx
    refine eg_k_lald (k := 19000) rfl rfl b13.1 b13.2 ?_
    refine eg_k_aload rfl rfl ?_
    refine eg_k_gfa rfl rfl rfl eh_r45_52 ?_
    refine eg_k_iload rfl rfl ?_
    refine eg_k_ci rfl ?_
    refine eg_k_iadd rfl ?_
    obtain ⟨b14, hx⟩ := vb_if hx
    refine eg_k_lald (k := 19000) rfl rfl b14.1 b14.2 ?_
    obtain ⟨r16, h15, hx⟩ := vb_bind hx
    refine eg_k_call (c1 := 0) (z1 := 0) (as := [.inr (.inr (some 45)), .inl a, .inr (.inl (M 77 (b).toNat)), .inr (.inl (M 77 (eg_wi (b + 1)).toNat))]) (rest := []) rfl eg_tj227 (Nat.le_of_ble_eq_true rfl) rfl rfl rfl (Nat.le_of_ble_eq_true rfl) (Nat.le_refl _) (Nat.le_refl _) ?_ (fun Q hQ => ft_227 h15 hQ)
    have hx := Option.some.inj hx
    subst hx
    exact eg_k_iret rfl True.intro (Nat.le_refl _) (Nat.le_refl _) hK
theorem fw_226 {M : eM} {c : Nat} {a : Int} {b : Int} {x : Int × eM} (hx : fn_226 a b M = some x) (hc : c ∉ ([45, 62, 63, 65, 66, 67, 68, 69, 70, 71, 73, 74, 75, 76, 85, 86, 87] : List Nat)) (j : Nat) : ((x).2) c j = M c j := by
  obtain ⟨v, hK⟩ : ∃ v, ((x).2) c j = v := ⟨_, rfl⟩
  rw [hK]
  refine Eq.symm ?_
  refine vb_ite hx (fun _ hx => ?_) (fun _ hx => ?_)
  · refine vb_ite hx (fun _ hx => ?_) (fun _ hx => ?_)
    · refine vb_ite hx (fun _ hx => ?_) (fun _ hx => ?_)
      · obtain ⟨r5, h4, hx⟩ := vb_bind hx
        have hx := Option.some.inj hx
        subst hx
        exact ((fw_237 h4 (vsub hc (by decide)) j).trans rfl).symm.trans hK
      · obtain ⟨r8, h7, hx⟩ := vb_bind hx
        have hx := Option.some.inj hx
        subst hx
        exact ((fw_233 h7 (vsub hc (by decide)) j).trans rfl).symm.trans hK
    · obtain ⟨r11, h10, hx⟩ := vb_bind hx
      have hx := Option.some.inj hx
      subst hx
      exact ((fw_230 h10 (vsub hc (by decide)) j).trans rfl).symm.trans hK
  · obtain ⟨_, hx⟩ := vb_if hx
    obtain ⟨_, hx⟩ := vb_if hx
    obtain ⟨r16, h15, hx⟩ := vb_bind hx
    have hx := Option.some.inj hx
    subst hx
    exact ((fw_227 h15 (vsub hc (by decide)) j).trans rfl).symm.trans hK
/-- 222: WeakSchemeModel.apply(II)I -/
noncomputable def fn_222 (a : Int) (b : Int) (M : eM) : Option (Int × eM) :=
  if 0 ≤ a ∧ a < 19000 then
  (fn_223 (M 77 (a).toNat) 2 M).bind fun r3 =>
    if r3 = 0 then
      if (M 77 (a).toNat) < 0 then
        (fn_185 6 M).bind fun r8 =>
        some (r8.1, r8.2)
      else
        if (eb_lshr (M 77 (a).toNat) 32) = 5 then
          (fn_225 (eg_wi ((eg_wi (M 77 (a).toNat)) - 10)) M).bind fun r12 =>
          if r12 = b then
            if ¬ (eg_wi ((eg_wi (M 77 (a).toNat)) - 10)) = 31 then
              (fn_226 (eg_wi ((eg_wi (M 77 (a).toNat)) - 10)) (eg_wi (a + 1)) M).bind fun r17 =>
              if 0 ≤ r17.1 then
                (fn_213 (r17.2 45 70) r17.2).bind fun r21 =>
                some (r21.1, r21.2)
              else
                some ((-1), r17.2)
            else
              (fn_197 M).bind fun r24 =>
              if ¬ r24.1 = 0 then
                if 0 ≤ (eg_wi ((r24.2 45 53) - 1)) ∧ (eg_wi ((r24.2 45 53) - 1)) < 4400 then
                (fn_209 12 0 (-1) 0 (eg_u (eg_u r24.2 80 (eg_wi ((r24.2 45 53) - 1)).toNat (-3)) 45 51 a)).bind fun m30 =>
                  some (3, m30)
                else none
              else
                (fn_185 4 r24.2).bind fun r32 =>
                some (r32.1, r32.2)
          else
            (fn_185 7 M).bind fun r35 =>
            some (r35.1, r35.2)
        else
          (fn_185 6 M).bind fun r38 =>
          some (r38.1, r38.2)
    else
      (fn_187 (M 77 (a).toNat) M).bind fun r41 =>
      if 0 ≤ r41 ∧ r41 < 6700 then
      (fn_176 (M 64 (r41).toNat) M).bind fun r45 =>
        if 0 ≤ r45 ∧ r45 < 20100 then
        if (M 55 (r45).toNat) = b then
            (fn_224 (M 77 (a).toNat) a b M).bind fun r50 =>
            some (r50.1, r50.2)
          else
            (fn_185 7 M).bind fun r53 =>
            some (r53.1, r53.2)
        else none
      else none
  else none
set_option maxRecDepth 100000 in
theorem ft_222 {cn mo : Nat} {sc : eg_Sc} {d : Nat} {M : eM} {Q : Option eg_V → eg_H → Prop} {a : Int} {b : Int} {x : Int × eM} (hx : fn_222 a b M = some x) (hK : Q (some (.inl ((x).1))) (em_L cn mo, eh_R, (x).2)) : eg_wp sc (d + 12) 222 [.inr (.inr (some 45)), .inl a, .inl b] (em_L cn mo, eh_R, M) 0 0 Q := by
  refine eg_in (lv := [some (.inr (.inr (some 45))), some (.inl a), some (.inl b), none, none, none, none]) eg_tj222 (Nat.le_of_ble_eq_true rfl) rfl ?_
  refine eg_k_aload rfl rfl ?_
  refine eg_k_gfa rfl rfl rfl eh_r45_52 ?_
  refine eg_k_iload rfl rfl ?_
  obtain ⟨b1, hx⟩ := vb_if hx
  refine eg_k_lald (k := 19000) rfl rfl b1.1 b1.2 ?_
  refine eg_k_lstore (lv' := [some (.inr (.inr (some 45))), some (.inl a), some (.inl b), some (.inr (.inl (M 77 (a).toNat))), none, none, none]) rfl rfl ?_
  refine eg_k_aload rfl rfl ?_
  refine eg_k_lload rfl rfl ?_
  refine eg_k_ci rfl ?_
  obtain ⟨r3, h2, hx⟩ := vb_bind hx
  refine eg_k_call (c1 := 0) (z1 := 0) (as := [.inr (.inr (some 45)), .inr (.inl (M 77 (a).toNat)), .inl 2]) (rest := []) rfl eg_tj223 (Nat.le_of_ble_eq_true rfl) rfl rfl rfl (Nat.le_of_ble_eq_true rfl) (Nat.le_refl _) (Nat.le_refl _) ?_ (fun Q hQ => ft_223 h2 hQ)
  refine vk_if rfl hx Iff.rfl (fun c5 hx => ?_) (fun c5 hx => ?_)
  · refine eg_k_lload rfl rfl ?_
    refine eg_k_cl rfl ?_
    refine vk_lcmp rfl rfl hx Iff.rfl (fun c6 hx => ?_) (fun c6 hx => ?_)
    · refine eg_k_aload rfl rfl ?_
      refine eg_k_ci rfl ?_
      obtain ⟨r8, h7, hx⟩ := vb_bind hx
      refine eg_k_call (c1 := 0) (z1 := 0) (as := [.inr (.inr (some 45)), .inl 6]) (rest := []) rfl eg_tj185 (Nat.le_of_ble_eq_true rfl) rfl rfl rfl (Nat.le_of_ble_eq_true rfl) (Nat.le_refl _) (Nat.le_refl _) ?_ (fun Q hQ => ft_185 h7 hQ)
      have hx := Option.some.inj hx
      subst hx
      exact eg_k_iret rfl True.intro (Nat.le_refl _) (Nat.le_refl _) hK
    · refine eg_k_lload rfl rfl ?_
      refine eg_k_ci rfl ?_
      refine eg_k_lshr rfl ?_
      refine eg_k_cl rfl ?_
      refine vk_lcmp rfl rfl hx Iff.rfl (fun c10 hx => ?_) (fun c10 hx => ?_)
      · refine eg_k_lload rfl rfl ?_
        refine eg_k_l2i rfl ?_
        refine eg_k_ci rfl ?_
        refine eg_k_isub rfl ?_
        refine eg_k_istore (lv' := [some (.inr (.inr (some 45))), some (.inl a), some (.inl b), some (.inr (.inl (M 77 (a).toNat))), none, some (.inl (eg_wi ((eg_wi (M 77 (a).toNat)) - 10))), none]) rfl rfl ?_
        refine eg_k_iload rfl rfl ?_
        obtain ⟨r12, h11, hx⟩ := vb_bind hx
        refine eg_k_call (c1 := 0) (z1 := 0) (as := [.inl (eg_wi ((eg_wi (M 77 (a).toNat)) - 10))]) (rest := []) rfl eg_tj225 (Nat.le_of_ble_eq_true rfl) rfl rfl trivial (Nat.le_of_ble_eq_true rfl) (Nat.le_refl _) (Nat.le_refl _) ?_ (fun Q hQ => ft_225 h11 hQ)
        refine eg_k_iload rfl rfl ?_
        refine vk_icmp rfl hx Iff.rfl (fun c14 hx => ?_) (fun c14 hx => ?_)
        · refine eg_k_iload rfl rfl ?_
          refine eg_k_ci rfl ?_
          refine vk_icmp rfl hx Iff.rfl (fun c15 hx => ?_) (fun c15 hx => ?_)
          · refine eg_k_aload rfl rfl ?_
            refine eg_k_iload rfl rfl ?_
            refine eg_k_iload rfl rfl ?_
            refine eg_k_ci rfl ?_
            refine eg_k_iadd rfl ?_
            obtain ⟨r17, h16, hx⟩ := vb_bind hx
            refine eg_k_call (c1 := 0) (z1 := 0) (as := [.inr (.inr (some 45)), .inl (eg_wi ((eg_wi (M 77 (a).toNat)) - 10)), .inl (eg_wi (a + 1))]) (rest := []) rfl eg_tj226 (Nat.le_of_ble_eq_true rfl) rfl rfl rfl (Nat.le_of_ble_eq_true rfl) (Nat.le_refl _) (Nat.le_refl _) ?_ (fun Q hQ => ft_226 h16 hQ)
            refine eg_k_istore (lv' := [some (.inr (.inr (some 45))), some (.inl a), some (.inl b), some (.inr (.inl (M 77 (a).toNat))), none, some (.inl (eg_wi ((eg_wi (M 77 (a).toNat)) - 10))), some (.inl r17.1)]) rfl rfl ?_
            refine eg_k_iload rfl rfl ?_
            refine vk_if rfl hx Iff.rfl (fun c19 hx => ?_) (fun c19 hx => ?_)
            · refine eg_k_aload rfl rfl ?_
              refine eg_k_aload rfl rfl ?_
              refine eg_k_gfl rfl rfl rfl ?_
              obtain ⟨r21, h20, hx⟩ := vb_bind hx
              refine eg_k_call (c1 := 0) (z1 := 0) (as := [.inr (.inr (some 45)), .inr (.inl (r17.2 45 70))]) (rest := []) rfl eg_tj213 (Nat.le_of_ble_eq_true rfl) rfl rfl rfl (Nat.le_of_ble_eq_true rfl) (Nat.le_refl _) (Nat.le_refl _) ?_ (fun Q hQ => ft_213 h20 hQ)
              have hx := Option.some.inj hx
              subst hx
              exact eg_k_iret rfl True.intro (Nat.le_refl _) (Nat.le_refl _) hK
            · refine eg_k_ci rfl ?_
              refine eg_k_goto rfl ?_
              have hx := Option.some.inj hx
              subst hx
              exact eg_k_iret rfl True.intro (Nat.le_refl _) (Nat.le_refl _) hK
          · refine eg_k_aload rfl rfl ?_
            obtain ⟨r24, h23, hx⟩ := vb_bind hx
            refine eg_k_call (c1 := 0) (z1 := 0) (as := [.inr (.inr (some 45))]) (rest := []) rfl eg_tj197 (Nat.le_of_ble_eq_true rfl) rfl rfl rfl (Nat.le_of_ble_eq_true rfl) (Nat.le_refl _) (Nat.le_refl _) ?_ (fun Q hQ => ft_197 h23 hQ)
            refine vk_if rfl hx Iff.rfl (fun c26 hx => ?_) (fun c26 hx => ?_)
            · refine eg_k_aload rfl rfl ?_
              refine eg_k_gfa rfl rfl rfl eh_r45_56 ?_
              refine eg_k_aload rfl rfl ?_
              refine eg_k_gfi rfl rfl rfl ?_
              refine eg_k_ci rfl ?_
              refine eg_k_isub rfl ?_
              refine eg_k_ci rfl ?_
              obtain ⟨b27, hx⟩ := vb_if hx
              refine eg_k_iast (k := 4400) rfl rfl b27.1 b27.2 ?_
              refine eg_k_aload rfl rfl ?_
              refine eg_k_iload rfl rfl ?_
              refine eg_k_pfi rfl rfl rfl ?_
              refine eg_k_aload rfl rfl ?_
              refine eg_k_ci rfl ?_
              refine eg_k_ci rfl ?_
              refine eg_k_cl rfl ?_
              refine eg_k_ci rfl ?_
              obtain ⟨m30, h28, hx⟩ := vb_bind hx
              refine eg_k_call (c1 := 0) (z1 := 0) (as := [.inr (.inr (some 45)), .inl 12, .inl 0, .inr (.inl (-1)), .inl 0]) (rest := []) rfl eg_tj209 (Nat.le_of_ble_eq_true rfl) rfl rfl rfl (Nat.le_of_ble_eq_true rfl) (Nat.le_refl _) (Nat.le_refl _) ?_ (fun Q hQ => ft_209 h28 hQ)
              refine eg_k_ci rfl ?_
              have hx := Option.some.inj hx
              subst hx
              exact eg_k_iret rfl True.intro (Nat.le_refl _) (Nat.le_refl _) hK
            · refine eg_k_aload rfl rfl ?_
              refine eg_k_ci rfl ?_
              obtain ⟨r32, h31, hx⟩ := vb_bind hx
              refine eg_k_call (c1 := 0) (z1 := 0) (as := [.inr (.inr (some 45)), .inl 4]) (rest := []) rfl eg_tj185 (Nat.le_of_ble_eq_true rfl) rfl rfl rfl (Nat.le_of_ble_eq_true rfl) (Nat.le_refl _) (Nat.le_refl _) ?_ (fun Q hQ => ft_185 h31 hQ)
              have hx := Option.some.inj hx
              subst hx
              exact eg_k_iret rfl True.intro (Nat.le_refl _) (Nat.le_refl _) hK
        · refine eg_k_aload rfl rfl ?_
          refine eg_k_ci rfl ?_
          obtain ⟨r35, h34, hx⟩ := vb_bind hx
          refine eg_k_call (c1 := 0) (z1 := 0) (as := [.inr (.inr (some 45)), .inl 7]) (rest := []) rfl eg_tj185 (Nat.le_of_ble_eq_true rfl) rfl rfl rfl (Nat.le_of_ble_eq_true rfl) (Nat.le_refl _) (Nat.le_refl _) ?_ (fun Q hQ => ft_185 h34 hQ)
          have hx := Option.some.inj hx
          subst hx
          exact eg_k_iret rfl True.intro (Nat.le_refl _) (Nat.le_refl _) hK
      · refine eg_k_aload rfl rfl ?_
        refine eg_k_ci rfl ?_
        obtain ⟨r38, h37, hx⟩ := vb_bind hx
        refine eg_k_call (c1 := 0) (z1 := 0) (as := [.inr (.inr (some 45)), .inl 6]) (rest := []) rfl eg_tj185 (Nat.le_of_ble_eq_true rfl) rfl rfl rfl (Nat.le_of_ble_eq_true rfl) (Nat.le_refl _) (Nat.le_refl _) ?_ (fun Q hQ => ft_185 h37 hQ)
        have hx := Option.some.inj hx
        subst hx
        exact eg_k_iret rfl True.intro (Nat.le_refl _) (Nat.le_refl _) hK
  · refine eg_k_aload rfl rfl ?_
    refine eg_k_gfa rfl rfl rfl eh_r45_32 ?_
    refine eg_k_lload rfl rfl ?_
    obtain ⟨r41, h40, hx⟩ := vb_bind hx
    refine eg_k_call (c1 := 0) (z1 := 0) (as := [.inr (.inl (M 77 (a).toNat))]) (rest := [.inr (.inr (some 64))]) rfl eg_tj187 (Nat.le_of_ble_eq_true rfl) rfl rfl trivial (Nat.le_of_ble_eq_true rfl) (Nat.le_refl _) (Nat.le_refl _) ?_ (fun Q hQ => ft_187 h40 hQ)
    obtain ⟨b43, hx⟩ := vb_if hx
    refine eg_k_iald (k := 6700) rfl rfl b43.1 b43.2 ?_
    refine eg_k_istore (lv' := [some (.inr (.inr (some 45))), some (.inl a), some (.inl b), some (.inr (.inl (M 77 (a).toNat))), none, some (.inl (M 64 (r41).toNat)), none]) rfl rfl ?_
    refine eg_k_aload rfl rfl ?_
    refine eg_k_gfa rfl rfl rfl eh_r45_14 ?_
    refine eg_k_aload rfl rfl ?_
    refine eg_k_iload rfl rfl ?_
    obtain ⟨r45, h44, hx⟩ := vb_bind hx
    refine eg_k_call (c1 := 0) (z1 := 0) (as := [.inr (.inr (some 45)), .inl (M 64 (r41).toNat)]) (rest := [.inr (.inr (some 55))]) rfl eg_tj176 (Nat.le_of_ble_eq_true rfl) rfl rfl rfl (Nat.le_of_ble_eq_true rfl) (Nat.le_refl _) (Nat.le_refl _) ?_ (fun Q hQ => ft_176 h44 hQ)
    obtain ⟨b47, hx⟩ := vb_if hx
    refine eg_k_sald (k := 20100) rfl rfl b47.1 b47.2 ?_
    refine eg_k_iload rfl rfl ?_
    refine vk_icmp rfl hx Iff.rfl (fun c48 hx => ?_) (fun c48 hx => ?_)
    · refine eg_k_aload rfl rfl ?_
      refine eg_k_lload rfl rfl ?_
      refine eg_k_iload rfl rfl ?_
      refine eg_k_iload rfl rfl ?_
      obtain ⟨r50, h49, hx⟩ := vb_bind hx
      refine eg_k_call (c1 := 0) (z1 := 0) (as := [.inr (.inr (some 45)), .inr (.inl (M 77 (a).toNat)), .inl a, .inl b]) (rest := []) rfl eg_tj224 (Nat.le_of_ble_eq_true rfl) rfl rfl rfl (Nat.le_of_ble_eq_true rfl) (Nat.le_refl _) (Nat.le_refl _) ?_ (fun Q hQ => ft_224 h49 hQ)
      have hx := Option.some.inj hx
      subst hx
      exact eg_k_iret rfl True.intro (Nat.le_refl _) (Nat.le_refl _) hK
    · refine eg_k_aload rfl rfl ?_
      refine eg_k_ci rfl ?_
      obtain ⟨r53, h52, hx⟩ := vb_bind hx
      refine eg_k_call (c1 := 0) (z1 := 0) (as := [.inr (.inr (some 45)), .inl 7]) (rest := []) rfl eg_tj185 (Nat.le_of_ble_eq_true rfl) rfl rfl rfl (Nat.le_of_ble_eq_true rfl) (Nat.le_refl _) (Nat.le_refl _) ?_ (fun Q hQ => ft_185 h52 hQ)
      have hx := Option.some.inj hx
      subst hx
      exact eg_k_iret rfl True.intro (Nat.le_refl _) (Nat.le_refl _) hK
theorem fw_222 {M : eM} {c : Nat} {a : Int} {b : Int} {x : Int × eM} (hx : fn_222 a b M = some x) (hc : c ∉ ([45, 62, 63, 64, 65, 66, 67, 68, 69, 70, 71, 73, 74, 75, 76, 78, 79, 80, 81, 82, 85, 86, 87] : List Nat)) (j : Nat) : ((x).2) c j = M c j := by
  obtain ⟨v, hK⟩ : ∃ v, ((x).2) c j = v := ⟨_, rfl⟩
  rw [hK]
  refine Eq.symm ?_
  obtain ⟨_, hx⟩ := vb_if hx
  obtain ⟨r3, h2, hx⟩ := vb_bind hx
  refine vb_ite hx (fun _ hx => ?_) (fun _ hx => ?_)
  · refine vb_ite hx (fun _ hx => ?_) (fun _ hx => ?_)
    · obtain ⟨r8, h7, hx⟩ := vb_bind hx
      have hx := Option.some.inj hx
      subst hx
      exact ((fw_185 h7 (vsub hc (by decide)) j).trans rfl).symm.trans hK
    · refine vb_ite hx (fun _ hx => ?_) (fun _ hx => ?_)
      · obtain ⟨r12, h11, hx⟩ := vb_bind hx
        refine vb_ite hx (fun _ hx => ?_) (fun _ hx => ?_)
        · refine vb_ite hx (fun _ hx => ?_) (fun _ hx => ?_)
          · obtain ⟨r17, h16, hx⟩ := vb_bind hx
            refine vb_ite hx (fun _ hx => ?_) (fun _ hx => ?_)
            · obtain ⟨r21, h20, hx⟩ := vb_bind hx
              have hx := Option.some.inj hx
              subst hx
              exact ((fw_213 h20 (vsub hc (by decide)) j).trans ((fw_226 h16 (vsub hc (by decide)) j).trans rfl)).symm.trans hK
            · have hx := Option.some.inj hx
              subst hx
              exact ((fw_226 h16 (vsub hc (by decide)) j).trans rfl).symm.trans hK
          · obtain ⟨r24, h23, hx⟩ := vb_bind hx
            refine vb_ite hx (fun _ hx => ?_) (fun _ hx => ?_)
            · obtain ⟨_, hx⟩ := vb_if hx
              obtain ⟨m30, h28, hx⟩ := vb_bind hx
              have hx := Option.some.inj hx
              subst hx
              exact ((fw_209 h28 (vsub hc (by decide)) j).trans ((congrFun (eg_u_ne (vne hc (a := 45) (by decide))) j).trans ((congrFun (eg_u_ne (vne hc (a := 80) (by decide))) j).trans ((fw_197 h23 (vsub hc (by decide)) j).trans rfl)))).symm.trans hK
            · obtain ⟨r32, h31, hx⟩ := vb_bind hx
              have hx := Option.some.inj hx
              subst hx
              exact ((fw_185 h31 (vsub hc (by decide)) j).trans ((fw_197 h23 (vsub hc (by decide)) j).trans rfl)).symm.trans hK
        · obtain ⟨r35, h34, hx⟩ := vb_bind hx
          have hx := Option.some.inj hx
          subst hx
          exact ((fw_185 h34 (vsub hc (by decide)) j).trans rfl).symm.trans hK
      · obtain ⟨r38, h37, hx⟩ := vb_bind hx
        have hx := Option.some.inj hx
        subst hx
        exact ((fw_185 h37 (vsub hc (by decide)) j).trans rfl).symm.trans hK
  · obtain ⟨r41, h40, hx⟩ := vb_bind hx
    obtain ⟨_, hx⟩ := vb_if hx
    obtain ⟨r45, h44, hx⟩ := vb_bind hx
    obtain ⟨_, hx⟩ := vb_if hx
    refine vb_ite hx (fun _ hx => ?_) (fun _ hx => ?_)
    · obtain ⟨r50, h49, hx⟩ := vb_bind hx
      have hx := Option.some.inj hx
      subst hx
      exact ((fw_224 h49 (vsub hc (by decide)) j).trans rfl).symm.trans hK
    · obtain ⟨r53, h52, hx⟩ := vb_bind hx
      have hx := Option.some.inj hx
      subst hx
      exact ((fw_185 h52 (vsub hc (by decide)) j).trans rfl).symm.trans hK
/-- 221: WeakSchemeModel.stepCall()I -/
noncomputable def fn_221 (M : eM) : Option (Int × eM) :=
  if 0 ≤ (eg_wi ((M 45 53) - 1)) ∧ (eg_wi ((M 45 53) - 1)) < 4400 then
  if ¬ (M 80 (eg_wi ((M 45 53) - 1)).toNat) = (-3) then
      (fn_217 (M 45 70) M).bind fun m5 =>
      if 0 ≤ (m5 80 (eg_wi ((M 45 53) - 1)).toNat) ∧ (m5 80 (eg_wi ((M 45 53) - 1)).toNat) < 20100 then
      if (m5 53 (m5 80 (eg_wi ((M 45 53) - 1)).toNat).toNat) < 0 then
          (fn_222 (m5 81 (eg_wi ((M 45 53) - 1)).toNat) (eg_wi ((eg_wi ((m5 45 51) - (m5 81 (eg_wi ((M 45 53) - 1)).toNat))) - 1)) (eg_u m5 80 (eg_wi ((M 45 53) - 1)).toNat (m5 53 (m5 80 (eg_wi ((M 45 53) - 1)).toNat).toNat))).bind fun r14 =>
          some (r14.1, r14.2)
        else
          some (2, eg_u m5 80 (eg_wi ((M 45 53) - 1)).toNat (m5 53 (m5 80 (eg_wi ((M 45 53) - 1)).toNat).toNat))
      else none
    else
      (fn_213 (M 45 70) M).bind fun r17 =>
      some (r17.1, r17.2)
  else none
set_option maxRecDepth 100000 in
theorem ft_221 {cn mo : Nat} {sc : eg_Sc} {d : Nat} {M : eM} {Q : Option eg_V → eg_H → Prop} {x : Int × eM} (hx : fn_221 M = some x) (hK : Q (some (.inl ((x).1))) (em_L cn mo, eh_R, (x).2)) : eg_wp sc (d + 13) 221 [.inr (.inr (some 45))] (em_L cn mo, eh_R, M) 0 0 Q := by
  refine eg_in (lv := [some (.inr (.inr (some 45))), none]) eg_tj221 (Nat.le_of_ble_eq_true rfl) rfl ?_
  refine eg_k_aload rfl rfl ?_
  refine eg_k_gfi rfl rfl rfl ?_
  refine eg_k_ci rfl ?_
  refine eg_k_isub rfl ?_
  refine eg_k_istore (lv' := [some (.inr (.inr (some 45))), some (.inl (eg_wi ((M 45 53) - 1)))]) rfl rfl ?_
  refine eg_k_aload rfl rfl ?_
  refine eg_k_gfa rfl rfl rfl eh_r45_56 ?_
  refine eg_k_iload rfl rfl ?_
  obtain ⟨b1, hx⟩ := vb_if hx
  refine eg_k_iald (k := 4400) rfl rfl b1.1 b1.2 ?_
  refine eg_k_ci rfl ?_
  refine vk_icmp rfl hx Iff.rfl (fun c2 hx => ?_) (fun c2 hx => ?_)
  · refine eg_k_aload rfl rfl ?_
    refine eg_k_aload rfl rfl ?_
    refine eg_k_gfl rfl rfl rfl ?_
    obtain ⟨m5, h3, hx⟩ := vb_bind hx
    refine eg_k_call (c1 := 0) (z1 := 0) (as := [.inr (.inr (some 45)), .inr (.inl (M 45 70))]) (rest := []) rfl eg_tj217 (Nat.le_of_ble_eq_true rfl) rfl rfl rfl (Nat.le_of_ble_eq_true rfl) (Nat.le_refl _) (Nat.le_refl _) ?_ (fun Q hQ => ft_217 h3 hQ)
    refine eg_k_aload rfl rfl ?_
    refine eg_k_gfa rfl rfl rfl eh_r45_56 ?_
    refine eg_k_iload rfl rfl ?_
    refine eg_k_aload rfl rfl ?_
    refine eg_k_gfa rfl rfl rfl eh_r45_12 ?_
    refine eg_k_aload rfl rfl ?_
    refine eg_k_gfa rfl rfl rfl eh_r45_56 ?_
    refine eg_k_iload rfl rfl ?_
    refine eg_k_iald (k := 4400) rfl rfl b1.1 b1.2 ?_
    obtain ⟨b7, hx⟩ := vb_if hx
    refine eg_k_iald (k := 20100) rfl rfl b7.1 b7.2 ?_
    refine eg_k_iast (k := 4400) rfl rfl b1.1 b1.2 ?_
    refine eg_k_aload rfl rfl ?_
    refine eg_k_gfa rfl rfl rfl eh_r45_56 ?_
    refine eg_k_iload rfl rfl ?_
    refine vk_iald (k := 4400) (y := m5 53 (m5 80 (eg_wi ((M 45 53) - 1)).toNat).toNat) rfl rfl b1.1 b1.2 (show eg_u m5 80 (eg_wi ((M 45 53) - 1)).toNat (m5 53 (m5 80 (eg_wi ((M 45 53) - 1)).toNat).toNat) 80 (eg_wi ((M 45 53) - 1)).toNat = _ from eg_u_eq) ?_
    refine vk_if rfl hx Iff.rfl (fun c10 hx => ?_) (fun c10 hx => ?_)
    · refine eg_k_aload rfl rfl ?_
      refine eg_k_aload rfl rfl ?_
      refine eg_k_gfa rfl rfl rfl eh_r45_57 ?_
      refine eg_k_iload rfl rfl ?_
      refine vk_iald (k := 4400) (y := m5 81 (eg_wi ((M 45 53) - 1)).toNat) rfl rfl b1.1 b1.2 rfl ?_
      refine eg_k_aload rfl rfl ?_
      refine eg_k_gfie (x := m5 45 51) rfl rfl rfl rfl ?_
      refine eg_k_aload rfl rfl ?_
      refine eg_k_gfa rfl rfl rfl eh_r45_57 ?_
      refine eg_k_iload rfl rfl ?_
      refine vk_iald (k := 4400) (y := m5 81 (eg_wi ((M 45 53) - 1)).toNat) rfl rfl b1.1 b1.2 rfl ?_
      refine eg_k_isub rfl ?_
      refine eg_k_ci rfl ?_
      refine eg_k_isub rfl ?_
      obtain ⟨r14, h13, hx⟩ := vb_bind hx
      refine eg_k_call (c1 := 0) (z1 := 0) (as := [.inr (.inr (some 45)), .inl (m5 81 (eg_wi ((M 45 53) - 1)).toNat), .inl (eg_wi ((eg_wi ((m5 45 51) - (m5 81 (eg_wi ((M 45 53) - 1)).toNat))) - 1))]) (rest := []) rfl eg_tj222 (Nat.le_of_ble_eq_true rfl) rfl rfl rfl (Nat.le_of_ble_eq_true rfl) (Nat.le_refl _) (Nat.le_refl _) ?_ (fun Q hQ => ft_222 h13 hQ)
      have hx := Option.some.inj hx
      subst hx
      exact eg_k_iret rfl True.intro (Nat.le_refl _) (Nat.le_refl _) hK
    · refine eg_k_ci rfl ?_
      have hx := Option.some.inj hx
      subst hx
      exact eg_k_iret rfl True.intro (Nat.le_refl _) (Nat.le_refl _) hK
  · refine eg_k_aload rfl rfl ?_
    refine eg_k_aload rfl rfl ?_
    refine eg_k_gfl rfl rfl rfl ?_
    obtain ⟨r17, h16, hx⟩ := vb_bind hx
    refine eg_k_call (c1 := 0) (z1 := 0) (as := [.inr (.inr (some 45)), .inr (.inl (M 45 70))]) (rest := []) rfl eg_tj213 (Nat.le_of_ble_eq_true rfl) rfl rfl rfl (Nat.le_of_ble_eq_true rfl) (Nat.le_refl _) (Nat.le_refl _) ?_ (fun Q hQ => ft_213 h16 hQ)
    have hx := Option.some.inj hx
    subst hx
    exact eg_k_iret rfl True.intro (Nat.le_refl _) (Nat.le_refl _) hK
theorem fw_221 {M : eM} {c : Nat} {x : Int × eM} (hx : fn_221 M = some x) (hc : c ∉ ([45, 62, 63, 64, 65, 66, 67, 68, 69, 70, 71, 73, 74, 75, 76, 77, 78, 79, 80, 81, 82, 85, 86, 87] : List Nat)) (j : Nat) : ((x).2) c j = M c j := by
  obtain ⟨v, hK⟩ : ∃ v, ((x).2) c j = v := ⟨_, rfl⟩
  rw [hK]
  refine Eq.symm ?_
  obtain ⟨_, hx⟩ := vb_if hx
  refine vb_ite hx (fun _ hx => ?_) (fun _ hx => ?_)
  · obtain ⟨m5, h3, hx⟩ := vb_bind hx
    obtain ⟨_, hx⟩ := vb_if hx
    refine vb_ite hx (fun _ hx => ?_) (fun _ hx => ?_)
    · obtain ⟨r14, h13, hx⟩ := vb_bind hx
      have hx := Option.some.inj hx
      subst hx
      exact ((fw_222 h13 (vsub hc (by decide)) j).trans ((congrFun (eg_u_ne (vne hc (a := 80) (by decide))) j).trans ((fw_217 h3 (vsub hc (by decide)) j).trans rfl))).symm.trans hK
    · have hx := Option.some.inj hx
      subst hx
      exact ((congrFun (eg_u_ne (vne hc (a := 80) (by decide))) j).trans ((fw_217 h3 (vsub hc (by decide)) j).trans rfl)).symm.trans hK
  · obtain ⟨r17, h16, hx⟩ := vb_bind hx
    have hx := Option.some.inj hx
    subst hx
    exact ((fw_213 h16 (vsub hc (by decide)) j).trans rfl).symm.trans hK
noncomputable def fn_246_30 (x1 : Int) (s1 : Int) (s2 : eM) : Option ((Int × eM) ⊕ (Int × eM)) :=
  if (s2 45 48) ≤ s1 then
    if 0 ≤ x1 ∧ x1 < 19000 then
    (fn_224 (s2 77 (x1).toNat) x1 1 s2).bind fun r13 =>
      some (.inr (r13.1, r13.2))
    else none
  else
    if 0 ≤ (eg_wi (s1 + 1)) ∧ (eg_wi (s1 + 1)) < 501 then
    if 0 ≤ s1 ∧ s1 < 501 then
      some (.inl (eg_wi (s1 + 1), eg_u (eg_u s2 76 (s1).toNat (s2 76 (eg_wi (s1 + 1)).toNat)) 75 (s1).toNat (s2 75 (eg_wi (s1 + 1)).toNat)))
      else none
    else none
/-- 246: WeakSchemeModel.stepQueue()I -/
noncomputable def fn_246 (M : eM) : Option (Int × eM) :=
  if ¬ (M 45 48) = 0 then
    if 0 ≤ (0 : Int) ∧ (0 : Int) < 501 then
    (fn_217 (M 76 (0 : Int).toNat) M).bind fun m5 =>
      (fn_217 (m5 75 (0 : Int).toNat) m5).bind fun m9 =>
      lp (fun z => fn_246_30 (M 45 51) z.1 z.2) (0, eg_u m9 45 48 (eg_wi ((m9 45 48) - 1)))
    else none
  else
    (fn_213 12884901888 M).bind fun r20 =>
    some (r20.1, r20.2)
set_option maxRecDepth 100000 in
theorem ft_246_30 {cn mo : Nat} {sc : eg_Sc} {d : Nat} {Q : Option eg_V → eg_H → Prop} {x1 : Int} {s : Int × eM} {x : Int × eM} (hx : lp (fun z => fn_246_30 x1 z.1 z.2) s = some x) (hK : (fun (x : Int × eM) => Q (some (.inl ((x).1))) (em_L cn mo, eh_R, (x).2)) x) : eg_X sc (eg_wp sc (d + 9)) eg_p246 (some .int) 0 0 Q 30 [some (.inr (.inr (some 45))), some (.inl x1), some (.inl s.1)] [] (em_L cn mo, eh_R, s.2) 0 0 := by
  refine lp_sound (P := (fun (s : Int × eM) => eg_X sc (eg_wp sc (d + 9)) eg_p246 (some .int) 0 0 Q 30 [some (.inr (.inr (some 45))), some (.inl x1), some (.inl s.1)] [] (em_L cn mo, eh_R, s.2) 0 0)) (K := (fun (x : Int × eM) => Q (some (.inl ((x).1))) (em_L cn mo, eh_R, (x).2))) hx hK ?_
  intro s x hx hK
  obtain ⟨s1, s2⟩ := s
  refine eg_k_iload rfl rfl ?_
  refine eg_k_aload rfl rfl ?_
  refine eg_k_gfi rfl rfl rfl ?_
  refine vk_icmp rfl hx Iff.rfl (fun c10 hx => ?_) (fun c10 hx => ?_)
  · refine eg_k_aload rfl rfl ?_
    refine eg_k_aload rfl rfl ?_
    refine eg_k_gfa rfl rfl rfl eh_r45_52 ?_
    refine eg_k_iload rfl rfl ?_
    obtain ⟨b11, hx⟩ := vb_if hx
    refine eg_k_lald (k := 19000) rfl rfl b11.1 b11.2 ?_
    refine eg_k_iload rfl rfl ?_
    refine eg_k_ci rfl ?_
    obtain ⟨r13, h12, hx⟩ := vb_bind hx
    refine eg_k_call (c1 := 0) (z1 := 0) (as := [.inr (.inr (some 45)), .inr (.inl (s2 77 (x1).toNat)), .inl x1, .inl 1]) (rest := []) rfl eg_tj224 (Nat.le_of_ble_eq_true rfl) rfl rfl rfl (Nat.le_of_ble_eq_true rfl) (Nat.le_refl _) (Nat.le_refl _) ?_ (fun Q hQ => ft_224 h12 hQ)
    have hx := Option.some.inj hx
    subst hx
    exact eg_k_iret rfl True.intro (Nat.le_refl _) (Nat.le_refl _) hK
  · refine eg_k_aload rfl rfl ?_
    refine eg_k_gfa rfl rfl rfl eh_r45_50 ?_
    refine eg_k_iload rfl rfl ?_
    refine eg_k_aload rfl rfl ?_
    refine eg_k_gfa rfl rfl rfl eh_r45_50 ?_
    refine eg_k_iload rfl rfl ?_
    refine eg_k_ci rfl ?_
    refine eg_k_iadd rfl ?_
    obtain ⟨b15, hx⟩ := vb_if hx
    refine eg_k_lald (k := 501) rfl rfl b15.1 b15.2 ?_
    obtain ⟨b16, hx⟩ := vb_if hx
    refine eg_k_last (k := 501) rfl rfl b16.1 b16.2 ?_
    refine eg_k_aload rfl rfl ?_
    refine eg_k_gfa rfl rfl rfl eh_r45_49 ?_
    refine eg_k_iload rfl rfl ?_
    refine eg_k_aload rfl rfl ?_
    refine eg_k_gfa rfl rfl rfl eh_r45_49 ?_
    refine eg_k_iload rfl rfl ?_
    refine eg_k_ci rfl ?_
    refine eg_k_iadd rfl ?_
    refine vk_lald (k := 501) (y := s2 75 (eg_wi (s1 + 1)).toNat) rfl rfl b15.1 b15.2 rfl ?_
    refine eg_k_last (k := 501) rfl rfl b16.1 b16.2 ?_
    refine eg_k_iinc (lv' := [some (.inr (.inr (some 45))), some (.inl x1), some (.inl (eg_wi (s1 + 1)))]) rfl rfl rfl ?_
    refine eg_k_goto rfl ?_
    have hx := Option.some.inj hx
    subst hx
    exact hK
set_option maxRecDepth 100000 in
theorem ft_246 {cn mo : Nat} {sc : eg_Sc} {d : Nat} {M : eM} {Q : Option eg_V → eg_H → Prop} {x : Int × eM} (hx : fn_246 M = some x) (hK : Q (some (.inl ((x).1))) (em_L cn mo, eh_R, (x).2)) : eg_wp sc (d + 10) 246 [.inr (.inr (some 45))] (em_L cn mo, eh_R, M) 0 0 Q := by
  refine eg_in (lv := [some (.inr (.inr (some 45))), none, none]) eg_tj246 (Nat.le_of_ble_eq_true rfl) rfl ?_
  refine eg_k_aload rfl rfl ?_
  refine eg_k_gfi rfl rfl rfl ?_
  refine vk_if rfl hx Iff.rfl (fun c1 hx => ?_) (fun c1 hx => ?_)
  · refine eg_k_aload rfl rfl ?_
    refine eg_k_gfi rfl rfl rfl ?_
    refine eg_k_istore (lv' := [some (.inr (.inr (some 45))), some (.inl (M 45 51)), none]) rfl rfl ?_
    refine eg_k_aload rfl rfl ?_
    refine eg_k_aload rfl rfl ?_
    refine eg_k_gfa rfl rfl rfl eh_r45_50 ?_
    refine eg_k_ci rfl ?_
    obtain ⟨b2, hx⟩ := vb_if hx
    refine eg_k_lald (k := 501) rfl rfl b2.1 b2.2 ?_
    obtain ⟨m5, h3, hx⟩ := vb_bind hx
    refine eg_k_call (c1 := 0) (z1 := 0) (as := [.inr (.inr (some 45)), .inr (.inl (M 76 (0 : Int).toNat))]) (rest := []) rfl eg_tj217 (Nat.le_of_ble_eq_true rfl) rfl rfl rfl (Nat.le_of_ble_eq_true rfl) (Nat.le_refl _) (Nat.le_refl _) ?_ (fun Q hQ => ft_217 h3 hQ)
    refine eg_k_aload rfl rfl ?_
    refine eg_k_aload rfl rfl ?_
    refine eg_k_gfa rfl rfl rfl eh_r45_49 ?_
    refine eg_k_ci rfl ?_
    refine eg_k_lald (k := 501) rfl rfl b2.1 b2.2 ?_
    obtain ⟨m9, h7, hx⟩ := vb_bind hx
    refine eg_k_call (c1 := 0) (z1 := 0) (as := [.inr (.inr (some 45)), .inr (.inl (m5 75 (0 : Int).toNat))]) (rest := []) rfl eg_tj217 (Nat.le_of_ble_eq_true rfl) rfl rfl rfl (Nat.le_of_ble_eq_true rfl) (Nat.le_refl _) (Nat.le_refl _) ?_ (fun Q hQ => ft_217 h7 hQ)
    refine eg_k_aload rfl rfl ?_
    refine eg_k_aload rfl rfl ?_
    refine eg_k_gfi rfl rfl rfl ?_
    refine eg_k_ci rfl ?_
    refine eg_k_isub rfl ?_
    refine eg_k_pfi rfl rfl rfl ?_
    refine eg_k_ci rfl ?_
    refine eg_k_istore (lv' := [some (.inr (.inr (some 45))), some (.inl (M 45 51)), some (.inl 0)]) rfl rfl ?_
    have hz := ft_246_30 (d := d) (sc := sc) hx hK
    exact hz
  · refine eg_k_aload rfl rfl ?_
    refine eg_k_cl rfl ?_
    obtain ⟨r20, h19, hx⟩ := vb_bind hx
    refine eg_k_call (c1 := 0) (z1 := 0) (as := [.inr (.inr (some 45)), .inr (.inl 12884901888)]) (rest := []) rfl eg_tj213 (Nat.le_of_ble_eq_true rfl) rfl rfl rfl (Nat.le_of_ble_eq_true rfl) (Nat.le_refl _) (Nat.le_refl _) ?_ (fun Q hQ => ft_213 h19 hQ)
    have hx := Option.some.inj hx
    subst hx
    exact eg_k_iret rfl True.intro (Nat.le_refl _) (Nat.le_refl _) hK
theorem fw_246_30 {c j : Nat} {v : Int} {x1 : Int} {s : Int × eM} {x : Int × eM} (hc : c ∉ ([45, 62, 63, 64, 65, 66, 67, 68, 69, 70, 71, 73, 74, 75, 76, 77, 78, 79, 80, 81, 82, 85] : List Nat)) (hx : lp (fun z => fn_246_30 x1 z.1 z.2) s = some x) (hK : (fun (x : Int × eM) => ((x).2) c j = v) x) : s.2 c j = v := by
  refine lp_sound (P := (fun (s : Int × eM) => s.2 c j = v)) (K := (fun (x : Int × eM) => ((x).2) c j = v)) hx hK ?_
  intro s x hx hK
  obtain ⟨s1, s2⟩ := s
  refine vb_ite hx (fun _ hx => ?_) (fun _ hx => ?_)
  · obtain ⟨_, hx⟩ := vb_if hx
    obtain ⟨r13, h12, hx⟩ := vb_bind hx
    have hx := Option.some.inj hx
    subst hx
    exact ((fw_224 h12 (vsub hc (by decide)) j).trans rfl).symm.trans hK
  · obtain ⟨_, hx⟩ := vb_if hx
    obtain ⟨_, hx⟩ := vb_if hx
    have hx := Option.some.inj hx
    subst hx
    exact ((congrFun (eg_u_ne (vne hc (a := 75) (by decide))) j).trans ((congrFun (eg_u_ne (vne hc (a := 76) (by decide))) j).trans rfl)).symm.trans hK
theorem fw_246 {M : eM} {c : Nat} {x : Int × eM} (hx : fn_246 M = some x) (hc : c ∉ ([45, 62, 63, 64, 65, 66, 67, 68, 69, 70, 71, 73, 74, 75, 76, 77, 78, 79, 80, 81, 82, 85] : List Nat)) (j : Nat) : ((x).2) c j = M c j := by
  obtain ⟨v, hK⟩ : ∃ v, ((x).2) c j = v := ⟨_, rfl⟩
  rw [hK]
  refine Eq.symm ?_
  refine vb_ite hx (fun _ hx => ?_) (fun _ hx => ?_)
  · obtain ⟨_, hx⟩ := vb_if hx
    obtain ⟨m5, h3, hx⟩ := vb_bind hx
    obtain ⟨m9, h7, hx⟩ := vb_bind hx
    have hz := fw_246_30 hc hx hK
    exact ((congrFun (eg_u_ne (vne hc (a := 45) (by decide))) j).trans ((fw_217 h7 (vsub hc (by decide)) j).trans ((fw_217 h3 (vsub hc (by decide)) j).trans rfl))).symm.trans hz
  · obtain ⟨r20, h19, hx⟩ := vb_bind hx
    have hx := Option.some.inj hx
    subst hx
    exact ((fw_213 h19 (vsub hc (by decide)) j).trans rfl).symm.trans hK
/-- 211: WeakSchemeModel.step(Z)I -/
noncomputable def fn_211 (a : Int) (M : eM) : Option (Int × eM) :=
  if 0 ≤ (eg_wi ((M 45 53) - 1)) ∧ (eg_wi ((M 45 53) - 1)) < 4400 then
  if (M 78 (eg_wi ((M 45 53) - 1)).toNat) = 1 then
      if a = 0 then
        some (2, M)
      else
        (fn_212 M).bind fun r5 =>
        some (r5.1, r5.2)
    else if (M 78 (eg_wi ((M 45 53) - 1)).toNat) = 2 then
      if a = 0 then
        some (2, M)
      else
        (fn_215 (M 79 (eg_wi ((M 45 53) - 1)).toNat) M).bind fun r9 =>
        some (r9.1, r9.2)
    else if (M 78 (eg_wi ((M 45 53) - 1)).toNat) = 3 then
      if a = 0 then
        some (2, M)
      else
        (fn_215 (M 79 (eg_wi ((M 45 53) - 1)).toNat) M).bind fun r13 =>
        some (r13.1, r13.2)
    else if (M 78 (eg_wi ((M 45 53) - 1)).toNat) = 4 then
      (fn_246 M).bind fun r16 =>
      some (r16.1, r16.2)
    else if (M 78 (eg_wi ((M 45 53) - 1)).toNat) = 5 then
      (fn_216 (M 79 (eg_wi ((M 45 53) - 1)).toNat) a M).bind fun r19 =>
      some (r19.1, r19.2)
    else if (M 78 (eg_wi ((M 45 53) - 1)).toNat) = 6 then
      if a = 0 then
        some (2, M)
      else
        (fn_218 M).bind fun r23 =>
        some (r23.1, r23.2)
    else if (M 78 (eg_wi ((M 45 53) - 1)).toNat) = 7 then
      if a = 0 then
        some (2, M)
      else
        (fn_219 (M 79 (eg_wi ((M 45 53) - 1)).toNat) M).bind fun r27 =>
        some (r27.1, r27.2)
    else if (M 78 (eg_wi ((M 45 53) - 1)).toNat) = 8 then
      (fn_220 a M).bind fun r30 =>
      some (r30.1, r30.2)
    else if (M 78 (eg_wi ((M 45 53) - 1)).toNat) = 9 then
      (fn_220 a M).bind fun r33 =>
      some (r33.1, r33.2)
    else if (M 78 (eg_wi ((M 45 53) - 1)).toNat) = 10 then
      if a = 0 then
        some (2, M)
      else
        (fn_221 M).bind fun r37 =>
        some (r37.1, r37.2)
    else if (M 78 (eg_wi ((M 45 53) - 1)).toNat) = 11 then
      if a = 0 then
        some (2, M)
      else
        (fn_218 M).bind fun r41 =>
        some (r41.1, r41.2)
    else if (M 78 (eg_wi ((M 45 53) - 1)).toNat) = 12 then
      (fn_246 M).bind fun r44 =>
      some (r44.1, r44.2)
    else if (M 78 (eg_wi ((M 45 53) - 1)).toNat) = 13 then
      (fn_246 M).bind fun r47 =>
      some (r47.1, r47.2)
    else if (M 78 (eg_wi ((M 45 53) - 1)).toNat) = 14 then
      if a = 0 then
        some (2, M)
      else
        (fn_213 (M 45 70) M).bind fun r51 =>
        some (r51.1, r51.2)
    else 
      (fn_246 M).bind fun r54 =>
      some (r54.1, r54.2)
  else none
set_option maxRecDepth 100000 in
theorem ft_211 {cn mo : Nat} {sc : eg_Sc} {d : Nat} {M : eM} {Q : Option eg_V → eg_H → Prop} {a : Int} {x : Int × eM} (hx : fn_211 a M = some x) (hK : Q (some (.inl ((x).1))) (em_L cn mo, eh_R, (x).2)) : eg_wp sc (d + 14) 211 [.inr (.inr (some 45)), .inl a] (em_L cn mo, eh_R, M) 0 0 Q := by
  refine eg_in (lv := [some (.inr (.inr (some 45))), some (.inl a), none, none]) eg_tj211 (Nat.le_of_ble_eq_true rfl) rfl ?_
  refine eg_k_aload rfl rfl ?_
  refine eg_k_gfi rfl rfl rfl ?_
  refine eg_k_ci rfl ?_
  refine eg_k_isub rfl ?_
  refine eg_k_istore (lv' := [some (.inr (.inr (some 45))), some (.inl a), some (.inl (eg_wi ((M 45 53) - 1))), none]) rfl rfl ?_
  refine eg_k_aload rfl rfl ?_
  refine eg_k_gfa rfl rfl rfl eh_r45_55 ?_
  refine eg_k_iload rfl rfl ?_
  obtain ⟨b1, hx⟩ := vb_if hx
  refine eg_k_iald (k := 4400) rfl rfl b1.1 b1.2 ?_
  refine eg_k_istore (lv' := [some (.inr (.inr (some 45))), some (.inl a), some (.inl (eg_wi ((M 45 53) - 1))), some (.inl (M 79 (eg_wi ((M 45 53) - 1)).toNat))]) rfl rfl ?_
  refine eg_k_aload rfl rfl ?_
  refine eg_k_gfa rfl rfl rfl eh_r45_54 ?_
  refine eg_k_iload rfl rfl ?_
  refine eg_k_bald (k := 4400) rfl rfl b1.1 b1.2 ?_
  refine vb_ite hx (fun e9 hx => ?_) (fun e9 hx => ?_)
  · refine eg_k_tsw (x := M 78 (eg_wi ((M 45 53) - 1)).toNat) (t := 15) rfl (by rw [e9]; rfl) ?_
    refine eg_k_iload rfl rfl ?_
    refine vk_if rfl hx Iff.rfl (fun c3 hx => ?_) (fun c3 hx => ?_)
    · refine eg_k_ci rfl ?_
      have hx := Option.some.inj hx
      subst hx
      exact eg_k_iret rfl True.intro (Nat.le_refl _) (Nat.le_refl _) hK
    · refine eg_k_aload rfl rfl ?_
      obtain ⟨r5, h4, hx⟩ := vb_bind hx
      refine eg_k_call (c1 := 0) (z1 := 0) (as := [.inr (.inr (some 45))]) (rest := []) rfl eg_tj212 (Nat.le_of_ble_eq_true rfl) rfl rfl rfl (Nat.le_of_ble_eq_true rfl) (Nat.le_refl _) (Nat.le_refl _) ?_ (fun Q hQ => ft_212 h4 hQ)
      refine eg_k_goto rfl ?_
      have hx := Option.some.inj hx
      subst hx
      exact eg_k_iret rfl True.intro (Nat.le_refl _) (Nat.le_refl _) hK
  have e1_ := e9
  refine vb_ite hx (fun e9 hx => ?_) (fun e9 hx => ?_)
  · refine eg_k_tsw (x := M 78 (eg_wi ((M 45 53) - 1)).toNat) (t := 22) rfl (by rw [e9]; rfl) ?_
    refine eg_k_iload rfl rfl ?_
    refine vk_if rfl hx Iff.rfl (fun c7 hx => ?_) (fun c7 hx => ?_)
    · refine eg_k_ci rfl ?_
      have hx := Option.some.inj hx
      subst hx
      exact eg_k_iret rfl True.intro (Nat.le_refl _) (Nat.le_refl _) hK
    · refine eg_k_aload rfl rfl ?_
      refine eg_k_iload rfl rfl ?_
      obtain ⟨r9, h8, hx⟩ := vb_bind hx
      refine eg_k_call (c1 := 0) (z1 := 0) (as := [.inr (.inr (some 45)), .inl (M 79 (eg_wi ((M 45 53) - 1)).toNat)]) (rest := []) rfl eg_tj215 (Nat.le_of_ble_eq_true rfl) rfl rfl rfl (Nat.le_of_ble_eq_true rfl) (Nat.le_refl _) (Nat.le_refl _) ?_ (fun Q hQ => ft_215 h8 hQ)
      refine eg_k_goto rfl ?_
      have hx := Option.some.inj hx
      subst hx
      exact eg_k_iret rfl True.intro (Nat.le_refl _) (Nat.le_refl _) hK
  have e2_ := e9
  refine vb_ite hx (fun e9 hx => ?_) (fun e9 hx => ?_)
  · refine eg_k_tsw (x := M 78 (eg_wi ((M 45 53) - 1)).toNat) (t := 22) rfl (by rw [e9]; rfl) ?_
    refine eg_k_iload rfl rfl ?_
    refine vk_if rfl hx Iff.rfl (fun c11 hx => ?_) (fun c11 hx => ?_)
    · refine eg_k_ci rfl ?_
      have hx := Option.some.inj hx
      subst hx
      exact eg_k_iret rfl True.intro (Nat.le_refl _) (Nat.le_refl _) hK
    · refine eg_k_aload rfl rfl ?_
      refine eg_k_iload rfl rfl ?_
      obtain ⟨r13, h12, hx⟩ := vb_bind hx
      refine eg_k_call (c1 := 0) (z1 := 0) (as := [.inr (.inr (some 45)), .inl (M 79 (eg_wi ((M 45 53) - 1)).toNat)]) (rest := []) rfl eg_tj215 (Nat.le_of_ble_eq_true rfl) rfl rfl rfl (Nat.le_of_ble_eq_true rfl) (Nat.le_refl _) (Nat.le_refl _) ?_ (fun Q hQ => ft_215 h12 hQ)
      refine eg_k_goto rfl ?_
      have hx := Option.some.inj hx
      subst hx
      exact eg_k_iret rfl True.intro (Nat.le_refl _) (Nat.le_refl _) hK
  have e3_ := e9
  refine vb_ite hx (fun e9 hx => ?_) (fun e9 hx => ?_)
  · refine eg_k_tsw (x := M 78 (eg_wi ((M 45 53) - 1)).toNat) (t := 77) rfl (by rw [e9]; rfl) ?_
    refine eg_k_aload rfl rfl ?_
    obtain ⟨r16, h15, hx⟩ := vb_bind hx
    refine eg_k_call (c1 := 0) (z1 := 0) (as := [.inr (.inr (some 45))]) (rest := []) rfl eg_tj246 (Nat.le_of_ble_eq_true rfl) rfl rfl rfl (Nat.le_of_ble_eq_true rfl) (Nat.le_refl _) (Nat.le_refl _) ?_ (fun Q hQ => ft_246 h15 hQ)
    have hx := Option.some.inj hx
    subst hx
    exact eg_k_iret rfl True.intro (Nat.le_refl _) (Nat.le_refl _) hK
  have e4_ := e9
  refine vb_ite hx (fun e9 hx => ?_) (fun e9 hx => ?_)
  · refine eg_k_tsw (x := M 78 (eg_wi ((M 45 53) - 1)).toNat) (t := 30) rfl (by rw [e9]; rfl) ?_
    refine eg_k_aload rfl rfl ?_
    refine eg_k_iload rfl rfl ?_
    refine eg_k_iload rfl rfl ?_
    obtain ⟨r19, h18, hx⟩ := vb_bind hx
    refine eg_k_call (c1 := 0) (z1 := 0) (as := [.inr (.inr (some 45)), .inl (M 79 (eg_wi ((M 45 53) - 1)).toNat), .inl a]) (rest := []) rfl eg_tj216 (Nat.le_of_ble_eq_true rfl) rfl rfl rfl (Nat.le_of_ble_eq_true rfl) (Nat.le_refl _) (Nat.le_refl _) ?_ (fun Q hQ => ft_216 h18 hQ)
    have hx := Option.some.inj hx
    subst hx
    exact eg_k_iret rfl True.intro (Nat.le_refl _) (Nat.le_refl _) hK
  have e5_ := e9
  refine vb_ite hx (fun e9 hx => ?_) (fun e9 hx => ?_)
  · refine eg_k_tsw (x := M 78 (eg_wi ((M 45 53) - 1)).toNat) (t := 35) rfl (by rw [e9]; rfl) ?_
    refine eg_k_iload rfl rfl ?_
    refine vk_if rfl hx Iff.rfl (fun c21 hx => ?_) (fun c21 hx => ?_)
    · refine eg_k_ci rfl ?_
      have hx := Option.some.inj hx
      subst hx
      exact eg_k_iret rfl True.intro (Nat.le_refl _) (Nat.le_refl _) hK
    · refine eg_k_aload rfl rfl ?_
      obtain ⟨r23, h22, hx⟩ := vb_bind hx
      refine eg_k_call (c1 := 0) (z1 := 0) (as := [.inr (.inr (some 45))]) (rest := []) rfl eg_tj218 (Nat.le_of_ble_eq_true rfl) rfl rfl rfl (Nat.le_of_ble_eq_true rfl) (Nat.le_refl _) (Nat.le_refl _) ?_ (fun Q hQ => ft_218 h22 hQ)
      refine eg_k_goto rfl ?_
      have hx := Option.some.inj hx
      subst hx
      exact eg_k_iret rfl True.intro (Nat.le_refl _) (Nat.le_refl _) hK
  have e6_ := e9
  refine vb_ite hx (fun e9 hx => ?_) (fun e9 hx => ?_)
  · refine eg_k_tsw (x := M 78 (eg_wi ((M 45 53) - 1)).toNat) (t := 42) rfl (by rw [e9]; rfl) ?_
    refine eg_k_iload rfl rfl ?_
    refine vk_if rfl hx Iff.rfl (fun c25 hx => ?_) (fun c25 hx => ?_)
    · refine eg_k_ci rfl ?_
      have hx := Option.some.inj hx
      subst hx
      exact eg_k_iret rfl True.intro (Nat.le_refl _) (Nat.le_refl _) hK
    · refine eg_k_aload rfl rfl ?_
      refine eg_k_iload rfl rfl ?_
      obtain ⟨r27, h26, hx⟩ := vb_bind hx
      refine eg_k_call (c1 := 0) (z1 := 0) (as := [.inr (.inr (some 45)), .inl (M 79 (eg_wi ((M 45 53) - 1)).toNat)]) (rest := []) rfl eg_tj219 (Nat.le_of_ble_eq_true rfl) rfl rfl rfl (Nat.le_of_ble_eq_true rfl) (Nat.le_refl _) (Nat.le_refl _) ?_ (fun Q hQ => ft_219 h26 hQ)
      refine eg_k_goto rfl ?_
      have hx := Option.some.inj hx
      subst hx
      exact eg_k_iret rfl True.intro (Nat.le_refl _) (Nat.le_refl _) hK
  have e7_ := e9
  refine vb_ite hx (fun e9 hx => ?_) (fun e9 hx => ?_)
  · refine eg_k_tsw (x := M 78 (eg_wi ((M 45 53) - 1)).toNat) (t := 50) rfl (by rw [e9]; rfl) ?_
    refine eg_k_aload rfl rfl ?_
    refine eg_k_iload rfl rfl ?_
    obtain ⟨r30, h29, hx⟩ := vb_bind hx
    refine eg_k_call (c1 := 0) (z1 := 0) (as := [.inr (.inr (some 45)), .inl a]) (rest := []) rfl eg_tj220 (Nat.le_of_ble_eq_true rfl) rfl rfl rfl (Nat.le_of_ble_eq_true rfl) (Nat.le_refl _) (Nat.le_refl _) ?_ (fun Q hQ => ft_220 h29 hQ)
    have hx := Option.some.inj hx
    subst hx
    exact eg_k_iret rfl True.intro (Nat.le_refl _) (Nat.le_refl _) hK
  have e8_ := e9
  refine vb_ite hx (fun e9 hx => ?_) (fun e9 hx => ?_)
  · refine eg_k_tsw (x := M 78 (eg_wi ((M 45 53) - 1)).toNat) (t := 50) rfl (by rw [e9]; rfl) ?_
    refine eg_k_aload rfl rfl ?_
    refine eg_k_iload rfl rfl ?_
    obtain ⟨r33, h32, hx⟩ := vb_bind hx
    refine eg_k_call (c1 := 0) (z1 := 0) (as := [.inr (.inr (some 45)), .inl a]) (rest := []) rfl eg_tj220 (Nat.le_of_ble_eq_true rfl) rfl rfl rfl (Nat.le_of_ble_eq_true rfl) (Nat.le_refl _) (Nat.le_refl _) ?_ (fun Q hQ => ft_220 h32 hQ)
    have hx := Option.some.inj hx
    subst hx
    exact eg_k_iret rfl True.intro (Nat.le_refl _) (Nat.le_refl _) hK
  have e9_ := e9
  refine vb_ite hx (fun e9 hx => ?_) (fun e9 hx => ?_)
  · refine eg_k_tsw (x := M 78 (eg_wi ((M 45 53) - 1)).toNat) (t := 54) rfl (by rw [e9]; rfl) ?_
    refine eg_k_iload rfl rfl ?_
    refine vk_if rfl hx Iff.rfl (fun c35 hx => ?_) (fun c35 hx => ?_)
    · refine eg_k_ci rfl ?_
      have hx := Option.some.inj hx
      subst hx
      exact eg_k_iret rfl True.intro (Nat.le_refl _) (Nat.le_refl _) hK
    · refine eg_k_aload rfl rfl ?_
      obtain ⟨r37, h36, hx⟩ := vb_bind hx
      refine eg_k_call (c1 := 0) (z1 := 0) (as := [.inr (.inr (some 45))]) (rest := []) rfl eg_tj221 (Nat.le_of_ble_eq_true rfl) rfl rfl rfl (Nat.le_of_ble_eq_true rfl) (Nat.le_refl _) (Nat.le_refl _) ?_ (fun Q hQ => ft_221 h36 hQ)
      refine eg_k_goto rfl ?_
      have hx := Option.some.inj hx
      subst hx
      exact eg_k_iret rfl True.intro (Nat.le_refl _) (Nat.le_refl _) hK
  have e10_ := e9
  refine vb_ite hx (fun e9 hx => ?_) (fun e9 hx => ?_)
  · refine eg_k_tsw (x := M 78 (eg_wi ((M 45 53) - 1)).toNat) (t := 61) rfl (by rw [e9]; rfl) ?_
    refine eg_k_iload rfl rfl ?_
    refine vk_if rfl hx Iff.rfl (fun c39 hx => ?_) (fun c39 hx => ?_)
    · refine eg_k_ci rfl ?_
      have hx := Option.some.inj hx
      subst hx
      exact eg_k_iret rfl True.intro (Nat.le_refl _) (Nat.le_refl _) hK
    · refine eg_k_aload rfl rfl ?_
      obtain ⟨r41, h40, hx⟩ := vb_bind hx
      refine eg_k_call (c1 := 0) (z1 := 0) (as := [.inr (.inr (some 45))]) (rest := []) rfl eg_tj218 (Nat.le_of_ble_eq_true rfl) rfl rfl rfl (Nat.le_of_ble_eq_true rfl) (Nat.le_refl _) (Nat.le_refl _) ?_ (fun Q hQ => ft_218 h40 hQ)
      refine eg_k_goto rfl ?_
      have hx := Option.some.inj hx
      subst hx
      exact eg_k_iret rfl True.intro (Nat.le_refl _) (Nat.le_refl _) hK
  have e11_ := e9
  refine vb_ite hx (fun e9 hx => ?_) (fun e9 hx => ?_)
  · refine eg_k_tsw (x := M 78 (eg_wi ((M 45 53) - 1)).toNat) (t := 77) rfl (by rw [e9]; rfl) ?_
    refine eg_k_aload rfl rfl ?_
    obtain ⟨r44, h43, hx⟩ := vb_bind hx
    refine eg_k_call (c1 := 0) (z1 := 0) (as := [.inr (.inr (some 45))]) (rest := []) rfl eg_tj246 (Nat.le_of_ble_eq_true rfl) rfl rfl rfl (Nat.le_of_ble_eq_true rfl) (Nat.le_refl _) (Nat.le_refl _) ?_ (fun Q hQ => ft_246 h43 hQ)
    have hx := Option.some.inj hx
    subst hx
    exact eg_k_iret rfl True.intro (Nat.le_refl _) (Nat.le_refl _) hK
  have e12_ := e9
  refine vb_ite hx (fun e9 hx => ?_) (fun e9 hx => ?_)
  · refine eg_k_tsw (x := M 78 (eg_wi ((M 45 53) - 1)).toNat) (t := 77) rfl (by rw [e9]; rfl) ?_
    refine eg_k_aload rfl rfl ?_
    obtain ⟨r47, h46, hx⟩ := vb_bind hx
    refine eg_k_call (c1 := 0) (z1 := 0) (as := [.inr (.inr (some 45))]) (rest := []) rfl eg_tj246 (Nat.le_of_ble_eq_true rfl) rfl rfl rfl (Nat.le_of_ble_eq_true rfl) (Nat.le_refl _) (Nat.le_refl _) ?_ (fun Q hQ => ft_246 h46 hQ)
    have hx := Option.some.inj hx
    subst hx
    exact eg_k_iret rfl True.intro (Nat.le_refl _) (Nat.le_refl _) hK
  have e13_ := e9
  refine vb_ite hx (fun e9 hx => ?_) (fun e9 hx => ?_)
  · refine eg_k_tsw (x := M 78 (eg_wi ((M 45 53) - 1)).toNat) (t := 68) rfl (by rw [e9]; rfl) ?_
    refine eg_k_iload rfl rfl ?_
    refine vk_if rfl hx Iff.rfl (fun c49 hx => ?_) (fun c49 hx => ?_)
    · refine eg_k_ci rfl ?_
      have hx := Option.some.inj hx
      subst hx
      exact eg_k_iret rfl True.intro (Nat.le_refl _) (Nat.le_refl _) hK
    · refine eg_k_aload rfl rfl ?_
      refine eg_k_aload rfl rfl ?_
      refine eg_k_gfl rfl rfl rfl ?_
      obtain ⟨r51, h50, hx⟩ := vb_bind hx
      refine eg_k_call (c1 := 0) (z1 := 0) (as := [.inr (.inr (some 45)), .inr (.inl (M 45 70))]) (rest := []) rfl eg_tj213 (Nat.le_of_ble_eq_true rfl) rfl rfl rfl (Nat.le_of_ble_eq_true rfl) (Nat.le_refl _) (Nat.le_refl _) ?_ (fun Q hQ => ft_213 h50 hQ)
      refine eg_k_goto rfl ?_
      have hx := Option.some.inj hx
      subst hx
      exact eg_k_iret rfl True.intro (Nat.le_refl _) (Nat.le_refl _) hK
  have e14_ := e9
  refine eg_k_tsw (x := M 78 (eg_wi ((M 45 53) - 1)).toNat) (t := 77) rfl (by unfold eg_tb; rw [if_pos (by omega)]; rfl) ?_
  refine eg_k_aload rfl rfl ?_
  obtain ⟨r54, h53, hx⟩ := vb_bind hx
  refine eg_k_call (c1 := 0) (z1 := 0) (as := [.inr (.inr (some 45))]) (rest := []) rfl eg_tj246 (Nat.le_of_ble_eq_true rfl) rfl rfl rfl (Nat.le_of_ble_eq_true rfl) (Nat.le_refl _) (Nat.le_refl _) ?_ (fun Q hQ => ft_246 h53 hQ)
  have hx := Option.some.inj hx
  subst hx
  exact eg_k_iret rfl True.intro (Nat.le_refl _) (Nat.le_refl _) hK
theorem fw_211 {M : eM} {c : Nat} {a : Int} {x : Int × eM} (hx : fn_211 a M = some x) (hc : c ∉ ([45, 62, 63, 64, 65, 66, 67, 68, 69, 70, 71, 72, 73, 74, 75, 76, 77, 78, 79, 80, 81, 82, 85, 86, 87] : List Nat)) (j : Nat) : ((x).2) c j = M c j := by
  obtain ⟨v, hK⟩ : ∃ v, ((x).2) c j = v := ⟨_, rfl⟩
  rw [hK]
  refine Eq.symm ?_
  obtain ⟨_, hx⟩ := vb_if hx
  refine vb_ite hx (fun _ hx => ?_) (fun _ hx => ?_)
  · refine vb_ite hx (fun _ hx => ?_) (fun _ hx => ?_)
    · have hx := Option.some.inj hx
      subst hx
      exact (Eq.refl _).symm.trans hK
    · obtain ⟨r5, h4, hx⟩ := vb_bind hx
      have hx := Option.some.inj hx
      subst hx
      exact ((fw_212 h4 (vsub hc (by decide)) j).trans rfl).symm.trans hK
  refine vb_ite hx (fun _ hx => ?_) (fun _ hx => ?_)
  · refine vb_ite hx (fun _ hx => ?_) (fun _ hx => ?_)
    · have hx := Option.some.inj hx
      subst hx
      exact (Eq.refl _).symm.trans hK
    · obtain ⟨r9, h8, hx⟩ := vb_bind hx
      have hx := Option.some.inj hx
      subst hx
      exact ((fw_215 h8 (vsub hc (by decide)) j).trans rfl).symm.trans hK
  refine vb_ite hx (fun _ hx => ?_) (fun _ hx => ?_)
  · refine vb_ite hx (fun _ hx => ?_) (fun _ hx => ?_)
    · have hx := Option.some.inj hx
      subst hx
      exact (Eq.refl _).symm.trans hK
    · obtain ⟨r13, h12, hx⟩ := vb_bind hx
      have hx := Option.some.inj hx
      subst hx
      exact ((fw_215 h12 (vsub hc (by decide)) j).trans rfl).symm.trans hK
  refine vb_ite hx (fun _ hx => ?_) (fun _ hx => ?_)
  · obtain ⟨r16, h15, hx⟩ := vb_bind hx
    have hx := Option.some.inj hx
    subst hx
    exact ((fw_246 h15 (vsub hc (by decide)) j).trans rfl).symm.trans hK
  refine vb_ite hx (fun _ hx => ?_) (fun _ hx => ?_)
  · obtain ⟨r19, h18, hx⟩ := vb_bind hx
    have hx := Option.some.inj hx
    subst hx
    exact ((fw_216 h18 (vsub hc (by decide)) j).trans rfl).symm.trans hK
  refine vb_ite hx (fun _ hx => ?_) (fun _ hx => ?_)
  · refine vb_ite hx (fun _ hx => ?_) (fun _ hx => ?_)
    · have hx := Option.some.inj hx
      subst hx
      exact (Eq.refl _).symm.trans hK
    · obtain ⟨r23, h22, hx⟩ := vb_bind hx
      have hx := Option.some.inj hx
      subst hx
      exact ((fw_218 h22 (vsub hc (by decide)) j).trans rfl).symm.trans hK
  refine vb_ite hx (fun _ hx => ?_) (fun _ hx => ?_)
  · refine vb_ite hx (fun _ hx => ?_) (fun _ hx => ?_)
    · have hx := Option.some.inj hx
      subst hx
      exact (Eq.refl _).symm.trans hK
    · obtain ⟨r27, h26, hx⟩ := vb_bind hx
      have hx := Option.some.inj hx
      subst hx
      exact ((fw_219 h26 (vsub hc (by decide)) j).trans rfl).symm.trans hK
  refine vb_ite hx (fun _ hx => ?_) (fun _ hx => ?_)
  · obtain ⟨r30, h29, hx⟩ := vb_bind hx
    have hx := Option.some.inj hx
    subst hx
    exact ((fw_220 h29 (vsub hc (by decide)) j).trans rfl).symm.trans hK
  refine vb_ite hx (fun _ hx => ?_) (fun _ hx => ?_)
  · obtain ⟨r33, h32, hx⟩ := vb_bind hx
    have hx := Option.some.inj hx
    subst hx
    exact ((fw_220 h32 (vsub hc (by decide)) j).trans rfl).symm.trans hK
  refine vb_ite hx (fun _ hx => ?_) (fun _ hx => ?_)
  · refine vb_ite hx (fun _ hx => ?_) (fun _ hx => ?_)
    · have hx := Option.some.inj hx
      subst hx
      exact (Eq.refl _).symm.trans hK
    · obtain ⟨r37, h36, hx⟩ := vb_bind hx
      have hx := Option.some.inj hx
      subst hx
      exact ((fw_221 h36 (vsub hc (by decide)) j).trans rfl).symm.trans hK
  refine vb_ite hx (fun _ hx => ?_) (fun _ hx => ?_)
  · refine vb_ite hx (fun _ hx => ?_) (fun _ hx => ?_)
    · have hx := Option.some.inj hx
      subst hx
      exact (Eq.refl _).symm.trans hK
    · obtain ⟨r41, h40, hx⟩ := vb_bind hx
      have hx := Option.some.inj hx
      subst hx
      exact ((fw_218 h40 (vsub hc (by decide)) j).trans rfl).symm.trans hK
  refine vb_ite hx (fun _ hx => ?_) (fun _ hx => ?_)
  · obtain ⟨r44, h43, hx⟩ := vb_bind hx
    have hx := Option.some.inj hx
    subst hx
    exact ((fw_246 h43 (vsub hc (by decide)) j).trans rfl).symm.trans hK
  refine vb_ite hx (fun _ hx => ?_) (fun _ hx => ?_)
  · obtain ⟨r47, h46, hx⟩ := vb_bind hx
    have hx := Option.some.inj hx
    subst hx
    exact ((fw_246 h46 (vsub hc (by decide)) j).trans rfl).symm.trans hK
  refine vb_ite hx (fun _ hx => ?_) (fun _ hx => ?_)
  · refine vb_ite hx (fun _ hx => ?_) (fun _ hx => ?_)
    · have hx := Option.some.inj hx
      subst hx
      exact (Eq.refl _).symm.trans hK
    · obtain ⟨r51, h50, hx⟩ := vb_bind hx
      have hx := Option.some.inj hx
      subst hx
      exact ((fw_213 h50 (vsub hc (by decide)) j).trans rfl).symm.trans hK
  obtain ⟨r54, h53, hx⟩ := vb_bind hx
  have hx := Option.some.inj hx
  subst hx
  exact ((fw_246 h53 (vsub hc (by decide)) j).trans rfl).symm.trans hK
noncomputable def fn_210_13 (x1 : Int) (y0 : Int) (M : eM) : Option ((Int × eM) ⊕ (Int × eM)) :=
  (fn_211 y0 M).bind fun r7 =>
  if ¬ r7.1 = 2 then
    if ¬ r7.1 = 3 then
      some (.inl (r7.1, r7.2))
    else
      some (.inl (1, r7.2))
  else
    if 0 ≤ (eg_wi ((r7.2 45 53) - 1)) ∧ (eg_wi ((r7.2 45 53) - 1)) < 4400 then
    if ¬ (r7.2 78 (eg_wi ((r7.2 45 53) - 1)).toNat) = 5 then
        (fn_184 (r7.2 80 (eg_wi ((r7.2 45 53) - 1)).toNat) (r7.2 82 (eg_wi ((r7.2 45 53) - 1)).toNat) r7.2).bind fun r16 =>
        some (.inl (r16.1, r16.2))
      else
        (fn_176 (r7.2 80 (eg_wi ((r7.2 45 53) - 1)).toNat) r7.2).bind fun r20 =>
        (fn_184 r20 (r7.2 82 (eg_wi ((r7.2 45 53) - 1)).toNat) r7.2).bind fun r24 =>
        some (.inl (r24.1, r24.2))
    else none
noncomputable def fn_210_2 (x1 : Int) (s1 : Int) (s2 : eM) : Option ((Int × eM) ⊕ (Int × eM)) :=
  if s1 < 0 then
    if 0 ≤ s1 then
      some (.inr (0, s2))
    else
      some (.inr (s2 45 69, s2))
  else
    if (s2 45 53) ≤ 0 then
      if 0 ≤ s1 then
        some (.inr (0, s2))
      else
        some (.inr (s2 45 69, s2))
    else
      if ¬ s1 = 0 then
        fn_210_13 x1 0 s2
      else
        fn_210_13 x1 1 s2
/-- 210: WeakSchemeModel.finish(I)I -/
noncomputable def fn_210 (a : Int) (M : eM) : Option (Int × eM) :=
  lp (fun z => fn_210_2 a z.1 z.2) (a, M)
set_option maxRecDepth 100000 in
theorem ft_210_13 {cn mo : Nat} {sc : eg_Sc} {d : Nat} {M : eM} {Q : Option eg_V → eg_H → Prop} {x1 : Int} {y0 : Int} {x : (Int × eM) ⊕ (Int × eM)} (hx : fn_210_13 x1 y0 M = some x) (hK : (eK (fun (s : Int × eM) => ∀ (w3 w4 : Option eg_V), eg_X sc (eg_wp sc (d + 14)) eg_p210 (some .int) 0 0 Q 2 [some (.inr (.inr (some 45))), some (.inl x1), some (.inl s.1), w3, w4] [] (em_L cn mo, eh_R, s.2) 0 0) (fun (x : Int × eM) => Q (some (.inl ((x).1))) (em_L cn mo, eh_R, (x).2))) x) : ∀ (w2 w3 w4 : Option eg_V), eg_X sc (eg_wp sc (d + 14)) eg_p210 (some .int) 0 0 Q 13 [some (.inr (.inr (some 45))), some (.inl x1), w2, w3, w4] [.inl y0, .inr (.inr (some 45))] (em_L cn mo, eh_R, M) 0 0 := by
  intro w2 w3 w4
  obtain ⟨r7, h6, hx⟩ := vb_bind hx
  refine eg_k_call (c1 := 0) (z1 := 0) (as := [.inr (.inr (some 45)), .inl y0]) (rest := []) rfl eg_tj211 (Nat.le_of_ble_eq_true rfl) rfl rfl rfl (Nat.le_of_ble_eq_true rfl) (Nat.le_refl _) (Nat.le_refl _) ?_ (fun Q hQ => ft_211 h6 hQ)
  refine eg_k_istore (lv' := [some (.inr (.inr (some 45))), some (.inl x1), ev_nw w2, some (.inl r7.1), w4]) rfl (by rcases w2 with _ | (_ | (_ | _)) <;> rfl) ?_
  refine eg_k_iload rfl rfl ?_
  refine eg_k_ci rfl ?_
  refine vk_icmp rfl hx Iff.rfl (fun c9 hx => ?_) (fun c9 hx => ?_)
  · refine eg_k_iload rfl rfl ?_
    refine eg_k_ci rfl ?_
    refine vk_icmp rfl hx Iff.rfl (fun c10 hx => ?_) (fun c10 hx => ?_)
    · refine eg_k_iload rfl rfl ?_
      refine eg_k_istore (lv' := [some (.inr (.inr (some 45))), some (.inl x1), some (.inl r7.1), some (.inl r7.1), w4]) rfl rfl ?_
      refine eg_k_goto rfl ?_
      have hx := Option.some.inj hx
      subst hx
      exact hK (some (.inl r7.1)) w4
    · refine eg_k_ci rfl ?_
      refine eg_k_goto rfl ?_
      refine eg_k_istore (lv' := [some (.inr (.inr (some 45))), some (.inl x1), some (.inl 1), some (.inl r7.1), w4]) rfl rfl ?_
      refine eg_k_goto rfl ?_
      have hx := Option.some.inj hx
      subst hx
      exact hK (some (.inl r7.1)) w4
  · refine eg_k_aload rfl rfl ?_
    refine eg_k_gfi rfl rfl rfl ?_
    refine eg_k_ci rfl ?_
    refine eg_k_isub rfl ?_
    refine eg_k_istore (lv' := [some (.inr (.inr (some 45))), some (.inl x1), ev_nw w2, some (.inl r7.1), some (.inl (eg_wi ((r7.2 45 53) - 1)))]) rfl rfl ?_
    refine eg_k_aload rfl rfl ?_
    refine eg_k_aload rfl rfl ?_
    refine eg_k_gfa rfl rfl rfl eh_r45_54 ?_
    refine eg_k_iload rfl rfl ?_
    obtain ⟨b11, hx⟩ := vb_if hx
    refine eg_k_bald (k := 4400) rfl rfl b11.1 b11.2 ?_
    refine eg_k_ci rfl ?_
    refine vk_icmp rfl hx Iff.rfl (fun c12 hx => ?_) (fun c12 hx => ?_)
    · refine eg_k_aload rfl rfl ?_
      refine eg_k_gfa rfl rfl rfl eh_r45_56 ?_
      refine eg_k_iload rfl rfl ?_
      refine eg_k_iald (k := 4400) rfl rfl b11.1 b11.2 ?_
      refine eg_k_aload rfl rfl ?_
      refine eg_k_gfa rfl rfl rfl eh_r45_58 ?_
      refine eg_k_iload rfl rfl ?_
      refine eg_k_lald (k := 4400) rfl rfl b11.1 b11.2 ?_
      obtain ⟨r16, h15, hx⟩ := vb_bind hx
      refine eg_k_call (c1 := 0) (z1 := 0) (as := [.inr (.inr (some 45)), .inl (r7.2 80 (eg_wi ((r7.2 45 53) - 1)).toNat), .inr (.inl (r7.2 82 (eg_wi ((r7.2 45 53) - 1)).toNat))]) (rest := []) rfl eg_tj184 (Nat.le_of_ble_eq_true rfl) rfl rfl rfl (Nat.le_of_ble_eq_true rfl) (Nat.le_refl _) (Nat.le_refl _) ?_ (fun Q hQ => ft_184 h15 hQ)
      refine eg_k_istore (lv' := [some (.inr (.inr (some 45))), some (.inl x1), some (.inl r16.1), some (.inl r7.1), some (.inl (eg_wi ((r7.2 45 53) - 1)))]) rfl rfl ?_
      refine eg_k_goto rfl ?_
      refine eg_k_goto rfl ?_
      have hx := Option.some.inj hx
      subst hx
      exact hK (some (.inl r7.1)) (some (.inl (eg_wi ((r7.2 45 53) - 1))))
    · refine eg_k_aload rfl rfl ?_
      refine eg_k_aload rfl rfl ?_
      refine eg_k_gfa rfl rfl rfl eh_r45_56 ?_
      refine eg_k_iload rfl rfl ?_
      refine eg_k_iald (k := 4400) rfl rfl b11.1 b11.2 ?_
      obtain ⟨r20, h19, hx⟩ := vb_bind hx
      refine eg_k_call (c1 := 0) (z1 := 0) (as := [.inr (.inr (some 45)), .inl (r7.2 80 (eg_wi ((r7.2 45 53) - 1)).toNat)]) (rest := [.inr (.inr (some 45))]) rfl eg_tj176 (Nat.le_of_ble_eq_true rfl) rfl rfl rfl (Nat.le_of_ble_eq_true rfl) (Nat.le_refl _) (Nat.le_refl _) ?_ (fun Q hQ => ft_176 h19 hQ)
      refine eg_k_goto rfl ?_
      refine eg_k_aload rfl rfl ?_
      refine eg_k_gfa rfl rfl rfl eh_r45_58 ?_
      refine eg_k_iload rfl rfl ?_
      refine eg_k_lald (k := 4400) rfl rfl b11.1 b11.2 ?_
      obtain ⟨r24, h23, hx⟩ := vb_bind hx
      refine eg_k_call (c1 := 0) (z1 := 0) (as := [.inr (.inr (some 45)), .inl r20, .inr (.inl (r7.2 82 (eg_wi ((r7.2 45 53) - 1)).toNat))]) (rest := []) rfl eg_tj184 (Nat.le_of_ble_eq_true rfl) rfl rfl rfl (Nat.le_of_ble_eq_true rfl) (Nat.le_refl _) (Nat.le_refl _) ?_ (fun Q hQ => ft_184 h23 hQ)
      refine eg_k_istore (lv' := [some (.inr (.inr (some 45))), some (.inl x1), some (.inl r24.1), some (.inl r7.1), some (.inl (eg_wi ((r7.2 45 53) - 1)))]) rfl rfl ?_
      refine eg_k_goto rfl ?_
      refine eg_k_goto rfl ?_
      have hx := Option.some.inj hx
      subst hx
      exact hK (some (.inl r7.1)) (some (.inl (eg_wi ((r7.2 45 53) - 1))))
set_option maxRecDepth 100000 in
theorem ft_210_2 {cn mo : Nat} {sc : eg_Sc} {d : Nat} {Q : Option eg_V → eg_H → Prop} {x1 : Int} {s : Int × eM} {x : Int × eM} (hx : lp (fun z => fn_210_2 x1 z.1 z.2) s = some x) (hK : (fun (x : Int × eM) => Q (some (.inl ((x).1))) (em_L cn mo, eh_R, (x).2)) x) : ∀ (w3 w4 : Option eg_V), eg_X sc (eg_wp sc (d + 14)) eg_p210 (some .int) 0 0 Q 2 [some (.inr (.inr (some 45))), some (.inl x1), some (.inl s.1), w3, w4] [] (em_L cn mo, eh_R, s.2) 0 0 := by
  refine lp_sound (P := (fun (s : Int × eM) => ∀ (w3 w4 : Option eg_V), eg_X sc (eg_wp sc (d + 14)) eg_p210 (some .int) 0 0 Q 2 [some (.inr (.inr (some 45))), some (.inl x1), some (.inl s.1), w3, w4] [] (em_L cn mo, eh_R, s.2) 0 0)) (K := (fun (x : Int × eM) => Q (some (.inl ((x).1))) (em_L cn mo, eh_R, (x).2))) hx hK ?_
  intro s x hx hK w3 w4
  obtain ⟨s1, s2⟩ := s
  refine eg_k_iload rfl rfl ?_
  refine vk_if rfl hx Iff.rfl (fun c1 hx => ?_) (fun c1 hx => ?_)
  · refine eg_k_iload rfl rfl ?_
    refine vk_if rfl hx Iff.rfl (fun c2 hx => ?_) (fun c2 hx => ?_)
    · refine eg_k_ci rfl ?_
      have hx := Option.some.inj hx
      subst hx
      exact eg_k_iret rfl True.intro (Nat.le_refl _) (Nat.le_refl _) hK
    · refine eg_k_aload rfl rfl ?_
      refine eg_k_gfi rfl rfl rfl ?_
      refine eg_k_goto rfl ?_
      have hx := Option.some.inj hx
      subst hx
      exact eg_k_iret rfl True.intro (Nat.le_refl _) (Nat.le_refl _) hK
  · refine eg_k_aload rfl rfl ?_
    refine eg_k_gfi rfl rfl rfl ?_
    refine vk_if rfl hx Iff.rfl (fun c3 hx => ?_) (fun c3 hx => ?_)
    · refine eg_k_iload rfl rfl ?_
      refine vk_if rfl hx Iff.rfl (fun c4 hx => ?_) (fun c4 hx => ?_)
      · refine eg_k_ci rfl ?_
        have hx := Option.some.inj hx
        subst hx
        exact eg_k_iret rfl True.intro (Nat.le_refl _) (Nat.le_refl _) hK
      · refine eg_k_aload rfl rfl ?_
        refine eg_k_gfi rfl rfl rfl ?_
        refine eg_k_goto rfl ?_
        have hx := Option.some.inj hx
        subst hx
        exact eg_k_iret rfl True.intro (Nat.le_refl _) (Nat.le_refl _) hK
    · refine eg_k_aload rfl rfl ?_
      refine eg_k_iload rfl rfl ?_
      refine vk_if rfl hx Iff.rfl (fun c5 hx => ?_) (fun c5 hx => ?_)
      · refine eg_k_ci rfl ?_
        have hz := ft_210_13 (d := d) (sc := sc) hx hK
        exact hz (some (.inl s1)) w3 w4
      · refine eg_k_ci rfl ?_
        refine eg_k_goto rfl ?_
        have hz := ft_210_13 (d := d) (sc := sc) hx hK
        exact hz (some (.inl s1)) w3 w4
set_option maxRecDepth 100000 in
theorem ft_210 {cn mo : Nat} {sc : eg_Sc} {d : Nat} {M : eM} {Q : Option eg_V → eg_H → Prop} {a : Int} {x : Int × eM} (hx : fn_210 a M = some x) (hK : Q (some (.inl ((x).1))) (em_L cn mo, eh_R, (x).2)) : eg_wp sc (d + 15) 210 [.inr (.inr (some 45)), .inl a] (em_L cn mo, eh_R, M) 0 0 Q := by
  refine eg_in (lv := [some (.inr (.inr (some 45))), some (.inl a), none, none, none]) eg_tj210 (Nat.le_of_ble_eq_true rfl) rfl ?_
  refine eg_k_iload rfl rfl ?_
  refine eg_k_istore (lv' := [some (.inr (.inr (some 45))), some (.inl a), some (.inl a), none, none]) rfl rfl ?_
  have hz := ft_210_2 (d := d) (sc := sc) hx hK
  exact hz none none
theorem fw_210_13 {M : eM} {c j : Nat} {v : Int} {x1 : Int} {y0 : Int} {x : (Int × eM) ⊕ (Int × eM)} (hc : c ∉ ([45, 62, 63, 64, 65, 66, 67, 68, 69, 70, 71, 72, 73, 74, 75, 76, 77, 78, 79, 80, 81, 82, 83, 84, 85, 86, 87] : List Nat)) (hx : fn_210_13 x1 y0 M = some x) (hK : (eK (fun (s : Int × eM) => s.2 c j = v) (fun (x : Int × eM) => ((x).2) c j = v)) x) : M c j = v := by
  obtain ⟨r7, h6, hx⟩ := vb_bind hx
  refine vb_ite hx (fun _ hx => ?_) (fun _ hx => ?_)
  · refine vb_ite hx (fun _ hx => ?_) (fun _ hx => ?_)
    · have hx := Option.some.inj hx
      subst hx
      exact ((fw_211 h6 (vsub hc (by decide)) j).trans rfl).symm.trans hK
    · have hx := Option.some.inj hx
      subst hx
      exact ((fw_211 h6 (vsub hc (by decide)) j).trans rfl).symm.trans hK
  · obtain ⟨_, hx⟩ := vb_if hx
    refine vb_ite hx (fun _ hx => ?_) (fun _ hx => ?_)
    · obtain ⟨r16, h15, hx⟩ := vb_bind hx
      have hx := Option.some.inj hx
      subst hx
      exact ((fw_184 h15 (vsub hc (by decide)) j).trans ((fw_211 h6 (vsub hc (by decide)) j).trans rfl)).symm.trans hK
    · obtain ⟨r20, h19, hx⟩ := vb_bind hx
      obtain ⟨r24, h23, hx⟩ := vb_bind hx
      have hx := Option.some.inj hx
      subst hx
      exact ((fw_184 h23 (vsub hc (by decide)) j).trans ((fw_211 h6 (vsub hc (by decide)) j).trans rfl)).symm.trans hK
theorem fw_210_2 {c j : Nat} {v : Int} {x1 : Int} {s : Int × eM} {x : Int × eM} (hc : c ∉ ([45, 62, 63, 64, 65, 66, 67, 68, 69, 70, 71, 72, 73, 74, 75, 76, 77, 78, 79, 80, 81, 82, 83, 84, 85, 86, 87] : List Nat)) (hx : lp (fun z => fn_210_2 x1 z.1 z.2) s = some x) (hK : (fun (x : Int × eM) => ((x).2) c j = v) x) : s.2 c j = v := by
  refine lp_sound (P := (fun (s : Int × eM) => s.2 c j = v)) (K := (fun (x : Int × eM) => ((x).2) c j = v)) hx hK ?_
  intro s x hx hK
  obtain ⟨s1, s2⟩ := s
  refine vb_ite hx (fun _ hx => ?_) (fun _ hx => ?_)
  · refine vb_ite hx (fun _ hx => ?_) (fun _ hx => ?_)
    · have hx := Option.some.inj hx
      subst hx
      exact (Eq.refl _).symm.trans hK
    · have hx := Option.some.inj hx
      subst hx
      exact (Eq.refl _).symm.trans hK
  · refine vb_ite hx (fun _ hx => ?_) (fun _ hx => ?_)
    · refine vb_ite hx (fun _ hx => ?_) (fun _ hx => ?_)
      · have hx := Option.some.inj hx
        subst hx
        exact (Eq.refl _).symm.trans hK
      · have hx := Option.some.inj hx
        subst hx
        exact (Eq.refl _).symm.trans hK
    · refine vb_ite hx (fun _ hx => ?_) (fun _ hx => ?_)
      · have hz := fw_210_13 hc hx hK
        exact (Eq.refl _).symm.trans hz
      · have hz := fw_210_13 hc hx hK
        exact (Eq.refl _).symm.trans hz
theorem fw_210 {M : eM} {c : Nat} {a : Int} {x : Int × eM} (hx : fn_210 a M = some x) (hc : c ∉ ([45, 62, 63, 64, 65, 66, 67, 68, 69, 70, 71, 72, 73, 74, 75, 76, 77, 78, 79, 80, 81, 82, 83, 84, 85, 86, 87] : List Nat)) (j : Nat) : ((x).2) c j = M c j := by
  obtain ⟨v, hK⟩ : ∃ v, ((x).2) c j = v := ⟨_, rfl⟩
  rw [hK]
  refine Eq.symm ?_
  have hz := fw_210_2 hc hx hK
  exact (Eq.refl _).symm.trans hz
noncomputable def fn_183_3 (s1 : Int) (s2 : eM) : Option ((Int × eM) ⊕ (Int × eM)) :=
  if s1 < 0 then
    some (.inr (0, s2))
  else
    (fn_184 s1 (-1) s2).bind fun r3 =>
    (fn_210 r3.1 r3.2).bind fun r6 =>
    if r6.1 ≤ 0 then
      (fn_209 12 0 (-1) 0 r6.2).bind fun m11 =>
      (fn_210 1 m11).bind fun r13 =>
      if r13.1 ≤ 0 then
        if 0 ≤ s1 ∧ s1 < 20100 then
        some (.inl (r13.2 53 (s1).toNat, r13.2))
        else none
      else
        some (.inr (r13.1, r13.2))
    else
      some (.inr (r6.1, r6.2))
/-- 183: WeakSchemeModel.program()I -/
noncomputable def fn_183 (M : eM) : Option (Int × eM) :=
  lp (fun z => fn_183_3 z.1 z.2) (M 45 21, M)
set_option maxRecDepth 100000 in
theorem ft_183_3 {cn mo : Nat} {sc : eg_Sc} {d : Nat} {Q : Option eg_V → eg_H → Prop} {s : Int × eM} {x : Int × eM} (hx : lp (fun z => fn_183_3 z.1 z.2) s = some x) (hK : (fun (x : Int × eM) => Q (some (.inl ((x).1))) (em_L cn mo, eh_R, (x).2)) x) : ∀ (w2 : Option eg_V), eg_X sc (eg_wp sc (d + 15)) eg_p183 (some .int) 0 0 Q 3 [some (.inr (.inr (some 45))), some (.inl s.1), w2] [] (em_L cn mo, eh_R, s.2) 0 0 := by
  refine lp_sound (P := (fun (s : Int × eM) => ∀ (w2 : Option eg_V), eg_X sc (eg_wp sc (d + 15)) eg_p183 (some .int) 0 0 Q 3 [some (.inr (.inr (some 45))), some (.inl s.1), w2] [] (em_L cn mo, eh_R, s.2) 0 0)) (K := (fun (x : Int × eM) => Q (some (.inl ((x).1))) (em_L cn mo, eh_R, (x).2))) hx hK ?_
  intro s x hx hK w2
  obtain ⟨s1, s2⟩ := s
  refine eg_k_iload rfl rfl ?_
  refine vk_if rfl hx Iff.rfl (fun c1 hx => ?_) (fun c1 hx => ?_)
  · refine eg_k_ci rfl ?_
    have hx := Option.some.inj hx
    subst hx
    exact eg_k_iret rfl True.intro (Nat.le_refl _) (Nat.le_refl _) hK
  · refine eg_k_aload rfl rfl ?_
    refine eg_k_aload rfl rfl ?_
    refine eg_k_iload rfl rfl ?_
    refine eg_k_cl rfl ?_
    obtain ⟨r3, h2, hx⟩ := vb_bind hx
    refine eg_k_call (c1 := 0) (z1 := 0) (as := [.inr (.inr (some 45)), .inl s1, .inr (.inl (-1))]) (rest := [.inr (.inr (some 45))]) rfl eg_tj184 (Nat.le_of_ble_eq_true rfl) rfl rfl rfl (Nat.le_of_ble_eq_true rfl) (Nat.le_refl _) (Nat.le_refl _) ?_ (fun Q hQ => ft_184 h2 hQ)
    obtain ⟨r6, h5, hx⟩ := vb_bind hx
    refine eg_k_call (c1 := 0) (z1 := 0) (as := [.inr (.inr (some 45)), .inl r3.1]) (rest := []) rfl eg_tj210 (Nat.le_of_ble_eq_true rfl) rfl rfl rfl (Nat.le_of_ble_eq_true rfl) (Nat.le_refl _) (Nat.le_refl _) ?_ (fun Q hQ => ft_210 h5 hQ)
    refine eg_k_istore (lv' := [some (.inr (.inr (some 45))), some (.inl s1), some (.inl r6.1)]) rfl rfl ?_
    refine eg_k_iload rfl rfl ?_
    refine vk_if rfl hx Iff.rfl (fun c8 hx => ?_) (fun c8 hx => ?_)
    · refine eg_k_aload rfl rfl ?_
      refine eg_k_ci rfl ?_
      refine eg_k_ci rfl ?_
      refine eg_k_cl rfl ?_
      refine eg_k_ci rfl ?_
      obtain ⟨m11, h9, hx⟩ := vb_bind hx
      refine eg_k_call (c1 := 0) (z1 := 0) (as := [.inr (.inr (some 45)), .inl 12, .inl 0, .inr (.inl (-1)), .inl 0]) (rest := []) rfl eg_tj209 (Nat.le_of_ble_eq_true rfl) rfl rfl rfl (Nat.le_of_ble_eq_true rfl) (Nat.le_refl _) (Nat.le_refl _) ?_ (fun Q hQ => ft_209 h9 hQ)
      refine eg_k_aload rfl rfl ?_
      refine eg_k_ci rfl ?_
      obtain ⟨r13, h12, hx⟩ := vb_bind hx
      refine eg_k_call (c1 := 0) (z1 := 0) (as := [.inr (.inr (some 45)), .inl 1]) (rest := []) rfl eg_tj210 (Nat.le_of_ble_eq_true rfl) rfl rfl rfl (Nat.le_of_ble_eq_true rfl) (Nat.le_refl _) (Nat.le_refl _) ?_ (fun Q hQ => ft_210 h12 hQ)
      refine eg_k_istore (lv' := [some (.inr (.inr (some 45))), some (.inl s1), some (.inl r13.1)]) rfl rfl ?_
      refine eg_k_iload rfl rfl ?_
      refine vk_if rfl hx Iff.rfl (fun c15 hx => ?_) (fun c15 hx => ?_)
      · refine eg_k_aload rfl rfl ?_
        refine eg_k_gfa rfl rfl rfl eh_r45_12 ?_
        refine eg_k_iload rfl rfl ?_
        obtain ⟨b16, hx⟩ := vb_if hx
        refine eg_k_iald (k := 20100) rfl rfl b16.1 b16.2 ?_
        refine eg_k_istore (lv' := [some (.inr (.inr (some 45))), some (.inl (r13.2 53 (s1).toNat)), some (.inl r13.1)]) rfl rfl ?_
        refine eg_k_goto rfl ?_
        have hx := Option.some.inj hx
        subst hx
        exact hK (some (.inl r13.1))
      · refine eg_k_iload rfl rfl ?_
        have hx := Option.some.inj hx
        subst hx
        exact eg_k_iret rfl True.intro (Nat.le_refl _) (Nat.le_refl _) hK
    · refine eg_k_iload rfl rfl ?_
      have hx := Option.some.inj hx
      subst hx
      exact eg_k_iret rfl True.intro (Nat.le_refl _) (Nat.le_refl _) hK
set_option maxRecDepth 100000 in
theorem ft_183 {cn mo : Nat} {sc : eg_Sc} {d : Nat} {M : eM} {Q : Option eg_V → eg_H → Prop} {x : Int × eM} (hx : fn_183 M = some x) (hK : Q (some (.inl ((x).1))) (em_L cn mo, eh_R, (x).2)) : eg_wp sc (d + 16) 183 [.inr (.inr (some 45))] (em_L cn mo, eh_R, M) 0 0 Q := by
  refine eg_in (lv := [some (.inr (.inr (some 45))), none, none]) eg_tj183 (Nat.le_of_ble_eq_true rfl) rfl ?_
  refine eg_k_aload rfl rfl ?_
  refine eg_k_gfi rfl rfl rfl ?_
  refine eg_k_istore (lv' := [some (.inr (.inr (some 45))), some (.inl (M 45 21)), none]) rfl rfl ?_
  have hz := ft_183_3 (d := d) (sc := sc) hx hK
  exact hz none
theorem fw_183_3 {c j : Nat} {v : Int} {s : Int × eM} {x : Int × eM} (hc : c ∉ ([45, 62, 63, 64, 65, 66, 67, 68, 69, 70, 71, 72, 73, 74, 75, 76, 77, 78, 79, 80, 81, 82, 83, 84, 85, 86, 87] : List Nat)) (hx : lp (fun z => fn_183_3 z.1 z.2) s = some x) (hK : (fun (x : Int × eM) => ((x).2) c j = v) x) : s.2 c j = v := by
  refine lp_sound (P := (fun (s : Int × eM) => s.2 c j = v)) (K := (fun (x : Int × eM) => ((x).2) c j = v)) hx hK ?_
  intro s x hx hK
  obtain ⟨s1, s2⟩ := s
  refine vb_ite hx (fun _ hx => ?_) (fun _ hx => ?_)
  · have hx := Option.some.inj hx
    subst hx
    exact (Eq.refl _).symm.trans hK
  · obtain ⟨r3, h2, hx⟩ := vb_bind hx
    obtain ⟨r6, h5, hx⟩ := vb_bind hx
    refine vb_ite hx (fun _ hx => ?_) (fun _ hx => ?_)
    · obtain ⟨m11, h9, hx⟩ := vb_bind hx
      obtain ⟨r13, h12, hx⟩ := vb_bind hx
      refine vb_ite hx (fun _ hx => ?_) (fun _ hx => ?_)
      · obtain ⟨_, hx⟩ := vb_if hx
        have hx := Option.some.inj hx
        subst hx
        exact ((fw_210 h12 (vsub hc (by decide)) j).trans ((fw_209 h9 (vsub hc (by decide)) j).trans ((fw_210 h5 (vsub hc (by decide)) j).trans ((fw_184 h2 (vsub hc (by decide)) j).trans rfl)))).symm.trans hK
      · have hx := Option.some.inj hx
        subst hx
        exact ((fw_210 h12 (vsub hc (by decide)) j).trans ((fw_209 h9 (vsub hc (by decide)) j).trans ((fw_210 h5 (vsub hc (by decide)) j).trans ((fw_184 h2 (vsub hc (by decide)) j).trans rfl)))).symm.trans hK
    · have hx := Option.some.inj hx
      subst hx
      exact ((fw_210 h5 (vsub hc (by decide)) j).trans ((fw_184 h2 (vsub hc (by decide)) j).trans rfl)).symm.trans hK
theorem fw_183 {M : eM} {c : Nat} {x : Int × eM} (hx : fn_183 M = some x) (hc : c ∉ ([45, 62, 63, 64, 65, 66, 67, 68, 69, 70, 71, 72, 73, 74, 75, 76, 77, 78, 79, 80, 81, 82, 83, 84, 85, 86, 87] : List Nat)) (j : Nat) : ((x).2) c j = M c j := by
  obtain ⟨v, hK⟩ : ∃ v, ((x).2) c j = v := ⟨_, rfl⟩
  rw [hK]
  refine Eq.symm ?_
  have hz := fw_183_3 hc hx hK
  exact (Eq.refl _).symm.trans hz
noncomputable def fn_157_31 (x1 : Int) (x2 : Int) (x3 : Int) (M : eM) : Option (Int × eM) :=
  if x3 ≤ 0 then
    (fn_183 (eg_u M 45 17 (M 45 16))).bind fun r11 =>
    some (r11.1, eg_u (eg_u (eg_u (eg_u (eg_u (eg_u r11.2 45 53 0) 45 51 0) 45 59 0) 45 68 0) 45 62 (-1)) 45 63 (-1))
  else
    some (x3, M)
/-- 157: WeakSchemeModel.run(II)I -/
noncomputable def fn_157 (a : Int) (b : Int) (M : eM) : Option (Int × eM) :=
  if a < 0 then
    some ((-1), M)
  else
    if (M 45 1) < a then
      some ((-1), M)
    else
      if b < 0 then
        some ((-1), M)
      else
        if b ≤ 20000 then
          (fn_158 a (eg_u (eg_u (eg_u M 45 1 0) 45 2 (-1)) 45 67 b)).bind fun r6 =>
          if ¬ r6.1 = 0 then
            fn_157_31 a b r6.1 r6.2
          else
            (fn_170 r6.2).bind fun r14 =>
            fn_157_31 a b r14.1 r14.2
        else
          some ((-1), M)
set_option maxRecDepth 100000 in
theorem ft_157_31 {cn mo : Nat} {sc : eg_Sc} {d : Nat} {M : eM} {Q : Option eg_V → eg_H → Prop} {x1 : Int} {x2 : Int} {x3 : Int} {x : Int × eM} (hx : fn_157_31 x1 x2 x3 M = some x) (hK : (fun (x : Int × eM) => Q (some (.inl ((x).1))) (em_L cn mo, eh_R, (x).2)) x) : eg_X sc (eg_wp sc (d + 16)) eg_p157 (some .int) 0 0 Q 31 [some (.inr (.inr (some 45))), some (.inl x1), some (.inl x2), some (.inl x3)] [] (em_L cn mo, eh_R, M) 0 0 := by
  refine eg_k_iload rfl rfl ?_
  refine vk_if rfl hx Iff.rfl (fun c9 hx => ?_) (fun c9 hx => ?_)
  · refine eg_k_aload rfl rfl ?_
    refine eg_k_aload rfl rfl ?_
    refine eg_k_gfi rfl rfl rfl ?_
    refine eg_k_pfi rfl rfl rfl ?_
    refine eg_k_aload rfl rfl ?_
    obtain ⟨r11, h10, hx⟩ := vb_bind hx
    refine eg_k_call (c1 := 0) (z1 := 0) (as := [.inr (.inr (some 45))]) (rest := []) rfl eg_tj183 (Nat.le_of_ble_eq_true rfl) rfl rfl rfl (Nat.le_of_ble_eq_true rfl) (Nat.le_refl _) (Nat.le_refl _) ?_ (fun Q hQ => ft_183 h10 hQ)
    refine eg_k_istore (lv' := [some (.inr (.inr (some 45))), some (.inl x1), some (.inl x2), some (.inl r11.1)]) rfl rfl ?_
    refine eg_k_aload rfl rfl ?_
    refine eg_k_ci rfl ?_
    refine eg_k_pfi rfl rfl rfl ?_
    refine eg_k_aload rfl rfl ?_
    refine eg_k_ci rfl ?_
    refine eg_k_pfi rfl rfl rfl ?_
    refine eg_k_aload rfl rfl ?_
    refine eg_k_ci rfl ?_
    refine eg_k_pfi rfl rfl rfl ?_
    refine eg_k_aload rfl rfl ?_
    refine eg_k_ci rfl ?_
    refine eg_k_pfi rfl rfl rfl ?_
    refine eg_k_aload rfl rfl ?_
    refine eg_k_cl rfl ?_
    refine eg_k_pfl rfl rfl rfl ?_
    refine eg_k_aload rfl rfl ?_
    refine eg_k_cl rfl ?_
    refine eg_k_pfl rfl rfl rfl ?_
    refine eg_k_iload rfl rfl ?_
    have hx := Option.some.inj hx
    subst hx
    exact eg_k_iret rfl True.intro (Nat.le_refl _) (Nat.le_refl _) hK
  · refine eg_k_iload rfl rfl ?_
    have hx := Option.some.inj hx
    subst hx
    exact eg_k_iret rfl True.intro (Nat.le_refl _) (Nat.le_refl _) hK
set_option maxRecDepth 100000 in
theorem ft_157 {cn mo : Nat} {sc : eg_Sc} {d : Nat} {M : eM} {Q : Option eg_V → eg_H → Prop} {a : Int} {b : Int} {x : Int × eM} (hx : fn_157 a b M = some x) (hK : Q (some (.inl ((x).1))) (em_L cn mo, eh_R, (x).2)) : eg_wp sc (d + 17) 157 [.inr (.inr (some 45)), .inl a, .inl b] (em_L cn mo, eh_R, M) 0 0 Q := by
  refine eg_in (lv := [some (.inr (.inr (some 45))), some (.inl a), some (.inl b), none]) eg_tj157 (Nat.le_of_ble_eq_true rfl) rfl ?_
  refine eg_k_iload rfl rfl ?_
  refine vk_if rfl hx Iff.rfl (fun c1 hx => ?_) (fun c1 hx => ?_)
  · refine eg_k_ci rfl ?_
    have hx := Option.some.inj hx
    subst hx
    exact eg_k_iret rfl True.intro (Nat.le_refl _) (Nat.le_refl _) hK
  · refine eg_k_iload rfl rfl ?_
    refine eg_k_aload rfl rfl ?_
    refine eg_k_gfi rfl rfl rfl ?_
    refine vk_icmp rfl hx Iff.rfl (fun c2 hx => ?_) (fun c2 hx => ?_)
    · refine eg_k_ci rfl ?_
      have hx := Option.some.inj hx
      subst hx
      exact eg_k_iret rfl True.intro (Nat.le_refl _) (Nat.le_refl _) hK
    · refine eg_k_iload rfl rfl ?_
      refine vk_if rfl hx Iff.rfl (fun c3 hx => ?_) (fun c3 hx => ?_)
      · refine eg_k_ci rfl ?_
        have hx := Option.some.inj hx
        subst hx
        exact eg_k_iret rfl True.intro (Nat.le_refl _) (Nat.le_refl _) hK
      · refine eg_k_iload rfl rfl ?_
        refine eg_k_ci rfl ?_
        refine vk_icmp rfl hx Iff.rfl (fun c4 hx => ?_) (fun c4 hx => ?_)
        · refine eg_k_aload rfl rfl ?_
          refine eg_k_ci rfl ?_
          refine eg_k_pfi rfl rfl rfl ?_
          refine eg_k_aload rfl rfl ?_
          refine eg_k_ci rfl ?_
          refine eg_k_pfi rfl rfl rfl ?_
          refine eg_k_aload rfl rfl ?_
          refine eg_k_iload rfl rfl ?_
          refine eg_k_pfi rfl rfl rfl ?_
          refine eg_k_aload rfl rfl ?_
          refine eg_k_iload rfl rfl ?_
          obtain ⟨r6, h5, hx⟩ := vb_bind hx
          refine eg_k_call (c1 := 0) (z1 := 0) (as := [.inr (.inr (some 45)), .inl a]) (rest := []) rfl eg_tj158 (Nat.le_of_ble_eq_true rfl) rfl rfl rfl (Nat.le_of_ble_eq_true rfl) (Nat.le_refl _) (Nat.le_refl _) ?_ (fun Q hQ => ft_158 h5 hQ)
          refine eg_k_istore (lv' := [some (.inr (.inr (some 45))), some (.inl a), some (.inl b), some (.inl r6.1)]) rfl rfl ?_
          refine eg_k_iload rfl rfl ?_
          refine vk_if rfl hx Iff.rfl (fun c8 hx => ?_) (fun c8 hx => ?_)
          · have hz := ft_157_31 (d := d) (sc := sc) hx hK
            exact hz
          · refine eg_k_aload rfl rfl ?_
            obtain ⟨r14, h13, hx⟩ := vb_bind hx
            refine eg_k_call (c1 := 0) (z1 := 0) (as := [.inr (.inr (some 45))]) (rest := []) rfl eg_tj170 (Nat.le_of_ble_eq_true rfl) rfl rfl rfl (Nat.le_of_ble_eq_true rfl) (Nat.le_refl _) (Nat.le_refl _) ?_ (fun Q hQ => ft_170 h13 hQ)
            refine eg_k_istore (lv' := [some (.inr (.inr (some 45))), some (.inl a), some (.inl b), some (.inl r14.1)]) rfl rfl ?_
            have hz := ft_157_31 (d := d) (sc := sc) hx hK
            exact hz
        · refine eg_k_ci rfl ?_
          have hx := Option.some.inj hx
          subst hx
          exact eg_k_iret rfl True.intro (Nat.le_refl _) (Nat.le_refl _) hK
theorem fw_157_31 {M : eM} {c j : Nat} {v : Int} {x1 : Int} {x2 : Int} {x3 : Int} {x : Int × eM} (hc : c ∉ ([45, 47, 48, 49, 50, 51, 52, 53, 54, 55, 56, 57, 58, 59, 60, 61, 62, 63, 64, 65, 66, 67, 68, 69, 70, 71, 72, 73, 74, 75, 76, 77, 78, 79, 80, 81, 82, 83, 84, 85, 86, 87] : List Nat)) (hx : fn_157_31 x1 x2 x3 M = some x) (hK : (fun (x : Int × eM) => ((x).2) c j = v) x) : M c j = v := by
  refine vb_ite hx (fun _ hx => ?_) (fun _ hx => ?_)
  · obtain ⟨r11, h10, hx⟩ := vb_bind hx
    have hx := Option.some.inj hx
    subst hx
    exact ((congrFun (eg_u_ne (vne hc (a := 45) (by decide))) j).trans ((congrFun (eg_u_ne (vne hc (a := 45) (by decide))) j).trans ((congrFun (eg_u_ne (vne hc (a := 45) (by decide))) j).trans ((congrFun (eg_u_ne (vne hc (a := 45) (by decide))) j).trans ((congrFun (eg_u_ne (vne hc (a := 45) (by decide))) j).trans ((congrFun (eg_u_ne (vne hc (a := 45) (by decide))) j).trans ((fw_183 h10 (vsub hc (by decide)) j).trans ((congrFun (eg_u_ne (vne hc (a := 45) (by decide))) j).trans rfl)))))))).symm.trans hK
  · have hx := Option.some.inj hx
    subst hx
    exact (Eq.refl _).symm.trans hK
theorem fw_157 {M : eM} {c : Nat} {a : Int} {b : Int} {x : Int × eM} (hx : fn_157 a b M = some x) (hc : c ∉ ([45, 47, 48, 49, 50, 51, 52, 53, 54, 55, 56, 57, 58, 59, 60, 61, 62, 63, 64, 65, 66, 67, 68, 69, 70, 71, 72, 73, 74, 75, 76, 77, 78, 79, 80, 81, 82, 83, 84, 85, 86, 87] : List Nat)) (j : Nat) : ((x).2) c j = M c j := by
  obtain ⟨v, hK⟩ : ∃ v, ((x).2) c j = v := ⟨_, rfl⟩
  rw [hK]
  refine Eq.symm ?_
  refine vb_ite hx (fun _ hx => ?_) (fun _ hx => ?_)
  · have hx := Option.some.inj hx
    subst hx
    exact (Eq.refl _).symm.trans hK
  · refine vb_ite hx (fun _ hx => ?_) (fun _ hx => ?_)
    · have hx := Option.some.inj hx
      subst hx
      exact (Eq.refl _).symm.trans hK
    · refine vb_ite hx (fun _ hx => ?_) (fun _ hx => ?_)
      · have hx := Option.some.inj hx
        subst hx
        exact (Eq.refl _).symm.trans hK
      · refine vb_ite hx (fun _ hx => ?_) (fun _ hx => ?_)
        · obtain ⟨r6, h5, hx⟩ := vb_bind hx
          refine vb_ite hx (fun _ hx => ?_) (fun _ hx => ?_)
          · have hz := fw_157_31 hc hx hK
            exact ((fw_158 h5 (vsub hc (by decide)) j).trans ((congrFun (eg_u_ne (vne hc (a := 45) (by decide))) j).trans ((congrFun (eg_u_ne (vne hc (a := 45) (by decide))) j).trans ((congrFun (eg_u_ne (vne hc (a := 45) (by decide))) j).trans rfl)))).symm.trans hz
          · obtain ⟨r14, h13, hx⟩ := vb_bind hx
            have hz := fw_157_31 hc hx hK
            exact ((fw_170 h13 (vsub hc (by decide)) j).trans ((fw_158 h5 (vsub hc (by decide)) j).trans ((congrFun (eg_u_ne (vne hc (a := 45) (by decide))) j).trans ((congrFun (eg_u_ne (vne hc (a := 45) (by decide))) j).trans ((congrFun (eg_u_ne (vne hc (a := 45) (by decide))) j).trans rfl))))).symm.trans hz
        · have hx := Option.some.inj hx
          subst hx
          exact (Eq.refl _).symm.trans hK
