noncomputable def fn_58_6 (x1 : Int) (M : eM) (s1 : Int) (s2 : Int) : Option ((Int × Int) ⊕ (Int)) :=
  if 0 ≤ x1 ∧ x1 < 20000 then
  if (M 5 (x1).toNat) ≤ s2 then
      some (.inr s1)
    else
      if 0 ≤ s2 ∧ s2 < 20000 then
      some (.inl (eg_wi (s1 + 1), M 5 (s2).toNat))
      else none
  else none
/-- 58: WeakScheme$Source.elements(I)I -/
noncomputable def fn_58 (a : Int) (M : eM) : Option (Int) :=
  lp (fun z => fn_58_6 a M z.1 z.2) (0, eg_wi (a + 1))
set_option maxRecDepth 100000 in
theorem ft_58_6 {cn mo : Nat} {sc : eg_Sc} {d : Nat} {M : eM} {Q : Option eg_V → eg_H → Prop} {x1 : Int} {s : Int × Int} {x : Int} (hx : lp (fun z => fn_58_6 x1 M z.1 z.2) s = some x) (hK : (fun (x : Int) => Q (some (.inl x)) (em_L cn mo, eh_R, M)) x) : eg_X sc (eg_wp sc d) eg_p58 (some .int) 0 0 Q 6 [some (.inr (.inr (some 1))), some (.inl x1), some (.inl s.1), some (.inl s.2)] [] (em_L cn mo, eh_R, M) 0 0 := by
  refine lp_sound (P := (fun (s : Int × Int) => eg_X sc (eg_wp sc d) eg_p58 (some .int) 0 0 Q 6 [some (.inr (.inr (some 1))), some (.inl x1), some (.inl s.1), some (.inl s.2)] [] (em_L cn mo, eh_R, M) 0 0)) (K := (fun (x : Int) => Q (some (.inl x)) (em_L cn mo, eh_R, M))) hx hK ?_
  intro s x hx hK
  obtain ⟨s1, s2⟩ := s
  refine eg_k_iload rfl rfl ?_
  refine eg_k_aload rfl rfl ?_
  refine eg_k_gfa rfl rfl rfl eh_r1_4 ?_
  refine eg_k_iload rfl rfl ?_
  obtain ⟨b1, hx⟩ := vb_if hx
  refine eg_k_iald (k := 20000) rfl rfl b1.1 b1.2 ?_
  refine vk_icmp rfl hx Iff.rfl (fun c2 hx => ?_) (fun c2 hx => ?_)
  · refine eg_k_iload rfl rfl ?_
    have hx := Option.some.inj hx
    subst hx
    exact eg_k_iret rfl True.intro (Nat.le_refl _) (Nat.le_refl _) hK
  · refine eg_k_iinc (lv' := [some (.inr (.inr (some 1))), some (.inl x1), some (.inl (eg_wi (s1 + 1))), some (.inl s2)]) rfl rfl rfl ?_
    refine eg_k_aload rfl rfl ?_
    refine eg_k_gfa rfl rfl rfl eh_r1_4 ?_
    refine eg_k_iload rfl rfl ?_
    obtain ⟨b3, hx⟩ := vb_if hx
    refine eg_k_iald (k := 20000) rfl rfl b3.1 b3.2 ?_
    refine eg_k_istore (lv' := [some (.inr (.inr (some 1))), some (.inl x1), some (.inl (eg_wi (s1 + 1))), some (.inl (M 5 (s2).toNat))]) rfl rfl ?_
    refine eg_k_goto rfl ?_
    have hx := Option.some.inj hx
    subst hx
    exact hK
set_option maxRecDepth 100000 in
theorem ft_58 {cn mo : Nat} {sc : eg_Sc} {d : Nat} {M : eM} {Q : Option eg_V → eg_H → Prop} {a : Int} {x : Int} (hx : fn_58 a M = some x) (hK : Q (some (.inl x)) (em_L cn mo, eh_R, M)) : eg_wp sc (d + 1) 58 [.inr (.inr (some 1)), .inl a] (em_L cn mo, eh_R, M) 0 0 Q := by
  refine eg_in (lv := [some (.inr (.inr (some 1))), some (.inl a), none, none]) eg_tj58 (Nat.le_of_ble_eq_true rfl) rfl ?_
  refine eg_k_ci rfl ?_
  refine eg_k_istore (lv' := [some (.inr (.inr (some 1))), some (.inl a), some (.inl 0), none]) rfl rfl ?_
  refine eg_k_iload rfl rfl ?_
  refine eg_k_ci rfl ?_
  refine eg_k_iadd rfl ?_
  refine eg_k_istore (lv' := [some (.inr (.inr (some 1))), some (.inl a), some (.inl 0), some (.inl (eg_wi (a + 1)))]) rfl rfl ?_
  have hz := ft_58_6 (d := d) (sc := sc) hx hK
  exact hz
/-- 60: WeakScheme$Source.isSpecial(I)Z -/
noncomputable def fn_60 (a : Int) (M : eM) : Option (Int) :=
  if 0 ≤ a ∧ a < 20000 then
  if ¬ (eb_lshr (M 4 (a).toNat) 32) = 2 then
      some 0
    else
      if 10 ≤ (eg_wi (M 4 (a).toNat)) then
        some 0
      else
        some 1
  else none
set_option maxRecDepth 100000 in
theorem ft_60 {cn mo : Nat} {sc : eg_Sc} {d : Nat} {M : eM} {Q : Option eg_V → eg_H → Prop} {a : Int} {x : Int} (hx : fn_60 a M = some x) (hK : Q (some (.inl x)) (em_L cn mo, eh_R, M)) : eg_wp sc (d + 1) 60 [.inr (.inr (some 1)), .inl a] (em_L cn mo, eh_R, M) 0 0 Q := by
  refine eg_in (lv := [some (.inr (.inr (some 1))), some (.inl a)]) eg_tj60 (Nat.le_of_ble_eq_true rfl) rfl ?_
  refine eg_k_aload rfl rfl ?_
  refine eg_k_gfa rfl rfl rfl eh_r1_3 ?_
  refine eg_k_iload rfl rfl ?_
  obtain ⟨b1, hx⟩ := vb_if hx
  refine eg_k_lald (k := 20000) rfl rfl b1.1 b1.2 ?_
  refine eg_k_ci rfl ?_
  refine eg_k_lshr rfl ?_
  refine eg_k_cl rfl ?_
  refine vk_lcmp rfl rfl hx Iff.rfl (fun c2 hx => ?_) (fun c2 hx => ?_)
  · refine eg_k_ci rfl ?_
    have hx := Option.some.inj hx
    subst hx
    exact eg_k_iret rfl (Or.inl rfl) (Nat.le_refl _) (Nat.le_refl _) hK
  · refine eg_k_aload rfl rfl ?_
    refine eg_k_gfa rfl rfl rfl eh_r1_3 ?_
    refine eg_k_iload rfl rfl ?_
    refine eg_k_lald (k := 20000) rfl rfl b1.1 b1.2 ?_
    refine eg_k_l2i rfl ?_
    refine eg_k_ci rfl ?_
    refine vk_icmp rfl hx Iff.rfl (fun c4 hx => ?_) (fun c4 hx => ?_)
    · refine eg_k_ci rfl ?_
      have hx := Option.some.inj hx
      subst hx
      exact eg_k_iret rfl (Or.inl rfl) (Nat.le_refl _) (Nat.le_refl _) hK
    · refine eg_k_ci rfl ?_
      refine eg_k_goto rfl ?_
      have hx := Option.some.inj hx
      subst hx
      exact eg_k_iret rfl (Or.inr rfl) (Nat.le_refl _) (Nat.le_refl _) hK
/-- 59: WeakScheme$Source.form(I)I -/
noncomputable def fn_59 (a : Int) (M : eM) : Option (Int) :=
  (fn_60 (eg_wi (a + 1)) M).bind fun r2 =>
  if r2 = 0 then
    some 10
  else
    if 0 ≤ (eg_wi (a + 1)) ∧ (eg_wi (a + 1)) < 20000 then
    some (eg_wi (M 4 (eg_wi (a + 1)).toNat))
    else none
set_option maxRecDepth 100000 in
theorem ft_59 {cn mo : Nat} {sc : eg_Sc} {d : Nat} {M : eM} {Q : Option eg_V → eg_H → Prop} {a : Int} {x : Int} (hx : fn_59 a M = some x) (hK : Q (some (.inl x)) (em_L cn mo, eh_R, M)) : eg_wp sc (d + 2) 59 [.inr (.inr (some 1)), .inl a] (em_L cn mo, eh_R, M) 0 0 Q := by
  refine eg_in (lv := [some (.inr (.inr (some 1))), some (.inl a)]) eg_tj59 (Nat.le_of_ble_eq_true rfl) rfl ?_
  refine eg_k_aload rfl rfl ?_
  refine eg_k_iload rfl rfl ?_
  refine eg_k_ci rfl ?_
  refine eg_k_iadd rfl ?_
  obtain ⟨r2, h1, hx⟩ := vb_bind hx
  refine eg_k_call (c1 := 0) (z1 := 0) (as := [.inr (.inr (some 1)), .inl (eg_wi (a + 1))]) (rest := []) rfl eg_tj60 (Nat.le_of_ble_eq_true rfl) rfl rfl rfl (Nat.le_of_ble_eq_true rfl) (Nat.le_refl _) (Nat.le_refl _) ?_ (fun Q hQ => ft_60 h1 hQ)
  refine vk_if rfl hx Iff.rfl (fun c4 hx => ?_) (fun c4 hx => ?_)
  · refine eg_k_ci rfl ?_
    have hx := Option.some.inj hx
    subst hx
    exact eg_k_iret rfl True.intro (Nat.le_refl _) (Nat.le_refl _) hK
  · refine eg_k_aload rfl rfl ?_
    refine eg_k_gfa rfl rfl rfl eh_r1_3 ?_
    refine eg_k_iload rfl rfl ?_
    refine eg_k_ci rfl ?_
    refine eg_k_iadd rfl ?_
    obtain ⟨b5, hx⟩ := vb_if hx
    refine eg_k_lald (k := 20000) rfl rfl b5.1 b5.2 ?_
    refine eg_k_l2i rfl ?_
    refine eg_k_goto rfl ?_
    have hx := Option.some.inj hx
    subst hx
    exact eg_k_iret rfl True.intro (Nat.le_refl _) (Nat.le_refl _) hK
noncomputable def fn_61_2 (x1 : Int) (x2 : Int) (s1 : Int) (s2 : eM) : Option ((Int × eM) ⊕ (eM)) :=
  if 0 ≤ x1 ∧ x1 < 20000 then
  if (s2 5 (x1).toNat) ≤ s1 then
      some (.inr s2)
    else
      if 0 ≤ (eg_wi (s1 - (s2 12 3))) ∧ (eg_wi (s1 - (s2 12 3))) < 2000 then
      if 0 ≤ s1 ∧ s1 < 20000 then
        some (.inl (s2 5 (s1).toNat, eg_u s2 13 (eg_wi (s1 - (s2 12 3))).toNat 1))
        else none
      else none
  else none
/-- 61: WeakScheme$Shape.tellExpressions(II)V -/
noncomputable def fn_61 (a : Int) (b : Int) (M : eM) : Option (eM) :=
  lp (fun z => fn_61_2 a b z.1 z.2) (b, M)
set_option maxRecDepth 100000 in
theorem ft_61_2 {cn mo : Nat} {sc : eg_Sc} {d : Nat} {Q : Option eg_V → eg_H → Prop} {x1 : Int} {x2 : Int} {s : Int × eM} {x : eM} (hx : lp (fun z => fn_61_2 x1 x2 z.1 z.2) s = some x) (hK : (fun (x : eM) => Q (none) (em_L cn mo, eh_R, x)) x) : eg_X sc (eg_wp sc d) eg_p61 none 0 0 Q 2 [some (.inr (.inr (some 12))), some (.inl x1), some (.inl x2), some (.inl s.1)] [] (em_L cn mo, eh_R, s.2) 0 0 := by
  refine lp_sound (P := (fun (s : Int × eM) => eg_X sc (eg_wp sc d) eg_p61 none 0 0 Q 2 [some (.inr (.inr (some 12))), some (.inl x1), some (.inl x2), some (.inl s.1)] [] (em_L cn mo, eh_R, s.2) 0 0)) (K := (fun (x : eM) => Q (none) (em_L cn mo, eh_R, x))) hx hK ?_
  intro s x hx hK
  obtain ⟨s1, s2⟩ := s
  refine eg_k_iload rfl rfl ?_
  refine eg_k_aload rfl rfl ?_
  refine eg_k_gfr rfl rfl rfl eh_r12_0 ?_
  refine eg_k_gfa rfl rfl rfl eh_r1_4 ?_
  refine eg_k_iload rfl rfl ?_
  obtain ⟨b1, hx⟩ := vb_if hx
  refine eg_k_iald (k := 20000) rfl rfl b1.1 b1.2 ?_
  refine vk_icmp rfl hx Iff.rfl (fun c2 hx => ?_) (fun c2 hx => ?_)
  · have hx := Option.some.inj hx
    subst hx
    exact eg_k_ret rfl rfl (Nat.le_refl _) (Nat.le_refl _) hK
  · refine eg_k_aload rfl rfl ?_
    refine eg_k_gfa rfl rfl rfl eh_r12_1 ?_
    refine eg_k_iload rfl rfl ?_
    refine eg_k_aload rfl rfl ?_
    refine eg_k_gfi rfl rfl rfl ?_
    refine eg_k_isub rfl ?_
    refine eg_k_ci rfl ?_
    obtain ⟨b3, hx⟩ := vb_if hx
    refine eg_k_iast (k := 2000) rfl rfl b3.1 b3.2 ?_
    refine eg_k_aload rfl rfl ?_
    refine eg_k_gfr rfl rfl rfl eh_r12_0 ?_
    refine eg_k_gfa rfl rfl rfl eh_r1_4 ?_
    refine eg_k_iload rfl rfl ?_
    obtain ⟨b4, hx⟩ := vb_if hx
    refine vk_iald (k := 20000) (y := s2 5 (s1).toNat) rfl rfl b4.1 b4.2 rfl ?_
    refine eg_k_istore (lv' := [some (.inr (.inr (some 12))), some (.inl x1), some (.inl x2), some (.inl (s2 5 (s1).toNat))]) rfl rfl ?_
    refine eg_k_goto rfl ?_
    have hx := Option.some.inj hx
    subst hx
    exact hK
set_option maxRecDepth 100000 in
theorem ft_61 {cn mo : Nat} {sc : eg_Sc} {d : Nat} {M : eM} {Q : Option eg_V → eg_H → Prop} {a : Int} {b : Int} {x : eM} (hx : fn_61 a b M = some x) (hK : Q (none) (em_L cn mo, eh_R, x)) : eg_wp sc (d + 1) 61 [.inr (.inr (some 12)), .inl a, .inl b] (em_L cn mo, eh_R, M) 0 0 Q := by
  refine eg_in (lv := [some (.inr (.inr (some 12))), some (.inl a), some (.inl b), none]) eg_tj61 (Nat.le_of_ble_eq_true rfl) rfl ?_
  refine eg_k_iload rfl rfl ?_
  refine eg_k_istore (lv' := [some (.inr (.inr (some 12))), some (.inl a), some (.inl b), some (.inl b)]) rfl rfl ?_
  have hz := ft_61_2 (d := d) (sc := sc) hx hK
  exact hz
theorem fw_61_2 {c j : Nat} {v : Int} {x1 : Int} {x2 : Int} {s : Int × eM} {x : eM} (hc : c ∉ ([13] : List Nat)) (hx : lp (fun z => fn_61_2 x1 x2 z.1 z.2) s = some x) (hK : (fun (x : eM) => x c j = v) x) : s.2 c j = v := by
  refine lp_sound (P := (fun (s : Int × eM) => s.2 c j = v)) (K := (fun (x : eM) => x c j = v)) hx hK ?_
  intro s x hx hK
  obtain ⟨s1, s2⟩ := s
  obtain ⟨_, hx⟩ := vb_if hx
  refine vb_ite hx (fun _ hx => ?_) (fun _ hx => ?_)
  · have hx := Option.some.inj hx
    subst hx
    exact (Eq.refl _).symm.trans hK
  · obtain ⟨_, hx⟩ := vb_if hx
    obtain ⟨_, hx⟩ := vb_if hx
    have hx := Option.some.inj hx
    subst hx
    exact ((congrFun (eg_u_ne (vne hc (a := 13) (by decide))) j).trans rfl).symm.trans hK
theorem fw_61 {M : eM} {c : Nat} {a : Int} {b : Int} {x : eM} (hx : fn_61 a b M = some x) (hc : c ∉ ([13] : List Nat)) (j : Nat) : x c j = M c j := by
  obtain ⟨v, hK⟩ : ∃ v, x c j = v := ⟨_, rfl⟩
  rw [hK]
  refine Eq.symm ?_
  have hz := fw_61_2 hc hx hK
  exact (Eq.refl _).symm.trans hz
/-- 62: WeakScheme$Shape.tellSecond(II)V -/
noncomputable def fn_62 (a : Int) (b : Int) (M : eM) : Option (eM) :=
  if 0 ≤ (eg_wi ((eg_wi (a + 2)) - (M 12 3))) ∧ (eg_wi ((eg_wi (a + 2)) - (M 12 3))) < 2000 then
  if 0 ≤ (eg_wi (a + 2)) ∧ (eg_wi (a + 2)) < 20000 then
    (fn_61 a (M 5 (eg_wi (a + 2)).toNat) (eg_u M 13 (eg_wi ((eg_wi (a + 2)) - (M 12 3))).toNat b)).bind fun m5 =>
      some m5
    else none
  else none
set_option maxRecDepth 100000 in
theorem ft_62 {cn mo : Nat} {sc : eg_Sc} {d : Nat} {M : eM} {Q : Option eg_V → eg_H → Prop} {a : Int} {b : Int} {x : eM} (hx : fn_62 a b M = some x) (hK : Q (none) (em_L cn mo, eh_R, x)) : eg_wp sc (d + 2) 62 [.inr (.inr (some 12)), .inl a, .inl b] (em_L cn mo, eh_R, M) 0 0 Q := by
  refine eg_in (lv := [some (.inr (.inr (some 12))), some (.inl a), some (.inl b)]) eg_tj62 (Nat.le_of_ble_eq_true rfl) rfl ?_
  refine eg_k_aload rfl rfl ?_
  refine eg_k_gfa rfl rfl rfl eh_r12_1 ?_
  refine eg_k_iload rfl rfl ?_
  refine eg_k_ci rfl ?_
  refine eg_k_iadd rfl ?_
  refine eg_k_aload rfl rfl ?_
  refine eg_k_gfi rfl rfl rfl ?_
  refine eg_k_isub rfl ?_
  refine eg_k_iload rfl rfl ?_
  obtain ⟨b1, hx⟩ := vb_if hx
  refine eg_k_iast (k := 2000) rfl rfl b1.1 b1.2 ?_
  refine eg_k_aload rfl rfl ?_
  refine eg_k_iload rfl rfl ?_
  refine eg_k_aload rfl rfl ?_
  refine eg_k_gfr rfl rfl rfl eh_r12_0 ?_
  refine eg_k_gfa rfl rfl rfl eh_r1_4 ?_
  refine eg_k_iload rfl rfl ?_
  refine eg_k_ci rfl ?_
  refine eg_k_iadd rfl ?_
  obtain ⟨b2, hx⟩ := vb_if hx
  refine vk_iald (k := 20000) (y := M 5 (eg_wi (a + 2)).toNat) rfl rfl b2.1 b2.2 rfl ?_
  obtain ⟨m5, h3, hx⟩ := vb_bind hx
  refine eg_k_call (c1 := 0) (z1 := 0) (as := [.inr (.inr (some 12)), .inl a, .inl (M 5 (eg_wi (a + 2)).toNat)]) (rest := []) rfl eg_tj61 (Nat.le_of_ble_eq_true rfl) rfl rfl rfl (Nat.le_of_ble_eq_true rfl) (Nat.le_refl _) (Nat.le_refl _) ?_ (fun Q hQ => ft_61 h3 hQ)
  have hx := Option.some.inj hx
  subst hx
  exact eg_k_ret rfl rfl (Nat.le_refl _) (Nat.le_refl _) hK
theorem fw_62 {M : eM} {c : Nat} {a : Int} {b : Int} {x : eM} (hx : fn_62 a b M = some x) (hc : c ∉ ([13] : List Nat)) (j : Nat) : x c j = M c j := by
  obtain ⟨v, hK⟩ : ∃ v, x c j = v := ⟨_, rfl⟩
  rw [hK]
  refine Eq.symm ?_
  obtain ⟨_, hx⟩ := vb_if hx
  obtain ⟨_, hx⟩ := vb_if hx
  obtain ⟨m5, h3, hx⟩ := vb_bind hx
  have hx := Option.some.inj hx
  subst hx
  exact ((fw_61 h3 (vsub hc (by decide)) j).trans ((congrFun (eg_u_ne (vne hc (a := 13) (by decide))) j).trans rfl)).symm.trans hK
noncomputable def fn_57_40 (x1 : Int) (x3 : Int) (M : eM) : Option (Int × eM) :=
  if ¬ x3 = 10 then
    if x3 = 2 then
      (fn_62 x1 3 M).bind fun m17 =>
      some (1, m17)
    else
      if ¬ x3 = 3 then
        if ¬ x3 = 4 then
          if ¬ x3 = 5 then
            if x3 = 0 then
              some (1, M)
            else
              (fn_61 x1 (eg_wi (x1 + 2)) M).bind fun m24 =>
              some (1, m24)
          else
            (fn_62 x1 6 M).bind fun m27 =>
            some (1, m27)
        else
          (fn_62 x1 4 M).bind fun m30 =>
          some (1, m30)
      else
        (fn_62 x1 3 M).bind fun m33 =>
        some (1, m33)
  else
    (fn_61 x1 (eg_wi (x1 + 1)) M).bind fun m36 =>
    some (1, m36)
/-- 57: WeakScheme$Shape.isForm(I)Z -/
noncomputable def fn_57 (a : Int) (M : eM) : Option (Int × eM) :=
  (fn_58 a M).bind fun r2 =>
  if ¬ r2 = 0 then
    (fn_59 a M).bind fun r6 =>
    if 0 ≤ r6 ∧ r6 < 11 then
    if r2 < (eg_least.getD (r6).toNat 0) then
        some (0, M)
      else
        if r2 ≤ (eg_most.getD (r6).toNat 0) then
          if ¬ r6 = 3 then
            fn_57_40 a r6 M
          else
            if 0 ≤ (eg_wi (a - (M 12 3))) ∧ (eg_wi (a - (M 12 3))) < 2000 then
            if (M 13 (eg_wi (a - (M 12 3))).toNat) = 2 then
                fn_57_40 a r6 M
              else
                some (0, M)
            else none
        else
          some (0, M)
    else none
  else
    some (0, M)
set_option maxRecDepth 100000 in
theorem ft_57_40 {cn mo : Nat} {sc : eg_Sc} {d : Nat} {M : eM} {Q : Option eg_V → eg_H → Prop} {x1 : Int} {x3 : Int} {x : Int × eM} (hx : fn_57_40 x1 x3 M = some x) (hK : (fun (x : Int × eM) => Q (some (.inl ((x).1))) (em_L cn mo, eh_R, (x).2)) x) : ∀ (w2 : Option eg_V), eg_X sc (eg_wp sc (d + 2)) eg_p57 (some .boolean) 0 0 Q 40 [some (.inr (.inr (some 12))), some (.inl x1), w2, some (.inl x3)] [] (em_L cn mo, eh_R, M) 0 0 := by
  intro w2
  refine eg_k_iload rfl rfl ?_
  refine eg_k_ci rfl ?_
  refine vk_icmp rfl hx Iff.rfl (fun c13 hx => ?_) (fun c13 hx => ?_)
  · refine eg_k_iload rfl rfl ?_
    refine eg_k_ci rfl ?_
    refine vk_icmp rfl hx Iff.rfl (fun c14 hx => ?_) (fun c14 hx => ?_)
    · refine eg_k_aload rfl rfl ?_
      refine eg_k_iload rfl rfl ?_
      refine eg_k_ci rfl ?_
      obtain ⟨m17, h15, hx⟩ := vb_bind hx
      refine eg_k_call (c1 := 0) (z1 := 0) (as := [.inr (.inr (some 12)), .inl x1, .inl 3]) (rest := []) rfl eg_tj62 (Nat.le_of_ble_eq_true rfl) rfl rfl rfl (Nat.le_of_ble_eq_true rfl) (Nat.le_refl _) (Nat.le_refl _) ?_ (fun Q hQ => ft_62 h15 hQ)
      refine eg_k_goto rfl ?_
      refine eg_k_ci rfl ?_
      have hx := Option.some.inj hx
      subst hx
      exact eg_k_iret rfl (Or.inr rfl) (Nat.le_refl _) (Nat.le_refl _) hK
    · refine eg_k_iload rfl rfl ?_
      refine eg_k_ci rfl ?_
      refine vk_icmp rfl hx Iff.rfl (fun c18 hx => ?_) (fun c18 hx => ?_)
      · refine eg_k_iload rfl rfl ?_
        refine eg_k_ci rfl ?_
        refine vk_icmp rfl hx Iff.rfl (fun c19 hx => ?_) (fun c19 hx => ?_)
        · refine eg_k_iload rfl rfl ?_
          refine eg_k_ci rfl ?_
          refine vk_icmp rfl hx Iff.rfl (fun c20 hx => ?_) (fun c20 hx => ?_)
          · refine eg_k_iload rfl rfl ?_
            refine vk_if rfl hx Iff.rfl (fun c21 hx => ?_) (fun c21 hx => ?_)
            · refine eg_k_ci rfl ?_
              have hx := Option.some.inj hx
              subst hx
              exact eg_k_iret rfl (Or.inr rfl) (Nat.le_refl _) (Nat.le_refl _) hK
            · refine eg_k_aload rfl rfl ?_
              refine eg_k_iload rfl rfl ?_
              refine eg_k_iload rfl rfl ?_
              refine eg_k_ci rfl ?_
              refine eg_k_iadd rfl ?_
              obtain ⟨m24, h22, hx⟩ := vb_bind hx
              refine eg_k_call (c1 := 0) (z1 := 0) (as := [.inr (.inr (some 12)), .inl x1, .inl (eg_wi (x1 + 2))]) (rest := []) rfl eg_tj61 (Nat.le_of_ble_eq_true rfl) rfl rfl rfl (Nat.le_of_ble_eq_true rfl) (Nat.le_refl _) (Nat.le_refl _) ?_ (fun Q hQ => ft_61 h22 hQ)
              refine eg_k_ci rfl ?_
              have hx := Option.some.inj hx
              subst hx
              exact eg_k_iret rfl (Or.inr rfl) (Nat.le_refl _) (Nat.le_refl _) hK
          · refine eg_k_aload rfl rfl ?_
            refine eg_k_iload rfl rfl ?_
            refine eg_k_ci rfl ?_
            obtain ⟨m27, h25, hx⟩ := vb_bind hx
            refine eg_k_call (c1 := 0) (z1 := 0) (as := [.inr (.inr (some 12)), .inl x1, .inl 6]) (rest := []) rfl eg_tj62 (Nat.le_of_ble_eq_true rfl) rfl rfl rfl (Nat.le_of_ble_eq_true rfl) (Nat.le_refl _) (Nat.le_refl _) ?_ (fun Q hQ => ft_62 h25 hQ)
            refine eg_k_goto rfl ?_
            refine eg_k_ci rfl ?_
            have hx := Option.some.inj hx
            subst hx
            exact eg_k_iret rfl (Or.inr rfl) (Nat.le_refl _) (Nat.le_refl _) hK
        · refine eg_k_aload rfl rfl ?_
          refine eg_k_iload rfl rfl ?_
          refine eg_k_ci rfl ?_
          obtain ⟨m30, h28, hx⟩ := vb_bind hx
          refine eg_k_call (c1 := 0) (z1 := 0) (as := [.inr (.inr (some 12)), .inl x1, .inl 4]) (rest := []) rfl eg_tj62 (Nat.le_of_ble_eq_true rfl) rfl rfl rfl (Nat.le_of_ble_eq_true rfl) (Nat.le_refl _) (Nat.le_refl _) ?_ (fun Q hQ => ft_62 h28 hQ)
          refine eg_k_goto rfl ?_
          refine eg_k_ci rfl ?_
          have hx := Option.some.inj hx
          subst hx
          exact eg_k_iret rfl (Or.inr rfl) (Nat.le_refl _) (Nat.le_refl _) hK
      · refine eg_k_aload rfl rfl ?_
        refine eg_k_iload rfl rfl ?_
        refine eg_k_ci rfl ?_
        obtain ⟨m33, h31, hx⟩ := vb_bind hx
        refine eg_k_call (c1 := 0) (z1 := 0) (as := [.inr (.inr (some 12)), .inl x1, .inl 3]) (rest := []) rfl eg_tj62 (Nat.le_of_ble_eq_true rfl) rfl rfl rfl (Nat.le_of_ble_eq_true rfl) (Nat.le_refl _) (Nat.le_refl _) ?_ (fun Q hQ => ft_62 h31 hQ)
        refine eg_k_goto rfl ?_
        refine eg_k_ci rfl ?_
        have hx := Option.some.inj hx
        subst hx
        exact eg_k_iret rfl (Or.inr rfl) (Nat.le_refl _) (Nat.le_refl _) hK
  · refine eg_k_aload rfl rfl ?_
    refine eg_k_iload rfl rfl ?_
    refine eg_k_iload rfl rfl ?_
    refine eg_k_ci rfl ?_
    refine eg_k_iadd rfl ?_
    obtain ⟨m36, h34, hx⟩ := vb_bind hx
    refine eg_k_call (c1 := 0) (z1 := 0) (as := [.inr (.inr (some 12)), .inl x1, .inl (eg_wi (x1 + 1))]) (rest := []) rfl eg_tj61 (Nat.le_of_ble_eq_true rfl) rfl rfl rfl (Nat.le_of_ble_eq_true rfl) (Nat.le_refl _) (Nat.le_refl _) ?_ (fun Q hQ => ft_61 h34 hQ)
    refine eg_k_goto rfl ?_
    refine eg_k_ci rfl ?_
    have hx := Option.some.inj hx
    subst hx
    exact eg_k_iret rfl (Or.inr rfl) (Nat.le_refl _) (Nat.le_refl _) hK
set_option maxRecDepth 100000 in
theorem ft_57 {cn mo : Nat} {sc : eg_Sc} {d : Nat} {M : eM} {Q : Option eg_V → eg_H → Prop} {a : Int} {x : Int × eM} (hx : fn_57 a M = some x) (hK : Q (some (.inl ((x).1))) (em_L cn mo, eh_R, (x).2)) : eg_wp sc (d + 3) 57 [.inr (.inr (some 12)), .inl a] (em_L cn mo, eh_R, M) 0 0 Q := by
  refine eg_in (lv := [some (.inr (.inr (some 12))), some (.inl a), none, none]) eg_tj57 (Nat.le_of_ble_eq_true rfl) rfl ?_
  refine eg_k_aload rfl rfl ?_
  refine eg_k_gfr rfl rfl rfl eh_r12_0 ?_
  refine eg_k_iload rfl rfl ?_
  obtain ⟨r2, h1, hx⟩ := vb_bind hx
  refine eg_k_call (c1 := 0) (z1 := 0) (as := [.inr (.inr (some 1)), .inl a]) (rest := []) rfl eg_tj58 (Nat.le_of_ble_eq_true rfl) rfl rfl rfl (Nat.le_of_ble_eq_true rfl) (Nat.le_refl _) (Nat.le_refl _) ?_ (fun Q hQ => ft_58 h1 hQ)
  refine eg_k_istore (lv' := [some (.inr (.inr (some 12))), some (.inl a), some (.inl r2), none]) rfl rfl ?_
  refine eg_k_iload rfl rfl ?_
  refine vk_if rfl hx Iff.rfl (fun c4 hx => ?_) (fun c4 hx => ?_)
  · refine eg_k_aload rfl rfl ?_
    refine eg_k_gfr rfl rfl rfl eh_r12_0 ?_
    refine eg_k_iload rfl rfl ?_
    obtain ⟨r6, h5, hx⟩ := vb_bind hx
    refine eg_k_call (c1 := 0) (z1 := 0) (as := [.inr (.inr (some 1)), .inl a]) (rest := []) rfl eg_tj59 (Nat.le_of_ble_eq_true rfl) rfl rfl rfl (Nat.le_of_ble_eq_true rfl) (Nat.le_refl _) (Nat.le_refl _) ?_ (fun Q hQ => ft_59 h5 hQ)
    refine eg_k_istore (lv' := [some (.inr (.inr (some 12))), some (.inl a), some (.inl r2), some (.inl r6)]) rfl rfl ?_
    refine eg_k_iload rfl rfl ?_
    refine eg_k_gets (v := .inr (.inr (some 1000001))) rfl rfl ?_
    refine eg_k_iload rfl rfl ?_
    obtain ⟨b8, hx⟩ := vb_if hx
    refine eg_k_tiald (k := 11) (f9 := fun j => .inl (eg_least.getD j 0)) rfl (es_no (Nat.le_of_ble_eq_true rfl) (by decide)) rfl b8.1 b8.2 ?_
    refine vk_icmp rfl hx Iff.rfl (fun c9 hx => ?_) (fun c9 hx => ?_)
    · refine eg_k_ci rfl ?_
      have hx := Option.some.inj hx
      subst hx
      exact eg_k_iret rfl (Or.inl rfl) (Nat.le_refl _) (Nat.le_refl _) hK
    · refine eg_k_iload rfl rfl ?_
      refine eg_k_gets (v := .inr (.inr (some 1000002))) rfl rfl ?_
      refine eg_k_iload rfl rfl ?_
      refine eg_k_tiald (k := 11) (f9 := fun j => .inl (eg_most.getD j 0)) rfl (es_no (Nat.le_of_ble_eq_true rfl) (by decide)) rfl b8.1 b8.2 ?_
      refine vk_icmp rfl hx Iff.rfl (fun c11 hx => ?_) (fun c11 hx => ?_)
      · refine eg_k_iload rfl rfl ?_
        refine eg_k_ci rfl ?_
        refine vk_icmp rfl hx Iff.rfl (fun c12 hx => ?_) (fun c12 hx => ?_)
        · have hz := ft_57_40 (d := d) (sc := sc) hx hK
          exact hz (some (.inl r2))
        · refine eg_k_aload rfl rfl ?_
          refine eg_k_gfa rfl rfl rfl eh_r12_1 ?_
          refine eg_k_iload rfl rfl ?_
          refine eg_k_aload rfl rfl ?_
          refine eg_k_gfi rfl rfl rfl ?_
          refine eg_k_isub rfl ?_
          obtain ⟨b37, hx⟩ := vb_if hx
          refine eg_k_iald (k := 2000) rfl rfl b37.1 b37.2 ?_
          refine eg_k_ci rfl ?_
          refine vk_icmp rfl hx Iff.rfl (fun c38 hx => ?_) (fun c38 hx => ?_)
          · have hz := ft_57_40 (d := d) (sc := sc) hx hK
            exact hz (some (.inl r2))
          · refine eg_k_ci rfl ?_
            have hx := Option.some.inj hx
            subst hx
            exact eg_k_iret rfl (Or.inl rfl) (Nat.le_refl _) (Nat.le_refl _) hK
      · refine eg_k_ci rfl ?_
        have hx := Option.some.inj hx
        subst hx
        exact eg_k_iret rfl (Or.inl rfl) (Nat.le_refl _) (Nat.le_refl _) hK
  · refine eg_k_ci rfl ?_
    have hx := Option.some.inj hx
    subst hx
    exact eg_k_iret rfl (Or.inl rfl) (Nat.le_refl _) (Nat.le_refl _) hK
theorem fw_57_40 {M : eM} {c j : Nat} {v : Int} {x1 : Int} {x3 : Int} {x : Int × eM} (hc : c ∉ ([13] : List Nat)) (hx : fn_57_40 x1 x3 M = some x) (hK : (fun (x : Int × eM) => ((x).2) c j = v) x) : M c j = v := by
  refine vb_ite hx (fun _ hx => ?_) (fun _ hx => ?_)
  · refine vb_ite hx (fun _ hx => ?_) (fun _ hx => ?_)
    · obtain ⟨m17, h15, hx⟩ := vb_bind hx
      have hx := Option.some.inj hx
      subst hx
      exact ((fw_62 h15 (vsub hc (by decide)) j).trans rfl).symm.trans hK
    · refine vb_ite hx (fun _ hx => ?_) (fun _ hx => ?_)
      · refine vb_ite hx (fun _ hx => ?_) (fun _ hx => ?_)
        · refine vb_ite hx (fun _ hx => ?_) (fun _ hx => ?_)
          · refine vb_ite hx (fun _ hx => ?_) (fun _ hx => ?_)
            · have hx := Option.some.inj hx
              subst hx
              exact (Eq.refl _).symm.trans hK
            · obtain ⟨m24, h22, hx⟩ := vb_bind hx
              have hx := Option.some.inj hx
              subst hx
              exact ((fw_61 h22 (vsub hc (by decide)) j).trans rfl).symm.trans hK
          · obtain ⟨m27, h25, hx⟩ := vb_bind hx
            have hx := Option.some.inj hx
            subst hx
            exact ((fw_62 h25 (vsub hc (by decide)) j).trans rfl).symm.trans hK
        · obtain ⟨m30, h28, hx⟩ := vb_bind hx
          have hx := Option.some.inj hx
          subst hx
          exact ((fw_62 h28 (vsub hc (by decide)) j).trans rfl).symm.trans hK
      · obtain ⟨m33, h31, hx⟩ := vb_bind hx
        have hx := Option.some.inj hx
        subst hx
        exact ((fw_62 h31 (vsub hc (by decide)) j).trans rfl).symm.trans hK
  · obtain ⟨m36, h34, hx⟩ := vb_bind hx
    have hx := Option.some.inj hx
    subst hx
    exact ((fw_61 h34 (vsub hc (by decide)) j).trans rfl).symm.trans hK
theorem fw_57 {M : eM} {c : Nat} {a : Int} {x : Int × eM} (hx : fn_57 a M = some x) (hc : c ∉ ([13] : List Nat)) (j : Nat) : ((x).2) c j = M c j := by
  obtain ⟨v, hK⟩ : ∃ v, ((x).2) c j = v := ⟨_, rfl⟩
  rw [hK]
  refine Eq.symm ?_
  obtain ⟨r2, h1, hx⟩ := vb_bind hx
  refine vb_ite hx (fun _ hx => ?_) (fun _ hx => ?_)
  · obtain ⟨r6, h5, hx⟩ := vb_bind hx
    obtain ⟨_, hx⟩ := vb_if hx
    refine vb_ite hx (fun _ hx => ?_) (fun _ hx => ?_)
    · have hx := Option.some.inj hx
      subst hx
      exact (Eq.refl _).symm.trans hK
    · refine vb_ite hx (fun _ hx => ?_) (fun _ hx => ?_)
      · refine vb_ite hx (fun _ hx => ?_) (fun _ hx => ?_)
        · have hz := fw_57_40 hc hx hK
          exact (Eq.refl _).symm.trans hz
        · obtain ⟨_, hx⟩ := vb_if hx
          refine vb_ite hx (fun _ hx => ?_) (fun _ hx => ?_)
          · have hz := fw_57_40 hc hx hK
            exact (Eq.refl _).symm.trans hz
          · have hx := Option.some.inj hx
            subst hx
            exact (Eq.refl _).symm.trans hK
      · have hx := Option.some.inj hx
        subst hx
        exact (Eq.refl _).symm.trans hK
  · have hx := Option.some.inj hx
    subst hx
    exact (Eq.refl _).symm.trans hK
/-- 64: WeakScheme$Source.isName(I)Z -/
noncomputable def fn_64 (a : Int) (M : eM) : Option (Int) :=
  if 0 ≤ a ∧ a < 20000 then
  if ¬ (eb_lshr (M 4 (a).toNat) 32) = 2 then
      some 0
    else
      some 1
  else none
set_option maxRecDepth 100000 in
theorem ft_64 {cn mo : Nat} {sc : eg_Sc} {d : Nat} {M : eM} {Q : Option eg_V → eg_H → Prop} {a : Int} {x : Int} (hx : fn_64 a M = some x) (hK : Q (some (.inl x)) (em_L cn mo, eh_R, M)) : eg_wp sc (d + 1) 64 [.inr (.inr (some 1)), .inl a] (em_L cn mo, eh_R, M) 0 0 Q := by
  refine eg_in (lv := [some (.inr (.inr (some 1))), some (.inl a)]) eg_tj64 (Nat.le_of_ble_eq_true rfl) rfl ?_
  refine eg_k_aload rfl rfl ?_
  refine eg_k_gfa rfl rfl rfl eh_r1_3 ?_
  refine eg_k_iload rfl rfl ?_
  obtain ⟨b1, hx⟩ := vb_if hx
  refine eg_k_lald (k := 20000) rfl rfl b1.1 b1.2 ?_
  refine eg_k_ci rfl ?_
  refine eg_k_lshr rfl ?_
  refine eg_k_cl rfl ?_
  refine vk_lcmp rfl rfl hx Iff.rfl (fun c2 hx => ?_) (fun c2 hx => ?_)
  · refine eg_k_ci rfl ?_
    have hx := Option.some.inj hx
    subst hx
    exact eg_k_iret rfl (Or.inl rfl) (Nat.le_refl _) (Nat.le_refl _) hK
  · refine eg_k_ci rfl ?_
    refine eg_k_goto rfl ?_
    have hx := Option.some.inj hx
    subst hx
    exact eg_k_iret rfl (Or.inr rfl) (Nat.le_refl _) (Nat.le_refl _) hK
/-- 63: WeakScheme$Shape.isFreeName(I)Z -/
noncomputable def fn_63 (a : Int) (M : eM) : Option (Int) :=
  (fn_64 a M).bind fun r2 =>
  if r2 = 0 then
    some 0
  else
    (fn_60 a M).bind fun r6 =>
    if ¬ r6 = 0 then
      some 0
    else
      some 1
set_option maxRecDepth 100000 in
theorem ft_63 {cn mo : Nat} {sc : eg_Sc} {d : Nat} {M : eM} {Q : Option eg_V → eg_H → Prop} {a : Int} {x : Int} (hx : fn_63 a M = some x) (hK : Q (some (.inl x)) (em_L cn mo, eh_R, M)) : eg_wp sc (d + 2) 63 [.inr (.inr (some 12)), .inl a] (em_L cn mo, eh_R, M) 0 0 Q := by
  refine eg_in (lv := [some (.inr (.inr (some 12))), some (.inl a)]) eg_tj63 (Nat.le_of_ble_eq_true rfl) rfl ?_
  refine eg_k_aload rfl rfl ?_
  refine eg_k_gfr rfl rfl rfl eh_r12_0 ?_
  refine eg_k_iload rfl rfl ?_
  obtain ⟨r2, h1, hx⟩ := vb_bind hx
  refine eg_k_call (c1 := 0) (z1 := 0) (as := [.inr (.inr (some 1)), .inl a]) (rest := []) rfl eg_tj64 (Nat.le_of_ble_eq_true rfl) rfl rfl rfl (Nat.le_of_ble_eq_true rfl) (Nat.le_refl _) (Nat.le_refl _) ?_ (fun Q hQ => ft_64 h1 hQ)
  refine vk_if rfl hx Iff.rfl (fun c4 hx => ?_) (fun c4 hx => ?_)
  · refine eg_k_ci rfl ?_
    have hx := Option.some.inj hx
    subst hx
    exact eg_k_iret rfl (Or.inl rfl) (Nat.le_refl _) (Nat.le_refl _) hK
  · refine eg_k_aload rfl rfl ?_
    refine eg_k_gfr rfl rfl rfl eh_r12_0 ?_
    refine eg_k_iload rfl rfl ?_
    obtain ⟨r6, h5, hx⟩ := vb_bind hx
    refine eg_k_call (c1 := 0) (z1 := 0) (as := [.inr (.inr (some 1)), .inl a]) (rest := []) rfl eg_tj60 (Nat.le_of_ble_eq_true rfl) rfl rfl rfl (Nat.le_of_ble_eq_true rfl) (Nat.le_refl _) (Nat.le_refl _) ?_ (fun Q hQ => ft_60 h5 hQ)
    refine vk_if rfl hx Iff.rfl (fun c8 hx => ?_) (fun c8 hx => ?_)
    · refine eg_k_ci rfl ?_
      have hx := Option.some.inj hx
      subst hx
      exact eg_k_iret rfl (Or.inl rfl) (Nat.le_refl _) (Nat.le_refl _) hK
    · refine eg_k_ci rfl ?_
      refine eg_k_goto rfl ?_
      have hx := Option.some.inj hx
      subst hx
      exact eg_k_iret rfl (Or.inr rfl) (Nat.le_refl _) (Nat.le_refl _) hK
noncomputable def fn_65_4 (x1 : Int) (x2 : Int) (s1 : Int) (s2 : eM) : Option ((Int × eM) ⊕ (eM)) :=
  if 0 ≤ x1 ∧ x1 < 20000 then
  if (s2 5 (x1).toNat) ≤ s1 then
      some (.inr s2)
    else
      if 0 ≤ (eg_wi (s1 - (s2 12 3))) ∧ (eg_wi (s1 - (s2 12 3))) < 2000 then
      if 0 ≤ s1 ∧ s1 < 20000 then
        some (.inl (s2 5 (s1).toNat, eg_u (eg_u s2 13 (eg_wi (s1 - (s2 12 3))).toNat x2) 14 (eg_wi (s1 - (s2 12 3))).toNat x1))
        else none
      else none
  else none
/-- 65: WeakScheme$Shape.tellBrackets(II)V -/
noncomputable def fn_65 (a : Int) (b : Int) (M : eM) : Option (eM) :=
  lp (fun z => fn_65_4 a b z.1 z.2) (eg_wi (a + 1), M)
set_option maxRecDepth 100000 in
theorem ft_65_4 {cn mo : Nat} {sc : eg_Sc} {d : Nat} {Q : Option eg_V → eg_H → Prop} {x1 : Int} {x2 : Int} {s : Int × eM} {x : eM} (hx : lp (fun z => fn_65_4 x1 x2 z.1 z.2) s = some x) (hK : (fun (x : eM) => Q (none) (em_L cn mo, eh_R, x)) x) : eg_X sc (eg_wp sc d) eg_p65 none 0 0 Q 4 [some (.inr (.inr (some 12))), some (.inl x1), some (.inl x2), some (.inl s.1)] [] (em_L cn mo, eh_R, s.2) 0 0 := by
  refine lp_sound (P := (fun (s : Int × eM) => eg_X sc (eg_wp sc d) eg_p65 none 0 0 Q 4 [some (.inr (.inr (some 12))), some (.inl x1), some (.inl x2), some (.inl s.1)] [] (em_L cn mo, eh_R, s.2) 0 0)) (K := (fun (x : eM) => Q (none) (em_L cn mo, eh_R, x))) hx hK ?_
  intro s x hx hK
  obtain ⟨s1, s2⟩ := s
  refine eg_k_iload rfl rfl ?_
  refine eg_k_aload rfl rfl ?_
  refine eg_k_gfr rfl rfl rfl eh_r12_0 ?_
  refine eg_k_gfa rfl rfl rfl eh_r1_4 ?_
  refine eg_k_iload rfl rfl ?_
  obtain ⟨b1, hx⟩ := vb_if hx
  refine eg_k_iald (k := 20000) rfl rfl b1.1 b1.2 ?_
  refine vk_icmp rfl hx Iff.rfl (fun c2 hx => ?_) (fun c2 hx => ?_)
  · have hx := Option.some.inj hx
    subst hx
    exact eg_k_ret rfl rfl (Nat.le_refl _) (Nat.le_refl _) hK
  · refine eg_k_aload rfl rfl ?_
    refine eg_k_gfa rfl rfl rfl eh_r12_1 ?_
    refine eg_k_iload rfl rfl ?_
    refine eg_k_aload rfl rfl ?_
    refine eg_k_gfi rfl rfl rfl ?_
    refine eg_k_isub rfl ?_
    refine eg_k_iload rfl rfl ?_
    obtain ⟨b3, hx⟩ := vb_if hx
    refine eg_k_iast (k := 2000) rfl rfl b3.1 b3.2 ?_
    refine eg_k_aload rfl rfl ?_
    refine eg_k_gfa rfl rfl rfl eh_r12_2 ?_
    refine eg_k_iload rfl rfl ?_
    refine eg_k_aload rfl rfl ?_
    refine eg_k_gfie (x := s2 12 3) rfl rfl rfl rfl ?_
    refine eg_k_isub rfl ?_
    refine eg_k_iload rfl rfl ?_
    refine eg_k_iast (k := 2000) rfl rfl b3.1 b3.2 ?_
    refine eg_k_aload rfl rfl ?_
    refine eg_k_gfr rfl rfl rfl eh_r12_0 ?_
    refine eg_k_gfa rfl rfl rfl eh_r1_4 ?_
    refine eg_k_iload rfl rfl ?_
    obtain ⟨b5, hx⟩ := vb_if hx
    refine vk_iald (k := 20000) (y := s2 5 (s1).toNat) rfl rfl b5.1 b5.2 rfl ?_
    refine eg_k_istore (lv' := [some (.inr (.inr (some 12))), some (.inl x1), some (.inl x2), some (.inl (s2 5 (s1).toNat))]) rfl rfl ?_
    refine eg_k_goto rfl ?_
    have hx := Option.some.inj hx
    subst hx
    exact hK
set_option maxRecDepth 100000 in
theorem ft_65 {cn mo : Nat} {sc : eg_Sc} {d : Nat} {M : eM} {Q : Option eg_V → eg_H → Prop} {a : Int} {b : Int} {x : eM} (hx : fn_65 a b M = some x) (hK : Q (none) (em_L cn mo, eh_R, x)) : eg_wp sc (d + 1) 65 [.inr (.inr (some 12)), .inl a, .inl b] (em_L cn mo, eh_R, M) 0 0 Q := by
  refine eg_in (lv := [some (.inr (.inr (some 12))), some (.inl a), some (.inl b), none]) eg_tj65 (Nat.le_of_ble_eq_true rfl) rfl ?_
  refine eg_k_iload rfl rfl ?_
  refine eg_k_ci rfl ?_
  refine eg_k_iadd rfl ?_
  refine eg_k_istore (lv' := [some (.inr (.inr (some 12))), some (.inl a), some (.inl b), some (.inl (eg_wi (a + 1)))]) rfl rfl ?_
  have hz := ft_65_4 (d := d) (sc := sc) hx hK
  exact hz
theorem fw_65_4 {c j : Nat} {v : Int} {x1 : Int} {x2 : Int} {s : Int × eM} {x : eM} (hc : c ∉ ([13, 14] : List Nat)) (hx : lp (fun z => fn_65_4 x1 x2 z.1 z.2) s = some x) (hK : (fun (x : eM) => x c j = v) x) : s.2 c j = v := by
  refine lp_sound (P := (fun (s : Int × eM) => s.2 c j = v)) (K := (fun (x : eM) => x c j = v)) hx hK ?_
  intro s x hx hK
  obtain ⟨s1, s2⟩ := s
  obtain ⟨_, hx⟩ := vb_if hx
  refine vb_ite hx (fun _ hx => ?_) (fun _ hx => ?_)
  · have hx := Option.some.inj hx
    subst hx
    exact (Eq.refl _).symm.trans hK
  · obtain ⟨_, hx⟩ := vb_if hx
    obtain ⟨_, hx⟩ := vb_if hx
    have hx := Option.some.inj hx
    subst hx
    exact ((congrFun (eg_u_ne (vne hc (a := 14) (by decide))) j).trans ((congrFun (eg_u_ne (vne hc (a := 13) (by decide))) j).trans rfl)).symm.trans hK
theorem fw_65 {M : eM} {c : Nat} {a : Int} {b : Int} {x : eM} (hx : fn_65 a b M = some x) (hc : c ∉ ([13, 14] : List Nat)) (j : Nat) : x c j = M c j := by
  obtain ⟨v, hK⟩ : ∃ v, x c j = v := ⟨_, rfl⟩
  rw [hK]
  refine Eq.symm ?_
  have hz := fw_65_4 hc hx hK
  exact (Eq.refl _).symm.trans hz
noncomputable def fn_67_6 (x1 : Int) (x2 : Int) (M : eM) (s1 : Int) (s2 : Int) : Option ((Int × Int) ⊕ (Int)) :=
  if 0 ≤ x1 ∧ x1 < 20000 then
  if (M 5 (x1).toNat) ≤ s2 then
      some (.inr (-1))
    else
      if 0 ≤ s2 ∧ s2 < 20000 then
      if ¬ (M 4 (s2).toNat) = 25769803776 then
          if ¬ (M 4 (s2).toNat) = x2 then
            some (.inl (eg_wi (s1 + 1), M 5 (s2).toNat))
          else
            some (.inr s1)
        else
          if 0 ≤ (eg_wi (s2 + 1)) ∧ (eg_wi (s2 + 1)) < 20000 then
          if ¬ (M 4 (eg_wi (s2 + 1)).toNat) = x2 then
              some (.inl (eg_wi (s1 + 1), M 5 (s2).toNat))
            else
              some (.inr s1)
          else none
      else none
  else none
/-- 67: WeakScheme$Source.slot(IJ)I -/
noncomputable def fn_67 (a : Int) (b : Int) (M : eM) : Option (Int) :=
  lp (fun z => fn_67_6 a b M z.1 z.2) (0, eg_wi (a + 1))
set_option maxRecDepth 100000 in
theorem ft_67_6 {cn mo : Nat} {sc : eg_Sc} {d : Nat} {M : eM} {Q : Option eg_V → eg_H → Prop} {x1 : Int} {x2 : Int} {s : Int × Int} {x : Int} (hx : lp (fun z => fn_67_6 x1 x2 M z.1 z.2) s = some x) (hK : (fun (x : Int) => Q (some (.inl x)) (em_L cn mo, eh_R, M)) x) : eg_X sc (eg_wp sc d) eg_p67 (some .int) 0 0 Q 6 [some (.inr (.inr (some 1))), some (.inl x1), some (.inr (.inl x2)), none, some (.inl s.1), some (.inl s.2)] [] (em_L cn mo, eh_R, M) 0 0 := by
  refine lp_sound (P := (fun (s : Int × Int) => eg_X sc (eg_wp sc d) eg_p67 (some .int) 0 0 Q 6 [some (.inr (.inr (some 1))), some (.inl x1), some (.inr (.inl x2)), none, some (.inl s.1), some (.inl s.2)] [] (em_L cn mo, eh_R, M) 0 0)) (K := (fun (x : Int) => Q (some (.inl x)) (em_L cn mo, eh_R, M))) hx hK ?_
  intro s x hx hK
  obtain ⟨s1, s2⟩ := s
  refine eg_k_iload rfl rfl ?_
  refine eg_k_aload rfl rfl ?_
  refine eg_k_gfa rfl rfl rfl eh_r1_4 ?_
  refine eg_k_iload rfl rfl ?_
  obtain ⟨b1, hx⟩ := vb_if hx
  refine eg_k_iald (k := 20000) rfl rfl b1.1 b1.2 ?_
  refine vk_icmp rfl hx Iff.rfl (fun c2 hx => ?_) (fun c2 hx => ?_)
  · refine eg_k_ci rfl ?_
    have hx := Option.some.inj hx
    subst hx
    exact eg_k_iret rfl True.intro (Nat.le_refl _) (Nat.le_refl _) hK
  · refine eg_k_aload rfl rfl ?_
    refine eg_k_gfa rfl rfl rfl eh_r1_3 ?_
    refine eg_k_aload rfl rfl ?_
    refine eg_k_gfa rfl rfl rfl eh_r1_3 ?_
    refine eg_k_iload rfl rfl ?_
    obtain ⟨b3, hx⟩ := vb_if hx
    refine eg_k_lald (k := 20000) rfl rfl b3.1 b3.2 ?_
    refine eg_k_cl rfl ?_
    refine vk_lcmp rfl rfl hx Iff.rfl (fun c4 hx => ?_) (fun c4 hx => ?_)
    · refine eg_k_iload rfl rfl ?_
      refine eg_k_lald (k := 20000) rfl rfl b3.1 b3.2 ?_
      refine eg_k_lload rfl rfl ?_
      refine vk_lcmp rfl rfl hx Iff.rfl (fun c6 hx => ?_) (fun c6 hx => ?_)
      · refine eg_k_iinc (lv' := [some (.inr (.inr (some 1))), some (.inl x1), some (.inr (.inl x2)), none, some (.inl (eg_wi (s1 + 1))), some (.inl s2)]) rfl rfl rfl ?_
        refine eg_k_aload rfl rfl ?_
        refine eg_k_gfa rfl rfl rfl eh_r1_4 ?_
        refine eg_k_iload rfl rfl ?_
        refine eg_k_iald (k := 20000) rfl rfl b3.1 b3.2 ?_
        refine eg_k_istore (lv' := [some (.inr (.inr (some 1))), some (.inl x1), some (.inr (.inl x2)), none, some (.inl (eg_wi (s1 + 1))), some (.inl (M 5 (s2).toNat))]) rfl rfl ?_
        refine eg_k_goto rfl ?_
        have hx := Option.some.inj hx
        subst hx
        exact hK
      · refine eg_k_iload rfl rfl ?_
        have hx := Option.some.inj hx
        subst hx
        exact eg_k_iret rfl True.intro (Nat.le_refl _) (Nat.le_refl _) hK
    · refine eg_k_iload rfl rfl ?_
      refine eg_k_ci rfl ?_
      refine eg_k_iadd rfl ?_
      refine eg_k_goto rfl ?_
      obtain ⟨b8, hx⟩ := vb_if hx
      refine eg_k_lald (k := 20000) rfl rfl b8.1 b8.2 ?_
      refine eg_k_lload rfl rfl ?_
      refine vk_lcmp rfl rfl hx Iff.rfl (fun c9 hx => ?_) (fun c9 hx => ?_)
      · refine eg_k_iinc (lv' := [some (.inr (.inr (some 1))), some (.inl x1), some (.inr (.inl x2)), none, some (.inl (eg_wi (s1 + 1))), some (.inl s2)]) rfl rfl rfl ?_
        refine eg_k_aload rfl rfl ?_
        refine eg_k_gfa rfl rfl rfl eh_r1_4 ?_
        refine eg_k_iload rfl rfl ?_
        refine eg_k_iald (k := 20000) rfl rfl b3.1 b3.2 ?_
        refine eg_k_istore (lv' := [some (.inr (.inr (some 1))), some (.inl x1), some (.inr (.inl x2)), none, some (.inl (eg_wi (s1 + 1))), some (.inl (M 5 (s2).toNat))]) rfl rfl ?_
        refine eg_k_goto rfl ?_
        have hx := Option.some.inj hx
        subst hx
        exact hK
      · refine eg_k_iload rfl rfl ?_
        have hx := Option.some.inj hx
        subst hx
        exact eg_k_iret rfl True.intro (Nat.le_refl _) (Nat.le_refl _) hK
set_option maxRecDepth 100000 in
theorem ft_67 {cn mo : Nat} {sc : eg_Sc} {d : Nat} {M : eM} {Q : Option eg_V → eg_H → Prop} {a : Int} {b : Int} {x : Int} (hx : fn_67 a b M = some x) (hK : Q (some (.inl x)) (em_L cn mo, eh_R, M)) : eg_wp sc (d + 1) 67 [.inr (.inr (some 1)), .inl a, .inr (.inl b)] (em_L cn mo, eh_R, M) 0 0 Q := by
  refine eg_in (lv := [some (.inr (.inr (some 1))), some (.inl a), some (.inr (.inl b)), none, none, none]) eg_tj67 (Nat.le_of_ble_eq_true rfl) rfl ?_
  refine eg_k_ci rfl ?_
  refine eg_k_istore (lv' := [some (.inr (.inr (some 1))), some (.inl a), some (.inr (.inl b)), none, some (.inl 0), none]) rfl rfl ?_
  refine eg_k_iload rfl rfl ?_
  refine eg_k_ci rfl ?_
  refine eg_k_iadd rfl ?_
  refine eg_k_istore (lv' := [some (.inr (.inr (some 1))), some (.inl a), some (.inr (.inl b)), none, some (.inl 0), some (.inl (eg_wi (a + 1)))]) rfl rfl ?_
  have hz := ft_67_6 (d := d) (sc := sc) hx hK
  exact hz
noncomputable def fn_66_24 (x1 : Int) (x2 : Int) (x3 : Int) (M : eM) (s1 : Int) (s2 : Int) : Option ((Int × Int) ⊕ (Int)) :=
  if 0 ≤ s2 ∧ s2 < 20000 then
  if x1 < (M 5 (s2).toNat) then
      if ¬ x3 = s1 then
        some (.inr 0)
      else
        if 8 ≤ s1 then
          some (.inr 0)
        else
          some (.inr 1)
    else
      some (.inl (eg_wi (s1 + 1), M 5 (s2).toNat))
  else none
/-- 66: WeakScheme$Shape.isNewName(I)Z -/
noncomputable def fn_66 (a : Int) (M : eM) : Option (Int) :=
  if 0 ≤ (eg_wi (a - (M 12 3))) ∧ (eg_wi (a - (M 12 3))) < 2000 then
  if 0 ≤ a ∧ a < 20000 then
    (fn_67 (M 14 (eg_wi (a - (M 12 3))).toNat) (M 4 (a).toNat) M).bind fun r4 =>
      lp (fun z => fn_66_24 a (M 14 (eg_wi (a - (M 12 3))).toNat) r4 M z.1 z.2) (0, eg_wi ((M 14 (eg_wi (a - (M 12 3))).toNat) + 1))
    else none
  else none
set_option maxRecDepth 100000 in
theorem ft_66_24 {cn mo : Nat} {sc : eg_Sc} {d : Nat} {M : eM} {Q : Option eg_V → eg_H → Prop} {x1 : Int} {x2 : Int} {x3 : Int} {s : Int × Int} {x : Int} (hx : lp (fun z => fn_66_24 x1 x2 x3 M z.1 z.2) s = some x) (hK : (fun (x : Int) => Q (some (.inl x)) (em_L cn mo, eh_R, M)) x) : eg_X sc (eg_wp sc (d + 1)) eg_p66 (some .boolean) 0 0 Q 24 [some (.inr (.inr (some 12))), some (.inl x1), some (.inl x2), some (.inl x3), some (.inl s.1), some (.inl s.2)] [] (em_L cn mo, eh_R, M) 0 0 := by
  refine lp_sound (P := (fun (s : Int × Int) => eg_X sc (eg_wp sc (d + 1)) eg_p66 (some .boolean) 0 0 Q 24 [some (.inr (.inr (some 12))), some (.inl x1), some (.inl x2), some (.inl x3), some (.inl s.1), some (.inl s.2)] [] (em_L cn mo, eh_R, M) 0 0)) (K := (fun (x : Int) => Q (some (.inl x)) (em_L cn mo, eh_R, M))) hx hK ?_
  intro s x hx hK
  obtain ⟨s1, s2⟩ := s
  refine eg_k_aload rfl rfl ?_
  refine eg_k_gfr rfl rfl rfl eh_r12_0 ?_
  refine eg_k_gfa rfl rfl rfl eh_r1_4 ?_
  refine eg_k_iload rfl rfl ?_
  obtain ⟨b6, hx⟩ := vb_if hx
  refine eg_k_iald (k := 20000) rfl rfl b6.1 b6.2 ?_
  refine eg_k_iload rfl rfl ?_
  refine vk_icmp rfl hx Iff.rfl (fun c7 hx => ?_) (fun c7 hx => ?_)
  · refine eg_k_iload rfl rfl ?_
    refine eg_k_iload rfl rfl ?_
    refine vk_icmp rfl hx Iff.rfl (fun c8 hx => ?_) (fun c8 hx => ?_)
    · refine eg_k_ci rfl ?_
      have hx := Option.some.inj hx
      subst hx
      exact eg_k_iret rfl (Or.inl rfl) (Nat.le_refl _) (Nat.le_refl _) hK
    · refine eg_k_iload rfl rfl ?_
      refine eg_k_ci rfl ?_
      refine vk_icmp rfl hx Iff.rfl (fun c9 hx => ?_) (fun c9 hx => ?_)
      · refine eg_k_ci rfl ?_
        have hx := Option.some.inj hx
        subst hx
        exact eg_k_iret rfl (Or.inl rfl) (Nat.le_refl _) (Nat.le_refl _) hK
      · refine eg_k_ci rfl ?_
        refine eg_k_goto rfl ?_
        have hx := Option.some.inj hx
        subst hx
        exact eg_k_iret rfl (Or.inr rfl) (Nat.le_refl _) (Nat.le_refl _) hK
  · refine eg_k_iinc (lv' := [some (.inr (.inr (some 12))), some (.inl x1), some (.inl x2), some (.inl x3), some (.inl (eg_wi (s1 + 1))), some (.inl s2)]) rfl rfl rfl ?_
    refine eg_k_aload rfl rfl ?_
    refine eg_k_gfr rfl rfl rfl eh_r12_0 ?_
    refine eg_k_gfa rfl rfl rfl eh_r1_4 ?_
    refine eg_k_iload rfl rfl ?_
    refine eg_k_iald (k := 20000) rfl rfl b6.1 b6.2 ?_
    refine eg_k_istore (lv' := [some (.inr (.inr (some 12))), some (.inl x1), some (.inl x2), some (.inl x3), some (.inl (eg_wi (s1 + 1))), some (.inl (M 5 (s2).toNat))]) rfl rfl ?_
    refine eg_k_goto rfl ?_
    have hx := Option.some.inj hx
    subst hx
    exact hK
set_option maxRecDepth 100000 in
theorem ft_66 {cn mo : Nat} {sc : eg_Sc} {d : Nat} {M : eM} {Q : Option eg_V → eg_H → Prop} {a : Int} {x : Int} (hx : fn_66 a M = some x) (hK : Q (some (.inl x)) (em_L cn mo, eh_R, M)) : eg_wp sc (d + 2) 66 [.inr (.inr (some 12)), .inl a] (em_L cn mo, eh_R, M) 0 0 Q := by
  refine eg_in (lv := [some (.inr (.inr (some 12))), some (.inl a), none, none, none, none]) eg_tj66 (Nat.le_of_ble_eq_true rfl) rfl ?_
  refine eg_k_aload rfl rfl ?_
  refine eg_k_gfa rfl rfl rfl eh_r12_2 ?_
  refine eg_k_iload rfl rfl ?_
  refine eg_k_aload rfl rfl ?_
  refine eg_k_gfi rfl rfl rfl ?_
  refine eg_k_isub rfl ?_
  obtain ⟨b1, hx⟩ := vb_if hx
  refine eg_k_iald (k := 2000) rfl rfl b1.1 b1.2 ?_
  refine eg_k_istore (lv' := [some (.inr (.inr (some 12))), some (.inl a), some (.inl (M 14 (eg_wi (a - (M 12 3))).toNat)), none, none, none]) rfl rfl ?_
  refine eg_k_aload rfl rfl ?_
  refine eg_k_gfr rfl rfl rfl eh_r12_0 ?_
  refine eg_k_iload rfl rfl ?_
  refine eg_k_aload rfl rfl ?_
  refine eg_k_gfr rfl rfl rfl eh_r12_0 ?_
  refine eg_k_gfa rfl rfl rfl eh_r1_3 ?_
  refine eg_k_iload rfl rfl ?_
  obtain ⟨b2, hx⟩ := vb_if hx
  refine eg_k_lald (k := 20000) rfl rfl b2.1 b2.2 ?_
  obtain ⟨r4, h3, hx⟩ := vb_bind hx
  refine eg_k_call (c1 := 0) (z1 := 0) (as := [.inr (.inr (some 1)), .inl (M 14 (eg_wi (a - (M 12 3))).toNat), .inr (.inl (M 4 (a).toNat))]) (rest := []) rfl eg_tj67 (Nat.le_of_ble_eq_true rfl) rfl rfl rfl (Nat.le_of_ble_eq_true rfl) (Nat.le_refl _) (Nat.le_refl _) ?_ (fun Q hQ => ft_67 h3 hQ)
  refine eg_k_istore (lv' := [some (.inr (.inr (some 12))), some (.inl a), some (.inl (M 14 (eg_wi (a - (M 12 3))).toNat)), some (.inl r4), none, none]) rfl rfl ?_
  refine eg_k_ci rfl ?_
  refine eg_k_istore (lv' := [some (.inr (.inr (some 12))), some (.inl a), some (.inl (M 14 (eg_wi (a - (M 12 3))).toNat)), some (.inl r4), some (.inl 0), none]) rfl rfl ?_
  refine eg_k_iload rfl rfl ?_
  refine eg_k_ci rfl ?_
  refine eg_k_iadd rfl ?_
  refine eg_k_istore (lv' := [some (.inr (.inr (some 12))), some (.inl a), some (.inl (M 14 (eg_wi (a - (M 12 3))).toNat)), some (.inl r4), some (.inl 0), some (.inl (eg_wi ((M 14 (eg_wi (a - (M 12 3))).toNat) + 1)))]) rfl rfl ?_
  have hz := ft_66_24 (d := d) (sc := sc) hx hK
  exact hz
/-- 68: WeakScheme$Shape.isBinding(I)Z -/
noncomputable def fn_68 (a : Int) (M : eM) : Option (Int × eM) :=
  (fn_58 a M).bind fun r2 =>
  if ¬ r2 = 2 then
    some (0, M)
  else
    (fn_64 (eg_wi (a + 1)) M).bind fun r6 =>
    if ¬ r6 = 0 then
      if 0 ≤ (eg_wi ((eg_wi (a + 1)) - (M 12 3))) ∧ (eg_wi ((eg_wi (a + 1)) - (M 12 3))) < 2000 then
      if 0 ≤ (eg_wi (a - (M 12 3))) ∧ (eg_wi (a - (M 12 3))) < 2000 then
        if 0 ≤ (eg_wi ((eg_wi (a + 2)) - (M 12 3))) ∧ (eg_wi ((eg_wi (a + 2)) - (M 12 3))) < 2000 then
          some (1, eg_u (eg_u (eg_u M 13 (eg_wi ((eg_wi (a + 1)) - (M 12 3))).toNat 5) 14 (eg_wi ((eg_wi (a + 1)) - (M 12 3))).toNat (M 14 (eg_wi (a - (M 12 3))).toNat)) 13 (eg_wi ((eg_wi (a + 2)) - (M 12 3))).toNat 1)
          else none
        else none
      else none
    else
      some (0, M)
set_option maxRecDepth 100000 in
theorem ft_68 {cn mo : Nat} {sc : eg_Sc} {d : Nat} {M : eM} {Q : Option eg_V → eg_H → Prop} {a : Int} {x : Int × eM} (hx : fn_68 a M = some x) (hK : Q (some (.inl ((x).1))) (em_L cn mo, eh_R, (x).2)) : eg_wp sc (d + 2) 68 [.inr (.inr (some 12)), .inl a] (em_L cn mo, eh_R, M) 0 0 Q := by
  refine eg_in (lv := [some (.inr (.inr (some 12))), some (.inl a)]) eg_tj68 (Nat.le_of_ble_eq_true rfl) rfl ?_
  refine eg_k_aload rfl rfl ?_
  refine eg_k_gfr rfl rfl rfl eh_r12_0 ?_
  refine eg_k_iload rfl rfl ?_
  obtain ⟨r2, h1, hx⟩ := vb_bind hx
  refine eg_k_call (c1 := 0) (z1 := 0) (as := [.inr (.inr (some 1)), .inl a]) (rest := []) rfl eg_tj58 (Nat.le_of_ble_eq_true rfl) rfl rfl rfl (Nat.le_of_ble_eq_true rfl) (Nat.le_refl _) (Nat.le_refl _) ?_ (fun Q hQ => ft_58 h1 hQ)
  refine eg_k_ci rfl ?_
  refine vk_icmp rfl hx Iff.rfl (fun c4 hx => ?_) (fun c4 hx => ?_)
  · refine eg_k_ci rfl ?_
    have hx := Option.some.inj hx
    subst hx
    exact eg_k_iret rfl (Or.inl rfl) (Nat.le_refl _) (Nat.le_refl _) hK
  · refine eg_k_aload rfl rfl ?_
    refine eg_k_gfr rfl rfl rfl eh_r12_0 ?_
    refine eg_k_iload rfl rfl ?_
    refine eg_k_ci rfl ?_
    refine eg_k_iadd rfl ?_
    obtain ⟨r6, h5, hx⟩ := vb_bind hx
    refine eg_k_call (c1 := 0) (z1 := 0) (as := [.inr (.inr (some 1)), .inl (eg_wi (a + 1))]) (rest := []) rfl eg_tj64 (Nat.le_of_ble_eq_true rfl) rfl rfl rfl (Nat.le_of_ble_eq_true rfl) (Nat.le_refl _) (Nat.le_refl _) ?_ (fun Q hQ => ft_64 h5 hQ)
    refine vk_if rfl hx Iff.rfl (fun c8 hx => ?_) (fun c8 hx => ?_)
    · refine eg_k_aload rfl rfl ?_
      refine eg_k_gfa rfl rfl rfl eh_r12_1 ?_
      refine eg_k_iload rfl rfl ?_
      refine eg_k_ci rfl ?_
      refine eg_k_iadd rfl ?_
      refine eg_k_aload rfl rfl ?_
      refine eg_k_gfi rfl rfl rfl ?_
      refine eg_k_isub rfl ?_
      refine eg_k_ci rfl ?_
      obtain ⟨b9, hx⟩ := vb_if hx
      refine eg_k_iast (k := 2000) rfl rfl b9.1 b9.2 ?_
      refine eg_k_aload rfl rfl ?_
      refine eg_k_gfa rfl rfl rfl eh_r12_2 ?_
      refine eg_k_iload rfl rfl ?_
      refine eg_k_ci rfl ?_
      refine eg_k_iadd rfl ?_
      refine eg_k_aload rfl rfl ?_
      refine eg_k_gfie (x := M 12 3) rfl rfl rfl rfl ?_
      refine eg_k_isub rfl ?_
      refine eg_k_aload rfl rfl ?_
      refine eg_k_gfa rfl rfl rfl eh_r12_2 ?_
      refine eg_k_iload rfl rfl ?_
      refine eg_k_aload rfl rfl ?_
      refine eg_k_gfie (x := M 12 3) rfl rfl rfl rfl ?_
      refine eg_k_isub rfl ?_
      obtain ⟨b10, hx⟩ := vb_if hx
      refine vk_iald (k := 2000) (y := M 14 (eg_wi (a - (M 12 3))).toNat) rfl rfl b10.1 b10.2 rfl ?_
      refine eg_k_iast (k := 2000) rfl rfl b9.1 b9.2 ?_
      refine eg_k_aload rfl rfl ?_
      refine eg_k_gfa rfl rfl rfl eh_r12_1 ?_
      refine eg_k_iload rfl rfl ?_
      refine eg_k_ci rfl ?_
      refine eg_k_iadd rfl ?_
      refine eg_k_aload rfl rfl ?_
      refine eg_k_gfie (x := M 12 3) rfl rfl rfl rfl ?_
      refine eg_k_isub rfl ?_
      refine eg_k_ci rfl ?_
      obtain ⟨b12, hx⟩ := vb_if hx
      refine eg_k_iast (k := 2000) rfl rfl b12.1 b12.2 ?_
      refine eg_k_ci rfl ?_
      have hx := Option.some.inj hx
      subst hx
      exact eg_k_iret rfl (Or.inr rfl) (Nat.le_refl _) (Nat.le_refl _) hK
    · refine eg_k_ci rfl ?_
      have hx := Option.some.inj hx
      subst hx
      exact eg_k_iret rfl (Or.inl rfl) (Nat.le_refl _) (Nat.le_refl _) hK
theorem fw_68 {M : eM} {c : Nat} {a : Int} {x : Int × eM} (hx : fn_68 a M = some x) (hc : c ∉ ([13, 14] : List Nat)) (j : Nat) : ((x).2) c j = M c j := by
  obtain ⟨v, hK⟩ : ∃ v, ((x).2) c j = v := ⟨_, rfl⟩
  rw [hK]
  refine Eq.symm ?_
  obtain ⟨r2, h1, hx⟩ := vb_bind hx
  refine vb_ite hx (fun _ hx => ?_) (fun _ hx => ?_)
  · have hx := Option.some.inj hx
    subst hx
    exact (Eq.refl _).symm.trans hK
  · obtain ⟨r6, h5, hx⟩ := vb_bind hx
    refine vb_ite hx (fun _ hx => ?_) (fun _ hx => ?_)
    · obtain ⟨_, hx⟩ := vb_if hx
      obtain ⟨_, hx⟩ := vb_if hx
      obtain ⟨_, hx⟩ := vb_if hx
      have hx := Option.some.inj hx
      subst hx
      exact ((congrFun (eg_u_ne (vne hc (a := 13) (by decide))) j).trans ((congrFun (eg_u_ne (vne hc (a := 14) (by decide))) j).trans ((congrFun (eg_u_ne (vne hc (a := 13) (by decide))) j).trans rfl))).symm.trans hK
    · have hx := Option.some.inj hx
      subst hx
      exact (Eq.refl _).symm.trans hK
noncomputable def fn_56_11 (x1 : Int) (y0 : Int) (M : eM) : Option (Int × eM) :=
  if 0 ≤ (eg_wi (x1 - (M 12 3))) ∧ (eg_wi (x1 - (M 12 3))) < 2000 then
  if (M 13 (eg_wi (x1 - (M 12 3))).toNat) = 1 then
      if y0 = 0 then
        (fn_60 x1 M).bind fun r6 =>
        if ¬ r6 = 0 then
          some (0, M)
        else
          some (1, M)
      else
        (fn_57 x1 M).bind fun r10 =>
        if r10.1 = 0 ∨ r10.1 = 1 then some (r10.1, r10.2) else none
    else if (M 13 (eg_wi (x1 - (M 12 3))).toNat) = 2 then
      if y0 = 0 then
        (fn_60 x1 M).bind fun r14 =>
        if ¬ r14 = 0 then
          some (0, M)
        else
          some (1, M)
      else
        (fn_57 x1 M).bind fun r18 =>
        if r18.1 = 0 ∨ r18.1 = 1 then some (r18.1, r18.2) else none
    else if (M 13 (eg_wi (x1 - (M 12 3))).toNat) = 3 then
      (fn_63 x1 M).bind fun r21 =>
      if r21 = 0 ∨ r21 = 1 then some (r21, M) else none
    else if (M 13 (eg_wi (x1 - (M 12 3))).toNat) = 4 then
      (fn_65 x1 5 M).bind fun m25 =>
      if y0 = 0 ∨ y0 = 1 then some (y0, m25) else none
    else if (M 13 (eg_wi (x1 - (M 12 3))).toNat) = 5 then
      (fn_63 x1 M).bind fun r27 =>
      if r27 = 0 then
        some (0, M)
      else
        (fn_66 x1 M).bind fun r31 =>
        if r31 = 0 then
          some (0, M)
        else
          some (1, M)
    else if (M 13 (eg_wi (x1 - (M 12 3))).toNat) = 6 then
      (fn_65 x1 7 M).bind fun m36 =>
      if y0 = 0 ∨ y0 = 1 then some (y0, m36) else none
    else if (M 13 (eg_wi (x1 - (M 12 3))).toNat) = 7 then
      if y0 = 0 then
        some (0, M)
      else
        (fn_68 x1 M).bind fun r39 =>
        if r39.1 = 0 then
          some (0, r39.2)
        else
          some (1, r39.2)
    else 
      some (1, M)
  else none
/-- 56: WeakScheme$Shape.isAsTold(I)Z -/
noncomputable def fn_56 (a : Int) (M : eM) : Option (Int × eM) :=
  if 0 ≤ a ∧ a < 20000 then
  if ¬ (M 4 (a).toNat) = 25769803776 then
      fn_56_11 a 0 M
    else
      fn_56_11 a 1 M
  else none
set_option maxRecDepth 100000 in
theorem ft_56_11 {cn mo : Nat} {sc : eg_Sc} {d : Nat} {M : eM} {Q : Option eg_V → eg_H → Prop} {x1 : Int} {y0 : Int} {x : Int × eM} (hx : fn_56_11 x1 y0 M = some x) (hK : (fun (x : Int × eM) => Q (some (.inl ((x).1))) (em_L cn mo, eh_R, (x).2)) x) : ∀ (w2 : Option eg_V), eg_X sc (eg_wp sc (d + 3)) eg_p56 (some .boolean) 0 0 Q 11 [some (.inr (.inr (some 12))), some (.inl x1), w2] [.inl y0] (em_L cn mo, eh_R, M) 0 0 := by
  intro w2
  refine eg_k_istore (lv' := [some (.inr (.inr (some 12))), some (.inl x1), some (.inl y0)]) rfl rfl ?_
  refine eg_k_aload rfl rfl ?_
  refine eg_k_gfa rfl rfl rfl eh_r12_1 ?_
  refine eg_k_iload rfl rfl ?_
  refine eg_k_aload rfl rfl ?_
  refine eg_k_gfi rfl rfl rfl ?_
  refine eg_k_isub rfl ?_
  obtain ⟨b3, hx⟩ := vb_if hx
  refine eg_k_iald (k := 2000) rfl rfl b3.1 b3.2 ?_
  refine vb_ite hx (fun e9 hx => ?_) (fun e9 hx => ?_)
  · refine eg_k_tsw (x := M 13 (eg_wi (x1 - (M 12 3))).toNat) (t := 20) rfl (by rw [e9]; rfl) ?_
    refine eg_k_iload rfl rfl ?_
    refine vk_if rfl hx Iff.rfl (fun c4 hx => ?_) (fun c4 hx => ?_)
    · refine eg_k_aload rfl rfl ?_
      refine eg_k_gfr rfl rfl rfl eh_r12_0 ?_
      refine eg_k_iload rfl rfl ?_
      obtain ⟨r6, h5, hx⟩ := vb_bind hx
      refine eg_k_call (c1 := 0) (z1 := 0) (as := [.inr (.inr (some 1)), .inl x1]) (rest := []) rfl eg_tj60 (Nat.le_of_ble_eq_true rfl) rfl rfl rfl (Nat.le_of_ble_eq_true rfl) (Nat.le_refl _) (Nat.le_refl _) ?_ (fun Q hQ => ft_60 h5 hQ)
      refine vk_if rfl hx Iff.rfl (fun c8 hx => ?_) (fun c8 hx => ?_)
      · refine eg_k_ci rfl ?_
        have hx := Option.some.inj hx
        subst hx
        exact eg_k_iret rfl (Or.inl rfl) (Nat.le_refl _) (Nat.le_refl _) hK
      · refine eg_k_ci rfl ?_
        refine eg_k_goto rfl ?_
        have hx := Option.some.inj hx
        subst hx
        exact eg_k_iret rfl (Or.inr rfl) (Nat.le_refl _) (Nat.le_refl _) hK
    · refine eg_k_aload rfl rfl ?_
      refine eg_k_iload rfl rfl ?_
      obtain ⟨r10, h9, hx⟩ := vb_bind hx
      refine eg_k_call (c1 := 0) (z1 := 0) (as := [.inr (.inr (some 12)), .inl x1]) (rest := []) rfl eg_tj57 (Nat.le_of_ble_eq_true rfl) rfl rfl rfl (Nat.le_of_ble_eq_true rfl) (Nat.le_refl _) (Nat.le_refl _) ?_ (fun Q hQ => ft_57 h9 hQ)
      refine eg_k_goto rfl ?_
      obtain ⟨b9, hx⟩ := vb_if hx
      have hx := Option.some.inj hx
      subst hx
      exact eg_k_iret rfl b9 (Nat.le_refl _) (Nat.le_refl _) hK
  have e1_ := e9
  refine vb_ite hx (fun e9 hx => ?_) (fun e9 hx => ?_)
  · refine eg_k_tsw (x := M 13 (eg_wi (x1 - (M 12 3))).toNat) (t := 20) rfl (by rw [e9]; rfl) ?_
    refine eg_k_iload rfl rfl ?_
    refine vk_if rfl hx Iff.rfl (fun c12 hx => ?_) (fun c12 hx => ?_)
    · refine eg_k_aload rfl rfl ?_
      refine eg_k_gfr rfl rfl rfl eh_r12_0 ?_
      refine eg_k_iload rfl rfl ?_
      obtain ⟨r14, h13, hx⟩ := vb_bind hx
      refine eg_k_call (c1 := 0) (z1 := 0) (as := [.inr (.inr (some 1)), .inl x1]) (rest := []) rfl eg_tj60 (Nat.le_of_ble_eq_true rfl) rfl rfl rfl (Nat.le_of_ble_eq_true rfl) (Nat.le_refl _) (Nat.le_refl _) ?_ (fun Q hQ => ft_60 h13 hQ)
      refine vk_if rfl hx Iff.rfl (fun c16 hx => ?_) (fun c16 hx => ?_)
      · refine eg_k_ci rfl ?_
        have hx := Option.some.inj hx
        subst hx
        exact eg_k_iret rfl (Or.inl rfl) (Nat.le_refl _) (Nat.le_refl _) hK
      · refine eg_k_ci rfl ?_
        refine eg_k_goto rfl ?_
        have hx := Option.some.inj hx
        subst hx
        exact eg_k_iret rfl (Or.inr rfl) (Nat.le_refl _) (Nat.le_refl _) hK
    · refine eg_k_aload rfl rfl ?_
      refine eg_k_iload rfl rfl ?_
      obtain ⟨r18, h17, hx⟩ := vb_bind hx
      refine eg_k_call (c1 := 0) (z1 := 0) (as := [.inr (.inr (some 12)), .inl x1]) (rest := []) rfl eg_tj57 (Nat.le_of_ble_eq_true rfl) rfl rfl rfl (Nat.le_of_ble_eq_true rfl) (Nat.le_refl _) (Nat.le_refl _) ?_ (fun Q hQ => ft_57 h17 hQ)
      refine eg_k_goto rfl ?_
      obtain ⟨b9, hx⟩ := vb_if hx
      have hx := Option.some.inj hx
      subst hx
      exact eg_k_iret rfl b9 (Nat.le_refl _) (Nat.le_refl _) hK
  have e2_ := e9
  refine vb_ite hx (fun e9 hx => ?_) (fun e9 hx => ?_)
  · refine eg_k_tsw (x := M 13 (eg_wi (x1 - (M 12 3))).toNat) (t := 35) rfl (by rw [e9]; rfl) ?_
    refine eg_k_aload rfl rfl ?_
    refine eg_k_iload rfl rfl ?_
    obtain ⟨r21, h20, hx⟩ := vb_bind hx
    refine eg_k_call (c1 := 0) (z1 := 0) (as := [.inr (.inr (some 12)), .inl x1]) (rest := []) rfl eg_tj63 (Nat.le_of_ble_eq_true rfl) rfl rfl rfl (Nat.le_of_ble_eq_true rfl) (Nat.le_refl _) (Nat.le_refl _) ?_ (fun Q hQ => ft_63 h20 hQ)
    obtain ⟨b9, hx⟩ := vb_if hx
    have hx := Option.some.inj hx
    subst hx
    exact eg_k_iret rfl b9 (Nat.le_refl _) (Nat.le_refl _) hK
  have e3_ := e9
  refine vb_ite hx (fun e9 hx => ?_) (fun e9 hx => ?_)
  · refine eg_k_tsw (x := M 13 (eg_wi (x1 - (M 12 3))).toNat) (t := 39) rfl (by rw [e9]; rfl) ?_
    refine eg_k_aload rfl rfl ?_
    refine eg_k_iload rfl rfl ?_
    refine eg_k_ci rfl ?_
    obtain ⟨m25, h23, hx⟩ := vb_bind hx
    refine eg_k_call (c1 := 0) (z1 := 0) (as := [.inr (.inr (some 12)), .inl x1, .inl 5]) (rest := []) rfl eg_tj65 (Nat.le_of_ble_eq_true rfl) rfl rfl rfl (Nat.le_of_ble_eq_true rfl) (Nat.le_refl _) (Nat.le_refl _) ?_ (fun Q hQ => ft_65 h23 hQ)
    refine eg_k_iload rfl rfl ?_
    obtain ⟨b9, hx⟩ := vb_if hx
    have hx := Option.some.inj hx
    subst hx
    exact eg_k_iret rfl b9 (Nat.le_refl _) (Nat.le_refl _) hK
  have e4_ := e9
  refine vb_ite hx (fun e9 hx => ?_) (fun e9 hx => ?_)
  · refine eg_k_tsw (x := M 13 (eg_wi (x1 - (M 12 3))).toNat) (t := 45) rfl (by rw [e9]; rfl) ?_
    refine eg_k_aload rfl rfl ?_
    refine eg_k_iload rfl rfl ?_
    obtain ⟨r27, h26, hx⟩ := vb_bind hx
    refine eg_k_call (c1 := 0) (z1 := 0) (as := [.inr (.inr (some 12)), .inl x1]) (rest := []) rfl eg_tj63 (Nat.le_of_ble_eq_true rfl) rfl rfl rfl (Nat.le_of_ble_eq_true rfl) (Nat.le_refl _) (Nat.le_refl _) ?_ (fun Q hQ => ft_63 h26 hQ)
    refine vk_if rfl hx Iff.rfl (fun c29 hx => ?_) (fun c29 hx => ?_)
    · refine eg_k_ci rfl ?_
      have hx := Option.some.inj hx
      subst hx
      exact eg_k_iret rfl (Or.inl rfl) (Nat.le_refl _) (Nat.le_refl _) hK
    · refine eg_k_aload rfl rfl ?_
      refine eg_k_iload rfl rfl ?_
      obtain ⟨r31, h30, hx⟩ := vb_bind hx
      refine eg_k_call (c1 := 0) (z1 := 0) (as := [.inr (.inr (some 12)), .inl x1]) (rest := []) rfl eg_tj66 (Nat.le_of_ble_eq_true rfl) rfl rfl rfl (Nat.le_of_ble_eq_true rfl) (Nat.le_refl _) (Nat.le_refl _) ?_ (fun Q hQ => ft_66 h30 hQ)
      refine vk_if rfl hx Iff.rfl (fun c33 hx => ?_) (fun c33 hx => ?_)
      · refine eg_k_ci rfl ?_
        have hx := Option.some.inj hx
        subst hx
        exact eg_k_iret rfl (Or.inl rfl) (Nat.le_refl _) (Nat.le_refl _) hK
      · refine eg_k_ci rfl ?_
        refine eg_k_goto rfl ?_
        have hx := Option.some.inj hx
        subst hx
        exact eg_k_iret rfl (Or.inr rfl) (Nat.le_refl _) (Nat.le_refl _) hK
  have e5_ := e9
  refine vb_ite hx (fun e9 hx => ?_) (fun e9 hx => ?_)
  · refine eg_k_tsw (x := M 13 (eg_wi (x1 - (M 12 3))).toNat) (t := 57) rfl (by rw [e9]; rfl) ?_
    refine eg_k_aload rfl rfl ?_
    refine eg_k_iload rfl rfl ?_
    refine eg_k_ci rfl ?_
    obtain ⟨m36, h34, hx⟩ := vb_bind hx
    refine eg_k_call (c1 := 0) (z1 := 0) (as := [.inr (.inr (some 12)), .inl x1, .inl 7]) (rest := []) rfl eg_tj65 (Nat.le_of_ble_eq_true rfl) rfl rfl rfl (Nat.le_of_ble_eq_true rfl) (Nat.le_refl _) (Nat.le_refl _) ?_ (fun Q hQ => ft_65 h34 hQ)
    refine eg_k_iload rfl rfl ?_
    obtain ⟨b9, hx⟩ := vb_if hx
    have hx := Option.some.inj hx
    subst hx
    exact eg_k_iret rfl b9 (Nat.le_refl _) (Nat.le_refl _) hK
  have e6_ := e9
  refine vb_ite hx (fun e9 hx => ?_) (fun e9 hx => ?_)
  · refine eg_k_tsw (x := M 13 (eg_wi (x1 - (M 12 3))).toNat) (t := 63) rfl (by rw [e9]; rfl) ?_
    refine eg_k_iload rfl rfl ?_
    refine vk_if rfl hx Iff.rfl (fun c37 hx => ?_) (fun c37 hx => ?_)
    · refine eg_k_ci rfl ?_
      have hx := Option.some.inj hx
      subst hx
      exact eg_k_iret rfl (Or.inl rfl) (Nat.le_refl _) (Nat.le_refl _) hK
    · refine eg_k_aload rfl rfl ?_
      refine eg_k_iload rfl rfl ?_
      obtain ⟨r39, h38, hx⟩ := vb_bind hx
      refine eg_k_call (c1 := 0) (z1 := 0) (as := [.inr (.inr (some 12)), .inl x1]) (rest := []) rfl eg_tj68 (Nat.le_of_ble_eq_true rfl) rfl rfl rfl (Nat.le_of_ble_eq_true rfl) (Nat.le_refl _) (Nat.le_refl _) ?_ (fun Q hQ => ft_68 h38 hQ)
      refine vk_if rfl hx Iff.rfl (fun c41 hx => ?_) (fun c41 hx => ?_)
      · refine eg_k_ci rfl ?_
        have hx := Option.some.inj hx
        subst hx
        exact eg_k_iret rfl (Or.inl rfl) (Nat.le_refl _) (Nat.le_refl _) hK
      · refine eg_k_ci rfl ?_
        refine eg_k_goto rfl ?_
        have hx := Option.some.inj hx
        subst hx
        exact eg_k_iret rfl (Or.inr rfl) (Nat.le_refl _) (Nat.le_refl _) hK
  have e7_ := e9
  refine eg_k_tsw (x := M 13 (eg_wi (x1 - (M 12 3))).toNat) (t := 73) rfl (by unfold eg_tb; rw [if_pos (by omega)]; rfl) ?_
  refine eg_k_ci rfl ?_
  have hx := Option.some.inj hx
  subst hx
  exact eg_k_iret rfl (Or.inr rfl) (Nat.le_refl _) (Nat.le_refl _) hK
set_option maxRecDepth 100000 in
theorem ft_56 {cn mo : Nat} {sc : eg_Sc} {d : Nat} {M : eM} {Q : Option eg_V → eg_H → Prop} {a : Int} {x : Int × eM} (hx : fn_56 a M = some x) (hK : Q (some (.inl ((x).1))) (em_L cn mo, eh_R, (x).2)) : eg_wp sc (d + 4) 56 [.inr (.inr (some 12)), .inl a] (em_L cn mo, eh_R, M) 0 0 Q := by
  refine eg_in (lv := [some (.inr (.inr (some 12))), some (.inl a), none]) eg_tj56 (Nat.le_of_ble_eq_true rfl) rfl ?_
  refine eg_k_aload rfl rfl ?_
  refine eg_k_gfr rfl rfl rfl eh_r12_0 ?_
  refine eg_k_gfa rfl rfl rfl eh_r1_3 ?_
  refine eg_k_iload rfl rfl ?_
  obtain ⟨b1, hx⟩ := vb_if hx
  refine eg_k_lald (k := 20000) rfl rfl b1.1 b1.2 ?_
  refine eg_k_cl rfl ?_
  refine vk_lcmp rfl rfl hx Iff.rfl (fun c2 hx => ?_) (fun c2 hx => ?_)
  · refine eg_k_ci rfl ?_
    have hz := ft_56_11 (d := d) (sc := sc) hx hK
    exact hz none
  · refine eg_k_ci rfl ?_
    refine eg_k_goto rfl ?_
    have hz := ft_56_11 (d := d) (sc := sc) hx hK
    exact hz none
theorem fw_56_11 {M : eM} {c j : Nat} {v : Int} {x1 : Int} {y0 : Int} {x : Int × eM} (hc : c ∉ ([13, 14] : List Nat)) (hx : fn_56_11 x1 y0 M = some x) (hK : (fun (x : Int × eM) => ((x).2) c j = v) x) : M c j = v := by
  obtain ⟨_, hx⟩ := vb_if hx
  refine vb_ite hx (fun _ hx => ?_) (fun _ hx => ?_)
  · refine vb_ite hx (fun _ hx => ?_) (fun _ hx => ?_)
    · obtain ⟨r6, h5, hx⟩ := vb_bind hx
      refine vb_ite hx (fun _ hx => ?_) (fun _ hx => ?_)
      · have hx := Option.some.inj hx
        subst hx
        exact (Eq.refl _).symm.trans hK
      · have hx := Option.some.inj hx
        subst hx
        exact (Eq.refl _).symm.trans hK
    · obtain ⟨r10, h9, hx⟩ := vb_bind hx
      obtain ⟨_, hx⟩ := vb_if hx
      have hx := Option.some.inj hx
      subst hx
      exact ((fw_57 h9 (vsub hc (by decide)) j).trans rfl).symm.trans hK
  refine vb_ite hx (fun _ hx => ?_) (fun _ hx => ?_)
  · refine vb_ite hx (fun _ hx => ?_) (fun _ hx => ?_)
    · obtain ⟨r14, h13, hx⟩ := vb_bind hx
      refine vb_ite hx (fun _ hx => ?_) (fun _ hx => ?_)
      · have hx := Option.some.inj hx
        subst hx
        exact (Eq.refl _).symm.trans hK
      · have hx := Option.some.inj hx
        subst hx
        exact (Eq.refl _).symm.trans hK
    · obtain ⟨r18, h17, hx⟩ := vb_bind hx
      obtain ⟨_, hx⟩ := vb_if hx
      have hx := Option.some.inj hx
      subst hx
      exact ((fw_57 h17 (vsub hc (by decide)) j).trans rfl).symm.trans hK
  refine vb_ite hx (fun _ hx => ?_) (fun _ hx => ?_)
  · obtain ⟨r21, h20, hx⟩ := vb_bind hx
    obtain ⟨_, hx⟩ := vb_if hx
    have hx := Option.some.inj hx
    subst hx
    exact (Eq.refl _).symm.trans hK
  refine vb_ite hx (fun _ hx => ?_) (fun _ hx => ?_)
  · obtain ⟨m25, h23, hx⟩ := vb_bind hx
    obtain ⟨_, hx⟩ := vb_if hx
    have hx := Option.some.inj hx
    subst hx
    exact ((fw_65 h23 (vsub hc (by decide)) j).trans rfl).symm.trans hK
  refine vb_ite hx (fun _ hx => ?_) (fun _ hx => ?_)
  · obtain ⟨r27, h26, hx⟩ := vb_bind hx
    refine vb_ite hx (fun _ hx => ?_) (fun _ hx => ?_)
    · have hx := Option.some.inj hx
      subst hx
      exact (Eq.refl _).symm.trans hK
    · obtain ⟨r31, h30, hx⟩ := vb_bind hx
      refine vb_ite hx (fun _ hx => ?_) (fun _ hx => ?_)
      · have hx := Option.some.inj hx
        subst hx
        exact (Eq.refl _).symm.trans hK
      · have hx := Option.some.inj hx
        subst hx
        exact (Eq.refl _).symm.trans hK
  refine vb_ite hx (fun _ hx => ?_) (fun _ hx => ?_)
  · obtain ⟨m36, h34, hx⟩ := vb_bind hx
    obtain ⟨_, hx⟩ := vb_if hx
    have hx := Option.some.inj hx
    subst hx
    exact ((fw_65 h34 (vsub hc (by decide)) j).trans rfl).symm.trans hK
  refine vb_ite hx (fun _ hx => ?_) (fun _ hx => ?_)
  · refine vb_ite hx (fun _ hx => ?_) (fun _ hx => ?_)
    · have hx := Option.some.inj hx
      subst hx
      exact (Eq.refl _).symm.trans hK
    · obtain ⟨r39, h38, hx⟩ := vb_bind hx
      refine vb_ite hx (fun _ hx => ?_) (fun _ hx => ?_)
      · have hx := Option.some.inj hx
        subst hx
        exact ((fw_68 h38 (vsub hc (by decide)) j).trans rfl).symm.trans hK
      · have hx := Option.some.inj hx
        subst hx
        exact ((fw_68 h38 (vsub hc (by decide)) j).trans rfl).symm.trans hK
  have hx := Option.some.inj hx
  subst hx
  exact (Eq.refl _).symm.trans hK
theorem fw_56 {M : eM} {c : Nat} {a : Int} {x : Int × eM} (hx : fn_56 a M = some x) (hc : c ∉ ([13, 14] : List Nat)) (j : Nat) : ((x).2) c j = M c j := by
  obtain ⟨v, hK⟩ : ∃ v, ((x).2) c j = v := ⟨_, rfl⟩
  rw [hK]
  refine Eq.symm ?_
  obtain ⟨_, hx⟩ := vb_if hx
  refine vb_ite hx (fun _ hx => ?_) (fun _ hx => ?_)
  · have hz := fw_56_11 hc hx hK
    exact (Eq.refl _).symm.trans hz
  · have hz := fw_56_11 hc hx hK
    exact (Eq.refl _).symm.trans hz
noncomputable def fn_54_33 (x1 : Int) (s1 : Int) (s2 : eM) : Option ((Int × eM) ⊕ (Int × eM)) :=
  if (s2 1 6) ≤ s1 then
    some (.inr ((-1), s2))
  else
    (fn_56 s1 s2).bind fun r4 =>
    if ¬ r4.1 = 0 then
      some (.inl (eg_wi (s1 + 1), r4.2))
    else
      if 0 ≤ (eg_wi (s1 - (r4.2 12 3))) ∧ (eg_wi (s1 - (r4.2 12 3))) < 2000 then
      some (.inr (r4.2 9 (eg_wi (s1 - (r4.2 12 3))).toNat, r4.2))
      else none
noncomputable def fn_54_10 (x1 : Int) (s1 : Int) (s2 : eM) : Option ((Int × eM) ⊕ (Int × eM)) :=
  if (s2 1 6) ≤ s1 then
    (lp (fun z => fn_54_33 x1 z.1 z.2) (s2 12 3, s2)).map Sum.inr
  else
    if 0 ≤ (eg_wi (s1 - (s2 12 3))) ∧ (eg_wi (s1 - (s2 12 3))) < 2000 then
    if 0 ≤ s1 ∧ s1 < 20000 then
      some (.inl (s2 5 (s1).toNat, eg_u s2 13 (eg_wi (s1 - (s2 12 3))).toNat 2))
      else none
    else none
/-- 54: WeakScheme$Shape.firstFault(I[I)I -/
noncomputable def fn_54 (a : Int) (M : eM) : Option (Int × eM) :=
  lp (fun z => fn_54_10 a z.1 z.2) (a, eg_fil (eg_u M 12 3 a) 13 0 2000 0)
set_option maxRecDepth 100000 in
theorem ft_54_33 {cn mo : Nat} {sc : eg_Sc} {d : Nat} {Q : Option eg_V → eg_H → Prop} {x1 : Int} {s : Int × eM} {x : Int × eM} (hx : lp (fun z => fn_54_33 x1 z.1 z.2) s = some x) (hK : (fun (x : Int × eM) => Q (some (.inl ((x).1))) (em_L cn mo, eh_R, (x).2)) x) : eg_X sc (eg_wp sc (d + 4)) eg_p54 (some .int) 0 0 Q 33 [some (.inr (.inr (some 12))), some (.inl x1), some (.inr (.inr (some 9))), some (.inl s.1)] [] (em_L cn mo, eh_R, s.2) 0 0 := by
  refine lp_sound (P := (fun (s : Int × eM) => eg_X sc (eg_wp sc (d + 4)) eg_p54 (some .int) 0 0 Q 33 [some (.inr (.inr (some 12))), some (.inl x1), some (.inr (.inr (some 9))), some (.inl s.1)] [] (em_L cn mo, eh_R, s.2) 0 0)) (K := (fun (x : Int × eM) => Q (some (.inl ((x).1))) (em_L cn mo, eh_R, (x).2))) hx hK ?_
  intro s x hx hK
  obtain ⟨s1, s2⟩ := s
  refine eg_k_iload rfl rfl ?_
  refine eg_k_aload rfl rfl ?_
  refine eg_k_gfr rfl rfl rfl eh_r12_0 ?_
  refine eg_k_gfi rfl rfl rfl ?_
  refine vk_icmp rfl hx Iff.rfl (fun c2 hx => ?_) (fun c2 hx => ?_)
  · refine eg_k_ci rfl ?_
    have hx := Option.some.inj hx
    subst hx
    exact eg_k_iret rfl True.intro (Nat.le_refl _) (Nat.le_refl _) hK
  · refine eg_k_aload rfl rfl ?_
    refine eg_k_iload rfl rfl ?_
    obtain ⟨r4, h3, hx⟩ := vb_bind hx
    refine eg_k_call (c1 := 0) (z1 := 0) (as := [.inr (.inr (some 12)), .inl s1]) (rest := []) rfl eg_tj56 (Nat.le_of_ble_eq_true rfl) rfl rfl rfl (Nat.le_of_ble_eq_true rfl) (Nat.le_refl _) (Nat.le_refl _) ?_ (fun Q hQ => ft_56 h3 hQ)
    refine vk_if rfl hx Iff.rfl (fun c6 hx => ?_) (fun c6 hx => ?_)
    · refine eg_k_iinc (lv' := [some (.inr (.inr (some 12))), some (.inl x1), some (.inr (.inr (some 9))), some (.inl (eg_wi (s1 + 1)))]) rfl rfl rfl ?_
      refine eg_k_goto rfl ?_
      have hx := Option.some.inj hx
      subst hx
      exact hK
    · refine eg_k_aload rfl rfl ?_
      refine eg_k_iload rfl rfl ?_
      refine eg_k_aload rfl rfl ?_
      refine eg_k_gfi rfl rfl rfl ?_
      refine eg_k_isub rfl ?_
      obtain ⟨b7, hx⟩ := vb_if hx
      refine eg_k_iald (k := 2000) rfl rfl b7.1 b7.2 ?_
      have hx := Option.some.inj hx
      subst hx
      exact eg_k_iret rfl True.intro (Nat.le_refl _) (Nat.le_refl _) hK
set_option maxRecDepth 100000 in
theorem ft_54_10 {cn mo : Nat} {sc : eg_Sc} {d : Nat} {Q : Option eg_V → eg_H → Prop} {x1 : Int} {s : Int × eM} {x : Int × eM} (hx : lp (fun z => fn_54_10 x1 z.1 z.2) s = some x) (hK : (fun (x : Int × eM) => Q (some (.inl ((x).1))) (em_L cn mo, eh_R, (x).2)) x) : eg_X sc (eg_wp sc (d + 4)) eg_p54 (some .int) 0 0 Q 10 [some (.inr (.inr (some 12))), some (.inl x1), some (.inr (.inr (some 9))), some (.inl s.1)] [] (em_L cn mo, eh_R, s.2) 0 0 := by
  refine lp_sound (P := (fun (s : Int × eM) => eg_X sc (eg_wp sc (d + 4)) eg_p54 (some .int) 0 0 Q 10 [some (.inr (.inr (some 12))), some (.inl x1), some (.inr (.inr (some 9))), some (.inl s.1)] [] (em_L cn mo, eh_R, s.2) 0 0)) (K := (fun (x : Int × eM) => Q (some (.inl ((x).1))) (em_L cn mo, eh_R, (x).2))) hx hK ?_
  intro s x hx hK
  obtain ⟨s1, s2⟩ := s
  refine eg_k_iload rfl rfl ?_
  refine eg_k_aload rfl rfl ?_
  refine eg_k_gfr rfl rfl rfl eh_r12_0 ?_
  refine eg_k_gfi rfl rfl rfl ?_
  refine vk_icmp rfl hx Iff.rfl (fun c1 hx => ?_) (fun c1 hx => ?_)
  · refine eg_k_aload rfl rfl ?_
    refine eg_k_gfi rfl rfl rfl ?_
    refine eg_k_istore (lv' := [some (.inr (.inr (some 12))), some (.inl x1), some (.inr (.inr (some 9))), some (.inl (s2 12 3))]) rfl rfl ?_
    obtain ⟨x, hy, e9⟩ := vb_map hx
    clear hx
    subst e9
    have hx := hy
    clear hy
    have hz := ft_54_33 (d := d) (sc := sc) hx hK
    exact hz
  · refine eg_k_aload rfl rfl ?_
    refine eg_k_gfa rfl rfl rfl eh_r12_1 ?_
    refine eg_k_iload rfl rfl ?_
    refine eg_k_aload rfl rfl ?_
    refine eg_k_gfi rfl rfl rfl ?_
    refine eg_k_isub rfl ?_
    refine eg_k_ci rfl ?_
    obtain ⟨b8, hx⟩ := vb_if hx
    refine eg_k_iast (k := 2000) rfl rfl b8.1 b8.2 ?_
    refine eg_k_aload rfl rfl ?_
    refine eg_k_gfr rfl rfl rfl eh_r12_0 ?_
    refine eg_k_gfa rfl rfl rfl eh_r1_4 ?_
    refine eg_k_iload rfl rfl ?_
    obtain ⟨b9, hx⟩ := vb_if hx
    refine vk_iald (k := 20000) (y := s2 5 (s1).toNat) rfl rfl b9.1 b9.2 rfl ?_
    refine eg_k_istore (lv' := [some (.inr (.inr (some 12))), some (.inl x1), some (.inr (.inr (some 9))), some (.inl (s2 5 (s1).toNat))]) rfl rfl ?_
    refine eg_k_goto rfl ?_
    have hx := Option.some.inj hx
    subst hx
    exact hK
set_option maxRecDepth 100000 in
theorem ft_54 {cn mo : Nat} {sc : eg_Sc} {d : Nat} {M : eM} {Q : Option eg_V → eg_H → Prop} {a : Int} {x : Int × eM} (hx : fn_54 a M = some x) (hK : Q (some (.inl ((x).1))) (em_L cn mo, eh_R, (x).2)) : eg_wp sc (d + 5) 54 [.inr (.inr (some 12)), .inl a, .inr (.inr (some 9))] (em_L cn mo, eh_R, M) 0 0 Q := by
  refine eg_in (lv := [some (.inr (.inr (some 12))), some (.inl a), some (.inr (.inr (some 9))), none]) eg_tj54 (Nat.le_of_ble_eq_true rfl) rfl ?_
  refine eg_k_aload rfl rfl ?_
  refine eg_k_iload rfl rfl ?_
  refine eg_k_pfi rfl rfl rfl ?_
  refine eg_k_aload rfl rfl ?_
  refine eg_k_gfa rfl rfl rfl eh_r12_1 ?_
  refine eg_k_ci rfl ?_
  refine eg_k_call (c1 := 0) (z1 := 0) (as := [.inr (.inr (some 13)), .inl 0]) (rest := []) rfl eg_tj55 (Nat.le_of_ble_eq_true rfl) rfl rfl trivial (Nat.le_of_ble_eq_true rfl) (Nat.le_refl _) (Nat.le_refl _) ?_ (fun Q hQ => ef_55 (n := 2000) rfl (by decide) hQ)
  refine eg_k_aload rfl rfl ?_
  refine eg_k_gfie (x := a) rfl rfl rfl rfl ?_
  refine eg_k_istore (lv' := [some (.inr (.inr (some 12))), some (.inl a), some (.inr (.inr (some 9))), some (.inl a)]) rfl rfl ?_
  have hz := ft_54_10 (d := d) (sc := sc) hx hK
  exact hz
theorem fw_54_33 {c j : Nat} {v : Int} {x1 : Int} {s : Int × eM} {x : Int × eM} (hc : c ∉ ([12, 13, 14] : List Nat)) (hx : lp (fun z => fn_54_33 x1 z.1 z.2) s = some x) (hK : (fun (x : Int × eM) => ((x).2) c j = v) x) : s.2 c j = v := by
  refine lp_sound (P := (fun (s : Int × eM) => s.2 c j = v)) (K := (fun (x : Int × eM) => ((x).2) c j = v)) hx hK ?_
  intro s x hx hK
  obtain ⟨s1, s2⟩ := s
  refine vb_ite hx (fun _ hx => ?_) (fun _ hx => ?_)
  · have hx := Option.some.inj hx
    subst hx
    exact (Eq.refl _).symm.trans hK
  · obtain ⟨r4, h3, hx⟩ := vb_bind hx
    refine vb_ite hx (fun _ hx => ?_) (fun _ hx => ?_)
    · have hx := Option.some.inj hx
      subst hx
      exact ((fw_56 h3 (vsub hc (by decide)) j).trans rfl).symm.trans hK
    · obtain ⟨_, hx⟩ := vb_if hx
      have hx := Option.some.inj hx
      subst hx
      exact ((fw_56 h3 (vsub hc (by decide)) j).trans rfl).symm.trans hK
theorem fw_54_10 {c j : Nat} {v : Int} {x1 : Int} {s : Int × eM} {x : Int × eM} (hc : c ∉ ([12, 13, 14] : List Nat)) (hx : lp (fun z => fn_54_10 x1 z.1 z.2) s = some x) (hK : (fun (x : Int × eM) => ((x).2) c j = v) x) : s.2 c j = v := by
  refine lp_sound (P := (fun (s : Int × eM) => s.2 c j = v)) (K := (fun (x : Int × eM) => ((x).2) c j = v)) hx hK ?_
  intro s x hx hK
  obtain ⟨s1, s2⟩ := s
  refine vb_ite hx (fun _ hx => ?_) (fun _ hx => ?_)
  · obtain ⟨x, hy, e9⟩ := vb_map hx
    clear hx
    subst e9
    have hx := hy
    clear hy
    have hz := fw_54_33 hc hx hK
    exact (Eq.refl _).symm.trans hz
  · obtain ⟨_, hx⟩ := vb_if hx
    obtain ⟨_, hx⟩ := vb_if hx
    have hx := Option.some.inj hx
    subst hx
    exact ((congrFun (eg_u_ne (vne hc (a := 13) (by decide))) j).trans rfl).symm.trans hK
theorem fw_54 {M : eM} {c : Nat} {a : Int} {x : Int × eM} (hx : fn_54 a M = some x) (hc : c ∉ ([12, 13, 14] : List Nat)) (j : Nat) : ((x).2) c j = M c j := by
  obtain ⟨v, hK⟩ : ∃ v, ((x).2) c j = v := ⟨_, rfl⟩
  rw [hK]
  refine Eq.symm ?_
  have hz := fw_54_10 hc hx hK
  exact ((congrFun (ev_fil_ne (vne hc (a := 13) (by decide))) j).trans ((congrFun (eg_u_ne (vne hc (a := 12) (by decide))) j).trans rfl)).symm.trans hz
