/-- 71: WeakScheme$Held.clear()V -/
noncomputable def fn_71 (M : eM) : Option (eM) :=
  some (eg_fil (eg_u M 29 0 0) 36 0 32 4294967298)
set_option maxRecDepth 100000 in
theorem ft_71 {cn mo : Nat} {sc : eg_Sc} {d : Nat} {M : eM} {Q : Option eg_V → eg_H → Prop} {x : eM} (hx : fn_71 M = some x) (hK : Q (none) (em_L cn mo, eh_R, x)) : eg_wp sc (d + 2) 71 [.inr (.inr (some 29))] (em_L cn mo, eh_R, M) 0 0 Q := by
  refine eg_in (lv := [some (.inr (.inr (some 29)))]) eg_tj71 (Nat.le_of_ble_eq_true rfl) rfl ?_
  refine eg_k_aload rfl rfl ?_
  refine eg_k_ci rfl ?_
  refine eg_k_pfi rfl rfl rfl ?_
  refine eg_k_aload rfl rfl ?_
  refine eg_k_gfa rfl rfl rfl eh_r29_7 ?_
  refine eg_k_cl rfl ?_
  refine eg_k_call (c1 := 0) (z1 := 0) (as := [.inr (.inr (some 36)), .inr (.inl 4294967298)]) (rest := []) rfl eg_tj22 (Nat.le_of_ble_eq_true rfl) rfl rfl trivial (Nat.le_of_ble_eq_true rfl) (Nat.le_refl _) (Nat.le_refl _) ?_ (fun Q hQ => ef_22 (n := 32) rfl (by decide) hQ)
  have hx := Option.some.inj hx
  subst hx
  exact eg_k_ret rfl rfl (Nat.le_refl _) (Nat.le_refl _) hK
theorem fw_71 {M : eM} {c : Nat} {x : eM} (hx : fn_71 M = some x) (hc : c ∉ ([29, 36] : List Nat)) (j : Nat) : x c j = M c j := by
  obtain ⟨v, hK⟩ : ∃ v, x c j = v := ⟨_, rfl⟩
  rw [hK]
  refine Eq.symm ?_
  have hx := Option.some.inj hx
  subst hx
  exact ((congrFun (ev_fil_ne (vne hc (a := 36) (by decide))) j).trans ((congrFun (eg_u_ne (vne hc (a := 29) (by decide))) j).trans rfl)).symm.trans hK
/-- 70: WeakScheme$Machine.prepare(I)V -/
noncomputable def fn_70 (a : Int) (M : eM) : Option (eM) :=
  (fn_71 (eg_u (eg_u (eg_u M 44 7 a) 44 8 0) 44 10 0)).bind fun m3 =>
  some (eg_u (eg_u (eg_u (eg_u m3 15 11 0) 15 12 0) 43 4 0) 43 5 0)
set_option maxRecDepth 100000 in
theorem ft_70 {cn mo : Nat} {sc : eg_Sc} {d : Nat} {M : eM} {Q : Option eg_V → eg_H → Prop} {a : Int} {x : eM} (hx : fn_70 a M = some x) (hK : Q (none) (em_L cn mo, eh_R, x)) : eg_wp sc (d + 3) 70 [.inr (.inr (some 44)), .inl a] (em_L cn mo, eh_R, M) 0 0 Q := by
  refine eg_in (lv := [some (.inr (.inr (some 44))), some (.inl a)]) eg_tj70 (Nat.le_of_ble_eq_true rfl) rfl ?_
  refine eg_k_aload rfl rfl ?_
  refine eg_k_iload rfl rfl ?_
  refine eg_k_pfi rfl rfl rfl ?_
  refine eg_k_aload rfl rfl ?_
  refine eg_k_ci rfl ?_
  refine eg_k_pfi rfl rfl rfl ?_
  refine eg_k_aload rfl rfl ?_
  refine eg_k_ci rfl ?_
  refine eg_k_pfi rfl rfl rfl ?_
  refine eg_k_aload rfl rfl ?_
  refine eg_k_gfr rfl rfl rfl eh_r44_3 ?_
  obtain ⟨m3, h1, hx⟩ := vb_bind hx
  refine eg_k_call (c1 := 0) (z1 := 0) (as := [.inr (.inr (some 29))]) (rest := []) rfl eg_tj71 (Nat.le_of_ble_eq_true rfl) rfl rfl rfl (Nat.le_of_ble_eq_true rfl) (Nat.le_refl _) (Nat.le_refl _) ?_ (fun Q hQ => ft_71 h1 hQ)
  refine eg_k_aload rfl rfl ?_
  refine eg_k_gfr rfl rfl rfl eh_r44_1 ?_
  refine eg_k_ci rfl ?_
  refine eg_k_pfz rfl rfl rfl (by decide) ?_
  refine eg_k_aload rfl rfl ?_
  refine eg_k_gfr rfl rfl rfl eh_r44_1 ?_
  refine eg_k_ci rfl ?_
  refine eg_k_pfz rfl rfl rfl (by decide) ?_
  refine eg_k_aload rfl rfl ?_
  refine eg_k_gfr rfl rfl rfl eh_r44_5 ?_
  refine eg_k_ci rfl ?_
  refine eg_k_pfi rfl rfl rfl ?_
  refine eg_k_aload rfl rfl ?_
  refine eg_k_gfr rfl rfl rfl eh_r44_5 ?_
  refine eg_k_ci rfl ?_
  refine eg_k_pfz rfl rfl rfl (by decide) ?_
  have hx := Option.some.inj hx
  subst hx
  exact eg_k_ret rfl rfl (Nat.le_refl _) (Nat.le_refl _) hK
theorem fw_70 {M : eM} {c : Nat} {a : Int} {x : eM} (hx : fn_70 a M = some x) (hc : c ∉ ([15, 29, 36, 43, 44] : List Nat)) (j : Nat) : x c j = M c j := by
  obtain ⟨v, hK⟩ : ∃ v, x c j = v := ⟨_, rfl⟩
  rw [hK]
  refine Eq.symm ?_
  obtain ⟨m3, h1, hx⟩ := vb_bind hx
  have hx := Option.some.inj hx
  subst hx
  exact ((congrFun (eg_u_ne (vne hc (a := 43) (by decide))) j).trans ((congrFun (eg_u_ne (vne hc (a := 43) (by decide))) j).trans ((congrFun (eg_u_ne (vne hc (a := 15) (by decide))) j).trans ((congrFun (eg_u_ne (vne hc (a := 15) (by decide))) j).trans ((fw_71 h1 (vsub hc (by decide)) j).trans ((congrFun (eg_u_ne (vne hc (a := 44) (by decide))) j).trans ((congrFun (eg_u_ne (vne hc (a := 44) (by decide))) j).trans ((congrFun (eg_u_ne (vne hc (a := 44) (by decide))) j).trans rfl)))))))).symm.trans hK
/-- 72: WeakScheme$Machine.isPrimitiveDue(I)Z -/
noncomputable def fn_72 (a : Int) (M : eM) : Option (Int) :=
  if 0 ≤ a ∧ a < 2000 then
  if ¬ (M 30 (a).toNat) = 12 then
      some 0
    else
      (fn_73 a 0 M).bind fun r4 =>
      if ¬ (eb_lshr r4 32) = 3 then
        some 0
      else
        some 1
  else none
set_option maxRecDepth 100000 in
theorem ft_72 {cn mo : Nat} {sc : eg_Sc} {d : Nat} {M : eM} {Q : Option eg_V → eg_H → Prop} {a : Int} {x : Int} (hx : fn_72 a M = some x) (hK : Q (some (.inl x)) (em_L cn mo, eh_R, M)) : eg_wp sc (d + 2) 72 [.inr (.inr (some 44)), .inl a] (em_L cn mo, eh_R, M) 0 0 Q := by
  refine eg_in (lv := [some (.inr (.inr (some 44))), some (.inl a)]) eg_tj72 (Nat.le_of_ble_eq_true rfl) rfl ?_
  refine eg_k_aload rfl rfl ?_
  refine eg_k_gfr rfl rfl rfl eh_r44_3 ?_
  refine eg_k_gfa rfl rfl rfl eh_r29_1 ?_
  refine eg_k_iload rfl rfl ?_
  obtain ⟨b1, hx⟩ := vb_if hx
  refine eg_k_iald (k := 2000) rfl rfl b1.1 b1.2 ?_
  refine eg_k_ci rfl ?_
  refine vk_icmp rfl hx Iff.rfl (fun c2 hx => ?_) (fun c2 hx => ?_)
  · refine eg_k_ci rfl ?_
    have hx := Option.some.inj hx
    subst hx
    exact eg_k_iret rfl (Or.inl rfl) (Nat.le_refl _) (Nat.le_refl _) hK
  · refine eg_k_aload rfl rfl ?_
    refine eg_k_gfr rfl rfl rfl eh_r44_3 ?_
    refine eg_k_iload rfl rfl ?_
    refine eg_k_ci rfl ?_
    obtain ⟨r4, h3, hx⟩ := vb_bind hx
    refine eg_k_call (c1 := 0) (z1 := 0) (as := [.inr (.inr (some 29)), .inl a, .inl 0]) (rest := []) rfl eg_tj73 (Nat.le_of_ble_eq_true rfl) rfl rfl rfl (Nat.le_of_ble_eq_true rfl) (Nat.le_refl _) (Nat.le_refl _) ?_ (fun Q hQ => ft_73 h3 hQ)
    refine eg_k_ci rfl ?_
    refine eg_k_lshr rfl ?_
    refine eg_k_cl rfl ?_
    refine vk_lcmp rfl rfl hx Iff.rfl (fun c6 hx => ?_) (fun c6 hx => ?_)
    · refine eg_k_ci rfl ?_
      have hx := Option.some.inj hx
      subst hx
      exact eg_k_iret rfl (Or.inl rfl) (Nat.le_refl _) (Nat.le_refl _) hK
    · refine eg_k_ci rfl ?_
      refine eg_k_goto rfl ?_
      have hx := Option.some.inj hx
      subst hx
      exact eg_k_iret rfl (Or.inr rfl) (Nat.le_refl _) (Nat.le_refl _) hK
/-- 103: WeakScheme$Machine.endWith(J)V -/
noncomputable def fn_103 (a : Int) (M : eM) : Option (eM) :=
  some (eg_u (eg_u M 44 9 a) 29 0 (eg_wi ((M 29 0) - 1)))
set_option maxRecDepth 100000 in
theorem ft_103 {cn mo : Nat} {sc : eg_Sc} {d : Nat} {M : eM} {Q : Option eg_V → eg_H → Prop} {a : Int} {x : eM} (hx : fn_103 a M = some x) (hK : Q (none) (em_L cn mo, eh_R, x)) : eg_wp sc (d + 1) 103 [.inr (.inr (some 44)), .inr (.inl a)] (em_L cn mo, eh_R, M) 0 0 Q := by
  refine eg_in (lv := [some (.inr (.inr (some 44))), some (.inr (.inl a)), none]) eg_tj103 (Nat.le_of_ble_eq_true rfl) rfl ?_
  refine eg_k_aload rfl rfl ?_
  refine eg_k_lload rfl rfl ?_
  refine eg_k_pfl rfl rfl rfl ?_
  refine eg_k_aload rfl rfl ?_
  refine eg_k_gfr rfl rfl rfl eh_r44_3 ?_
  refine eg_k_dupr rfl ?_
  refine eg_k_gfie (x := M 29 0) rfl rfl rfl rfl ?_
  refine eg_k_ci rfl ?_
  refine eg_k_isub rfl ?_
  refine eg_k_pfi rfl rfl rfl ?_
  have hx := Option.some.inj hx
  subst hx
  exact eg_k_ret rfl rfl (Nat.le_refl _) (Nat.le_refl _) hK
theorem fw_103 {M : eM} {c : Nat} {a : Int} {x : eM} (hx : fn_103 a M = some x) (hc : c ∉ ([29, 44] : List Nat)) (j : Nat) : x c j = M c j := by
  obtain ⟨v, hK⟩ : ∃ v, x c j = v := ⟨_, rfl⟩
  rw [hK]
  refine Eq.symm ?_
  have hx := Option.some.inj hx
  subst hx
  exact ((congrFun (eg_u_ne (vne hc (a := 29) (by decide))) j).trans ((congrFun (eg_u_ne (vne hc (a := 44) (by decide))) j).trans rfl)).symm.trans hK
noncomputable def fn_74_28 (cn : Nat) (mo : Nat) (x1 : Int) (x2 : Nat) (x3 : Int) (M : eM) (s : Int) : Option ((Int) ⊕ (eM)) :=
  if x3 ≤ s then
    (fn_73 x1 1 M).bind fun r11 =>
    (fn_73 x1 2 M).bind fun r14 =>
    (fn_73 x1 3 M).bind fun r17 =>
    (fn_79 cn mo x2 r11 r14 r17 M).bind fun r20 =>
    if (r20.2 43 5) = 0 then
      if ¬ (r20.2 43 4) = 0 then
        some (.inr (eg_u r20.2 44 8 (r20.2 43 4)))
      else
        if ¬ (r20.2 15 11) = 0 then
          some (.inr (eg_u r20.2 44 8 (r20.2 43 4)))
        else
          (fn_103 r20.1 (eg_u r20.2 44 8 (r20.2 43 4))).bind fun m27 =>
          some (.inr m27)
    else
      if 0 ≤ x1 ∧ x1 < 2000 then
      some (.inr (eg_u (eg_u (eg_u r20.2 44 8 (r20.2 43 4)) 34 (x1).toNat 0) 30 (x1).toNat 15))
      else none
  else
    (fn_73 x1 (eg_wi (s + 1)) M).bind fun r31 =>
    if x2 < 34 then
    if ((eg_enm.getD x2 ("", 0, 0)).2.2) < 62 ∧ 0 ≤ s ∧ s < ((eg_str.getD ((eg_enm.getD x2 ("", 0, 0)).2.2) []).length : Nat) then
      (fn_75 cn mo r31 ((eg_str.getD ((eg_enm.getD x2 ("", 0, 0)).2.2) []).getD (s).toNat 0) M).bind fun r36 =>
        if ¬ r36 = 0 then
          some (.inl (eg_wi (s + 1)))
        else
          some (.inr (eg_u M 44 8 9))
      else none
    else none
/-- 74: WeakScheme$Machine.operate(I)V -/
noncomputable def fn_74 (cn : Nat) (mo : Nat) (a : Int) (M : eM) : Option (eM) :=
  (fn_73 a 0 M).bind fun r2 =>
  if 0 ≤ (eg_wi r2) ∧ (eg_wi r2) < 34 then
  if 0 ≤ a ∧ a < 2000 then
    if ((eg_wi r2).toNat) < 34 then
      if ((eg_enm.getD ((eg_wi r2).toNat) ("", 0, 0)).2.2) < 62 then
        if ((eg_str.getD ((eg_enm.getD ((eg_wi r2).toNat) ("", 0, 0)).2.2) []).length : Nat) = (eg_wi ((M 34 (a).toNat) - 1)) then
            lp (fn_74_28 cn mo a ((eg_wi r2).toNat) (eg_wi ((M 34 (a).toNat) - 1)) M) 0
          else
            some (eg_u M 44 8 7)
        else none
      else none
    else none
  else none
set_option maxRecDepth 100000 in
theorem ft_74_28 {cn mo : Nat} {sc : eg_Sc} {d : Nat} {M : eM} {Q : Option eg_V → eg_H → Prop} {x1 : Int} {x2 : Nat} {x3 : Int} {s : Int} {x : eM} (hx : lp (fn_74_28 cn mo x1 x2 x3 M) s = some x) (hK : (fun (x : eM) => Q (none) (em_L cn mo, eh_R, x)) x) : ∀ (w5 : Option eg_V), eg_X sc (eg_wp sc (d + 19)) eg_p74 none 0 0 Q 28 [some (.inr (.inr (some 44))), some (.inl x1), some (.inr (.inr (some (1000100 + x2)))), some (.inl x3), some (.inl s), w5] [] (em_L cn mo, eh_R, M) 0 0 := by
  refine lp_sound (P := (fun (s : Int) => ∀ (w5 : Option eg_V), eg_X sc (eg_wp sc (d + 19)) eg_p74 none 0 0 Q 28 [some (.inr (.inr (some 44))), some (.inl x1), some (.inr (.inr (some (1000100 + x2)))), some (.inl x3), some (.inl s), w5] [] (em_L cn mo, eh_R, M) 0 0)) (K := (fun (x : eM) => Q (none) (em_L cn mo, eh_R, x))) hx hK ?_
  intro s x hx hK w5
  refine eg_k_iload rfl rfl ?_
  refine eg_k_iload rfl rfl ?_
  refine vk_icmp rfl hx Iff.rfl (fun c9 hx => ?_) (fun c9 hx => ?_)
  · refine eg_k_aload rfl rfl ?_
    refine eg_k_gfr rfl rfl rfl eh_r44_5 ?_
    refine eg_k_aload rfl rfl ?_
    refine eg_k_aload rfl rfl ?_
    refine eg_k_gfr rfl rfl rfl eh_r44_3 ?_
    refine eg_k_iload rfl rfl ?_
    refine eg_k_ci rfl ?_
    obtain ⟨r11, h10, hx⟩ := vb_bind hx
    refine eg_k_call (c1 := 0) (z1 := 0) (as := [.inr (.inr (some 29)), .inl x1, .inl 1]) (rest := [.inr (.inr (some (1000100 + x2))), .inr (.inr (some 43))]) rfl eg_tj73 (Nat.le_of_ble_eq_true rfl) rfl rfl rfl (Nat.le_of_ble_eq_true rfl) (Nat.le_refl _) (Nat.le_refl _) ?_ (fun Q hQ => ft_73 h10 hQ)
    refine eg_k_aload rfl rfl ?_
    refine eg_k_gfr rfl rfl rfl eh_r44_3 ?_
    refine eg_k_iload rfl rfl ?_
    refine eg_k_ci rfl ?_
    obtain ⟨r14, h13, hx⟩ := vb_bind hx
    refine eg_k_call (c1 := 0) (z1 := 0) (as := [.inr (.inr (some 29)), .inl x1, .inl 2]) (rest := [.inr (.inl r11), .inr (.inr (some (1000100 + x2))), .inr (.inr (some 43))]) rfl eg_tj73 (Nat.le_of_ble_eq_true rfl) rfl rfl rfl (Nat.le_of_ble_eq_true rfl) (Nat.le_refl _) (Nat.le_refl _) ?_ (fun Q hQ => ft_73 h13 hQ)
    refine eg_k_aload rfl rfl ?_
    refine eg_k_gfr rfl rfl rfl eh_r44_3 ?_
    refine eg_k_iload rfl rfl ?_
    refine eg_k_ci rfl ?_
    obtain ⟨r17, h16, hx⟩ := vb_bind hx
    refine eg_k_call (c1 := 0) (z1 := 0) (as := [.inr (.inr (some 29)), .inl x1, .inl 3]) (rest := [.inr (.inl r14), .inr (.inl r11), .inr (.inr (some (1000100 + x2))), .inr (.inr (some 43))]) rfl eg_tj73 (Nat.le_of_ble_eq_true rfl) rfl rfl rfl (Nat.le_of_ble_eq_true rfl) (Nat.le_refl _) (Nat.le_refl _) ?_ (fun Q hQ => ft_73 h16 hQ)
    obtain ⟨r20, h19, hx⟩ := vb_bind hx
    refine eg_k_call (c1 := 0) (z1 := 0) (as := [.inr (.inr (some 43)), .inr (.inr (some (1000100 + x2))), .inr (.inl r11), .inr (.inl r14), .inr (.inl r17)]) (rest := []) rfl eg_tj79 (Nat.le_of_ble_eq_true rfl) rfl rfl rfl (Nat.le_of_ble_eq_true rfl) (Nat.le_refl _) (Nat.le_refl _) ?_ (fun Q hQ => ft_79 h19 hQ)
    refine eg_k_lstore (lv' := [some (.inr (.inr (some 44))), some (.inl x1), some (.inr (.inr (some (1000100 + x2)))), some (.inl x3), some (.inr (.inl r20.1)), none]) rfl rfl ?_
    refine eg_k_aload rfl rfl ?_
    refine eg_k_aload rfl rfl ?_
    refine eg_k_gfr rfl rfl rfl eh_r44_5 ?_
    refine eg_k_gfi rfl rfl rfl ?_
    refine eg_k_pfi rfl rfl rfl ?_
    refine eg_k_aload rfl rfl ?_
    refine eg_k_gfr rfl rfl rfl eh_r44_5 ?_
    refine eg_k_gfze (x := r20.2 43 5) rfl rfl rfl rfl ?_
    refine vk_if rfl hx Iff.rfl (fun c22 hx => ?_) (fun c22 hx => ?_)
    · refine eg_k_aload rfl rfl ?_
      refine eg_k_gfie (x := r20.2 43 4) rfl rfl rfl rfl ?_
      refine vk_if rfl hx Iff.rfl (fun c23 hx => ?_) (fun c23 hx => ?_)
      · have hx := Option.some.inj hx
        subst hx
        exact eg_k_ret rfl rfl (Nat.le_refl _) (Nat.le_refl _) hK
      · refine eg_k_aload rfl rfl ?_
        refine eg_k_gfr rfl rfl rfl eh_r44_1 ?_
        refine eg_k_gfze (x := r20.2 15 11) rfl rfl rfl rfl ?_
        refine vk_if rfl hx Iff.rfl (fun c24 hx => ?_) (fun c24 hx => ?_)
        · have hx := Option.some.inj hx
          subst hx
          exact eg_k_ret rfl rfl (Nat.le_refl _) (Nat.le_refl _) hK
        · refine eg_k_aload rfl rfl ?_
          refine eg_k_lload rfl rfl ?_
          obtain ⟨m27, h25, hx⟩ := vb_bind hx
          refine eg_k_call (c1 := 0) (z1 := 0) (as := [.inr (.inr (some 44)), .inr (.inl r20.1)]) (rest := []) rfl eg_tj103 (Nat.le_of_ble_eq_true rfl) rfl rfl rfl (Nat.le_of_ble_eq_true rfl) (Nat.le_refl _) (Nat.le_refl _) ?_ (fun Q hQ => ft_103 h25 hQ)
          have hx := Option.some.inj hx
          subst hx
          exact eg_k_ret rfl rfl (Nat.le_refl _) (Nat.le_refl _) hK
    · refine eg_k_aload rfl rfl ?_
      refine eg_k_gfr rfl rfl rfl eh_r44_3 ?_
      refine eg_k_gfa rfl rfl rfl eh_r29_5 ?_
      refine eg_k_iload rfl rfl ?_
      refine eg_k_ci rfl ?_
      obtain ⟨b28, hx⟩ := vb_if hx
      refine eg_k_iast (k := 2000) rfl rfl b28.1 b28.2 ?_
      refine eg_k_aload rfl rfl ?_
      refine eg_k_gfr rfl rfl rfl eh_r44_3 ?_
      refine eg_k_gfa rfl rfl rfl eh_r29_1 ?_
      refine eg_k_iload rfl rfl ?_
      refine eg_k_ci rfl ?_
      refine eg_k_iast (k := 2000) rfl rfl b28.1 b28.2 ?_
      refine eg_k_goto rfl ?_
      have hx := Option.some.inj hx
      subst hx
      exact eg_k_ret rfl rfl (Nat.le_refl _) (Nat.le_refl _) hK
  · refine eg_k_aload rfl rfl ?_
    refine eg_k_gfr rfl rfl rfl eh_r44_5 ?_
    refine eg_k_aload rfl rfl ?_
    refine eg_k_gfr rfl rfl rfl eh_r44_3 ?_
    refine eg_k_iload rfl rfl ?_
    refine eg_k_iload rfl rfl ?_
    refine eg_k_ci rfl ?_
    refine eg_k_iadd rfl ?_
    obtain ⟨r31, h30, hx⟩ := vb_bind hx
    refine eg_k_call (c1 := 0) (z1 := 0) (as := [.inr (.inr (some 29)), .inl x1, .inl (eg_wi (s + 1))]) (rest := [.inr (.inr (some 43))]) rfl eg_tj73 (Nat.le_of_ble_eq_true rfl) rfl rfl rfl (Nat.le_of_ble_eq_true rfl) (Nat.le_refl _) (Nat.le_refl _) ?_ (fun Q hQ => ft_73 h30 hQ)
    refine eg_k_aload rfl rfl ?_
    obtain ⟨b33, hx⟩ := vb_if hx
    refine eg_k_getx rfl (es_en b33).2.1 ?_
    refine eg_k_iload rfl rfl ?_
    obtain ⟨b34, hx⟩ := vb_if hx
    refine eg_k_call (c1 := 0) (z1 := 0) (as := [.inr (.inr (some (1000200 + ((eg_enm.getD x2 ("", 0, 0)).2.2)))), .inl s]) (rest := [.inr (.inl r31), .inr (.inr (some 43))]) rfl eg_tj5 (Nat.le_of_ble_eq_true rfl) rfl rfl (es_rc (Nat.le_of_ble_eq_true rfl) b34.1) (Nat.le_of_ble_eq_true rfl) (Nat.le_refl _) (Nat.le_refl _) ?_ (fun Q hQ => es_5 (Nat.le_of_ble_eq_true rfl) b34.1 b34.2.1 b34.2.2 hQ)
    obtain ⟨r36, h35, hx⟩ := vb_bind hx
    refine eg_k_call (c1 := 0) (z1 := 0) (as := [.inr (.inr (some 43)), .inr (.inl r31), .inl ((eg_str.getD ((eg_enm.getD x2 ("", 0, 0)).2.2) []).getD (s).toNat 0)]) (rest := []) rfl eg_tj75 (Nat.le_of_ble_eq_true rfl) rfl rfl rfl (Nat.le_of_ble_eq_true rfl) (Nat.le_refl _) (Nat.le_refl _) ?_ (fun Q hQ => ft_75 h35 hQ)
    refine vk_if rfl hx Iff.rfl (fun c38 hx => ?_) (fun c38 hx => ?_)
    · refine eg_k_iinc (lv' := [some (.inr (.inr (some 44))), some (.inl x1), some (.inr (.inr (some (1000100 + x2)))), some (.inl x3), some (.inl (eg_wi (s + 1))), w5]) rfl rfl rfl ?_
      refine eg_k_goto rfl ?_
      have hx := Option.some.inj hx
      subst hx
      exact hK w5
    · refine eg_k_aload rfl rfl ?_
      refine eg_k_ci rfl ?_
      refine eg_k_pfi rfl rfl rfl ?_
      have hx := Option.some.inj hx
      subst hx
      exact eg_k_ret rfl rfl (Nat.le_refl _) (Nat.le_refl _) hK
set_option maxRecDepth 100000 in
theorem ft_74 {cn mo : Nat} {sc : eg_Sc} {d : Nat} {M : eM} {Q : Option eg_V → eg_H → Prop} {a : Int} {x : eM} (hx : fn_74 cn mo a M = some x) (hK : Q (none) (em_L cn mo, eh_R, x)) : eg_wp sc (d + 20) 74 [.inr (.inr (some 44)), .inl a] (em_L cn mo, eh_R, M) 0 0 Q := by
  refine eg_in (lv := [some (.inr (.inr (some 44))), some (.inl a), none, none, none, none]) eg_tj74 (Nat.le_of_ble_eq_true rfl) rfl ?_
  refine eg_k_gets (v := .inr (.inr (some 1000004))) rfl rfl ?_
  refine eg_k_aload rfl rfl ?_
  refine eg_k_gfr rfl rfl rfl eh_r44_3 ?_
  refine eg_k_iload rfl rfl ?_
  refine eg_k_ci rfl ?_
  obtain ⟨r2, h1, hx⟩ := vb_bind hx
  refine eg_k_call (c1 := 0) (z1 := 0) (as := [.inr (.inr (some 29)), .inl a, .inl 0]) (rest := [.inr (.inr (some 1000004))]) rfl eg_tj73 (Nat.le_of_ble_eq_true rfl) rfl rfl rfl (Nat.le_of_ble_eq_true rfl) (Nat.le_refl _) (Nat.le_refl _) ?_ (fun Q hQ => ft_73 h1 hQ)
  refine eg_k_l2i rfl ?_
  obtain ⟨b4, hx⟩ := vb_if hx
  refine eg_k_taald (k := 34) (f9 := fun j => .inr (.inr (some (1000100 + j)))) rfl (es_no (Nat.le_of_ble_eq_true rfl) (by decide)) rfl b4.1 b4.2 ?_
  refine eg_k_astore (lv' := [some (.inr (.inr (some 44))), some (.inl a), some (.inr (.inr (some (1000100 + ((eg_wi r2).toNat))))), none, none, none]) rfl rfl ?_
  refine eg_k_aload rfl rfl ?_
  refine eg_k_gfr rfl rfl rfl eh_r44_3 ?_
  refine eg_k_gfa rfl rfl rfl eh_r29_5 ?_
  refine eg_k_iload rfl rfl ?_
  obtain ⟨b5, hx⟩ := vb_if hx
  refine eg_k_iald (k := 2000) rfl rfl b5.1 b5.2 ?_
  refine eg_k_ci rfl ?_
  refine eg_k_isub rfl ?_
  refine eg_k_istore (lv' := [some (.inr (.inr (some 44))), some (.inl a), some (.inr (.inr (some (1000100 + ((eg_wi r2).toNat))))), some (.inl (eg_wi ((M 34 (a).toNat) - 1))), none, none]) rfl rfl ?_
  refine eg_k_aload rfl rfl ?_
  obtain ⟨b6, hx⟩ := vb_if hx
  refine eg_k_getx rfl (es_en b6).2.1 ?_
  obtain ⟨b7, hx⟩ := vb_if hx
  refine eg_k_call (c1 := 0) (z1 := 0) (as := [.inr (.inr (some (1000200 + ((eg_enm.getD ((eg_wi r2).toNat) ("", 0, 0)).2.2))))]) (rest := []) rfl eg_tj3 (Nat.le_of_ble_eq_true rfl) rfl rfl (es_rc (Nat.le_of_ble_eq_true rfl) b7) (Nat.le_of_ble_eq_true rfl) (Nat.le_refl _) (Nat.le_refl _) ?_ (fun Q hQ => es_3 (Nat.le_of_ble_eq_true rfl) b7 hQ)
  refine eg_k_iload rfl rfl ?_
  refine vk_icmp rfl hx Iff.rfl (fun c8 hx => ?_) (fun c8 hx => ?_)
  · refine eg_k_ci rfl ?_
    refine eg_k_istore (lv' := [some (.inr (.inr (some 44))), some (.inl a), some (.inr (.inr (some (1000100 + ((eg_wi r2).toNat))))), some (.inl (eg_wi ((M 34 (a).toNat) - 1))), some (.inl 0), none]) rfl rfl ?_
    have hz := ft_74_28 (d := d) (sc := sc) hx hK
    exact hz none
  · refine eg_k_aload rfl rfl ?_
    refine eg_k_ci rfl ?_
    refine eg_k_pfi rfl rfl rfl ?_
    have hx := Option.some.inj hx
    subst hx
    exact eg_k_ret rfl rfl (Nat.le_refl _) (Nat.le_refl _) hK
theorem fw_74_28 {cn : Nat} {mo : Nat} {M : eM} {c j : Nat} {v : Int} {x1 : Int} {x2 : Nat} {x3 : Int} {s : Int} {x : eM} (hc : c ∉ ([15, 16, 17, 18, 19, 20, 21, 22, 23, 26, 27, 28, 29, 30, 34, 43, 44] : List Nat)) (hx : lp (fn_74_28 cn mo x1 x2 x3 M) s = some x) (hK : (fun (x : eM) => x c j = v) x) : M c j = v := by
  refine lp_sound (P := (fun (s : Int) => M c j = v)) (K := (fun (x : eM) => x c j = v)) hx hK ?_
  intro s x hx hK
  refine vb_ite hx (fun _ hx => ?_) (fun _ hx => ?_)
  · obtain ⟨r11, h10, hx⟩ := vb_bind hx
    obtain ⟨r14, h13, hx⟩ := vb_bind hx
    obtain ⟨r17, h16, hx⟩ := vb_bind hx
    obtain ⟨r20, h19, hx⟩ := vb_bind hx
    refine vb_ite hx (fun _ hx => ?_) (fun _ hx => ?_)
    · refine vb_ite hx (fun _ hx => ?_) (fun _ hx => ?_)
      · have hx := Option.some.inj hx
        subst hx
        exact ((congrFun (eg_u_ne (vne hc (a := 44) (by decide))) j).trans ((fw_79 h19 (vsub hc (by decide)) j).trans rfl)).symm.trans hK
      · refine vb_ite hx (fun _ hx => ?_) (fun _ hx => ?_)
        · have hx := Option.some.inj hx
          subst hx
          exact ((congrFun (eg_u_ne (vne hc (a := 44) (by decide))) j).trans ((fw_79 h19 (vsub hc (by decide)) j).trans rfl)).symm.trans hK
        · obtain ⟨m27, h25, hx⟩ := vb_bind hx
          have hx := Option.some.inj hx
          subst hx
          exact ((fw_103 h25 (vsub hc (by decide)) j).trans ((congrFun (eg_u_ne (vne hc (a := 44) (by decide))) j).trans ((fw_79 h19 (vsub hc (by decide)) j).trans rfl))).symm.trans hK
    · obtain ⟨_, hx⟩ := vb_if hx
      have hx := Option.some.inj hx
      subst hx
      exact ((congrFun (eg_u_ne (vne hc (a := 30) (by decide))) j).trans ((congrFun (eg_u_ne (vne hc (a := 34) (by decide))) j).trans ((congrFun (eg_u_ne (vne hc (a := 44) (by decide))) j).trans ((fw_79 h19 (vsub hc (by decide)) j).trans rfl)))).symm.trans hK
  · obtain ⟨r31, h30, hx⟩ := vb_bind hx
    obtain ⟨_, hx⟩ := vb_if hx
    obtain ⟨_, hx⟩ := vb_if hx
    obtain ⟨r36, h35, hx⟩ := vb_bind hx
    refine vb_ite hx (fun _ hx => ?_) (fun _ hx => ?_)
    · have hx := Option.some.inj hx
      subst hx
      exact hK
    · have hx := Option.some.inj hx
      subst hx
      exact ((congrFun (eg_u_ne (vne hc (a := 44) (by decide))) j).trans rfl).symm.trans hK
theorem fw_74 {cn : Nat} {mo : Nat} {M : eM} {c : Nat} {a : Int} {x : eM} (hx : fn_74 cn mo a M = some x) (hc : c ∉ ([15, 16, 17, 18, 19, 20, 21, 22, 23, 26, 27, 28, 29, 30, 34, 43, 44] : List Nat)) (j : Nat) : x c j = M c j := by
  obtain ⟨v, hK⟩ : ∃ v, x c j = v := ⟨_, rfl⟩
  rw [hK]
  refine Eq.symm ?_
  obtain ⟨r2, h1, hx⟩ := vb_bind hx
  obtain ⟨_, hx⟩ := vb_if hx
  obtain ⟨_, hx⟩ := vb_if hx
  obtain ⟨_, hx⟩ := vb_if hx
  obtain ⟨_, hx⟩ := vb_if hx
  refine vb_ite hx (fun _ hx => ?_) (fun _ hx => ?_)
  · have hz := fw_74_28 hc hx hK
    exact (Eq.refl _).symm.trans hz
  · have hx := Option.some.inj hx
    subst hx
    exact ((congrFun (eg_u_ne (vne hc (a := 44) (by decide))) j).trans rfl).symm.trans hK
/-- 107: WeakScheme$Machine.takeQuoted(II)J -/
noncomputable def fn_107 (a : Int) (b : Int) (M : eM) : Option (Int × eM) :=
  if 0 ≤ a ∧ a < 20000 then
  if (M 4 (a).toNat) = 25769803776 then
      if 0 ≤ b ∧ b < 32 then
      some (M 36 (b).toNat, eg_u M 36 (b).toNat 4294967298)
      else none
    else
      some (M 4 (a).toNat, M)
  else none
set_option maxRecDepth 100000 in
theorem ft_107 {cn mo : Nat} {sc : eg_Sc} {d : Nat} {M : eM} {Q : Option eg_V → eg_H → Prop} {a : Int} {b : Int} {x : Int × eM} (hx : fn_107 a b M = some x) (hK : Q (some (.inr (.inl ((x).1)))) (em_L cn mo, eh_R, (x).2)) : eg_wp sc (d + 1) 107 [.inr (.inr (some 44)), .inl a, .inl b] (em_L cn mo, eh_R, M) 0 0 Q := by
  refine eg_in (lv := [some (.inr (.inr (some 44))), some (.inl a), some (.inl b), none, none]) eg_tj107 (Nat.le_of_ble_eq_true rfl) rfl ?_
  refine eg_k_aload rfl rfl ?_
  refine eg_k_gfr rfl rfl rfl eh_r44_0 ?_
  refine eg_k_gfa rfl rfl rfl eh_r1_3 ?_
  refine eg_k_iload rfl rfl ?_
  obtain ⟨b1, hx⟩ := vb_if hx
  refine eg_k_lald (k := 20000) rfl rfl b1.1 b1.2 ?_
  refine eg_k_cl rfl ?_
  refine vk_lcmp rfl rfl hx Iff.rfl (fun c2 hx => ?_) (fun c2 hx => ?_)
  · refine eg_k_aload rfl rfl ?_
    refine eg_k_gfr rfl rfl rfl eh_r44_3 ?_
    refine eg_k_gfa rfl rfl rfl eh_r29_7 ?_
    refine eg_k_iload rfl rfl ?_
    obtain ⟨b3, hx⟩ := vb_if hx
    refine eg_k_lald (k := 32) rfl rfl b3.1 b3.2 ?_
    refine eg_k_lstore (lv' := [some (.inr (.inr (some 44))), some (.inl a), some (.inl b), some (.inr (.inl (M 36 (b).toNat))), none]) rfl rfl ?_
    refine eg_k_aload rfl rfl ?_
    refine eg_k_gfr rfl rfl rfl eh_r44_3 ?_
    refine eg_k_gfa rfl rfl rfl eh_r29_7 ?_
    refine eg_k_iload rfl rfl ?_
    refine eg_k_cl rfl ?_
    refine eg_k_last (k := 32) rfl rfl b3.1 b3.2 ?_
    refine eg_k_lload rfl rfl ?_
    have hx := Option.some.inj hx
    subst hx
    exact eg_k_lret rfl rfl (Nat.le_refl _) (Nat.le_refl _) hK
  · refine eg_k_aload rfl rfl ?_
    refine eg_k_gfr rfl rfl rfl eh_r44_0 ?_
    refine eg_k_gfa rfl rfl rfl eh_r1_3 ?_
    refine eg_k_iload rfl rfl ?_
    refine eg_k_lald (k := 20000) rfl rfl b1.1 b1.2 ?_
    have hx := Option.some.inj hx
    subst hx
    exact eg_k_lret rfl rfl (Nat.le_refl _) (Nat.le_refl _) hK
theorem fw_107 {M : eM} {c : Nat} {a : Int} {b : Int} {x : Int × eM} (hx : fn_107 a b M = some x) (hc : c ∉ ([36] : List Nat)) (j : Nat) : ((x).2) c j = M c j := by
  obtain ⟨v, hK⟩ : ∃ v, ((x).2) c j = v := ⟨_, rfl⟩
  rw [hK]
  refine Eq.symm ?_
  obtain ⟨_, hx⟩ := vb_if hx
  refine vb_ite hx (fun _ hx => ?_) (fun _ hx => ?_)
  · obtain ⟨_, hx⟩ := vb_if hx
    have hx := Option.some.inj hx
    subst hx
    exact ((congrFun (eg_u_ne (vne hc (a := 36) (by decide))) j).trans rfl).symm.trans hK
  · have hx := Option.some.inj hx
    subst hx
    exact (Eq.refl _).symm.trans hK
/-- 106: WeakScheme$Machine.makeElement(II)V -/
noncomputable def fn_106 (cn : Nat) (mo : Nat) (a : Int) (b : Int) (M : eM) : Option (eM) :=
  (fn_93 cn mo 1 4 M).bind fun r2 =>
  if r2.1 = 0 then
    some r2.2
  else
    if 0 ≤ b ∧ b < 32 then
    (fn_94 cn mo r2.1 2 (r2.2 36 (b).toNat) r2.2).bind fun m8 =>
      (fn_107 a (eg_wi (b + 1)) m8).bind fun r10 =>
      (fn_94 cn mo r2.1 1 r10.1 r10.2).bind fun m14 =>
      (fn_95 r2.1 m14).bind fun r16 =>
      some (eg_u m14 36 (b).toNat r16)
    else none
set_option maxRecDepth 100000 in
theorem ft_106 {cn mo : Nat} {sc : eg_Sc} {d : Nat} {M : eM} {Q : Option eg_V → eg_H → Prop} {a : Int} {b : Int} {x : eM} (hx : fn_106 cn mo a b M = some x) (hK : Q (none) (em_L cn mo, eh_R, x)) : eg_wp sc (d + 2) 106 [.inr (.inr (some 44)), .inl a, .inl b] (em_L cn mo, eh_R, M) 0 0 Q := by
  refine eg_in (lv := [some (.inr (.inr (some 44))), some (.inl a), some (.inl b), none]) eg_tj106 (Nat.le_of_ble_eq_true rfl) rfl ?_
  refine eg_k_aload rfl rfl ?_
  refine eg_k_gfr rfl rfl rfl eh_r44_1 ?_
  refine eg_k_ci rfl ?_
  refine eg_k_ci rfl ?_
  obtain ⟨r2, h1, hx⟩ := vb_bind hx
  refine eg_k_call (c1 := 0) (z1 := 0) (as := [.inr (.inr (some 15)), .inl 1, .inl 4]) (rest := []) rfl eg_tj93 (Nat.le_of_ble_eq_true rfl) rfl rfl rfl (Nat.le_of_ble_eq_true rfl) (Nat.le_refl _) (Nat.le_refl _) ?_ (fun Q hQ => ft_93 h1 hQ)
  refine eg_k_istore (lv' := [some (.inr (.inr (some 44))), some (.inl a), some (.inl b), some (.inl r2.1)]) rfl rfl ?_
  refine eg_k_iload rfl rfl ?_
  refine vk_if rfl hx Iff.rfl (fun c4 hx => ?_) (fun c4 hx => ?_)
  · have hx := Option.some.inj hx
    subst hx
    exact eg_k_ret rfl rfl (Nat.le_refl _) (Nat.le_refl _) hK
  · refine eg_k_aload rfl rfl ?_
    refine eg_k_gfr rfl rfl rfl eh_r44_1 ?_
    refine eg_k_iload rfl rfl ?_
    refine eg_k_ci rfl ?_
    refine eg_k_aload rfl rfl ?_
    refine eg_k_gfr rfl rfl rfl eh_r44_3 ?_
    refine eg_k_gfa rfl rfl rfl eh_r29_7 ?_
    refine eg_k_iload rfl rfl ?_
    obtain ⟨b5, hx⟩ := vb_if hx
    refine eg_k_lald (k := 32) rfl rfl b5.1 b5.2 ?_
    obtain ⟨m8, h6, hx⟩ := vb_bind hx
    refine eg_k_call (c1 := 0) (z1 := 0) (as := [.inr (.inr (some 15)), .inl r2.1, .inl 2, .inr (.inl (r2.2 36 (b).toNat))]) (rest := []) rfl eg_tj94 (Nat.le_of_ble_eq_true rfl) rfl rfl rfl (Nat.le_of_ble_eq_true rfl) (Nat.le_refl _) (Nat.le_refl _) ?_ (fun Q hQ => ft_94 h6 hQ)
    refine eg_k_aload rfl rfl ?_
    refine eg_k_gfr rfl rfl rfl eh_r44_1 ?_
    refine eg_k_iload rfl rfl ?_
    refine eg_k_ci rfl ?_
    refine eg_k_aload rfl rfl ?_
    refine eg_k_iload rfl rfl ?_
    refine eg_k_iload rfl rfl ?_
    refine eg_k_ci rfl ?_
    refine eg_k_iadd rfl ?_
    obtain ⟨r10, h9, hx⟩ := vb_bind hx
    refine eg_k_call (c1 := 0) (z1 := 0) (as := [.inr (.inr (some 44)), .inl a, .inl (eg_wi (b + 1))]) (rest := [.inl 1, .inl r2.1, .inr (.inr (some 15))]) rfl eg_tj107 (Nat.le_of_ble_eq_true rfl) rfl rfl rfl (Nat.le_of_ble_eq_true rfl) (Nat.le_refl _) (Nat.le_refl _) ?_ (fun Q hQ => ft_107 h9 hQ)
    obtain ⟨m14, h12, hx⟩ := vb_bind hx
    refine eg_k_call (c1 := 0) (z1 := 0) (as := [.inr (.inr (some 15)), .inl r2.1, .inl 1, .inr (.inl r10.1)]) (rest := []) rfl eg_tj94 (Nat.le_of_ble_eq_true rfl) rfl rfl rfl (Nat.le_of_ble_eq_true rfl) (Nat.le_refl _) (Nat.le_refl _) ?_ (fun Q hQ => ft_94 h12 hQ)
    refine eg_k_aload rfl rfl ?_
    refine eg_k_gfr rfl rfl rfl eh_r44_3 ?_
    refine eg_k_gfa rfl rfl rfl eh_r29_7 ?_
    refine eg_k_iload rfl rfl ?_
    refine eg_k_iload rfl rfl ?_
    obtain ⟨r16, h15, hx⟩ := vb_bind hx
    refine eg_k_call (c1 := 0) (z1 := 0) (as := [.inl r2.1]) (rest := [.inl b, .inr (.inr (some 36))]) rfl eg_tj95 (Nat.le_of_ble_eq_true rfl) rfl rfl trivial (Nat.le_of_ble_eq_true rfl) (Nat.le_refl _) (Nat.le_refl _) ?_ (fun Q hQ => ft_95 h15 hQ)
    refine eg_k_last (k := 32) rfl rfl b5.1 b5.2 ?_
    have hx := Option.some.inj hx
    subst hx
    exact eg_k_ret rfl rfl (Nat.le_refl _) (Nat.le_refl _) hK
theorem fw_106 {cn : Nat} {mo : Nat} {M : eM} {c : Nat} {a : Int} {b : Int} {x : eM} (hx : fn_106 cn mo a b M = some x) (hc : c ∉ ([15, 16, 17, 18, 19, 20, 36] : List Nat)) (j : Nat) : x c j = M c j := by
  obtain ⟨v, hK⟩ : ∃ v, x c j = v := ⟨_, rfl⟩
  rw [hK]
  refine Eq.symm ?_
  obtain ⟨r2, h1, hx⟩ := vb_bind hx
  refine vb_ite hx (fun _ hx => ?_) (fun _ hx => ?_)
  · have hx := Option.some.inj hx
    subst hx
    exact ((fw_93 h1 (vsub hc (by decide)) j).trans rfl).symm.trans hK
  · obtain ⟨_, hx⟩ := vb_if hx
    obtain ⟨m8, h6, hx⟩ := vb_bind hx
    obtain ⟨r10, h9, hx⟩ := vb_bind hx
    obtain ⟨m14, h12, hx⟩ := vb_bind hx
    obtain ⟨r16, h15, hx⟩ := vb_bind hx
    have hx := Option.some.inj hx
    subst hx
    exact ((congrFun (eg_u_ne (vne hc (a := 36) (by decide))) j).trans ((fw_94 h12 (vsub hc (by decide)) j).trans ((fw_107 h9 (vsub hc (by decide)) j).trans ((fw_94 h6 (vsub hc (by decide)) j).trans ((fw_93 h1 (vsub hc (by decide)) j).trans rfl))))).symm.trans hK
noncomputable def fn_105_16 (cn : Nat) (mo : Nat) (x1 : Int) (x2 : Int) (s1 : Int) (s2 : eM) : Option ((Int × eM) ⊕ (eM)) :=
  if s1 ≤ x2 then
    (fn_107 x2 1 s2).bind fun r5 =>
    (fn_103 r5.1 r5.2).bind fun m9 =>
    some (.inr m9)
  else
    if 0 ≤ s1 ∧ s1 < 20000 then
    if 0 ≤ x2 ∧ x2 < 20000 then
      (fn_106 cn mo s1 (eg_wi ((s2 6 (s1).toNat) - (s2 6 (x2).toNat))) s2).bind fun m14 =>
        if (m14 15 11) = 0 then
          if 0 ≤ x1 ∧ x1 < 2000 then
          some (.inl (eg_wi (s1 + (-1)), eg_u m14 32 (x1).toNat s1))
          else none
        else
          some (.inr m14)
      else none
    else none
/-- 105: WeakScheme$Machine.quote(I)V -/
noncomputable def fn_105 (cn : Nat) (mo : Nat) (a : Int) (M : eM) : Option (eM) :=
  if 0 ≤ a ∧ a < 2000 then
  lp (fun z => fn_105_16 cn mo a (eg_wi ((M 31 (a).toNat) + 2)) z.1 z.2) (eg_wi ((M 32 (a).toNat) - 1), M)
  else none
set_option maxRecDepth 100000 in
theorem ft_105_16 {cn mo : Nat} {sc : eg_Sc} {d : Nat} {Q : Option eg_V → eg_H → Prop} {x1 : Int} {x2 : Int} {s : Int × eM} {x : eM} (hx : lp (fun z => fn_105_16 cn mo x1 x2 z.1 z.2) s = some x) (hK : (fun (x : eM) => Q (none) (em_L cn mo, eh_R, x)) x) : eg_X sc (eg_wp sc (d + 2)) eg_p105 none 0 0 Q 16 [some (.inr (.inr (some 44))), some (.inl x1), some (.inl x2), some (.inl s.1)] [] (em_L cn mo, eh_R, s.2) 0 0 := by
  refine lp_sound (P := (fun (s : Int × eM) => eg_X sc (eg_wp sc (d + 2)) eg_p105 none 0 0 Q 16 [some (.inr (.inr (some 44))), some (.inl x1), some (.inl x2), some (.inl s.1)] [] (em_L cn mo, eh_R, s.2) 0 0)) (K := (fun (x : eM) => Q (none) (em_L cn mo, eh_R, x))) hx hK ?_
  intro s x hx hK
  obtain ⟨s1, s2⟩ := s
  refine eg_k_iload rfl rfl ?_
  refine eg_k_iload rfl rfl ?_
  refine vk_icmp rfl hx Iff.rfl (fun c3 hx => ?_) (fun c3 hx => ?_)
  · refine eg_k_aload rfl rfl ?_
    refine eg_k_aload rfl rfl ?_
    refine eg_k_iload rfl rfl ?_
    refine eg_k_ci rfl ?_
    obtain ⟨r5, h4, hx⟩ := vb_bind hx
    refine eg_k_call (c1 := 0) (z1 := 0) (as := [.inr (.inr (some 44)), .inl x2, .inl 1]) (rest := [.inr (.inr (some 44))]) rfl eg_tj107 (Nat.le_of_ble_eq_true rfl) rfl rfl rfl (Nat.le_of_ble_eq_true rfl) (Nat.le_refl _) (Nat.le_refl _) ?_ (fun Q hQ => ft_107 h4 hQ)
    obtain ⟨m9, h7, hx⟩ := vb_bind hx
    refine eg_k_call (c1 := 0) (z1 := 0) (as := [.inr (.inr (some 44)), .inr (.inl r5.1)]) (rest := []) rfl eg_tj103 (Nat.le_of_ble_eq_true rfl) rfl rfl rfl (Nat.le_of_ble_eq_true rfl) (Nat.le_refl _) (Nat.le_refl _) ?_ (fun Q hQ => ft_103 h7 hQ)
    have hx := Option.some.inj hx
    subst hx
    exact eg_k_ret rfl rfl (Nat.le_refl _) (Nat.le_refl _) hK
  · refine eg_k_aload rfl rfl ?_
    refine eg_k_iload rfl rfl ?_
    refine eg_k_aload rfl rfl ?_
    refine eg_k_gfr rfl rfl rfl eh_r44_0 ?_
    refine eg_k_gfa rfl rfl rfl eh_r1_5 ?_
    refine eg_k_iload rfl rfl ?_
    obtain ⟨b10, hx⟩ := vb_if hx
    refine eg_k_bald (k := 20000) rfl rfl b10.1 b10.2 ?_
    refine eg_k_aload rfl rfl ?_
    refine eg_k_gfr rfl rfl rfl eh_r44_0 ?_
    refine eg_k_gfa rfl rfl rfl eh_r1_5 ?_
    refine eg_k_iload rfl rfl ?_
    obtain ⟨b11, hx⟩ := vb_if hx
    refine eg_k_bald (k := 20000) rfl rfl b11.1 b11.2 ?_
    refine eg_k_isub rfl ?_
    obtain ⟨m14, h12, hx⟩ := vb_bind hx
    refine eg_k_call (c1 := 0) (z1 := 0) (as := [.inr (.inr (some 44)), .inl s1, .inl (eg_wi ((s2 6 (s1).toNat) - (s2 6 (x2).toNat)))]) (rest := []) rfl eg_tj106 (Nat.le_of_ble_eq_true rfl) rfl rfl rfl (Nat.le_of_ble_eq_true rfl) (Nat.le_refl _) (Nat.le_refl _) ?_ (fun Q hQ => ft_106 h12 hQ)
    refine eg_k_aload rfl rfl ?_
    refine eg_k_gfr rfl rfl rfl eh_r44_1 ?_
    refine eg_k_gfz rfl rfl rfl ?_
    refine vk_if rfl hx Iff.rfl (fun c15 hx => ?_) (fun c15 hx => ?_)
    · refine eg_k_aload rfl rfl ?_
      refine eg_k_gfr rfl rfl rfl eh_r44_3 ?_
      refine eg_k_gfa rfl rfl rfl eh_r29_3 ?_
      refine eg_k_iload rfl rfl ?_
      refine eg_k_iload rfl rfl ?_
      obtain ⟨b16, hx⟩ := vb_if hx
      refine eg_k_iast (k := 2000) rfl rfl b16.1 b16.2 ?_
      refine eg_k_iinc (lv' := [some (.inr (.inr (some 44))), some (.inl x1), some (.inl x2), some (.inl (eg_wi (s1 + (-1))))]) rfl rfl rfl ?_
      refine eg_k_goto rfl ?_
      have hx := Option.some.inj hx
      subst hx
      exact hK
    · have hx := Option.some.inj hx
      subst hx
      exact eg_k_ret rfl rfl (Nat.le_refl _) (Nat.le_refl _) hK
set_option maxRecDepth 100000 in
theorem ft_105 {cn mo : Nat} {sc : eg_Sc} {d : Nat} {M : eM} {Q : Option eg_V → eg_H → Prop} {a : Int} {x : eM} (hx : fn_105 cn mo a M = some x) (hK : Q (none) (em_L cn mo, eh_R, x)) : eg_wp sc (d + 3) 105 [.inr (.inr (some 44)), .inl a] (em_L cn mo, eh_R, M) 0 0 Q := by
  refine eg_in (lv := [some (.inr (.inr (some 44))), some (.inl a), none, none]) eg_tj105 (Nat.le_of_ble_eq_true rfl) rfl ?_
  refine eg_k_aload rfl rfl ?_
  refine eg_k_gfr rfl rfl rfl eh_r44_3 ?_
  refine eg_k_gfa rfl rfl rfl eh_r29_2 ?_
  refine eg_k_iload rfl rfl ?_
  obtain ⟨b1, hx⟩ := vb_if hx
  refine eg_k_iald (k := 2000) rfl rfl b1.1 b1.2 ?_
  refine eg_k_ci rfl ?_
  refine eg_k_iadd rfl ?_
  refine eg_k_istore (lv' := [some (.inr (.inr (some 44))), some (.inl a), some (.inl (eg_wi ((M 31 (a).toNat) + 2))), none]) rfl rfl ?_
  refine eg_k_aload rfl rfl ?_
  refine eg_k_gfr rfl rfl rfl eh_r44_3 ?_
  refine eg_k_gfa rfl rfl rfl eh_r29_3 ?_
  refine eg_k_iload rfl rfl ?_
  refine eg_k_iald (k := 2000) rfl rfl b1.1 b1.2 ?_
  refine eg_k_ci rfl ?_
  refine eg_k_isub rfl ?_
  refine eg_k_istore (lv' := [some (.inr (.inr (some 44))), some (.inl a), some (.inl (eg_wi ((M 31 (a).toNat) + 2))), some (.inl (eg_wi ((M 32 (a).toNat) - 1)))]) rfl rfl ?_
  have hz := ft_105_16 (d := d) (sc := sc) hx hK
  exact hz
theorem fw_105_16 {cn : Nat} {mo : Nat} {c j : Nat} {v : Int} {x1 : Int} {x2 : Int} {s : Int × eM} {x : eM} (hc : c ∉ ([15, 16, 17, 18, 19, 20, 29, 32, 36, 44] : List Nat)) (hx : lp (fun z => fn_105_16 cn mo x1 x2 z.1 z.2) s = some x) (hK : (fun (x : eM) => x c j = v) x) : s.2 c j = v := by
  refine lp_sound (P := (fun (s : Int × eM) => s.2 c j = v)) (K := (fun (x : eM) => x c j = v)) hx hK ?_
  intro s x hx hK
  obtain ⟨s1, s2⟩ := s
  refine vb_ite hx (fun _ hx => ?_) (fun _ hx => ?_)
  · obtain ⟨r5, h4, hx⟩ := vb_bind hx
    obtain ⟨m9, h7, hx⟩ := vb_bind hx
    have hx := Option.some.inj hx
    subst hx
    exact ((fw_103 h7 (vsub hc (by decide)) j).trans ((fw_107 h4 (vsub hc (by decide)) j).trans rfl)).symm.trans hK
  · obtain ⟨_, hx⟩ := vb_if hx
    obtain ⟨_, hx⟩ := vb_if hx
    obtain ⟨m14, h12, hx⟩ := vb_bind hx
    refine vb_ite hx (fun _ hx => ?_) (fun _ hx => ?_)
    · obtain ⟨_, hx⟩ := vb_if hx
      have hx := Option.some.inj hx
      subst hx
      exact ((congrFun (eg_u_ne (vne hc (a := 32) (by decide))) j).trans ((fw_106 h12 (vsub hc (by decide)) j).trans rfl)).symm.trans hK
    · have hx := Option.some.inj hx
      subst hx
      exact ((fw_106 h12 (vsub hc (by decide)) j).trans rfl).symm.trans hK
theorem fw_105 {cn : Nat} {mo : Nat} {M : eM} {c : Nat} {a : Int} {x : eM} (hx : fn_105 cn mo a M = some x) (hc : c ∉ ([15, 16, 17, 18, 19, 20, 29, 32, 36, 44] : List Nat)) (j : Nat) : x c j = M c j := by
  obtain ⟨v, hK⟩ : ∃ v, x c j = v := ⟨_, rfl⟩
  rw [hK]
  refine Eq.symm ?_
  obtain ⟨_, hx⟩ := vb_if hx
  have hz := fw_105_16 hc hx hK
  exact (Eq.refl _).symm.trans hz
/-- 109: WeakScheme$Machine.end()V -/
noncomputable def fn_109 (M : eM) : Option (eM) :=
  some (eg_u M 29 0 (eg_wi ((M 29 0) - 1)))
set_option maxRecDepth 100000 in
theorem ft_109 {cn mo : Nat} {sc : eg_Sc} {d : Nat} {M : eM} {Q : Option eg_V → eg_H → Prop} {x : eM} (hx : fn_109 M = some x) (hK : Q (none) (em_L cn mo, eh_R, x)) : eg_wp sc (d + 1) 109 [.inr (.inr (some 44))] (em_L cn mo, eh_R, M) 0 0 Q := by
  refine eg_in (lv := [some (.inr (.inr (some 44)))]) eg_tj109 (Nat.le_of_ble_eq_true rfl) rfl ?_
  refine eg_k_aload rfl rfl ?_
  refine eg_k_gfr rfl rfl rfl eh_r44_3 ?_
  refine eg_k_dupr rfl ?_
  refine eg_k_gfi rfl rfl rfl ?_
  refine eg_k_ci rfl ?_
  refine eg_k_isub rfl ?_
  refine eg_k_pfi rfl rfl rfl ?_
  have hx := Option.some.inj hx
  subst hx
  exact eg_k_ret rfl rfl (Nat.le_refl _) (Nat.le_refl _) hK
theorem fw_109 {M : eM} {c : Nat} {x : eM} (hx : fn_109 M = some x) (hc : c ∉ ([29] : List Nat)) (j : Nat) : x c j = M c j := by
  obtain ⟨v, hK⟩ : ∃ v, x c j = v := ⟨_, rfl⟩
  rw [hK]
  refine Eq.symm ?_
  have hx := Option.some.inj hx
  subst hx
  exact ((congrFun (eg_u_ne (vne hc (a := 29) (by decide))) j).trans rfl).symm.trans hK
/-- 112: WeakScheme$Machine.aheadOfFirst(II)I -/
noncomputable def fn_112 (a : Int) (b : Int) (M : eM) : Option (Int) :=
  if a = 0 then
    if 0 ≤ b ∧ b < 20000 then
    some (M 5 (b).toNat)
    else none
  else if a = 5 then
    some (eg_wi (b + 2))
  else if a = 10 then
    some b
  else 
    some (eg_wi (b + 1))
set_option maxRecDepth 100000 in
theorem ft_112 {cn mo : Nat} {sc : eg_Sc} {d : Nat} {M : eM} {Q : Option eg_V → eg_H → Prop} {a : Int} {b : Int} {x : Int} (hx : fn_112 a b M = some x) (hK : Q (some (.inl x)) (em_L cn mo, eh_R, M)) : eg_wp sc (d + 1) 112 [.inr (.inr (some 44)), .inl a, .inl b] (em_L cn mo, eh_R, M) 0 0 Q := by
  refine eg_in (lv := [some (.inr (.inr (some 44))), some (.inl a), some (.inl b)]) eg_tj112 (Nat.le_of_ble_eq_true rfl) rfl ?_
  refine eg_k_iload rfl rfl ?_
  refine vb_ite hx (fun e9 hx => ?_) (fun e9 hx => ?_)
  · refine eg_k_lookup (x := a) (k := 8) rfl (by rw [e9]; rfl) ?_
    refine eg_k_aload rfl rfl ?_
    refine eg_k_gfr rfl rfl rfl eh_r44_0 ?_
    refine eg_k_gfa rfl rfl rfl eh_r1_4 ?_
    refine eg_k_iload rfl rfl ?_
    obtain ⟨b1, hx⟩ := vb_if hx
    refine eg_k_iald (k := 20000) rfl rfl b1.1 b1.2 ?_
    have hx := Option.some.inj hx
    subst hx
    exact eg_k_iret rfl True.intro (Nat.le_refl _) (Nat.le_refl _) hK
  have e0_ := e9
  refine vb_ite hx (fun e9 hx => ?_) (fun e9 hx => ?_)
  · refine eg_k_lookup (x := a) (k := 4) rfl (by rw [e9]; rfl) ?_
    refine eg_k_iload rfl rfl ?_
    refine eg_k_ci rfl ?_
    refine eg_k_iadd rfl ?_
    have hx := Option.some.inj hx
    subst hx
    exact eg_k_iret rfl True.intro (Nat.le_refl _) (Nat.le_refl _) hK
  have e5_ := e9
  refine vb_ite hx (fun e9 hx => ?_) (fun e9 hx => ?_)
  · refine eg_k_lookup (x := a) (k := 2) rfl (by rw [e9]; rfl) ?_
    refine eg_k_iload rfl rfl ?_
    have hx := Option.some.inj hx
    subst hx
    exact eg_k_iret rfl True.intro (Nat.le_refl _) (Nat.le_refl _) hK
  have e10_ := e9
  refine eg_k_lookup (x := a) (k := 14) rfl (by simp only [eg_lt, *, if_false]; rfl) ?_
  refine eg_k_iload rfl rfl ?_
  refine eg_k_ci rfl ?_
  refine eg_k_iadd rfl ?_
  have hx := Option.some.inj hx
  subst hx
  exact eg_k_iret rfl True.intro (Nat.le_refl _) (Nat.le_refl _) hK
/-- 114: WeakScheme$Held.push(IIII)Z -/
noncomputable def fn_114 (a : Int) (b : Int) (e : Int) (f : Int) (M : eM) : Option (Int × eM) :=
  if (eg_wi ((M 29 0) + 1)) < 2000 then
    if 0 ≤ (eg_wi ((M 29 0) + 1)) ∧ (eg_wi ((M 29 0) + 1)) < 2000 then
    some (1, eg_u (eg_u (eg_u (eg_u (eg_u (eg_u M 29 0 (eg_wi ((M 29 0) + 1))) 30 (eg_wi ((M 29 0) + 1)).toNat a) 31 (eg_wi ((M 29 0) + 1)).toNat b) 32 (eg_wi ((M 29 0) + 1)).toNat e) 33 (eg_wi ((M 29 0) + 1)).toNat f) 34 (eg_wi ((M 29 0) + 1)).toNat 0)
    else none
  else
    some (0, M)
set_option maxRecDepth 100000 in
theorem ft_114 {cn mo : Nat} {sc : eg_Sc} {d : Nat} {M : eM} {Q : Option eg_V → eg_H → Prop} {a : Int} {b : Int} {e : Int} {f : Int} {x : Int × eM} (hx : fn_114 a b e f M = some x) (hK : Q (some (.inl ((x).1))) (em_L cn mo, eh_R, (x).2)) : eg_wp sc (d + 1) 114 [.inr (.inr (some 29)), .inl a, .inl b, .inl e, .inl f] (em_L cn mo, eh_R, M) 0 0 Q := by
  refine eg_in (lv := [some (.inr (.inr (some 29))), some (.inl a), some (.inl b), some (.inl e), some (.inl f)]) eg_tj114 (Nat.le_of_ble_eq_true rfl) rfl ?_
  refine eg_k_aload rfl rfl ?_
  refine eg_k_gfi rfl rfl rfl ?_
  refine eg_k_ci rfl ?_
  refine eg_k_iadd rfl ?_
  refine eg_k_ci rfl ?_
  refine vk_icmp rfl hx Iff.rfl (fun c1 hx => ?_) (fun c1 hx => ?_)
  · refine eg_k_aload rfl rfl ?_
    refine eg_k_dupr rfl ?_
    refine eg_k_gfi rfl rfl rfl ?_
    refine eg_k_ci rfl ?_
    refine eg_k_iadd rfl ?_
    refine eg_k_pfi rfl rfl rfl ?_
    refine eg_k_aload rfl rfl ?_
    refine eg_k_gfa rfl rfl rfl eh_r29_1 ?_
    refine eg_k_aload rfl rfl ?_
    refine eg_k_gfie (x := eg_wi ((M 29 0) + 1)) rfl rfl rfl rfl ?_
    refine eg_k_iload rfl rfl ?_
    obtain ⟨b2, hx⟩ := vb_if hx
    refine eg_k_iast (k := 2000) rfl rfl b2.1 b2.2 ?_
    refine eg_k_aload rfl rfl ?_
    refine eg_k_gfa rfl rfl rfl eh_r29_2 ?_
    refine eg_k_aload rfl rfl ?_
    refine eg_k_gfie (x := eg_wi ((M 29 0) + 1)) rfl rfl rfl rfl ?_
    refine eg_k_iload rfl rfl ?_
    refine eg_k_iast (k := 2000) rfl rfl b2.1 b2.2 ?_
    refine eg_k_aload rfl rfl ?_
    refine eg_k_gfa rfl rfl rfl eh_r29_3 ?_
    refine eg_k_aload rfl rfl ?_
    refine eg_k_gfie (x := eg_wi ((M 29 0) + 1)) rfl rfl rfl rfl ?_
    refine eg_k_iload rfl rfl ?_
    refine eg_k_iast (k := 2000) rfl rfl b2.1 b2.2 ?_
    refine eg_k_aload rfl rfl ?_
    refine eg_k_gfa rfl rfl rfl eh_r29_4 ?_
    refine eg_k_aload rfl rfl ?_
    refine eg_k_gfie (x := eg_wi ((M 29 0) + 1)) rfl rfl rfl rfl ?_
    refine eg_k_iload rfl rfl ?_
    refine eg_k_iast (k := 2000) rfl rfl b2.1 b2.2 ?_
    refine eg_k_aload rfl rfl ?_
    refine eg_k_gfa rfl rfl rfl eh_r29_5 ?_
    refine eg_k_aload rfl rfl ?_
    refine eg_k_gfie (x := eg_wi ((M 29 0) + 1)) rfl rfl rfl rfl ?_
    refine eg_k_ci rfl ?_
    refine eg_k_iast (k := 2000) rfl rfl b2.1 b2.2 ?_
    refine eg_k_ci rfl ?_
    have hx := Option.some.inj hx
    subst hx
    exact eg_k_iret rfl (Or.inr rfl) (Nat.le_refl _) (Nat.le_refl _) hK
  · refine eg_k_ci rfl ?_
    have hx := Option.some.inj hx
    subst hx
    exact eg_k_iret rfl (Or.inl rfl) (Nat.le_refl _) (Nat.le_refl _) hK
theorem fw_114 {M : eM} {c : Nat} {a : Int} {b : Int} {e : Int} {f : Int} {x : Int × eM} (hx : fn_114 a b e f M = some x) (hc : c ∉ ([29, 30, 31, 32, 33, 34] : List Nat)) (j : Nat) : ((x).2) c j = M c j := by
  obtain ⟨v, hK⟩ : ∃ v, ((x).2) c j = v := ⟨_, rfl⟩
  rw [hK]
  refine Eq.symm ?_
  refine vb_ite hx (fun _ hx => ?_) (fun _ hx => ?_)
  · obtain ⟨_, hx⟩ := vb_if hx
    have hx := Option.some.inj hx
    subst hx
    exact ((congrFun (eg_u_ne (vne hc (a := 34) (by decide))) j).trans ((congrFun (eg_u_ne (vne hc (a := 33) (by decide))) j).trans ((congrFun (eg_u_ne (vne hc (a := 32) (by decide))) j).trans ((congrFun (eg_u_ne (vne hc (a := 31) (by decide))) j).trans ((congrFun (eg_u_ne (vne hc (a := 30) (by decide))) j).trans ((congrFun (eg_u_ne (vne hc (a := 29) (by decide))) j).trans rfl)))))).symm.trans hK
  · have hx := Option.some.inj hx
    subst hx
    exact (Eq.refl _).symm.trans hK
/-- 113: WeakScheme$Machine.begin(IIII)V -/
noncomputable def fn_113 (a : Int) (b : Int) (e : Int) (f : Int) (M : eM) : Option (eM) :=
  (fn_114 a b e f M).bind fun r2 =>
  if ¬ r2.1 = 0 then
    some r2.2
  else
    some (eg_u r2.2 44 8 8)
set_option maxRecDepth 100000 in
theorem ft_113 {cn mo : Nat} {sc : eg_Sc} {d : Nat} {M : eM} {Q : Option eg_V → eg_H → Prop} {a : Int} {b : Int} {e : Int} {f : Int} {x : eM} (hx : fn_113 a b e f M = some x) (hK : Q (none) (em_L cn mo, eh_R, x)) : eg_wp sc (d + 2) 113 [.inr (.inr (some 44)), .inl a, .inl b, .inl e, .inl f] (em_L cn mo, eh_R, M) 0 0 Q := by
  refine eg_in (lv := [some (.inr (.inr (some 44))), some (.inl a), some (.inl b), some (.inl e), some (.inl f)]) eg_tj113 (Nat.le_of_ble_eq_true rfl) rfl ?_
  refine eg_k_aload rfl rfl ?_
  refine eg_k_gfr rfl rfl rfl eh_r44_3 ?_
  refine eg_k_iload rfl rfl ?_
  refine eg_k_iload rfl rfl ?_
  refine eg_k_iload rfl rfl ?_
  refine eg_k_iload rfl rfl ?_
  obtain ⟨r2, h1, hx⟩ := vb_bind hx
  refine eg_k_call (c1 := 0) (z1 := 0) (as := [.inr (.inr (some 29)), .inl a, .inl b, .inl e, .inl f]) (rest := []) rfl eg_tj114 (Nat.le_of_ble_eq_true rfl) rfl rfl rfl (Nat.le_of_ble_eq_true rfl) (Nat.le_refl _) (Nat.le_refl _) ?_ (fun Q hQ => ft_114 h1 hQ)
  refine vk_if rfl hx Iff.rfl (fun c4 hx => ?_) (fun c4 hx => ?_)
  · have hx := Option.some.inj hx
    subst hx
    exact eg_k_ret rfl rfl (Nat.le_refl _) (Nat.le_refl _) hK
  · refine eg_k_aload rfl rfl ?_
    refine eg_k_ci rfl ?_
    refine eg_k_pfi rfl rfl rfl ?_
    have hx := Option.some.inj hx
    subst hx
    exact eg_k_ret rfl rfl (Nat.le_refl _) (Nat.le_refl _) hK
theorem fw_113 {M : eM} {c : Nat} {a : Int} {b : Int} {e : Int} {f : Int} {x : eM} (hx : fn_113 a b e f M = some x) (hc : c ∉ ([29, 30, 31, 32, 33, 34, 44] : List Nat)) (j : Nat) : x c j = M c j := by
  obtain ⟨v, hK⟩ : ∃ v, x c j = v := ⟨_, rfl⟩
  rw [hK]
  refine Eq.symm ?_
  obtain ⟨r2, h1, hx⟩ := vb_bind hx
  refine vb_ite hx (fun _ hx => ?_) (fun _ hx => ?_)
  · have hx := Option.some.inj hx
    subst hx
    exact ((fw_114 h1 (vsub hc (by decide)) j).trans rfl).symm.trans hK
  · have hx := Option.some.inj hx
    subst hx
    exact ((congrFun (eg_u_ne (vne hc (a := 44) (by decide))) j).trans ((fw_114 h1 (vsub hc (by decide)) j).trans rfl)).symm.trans hK
noncomputable def fn_115_2 (cn : Nat) (mo : Nat) (x1 : Int) (x2 : Int) (M : eM) (s : Int) : Option ((Int) ⊕ (Int)) :=
  if s = 0 then
    some (.inr (-1))
  else
    (fn_78 cn mo s 1 M).bind fun r3 =>
    if 0 ≤ x1 ∧ x1 < 20000 then
    (fn_67 (eg_wi r3) (M 4 (x1).toNat) M).bind fun r7 =>
      if r7 < 0 then
        (fn_78 cn mo s 2 M).bind fun r11 =>
        some (.inl (eg_wi r11))
      else
        some (.inr (eg_wi ((eg_wi (s * 8)) + r7)))
    else none
/-- 115: WeakScheme$Machine.find(II)I -/
noncomputable def fn_115 (cn : Nat) (mo : Nat) (a : Int) (b : Int) (M : eM) : Option (Int) :=
  lp (fn_115_2 cn mo a b M) b
set_option maxRecDepth 100000 in
theorem ft_115_2 {cn mo : Nat} {sc : eg_Sc} {d : Nat} {M : eM} {Q : Option eg_V → eg_H → Prop} {x1 : Int} {x2 : Int} {s : Int} {x : Int} (hx : lp (fn_115_2 cn mo x1 x2 M) s = some x) (hK : (fun (x : Int) => Q (some (.inl x)) (em_L cn mo, eh_R, M)) x) : ∀ (w4 : Option eg_V), eg_X sc (eg_wp sc (d + 1)) eg_p115 (some .int) 0 0 Q 2 [some (.inr (.inr (some 44))), some (.inl x1), some (.inl x2), some (.inl s), w4] [] (em_L cn mo, eh_R, M) 0 0 := by
  refine lp_sound (P := (fun (s : Int) => ∀ (w4 : Option eg_V), eg_X sc (eg_wp sc (d + 1)) eg_p115 (some .int) 0 0 Q 2 [some (.inr (.inr (some 44))), some (.inl x1), some (.inl x2), some (.inl s), w4] [] (em_L cn mo, eh_R, M) 0 0)) (K := (fun (x : Int) => Q (some (.inl x)) (em_L cn mo, eh_R, M))) hx hK ?_
  intro s x hx hK w4
  refine eg_k_iload rfl rfl ?_
  refine vk_if rfl hx Iff.rfl (fun c1 hx => ?_) (fun c1 hx => ?_)
  · refine eg_k_ci rfl ?_
    have hx := Option.some.inj hx
    subst hx
    exact eg_k_iret rfl True.intro (Nat.le_refl _) (Nat.le_refl _) hK
  · refine eg_k_aload rfl rfl ?_
    refine eg_k_gfr rfl rfl rfl eh_r44_0 ?_
    refine eg_k_aload rfl rfl ?_
    refine eg_k_gfr rfl rfl rfl eh_r44_1 ?_
    refine eg_k_iload rfl rfl ?_
    refine eg_k_ci rfl ?_
    obtain ⟨r3, h2, hx⟩ := vb_bind hx
    refine eg_k_call (c1 := 0) (z1 := 0) (as := [.inr (.inr (some 15)), .inl s, .inl 1]) (rest := [.inr (.inr (some 1))]) rfl eg_tj78 (Nat.le_of_ble_eq_true rfl) rfl rfl rfl (Nat.le_of_ble_eq_true rfl) (Nat.le_refl _) (Nat.le_refl _) ?_ (fun Q hQ => ft_78 h2 hQ)
    refine eg_k_l2i rfl ?_
    refine eg_k_aload rfl rfl ?_
    refine eg_k_gfr rfl rfl rfl eh_r44_0 ?_
    refine eg_k_gfa rfl rfl rfl eh_r1_3 ?_
    refine eg_k_iload rfl rfl ?_
    obtain ⟨b5, hx⟩ := vb_if hx
    refine eg_k_lald (k := 20000) rfl rfl b5.1 b5.2 ?_
    obtain ⟨r7, h6, hx⟩ := vb_bind hx
    refine eg_k_call (c1 := 0) (z1 := 0) (as := [.inr (.inr (some 1)), .inl (eg_wi r3), .inr (.inl (M 4 (x1).toNat))]) (rest := []) rfl eg_tj67 (Nat.le_of_ble_eq_true rfl) rfl rfl rfl (Nat.le_of_ble_eq_true rfl) (Nat.le_refl _) (Nat.le_refl _) ?_ (fun Q hQ => ft_67 h6 hQ)
    refine eg_k_istore (lv' := [some (.inr (.inr (some 44))), some (.inl x1), some (.inl x2), some (.inl s), some (.inl r7)]) rfl rfl ?_
    refine eg_k_iload rfl rfl ?_
    refine vk_if rfl hx Iff.rfl (fun c9 hx => ?_) (fun c9 hx => ?_)
    · refine eg_k_aload rfl rfl ?_
      refine eg_k_gfr rfl rfl rfl eh_r44_1 ?_
      refine eg_k_iload rfl rfl ?_
      refine eg_k_ci rfl ?_
      obtain ⟨r11, h10, hx⟩ := vb_bind hx
      refine eg_k_call (c1 := 0) (z1 := 0) (as := [.inr (.inr (some 15)), .inl s, .inl 2]) (rest := []) rfl eg_tj78 (Nat.le_of_ble_eq_true rfl) rfl rfl rfl (Nat.le_of_ble_eq_true rfl) (Nat.le_refl _) (Nat.le_refl _) ?_ (fun Q hQ => ft_78 h10 hQ)
      refine eg_k_l2i rfl ?_
      refine eg_k_istore (lv' := [some (.inr (.inr (some 44))), some (.inl x1), some (.inl x2), some (.inl (eg_wi r11)), some (.inl r7)]) rfl rfl ?_
      refine eg_k_goto rfl ?_
      have hx := Option.some.inj hx
      subst hx
      exact hK (some (.inl r7))
    · refine eg_k_iload rfl rfl ?_
      refine eg_k_ci rfl ?_
      refine eg_k_imul rfl ?_
      refine eg_k_iload rfl rfl ?_
      refine eg_k_iadd rfl ?_
      have hx := Option.some.inj hx
      subst hx
      exact eg_k_iret rfl True.intro (Nat.le_refl _) (Nat.le_refl _) hK
set_option maxRecDepth 100000 in
theorem ft_115 {cn mo : Nat} {sc : eg_Sc} {d : Nat} {M : eM} {Q : Option eg_V → eg_H → Prop} {a : Int} {b : Int} {x : Int} (hx : fn_115 cn mo a b M = some x) (hK : Q (some (.inl x)) (em_L cn mo, eh_R, M)) : eg_wp sc (d + 2) 115 [.inr (.inr (some 44)), .inl a, .inl b] (em_L cn mo, eh_R, M) 0 0 Q := by
  refine eg_in (lv := [some (.inr (.inr (some 44))), some (.inl a), some (.inl b), none, none]) eg_tj115 (Nat.le_of_ble_eq_true rfl) rfl ?_
  refine eg_k_iload rfl rfl ?_
  refine eg_k_istore (lv' := [some (.inr (.inr (some 44))), some (.inl a), some (.inl b), some (.inl b), none]) rfl rfl ?_
  have hz := ft_115_2 (d := d) (sc := sc) hx hK
  exact hz none
/-- 111: WeakScheme$Machine.evaluate(II)V -/
noncomputable def fn_111 (cn : Nat) (mo : Nat) (a : Int) (b : Int) (M : eM) : Option (eM) :=
  if ¬ (M 44 7) = 0 then
    if 0 ≤ a ∧ a < 20000 then
    if ¬ (M 4 (a).toNat) = 25769803776 then
        (fn_64 a (eg_u M 44 7 (eg_wi ((M 44 7) - 1)))).bind fun r5 =>
        if r5 = 0 then
          some (eg_u (eg_u M 44 7 (eg_wi ((M 44 7) - 1))) 44 9 (M 4 (a).toNat))
        else
          (fn_115 cn mo a b (eg_u M 44 7 (eg_wi ((M 44 7) - 1)))).bind fun r10 =>
          if r10 < 0 then
            if 0 ≤ (eg_wi (M 4 (a).toNat)) ∧ (eg_wi (M 4 (a).toNat)) < 444 then
            if ¬ (M 37 (eg_wi (M 4 (a).toNat)).toNat) = 21474836480 then
                some (eg_u (eg_u (eg_u M 44 7 (eg_wi ((M 44 7) - 1))) 44 9 (M 37 (eg_wi (M 4 (a).toNat)).toNat)) 44 8 0)
              else
                some (eg_u (eg_u (eg_u M 44 7 (eg_wi ((M 44 7) - 1))) 44 9 (M 37 (eg_wi (M 4 (a).toNat)).toNat)) 44 8 5)
            else none
          else
            (fn_78 cn mo (eg_wi (Int.tdiv r10 8)) (eg_wi (3 + (eg_wi (r10 - eg_wi (Int.tdiv r10 8) * 8)))) (eg_u M 44 7 (eg_wi ((M 44 7) - 1)))).bind fun r17 =>
            if ¬ r17 = 21474836480 then
              some (eg_u (eg_u (eg_u M 44 7 (eg_wi ((M 44 7) - 1))) 44 9 r17) 44 8 0)
            else
              some (eg_u (eg_u (eg_u M 44 7 (eg_wi ((M 44 7) - 1))) 44 9 r17) 44 8 5)
      else
        (fn_59 a (eg_u M 44 7 (eg_wi ((M 44 7) - 1)))).bind fun r21 =>
        (fn_112 r21 a (eg_u M 44 7 (eg_wi ((M 44 7) - 1)))).bind fun r24 =>
        (fn_113 r21 a r24 b (eg_u M 44 7 (eg_wi ((M 44 7) - 1)))).bind fun m28 =>
        some m28
    else none
  else
    some (eg_u M 44 8 4)
set_option maxRecDepth 100000 in
theorem ft_111 {cn mo : Nat} {sc : eg_Sc} {d : Nat} {M : eM} {Q : Option eg_V → eg_H → Prop} {a : Int} {b : Int} {x : eM} (hx : fn_111 cn mo a b M = some x) (hK : Q (none) (em_L cn mo, eh_R, x)) : eg_wp sc (d + 3) 111 [.inr (.inr (some 44)), .inl a, .inl b] (em_L cn mo, eh_R, M) 0 0 Q := by
  refine eg_in (lv := [some (.inr (.inr (some 44))), some (.inl a), some (.inl b), none]) eg_tj111 (Nat.le_of_ble_eq_true rfl) rfl ?_
  refine eg_k_aload rfl rfl ?_
  refine eg_k_gfi rfl rfl rfl ?_
  refine vk_if rfl hx Iff.rfl (fun c1 hx => ?_) (fun c1 hx => ?_)
  · refine eg_k_aload rfl rfl ?_
    refine eg_k_dupr rfl ?_
    refine eg_k_gfi rfl rfl rfl ?_
    refine eg_k_ci rfl ?_
    refine eg_k_isub rfl ?_
    refine eg_k_pfi rfl rfl rfl ?_
    refine eg_k_aload rfl rfl ?_
    refine eg_k_gfr rfl rfl rfl eh_r44_0 ?_
    refine eg_k_gfa rfl rfl rfl eh_r1_3 ?_
    refine eg_k_iload rfl rfl ?_
    obtain ⟨b2, hx⟩ := vb_if hx
    refine vk_lald (k := 20000) (y := M 4 (a).toNat) rfl rfl b2.1 b2.2 rfl ?_
    refine eg_k_cl rfl ?_
    refine vk_lcmp rfl rfl hx Iff.rfl (fun c3 hx => ?_) (fun c3 hx => ?_)
    · refine eg_k_aload rfl rfl ?_
      refine eg_k_gfr rfl rfl rfl eh_r44_0 ?_
      refine eg_k_iload rfl rfl ?_
      obtain ⟨r5, h4, hx⟩ := vb_bind hx
      refine eg_k_call (c1 := 0) (z1 := 0) (as := [.inr (.inr (some 1)), .inl a]) (rest := []) rfl eg_tj64 (Nat.le_of_ble_eq_true rfl) rfl rfl rfl (Nat.le_of_ble_eq_true rfl) (Nat.le_refl _) (Nat.le_refl _) ?_ (fun Q hQ => ft_64 h4 hQ)
      refine vk_if rfl hx Iff.rfl (fun c7 hx => ?_) (fun c7 hx => ?_)
      · refine eg_k_aload rfl rfl ?_
        refine eg_k_aload rfl rfl ?_
        refine eg_k_gfr rfl rfl rfl eh_r44_0 ?_
        refine eg_k_gfa rfl rfl rfl eh_r1_3 ?_
        refine eg_k_iload rfl rfl ?_
        refine vk_lald (k := 20000) (y := M 4 (a).toNat) rfl rfl b2.1 b2.2 rfl ?_
        refine eg_k_pfl rfl rfl rfl ?_
        have hx := Option.some.inj hx
        subst hx
        exact eg_k_ret rfl rfl (Nat.le_refl _) (Nat.le_refl _) hK
      · refine eg_k_aload rfl rfl ?_
        refine eg_k_iload rfl rfl ?_
        refine eg_k_iload rfl rfl ?_
        obtain ⟨r10, h9, hx⟩ := vb_bind hx
        refine eg_k_call (c1 := 0) (z1 := 0) (as := [.inr (.inr (some 44)), .inl a, .inl b]) (rest := []) rfl eg_tj115 (Nat.le_of_ble_eq_true rfl) rfl rfl rfl (Nat.le_of_ble_eq_true rfl) (Nat.le_refl _) (Nat.le_refl _) ?_ (fun Q hQ => ft_115 h9 hQ)
        refine eg_k_istore (lv' := [some (.inr (.inr (some 44))), some (.inl a), some (.inl b), some (.inl r10)]) rfl rfl ?_
        refine eg_k_aload rfl rfl ?_
        refine eg_k_iload rfl rfl ?_
        refine vk_if rfl hx Iff.rfl (fun c12 hx => ?_) (fun c12 hx => ?_)
        · refine eg_k_aload rfl rfl ?_
          refine eg_k_gfa rfl rfl rfl eh_r44_4 ?_
          refine eg_k_aload rfl rfl ?_
          refine eg_k_gfr rfl rfl rfl eh_r44_0 ?_
          refine eg_k_gfa rfl rfl rfl eh_r1_3 ?_
          refine eg_k_iload rfl rfl ?_
          refine vk_lald (k := 20000) (y := M 4 (a).toNat) rfl rfl b2.1 b2.2 rfl ?_
          refine eg_k_l2i rfl ?_
          obtain ⟨b14, hx⟩ := vb_if hx
          refine vk_lald (k := 444) (y := M 37 (eg_wi (M 4 (a).toNat)).toNat) rfl rfl b14.1 b14.2 rfl ?_
          refine eg_k_pfl rfl rfl rfl ?_
          refine eg_k_aload rfl rfl ?_
          refine eg_k_aload rfl rfl ?_
          refine eg_k_gfle (x := M 37 (eg_wi (M 4 (a).toNat)).toNat) rfl rfl rfl rfl ?_
          refine eg_k_cl rfl ?_
          refine vk_lcmp rfl rfl hx Iff.rfl (fun c15 hx => ?_) (fun c15 hx => ?_)
          · refine eg_k_ci rfl ?_
            refine eg_k_pfi rfl rfl rfl ?_
            refine eg_k_goto rfl ?_
            have hx := Option.some.inj hx
            subst hx
            exact eg_k_ret rfl rfl (Nat.le_refl _) (Nat.le_refl _) hK
          · refine eg_k_ci rfl ?_
            refine eg_k_goto rfl ?_
            refine eg_k_pfi rfl rfl rfl ?_
            refine eg_k_goto rfl ?_
            have hx := Option.some.inj hx
            subst hx
            exact eg_k_ret rfl rfl (Nat.le_refl _) (Nat.le_refl _) hK
        · refine eg_k_aload rfl rfl ?_
          refine eg_k_gfr rfl rfl rfl eh_r44_1 ?_
          refine eg_k_iload rfl rfl ?_
          refine eg_k_ci rfl ?_
          refine eg_k_idiv rfl (by decide) ?_
          refine eg_k_ci rfl ?_
          refine eg_k_iload rfl rfl ?_
          refine eg_k_ci rfl ?_
          refine eg_k_irem rfl (by decide) ?_
          refine eg_k_iadd rfl ?_
          obtain ⟨r17, h16, hx⟩ := vb_bind hx
          refine eg_k_call (c1 := 0) (z1 := 0) (as := [.inr (.inr (some 15)), .inl (eg_wi (Int.tdiv r10 8)), .inl (eg_wi (3 + (eg_wi (r10 - eg_wi (Int.tdiv r10 8) * 8))))]) (rest := [.inr (.inr (some 44))]) rfl eg_tj78 (Nat.le_of_ble_eq_true rfl) rfl rfl rfl (Nat.le_of_ble_eq_true rfl) (Nat.le_refl _) (Nat.le_refl _) ?_ (fun Q hQ => ft_78 h16 hQ)
          refine eg_k_goto rfl ?_
          refine eg_k_pfl rfl rfl rfl ?_
          refine eg_k_aload rfl rfl ?_
          refine eg_k_aload rfl rfl ?_
          refine eg_k_gfle (x := r17) rfl rfl rfl rfl ?_
          refine eg_k_cl rfl ?_
          refine vk_lcmp rfl rfl hx Iff.rfl (fun c19 hx => ?_) (fun c19 hx => ?_)
          · refine eg_k_ci rfl ?_
            refine eg_k_pfi rfl rfl rfl ?_
            refine eg_k_goto rfl ?_
            have hx := Option.some.inj hx
            subst hx
            exact eg_k_ret rfl rfl (Nat.le_refl _) (Nat.le_refl _) hK
          · refine eg_k_ci rfl ?_
            refine eg_k_goto rfl ?_
            refine eg_k_pfi rfl rfl rfl ?_
            refine eg_k_goto rfl ?_
            have hx := Option.some.inj hx
            subst hx
            exact eg_k_ret rfl rfl (Nat.le_refl _) (Nat.le_refl _) hK
    · refine eg_k_aload rfl rfl ?_
      refine eg_k_gfr rfl rfl rfl eh_r44_0 ?_
      refine eg_k_iload rfl rfl ?_
      obtain ⟨r21, h20, hx⟩ := vb_bind hx
      refine eg_k_call (c1 := 0) (z1 := 0) (as := [.inr (.inr (some 1)), .inl a]) (rest := []) rfl eg_tj59 (Nat.le_of_ble_eq_true rfl) rfl rfl rfl (Nat.le_of_ble_eq_true rfl) (Nat.le_refl _) (Nat.le_refl _) ?_ (fun Q hQ => ft_59 h20 hQ)
      refine eg_k_istore (lv' := [some (.inr (.inr (some 44))), some (.inl a), some (.inl b), some (.inl r21)]) rfl rfl ?_
      refine eg_k_aload rfl rfl ?_
      refine eg_k_iload rfl rfl ?_
      refine eg_k_iload rfl rfl ?_
      refine eg_k_aload rfl rfl ?_
      refine eg_k_iload rfl rfl ?_
      refine eg_k_iload rfl rfl ?_
      obtain ⟨r24, h23, hx⟩ := vb_bind hx
      refine eg_k_call (c1 := 0) (z1 := 0) (as := [.inr (.inr (some 44)), .inl r21, .inl a]) (rest := [.inl a, .inl r21, .inr (.inr (some 44))]) rfl eg_tj112 (Nat.le_of_ble_eq_true rfl) rfl rfl rfl (Nat.le_of_ble_eq_true rfl) (Nat.le_refl _) (Nat.le_refl _) ?_ (fun Q hQ => ft_112 h23 hQ)
      refine eg_k_iload rfl rfl ?_
      obtain ⟨m28, h26, hx⟩ := vb_bind hx
      refine eg_k_call (c1 := 0) (z1 := 0) (as := [.inr (.inr (some 44)), .inl r21, .inl a, .inl r24, .inl b]) (rest := []) rfl eg_tj113 (Nat.le_of_ble_eq_true rfl) rfl rfl rfl (Nat.le_of_ble_eq_true rfl) (Nat.le_refl _) (Nat.le_refl _) ?_ (fun Q hQ => ft_113 h26 hQ)
      refine eg_k_goto rfl ?_
      have hx := Option.some.inj hx
      subst hx
      exact eg_k_ret rfl rfl (Nat.le_refl _) (Nat.le_refl _) hK
  · refine eg_k_aload rfl rfl ?_
    refine eg_k_ci rfl ?_
    refine eg_k_pfi rfl rfl rfl ?_
    have hx := Option.some.inj hx
    subst hx
    exact eg_k_ret rfl rfl (Nat.le_refl _) (Nat.le_refl _) hK
theorem fw_111 {cn : Nat} {mo : Nat} {M : eM} {c : Nat} {a : Int} {b : Int} {x : eM} (hx : fn_111 cn mo a b M = some x) (hc : c ∉ ([29, 30, 31, 32, 33, 34, 44] : List Nat)) (j : Nat) : x c j = M c j := by
  obtain ⟨v, hK⟩ : ∃ v, x c j = v := ⟨_, rfl⟩
  rw [hK]
  refine Eq.symm ?_
  refine vb_ite hx (fun _ hx => ?_) (fun _ hx => ?_)
  · obtain ⟨_, hx⟩ := vb_if hx
    refine vb_ite hx (fun _ hx => ?_) (fun _ hx => ?_)
    · obtain ⟨r5, h4, hx⟩ := vb_bind hx
      refine vb_ite hx (fun _ hx => ?_) (fun _ hx => ?_)
      · have hx := Option.some.inj hx
        subst hx
        exact ((congrFun (eg_u_ne (vne hc (a := 44) (by decide))) j).trans ((congrFun (eg_u_ne (vne hc (a := 44) (by decide))) j).trans rfl)).symm.trans hK
      · obtain ⟨r10, h9, hx⟩ := vb_bind hx
        refine vb_ite hx (fun _ hx => ?_) (fun _ hx => ?_)
        · obtain ⟨_, hx⟩ := vb_if hx
          refine vb_ite hx (fun _ hx => ?_) (fun _ hx => ?_)
          · have hx := Option.some.inj hx
            subst hx
            exact ((congrFun (eg_u_ne (vne hc (a := 44) (by decide))) j).trans ((congrFun (eg_u_ne (vne hc (a := 44) (by decide))) j).trans ((congrFun (eg_u_ne (vne hc (a := 44) (by decide))) j).trans rfl))).symm.trans hK
          · have hx := Option.some.inj hx
            subst hx
            exact ((congrFun (eg_u_ne (vne hc (a := 44) (by decide))) j).trans ((congrFun (eg_u_ne (vne hc (a := 44) (by decide))) j).trans ((congrFun (eg_u_ne (vne hc (a := 44) (by decide))) j).trans rfl))).symm.trans hK
        · obtain ⟨r17, h16, hx⟩ := vb_bind hx
          refine vb_ite hx (fun _ hx => ?_) (fun _ hx => ?_)
          · have hx := Option.some.inj hx
            subst hx
            exact ((congrFun (eg_u_ne (vne hc (a := 44) (by decide))) j).trans ((congrFun (eg_u_ne (vne hc (a := 44) (by decide))) j).trans ((congrFun (eg_u_ne (vne hc (a := 44) (by decide))) j).trans rfl))).symm.trans hK
          · have hx := Option.some.inj hx
            subst hx
            exact ((congrFun (eg_u_ne (vne hc (a := 44) (by decide))) j).trans ((congrFun (eg_u_ne (vne hc (a := 44) (by decide))) j).trans ((congrFun (eg_u_ne (vne hc (a := 44) (by decide))) j).trans rfl))).symm.trans hK
    · obtain ⟨r21, h20, hx⟩ := vb_bind hx
      obtain ⟨r24, h23, hx⟩ := vb_bind hx
      obtain ⟨m28, h26, hx⟩ := vb_bind hx
      have hx := Option.some.inj hx
      subst hx
      exact ((fw_113 h26 (vsub hc (by decide)) j).trans ((congrFun (eg_u_ne (vne hc (a := 44) (by decide))) j).trans rfl)).symm.trans hK
  · have hx := Option.some.inj hx
    subst hx
    exact ((congrFun (eg_u_ne (vne hc (a := 44) (by decide))) j).trans rfl).symm.trans hK
/-- 110: WeakScheme$Machine.evaluateIn(II)V -/
noncomputable def fn_110 (cn : Nat) (mo : Nat) (a : Int) (b : Int) (M : eM) : Option (eM) :=
  if 0 ≤ a ∧ a < 2000 then
  (fn_111 cn mo b (M 33 (a).toNat) (eg_u M 32 (a).toNat b)).bind fun m5 =>
    some m5
  else none
set_option maxRecDepth 100000 in
theorem ft_110 {cn mo : Nat} {sc : eg_Sc} {d : Nat} {M : eM} {Q : Option eg_V → eg_H → Prop} {a : Int} {b : Int} {x : eM} (hx : fn_110 cn mo a b M = some x) (hK : Q (none) (em_L cn mo, eh_R, x)) : eg_wp sc (d + 4) 110 [.inr (.inr (some 44)), .inl a, .inl b] (em_L cn mo, eh_R, M) 0 0 Q := by
  refine eg_in (lv := [some (.inr (.inr (some 44))), some (.inl a), some (.inl b)]) eg_tj110 (Nat.le_of_ble_eq_true rfl) rfl ?_
  refine eg_k_aload rfl rfl ?_
  refine eg_k_gfr rfl rfl rfl eh_r44_3 ?_
  refine eg_k_gfa rfl rfl rfl eh_r29_3 ?_
  refine eg_k_iload rfl rfl ?_
  refine eg_k_iload rfl rfl ?_
  obtain ⟨b1, hx⟩ := vb_if hx
  refine eg_k_iast (k := 2000) rfl rfl b1.1 b1.2 ?_
  refine eg_k_aload rfl rfl ?_
  refine eg_k_iload rfl rfl ?_
  refine eg_k_aload rfl rfl ?_
  refine eg_k_gfr rfl rfl rfl eh_r44_3 ?_
  refine eg_k_gfa rfl rfl rfl eh_r29_4 ?_
  refine eg_k_iload rfl rfl ?_
  refine vk_iald (k := 2000) (y := M 33 (a).toNat) rfl rfl b1.1 b1.2 rfl ?_
  obtain ⟨m5, h3, hx⟩ := vb_bind hx
  refine eg_k_call (c1 := 0) (z1 := 0) (as := [.inr (.inr (some 44)), .inl b, .inl (M 33 (a).toNat)]) (rest := []) rfl eg_tj111 (Nat.le_of_ble_eq_true rfl) rfl rfl rfl (Nat.le_of_ble_eq_true rfl) (Nat.le_refl _) (Nat.le_refl _) ?_ (fun Q hQ => ft_111 h3 hQ)
  have hx := Option.some.inj hx
  subst hx
  exact eg_k_ret rfl rfl (Nat.le_refl _) (Nat.le_refl _) hK
theorem fw_110 {cn : Nat} {mo : Nat} {M : eM} {c : Nat} {a : Int} {b : Int} {x : eM} (hx : fn_110 cn mo a b M = some x) (hc : c ∉ ([29, 30, 31, 32, 33, 34, 44] : List Nat)) (j : Nat) : x c j = M c j := by
  obtain ⟨v, hK⟩ : ∃ v, x c j = v := ⟨_, rfl⟩
  rw [hK]
  refine Eq.symm ?_
  obtain ⟨_, hx⟩ := vb_if hx
  obtain ⟨m5, h3, hx⟩ := vb_bind hx
  have hx := Option.some.inj hx
  subst hx
  exact ((fw_111 h3 (vsub hc (by decide)) j).trans ((congrFun (eg_u_ne (vne hc (a := 32) (by decide))) j).trans rfl)).symm.trans hK
noncomputable def fn_108_34 (cn : Nat) (mo : Nat) (x1 : Int) (x2 : Int) (x3 : Int) (x4 : Int) (M : eM) : Option (eM) :=
  if x3 ≤ (eg_wi (x2 + 2)) then
    if 0 ≤ x2 ∧ x2 < 20000 then
    if (M 5 (x2).toNat) ≤ x4 then
        (fn_103 4294967298 M).bind fun m10 =>
        some m10
      else
        (fn_110 cn mo x1 x4 M).bind fun m13 =>
        some m13
    else none
  else
    (fn_109 M).bind fun m16 =>
    some m16
/-- 108: WeakScheme$Machine.choose(I)V -/
noncomputable def fn_108 (cn : Nat) (mo : Nat) (a : Int) (M : eM) : Option (eM) :=
  if 0 ≤ a ∧ a < 2000 then
  if 0 ≤ (M 32 (a).toNat) ∧ (M 32 (a).toNat) < 20000 then
    if ¬ (M 32 (a).toNat) = (eg_wi ((M 31 (a).toNat) + 2)) then
        fn_108_34 cn mo a (M 31 (a).toNat) (M 32 (a).toNat) (M 5 (M 32 (a).toNat).toNat) M
      else
        if ¬ (M 44 9) = 4294967296 then
          fn_108_34 cn mo a (M 31 (a).toNat) (M 32 (a).toNat) (M 5 (M 32 (a).toNat).toNat) M
        else
          if 0 ≤ (M 5 (M 32 (a).toNat).toNat) ∧ (M 5 (M 32 (a).toNat).toNat) < 20000 then
          fn_108_34 cn mo a (M 31 (a).toNat) (M 32 (a).toNat) (M 5 (M 5 (M 32 (a).toNat).toNat).toNat) M
          else none
    else none
  else none
set_option maxRecDepth 100000 in
theorem ft_108_34 {cn mo : Nat} {sc : eg_Sc} {d : Nat} {M : eM} {Q : Option eg_V → eg_H → Prop} {x1 : Int} {x2 : Int} {x3 : Int} {x4 : Int} {x : eM} (hx : fn_108_34 cn mo x1 x2 x3 x4 M = some x) (hK : (fun (x : eM) => Q (none) (em_L cn mo, eh_R, x)) x) : eg_X sc (eg_wp sc (d + 4)) eg_p108 none 0 0 Q 34 [some (.inr (.inr (some 44))), some (.inl x1), some (.inl x2), some (.inl x3), some (.inl x4)] [] (em_L cn mo, eh_R, M) 0 0 := by
  refine eg_k_iload rfl rfl ?_
  refine eg_k_iload rfl rfl ?_
  refine eg_k_ci rfl ?_
  refine eg_k_iadd rfl ?_
  refine vk_icmp rfl hx Iff.rfl (fun c5 hx => ?_) (fun c5 hx => ?_)
  · refine eg_k_iload rfl rfl ?_
    refine eg_k_aload rfl rfl ?_
    refine eg_k_gfr rfl rfl rfl eh_r44_0 ?_
    refine eg_k_gfa rfl rfl rfl eh_r1_4 ?_
    refine eg_k_iload rfl rfl ?_
    obtain ⟨b6, hx⟩ := vb_if hx
    refine eg_k_iald (k := 20000) rfl rfl b6.1 b6.2 ?_
    refine vk_icmp rfl hx Iff.rfl (fun c7 hx => ?_) (fun c7 hx => ?_)
    · refine eg_k_aload rfl rfl ?_
      refine eg_k_cl rfl ?_
      obtain ⟨m10, h8, hx⟩ := vb_bind hx
      refine eg_k_call (c1 := 0) (z1 := 0) (as := [.inr (.inr (some 44)), .inr (.inl 4294967298)]) (rest := []) rfl eg_tj103 (Nat.le_of_ble_eq_true rfl) rfl rfl rfl (Nat.le_of_ble_eq_true rfl) (Nat.le_refl _) (Nat.le_refl _) ?_ (fun Q hQ => ft_103 h8 hQ)
      have hx := Option.some.inj hx
      subst hx
      exact eg_k_ret rfl rfl (Nat.le_refl _) (Nat.le_refl _) hK
    · refine eg_k_aload rfl rfl ?_
      refine eg_k_iload rfl rfl ?_
      refine eg_k_iload rfl rfl ?_
      obtain ⟨m13, h11, hx⟩ := vb_bind hx
      refine eg_k_call (c1 := 0) (z1 := 0) (as := [.inr (.inr (some 44)), .inl x1, .inl x4]) (rest := []) rfl eg_tj110 (Nat.le_of_ble_eq_true rfl) rfl rfl rfl (Nat.le_of_ble_eq_true rfl) (Nat.le_refl _) (Nat.le_refl _) ?_ (fun Q hQ => ft_110 h11 hQ)
      refine eg_k_goto rfl ?_
      have hx := Option.some.inj hx
      subst hx
      exact eg_k_ret rfl rfl (Nat.le_refl _) (Nat.le_refl _) hK
  · refine eg_k_aload rfl rfl ?_
    obtain ⟨m16, h14, hx⟩ := vb_bind hx
    refine eg_k_call (c1 := 0) (z1 := 0) (as := [.inr (.inr (some 44))]) (rest := []) rfl eg_tj109 (Nat.le_of_ble_eq_true rfl) rfl rfl rfl (Nat.le_of_ble_eq_true rfl) (Nat.le_refl _) (Nat.le_refl _) ?_ (fun Q hQ => ft_109 h14 hQ)
    refine eg_k_goto rfl ?_
    have hx := Option.some.inj hx
    subst hx
    exact eg_k_ret rfl rfl (Nat.le_refl _) (Nat.le_refl _) hK
set_option maxRecDepth 100000 in
theorem ft_108 {cn mo : Nat} {sc : eg_Sc} {d : Nat} {M : eM} {Q : Option eg_V → eg_H → Prop} {a : Int} {x : eM} (hx : fn_108 cn mo a M = some x) (hK : Q (none) (em_L cn mo, eh_R, x)) : eg_wp sc (d + 5) 108 [.inr (.inr (some 44)), .inl a] (em_L cn mo, eh_R, M) 0 0 Q := by
  refine eg_in (lv := [some (.inr (.inr (some 44))), some (.inl a), none, none, none]) eg_tj108 (Nat.le_of_ble_eq_true rfl) rfl ?_
  refine eg_k_aload rfl rfl ?_
  refine eg_k_gfr rfl rfl rfl eh_r44_3 ?_
  refine eg_k_gfa rfl rfl rfl eh_r29_2 ?_
  refine eg_k_iload rfl rfl ?_
  obtain ⟨b1, hx⟩ := vb_if hx
  refine eg_k_iald (k := 2000) rfl rfl b1.1 b1.2 ?_
  refine eg_k_istore (lv' := [some (.inr (.inr (some 44))), some (.inl a), some (.inl (M 31 (a).toNat)), none, none]) rfl rfl ?_
  refine eg_k_aload rfl rfl ?_
  refine eg_k_gfr rfl rfl rfl eh_r44_3 ?_
  refine eg_k_gfa rfl rfl rfl eh_r29_3 ?_
  refine eg_k_iload rfl rfl ?_
  refine eg_k_iald (k := 2000) rfl rfl b1.1 b1.2 ?_
  refine eg_k_istore (lv' := [some (.inr (.inr (some 44))), some (.inl a), some (.inl (M 31 (a).toNat)), some (.inl (M 32 (a).toNat)), none]) rfl rfl ?_
  refine eg_k_aload rfl rfl ?_
  refine eg_k_gfr rfl rfl rfl eh_r44_0 ?_
  refine eg_k_gfa rfl rfl rfl eh_r1_4 ?_
  refine eg_k_iload rfl rfl ?_
  obtain ⟨b3, hx⟩ := vb_if hx
  refine eg_k_iald (k := 20000) rfl rfl b3.1 b3.2 ?_
  refine eg_k_istore (lv' := [some (.inr (.inr (some 44))), some (.inl a), some (.inl (M 31 (a).toNat)), some (.inl (M 32 (a).toNat)), some (.inl (M 5 (M 32 (a).toNat).toNat))]) rfl rfl ?_
  refine eg_k_iload rfl rfl ?_
  refine eg_k_iload rfl rfl ?_
  refine eg_k_ci rfl ?_
  refine eg_k_iadd rfl ?_
  refine vk_icmp rfl hx Iff.rfl (fun c4 hx => ?_) (fun c4 hx => ?_)
  · have hz := ft_108_34 (d := d) (sc := sc) hx hK
    exact hz
  · refine eg_k_aload rfl rfl ?_
    refine eg_k_gfl rfl rfl rfl ?_
    refine eg_k_cl rfl ?_
    refine vk_lcmp rfl rfl hx Iff.rfl (fun c17 hx => ?_) (fun c17 hx => ?_)
    · have hz := ft_108_34 (d := d) (sc := sc) hx hK
      exact hz
    · refine eg_k_aload rfl rfl ?_
      refine eg_k_gfr rfl rfl rfl eh_r44_0 ?_
      refine eg_k_gfa rfl rfl rfl eh_r1_4 ?_
      refine eg_k_iload rfl rfl ?_
      obtain ⟨b18, hx⟩ := vb_if hx
      refine eg_k_iald (k := 20000) rfl rfl b18.1 b18.2 ?_
      refine eg_k_istore (lv' := [some (.inr (.inr (some 44))), some (.inl a), some (.inl (M 31 (a).toNat)), some (.inl (M 32 (a).toNat)), some (.inl (M 5 (M 5 (M 32 (a).toNat).toNat).toNat))]) rfl rfl ?_
      have hz := ft_108_34 (d := d) (sc := sc) hx hK
      exact hz
theorem fw_108_34 {cn : Nat} {mo : Nat} {M : eM} {c j : Nat} {v : Int} {x1 : Int} {x2 : Int} {x3 : Int} {x4 : Int} {x : eM} (hc : c ∉ ([29, 30, 31, 32, 33, 34, 44] : List Nat)) (hx : fn_108_34 cn mo x1 x2 x3 x4 M = some x) (hK : (fun (x : eM) => x c j = v) x) : M c j = v := by
  refine vb_ite hx (fun _ hx => ?_) (fun _ hx => ?_)
  · obtain ⟨_, hx⟩ := vb_if hx
    refine vb_ite hx (fun _ hx => ?_) (fun _ hx => ?_)
    · obtain ⟨m10, h8, hx⟩ := vb_bind hx
      have hx := Option.some.inj hx
      subst hx
      exact ((fw_103 h8 (vsub hc (by decide)) j).trans rfl).symm.trans hK
    · obtain ⟨m13, h11, hx⟩ := vb_bind hx
      have hx := Option.some.inj hx
      subst hx
      exact ((fw_110 h11 (vsub hc (by decide)) j).trans rfl).symm.trans hK
  · obtain ⟨m16, h14, hx⟩ := vb_bind hx
    have hx := Option.some.inj hx
    subst hx
    exact ((fw_109 h14 (vsub hc (by decide)) j).trans rfl).symm.trans hK
theorem fw_108 {cn : Nat} {mo : Nat} {M : eM} {c : Nat} {a : Int} {x : eM} (hx : fn_108 cn mo a M = some x) (hc : c ∉ ([29, 30, 31, 32, 33, 34, 44] : List Nat)) (j : Nat) : x c j = M c j := by
  obtain ⟨v, hK⟩ : ∃ v, x c j = v := ⟨_, rfl⟩
  rw [hK]
  refine Eq.symm ?_
  obtain ⟨_, hx⟩ := vb_if hx
  obtain ⟨_, hx⟩ := vb_if hx
  refine vb_ite hx (fun _ hx => ?_) (fun _ hx => ?_)
  · have hz := fw_108_34 hc hx hK
    exact (Eq.refl _).symm.trans hz
  · refine vb_ite hx (fun _ hx => ?_) (fun _ hx => ?_)
    · have hz := fw_108_34 hc hx hK
      exact (Eq.refl _).symm.trans hz
    · obtain ⟨_, hx⟩ := vb_if hx
      have hz := fw_108_34 hc hx hK
      exact (Eq.refl _).symm.trans hz
/-- 116: WeakScheme$Machine.assign(I)V -/
noncomputable def fn_116 (cn : Nat) (mo : Nat) (a : Int) (M : eM) : Option (eM) :=
  if 0 ≤ a ∧ a < 2000 then
  if ¬ (M 32 (a).toNat) = (eg_wi ((M 31 (a).toNat) + 1)) then
      if 0 ≤ (eg_wi ((M 31 (a).toNat) + 2)) ∧ (eg_wi ((M 31 (a).toNat) + 2)) < 20000 then
      (fn_115 cn mo (eg_wi ((M 31 (a).toNat) + 2)) (M 33 (a).toNat) M).bind fun r7 =>
        if r7 < 0 then
          if (M 30 (a).toNat) = 3 then
            if 0 ≤ (eg_wi (M 4 (eg_wi ((M 31 (a).toNat) + 2)).toNat)) ∧ (eg_wi (M 4 (eg_wi ((M 31 (a).toNat) + 2)).toNat)) < 444 then
            (fn_103 4294967298 (eg_u M 37 (eg_wi (M 4 (eg_wi ((M 31 (a).toNat) + 2)).toNat)).toNat (M 44 9))).bind fun m15 =>
              some m15
            else none
          else
            if 0 ≤ (eg_wi (M 4 (eg_wi ((M 31 (a).toNat) + 2)).toNat)) ∧ (eg_wi (M 4 (eg_wi ((M 31 (a).toNat) + 2)).toNat)) < 444 then
            if (M 37 (eg_wi (M 4 (eg_wi ((M 31 (a).toNat) + 2)).toNat)).toNat) = 21474836480 then
                (fn_103 4294967298 (eg_u M 44 8 5)).bind fun m20 =>
                some m20
              else
                (fn_103 4294967298 (eg_u M 37 (eg_wi (M 4 (eg_wi ((M 31 (a).toNat) + 2)).toNat)).toNat (M 44 9))).bind fun m24 =>
                some m24
            else none
        else
          (fn_94 cn mo (eg_wi (Int.tdiv r7 8)) (eg_wi (3 + (eg_wi (r7 - eg_wi (Int.tdiv r7 8) * 8)))) (M 44 9) M).bind fun m27 =>
          (fn_103 4294967298 m27).bind fun m30 =>
          some m30
      else none
    else
      (fn_110 cn mo a (eg_wi ((M 31 (a).toNat) + 3)) M).bind fun m33 =>
      some m33
  else none
set_option maxRecDepth 100000 in
theorem ft_116 {cn mo : Nat} {sc : eg_Sc} {d : Nat} {M : eM} {Q : Option eg_V → eg_H → Prop} {a : Int} {x : eM} (hx : fn_116 cn mo a M = some x) (hK : Q (none) (em_L cn mo, eh_R, x)) : eg_wp sc (d + 5) 116 [.inr (.inr (some 44)), .inl a] (em_L cn mo, eh_R, M) 0 0 Q := by
  refine eg_in (lv := [some (.inr (.inr (some 44))), some (.inl a), none, none, none]) eg_tj116 (Nat.le_of_ble_eq_true rfl) rfl ?_
  refine eg_k_aload rfl rfl ?_
  refine eg_k_gfr rfl rfl rfl eh_r44_3 ?_
  refine eg_k_gfa rfl rfl rfl eh_r29_2 ?_
  refine eg_k_iload rfl rfl ?_
  obtain ⟨b1, hx⟩ := vb_if hx
  refine eg_k_iald (k := 2000) rfl rfl b1.1 b1.2 ?_
  refine eg_k_istore (lv' := [some (.inr (.inr (some 44))), some (.inl a), some (.inl (M 31 (a).toNat)), none, none]) rfl rfl ?_
  refine eg_k_aload rfl rfl ?_
  refine eg_k_gfr rfl rfl rfl eh_r44_3 ?_
  refine eg_k_gfa rfl rfl rfl eh_r29_3 ?_
  refine eg_k_iload rfl rfl ?_
  refine eg_k_iald (k := 2000) rfl rfl b1.1 b1.2 ?_
  refine eg_k_iload rfl rfl ?_
  refine eg_k_ci rfl ?_
  refine eg_k_iadd rfl ?_
  refine vk_icmp rfl hx Iff.rfl (fun c3 hx => ?_) (fun c3 hx => ?_)
  · refine eg_k_aload rfl rfl ?_
    refine eg_k_gfr rfl rfl rfl eh_r44_0 ?_
    refine eg_k_gfa rfl rfl rfl eh_r1_3 ?_
    refine eg_k_iload rfl rfl ?_
    refine eg_k_ci rfl ?_
    refine eg_k_iadd rfl ?_
    obtain ⟨b4, hx⟩ := vb_if hx
    refine eg_k_lald (k := 20000) rfl rfl b4.1 b4.2 ?_
    refine eg_k_l2i rfl ?_
    refine eg_k_istore (lv' := [some (.inr (.inr (some 44))), some (.inl a), some (.inl (M 31 (a).toNat)), some (.inl (eg_wi (M 4 (eg_wi ((M 31 (a).toNat) + 2)).toNat))), none]) rfl rfl ?_
    refine eg_k_aload rfl rfl ?_
    refine eg_k_iload rfl rfl ?_
    refine eg_k_ci rfl ?_
    refine eg_k_iadd rfl ?_
    refine eg_k_aload rfl rfl ?_
    refine eg_k_gfr rfl rfl rfl eh_r44_3 ?_
    refine eg_k_gfa rfl rfl rfl eh_r29_4 ?_
    refine eg_k_iload rfl rfl ?_
    refine eg_k_iald (k := 2000) rfl rfl b1.1 b1.2 ?_
    obtain ⟨r7, h6, hx⟩ := vb_bind hx
    refine eg_k_call (c1 := 0) (z1 := 0) (as := [.inr (.inr (some 44)), .inl (eg_wi ((M 31 (a).toNat) + 2)), .inl (M 33 (a).toNat)]) (rest := []) rfl eg_tj115 (Nat.le_of_ble_eq_true rfl) rfl rfl rfl (Nat.le_of_ble_eq_true rfl) (Nat.le_refl _) (Nat.le_refl _) ?_ (fun Q hQ => ft_115 h6 hQ)
    refine eg_k_istore (lv' := [some (.inr (.inr (some 44))), some (.inl a), some (.inl (M 31 (a).toNat)), some (.inl (eg_wi (M 4 (eg_wi ((M 31 (a).toNat) + 2)).toNat))), some (.inl r7)]) rfl rfl ?_
    refine eg_k_iload rfl rfl ?_
    refine vk_if rfl hx Iff.rfl (fun c9 hx => ?_) (fun c9 hx => ?_)
    · refine eg_k_aload rfl rfl ?_
      refine eg_k_gfr rfl rfl rfl eh_r44_3 ?_
      refine eg_k_gfa rfl rfl rfl eh_r29_1 ?_
      refine eg_k_iload rfl rfl ?_
      refine eg_k_iald (k := 2000) rfl rfl b1.1 b1.2 ?_
      refine eg_k_ci rfl ?_
      refine vk_icmp rfl hx Iff.rfl (fun c11 hx => ?_) (fun c11 hx => ?_)
      · refine eg_k_aload rfl rfl ?_
        refine eg_k_gfa rfl rfl rfl eh_r44_4 ?_
        refine eg_k_iload rfl rfl ?_
        refine eg_k_aload rfl rfl ?_
        refine eg_k_gfl rfl rfl rfl ?_
        obtain ⟨b12, hx⟩ := vb_if hx
        refine eg_k_last (k := 444) rfl rfl b12.1 b12.2 ?_
        refine eg_k_goto rfl ?_
        refine eg_k_aload rfl rfl ?_
        refine eg_k_cl rfl ?_
        obtain ⟨m15, h13, hx⟩ := vb_bind hx
        refine eg_k_call (c1 := 0) (z1 := 0) (as := [.inr (.inr (some 44)), .inr (.inl 4294967298)]) (rest := []) rfl eg_tj103 (Nat.le_of_ble_eq_true rfl) rfl rfl rfl (Nat.le_of_ble_eq_true rfl) (Nat.le_refl _) (Nat.le_refl _) ?_ (fun Q hQ => ft_103 h13 hQ)
        have hx := Option.some.inj hx
        subst hx
        exact eg_k_ret rfl rfl (Nat.le_refl _) (Nat.le_refl _) hK
      · refine eg_k_aload rfl rfl ?_
        refine eg_k_gfa rfl rfl rfl eh_r44_4 ?_
        refine eg_k_iload rfl rfl ?_
        obtain ⟨b16, hx⟩ := vb_if hx
        refine eg_k_lald (k := 444) rfl rfl b16.1 b16.2 ?_
        refine eg_k_cl rfl ?_
        refine vk_lcmp rfl rfl hx Iff.rfl (fun c17 hx => ?_) (fun c17 hx => ?_)
        · refine eg_k_aload rfl rfl ?_
          refine eg_k_ci rfl ?_
          refine eg_k_pfi rfl rfl rfl ?_
          refine eg_k_aload rfl rfl ?_
          refine eg_k_cl rfl ?_
          obtain ⟨m20, h18, hx⟩ := vb_bind hx
          refine eg_k_call (c1 := 0) (z1 := 0) (as := [.inr (.inr (some 44)), .inr (.inl 4294967298)]) (rest := []) rfl eg_tj103 (Nat.le_of_ble_eq_true rfl) rfl rfl rfl (Nat.le_of_ble_eq_true rfl) (Nat.le_refl _) (Nat.le_refl _) ?_ (fun Q hQ => ft_103 h18 hQ)
          have hx := Option.some.inj hx
          subst hx
          exact eg_k_ret rfl rfl (Nat.le_refl _) (Nat.le_refl _) hK
        · refine eg_k_aload rfl rfl ?_
          refine eg_k_gfa rfl rfl rfl eh_r44_4 ?_
          refine eg_k_iload rfl rfl ?_
          refine eg_k_aload rfl rfl ?_
          refine eg_k_gfl rfl rfl rfl ?_
          refine eg_k_last (k := 444) rfl rfl b16.1 b16.2 ?_
          refine eg_k_goto rfl ?_
          refine eg_k_aload rfl rfl ?_
          refine eg_k_cl rfl ?_
          obtain ⟨m24, h22, hx⟩ := vb_bind hx
          refine eg_k_call (c1 := 0) (z1 := 0) (as := [.inr (.inr (some 44)), .inr (.inl 4294967298)]) (rest := []) rfl eg_tj103 (Nat.le_of_ble_eq_true rfl) rfl rfl rfl (Nat.le_of_ble_eq_true rfl) (Nat.le_refl _) (Nat.le_refl _) ?_ (fun Q hQ => ft_103 h22 hQ)
          have hx := Option.some.inj hx
          subst hx
          exact eg_k_ret rfl rfl (Nat.le_refl _) (Nat.le_refl _) hK
    · refine eg_k_aload rfl rfl ?_
      refine eg_k_gfr rfl rfl rfl eh_r44_1 ?_
      refine eg_k_iload rfl rfl ?_
      refine eg_k_ci rfl ?_
      refine eg_k_idiv rfl (by decide) ?_
      refine eg_k_ci rfl ?_
      refine eg_k_iload rfl rfl ?_
      refine eg_k_ci rfl ?_
      refine eg_k_irem rfl (by decide) ?_
      refine eg_k_iadd rfl ?_
      refine eg_k_aload rfl rfl ?_
      refine eg_k_gfl rfl rfl rfl ?_
      obtain ⟨m27, h25, hx⟩ := vb_bind hx
      refine eg_k_call (c1 := 0) (z1 := 0) (as := [.inr (.inr (some 15)), .inl (eg_wi (Int.tdiv r7 8)), .inl (eg_wi (3 + (eg_wi (r7 - eg_wi (Int.tdiv r7 8) * 8)))), .inr (.inl (M 44 9))]) (rest := []) rfl eg_tj94 (Nat.le_of_ble_eq_true rfl) rfl rfl rfl (Nat.le_of_ble_eq_true rfl) (Nat.le_refl _) (Nat.le_refl _) ?_ (fun Q hQ => ft_94 h25 hQ)
      refine eg_k_goto rfl ?_
      refine eg_k_aload rfl rfl ?_
      refine eg_k_cl rfl ?_
      obtain ⟨m30, h28, hx⟩ := vb_bind hx
      refine eg_k_call (c1 := 0) (z1 := 0) (as := [.inr (.inr (some 44)), .inr (.inl 4294967298)]) (rest := []) rfl eg_tj103 (Nat.le_of_ble_eq_true rfl) rfl rfl rfl (Nat.le_of_ble_eq_true rfl) (Nat.le_refl _) (Nat.le_refl _) ?_ (fun Q hQ => ft_103 h28 hQ)
      have hx := Option.some.inj hx
      subst hx
      exact eg_k_ret rfl rfl (Nat.le_refl _) (Nat.le_refl _) hK
  · refine eg_k_aload rfl rfl ?_
    refine eg_k_iload rfl rfl ?_
    refine eg_k_iload rfl rfl ?_
    refine eg_k_ci rfl ?_
    refine eg_k_iadd rfl ?_
    obtain ⟨m33, h31, hx⟩ := vb_bind hx
    refine eg_k_call (c1 := 0) (z1 := 0) (as := [.inr (.inr (some 44)), .inl a, .inl (eg_wi ((M 31 (a).toNat) + 3))]) (rest := []) rfl eg_tj110 (Nat.le_of_ble_eq_true rfl) rfl rfl rfl (Nat.le_of_ble_eq_true rfl) (Nat.le_refl _) (Nat.le_refl _) ?_ (fun Q hQ => ft_110 h31 hQ)
    have hx := Option.some.inj hx
    subst hx
    exact eg_k_ret rfl rfl (Nat.le_refl _) (Nat.le_refl _) hK
theorem fw_116 {cn : Nat} {mo : Nat} {M : eM} {c : Nat} {a : Int} {x : eM} (hx : fn_116 cn mo a M = some x) (hc : c ∉ ([16, 29, 30, 31, 32, 33, 34, 37, 44] : List Nat)) (j : Nat) : x c j = M c j := by
  obtain ⟨v, hK⟩ : ∃ v, x c j = v := ⟨_, rfl⟩
  rw [hK]
  refine Eq.symm ?_
  obtain ⟨_, hx⟩ := vb_if hx
  refine vb_ite hx (fun _ hx => ?_) (fun _ hx => ?_)
  · obtain ⟨_, hx⟩ := vb_if hx
    obtain ⟨r7, h6, hx⟩ := vb_bind hx
    refine vb_ite hx (fun _ hx => ?_) (fun _ hx => ?_)
    · refine vb_ite hx (fun _ hx => ?_) (fun _ hx => ?_)
      · obtain ⟨_, hx⟩ := vb_if hx
        obtain ⟨m15, h13, hx⟩ := vb_bind hx
        have hx := Option.some.inj hx
        subst hx
        exact ((fw_103 h13 (vsub hc (by decide)) j).trans ((congrFun (eg_u_ne (vne hc (a := 37) (by decide))) j).trans rfl)).symm.trans hK
      · obtain ⟨_, hx⟩ := vb_if hx
        refine vb_ite hx (fun _ hx => ?_) (fun _ hx => ?_)
        · obtain ⟨m20, h18, hx⟩ := vb_bind hx
          have hx := Option.some.inj hx
          subst hx
          exact ((fw_103 h18 (vsub hc (by decide)) j).trans ((congrFun (eg_u_ne (vne hc (a := 44) (by decide))) j).trans rfl)).symm.trans hK
        · obtain ⟨m24, h22, hx⟩ := vb_bind hx
          have hx := Option.some.inj hx
          subst hx
          exact ((fw_103 h22 (vsub hc (by decide)) j).trans ((congrFun (eg_u_ne (vne hc (a := 37) (by decide))) j).trans rfl)).symm.trans hK
    · obtain ⟨m27, h25, hx⟩ := vb_bind hx
      obtain ⟨m30, h28, hx⟩ := vb_bind hx
      have hx := Option.some.inj hx
      subst hx
      exact ((fw_103 h28 (vsub hc (by decide)) j).trans ((fw_94 h25 (vsub hc (by decide)) j).trans rfl)).symm.trans hK
  · obtain ⟨m33, h31, hx⟩ := vb_bind hx
    have hx := Option.some.inj hx
    subst hx
    exact ((fw_110 h31 (vsub hc (by decide)) j).trans rfl).symm.trans hK
/-- 117: WeakScheme$Machine.makeProcedure(I)V -/
noncomputable def fn_117 (cn : Nat) (mo : Nat) (a : Int) (M : eM) : Option (eM) :=
  (fn_93 cn mo 3 4 M).bind fun r2 =>
  if r2.1 = 0 then
    some r2.2
  else
    if 0 ≤ a ∧ a < 2000 then
    (fn_94 cn mo r2.1 1 (r2.2 31 (a).toNat) r2.2).bind fun m8 =>
      (fn_94 cn mo r2.1 2 (m8 33 (a).toNat) m8).bind fun m12 =>
      (fn_95 r2.1 m12).bind fun r14 =>
      (fn_103 r14 m12).bind fun m18 =>
      some m18
    else none
set_option maxRecDepth 100000 in
theorem ft_117 {cn mo : Nat} {sc : eg_Sc} {d : Nat} {M : eM} {Q : Option eg_V → eg_H → Prop} {a : Int} {x : eM} (hx : fn_117 cn mo a M = some x) (hK : Q (none) (em_L cn mo, eh_R, x)) : eg_wp sc (d + 2) 117 [.inr (.inr (some 44)), .inl a] (em_L cn mo, eh_R, M) 0 0 Q := by
  refine eg_in (lv := [some (.inr (.inr (some 44))), some (.inl a), none]) eg_tj117 (Nat.le_of_ble_eq_true rfl) rfl ?_
  refine eg_k_aload rfl rfl ?_
  refine eg_k_gfr rfl rfl rfl eh_r44_1 ?_
  refine eg_k_ci rfl ?_
  refine eg_k_ci rfl ?_
  obtain ⟨r2, h1, hx⟩ := vb_bind hx
  refine eg_k_call (c1 := 0) (z1 := 0) (as := [.inr (.inr (some 15)), .inl 3, .inl 4]) (rest := []) rfl eg_tj93 (Nat.le_of_ble_eq_true rfl) rfl rfl rfl (Nat.le_of_ble_eq_true rfl) (Nat.le_refl _) (Nat.le_refl _) ?_ (fun Q hQ => ft_93 h1 hQ)
  refine eg_k_istore (lv' := [some (.inr (.inr (some 44))), some (.inl a), some (.inl r2.1)]) rfl rfl ?_
  refine eg_k_iload rfl rfl ?_
  refine vk_if rfl hx Iff.rfl (fun c4 hx => ?_) (fun c4 hx => ?_)
  · have hx := Option.some.inj hx
    subst hx
    exact eg_k_ret rfl rfl (Nat.le_refl _) (Nat.le_refl _) hK
  · refine eg_k_aload rfl rfl ?_
    refine eg_k_gfr rfl rfl rfl eh_r44_1 ?_
    refine eg_k_iload rfl rfl ?_
    refine eg_k_ci rfl ?_
    refine eg_k_aload rfl rfl ?_
    refine eg_k_gfr rfl rfl rfl eh_r44_3 ?_
    refine eg_k_gfa rfl rfl rfl eh_r29_2 ?_
    refine eg_k_iload rfl rfl ?_
    obtain ⟨b5, hx⟩ := vb_if hx
    refine eg_k_iald (k := 2000) rfl rfl b5.1 b5.2 ?_
    refine eg_k_i2l rfl ?_
    obtain ⟨m8, h6, hx⟩ := vb_bind hx
    refine eg_k_call (c1 := 0) (z1 := 0) (as := [.inr (.inr (some 15)), .inl r2.1, .inl 1, .inr (.inl (r2.2 31 (a).toNat))]) (rest := []) rfl eg_tj94 (Nat.le_of_ble_eq_true rfl) rfl rfl rfl (Nat.le_of_ble_eq_true rfl) (Nat.le_refl _) (Nat.le_refl _) ?_ (fun Q hQ => ft_94 h6 hQ)
    refine eg_k_aload rfl rfl ?_
    refine eg_k_gfr rfl rfl rfl eh_r44_1 ?_
    refine eg_k_iload rfl rfl ?_
    refine eg_k_ci rfl ?_
    refine eg_k_aload rfl rfl ?_
    refine eg_k_gfr rfl rfl rfl eh_r44_3 ?_
    refine eg_k_gfa rfl rfl rfl eh_r29_4 ?_
    refine eg_k_iload rfl rfl ?_
    refine eg_k_iald (k := 2000) rfl rfl b5.1 b5.2 ?_
    refine eg_k_i2l rfl ?_
    obtain ⟨m12, h10, hx⟩ := vb_bind hx
    refine eg_k_call (c1 := 0) (z1 := 0) (as := [.inr (.inr (some 15)), .inl r2.1, .inl 2, .inr (.inl (m8 33 (a).toNat))]) (rest := []) rfl eg_tj94 (Nat.le_of_ble_eq_true rfl) rfl rfl rfl (Nat.le_of_ble_eq_true rfl) (Nat.le_refl _) (Nat.le_refl _) ?_ (fun Q hQ => ft_94 h10 hQ)
    refine eg_k_aload rfl rfl ?_
    refine eg_k_iload rfl rfl ?_
    obtain ⟨r14, h13, hx⟩ := vb_bind hx
    refine eg_k_call (c1 := 0) (z1 := 0) (as := [.inl r2.1]) (rest := [.inr (.inr (some 44))]) rfl eg_tj95 (Nat.le_of_ble_eq_true rfl) rfl rfl trivial (Nat.le_of_ble_eq_true rfl) (Nat.le_refl _) (Nat.le_refl _) ?_ (fun Q hQ => ft_95 h13 hQ)
    obtain ⟨m18, h16, hx⟩ := vb_bind hx
    refine eg_k_call (c1 := 0) (z1 := 0) (as := [.inr (.inr (some 44)), .inr (.inl r14)]) (rest := []) rfl eg_tj103 (Nat.le_of_ble_eq_true rfl) rfl rfl rfl (Nat.le_of_ble_eq_true rfl) (Nat.le_refl _) (Nat.le_refl _) ?_ (fun Q hQ => ft_103 h16 hQ)
    have hx := Option.some.inj hx
    subst hx
    exact eg_k_ret rfl rfl (Nat.le_refl _) (Nat.le_refl _) hK
theorem fw_117 {cn : Nat} {mo : Nat} {M : eM} {c : Nat} {a : Int} {x : eM} (hx : fn_117 cn mo a M = some x) (hc : c ∉ ([15, 16, 17, 18, 19, 20, 29, 44] : List Nat)) (j : Nat) : x c j = M c j := by
  obtain ⟨v, hK⟩ : ∃ v, x c j = v := ⟨_, rfl⟩
  rw [hK]
  refine Eq.symm ?_
  obtain ⟨r2, h1, hx⟩ := vb_bind hx
  refine vb_ite hx (fun _ hx => ?_) (fun _ hx => ?_)
  · have hx := Option.some.inj hx
    subst hx
    exact ((fw_93 h1 (vsub hc (by decide)) j).trans rfl).symm.trans hK
  · obtain ⟨_, hx⟩ := vb_if hx
    obtain ⟨m8, h6, hx⟩ := vb_bind hx
    obtain ⟨m12, h10, hx⟩ := vb_bind hx
    obtain ⟨r14, h13, hx⟩ := vb_bind hx
    obtain ⟨m18, h16, hx⟩ := vb_bind hx
    have hx := Option.some.inj hx
    subst hx
    exact ((fw_103 h16 (vsub hc (by decide)) j).trans ((fw_94 h10 (vsub hc (by decide)) j).trans ((fw_94 h6 (vsub hc (by decide)) j).trans ((fw_93 h1 (vsub hc (by decide)) j).trans rfl)))).symm.trans hK
/-- 119: WeakScheme$Held.keep(IJ)V -/
noncomputable def fn_119 (a : Int) (b : Int) (M : eM) : Option (eM) :=
  if 0 ≤ a ∧ a < 2000 then
  if 9 ≤ (M 34 (a).toNat) then
      some M
    else
      if 0 ≤ (eg_wi ((eg_wi (a * 9)) + (M 34 (a).toNat))) ∧ (eg_wi ((eg_wi (a * 9)) + (M 34 (a).toNat))) < 18000 then
      some (eg_u (eg_u M 35 (eg_wi ((eg_wi (a * 9)) + (M 34 (a).toNat))).toNat b) 34 (a).toNat (eg_wi ((M 34 (a).toNat) + 1)))
      else none
  else none
set_option maxRecDepth 100000 in
theorem ft_119 {cn mo : Nat} {sc : eg_Sc} {d : Nat} {M : eM} {Q : Option eg_V → eg_H → Prop} {a : Int} {b : Int} {x : eM} (hx : fn_119 a b M = some x) (hK : Q (none) (em_L cn mo, eh_R, x)) : eg_wp sc (d + 1) 119 [.inr (.inr (some 29)), .inl a, .inr (.inl b)] (em_L cn mo, eh_R, M) 0 0 Q := by
  refine eg_in (lv := [some (.inr (.inr (some 29))), some (.inl a), some (.inr (.inl b)), none]) eg_tj119 (Nat.le_of_ble_eq_true rfl) rfl ?_
  refine eg_k_aload rfl rfl ?_
  refine eg_k_gfa rfl rfl rfl eh_r29_5 ?_
  refine eg_k_iload rfl rfl ?_
  obtain ⟨b1, hx⟩ := vb_if hx
  refine eg_k_iald (k := 2000) rfl rfl b1.1 b1.2 ?_
  refine eg_k_ci rfl ?_
  refine vk_icmp rfl hx Iff.rfl (fun c2 hx => ?_) (fun c2 hx => ?_)
  · have hx := Option.some.inj hx
    subst hx
    exact eg_k_ret rfl rfl (Nat.le_refl _) (Nat.le_refl _) hK
  · refine eg_k_aload rfl rfl ?_
    refine eg_k_gfa rfl rfl rfl eh_r29_6 ?_
    refine eg_k_iload rfl rfl ?_
    refine eg_k_ci rfl ?_
    refine eg_k_imul rfl ?_
    refine eg_k_aload rfl rfl ?_
    refine eg_k_gfa rfl rfl rfl eh_r29_5 ?_
    refine eg_k_iload rfl rfl ?_
    refine eg_k_iald (k := 2000) rfl rfl b1.1 b1.2 ?_
    refine eg_k_iadd rfl ?_
    refine eg_k_lload rfl rfl ?_
    obtain ⟨b4, hx⟩ := vb_if hx
    refine eg_k_last (k := 18000) rfl rfl b4.1 b4.2 ?_
    refine eg_k_aload rfl rfl ?_
    refine eg_k_gfa rfl rfl rfl eh_r29_5 ?_
    refine eg_k_iload rfl rfl ?_
    refine eg_k_dup2 rfl ?_
    refine vk_iald (k := 2000) (y := M 34 (a).toNat) rfl rfl b1.1 b1.2 rfl ?_
    refine eg_k_ci rfl ?_
    refine eg_k_iadd rfl ?_
    refine eg_k_iast (k := 2000) rfl rfl b1.1 b1.2 ?_
    have hx := Option.some.inj hx
    subst hx
    exact eg_k_ret rfl rfl (Nat.le_refl _) (Nat.le_refl _) hK
theorem fw_119 {M : eM} {c : Nat} {a : Int} {b : Int} {x : eM} (hx : fn_119 a b M = some x) (hc : c ∉ ([34, 35] : List Nat)) (j : Nat) : x c j = M c j := by
  obtain ⟨v, hK⟩ : ∃ v, x c j = v := ⟨_, rfl⟩
  rw [hK]
  refine Eq.symm ?_
  obtain ⟨_, hx⟩ := vb_if hx
  refine vb_ite hx (fun _ hx => ?_) (fun _ hx => ?_)
  · have hx := Option.some.inj hx
    subst hx
    exact (Eq.refl _).symm.trans hK
  · obtain ⟨_, hx⟩ := vb_if hx
    have hx := Option.some.inj hx
    subst hx
    exact ((congrFun (eg_u_ne (vne hc (a := 34) (by decide))) j).trans ((congrFun (eg_u_ne (vne hc (a := 35) (by decide))) j).trans rfl)).symm.trans hK
noncomputable def fn_118_25 (cn : Nat) (mo : Nat) (x1 : Int) (x2 : Int) (x3 : Int) (x4 : Int) (x6 : Int) (M : eM) : Option (eM) :=
  if 0 ≤ x1 ∧ x1 < 2000 then
  if 0 ≤ x2 ∧ x2 < 20000 then
    if (M 5 (x2).toNat) ≤ x6 then
        some (eg_u (eg_u M 32 (x1).toNat x6) 30 (x1).toNat x4)
      else
        (fn_111 cn mo (eg_wi (x6 + x3)) (M 33 (x1).toNat) (eg_u M 32 (x1).toNat x6)).bind fun m10 =>
        some m10
    else none
  else none
/-- 118: WeakScheme$Machine.gather(IIII)V -/
noncomputable def fn_118 (cn : Nat) (mo : Nat) (a : Int) (b : Int) (e : Int) (f : Int) (M : eM) : Option (eM) :=
  if 0 ≤ a ∧ a < 2000 then
  if (M 32 (a).toNat) = b then
      fn_118_25 cn mo a b e f (eg_wi (b + 1)) M
    else
      (fn_119 a (M 44 9) M).bind fun m13 =>
      if 0 ≤ (M 32 (a).toNat) ∧ (M 32 (a).toNat) < 20000 then
      fn_118_25 cn mo a b e f (m13 5 (M 32 (a).toNat).toNat) m13
      else none
  else none
set_option maxRecDepth 100000 in
theorem ft_118_25 {cn mo : Nat} {sc : eg_Sc} {d : Nat} {M : eM} {Q : Option eg_V → eg_H → Prop} {x1 : Int} {x2 : Int} {x3 : Int} {x4 : Int} {x6 : Int} {x : eM} (hx : fn_118_25 cn mo x1 x2 x3 x4 x6 M = some x) (hK : (fun (x : eM) => Q (none) (em_L cn mo, eh_R, x)) x) : ∀ (w5 : Option eg_V), eg_X sc (eg_wp sc (d + 3)) eg_p118 none 0 0 Q 25 [some (.inr (.inr (some 44))), some (.inl x1), some (.inl x2), some (.inl x3), some (.inl x4), w5, some (.inl x6)] [] (em_L cn mo, eh_R, M) 0 0 := by
  intro w5
  refine eg_k_aload rfl rfl ?_
  refine eg_k_gfr rfl rfl rfl eh_r44_3 ?_
  refine eg_k_gfa rfl rfl rfl eh_r29_3 ?_
  refine eg_k_iload rfl rfl ?_
  refine eg_k_iload rfl rfl ?_
  obtain ⟨b3, hx⟩ := vb_if hx
  refine eg_k_iast (k := 2000) rfl rfl b3.1 b3.2 ?_
  refine eg_k_iload rfl rfl ?_
  refine eg_k_aload rfl rfl ?_
  refine eg_k_gfr rfl rfl rfl eh_r44_0 ?_
  refine eg_k_gfa rfl rfl rfl eh_r1_4 ?_
  refine eg_k_iload rfl rfl ?_
  obtain ⟨b4, hx⟩ := vb_if hx
  refine vk_iald (k := 20000) (y := M 5 (x2).toNat) rfl rfl b4.1 b4.2 rfl ?_
  refine vk_icmp rfl hx Iff.rfl (fun c5 hx => ?_) (fun c5 hx => ?_)
  · refine eg_k_aload rfl rfl ?_
    refine eg_k_gfr rfl rfl rfl eh_r44_3 ?_
    refine eg_k_gfa rfl rfl rfl eh_r29_1 ?_
    refine eg_k_iload rfl rfl ?_
    refine eg_k_iload rfl rfl ?_
    refine eg_k_iast (k := 2000) rfl rfl b3.1 b3.2 ?_
    have hx := Option.some.inj hx
    subst hx
    exact eg_k_ret rfl rfl (Nat.le_refl _) (Nat.le_refl _) hK
  · refine eg_k_aload rfl rfl ?_
    refine eg_k_iload rfl rfl ?_
    refine eg_k_iload rfl rfl ?_
    refine eg_k_iadd rfl ?_
    refine eg_k_aload rfl rfl ?_
    refine eg_k_gfr rfl rfl rfl eh_r44_3 ?_
    refine eg_k_gfa rfl rfl rfl eh_r29_4 ?_
    refine eg_k_iload rfl rfl ?_
    refine vk_iald (k := 2000) (y := M 33 (x1).toNat) rfl rfl b3.1 b3.2 rfl ?_
    obtain ⟨m10, h8, hx⟩ := vb_bind hx
    refine eg_k_call (c1 := 0) (z1 := 0) (as := [.inr (.inr (some 44)), .inl (eg_wi (x6 + x3)), .inl (M 33 (x1).toNat)]) (rest := []) rfl eg_tj111 (Nat.le_of_ble_eq_true rfl) rfl rfl rfl (Nat.le_of_ble_eq_true rfl) (Nat.le_refl _) (Nat.le_refl _) ?_ (fun Q hQ => ft_111 h8 hQ)
    refine eg_k_goto rfl ?_
    have hx := Option.some.inj hx
    subst hx
    exact eg_k_ret rfl rfl (Nat.le_refl _) (Nat.le_refl _) hK
set_option maxRecDepth 100000 in
theorem ft_118 {cn mo : Nat} {sc : eg_Sc} {d : Nat} {M : eM} {Q : Option eg_V → eg_H → Prop} {a : Int} {b : Int} {e : Int} {f : Int} {x : eM} (hx : fn_118 cn mo a b e f M = some x) (hK : Q (none) (em_L cn mo, eh_R, x)) : eg_wp sc (d + 4) 118 [.inr (.inr (some 44)), .inl a, .inl b, .inl e, .inl f] (em_L cn mo, eh_R, M) 0 0 Q := by
  refine eg_in (lv := [some (.inr (.inr (some 44))), some (.inl a), some (.inl b), some (.inl e), some (.inl f), none, none]) eg_tj118 (Nat.le_of_ble_eq_true rfl) rfl ?_
  refine eg_k_aload rfl rfl ?_
  refine eg_k_gfr rfl rfl rfl eh_r44_3 ?_
  refine eg_k_gfa rfl rfl rfl eh_r29_3 ?_
  refine eg_k_iload rfl rfl ?_
  obtain ⟨b1, hx⟩ := vb_if hx
  refine eg_k_iald (k := 2000) rfl rfl b1.1 b1.2 ?_
  refine eg_k_istore (lv' := [some (.inr (.inr (some 44))), some (.inl a), some (.inl b), some (.inl e), some (.inl f), some (.inl (M 32 (a).toNat)), none]) rfl rfl ?_
  refine eg_k_iload rfl rfl ?_
  refine eg_k_ci rfl ?_
  refine eg_k_iadd rfl ?_
  refine eg_k_istore (lv' := [some (.inr (.inr (some 44))), some (.inl a), some (.inl b), some (.inl e), some (.inl f), some (.inl (M 32 (a).toNat)), some (.inl (eg_wi (b + 1)))]) rfl rfl ?_
  refine eg_k_iload rfl rfl ?_
  refine eg_k_iload rfl rfl ?_
  refine vk_icmp rfl hx Iff.rfl (fun c2 hx => ?_) (fun c2 hx => ?_)
  · have hz := ft_118_25 (d := d) (sc := sc) hx hK
    exact hz (some (.inl (M 32 (a).toNat)))
  · refine eg_k_aload rfl rfl ?_
    refine eg_k_gfr rfl rfl rfl eh_r44_3 ?_
    refine eg_k_iload rfl rfl ?_
    refine eg_k_aload rfl rfl ?_
    refine eg_k_gfl rfl rfl rfl ?_
    obtain ⟨m13, h11, hx⟩ := vb_bind hx
    refine eg_k_call (c1 := 0) (z1 := 0) (as := [.inr (.inr (some 29)), .inl a, .inr (.inl (M 44 9))]) (rest := []) rfl eg_tj119 (Nat.le_of_ble_eq_true rfl) rfl rfl rfl (Nat.le_of_ble_eq_true rfl) (Nat.le_refl _) (Nat.le_refl _) ?_ (fun Q hQ => ft_119 h11 hQ)
    refine eg_k_aload rfl rfl ?_
    refine eg_k_gfr rfl rfl rfl eh_r44_0 ?_
    refine eg_k_gfa rfl rfl rfl eh_r1_4 ?_
    refine eg_k_iload rfl rfl ?_
    obtain ⟨b14, hx⟩ := vb_if hx
    refine eg_k_iald (k := 20000) rfl rfl b14.1 b14.2 ?_
    refine eg_k_istore (lv' := [some (.inr (.inr (some 44))), some (.inl a), some (.inl b), some (.inl e), some (.inl f), some (.inl (M 32 (a).toNat)), some (.inl (m13 5 (M 32 (a).toNat).toNat))]) rfl rfl ?_
    have hz := ft_118_25 (d := d) (sc := sc) hx hK
    exact hz (some (.inl (M 32 (a).toNat)))
theorem fw_118_25 {cn : Nat} {mo : Nat} {M : eM} {c j : Nat} {v : Int} {x1 : Int} {x2 : Int} {x3 : Int} {x4 : Int} {x6 : Int} {x : eM} (hc : c ∉ ([29, 30, 31, 32, 33, 34, 35, 44] : List Nat)) (hx : fn_118_25 cn mo x1 x2 x3 x4 x6 M = some x) (hK : (fun (x : eM) => x c j = v) x) : M c j = v := by
  obtain ⟨_, hx⟩ := vb_if hx
  obtain ⟨_, hx⟩ := vb_if hx
  refine vb_ite hx (fun _ hx => ?_) (fun _ hx => ?_)
  · have hx := Option.some.inj hx
    subst hx
    exact ((congrFun (eg_u_ne (vne hc (a := 30) (by decide))) j).trans ((congrFun (eg_u_ne (vne hc (a := 32) (by decide))) j).trans rfl)).symm.trans hK
  · obtain ⟨m10, h8, hx⟩ := vb_bind hx
    have hx := Option.some.inj hx
    subst hx
    exact ((fw_111 h8 (vsub hc (by decide)) j).trans ((congrFun (eg_u_ne (vne hc (a := 32) (by decide))) j).trans rfl)).symm.trans hK
theorem fw_118 {cn : Nat} {mo : Nat} {M : eM} {c : Nat} {a : Int} {b : Int} {e : Int} {f : Int} {x : eM} (hx : fn_118 cn mo a b e f M = some x) (hc : c ∉ ([29, 30, 31, 32, 33, 34, 35, 44] : List Nat)) (j : Nat) : x c j = M c j := by
  obtain ⟨v, hK⟩ : ∃ v, x c j = v := ⟨_, rfl⟩
  rw [hK]
  refine Eq.symm ?_
  obtain ⟨_, hx⟩ := vb_if hx
  refine vb_ite hx (fun _ hx => ?_) (fun _ hx => ?_)
  · have hz := fw_118_25 hc hx hK
    exact (Eq.refl _).symm.trans hz
  · obtain ⟨m13, h11, hx⟩ := vb_bind hx
    obtain ⟨_, hx⟩ := vb_if hx
    have hz := fw_118_25 hc hx hK
    exact ((fw_119 h11 (vsub hc (by decide)) j).trans rfl).symm.trans hz
noncomputable def fn_121_34 (cn : Nat) (mo : Nat) (x1 : Int) (x2 : Int) (x3 : Int) (x4 : Int) (x5 : Int) (x6 : Int) (s1 : Int) (s2 : eM) : Option ((Int × eM) ⊕ (Int × eM)) :=
  if x5 ≤ s1 then
    some (.inr (x6, s2))
  else
    (fn_73 x1 (eg_wi (x2 + s1)) s2).bind fun r14 =>
    (fn_94 cn mo x6 (eg_wi (3 + s1)) r14 s2).bind fun m18 =>
    some (.inl (eg_wi (s1 + 1), m18))
/-- 121: WeakScheme$Machine.makeFrame(IIII)I -/
noncomputable def fn_121 (cn : Nat) (mo : Nat) (a : Int) (b : Int) (e : Int) (f : Int) (M : eM) : Option (Int × eM) :=
  if 0 ≤ a ∧ a < 2000 then
  (fn_93 cn mo 4 (eg_wi (3 + (eg_wi ((M 34 (a).toNat) - b)))) M).bind fun r3 =>
    if r3.1 = 0 then
      some (r3.1, r3.2)
    else
      (fn_94 cn mo r3.1 1 e r3.2).bind fun m8 =>
      (fn_94 cn mo r3.1 2 f m8).bind fun m11 =>
      lp (fun z => fn_121_34 cn mo a b e f (eg_wi ((M 34 (a).toNat) - b)) r3.1 z.1 z.2) (0, m11)
  else none
set_option maxRecDepth 100000 in
theorem ft_121_34 {cn mo : Nat} {sc : eg_Sc} {d : Nat} {Q : Option eg_V → eg_H → Prop} {x1 : Int} {x2 : Int} {x3 : Int} {x4 : Int} {x5 : Int} {x6 : Int} {s : Int × eM} {x : Int × eM} (hx : lp (fun z => fn_121_34 cn mo x1 x2 x3 x4 x5 x6 z.1 z.2) s = some x) (hK : (fun (x : Int × eM) => Q (some (.inl ((x).1))) (em_L cn mo, eh_R, (x).2)) x) : eg_X sc (eg_wp sc (d + 1)) eg_p121 (some .int) 0 0 Q 34 [some (.inr (.inr (some 44))), some (.inl x1), some (.inl x2), some (.inl x3), some (.inl x4), some (.inl x5), some (.inl x6), some (.inl s.1)] [] (em_L cn mo, eh_R, s.2) 0 0 := by
  refine lp_sound (P := (fun (s : Int × eM) => eg_X sc (eg_wp sc (d + 1)) eg_p121 (some .int) 0 0 Q 34 [some (.inr (.inr (some 44))), some (.inl x1), some (.inl x2), some (.inl x3), some (.inl x4), some (.inl x5), some (.inl x6), some (.inl s.1)] [] (em_L cn mo, eh_R, s.2) 0 0)) (K := (fun (x : Int × eM) => Q (some (.inl ((x).1))) (em_L cn mo, eh_R, (x).2))) hx hK ?_
  intro s x hx hK
  obtain ⟨s1, s2⟩ := s
  refine eg_k_iload rfl rfl ?_
  refine eg_k_iload rfl rfl ?_
  refine vk_icmp rfl hx Iff.rfl (fun c12 hx => ?_) (fun c12 hx => ?_)
  · refine eg_k_iload rfl rfl ?_
    have hx := Option.some.inj hx
    subst hx
    exact eg_k_iret rfl True.intro (Nat.le_refl _) (Nat.le_refl _) hK
  · refine eg_k_aload rfl rfl ?_
    refine eg_k_gfr rfl rfl rfl eh_r44_1 ?_
    refine eg_k_iload rfl rfl ?_
    refine eg_k_ci rfl ?_
    refine eg_k_iload rfl rfl ?_
    refine eg_k_iadd rfl ?_
    refine eg_k_aload rfl rfl ?_
    refine eg_k_gfr rfl rfl rfl eh_r44_3 ?_
    refine eg_k_iload rfl rfl ?_
    refine eg_k_iload rfl rfl ?_
    refine eg_k_iload rfl rfl ?_
    refine eg_k_iadd rfl ?_
    obtain ⟨r14, h13, hx⟩ := vb_bind hx
    refine eg_k_call (c1 := 0) (z1 := 0) (as := [.inr (.inr (some 29)), .inl x1, .inl (eg_wi (x2 + s1))]) (rest := [.inl (eg_wi (3 + s1)), .inl x6, .inr (.inr (some 15))]) rfl eg_tj73 (Nat.le_of_ble_eq_true rfl) rfl rfl rfl (Nat.le_of_ble_eq_true rfl) (Nat.le_refl _) (Nat.le_refl _) ?_ (fun Q hQ => ft_73 h13 hQ)
    obtain ⟨m18, h16, hx⟩ := vb_bind hx
    refine eg_k_call (c1 := 0) (z1 := 0) (as := [.inr (.inr (some 15)), .inl x6, .inl (eg_wi (3 + s1)), .inr (.inl r14)]) (rest := []) rfl eg_tj94 (Nat.le_of_ble_eq_true rfl) rfl rfl rfl (Nat.le_of_ble_eq_true rfl) (Nat.le_refl _) (Nat.le_refl _) ?_ (fun Q hQ => ft_94 h16 hQ)
    refine eg_k_iinc (lv' := [some (.inr (.inr (some 44))), some (.inl x1), some (.inl x2), some (.inl x3), some (.inl x4), some (.inl x5), some (.inl x6), some (.inl (eg_wi (s1 + 1)))]) rfl rfl rfl ?_
    refine eg_k_goto rfl ?_
    have hx := Option.some.inj hx
    subst hx
    exact hK
set_option maxRecDepth 100000 in
theorem ft_121 {cn mo : Nat} {sc : eg_Sc} {d : Nat} {M : eM} {Q : Option eg_V → eg_H → Prop} {a : Int} {b : Int} {e : Int} {f : Int} {x : Int × eM} (hx : fn_121 cn mo a b e f M = some x) (hK : Q (some (.inl ((x).1))) (em_L cn mo, eh_R, (x).2)) : eg_wp sc (d + 2) 121 [.inr (.inr (some 44)), .inl a, .inl b, .inl e, .inl f] (em_L cn mo, eh_R, M) 0 0 Q := by
  refine eg_in (lv := [some (.inr (.inr (some 44))), some (.inl a), some (.inl b), some (.inl e), some (.inl f), none, none, none]) eg_tj121 (Nat.le_of_ble_eq_true rfl) rfl ?_
  refine eg_k_aload rfl rfl ?_
  refine eg_k_gfr rfl rfl rfl eh_r44_3 ?_
  refine eg_k_gfa rfl rfl rfl eh_r29_5 ?_
  refine eg_k_iload rfl rfl ?_
  obtain ⟨b1, hx⟩ := vb_if hx
  refine eg_k_iald (k := 2000) rfl rfl b1.1 b1.2 ?_
  refine eg_k_iload rfl rfl ?_
  refine eg_k_isub rfl ?_
  refine eg_k_istore (lv' := [some (.inr (.inr (some 44))), some (.inl a), some (.inl b), some (.inl e), some (.inl f), some (.inl (eg_wi ((M 34 (a).toNat) - b))), none, none]) rfl rfl ?_
  refine eg_k_aload rfl rfl ?_
  refine eg_k_gfr rfl rfl rfl eh_r44_1 ?_
  refine eg_k_ci rfl ?_
  refine eg_k_ci rfl ?_
  refine eg_k_iload rfl rfl ?_
  refine eg_k_iadd rfl ?_
  obtain ⟨r3, h2, hx⟩ := vb_bind hx
  refine eg_k_call (c1 := 0) (z1 := 0) (as := [.inr (.inr (some 15)), .inl 4, .inl (eg_wi (3 + (eg_wi ((M 34 (a).toNat) - b))))]) (rest := []) rfl eg_tj93 (Nat.le_of_ble_eq_true rfl) rfl rfl rfl (Nat.le_of_ble_eq_true rfl) (Nat.le_refl _) (Nat.le_refl _) ?_ (fun Q hQ => ft_93 h2 hQ)
  refine eg_k_istore (lv' := [some (.inr (.inr (some 44))), some (.inl a), some (.inl b), some (.inl e), some (.inl f), some (.inl (eg_wi ((M 34 (a).toNat) - b))), some (.inl r3.1), none]) rfl rfl ?_
  refine eg_k_iload rfl rfl ?_
  refine vk_if rfl hx Iff.rfl (fun c5 hx => ?_) (fun c5 hx => ?_)
  · refine eg_k_iload rfl rfl ?_
    have hx := Option.some.inj hx
    subst hx
    exact eg_k_iret rfl True.intro (Nat.le_refl _) (Nat.le_refl _) hK
  · refine eg_k_aload rfl rfl ?_
    refine eg_k_gfr rfl rfl rfl eh_r44_1 ?_
    refine eg_k_iload rfl rfl ?_
    refine eg_k_ci rfl ?_
    refine eg_k_iload rfl rfl ?_
    refine eg_k_i2l rfl ?_
    obtain ⟨m8, h6, hx⟩ := vb_bind hx
    refine eg_k_call (c1 := 0) (z1 := 0) (as := [.inr (.inr (some 15)), .inl r3.1, .inl 1, .inr (.inl e)]) (rest := []) rfl eg_tj94 (Nat.le_of_ble_eq_true rfl) rfl rfl rfl (Nat.le_of_ble_eq_true rfl) (Nat.le_refl _) (Nat.le_refl _) ?_ (fun Q hQ => ft_94 h6 hQ)
    refine eg_k_aload rfl rfl ?_
    refine eg_k_gfr rfl rfl rfl eh_r44_1 ?_
    refine eg_k_iload rfl rfl ?_
    refine eg_k_ci rfl ?_
    refine eg_k_iload rfl rfl ?_
    refine eg_k_i2l rfl ?_
    obtain ⟨m11, h9, hx⟩ := vb_bind hx
    refine eg_k_call (c1 := 0) (z1 := 0) (as := [.inr (.inr (some 15)), .inl r3.1, .inl 2, .inr (.inl f)]) (rest := []) rfl eg_tj94 (Nat.le_of_ble_eq_true rfl) rfl rfl rfl (Nat.le_of_ble_eq_true rfl) (Nat.le_refl _) (Nat.le_refl _) ?_ (fun Q hQ => ft_94 h9 hQ)
    refine eg_k_ci rfl ?_
    refine eg_k_istore (lv' := [some (.inr (.inr (some 44))), some (.inl a), some (.inl b), some (.inl e), some (.inl f), some (.inl (eg_wi ((M 34 (a).toNat) - b))), some (.inl r3.1), some (.inl 0)]) rfl rfl ?_
    have hz := ft_121_34 (d := d) (sc := sc) hx hK
    exact hz
theorem fw_121_34 {cn : Nat} {mo : Nat} {c j : Nat} {v : Int} {x1 : Int} {x2 : Int} {x3 : Int} {x4 : Int} {x5 : Int} {x6 : Int} {s : Int × eM} {x : Int × eM} (hc : c ∉ ([15, 16, 17, 18, 19, 20] : List Nat)) (hx : lp (fun z => fn_121_34 cn mo x1 x2 x3 x4 x5 x6 z.1 z.2) s = some x) (hK : (fun (x : Int × eM) => ((x).2) c j = v) x) : s.2 c j = v := by
  refine lp_sound (P := (fun (s : Int × eM) => s.2 c j = v)) (K := (fun (x : Int × eM) => ((x).2) c j = v)) hx hK ?_
  intro s x hx hK
  obtain ⟨s1, s2⟩ := s
  refine vb_ite hx (fun _ hx => ?_) (fun _ hx => ?_)
  · have hx := Option.some.inj hx
    subst hx
    exact (Eq.refl _).symm.trans hK
  · obtain ⟨r14, h13, hx⟩ := vb_bind hx
    obtain ⟨m18, h16, hx⟩ := vb_bind hx
    have hx := Option.some.inj hx
    subst hx
    exact ((fw_94 h16 (vsub hc (by decide)) j).trans rfl).symm.trans hK
theorem fw_121 {cn : Nat} {mo : Nat} {M : eM} {c : Nat} {a : Int} {b : Int} {e : Int} {f : Int} {x : Int × eM} (hx : fn_121 cn mo a b e f M = some x) (hc : c ∉ ([15, 16, 17, 18, 19, 20] : List Nat)) (j : Nat) : ((x).2) c j = M c j := by
  obtain ⟨v, hK⟩ : ∃ v, ((x).2) c j = v := ⟨_, rfl⟩
  rw [hK]
  refine Eq.symm ?_
  obtain ⟨_, hx⟩ := vb_if hx
  obtain ⟨r3, h2, hx⟩ := vb_bind hx
  refine vb_ite hx (fun _ hx => ?_) (fun _ hx => ?_)
  · have hx := Option.some.inj hx
    subst hx
    exact ((fw_93 h2 (vsub hc (by decide)) j).trans rfl).symm.trans hK
  · obtain ⟨m8, h6, hx⟩ := vb_bind hx
    obtain ⟨m11, h9, hx⟩ := vb_bind hx
    have hz := fw_121_34 hc hx hK
    exact ((fw_94 h9 (vsub hc (by decide)) j).trans ((fw_94 h6 (vsub hc (by decide)) j).trans ((fw_93 h2 (vsub hc (by decide)) j).trans rfl))).symm.trans hz
/-- 120: WeakScheme$Machine.openScope(I)V -/
noncomputable def fn_120 (cn : Nat) (mo : Nat) (a : Int) (M : eM) : Option (eM) :=
  if 0 ≤ a ∧ a < 2000 then
  (fn_121 cn mo a 0 (eg_wi ((M 31 (a).toNat) + 2)) (M 33 (a).toNat) M).bind fun r4 =>
    if r4.1 = 0 then
      some r4.2
    else
      some (eg_u (eg_u (eg_u (eg_u r4.2 34 (a).toNat 0) 33 (a).toNat r4.1) 30 (a).toNat 6) 32 (a).toNat (eg_wi ((M 31 (a).toNat) + 2)))
  else none
set_option maxRecDepth 100000 in
theorem ft_120 {cn mo : Nat} {sc : eg_Sc} {d : Nat} {M : eM} {Q : Option eg_V → eg_H → Prop} {a : Int} {x : eM} (hx : fn_120 cn mo a M = some x) (hK : Q (none) (em_L cn mo, eh_R, x)) : eg_wp sc (d + 3) 120 [.inr (.inr (some 44)), .inl a] (em_L cn mo, eh_R, M) 0 0 Q := by
  refine eg_in (lv := [some (.inr (.inr (some 44))), some (.inl a), none, none]) eg_tj120 (Nat.le_of_ble_eq_true rfl) rfl ?_
  refine eg_k_aload rfl rfl ?_
  refine eg_k_gfr rfl rfl rfl eh_r44_3 ?_
  refine eg_k_gfa rfl rfl rfl eh_r29_2 ?_
  refine eg_k_iload rfl rfl ?_
  obtain ⟨b1, hx⟩ := vb_if hx
  refine eg_k_iald (k := 2000) rfl rfl b1.1 b1.2 ?_
  refine eg_k_ci rfl ?_
  refine eg_k_iadd rfl ?_
  refine eg_k_istore (lv' := [some (.inr (.inr (some 44))), some (.inl a), some (.inl (eg_wi ((M 31 (a).toNat) + 2))), none]) rfl rfl ?_
  refine eg_k_aload rfl rfl ?_
  refine eg_k_iload rfl rfl ?_
  refine eg_k_ci rfl ?_
  refine eg_k_iload rfl rfl ?_
  refine eg_k_aload rfl rfl ?_
  refine eg_k_gfr rfl rfl rfl eh_r44_3 ?_
  refine eg_k_gfa rfl rfl rfl eh_r29_4 ?_
  refine eg_k_iload rfl rfl ?_
  refine eg_k_iald (k := 2000) rfl rfl b1.1 b1.2 ?_
  obtain ⟨r4, h3, hx⟩ := vb_bind hx
  refine eg_k_call (c1 := 0) (z1 := 0) (as := [.inr (.inr (some 44)), .inl a, .inl 0, .inl (eg_wi ((M 31 (a).toNat) + 2)), .inl (M 33 (a).toNat)]) (rest := []) rfl eg_tj121 (Nat.le_of_ble_eq_true rfl) rfl rfl rfl (Nat.le_of_ble_eq_true rfl) (Nat.le_refl _) (Nat.le_refl _) ?_ (fun Q hQ => ft_121 h3 hQ)
  refine eg_k_istore (lv' := [some (.inr (.inr (some 44))), some (.inl a), some (.inl (eg_wi ((M 31 (a).toNat) + 2))), some (.inl r4.1)]) rfl rfl ?_
  refine eg_k_iload rfl rfl ?_
  refine vk_if rfl hx Iff.rfl (fun c6 hx => ?_) (fun c6 hx => ?_)
  · have hx := Option.some.inj hx
    subst hx
    exact eg_k_ret rfl rfl (Nat.le_refl _) (Nat.le_refl _) hK
  · refine eg_k_aload rfl rfl ?_
    refine eg_k_gfr rfl rfl rfl eh_r44_3 ?_
    refine eg_k_gfa rfl rfl rfl eh_r29_5 ?_
    refine eg_k_iload rfl rfl ?_
    refine eg_k_ci rfl ?_
    refine eg_k_iast (k := 2000) rfl rfl b1.1 b1.2 ?_
    refine eg_k_aload rfl rfl ?_
    refine eg_k_gfr rfl rfl rfl eh_r44_3 ?_
    refine eg_k_gfa rfl rfl rfl eh_r29_4 ?_
    refine eg_k_iload rfl rfl ?_
    refine eg_k_iload rfl rfl ?_
    refine eg_k_iast (k := 2000) rfl rfl b1.1 b1.2 ?_
    refine eg_k_aload rfl rfl ?_
    refine eg_k_gfr rfl rfl rfl eh_r44_3 ?_
    refine eg_k_gfa rfl rfl rfl eh_r29_1 ?_
    refine eg_k_iload rfl rfl ?_
    refine eg_k_ci rfl ?_
    refine eg_k_iast (k := 2000) rfl rfl b1.1 b1.2 ?_
    refine eg_k_aload rfl rfl ?_
    refine eg_k_gfr rfl rfl rfl eh_r44_3 ?_
    refine eg_k_gfa rfl rfl rfl eh_r29_3 ?_
    refine eg_k_iload rfl rfl ?_
    refine eg_k_iload rfl rfl ?_
    refine eg_k_iast (k := 2000) rfl rfl b1.1 b1.2 ?_
    have hx := Option.some.inj hx
    subst hx
    exact eg_k_ret rfl rfl (Nat.le_refl _) (Nat.le_refl _) hK
theorem fw_120 {cn : Nat} {mo : Nat} {M : eM} {c : Nat} {a : Int} {x : eM} (hx : fn_120 cn mo a M = some x) (hc : c ∉ ([15, 16, 17, 18, 19, 20, 30, 32, 33, 34] : List Nat)) (j : Nat) : x c j = M c j := by
  obtain ⟨v, hK⟩ : ∃ v, x c j = v := ⟨_, rfl⟩
  rw [hK]
  refine Eq.symm ?_
  obtain ⟨_, hx⟩ := vb_if hx
  obtain ⟨r4, h3, hx⟩ := vb_bind hx
  refine vb_ite hx (fun _ hx => ?_) (fun _ hx => ?_)
  · have hx := Option.some.inj hx
    subst hx
    exact ((fw_121 h3 (vsub hc (by decide)) j).trans rfl).symm.trans hK
  · have hx := Option.some.inj hx
    subst hx
    exact ((congrFun (eg_u_ne (vne hc (a := 32) (by decide))) j).trans ((congrFun (eg_u_ne (vne hc (a := 30) (by decide))) j).trans ((congrFun (eg_u_ne (vne hc (a := 33) (by decide))) j).trans ((congrFun (eg_u_ne (vne hc (a := 34) (by decide))) j).trans ((fw_121 h3 (vsub hc (by decide)) j).trans rfl))))).symm.trans hK
noncomputable def fn_122_26 (cn : Nat) (mo : Nat) (x1 : Int) (x2 : Int) (x3 : Int) (M : eM) : Option (eM) :=
  if 0 ≤ x3 ∧ x3 < 20000 then
  if 0 ≤ x2 ∧ x2 < 20000 then
    if (M 5 (x2).toNat) ≤ (M 5 (x3).toNat) then
        (fn_110 cn mo x1 (eg_wi (x2 + 2)) M).bind fun m9 =>
        some m9
      else
        (fn_110 cn mo x1 (M 5 (x3).toNat) M).bind fun m12 =>
        some m12
    else none
  else none
/-- 122: WeakScheme$Machine.repeat(I)V -/
noncomputable def fn_122 (cn : Nat) (mo : Nat) (a : Int) (M : eM) : Option (eM) :=
  if 0 ≤ a ∧ a < 2000 then
  if ¬ (M 32 (a).toNat) = (eg_wi ((M 31 (a).toNat) + 2)) then
      fn_122_26 cn mo a (M 31 (a).toNat) (M 32 (a).toNat) M
    else
      if ¬ (M 44 9) = 4294967296 then
        fn_122_26 cn mo a (M 31 (a).toNat) (M 32 (a).toNat) M
      else
        (fn_103 4294967298 M).bind fun m16 =>
        some m16
  else none
set_option maxRecDepth 100000 in
theorem ft_122_26 {cn mo : Nat} {sc : eg_Sc} {d : Nat} {M : eM} {Q : Option eg_V → eg_H → Prop} {x1 : Int} {x2 : Int} {x3 : Int} {x : eM} (hx : fn_122_26 cn mo x1 x2 x3 M = some x) (hK : (fun (x : eM) => Q (none) (em_L cn mo, eh_R, x)) x) : ∀ (w4 : Option eg_V), eg_X sc (eg_wp sc (d + 4)) eg_p122 none 0 0 Q 26 [some (.inr (.inr (some 44))), some (.inl x1), some (.inl x2), some (.inl x3), w4] [] (em_L cn mo, eh_R, M) 0 0 := by
  intro w4
  refine eg_k_aload rfl rfl ?_
  refine eg_k_gfr rfl rfl rfl eh_r44_0 ?_
  refine eg_k_gfa rfl rfl rfl eh_r1_4 ?_
  refine eg_k_iload rfl rfl ?_
  obtain ⟨b4, hx⟩ := vb_if hx
  refine eg_k_iald (k := 20000) rfl rfl b4.1 b4.2 ?_
  refine eg_k_istore (lv' := [some (.inr (.inr (some 44))), some (.inl x1), some (.inl x2), some (.inl x3), some (.inl (M 5 (x3).toNat))]) rfl rfl ?_
  refine eg_k_aload rfl rfl ?_
  refine eg_k_iload rfl rfl ?_
  refine eg_k_iload rfl rfl ?_
  refine eg_k_aload rfl rfl ?_
  refine eg_k_gfr rfl rfl rfl eh_r44_0 ?_
  refine eg_k_gfa rfl rfl rfl eh_r1_4 ?_
  refine eg_k_iload rfl rfl ?_
  obtain ⟨b5, hx⟩ := vb_if hx
  refine eg_k_iald (k := 20000) rfl rfl b5.1 b5.2 ?_
  refine vk_icmp rfl hx Iff.rfl (fun c6 hx => ?_) (fun c6 hx => ?_)
  · refine eg_k_iload rfl rfl ?_
    refine eg_k_ci rfl ?_
    refine eg_k_iadd rfl ?_
    obtain ⟨m9, h7, hx⟩ := vb_bind hx
    refine eg_k_call (c1 := 0) (z1 := 0) (as := [.inr (.inr (some 44)), .inl x1, .inl (eg_wi (x2 + 2))]) (rest := []) rfl eg_tj110 (Nat.le_of_ble_eq_true rfl) rfl rfl rfl (Nat.le_of_ble_eq_true rfl) (Nat.le_refl _) (Nat.le_refl _) ?_ (fun Q hQ => ft_110 h7 hQ)
    have hx := Option.some.inj hx
    subst hx
    exact eg_k_ret rfl rfl (Nat.le_refl _) (Nat.le_refl _) hK
  · refine eg_k_iload rfl rfl ?_
    refine eg_k_goto rfl ?_
    obtain ⟨m12, h10, hx⟩ := vb_bind hx
    refine eg_k_call (c1 := 0) (z1 := 0) (as := [.inr (.inr (some 44)), .inl x1, .inl (M 5 (x3).toNat)]) (rest := []) rfl eg_tj110 (Nat.le_of_ble_eq_true rfl) rfl rfl rfl (Nat.le_of_ble_eq_true rfl) (Nat.le_refl _) (Nat.le_refl _) ?_ (fun Q hQ => ft_110 h10 hQ)
    have hx := Option.some.inj hx
    subst hx
    exact eg_k_ret rfl rfl (Nat.le_refl _) (Nat.le_refl _) hK
set_option maxRecDepth 100000 in
theorem ft_122 {cn mo : Nat} {sc : eg_Sc} {d : Nat} {M : eM} {Q : Option eg_V → eg_H → Prop} {a : Int} {x : eM} (hx : fn_122 cn mo a M = some x) (hK : Q (none) (em_L cn mo, eh_R, x)) : eg_wp sc (d + 5) 122 [.inr (.inr (some 44)), .inl a] (em_L cn mo, eh_R, M) 0 0 Q := by
  refine eg_in (lv := [some (.inr (.inr (some 44))), some (.inl a), none, none, none]) eg_tj122 (Nat.le_of_ble_eq_true rfl) rfl ?_
  refine eg_k_aload rfl rfl ?_
  refine eg_k_gfr rfl rfl rfl eh_r44_3 ?_
  refine eg_k_gfa rfl rfl rfl eh_r29_2 ?_
  refine eg_k_iload rfl rfl ?_
  obtain ⟨b1, hx⟩ := vb_if hx
  refine eg_k_iald (k := 2000) rfl rfl b1.1 b1.2 ?_
  refine eg_k_istore (lv' := [some (.inr (.inr (some 44))), some (.inl a), some (.inl (M 31 (a).toNat)), none, none]) rfl rfl ?_
  refine eg_k_aload rfl rfl ?_
  refine eg_k_gfr rfl rfl rfl eh_r44_3 ?_
  refine eg_k_gfa rfl rfl rfl eh_r29_3 ?_
  refine eg_k_iload rfl rfl ?_
  refine eg_k_iald (k := 2000) rfl rfl b1.1 b1.2 ?_
  refine eg_k_istore (lv' := [some (.inr (.inr (some 44))), some (.inl a), some (.inl (M 31 (a).toNat)), some (.inl (M 32 (a).toNat)), none]) rfl rfl ?_
  refine eg_k_iload rfl rfl ?_
  refine eg_k_iload rfl rfl ?_
  refine eg_k_ci rfl ?_
  refine eg_k_iadd rfl ?_
  refine vk_icmp rfl hx Iff.rfl (fun c3 hx => ?_) (fun c3 hx => ?_)
  · have hz := ft_122_26 (d := d) (sc := sc) hx hK
    exact hz none
  · refine eg_k_aload rfl rfl ?_
    refine eg_k_gfl rfl rfl rfl ?_
    refine eg_k_cl rfl ?_
    refine vk_lcmp rfl rfl hx Iff.rfl (fun c13 hx => ?_) (fun c13 hx => ?_)
    · have hz := ft_122_26 (d := d) (sc := sc) hx hK
      exact hz none
    · refine eg_k_aload rfl rfl ?_
      refine eg_k_cl rfl ?_
      obtain ⟨m16, h14, hx⟩ := vb_bind hx
      refine eg_k_call (c1 := 0) (z1 := 0) (as := [.inr (.inr (some 44)), .inr (.inl 4294967298)]) (rest := []) rfl eg_tj103 (Nat.le_of_ble_eq_true rfl) rfl rfl rfl (Nat.le_of_ble_eq_true rfl) (Nat.le_refl _) (Nat.le_refl _) ?_ (fun Q hQ => ft_103 h14 hQ)
      have hx := Option.some.inj hx
      subst hx
      exact eg_k_ret rfl rfl (Nat.le_refl _) (Nat.le_refl _) hK
theorem fw_122_26 {cn : Nat} {mo : Nat} {M : eM} {c j : Nat} {v : Int} {x1 : Int} {x2 : Int} {x3 : Int} {x : eM} (hc : c ∉ ([29, 30, 31, 32, 33, 34, 44] : List Nat)) (hx : fn_122_26 cn mo x1 x2 x3 M = some x) (hK : (fun (x : eM) => x c j = v) x) : M c j = v := by
  obtain ⟨_, hx⟩ := vb_if hx
  obtain ⟨_, hx⟩ := vb_if hx
  refine vb_ite hx (fun _ hx => ?_) (fun _ hx => ?_)
  · obtain ⟨m9, h7, hx⟩ := vb_bind hx
    have hx := Option.some.inj hx
    subst hx
    exact ((fw_110 h7 (vsub hc (by decide)) j).trans rfl).symm.trans hK
  · obtain ⟨m12, h10, hx⟩ := vb_bind hx
    have hx := Option.some.inj hx
    subst hx
    exact ((fw_110 h10 (vsub hc (by decide)) j).trans rfl).symm.trans hK
theorem fw_122 {cn : Nat} {mo : Nat} {M : eM} {c : Nat} {a : Int} {x : eM} (hx : fn_122 cn mo a M = some x) (hc : c ∉ ([29, 30, 31, 32, 33, 34, 44] : List Nat)) (j : Nat) : x c j = M c j := by
  obtain ⟨v, hK⟩ : ∃ v, x c j = v := ⟨_, rfl⟩
  rw [hK]
  refine Eq.symm ?_
  obtain ⟨_, hx⟩ := vb_if hx
  refine vb_ite hx (fun _ hx => ?_) (fun _ hx => ?_)
  · have hz := fw_122_26 hc hx hK
    exact (Eq.refl _).symm.trans hz
  · refine vb_ite hx (fun _ hx => ?_) (fun _ hx => ?_)
    · have hz := fw_122_26 hc hx hK
      exact (Eq.refl _).symm.trans hz
    · obtain ⟨m16, h14, hx⟩ := vb_bind hx
      have hx := Option.some.inj hx
      subst hx
      exact ((fw_103 h14 (vsub hc (by decide)) j).trans rfl).symm.trans hK
noncomputable def fn_123_32 (cn : Nat) (mo : Nat) (x1 : Int) (x2 : Int) (x3 : Int) (x4 : Int) (M : eM) : Option (eM) :=
  if 0 ≤ x3 ∧ x3 < 20000 then
  if 0 ≤ x2 ∧ x2 < 20000 then
    if (M 5 (x2).toNat) ≤ (M 5 (x3).toNat) then
        (fn_109 M).bind fun m11 =>
        some m11
      else
        if (M 44 9) = 4294967296 then
          if ¬ x4 = 0 then
            (fn_109 M).bind fun m16 =>
            some m16
          else
            (fn_110 cn mo x1 (M 5 (x3).toNat) M).bind fun m19 =>
            some m19
        else
          if ¬ x4 = 1 then
            (fn_109 M).bind fun m23 =>
            some m23
          else
            (fn_110 cn mo x1 (M 5 (x3).toNat) M).bind fun m26 =>
            some m26
    else none
  else none
noncomputable def fn_123_22 (cn : Nat) (mo : Nat) (x1 : Int) (x2 : Int) (x3 : Int) (y0 : Int) (M : eM) : Option (eM) :=
  if ¬ x3 = (eg_wi (x2 + 1)) then
    fn_123_32 cn mo x1 x2 x3 y0 M
  else
    (fn_44 y0 M).bind fun r28 =>
    fn_123_32 cn mo x1 x2 x3 y0 (eg_u M 44 9 r28)
/-- 123: WeakScheme$Machine.connect(I)V -/
noncomputable def fn_123 (cn : Nat) (mo : Nat) (a : Int) (M : eM) : Option (eM) :=
  if 0 ≤ a ∧ a < 2000 then
  if ¬ (M 30 (a).toNat) = 8 then
      fn_123_22 cn mo a (M 31 (a).toNat) (M 32 (a).toNat) 0 M
    else
      fn_123_22 cn mo a (M 31 (a).toNat) (M 32 (a).toNat) 1 M
  else none
set_option maxRecDepth 100000 in
theorem ft_123_32 {cn mo : Nat} {sc : eg_Sc} {d : Nat} {M : eM} {Q : Option eg_V → eg_H → Prop} {x1 : Int} {x2 : Int} {x3 : Int} {x4 : Int} {x : eM} (hx : fn_123_32 cn mo x1 x2 x3 x4 M = some x) (hK : (fun (x : eM) => Q (none) (em_L cn mo, eh_R, x)) x) : ∀ (w5 : Option eg_V), eg_X sc (eg_wp sc (d + 4)) eg_p123 none 0 0 Q 32 [some (.inr (.inr (some 44))), some (.inl x1), some (.inl x2), some (.inl x3), some (.inl x4), w5] [] (em_L cn mo, eh_R, M) 0 0 := by
  intro w5
  refine eg_k_aload rfl rfl ?_
  refine eg_k_gfr rfl rfl rfl eh_r44_0 ?_
  refine eg_k_gfa rfl rfl rfl eh_r1_4 ?_
  refine eg_k_iload rfl rfl ?_
  obtain ⟨b6, hx⟩ := vb_if hx
  refine eg_k_iald (k := 20000) rfl rfl b6.1 b6.2 ?_
  refine eg_k_istore (lv' := [some (.inr (.inr (some 44))), some (.inl x1), some (.inl x2), some (.inl x3), some (.inl x4), some (.inl (M 5 (x3).toNat))]) rfl rfl ?_
  refine eg_k_iload rfl rfl ?_
  refine eg_k_aload rfl rfl ?_
  refine eg_k_gfr rfl rfl rfl eh_r44_0 ?_
  refine eg_k_gfa rfl rfl rfl eh_r1_4 ?_
  refine eg_k_iload rfl rfl ?_
  obtain ⟨b7, hx⟩ := vb_if hx
  refine eg_k_iald (k := 20000) rfl rfl b7.1 b7.2 ?_
  refine vk_icmp rfl hx Iff.rfl (fun c8 hx => ?_) (fun c8 hx => ?_)
  · refine eg_k_aload rfl rfl ?_
    obtain ⟨m11, h9, hx⟩ := vb_bind hx
    refine eg_k_call (c1 := 0) (z1 := 0) (as := [.inr (.inr (some 44))]) (rest := []) rfl eg_tj109 (Nat.le_of_ble_eq_true rfl) rfl rfl rfl (Nat.le_of_ble_eq_true rfl) (Nat.le_refl _) (Nat.le_refl _) ?_ (fun Q hQ => ft_109 h9 hQ)
    have hx := Option.some.inj hx
    subst hx
    exact eg_k_ret rfl rfl (Nat.le_refl _) (Nat.le_refl _) hK
  · refine eg_k_iload rfl rfl ?_
    refine eg_k_aload rfl rfl ?_
    refine eg_k_gfl rfl rfl rfl ?_
    refine eg_k_cl rfl ?_
    refine vk_lcmp rfl rfl hx Iff.rfl (fun c12 hx => ?_) (fun c12 hx => ?_)
    · refine eg_k_ci rfl ?_
      refine vk_icmp rfl hx Iff.rfl (fun c13 hx => ?_) (fun c13 hx => ?_)
      · refine eg_k_aload rfl rfl ?_
        obtain ⟨m16, h14, hx⟩ := vb_bind hx
        refine eg_k_call (c1 := 0) (z1 := 0) (as := [.inr (.inr (some 44))]) (rest := []) rfl eg_tj109 (Nat.le_of_ble_eq_true rfl) rfl rfl rfl (Nat.le_of_ble_eq_true rfl) (Nat.le_refl _) (Nat.le_refl _) ?_ (fun Q hQ => ft_109 h14 hQ)
        have hx := Option.some.inj hx
        subst hx
        exact eg_k_ret rfl rfl (Nat.le_refl _) (Nat.le_refl _) hK
      · refine eg_k_aload rfl rfl ?_
        refine eg_k_iload rfl rfl ?_
        refine eg_k_iload rfl rfl ?_
        obtain ⟨m19, h17, hx⟩ := vb_bind hx
        refine eg_k_call (c1 := 0) (z1 := 0) (as := [.inr (.inr (some 44)), .inl x1, .inl (M 5 (x3).toNat)]) (rest := []) rfl eg_tj110 (Nat.le_of_ble_eq_true rfl) rfl rfl rfl (Nat.le_of_ble_eq_true rfl) (Nat.le_refl _) (Nat.le_refl _) ?_ (fun Q hQ => ft_110 h17 hQ)
        refine eg_k_goto rfl ?_
        have hx := Option.some.inj hx
        subst hx
        exact eg_k_ret rfl rfl (Nat.le_refl _) (Nat.le_refl _) hK
    · refine eg_k_ci rfl ?_
      refine eg_k_goto rfl ?_
      refine vk_icmp rfl hx Iff.rfl (fun c20 hx => ?_) (fun c20 hx => ?_)
      · refine eg_k_aload rfl rfl ?_
        obtain ⟨m23, h21, hx⟩ := vb_bind hx
        refine eg_k_call (c1 := 0) (z1 := 0) (as := [.inr (.inr (some 44))]) (rest := []) rfl eg_tj109 (Nat.le_of_ble_eq_true rfl) rfl rfl rfl (Nat.le_of_ble_eq_true rfl) (Nat.le_refl _) (Nat.le_refl _) ?_ (fun Q hQ => ft_109 h21 hQ)
        have hx := Option.some.inj hx
        subst hx
        exact eg_k_ret rfl rfl (Nat.le_refl _) (Nat.le_refl _) hK
      · refine eg_k_aload rfl rfl ?_
        refine eg_k_iload rfl rfl ?_
        refine eg_k_iload rfl rfl ?_
        obtain ⟨m26, h24, hx⟩ := vb_bind hx
        refine eg_k_call (c1 := 0) (z1 := 0) (as := [.inr (.inr (some 44)), .inl x1, .inl (M 5 (x3).toNat)]) (rest := []) rfl eg_tj110 (Nat.le_of_ble_eq_true rfl) rfl rfl rfl (Nat.le_of_ble_eq_true rfl) (Nat.le_refl _) (Nat.le_refl _) ?_ (fun Q hQ => ft_110 h24 hQ)
        refine eg_k_goto rfl ?_
        have hx := Option.some.inj hx
        subst hx
        exact eg_k_ret rfl rfl (Nat.le_refl _) (Nat.le_refl _) hK
set_option maxRecDepth 100000 in
theorem ft_123_22 {cn mo : Nat} {sc : eg_Sc} {d : Nat} {M : eM} {Q : Option eg_V → eg_H → Prop} {x1 : Int} {x2 : Int} {x3 : Int} {y0 : Int} {x : eM} (hx : fn_123_22 cn mo x1 x2 x3 y0 M = some x) (hK : (fun (x : eM) => Q (none) (em_L cn mo, eh_R, x)) x) : ∀ (w4 w5 : Option eg_V), eg_X sc (eg_wp sc (d + 4)) eg_p123 none 0 0 Q 22 [some (.inr (.inr (some 44))), some (.inl x1), some (.inl x2), some (.inl x3), w4, w5] [.inl y0] (em_L cn mo, eh_R, M) 0 0 := by
  intro w4 w5
  refine eg_k_istore (lv' := [some (.inr (.inr (some 44))), some (.inl x1), some (.inl x2), some (.inl x3), some (.inl y0), w5]) rfl rfl ?_
  refine eg_k_iload rfl rfl ?_
  refine eg_k_iload rfl rfl ?_
  refine eg_k_ci rfl ?_
  refine eg_k_iadd rfl ?_
  refine vk_icmp rfl hx Iff.rfl (fun c5 hx => ?_) (fun c5 hx => ?_)
  · have hz := ft_123_32 (d := d) (sc := sc) hx hK
    exact hz w5
  · refine eg_k_aload rfl rfl ?_
    refine eg_k_iload rfl rfl ?_
    obtain ⟨r28, h27, hx⟩ := vb_bind hx
    refine eg_k_call (c1 := 0) (z1 := 0) (as := [.inl y0]) (rest := [.inr (.inr (some 44))]) rfl eg_tj44 (Nat.le_of_ble_eq_true rfl) rfl rfl trivial (Nat.le_of_ble_eq_true rfl) (Nat.le_refl _) (Nat.le_refl _) ?_ (fun Q hQ => ft_44 h27 hQ)
    refine eg_k_pfl rfl rfl rfl ?_
    have hz := ft_123_32 (d := d) (sc := sc) hx hK
    exact hz w5
set_option maxRecDepth 100000 in
theorem ft_123 {cn mo : Nat} {sc : eg_Sc} {d : Nat} {M : eM} {Q : Option eg_V → eg_H → Prop} {a : Int} {x : eM} (hx : fn_123 cn mo a M = some x) (hK : Q (none) (em_L cn mo, eh_R, x)) : eg_wp sc (d + 5) 123 [.inr (.inr (some 44)), .inl a] (em_L cn mo, eh_R, M) 0 0 Q := by
  refine eg_in (lv := [some (.inr (.inr (some 44))), some (.inl a), none, none, none, none]) eg_tj123 (Nat.le_of_ble_eq_true rfl) rfl ?_
  refine eg_k_aload rfl rfl ?_
  refine eg_k_gfr rfl rfl rfl eh_r44_3 ?_
  refine eg_k_gfa rfl rfl rfl eh_r29_2 ?_
  refine eg_k_iload rfl rfl ?_
  obtain ⟨b1, hx⟩ := vb_if hx
  refine eg_k_iald (k := 2000) rfl rfl b1.1 b1.2 ?_
  refine eg_k_istore (lv' := [some (.inr (.inr (some 44))), some (.inl a), some (.inl (M 31 (a).toNat)), none, none, none]) rfl rfl ?_
  refine eg_k_aload rfl rfl ?_
  refine eg_k_gfr rfl rfl rfl eh_r44_3 ?_
  refine eg_k_gfa rfl rfl rfl eh_r29_3 ?_
  refine eg_k_iload rfl rfl ?_
  refine eg_k_iald (k := 2000) rfl rfl b1.1 b1.2 ?_
  refine eg_k_istore (lv' := [some (.inr (.inr (some 44))), some (.inl a), some (.inl (M 31 (a).toNat)), some (.inl (M 32 (a).toNat)), none, none]) rfl rfl ?_
  refine eg_k_aload rfl rfl ?_
  refine eg_k_gfr rfl rfl rfl eh_r44_3 ?_
  refine eg_k_gfa rfl rfl rfl eh_r29_1 ?_
  refine eg_k_iload rfl rfl ?_
  refine eg_k_iald (k := 2000) rfl rfl b1.1 b1.2 ?_
  refine eg_k_ci rfl ?_
  refine vk_icmp rfl hx Iff.rfl (fun c4 hx => ?_) (fun c4 hx => ?_)
  · refine eg_k_ci rfl ?_
    have hz := ft_123_22 (d := d) (sc := sc) hx hK
    exact hz none none
  · refine eg_k_ci rfl ?_
    refine eg_k_goto rfl ?_
    have hz := ft_123_22 (d := d) (sc := sc) hx hK
    exact hz none none
theorem fw_123_32 {cn : Nat} {mo : Nat} {M : eM} {c j : Nat} {v : Int} {x1 : Int} {x2 : Int} {x3 : Int} {x4 : Int} {x : eM} (hc : c ∉ ([29, 30, 31, 32, 33, 34, 44] : List Nat)) (hx : fn_123_32 cn mo x1 x2 x3 x4 M = some x) (hK : (fun (x : eM) => x c j = v) x) : M c j = v := by
  obtain ⟨_, hx⟩ := vb_if hx
  obtain ⟨_, hx⟩ := vb_if hx
  refine vb_ite hx (fun _ hx => ?_) (fun _ hx => ?_)
  · obtain ⟨m11, h9, hx⟩ := vb_bind hx
    have hx := Option.some.inj hx
    subst hx
    exact ((fw_109 h9 (vsub hc (by decide)) j).trans rfl).symm.trans hK
  · refine vb_ite hx (fun _ hx => ?_) (fun _ hx => ?_)
    · refine vb_ite hx (fun _ hx => ?_) (fun _ hx => ?_)
      · obtain ⟨m16, h14, hx⟩ := vb_bind hx
        have hx := Option.some.inj hx
        subst hx
        exact ((fw_109 h14 (vsub hc (by decide)) j).trans rfl).symm.trans hK
      · obtain ⟨m19, h17, hx⟩ := vb_bind hx
        have hx := Option.some.inj hx
        subst hx
        exact ((fw_110 h17 (vsub hc (by decide)) j).trans rfl).symm.trans hK
    · refine vb_ite hx (fun _ hx => ?_) (fun _ hx => ?_)
      · obtain ⟨m23, h21, hx⟩ := vb_bind hx
        have hx := Option.some.inj hx
        subst hx
        exact ((fw_109 h21 (vsub hc (by decide)) j).trans rfl).symm.trans hK
      · obtain ⟨m26, h24, hx⟩ := vb_bind hx
        have hx := Option.some.inj hx
        subst hx
        exact ((fw_110 h24 (vsub hc (by decide)) j).trans rfl).symm.trans hK
theorem fw_123_22 {cn : Nat} {mo : Nat} {M : eM} {c j : Nat} {v : Int} {x1 : Int} {x2 : Int} {x3 : Int} {y0 : Int} {x : eM} (hc : c ∉ ([29, 30, 31, 32, 33, 34, 44] : List Nat)) (hx : fn_123_22 cn mo x1 x2 x3 y0 M = some x) (hK : (fun (x : eM) => x c j = v) x) : M c j = v := by
  refine vb_ite hx (fun _ hx => ?_) (fun _ hx => ?_)
  · have hz := fw_123_32 hc hx hK
    exact (Eq.refl _).symm.trans hz
  · obtain ⟨r28, h27, hx⟩ := vb_bind hx
    have hz := fw_123_32 hc hx hK
    exact ((congrFun (eg_u_ne (vne hc (a := 44) (by decide))) j).trans rfl).symm.trans hz
theorem fw_123 {cn : Nat} {mo : Nat} {M : eM} {c : Nat} {a : Int} {x : eM} (hx : fn_123 cn mo a M = some x) (hc : c ∉ ([29, 30, 31, 32, 33, 34, 44] : List Nat)) (j : Nat) : x c j = M c j := by
  obtain ⟨v, hK⟩ : ∃ v, x c j = v := ⟨_, rfl⟩
  rw [hK]
  refine Eq.symm ?_
  obtain ⟨_, hx⟩ := vb_if hx
  refine vb_ite hx (fun _ hx => ?_) (fun _ hx => ?_)
  · have hz := fw_123_22 hc hx hK
    exact (Eq.refl _).symm.trans hz
  · have hz := fw_123_22 hc hx hK
    exact (Eq.refl _).symm.trans hz
/-- 125: WeakScheme$Machine.enter(I)V -/
noncomputable def fn_125 (cn : Nat) (mo : Nat) (a : Int) (M : eM) : Option (eM) :=
  if ¬ (M 44 10) = 60 then
    (fn_73 a 0 M).bind fun r3 =>
    (fn_78 cn mo (eg_wi r3) 1 M).bind fun r6 =>
    (fn_78 cn mo (eg_wi r3) 2 M).bind fun r9 =>
    (fn_121 cn mo a 1 (eg_wi ((eg_wi r6) + 2)) (eg_wi r9) M).bind fun r12 =>
    if ¬ r12.1 = 0 then
      if 0 ≤ a ∧ a < 2000 then
      if ¬ (r12.2 30 (a).toNat) = 12 then
          (fn_113 14 (eg_wi r6) (eg_wi ((eg_wi r6) + 2)) r12.1 (eg_u (eg_u r12.2 44 10 (eg_wi ((r12.2 44 10) + 1))) 34 (a).toNat 0)).bind fun m20 =>
          some m20
        else
          (fn_113 14 (eg_wi r6) (eg_wi ((eg_wi r6) + 2)) r12.1 (eg_u (eg_u (eg_u r12.2 44 10 (eg_wi ((r12.2 44 10) + 1))) 34 (a).toNat 0) 30 (a).toNat 13)).bind fun m24 =>
          some m24
      else none
    else
      some r12.2
  else
    some (eg_u M 44 8 8)
set_option maxRecDepth 100000 in
theorem ft_125 {cn mo : Nat} {sc : eg_Sc} {d : Nat} {M : eM} {Q : Option eg_V → eg_H → Prop} {a : Int} {x : eM} (hx : fn_125 cn mo a M = some x) (hK : Q (none) (em_L cn mo, eh_R, x)) : eg_wp sc (d + 3) 125 [.inr (.inr (some 44)), .inl a] (em_L cn mo, eh_R, M) 0 0 Q := by
  refine eg_in (lv := [some (.inr (.inr (some 44))), some (.inl a), none, none, none]) eg_tj125 (Nat.le_of_ble_eq_true rfl) rfl ?_
  refine eg_k_aload rfl rfl ?_
  refine eg_k_gfi rfl rfl rfl ?_
  refine eg_k_ci rfl ?_
  refine vk_icmp rfl hx Iff.rfl (fun c1 hx => ?_) (fun c1 hx => ?_)
  · refine eg_k_aload rfl rfl ?_
    refine eg_k_gfr rfl rfl rfl eh_r44_3 ?_
    refine eg_k_iload rfl rfl ?_
    refine eg_k_ci rfl ?_
    obtain ⟨r3, h2, hx⟩ := vb_bind hx
    refine eg_k_call (c1 := 0) (z1 := 0) (as := [.inr (.inr (some 29)), .inl a, .inl 0]) (rest := []) rfl eg_tj73 (Nat.le_of_ble_eq_true rfl) rfl rfl rfl (Nat.le_of_ble_eq_true rfl) (Nat.le_refl _) (Nat.le_refl _) ?_ (fun Q hQ => ft_73 h2 hQ)
    refine eg_k_l2i rfl ?_
    refine eg_k_istore (lv' := [some (.inr (.inr (some 44))), some (.inl a), some (.inl (eg_wi r3)), none, none]) rfl rfl ?_
    refine eg_k_aload rfl rfl ?_
    refine eg_k_gfr rfl rfl rfl eh_r44_1 ?_
    refine eg_k_iload rfl rfl ?_
    refine eg_k_ci rfl ?_
    obtain ⟨r6, h5, hx⟩ := vb_bind hx
    refine eg_k_call (c1 := 0) (z1 := 0) (as := [.inr (.inr (some 15)), .inl (eg_wi r3), .inl 1]) (rest := []) rfl eg_tj78 (Nat.le_of_ble_eq_true rfl) rfl rfl rfl (Nat.le_of_ble_eq_true rfl) (Nat.le_refl _) (Nat.le_refl _) ?_ (fun Q hQ => ft_78 h5 hQ)
    refine eg_k_l2i rfl ?_
    refine eg_k_istore (lv' := [some (.inr (.inr (some 44))), some (.inl a), some (.inl (eg_wi r3)), some (.inl (eg_wi r6)), none]) rfl rfl ?_
    refine eg_k_aload rfl rfl ?_
    refine eg_k_iload rfl rfl ?_
    refine eg_k_ci rfl ?_
    refine eg_k_iload rfl rfl ?_
    refine eg_k_ci rfl ?_
    refine eg_k_iadd rfl ?_
    refine eg_k_aload rfl rfl ?_
    refine eg_k_gfr rfl rfl rfl eh_r44_1 ?_
    refine eg_k_iload rfl rfl ?_
    refine eg_k_ci rfl ?_
    obtain ⟨r9, h8, hx⟩ := vb_bind hx
    refine eg_k_call (c1 := 0) (z1 := 0) (as := [.inr (.inr (some 15)), .inl (eg_wi r3), .inl 2]) (rest := [.inl (eg_wi ((eg_wi r6) + 2)), .inl 1, .inl a, .inr (.inr (some 44))]) rfl eg_tj78 (Nat.le_of_ble_eq_true rfl) rfl rfl rfl (Nat.le_of_ble_eq_true rfl) (Nat.le_refl _) (Nat.le_refl _) ?_ (fun Q hQ => ft_78 h8 hQ)
    refine eg_k_l2i rfl ?_
    obtain ⟨r12, h11, hx⟩ := vb_bind hx
    refine eg_k_call (c1 := 0) (z1 := 0) (as := [.inr (.inr (some 44)), .inl a, .inl 1, .inl (eg_wi ((eg_wi r6) + 2)), .inl (eg_wi r9)]) (rest := []) rfl eg_tj121 (Nat.le_of_ble_eq_true rfl) rfl rfl rfl (Nat.le_of_ble_eq_true rfl) (Nat.le_refl _) (Nat.le_refl _) ?_ (fun Q hQ => ft_121 h11 hQ)
    refine eg_k_istore (lv' := [some (.inr (.inr (some 44))), some (.inl a), some (.inl (eg_wi r3)), some (.inl (eg_wi r6)), some (.inl r12.1)]) rfl rfl ?_
    refine eg_k_iload rfl rfl ?_
    refine vk_if rfl hx Iff.rfl (fun c14 hx => ?_) (fun c14 hx => ?_)
    · refine eg_k_aload rfl rfl ?_
      refine eg_k_dupr rfl ?_
      refine eg_k_gfi rfl rfl rfl ?_
      refine eg_k_ci rfl ?_
      refine eg_k_iadd rfl ?_
      refine eg_k_pfi rfl rfl rfl ?_
      refine eg_k_aload rfl rfl ?_
      refine eg_k_gfr rfl rfl rfl eh_r44_3 ?_
      refine eg_k_gfa rfl rfl rfl eh_r29_5 ?_
      refine eg_k_iload rfl rfl ?_
      refine eg_k_ci rfl ?_
      obtain ⟨b15, hx⟩ := vb_if hx
      refine eg_k_iast (k := 2000) rfl rfl b15.1 b15.2 ?_
      refine eg_k_aload rfl rfl ?_
      refine eg_k_gfr rfl rfl rfl eh_r44_3 ?_
      refine eg_k_gfa rfl rfl rfl eh_r29_1 ?_
      refine eg_k_iload rfl rfl ?_
      refine vk_iald (k := 2000) (y := r12.2 30 (a).toNat) rfl rfl b15.1 b15.2 rfl ?_
      refine eg_k_ci rfl ?_
      refine vk_icmp rfl hx Iff.rfl (fun c17 hx => ?_) (fun c17 hx => ?_)
      · refine eg_k_aload rfl rfl ?_
        refine eg_k_ci rfl ?_
        refine eg_k_iload rfl rfl ?_
        refine eg_k_iload rfl rfl ?_
        refine eg_k_ci rfl ?_
        refine eg_k_iadd rfl ?_
        refine eg_k_iload rfl rfl ?_
        obtain ⟨m20, h18, hx⟩ := vb_bind hx
        refine eg_k_call (c1 := 0) (z1 := 0) (as := [.inr (.inr (some 44)), .inl 14, .inl (eg_wi r6), .inl (eg_wi ((eg_wi r6) + 2)), .inl r12.1]) (rest := []) rfl eg_tj113 (Nat.le_of_ble_eq_true rfl) rfl rfl rfl (Nat.le_of_ble_eq_true rfl) (Nat.le_refl _) (Nat.le_refl _) ?_ (fun Q hQ => ft_113 h18 hQ)
        have hx := Option.some.inj hx
        subst hx
        exact eg_k_ret rfl rfl (Nat.le_refl _) (Nat.le_refl _) hK
      · refine eg_k_aload rfl rfl ?_
        refine eg_k_gfr rfl rfl rfl eh_r44_3 ?_
        refine eg_k_gfa rfl rfl rfl eh_r29_1 ?_
        refine eg_k_iload rfl rfl ?_
        refine eg_k_ci rfl ?_
        refine eg_k_iast (k := 2000) rfl rfl b15.1 b15.2 ?_
        refine eg_k_aload rfl rfl ?_
        refine eg_k_ci rfl ?_
        refine eg_k_iload rfl rfl ?_
        refine eg_k_iload rfl rfl ?_
        refine eg_k_ci rfl ?_
        refine eg_k_iadd rfl ?_
        refine eg_k_iload rfl rfl ?_
        obtain ⟨m24, h22, hx⟩ := vb_bind hx
        refine eg_k_call (c1 := 0) (z1 := 0) (as := [.inr (.inr (some 44)), .inl 14, .inl (eg_wi r6), .inl (eg_wi ((eg_wi r6) + 2)), .inl r12.1]) (rest := []) rfl eg_tj113 (Nat.le_of_ble_eq_true rfl) rfl rfl rfl (Nat.le_of_ble_eq_true rfl) (Nat.le_refl _) (Nat.le_refl _) ?_ (fun Q hQ => ft_113 h22 hQ)
        have hx := Option.some.inj hx
        subst hx
        exact eg_k_ret rfl rfl (Nat.le_refl _) (Nat.le_refl _) hK
    · have hx := Option.some.inj hx
      subst hx
      exact eg_k_ret rfl rfl (Nat.le_refl _) (Nat.le_refl _) hK
  · refine eg_k_aload rfl rfl ?_
    refine eg_k_ci rfl ?_
    refine eg_k_pfi rfl rfl rfl ?_
    have hx := Option.some.inj hx
    subst hx
    exact eg_k_ret rfl rfl (Nat.le_refl _) (Nat.le_refl _) hK
theorem fw_125 {cn : Nat} {mo : Nat} {M : eM} {c : Nat} {a : Int} {x : eM} (hx : fn_125 cn mo a M = some x) (hc : c ∉ ([15, 16, 17, 18, 19, 20, 29, 30, 31, 32, 33, 34, 44] : List Nat)) (j : Nat) : x c j = M c j := by
  obtain ⟨v, hK⟩ : ∃ v, x c j = v := ⟨_, rfl⟩
  rw [hK]
  refine Eq.symm ?_
  refine vb_ite hx (fun _ hx => ?_) (fun _ hx => ?_)
  · obtain ⟨r3, h2, hx⟩ := vb_bind hx
    obtain ⟨r6, h5, hx⟩ := vb_bind hx
    obtain ⟨r9, h8, hx⟩ := vb_bind hx
    obtain ⟨r12, h11, hx⟩ := vb_bind hx
    refine vb_ite hx (fun _ hx => ?_) (fun _ hx => ?_)
    · obtain ⟨_, hx⟩ := vb_if hx
      refine vb_ite hx (fun _ hx => ?_) (fun _ hx => ?_)
      · obtain ⟨m20, h18, hx⟩ := vb_bind hx
        have hx := Option.some.inj hx
        subst hx
        exact ((fw_113 h18 (vsub hc (by decide)) j).trans ((congrFun (eg_u_ne (vne hc (a := 34) (by decide))) j).trans ((congrFun (eg_u_ne (vne hc (a := 44) (by decide))) j).trans ((fw_121 h11 (vsub hc (by decide)) j).trans rfl)))).symm.trans hK
      · obtain ⟨m24, h22, hx⟩ := vb_bind hx
        have hx := Option.some.inj hx
        subst hx
        exact ((fw_113 h22 (vsub hc (by decide)) j).trans ((congrFun (eg_u_ne (vne hc (a := 30) (by decide))) j).trans ((congrFun (eg_u_ne (vne hc (a := 34) (by decide))) j).trans ((congrFun (eg_u_ne (vne hc (a := 44) (by decide))) j).trans ((fw_121 h11 (vsub hc (by decide)) j).trans rfl))))).symm.trans hK
    · have hx := Option.some.inj hx
      subst hx
      exact ((fw_121 h11 (vsub hc (by decide)) j).trans rfl).symm.trans hK
  · have hx := Option.some.inj hx
    subst hx
    exact ((congrFun (eg_u_ne (vne hc (a := 44) (by decide))) j).trans rfl).symm.trans hK
/-- 124: WeakScheme$Machine.call(I)V -/
noncomputable def fn_124 (cn : Nat) (mo : Nat) (a : Int) (M : eM) : Option (eM) :=
  (fn_73 a 0 M).bind fun r2 =>
  (fn_76 mo r2 3 M).bind fun r5 =>
  if ¬ r5 = 0 then
    (fn_77 cn mo (eg_wi r2) M).bind fun r9 =>
    if 0 ≤ a ∧ a < 2000 then
    if r9 = (eg_wi ((M 34 (a).toNat) - 1)) then
        (fn_125 cn mo a M).bind fun m15 =>
        some m15
      else
        some (eg_u M 44 8 7)
    else none
  else
    some (eg_u M 44 8 6)
set_option maxRecDepth 100000 in
theorem ft_124 {cn mo : Nat} {sc : eg_Sc} {d : Nat} {M : eM} {Q : Option eg_V → eg_H → Prop} {a : Int} {x : eM} (hx : fn_124 cn mo a M = some x) (hK : Q (none) (em_L cn mo, eh_R, x)) : eg_wp sc (d + 4) 124 [.inr (.inr (some 44)), .inl a] (em_L cn mo, eh_R, M) 0 0 Q := by
  refine eg_in (lv := [some (.inr (.inr (some 44))), some (.inl a), none, none]) eg_tj124 (Nat.le_of_ble_eq_true rfl) rfl ?_
  refine eg_k_aload rfl rfl ?_
  refine eg_k_gfr rfl rfl rfl eh_r44_3 ?_
  refine eg_k_iload rfl rfl ?_
  refine eg_k_ci rfl ?_
  obtain ⟨r2, h1, hx⟩ := vb_bind hx
  refine eg_k_call (c1 := 0) (z1 := 0) (as := [.inr (.inr (some 29)), .inl a, .inl 0]) (rest := []) rfl eg_tj73 (Nat.le_of_ble_eq_true rfl) rfl rfl rfl (Nat.le_of_ble_eq_true rfl) (Nat.le_refl _) (Nat.le_refl _) ?_ (fun Q hQ => ft_73 h1 hQ)
  refine eg_k_lstore (lv' := [some (.inr (.inr (some 44))), some (.inl a), some (.inr (.inl r2)), none]) rfl rfl ?_
  refine eg_k_aload rfl rfl ?_
  refine eg_k_gfr rfl rfl rfl eh_r44_1 ?_
  refine eg_k_lload rfl rfl ?_
  refine eg_k_ci rfl ?_
  obtain ⟨r5, h4, hx⟩ := vb_bind hx
  refine eg_k_call (c1 := 0) (z1 := 0) (as := [.inr (.inr (some 15)), .inr (.inl r2), .inl 3]) (rest := []) rfl eg_tj76 (Nat.le_of_ble_eq_true rfl) rfl rfl rfl (Nat.le_of_ble_eq_true rfl) (Nat.le_refl _) (Nat.le_refl _) ?_ (fun Q hQ => ft_76 h4 hQ)
  refine vk_if rfl hx Iff.rfl (fun c7 hx => ?_) (fun c7 hx => ?_)
  · refine eg_k_aload rfl rfl ?_
    refine eg_k_gfr rfl rfl rfl eh_r44_5 ?_
    refine eg_k_lload rfl rfl ?_
    refine eg_k_l2i rfl ?_
    obtain ⟨r9, h8, hx⟩ := vb_bind hx
    refine eg_k_call (c1 := 0) (z1 := 0) (as := [.inr (.inr (some 43)), .inl (eg_wi r2)]) (rest := []) rfl eg_tj77 (Nat.le_of_ble_eq_true rfl) rfl rfl rfl (Nat.le_of_ble_eq_true rfl) (Nat.le_refl _) (Nat.le_refl _) ?_ (fun Q hQ => ft_77 h8 hQ)
    refine eg_k_aload rfl rfl ?_
    refine eg_k_gfr rfl rfl rfl eh_r44_3 ?_
    refine eg_k_gfa rfl rfl rfl eh_r29_5 ?_
    refine eg_k_iload rfl rfl ?_
    obtain ⟨b11, hx⟩ := vb_if hx
    refine eg_k_iald (k := 2000) rfl rfl b11.1 b11.2 ?_
    refine eg_k_ci rfl ?_
    refine eg_k_isub rfl ?_
    refine vk_icmp rfl hx Iff.rfl (fun c12 hx => ?_) (fun c12 hx => ?_)
    · refine eg_k_aload rfl rfl ?_
      refine eg_k_iload rfl rfl ?_
      obtain ⟨m15, h13, hx⟩ := vb_bind hx
      refine eg_k_call (c1 := 0) (z1 := 0) (as := [.inr (.inr (some 44)), .inl a]) (rest := []) rfl eg_tj125 (Nat.le_of_ble_eq_true rfl) rfl rfl rfl (Nat.le_of_ble_eq_true rfl) (Nat.le_refl _) (Nat.le_refl _) ?_ (fun Q hQ => ft_125 h13 hQ)
      have hx := Option.some.inj hx
      subst hx
      exact eg_k_ret rfl rfl (Nat.le_refl _) (Nat.le_refl _) hK
    · refine eg_k_aload rfl rfl ?_
      refine eg_k_ci rfl ?_
      refine eg_k_pfi rfl rfl rfl ?_
      refine eg_k_goto rfl ?_
      have hx := Option.some.inj hx
      subst hx
      exact eg_k_ret rfl rfl (Nat.le_refl _) (Nat.le_refl _) hK
  · refine eg_k_aload rfl rfl ?_
    refine eg_k_ci rfl ?_
    refine eg_k_pfi rfl rfl rfl ?_
    refine eg_k_goto rfl ?_
    have hx := Option.some.inj hx
    subst hx
    exact eg_k_ret rfl rfl (Nat.le_refl _) (Nat.le_refl _) hK
theorem fw_124 {cn : Nat} {mo : Nat} {M : eM} {c : Nat} {a : Int} {x : eM} (hx : fn_124 cn mo a M = some x) (hc : c ∉ ([15, 16, 17, 18, 19, 20, 29, 30, 31, 32, 33, 34, 44] : List Nat)) (j : Nat) : x c j = M c j := by
  obtain ⟨v, hK⟩ : ∃ v, x c j = v := ⟨_, rfl⟩
  rw [hK]
  refine Eq.symm ?_
  obtain ⟨r2, h1, hx⟩ := vb_bind hx
  obtain ⟨r5, h4, hx⟩ := vb_bind hx
  refine vb_ite hx (fun _ hx => ?_) (fun _ hx => ?_)
  · obtain ⟨r9, h8, hx⟩ := vb_bind hx
    obtain ⟨_, hx⟩ := vb_if hx
    refine vb_ite hx (fun _ hx => ?_) (fun _ hx => ?_)
    · obtain ⟨m15, h13, hx⟩ := vb_bind hx
      have hx := Option.some.inj hx
      subst hx
      exact ((fw_125 h13 (vsub hc (by decide)) j).trans rfl).symm.trans hK
    · have hx := Option.some.inj hx
      subst hx
      exact ((congrFun (eg_u_ne (vne hc (a := 44) (by decide))) j).trans rfl).symm.trans hK
  · have hx := Option.some.inj hx
    subst hx
    exact ((congrFun (eg_u_ne (vne hc (a := 44) (by decide))) j).trans rfl).symm.trans hK
/-- 129: WeakScheme$Finalizers.dropFirst()V -/
noncomputable def fn_129 (M : eM) : Option (eM) :=
  some (eg_u (eg_u M 21 5 (eg_wi ((eg_wi ((M 21 5) + 1)) - eg_wi (Int.tdiv (eg_wi ((M 21 5) + 1)) 500) * 500))) 21 6 (eg_wi ((M 21 6) - 1)))
set_option maxRecDepth 100000 in
theorem ft_129 {cn mo : Nat} {sc : eg_Sc} {d : Nat} {M : eM} {Q : Option eg_V → eg_H → Prop} {x : eM} (hx : fn_129 M = some x) (hK : Q (none) (em_L cn mo, eh_R, x)) : eg_wp sc (d + 1) 129 [.inr (.inr (some 21))] (em_L cn mo, eh_R, M) 0 0 Q := by
  refine eg_in (lv := [some (.inr (.inr (some 21)))]) eg_tj129 (Nat.le_of_ble_eq_true rfl) rfl ?_
  refine eg_k_aload rfl rfl ?_
  refine eg_k_aload rfl rfl ?_
  refine eg_k_gfi rfl rfl rfl ?_
  refine eg_k_ci rfl ?_
  refine eg_k_iadd rfl ?_
  refine eg_k_ci rfl ?_
  refine eg_k_irem rfl (by decide) ?_
  refine eg_k_pfi rfl rfl rfl ?_
  refine eg_k_aload rfl rfl ?_
  refine eg_k_dupr rfl ?_
  refine eg_k_gfie (x := M 21 6) rfl rfl rfl rfl ?_
  refine eg_k_ci rfl ?_
  refine eg_k_isub rfl ?_
  refine eg_k_pfi rfl rfl rfl ?_
  have hx := Option.some.inj hx
  subst hx
  exact eg_k_ret rfl rfl (Nat.le_refl _) (Nat.le_refl _) hK
theorem fw_129 {M : eM} {c : Nat} {x : eM} (hx : fn_129 M = some x) (hc : c ∉ ([21] : List Nat)) (j : Nat) : x c j = M c j := by
  obtain ⟨v, hK⟩ : ∃ v, x c j = v := ⟨_, rfl⟩
  rw [hK]
  refine Eq.symm ?_
  have hx := Option.some.inj hx
  subst hx
  exact ((congrFun (eg_u_ne (vne hc (a := 21) (by decide))) j).trans ((congrFun (eg_u_ne (vne hc (a := 21) (by decide))) j).trans rfl)).symm.trans hK
/-- 126: WeakScheme$Machine.callFromQueue(I)V -/
noncomputable def fn_126 (cn : Nat) (mo : Nat) (a : Int) (M : eM) : Option (eM) :=
  if 0 ≤ a ∧ a < 2000 then
  if ¬ (M 34 (a).toNat) = 0 then
      (fn_125 cn mo a M).bind fun m5 =>
      some m5
    else
      if ¬ (M 21 6) = 0 then
        (fn_127 0 M).bind fun r8 =>
        (fn_119 a r8 M).bind fun m12 =>
        (fn_128 0 m12).bind fun r14 =>
        (fn_119 a r14 m12).bind fun m18 =>
        (fn_129 m18).bind fun m21 =>
        (fn_125 cn mo a m21).bind fun m24 =>
        some m24
      else
        (fn_103 4294967298 M).bind fun m27 =>
        some m27
  else none
set_option maxRecDepth 100000 in
theorem ft_126 {cn mo : Nat} {sc : eg_Sc} {d : Nat} {M : eM} {Q : Option eg_V → eg_H → Prop} {a : Int} {x : eM} (hx : fn_126 cn mo a M = some x) (hK : Q (none) (em_L cn mo, eh_R, x)) : eg_wp sc (d + 4) 126 [.inr (.inr (some 44)), .inl a] (em_L cn mo, eh_R, M) 0 0 Q := by
  refine eg_in (lv := [some (.inr (.inr (some 44))), some (.inl a)]) eg_tj126 (Nat.le_of_ble_eq_true rfl) rfl ?_
  refine eg_k_aload rfl rfl ?_
  refine eg_k_gfr rfl rfl rfl eh_r44_3 ?_
  refine eg_k_gfa rfl rfl rfl eh_r29_5 ?_
  refine eg_k_iload rfl rfl ?_
  obtain ⟨b1, hx⟩ := vb_if hx
  refine eg_k_iald (k := 2000) rfl rfl b1.1 b1.2 ?_
  refine vk_if rfl hx Iff.rfl (fun c2 hx => ?_) (fun c2 hx => ?_)
  · refine eg_k_aload rfl rfl ?_
    refine eg_k_iload rfl rfl ?_
    obtain ⟨m5, h3, hx⟩ := vb_bind hx
    refine eg_k_call (c1 := 0) (z1 := 0) (as := [.inr (.inr (some 44)), .inl a]) (rest := []) rfl eg_tj125 (Nat.le_of_ble_eq_true rfl) rfl rfl rfl (Nat.le_of_ble_eq_true rfl) (Nat.le_refl _) (Nat.le_refl _) ?_ (fun Q hQ => ft_125 h3 hQ)
    have hx := Option.some.inj hx
    subst hx
    exact eg_k_ret rfl rfl (Nat.le_refl _) (Nat.le_refl _) hK
  · refine eg_k_aload rfl rfl ?_
    refine eg_k_gfr rfl rfl rfl eh_r44_2 ?_
    refine eg_k_gfi rfl rfl rfl ?_
    refine vk_if rfl hx Iff.rfl (fun c6 hx => ?_) (fun c6 hx => ?_)
    · refine eg_k_aload rfl rfl ?_
      refine eg_k_gfr rfl rfl rfl eh_r44_3 ?_
      refine eg_k_iload rfl rfl ?_
      refine eg_k_aload rfl rfl ?_
      refine eg_k_gfr rfl rfl rfl eh_r44_2 ?_
      refine eg_k_ci rfl ?_
      obtain ⟨r8, h7, hx⟩ := vb_bind hx
      refine eg_k_call (c1 := 0) (z1 := 0) (as := [.inr (.inr (some 21)), .inl 0]) (rest := [.inl a, .inr (.inr (some 29))]) rfl eg_tj127 (Nat.le_of_ble_eq_true rfl) rfl rfl rfl (Nat.le_of_ble_eq_true rfl) (Nat.le_refl _) (Nat.le_refl _) ?_ (fun Q hQ => ft_127 h7 hQ)
      obtain ⟨m12, h10, hx⟩ := vb_bind hx
      refine eg_k_call (c1 := 0) (z1 := 0) (as := [.inr (.inr (some 29)), .inl a, .inr (.inl r8)]) (rest := []) rfl eg_tj119 (Nat.le_of_ble_eq_true rfl) rfl rfl rfl (Nat.le_of_ble_eq_true rfl) (Nat.le_refl _) (Nat.le_refl _) ?_ (fun Q hQ => ft_119 h10 hQ)
      refine eg_k_aload rfl rfl ?_
      refine eg_k_gfr rfl rfl rfl eh_r44_3 ?_
      refine eg_k_iload rfl rfl ?_
      refine eg_k_aload rfl rfl ?_
      refine eg_k_gfr rfl rfl rfl eh_r44_2 ?_
      refine eg_k_ci rfl ?_
      obtain ⟨r14, h13, hx⟩ := vb_bind hx
      refine eg_k_call (c1 := 0) (z1 := 0) (as := [.inr (.inr (some 21)), .inl 0]) (rest := [.inl a, .inr (.inr (some 29))]) rfl eg_tj128 (Nat.le_of_ble_eq_true rfl) rfl rfl rfl (Nat.le_of_ble_eq_true rfl) (Nat.le_refl _) (Nat.le_refl _) ?_ (fun Q hQ => ft_128 h13 hQ)
      obtain ⟨m18, h16, hx⟩ := vb_bind hx
      refine eg_k_call (c1 := 0) (z1 := 0) (as := [.inr (.inr (some 29)), .inl a, .inr (.inl r14)]) (rest := []) rfl eg_tj119 (Nat.le_of_ble_eq_true rfl) rfl rfl rfl (Nat.le_of_ble_eq_true rfl) (Nat.le_refl _) (Nat.le_refl _) ?_ (fun Q hQ => ft_119 h16 hQ)
      refine eg_k_aload rfl rfl ?_
      refine eg_k_gfr rfl rfl rfl eh_r44_2 ?_
      obtain ⟨m21, h19, hx⟩ := vb_bind hx
      refine eg_k_call (c1 := 0) (z1 := 0) (as := [.inr (.inr (some 21))]) (rest := []) rfl eg_tj129 (Nat.le_of_ble_eq_true rfl) rfl rfl rfl (Nat.le_of_ble_eq_true rfl) (Nat.le_refl _) (Nat.le_refl _) ?_ (fun Q hQ => ft_129 h19 hQ)
      refine eg_k_aload rfl rfl ?_
      refine eg_k_iload rfl rfl ?_
      obtain ⟨m24, h22, hx⟩ := vb_bind hx
      refine eg_k_call (c1 := 0) (z1 := 0) (as := [.inr (.inr (some 44)), .inl a]) (rest := []) rfl eg_tj125 (Nat.le_of_ble_eq_true rfl) rfl rfl rfl (Nat.le_of_ble_eq_true rfl) (Nat.le_refl _) (Nat.le_refl _) ?_ (fun Q hQ => ft_125 h22 hQ)
      have hx := Option.some.inj hx
      subst hx
      exact eg_k_ret rfl rfl (Nat.le_refl _) (Nat.le_refl _) hK
    · refine eg_k_aload rfl rfl ?_
      refine eg_k_cl rfl ?_
      obtain ⟨m27, h25, hx⟩ := vb_bind hx
      refine eg_k_call (c1 := 0) (z1 := 0) (as := [.inr (.inr (some 44)), .inr (.inl 4294967298)]) (rest := []) rfl eg_tj103 (Nat.le_of_ble_eq_true rfl) rfl rfl rfl (Nat.le_of_ble_eq_true rfl) (Nat.le_refl _) (Nat.le_refl _) ?_ (fun Q hQ => ft_103 h25 hQ)
      have hx := Option.some.inj hx
      subst hx
      exact eg_k_ret rfl rfl (Nat.le_refl _) (Nat.le_refl _) hK
theorem fw_126 {cn : Nat} {mo : Nat} {M : eM} {c : Nat} {a : Int} {x : eM} (hx : fn_126 cn mo a M = some x) (hc : c ∉ ([15, 16, 17, 18, 19, 20, 21, 29, 30, 31, 32, 33, 34, 35, 44] : List Nat)) (j : Nat) : x c j = M c j := by
  obtain ⟨v, hK⟩ : ∃ v, x c j = v := ⟨_, rfl⟩
  rw [hK]
  refine Eq.symm ?_
  obtain ⟨_, hx⟩ := vb_if hx
  refine vb_ite hx (fun _ hx => ?_) (fun _ hx => ?_)
  · obtain ⟨m5, h3, hx⟩ := vb_bind hx
    have hx := Option.some.inj hx
    subst hx
    exact ((fw_125 h3 (vsub hc (by decide)) j).trans rfl).symm.trans hK
  · refine vb_ite hx (fun _ hx => ?_) (fun _ hx => ?_)
    · obtain ⟨r8, h7, hx⟩ := vb_bind hx
      obtain ⟨m12, h10, hx⟩ := vb_bind hx
      obtain ⟨r14, h13, hx⟩ := vb_bind hx
      obtain ⟨m18, h16, hx⟩ := vb_bind hx
      obtain ⟨m21, h19, hx⟩ := vb_bind hx
      obtain ⟨m24, h22, hx⟩ := vb_bind hx
      have hx := Option.some.inj hx
      subst hx
      exact ((fw_125 h22 (vsub hc (by decide)) j).trans ((fw_129 h19 (vsub hc (by decide)) j).trans ((fw_119 h16 (vsub hc (by decide)) j).trans ((fw_119 h10 (vsub hc (by decide)) j).trans rfl)))).symm.trans hK
    · obtain ⟨m27, h25, hx⟩ := vb_bind hx
      have hx := Option.some.inj hx
      subst hx
      exact ((fw_103 h25 (vsub hc (by decide)) j).trans rfl).symm.trans hK
/-- 130: WeakScheme$Machine.proceed(I)V -/
noncomputable def fn_130 (cn : Nat) (mo : Nat) (a : Int) (M : eM) : Option (eM) :=
  if 0 ≤ a ∧ a < 2000 then
  if 0 ≤ (M 32 (a).toNat) ∧ (M 32 (a).toNat) < 20000 then
    if 0 ≤ (M 31 (a).toNat) ∧ (M 31 (a).toNat) < 20000 then
      if (M 5 (M 31 (a).toNat).toNat) ≤ (M 5 (M 32 (a).toNat).toNat) then
          if ¬ (M 30 (a).toNat) = 14 then
            (fn_109 M).bind fun m10 =>
            some m10
          else
            (fn_109 (eg_u M 44 10 (eg_wi ((M 44 10) - 1)))).bind fun m13 =>
            some m13
        else
          (fn_110 cn mo a (M 5 (M 32 (a).toNat).toNat) M).bind fun m16 =>
          some m16
      else none
    else none
  else none
set_option maxRecDepth 100000 in
theorem ft_130 {cn mo : Nat} {sc : eg_Sc} {d : Nat} {M : eM} {Q : Option eg_V → eg_H → Prop} {a : Int} {x : eM} (hx : fn_130 cn mo a M = some x) (hK : Q (none) (em_L cn mo, eh_R, x)) : eg_wp sc (d + 5) 130 [.inr (.inr (some 44)), .inl a] (em_L cn mo, eh_R, M) 0 0 Q := by
  refine eg_in (lv := [some (.inr (.inr (some 44))), some (.inl a), none]) eg_tj130 (Nat.le_of_ble_eq_true rfl) rfl ?_
  refine eg_k_aload rfl rfl ?_
  refine eg_k_gfr rfl rfl rfl eh_r44_0 ?_
  refine eg_k_gfa rfl rfl rfl eh_r1_4 ?_
  refine eg_k_aload rfl rfl ?_
  refine eg_k_gfr rfl rfl rfl eh_r44_3 ?_
  refine eg_k_gfa rfl rfl rfl eh_r29_3 ?_
  refine eg_k_iload rfl rfl ?_
  obtain ⟨b1, hx⟩ := vb_if hx
  refine eg_k_iald (k := 2000) rfl rfl b1.1 b1.2 ?_
  obtain ⟨b2, hx⟩ := vb_if hx
  refine eg_k_iald (k := 20000) rfl rfl b2.1 b2.2 ?_
  refine eg_k_istore (lv' := [some (.inr (.inr (some 44))), some (.inl a), some (.inl (M 5 (M 32 (a).toNat).toNat))]) rfl rfl ?_
  refine eg_k_iload rfl rfl ?_
  refine eg_k_aload rfl rfl ?_
  refine eg_k_gfr rfl rfl rfl eh_r44_0 ?_
  refine eg_k_gfa rfl rfl rfl eh_r1_4 ?_
  refine eg_k_aload rfl rfl ?_
  refine eg_k_gfr rfl rfl rfl eh_r44_3 ?_
  refine eg_k_gfa rfl rfl rfl eh_r29_2 ?_
  refine eg_k_iload rfl rfl ?_
  refine eg_k_iald (k := 2000) rfl rfl b1.1 b1.2 ?_
  obtain ⟨b4, hx⟩ := vb_if hx
  refine eg_k_iald (k := 20000) rfl rfl b4.1 b4.2 ?_
  refine vk_icmp rfl hx Iff.rfl (fun c5 hx => ?_) (fun c5 hx => ?_)
  · refine eg_k_aload rfl rfl ?_
    refine eg_k_gfr rfl rfl rfl eh_r44_3 ?_
    refine eg_k_gfa rfl rfl rfl eh_r29_1 ?_
    refine eg_k_iload rfl rfl ?_
    refine eg_k_iald (k := 2000) rfl rfl b1.1 b1.2 ?_
    refine eg_k_ci rfl ?_
    refine vk_icmp rfl hx Iff.rfl (fun c7 hx => ?_) (fun c7 hx => ?_)
    · refine eg_k_aload rfl rfl ?_
      obtain ⟨m10, h8, hx⟩ := vb_bind hx
      refine eg_k_call (c1 := 0) (z1 := 0) (as := [.inr (.inr (some 44))]) (rest := []) rfl eg_tj109 (Nat.le_of_ble_eq_true rfl) rfl rfl rfl (Nat.le_of_ble_eq_true rfl) (Nat.le_refl _) (Nat.le_refl _) ?_ (fun Q hQ => ft_109 h8 hQ)
      have hx := Option.some.inj hx
      subst hx
      exact eg_k_ret rfl rfl (Nat.le_refl _) (Nat.le_refl _) hK
    · refine eg_k_aload rfl rfl ?_
      refine eg_k_dupr rfl ?_
      refine eg_k_gfi rfl rfl rfl ?_
      refine eg_k_ci rfl ?_
      refine eg_k_isub rfl ?_
      refine eg_k_pfi rfl rfl rfl ?_
      refine eg_k_aload rfl rfl ?_
      obtain ⟨m13, h11, hx⟩ := vb_bind hx
      refine eg_k_call (c1 := 0) (z1 := 0) (as := [.inr (.inr (some 44))]) (rest := []) rfl eg_tj109 (Nat.le_of_ble_eq_true rfl) rfl rfl rfl (Nat.le_of_ble_eq_true rfl) (Nat.le_refl _) (Nat.le_refl _) ?_ (fun Q hQ => ft_109 h11 hQ)
      have hx := Option.some.inj hx
      subst hx
      exact eg_k_ret rfl rfl (Nat.le_refl _) (Nat.le_refl _) hK
  · refine eg_k_aload rfl rfl ?_
    refine eg_k_iload rfl rfl ?_
    refine eg_k_iload rfl rfl ?_
    obtain ⟨m16, h14, hx⟩ := vb_bind hx
    refine eg_k_call (c1 := 0) (z1 := 0) (as := [.inr (.inr (some 44)), .inl a, .inl (M 5 (M 32 (a).toNat).toNat)]) (rest := []) rfl eg_tj110 (Nat.le_of_ble_eq_true rfl) rfl rfl rfl (Nat.le_of_ble_eq_true rfl) (Nat.le_refl _) (Nat.le_refl _) ?_ (fun Q hQ => ft_110 h14 hQ)
    have hx := Option.some.inj hx
    subst hx
    exact eg_k_ret rfl rfl (Nat.le_refl _) (Nat.le_refl _) hK
theorem fw_130 {cn : Nat} {mo : Nat} {M : eM} {c : Nat} {a : Int} {x : eM} (hx : fn_130 cn mo a M = some x) (hc : c ∉ ([29, 30, 31, 32, 33, 34, 44] : List Nat)) (j : Nat) : x c j = M c j := by
  obtain ⟨v, hK⟩ : ∃ v, x c j = v := ⟨_, rfl⟩
  rw [hK]
  refine Eq.symm ?_
  obtain ⟨_, hx⟩ := vb_if hx
  obtain ⟨_, hx⟩ := vb_if hx
  obtain ⟨_, hx⟩ := vb_if hx
  refine vb_ite hx (fun _ hx => ?_) (fun _ hx => ?_)
  · refine vb_ite hx (fun _ hx => ?_) (fun _ hx => ?_)
    · obtain ⟨m10, h8, hx⟩ := vb_bind hx
      have hx := Option.some.inj hx
      subst hx
      exact ((fw_109 h8 (vsub hc (by decide)) j).trans rfl).symm.trans hK
    · obtain ⟨m13, h11, hx⟩ := vb_bind hx
      have hx := Option.some.inj hx
      subst hx
      exact ((fw_109 h11 (vsub hc (by decide)) j).trans ((congrFun (eg_u_ne (vne hc (a := 44) (by decide))) j).trans rfl)).symm.trans hK
  · obtain ⟨m16, h14, hx⟩ := vb_bind hx
    have hx := Option.some.inj hx
    subst hx
    exact ((fw_110 h14 (vsub hc (by decide)) j).trans rfl).symm.trans hK
/-- 104: WeakScheme$Machine.resume(I)V -/
noncomputable def fn_104 (cn : Nat) (mo : Nat) (a : Int) (M : eM) : Option (eM) :=
  if 0 ≤ a ∧ a < 2000 then
  if (M 30 (a).toNat) = 0 then
      (fn_105 cn mo a M).bind fun m5 =>
      some m5
    else if (M 30 (a).toNat) = 1 then
      (fn_108 cn mo a M).bind fun m8 =>
      some m8
    else if (M 30 (a).toNat) = 2 then
      (fn_116 cn mo a M).bind fun m11 =>
      some m11
    else if (M 30 (a).toNat) = 3 then
      (fn_116 cn mo a M).bind fun m14 =>
      some m14
    else if (M 30 (a).toNat) = 4 then
      (fn_117 cn mo a M).bind fun m17 =>
      some m17
    else if (M 30 (a).toNat) = 5 then
      (fn_118 cn mo a (eg_wi ((M 31 (a).toNat) + 2)) 2 11 M).bind fun m20 =>
      some m20
    else if (M 30 (a).toNat) = 6 then
      (fn_130 cn mo a M).bind fun m23 =>
      some m23
    else if (M 30 (a).toNat) = 7 then
      (fn_122 cn mo a M).bind fun m26 =>
      some m26
    else if (M 30 (a).toNat) = 8 then
      (fn_123 cn mo a M).bind fun m29 =>
      some m29
    else if (M 30 (a).toNat) = 9 then
      (fn_123 cn mo a M).bind fun m32 =>
      some m32
    else if (M 30 (a).toNat) = 10 then
      (fn_118 cn mo a (M 31 (a).toNat) 0 12 M).bind fun m35 =>
      some m35
    else if (M 30 (a).toNat) = 11 then
      (fn_120 cn mo a M).bind fun m38 =>
      some m38
    else if (M 30 (a).toNat) = 12 then
      (fn_124 cn mo a M).bind fun m41 =>
      some m41
    else if (M 30 (a).toNat) = 13 then
      (fn_109 M).bind fun m44 =>
      some m44
    else if (M 30 (a).toNat) = 14 then
      (fn_130 cn mo a M).bind fun m47 =>
      some m47
    else if (M 30 (a).toNat) = 15 then
      (fn_126 cn mo a M).bind fun m50 =>
      some m50
    else 
      (fn_109 M).bind fun m53 =>
      some m53
  else none
set_option maxRecDepth 100000 in
theorem ft_104 {cn mo : Nat} {sc : eg_Sc} {d : Nat} {M : eM} {Q : Option eg_V → eg_H → Prop} {a : Int} {x : eM} (hx : fn_104 cn mo a M = some x) (hK : Q (none) (em_L cn mo, eh_R, x)) : eg_wp sc (d + 6) 104 [.inr (.inr (some 44)), .inl a] (em_L cn mo, eh_R, M) 0 0 Q := by
  refine eg_in (lv := [some (.inr (.inr (some 44))), some (.inl a), none]) eg_tj104 (Nat.le_of_ble_eq_true rfl) rfl ?_
  refine eg_k_aload rfl rfl ?_
  refine eg_k_gfr rfl rfl rfl eh_r44_3 ?_
  refine eg_k_gfa rfl rfl rfl eh_r29_2 ?_
  refine eg_k_iload rfl rfl ?_
  obtain ⟨b1, hx⟩ := vb_if hx
  refine eg_k_iald (k := 2000) rfl rfl b1.1 b1.2 ?_
  refine eg_k_istore (lv' := [some (.inr (.inr (some 44))), some (.inl a), some (.inl (M 31 (a).toNat))]) rfl rfl ?_
  refine eg_k_aload rfl rfl ?_
  refine eg_k_gfr rfl rfl rfl eh_r44_3 ?_
  refine eg_k_gfa rfl rfl rfl eh_r29_1 ?_
  refine eg_k_iload rfl rfl ?_
  refine eg_k_iald (k := 2000) rfl rfl b1.1 b1.2 ?_
  refine vb_ite hx (fun e9 hx => ?_) (fun e9 hx => ?_)
  · refine eg_k_tsw (x := M 30 (a).toNat) (t := 12) rfl (by rw [e9]; rfl) ?_
    refine eg_k_aload rfl rfl ?_
    refine eg_k_iload rfl rfl ?_
    obtain ⟨m5, h3, hx⟩ := vb_bind hx
    refine eg_k_call (c1 := 0) (z1 := 0) (as := [.inr (.inr (some 44)), .inl a]) (rest := []) rfl eg_tj105 (Nat.le_of_ble_eq_true rfl) rfl rfl rfl (Nat.le_of_ble_eq_true rfl) (Nat.le_refl _) (Nat.le_refl _) ?_ (fun Q hQ => ft_105 h3 hQ)
    refine eg_k_goto rfl ?_
    have hx := Option.some.inj hx
    subst hx
    exact eg_k_ret rfl rfl (Nat.le_refl _) (Nat.le_refl _) hK
  have e0_ := e9
  refine vb_ite hx (fun e9 hx => ?_) (fun e9 hx => ?_)
  · refine eg_k_tsw (x := M 30 (a).toNat) (t := 16) rfl (by rw [e9]; rfl) ?_
    refine eg_k_aload rfl rfl ?_
    refine eg_k_iload rfl rfl ?_
    obtain ⟨m8, h6, hx⟩ := vb_bind hx
    refine eg_k_call (c1 := 0) (z1 := 0) (as := [.inr (.inr (some 44)), .inl a]) (rest := []) rfl eg_tj108 (Nat.le_of_ble_eq_true rfl) rfl rfl rfl (Nat.le_of_ble_eq_true rfl) (Nat.le_refl _) (Nat.le_refl _) ?_ (fun Q hQ => ft_108 h6 hQ)
    refine eg_k_goto rfl ?_
    have hx := Option.some.inj hx
    subst hx
    exact eg_k_ret rfl rfl (Nat.le_refl _) (Nat.le_refl _) hK
  have e1_ := e9
  refine vb_ite hx (fun e9 hx => ?_) (fun e9 hx => ?_)
  · refine eg_k_tsw (x := M 30 (a).toNat) (t := 20) rfl (by rw [e9]; rfl) ?_
    refine eg_k_aload rfl rfl ?_
    refine eg_k_iload rfl rfl ?_
    obtain ⟨m11, h9, hx⟩ := vb_bind hx
    refine eg_k_call (c1 := 0) (z1 := 0) (as := [.inr (.inr (some 44)), .inl a]) (rest := []) rfl eg_tj116 (Nat.le_of_ble_eq_true rfl) rfl rfl rfl (Nat.le_of_ble_eq_true rfl) (Nat.le_refl _) (Nat.le_refl _) ?_ (fun Q hQ => ft_116 h9 hQ)
    refine eg_k_goto rfl ?_
    have hx := Option.some.inj hx
    subst hx
    exact eg_k_ret rfl rfl (Nat.le_refl _) (Nat.le_refl _) hK
  have e2_ := e9
  refine vb_ite hx (fun e9 hx => ?_) (fun e9 hx => ?_)
  · refine eg_k_tsw (x := M 30 (a).toNat) (t := 20) rfl (by rw [e9]; rfl) ?_
    refine eg_k_aload rfl rfl ?_
    refine eg_k_iload rfl rfl ?_
    obtain ⟨m14, h12, hx⟩ := vb_bind hx
    refine eg_k_call (c1 := 0) (z1 := 0) (as := [.inr (.inr (some 44)), .inl a]) (rest := []) rfl eg_tj116 (Nat.le_of_ble_eq_true rfl) rfl rfl rfl (Nat.le_of_ble_eq_true rfl) (Nat.le_refl _) (Nat.le_refl _) ?_ (fun Q hQ => ft_116 h12 hQ)
    refine eg_k_goto rfl ?_
    have hx := Option.some.inj hx
    subst hx
    exact eg_k_ret rfl rfl (Nat.le_refl _) (Nat.le_refl _) hK
  have e3_ := e9
  refine vb_ite hx (fun e9 hx => ?_) (fun e9 hx => ?_)
  · refine eg_k_tsw (x := M 30 (a).toNat) (t := 24) rfl (by rw [e9]; rfl) ?_
    refine eg_k_aload rfl rfl ?_
    refine eg_k_iload rfl rfl ?_
    obtain ⟨m17, h15, hx⟩ := vb_bind hx
    refine eg_k_call (c1 := 0) (z1 := 0) (as := [.inr (.inr (some 44)), .inl a]) (rest := []) rfl eg_tj117 (Nat.le_of_ble_eq_true rfl) rfl rfl rfl (Nat.le_of_ble_eq_true rfl) (Nat.le_refl _) (Nat.le_refl _) ?_ (fun Q hQ => ft_117 h15 hQ)
    refine eg_k_goto rfl ?_
    have hx := Option.some.inj hx
    subst hx
    exact eg_k_ret rfl rfl (Nat.le_refl _) (Nat.le_refl _) hK
  have e4_ := e9
  refine vb_ite hx (fun e9 hx => ?_) (fun e9 hx => ?_)
  · refine eg_k_tsw (x := M 30 (a).toNat) (t := 28) rfl (by rw [e9]; rfl) ?_
    refine eg_k_aload rfl rfl ?_
    refine eg_k_iload rfl rfl ?_
    refine eg_k_iload rfl rfl ?_
    refine eg_k_ci rfl ?_
    refine eg_k_iadd rfl ?_
    refine eg_k_ci rfl ?_
    refine eg_k_ci rfl ?_
    obtain ⟨m20, h18, hx⟩ := vb_bind hx
    refine eg_k_call (c1 := 0) (z1 := 0) (as := [.inr (.inr (some 44)), .inl a, .inl (eg_wi ((M 31 (a).toNat) + 2)), .inl 2, .inl 11]) (rest := []) rfl eg_tj118 (Nat.le_of_ble_eq_true rfl) rfl rfl rfl (Nat.le_of_ble_eq_true rfl) (Nat.le_refl _) (Nat.le_refl _) ?_ (fun Q hQ => ft_118 h18 hQ)
    refine eg_k_goto rfl ?_
    have hx := Option.some.inj hx
    subst hx
    exact eg_k_ret rfl rfl (Nat.le_refl _) (Nat.le_refl _) hK
  have e5_ := e9
  refine vb_ite hx (fun e9 hx => ?_) (fun e9 hx => ?_)
  · refine eg_k_tsw (x := M 30 (a).toNat) (t := 64) rfl (by rw [e9]; rfl) ?_
    refine eg_k_aload rfl rfl ?_
    refine eg_k_iload rfl rfl ?_
    obtain ⟨m23, h21, hx⟩ := vb_bind hx
    refine eg_k_call (c1 := 0) (z1 := 0) (as := [.inr (.inr (some 44)), .inl a]) (rest := []) rfl eg_tj130 (Nat.le_of_ble_eq_true rfl) rfl rfl rfl (Nat.le_of_ble_eq_true rfl) (Nat.le_refl _) (Nat.le_refl _) ?_ (fun Q hQ => ft_130 h21 hQ)
    refine eg_k_goto rfl ?_
    have hx := Option.some.inj hx
    subst hx
    exact eg_k_ret rfl rfl (Nat.le_refl _) (Nat.le_refl _) hK
  have e6_ := e9
  refine vb_ite hx (fun e9 hx => ?_) (fun e9 hx => ?_)
  · refine eg_k_tsw (x := M 30 (a).toNat) (t := 41) rfl (by rw [e9]; rfl) ?_
    refine eg_k_aload rfl rfl ?_
    refine eg_k_iload rfl rfl ?_
    obtain ⟨m26, h24, hx⟩ := vb_bind hx
    refine eg_k_call (c1 := 0) (z1 := 0) (as := [.inr (.inr (some 44)), .inl a]) (rest := []) rfl eg_tj122 (Nat.le_of_ble_eq_true rfl) rfl rfl rfl (Nat.le_of_ble_eq_true rfl) (Nat.le_refl _) (Nat.le_refl _) ?_ (fun Q hQ => ft_122 h24 hQ)
    refine eg_k_goto rfl ?_
    have hx := Option.some.inj hx
    subst hx
    exact eg_k_ret rfl rfl (Nat.le_refl _) (Nat.le_refl _) hK
  have e7_ := e9
  refine vb_ite hx (fun e9 hx => ?_) (fun e9 hx => ?_)
  · refine eg_k_tsw (x := M 30 (a).toNat) (t := 45) rfl (by rw [e9]; rfl) ?_
    refine eg_k_aload rfl rfl ?_
    refine eg_k_iload rfl rfl ?_
    obtain ⟨m29, h27, hx⟩ := vb_bind hx
    refine eg_k_call (c1 := 0) (z1 := 0) (as := [.inr (.inr (some 44)), .inl a]) (rest := []) rfl eg_tj123 (Nat.le_of_ble_eq_true rfl) rfl rfl rfl (Nat.le_of_ble_eq_true rfl) (Nat.le_refl _) (Nat.le_refl _) ?_ (fun Q hQ => ft_123 h27 hQ)
    refine eg_k_goto rfl ?_
    have hx := Option.some.inj hx
    subst hx
    exact eg_k_ret rfl rfl (Nat.le_refl _) (Nat.le_refl _) hK
  have e8_ := e9
  refine vb_ite hx (fun e9 hx => ?_) (fun e9 hx => ?_)
  · refine eg_k_tsw (x := M 30 (a).toNat) (t := 45) rfl (by rw [e9]; rfl) ?_
    refine eg_k_aload rfl rfl ?_
    refine eg_k_iload rfl rfl ?_
    obtain ⟨m32, h30, hx⟩ := vb_bind hx
    refine eg_k_call (c1 := 0) (z1 := 0) (as := [.inr (.inr (some 44)), .inl a]) (rest := []) rfl eg_tj123 (Nat.le_of_ble_eq_true rfl) rfl rfl rfl (Nat.le_of_ble_eq_true rfl) (Nat.le_refl _) (Nat.le_refl _) ?_ (fun Q hQ => ft_123 h30 hQ)
    refine eg_k_goto rfl ?_
    have hx := Option.some.inj hx
    subst hx
    exact eg_k_ret rfl rfl (Nat.le_refl _) (Nat.le_refl _) hK
  have e9_ := e9
  refine vb_ite hx (fun e9 hx => ?_) (fun e9 hx => ?_)
  · refine eg_k_tsw (x := M 30 (a).toNat) (t := 49) rfl (by rw [e9]; rfl) ?_
    refine eg_k_aload rfl rfl ?_
    refine eg_k_iload rfl rfl ?_
    refine eg_k_iload rfl rfl ?_
    refine eg_k_ci rfl ?_
    refine eg_k_ci rfl ?_
    obtain ⟨m35, h33, hx⟩ := vb_bind hx
    refine eg_k_call (c1 := 0) (z1 := 0) (as := [.inr (.inr (some 44)), .inl a, .inl (M 31 (a).toNat), .inl 0, .inl 12]) (rest := []) rfl eg_tj118 (Nat.le_of_ble_eq_true rfl) rfl rfl rfl (Nat.le_of_ble_eq_true rfl) (Nat.le_refl _) (Nat.le_refl _) ?_ (fun Q hQ => ft_118 h33 hQ)
    refine eg_k_goto rfl ?_
    have hx := Option.some.inj hx
    subst hx
    exact eg_k_ret rfl rfl (Nat.le_refl _) (Nat.le_refl _) hK
  have e10_ := e9
  refine vb_ite hx (fun e9 hx => ?_) (fun e9 hx => ?_)
  · refine eg_k_tsw (x := M 30 (a).toNat) (t := 37) rfl (by rw [e9]; rfl) ?_
    refine eg_k_aload rfl rfl ?_
    refine eg_k_iload rfl rfl ?_
    obtain ⟨m38, h36, hx⟩ := vb_bind hx
    refine eg_k_call (c1 := 0) (z1 := 0) (as := [.inr (.inr (some 44)), .inl a]) (rest := []) rfl eg_tj120 (Nat.le_of_ble_eq_true rfl) rfl rfl rfl (Nat.le_of_ble_eq_true rfl) (Nat.le_refl _) (Nat.le_refl _) ?_ (fun Q hQ => ft_120 h36 hQ)
    refine eg_k_goto rfl ?_
    have hx := Option.some.inj hx
    subst hx
    exact eg_k_ret rfl rfl (Nat.le_refl _) (Nat.le_refl _) hK
  have e11_ := e9
  refine vb_ite hx (fun e9 hx => ?_) (fun e9 hx => ?_)
  · refine eg_k_tsw (x := M 30 (a).toNat) (t := 56) rfl (by rw [e9]; rfl) ?_
    refine eg_k_aload rfl rfl ?_
    refine eg_k_iload rfl rfl ?_
    obtain ⟨m41, h39, hx⟩ := vb_bind hx
    refine eg_k_call (c1 := 0) (z1 := 0) (as := [.inr (.inr (some 44)), .inl a]) (rest := []) rfl eg_tj124 (Nat.le_of_ble_eq_true rfl) rfl rfl rfl (Nat.le_of_ble_eq_true rfl) (Nat.le_refl _) (Nat.le_refl _) ?_ (fun Q hQ => ft_124 h39 hQ)
    refine eg_k_goto rfl ?_
    have hx := Option.some.inj hx
    subst hx
    exact eg_k_ret rfl rfl (Nat.le_refl _) (Nat.le_refl _) hK
  have e12_ := e9
  refine vb_ite hx (fun e9 hx => ?_) (fun e9 hx => ?_)
  · refine eg_k_tsw (x := M 30 (a).toNat) (t := 68) rfl (by rw [e9]; rfl) ?_
    refine eg_k_aload rfl rfl ?_
    obtain ⟨m44, h42, hx⟩ := vb_bind hx
    refine eg_k_call (c1 := 0) (z1 := 0) (as := [.inr (.inr (some 44))]) (rest := []) rfl eg_tj109 (Nat.le_of_ble_eq_true rfl) rfl rfl rfl (Nat.le_of_ble_eq_true rfl) (Nat.le_refl _) (Nat.le_refl _) ?_ (fun Q hQ => ft_109 h42 hQ)
    have hx := Option.some.inj hx
    subst hx
    exact eg_k_ret rfl rfl (Nat.le_refl _) (Nat.le_refl _) hK
  have e13_ := e9
  refine vb_ite hx (fun e9 hx => ?_) (fun e9 hx => ?_)
  · refine eg_k_tsw (x := M 30 (a).toNat) (t := 64) rfl (by rw [e9]; rfl) ?_
    refine eg_k_aload rfl rfl ?_
    refine eg_k_iload rfl rfl ?_
    obtain ⟨m47, h45, hx⟩ := vb_bind hx
    refine eg_k_call (c1 := 0) (z1 := 0) (as := [.inr (.inr (some 44)), .inl a]) (rest := []) rfl eg_tj130 (Nat.le_of_ble_eq_true rfl) rfl rfl rfl (Nat.le_of_ble_eq_true rfl) (Nat.le_refl _) (Nat.le_refl _) ?_ (fun Q hQ => ft_130 h45 hQ)
    refine eg_k_goto rfl ?_
    have hx := Option.some.inj hx
    subst hx
    exact eg_k_ret rfl rfl (Nat.le_refl _) (Nat.le_refl _) hK
  have e14_ := e9
  refine vb_ite hx (fun e9 hx => ?_) (fun e9 hx => ?_)
  · refine eg_k_tsw (x := M 30 (a).toNat) (t := 60) rfl (by rw [e9]; rfl) ?_
    refine eg_k_aload rfl rfl ?_
    refine eg_k_iload rfl rfl ?_
    obtain ⟨m50, h48, hx⟩ := vb_bind hx
    refine eg_k_call (c1 := 0) (z1 := 0) (as := [.inr (.inr (some 44)), .inl a]) (rest := []) rfl eg_tj126 (Nat.le_of_ble_eq_true rfl) rfl rfl rfl (Nat.le_of_ble_eq_true rfl) (Nat.le_refl _) (Nat.le_refl _) ?_ (fun Q hQ => ft_126 h48 hQ)
    refine eg_k_goto rfl ?_
    have hx := Option.some.inj hx
    subst hx
    exact eg_k_ret rfl rfl (Nat.le_refl _) (Nat.le_refl _) hK
  have e15_ := e9
  refine eg_k_tsw (x := M 30 (a).toNat) (t := 68) rfl (by unfold eg_tb; rw [if_pos (by omega)]; rfl) ?_
  refine eg_k_aload rfl rfl ?_
  obtain ⟨m53, h51, hx⟩ := vb_bind hx
  refine eg_k_call (c1 := 0) (z1 := 0) (as := [.inr (.inr (some 44))]) (rest := []) rfl eg_tj109 (Nat.le_of_ble_eq_true rfl) rfl rfl rfl (Nat.le_of_ble_eq_true rfl) (Nat.le_refl _) (Nat.le_refl _) ?_ (fun Q hQ => ft_109 h51 hQ)
  have hx := Option.some.inj hx
  subst hx
  exact eg_k_ret rfl rfl (Nat.le_refl _) (Nat.le_refl _) hK
theorem fw_104 {cn : Nat} {mo : Nat} {M : eM} {c : Nat} {a : Int} {x : eM} (hx : fn_104 cn mo a M = some x) (hc : c ∉ ([15, 16, 17, 18, 19, 20, 21, 29, 30, 31, 32, 33, 34, 35, 36, 37, 44] : List Nat)) (j : Nat) : x c j = M c j := by
  obtain ⟨v, hK⟩ : ∃ v, x c j = v := ⟨_, rfl⟩
  rw [hK]
  refine Eq.symm ?_
  obtain ⟨_, hx⟩ := vb_if hx
  refine vb_ite hx (fun _ hx => ?_) (fun _ hx => ?_)
  · obtain ⟨m5, h3, hx⟩ := vb_bind hx
    have hx := Option.some.inj hx
    subst hx
    exact ((fw_105 h3 (vsub hc (by decide)) j).trans rfl).symm.trans hK
  refine vb_ite hx (fun _ hx => ?_) (fun _ hx => ?_)
  · obtain ⟨m8, h6, hx⟩ := vb_bind hx
    have hx := Option.some.inj hx
    subst hx
    exact ((fw_108 h6 (vsub hc (by decide)) j).trans rfl).symm.trans hK
  refine vb_ite hx (fun _ hx => ?_) (fun _ hx => ?_)
  · obtain ⟨m11, h9, hx⟩ := vb_bind hx
    have hx := Option.some.inj hx
    subst hx
    exact ((fw_116 h9 (vsub hc (by decide)) j).trans rfl).symm.trans hK
  refine vb_ite hx (fun _ hx => ?_) (fun _ hx => ?_)
  · obtain ⟨m14, h12, hx⟩ := vb_bind hx
    have hx := Option.some.inj hx
    subst hx
    exact ((fw_116 h12 (vsub hc (by decide)) j).trans rfl).symm.trans hK
  refine vb_ite hx (fun _ hx => ?_) (fun _ hx => ?_)
  · obtain ⟨m17, h15, hx⟩ := vb_bind hx
    have hx := Option.some.inj hx
    subst hx
    exact ((fw_117 h15 (vsub hc (by decide)) j).trans rfl).symm.trans hK
  refine vb_ite hx (fun _ hx => ?_) (fun _ hx => ?_)
  · obtain ⟨m20, h18, hx⟩ := vb_bind hx
    have hx := Option.some.inj hx
    subst hx
    exact ((fw_118 h18 (vsub hc (by decide)) j).trans rfl).symm.trans hK
  refine vb_ite hx (fun _ hx => ?_) (fun _ hx => ?_)
  · obtain ⟨m23, h21, hx⟩ := vb_bind hx
    have hx := Option.some.inj hx
    subst hx
    exact ((fw_130 h21 (vsub hc (by decide)) j).trans rfl).symm.trans hK
  refine vb_ite hx (fun _ hx => ?_) (fun _ hx => ?_)
  · obtain ⟨m26, h24, hx⟩ := vb_bind hx
    have hx := Option.some.inj hx
    subst hx
    exact ((fw_122 h24 (vsub hc (by decide)) j).trans rfl).symm.trans hK
  refine vb_ite hx (fun _ hx => ?_) (fun _ hx => ?_)
  · obtain ⟨m29, h27, hx⟩ := vb_bind hx
    have hx := Option.some.inj hx
    subst hx
    exact ((fw_123 h27 (vsub hc (by decide)) j).trans rfl).symm.trans hK
  refine vb_ite hx (fun _ hx => ?_) (fun _ hx => ?_)
  · obtain ⟨m32, h30, hx⟩ := vb_bind hx
    have hx := Option.some.inj hx
    subst hx
    exact ((fw_123 h30 (vsub hc (by decide)) j).trans rfl).symm.trans hK
  refine vb_ite hx (fun _ hx => ?_) (fun _ hx => ?_)
  · obtain ⟨m35, h33, hx⟩ := vb_bind hx
    have hx := Option.some.inj hx
    subst hx
    exact ((fw_118 h33 (vsub hc (by decide)) j).trans rfl).symm.trans hK
  refine vb_ite hx (fun _ hx => ?_) (fun _ hx => ?_)
  · obtain ⟨m38, h36, hx⟩ := vb_bind hx
    have hx := Option.some.inj hx
    subst hx
    exact ((fw_120 h36 (vsub hc (by decide)) j).trans rfl).symm.trans hK
  refine vb_ite hx (fun _ hx => ?_) (fun _ hx => ?_)
  · obtain ⟨m41, h39, hx⟩ := vb_bind hx
    have hx := Option.some.inj hx
    subst hx
    exact ((fw_124 h39 (vsub hc (by decide)) j).trans rfl).symm.trans hK
  refine vb_ite hx (fun _ hx => ?_) (fun _ hx => ?_)
  · obtain ⟨m44, h42, hx⟩ := vb_bind hx
    have hx := Option.some.inj hx
    subst hx
    exact ((fw_109 h42 (vsub hc (by decide)) j).trans rfl).symm.trans hK
  refine vb_ite hx (fun _ hx => ?_) (fun _ hx => ?_)
  · obtain ⟨m47, h45, hx⟩ := vb_bind hx
    have hx := Option.some.inj hx
    subst hx
    exact ((fw_130 h45 (vsub hc (by decide)) j).trans rfl).symm.trans hK
  refine vb_ite hx (fun _ hx => ?_) (fun _ hx => ?_)
  · obtain ⟨m50, h48, hx⟩ := vb_bind hx
    have hx := Option.some.inj hx
    subst hx
    exact ((fw_126 h48 (vsub hc (by decide)) j).trans rfl).symm.trans hK
  obtain ⟨m53, h51, hx⟩ := vb_bind hx
  have hx := Option.some.inj hx
  subst hx
  exact ((fw_109 h51 (vsub hc (by decide)) j).trans rfl).symm.trans hK
noncomputable def fn_131_26 (M : eM) : Option (Int × eM) :=
  if 100 ≤ (M 44 7) then
    if (M 15 11) = 0 ∨ (M 15 11) = 1 then
    some (1, eg_u (eg_u (eg_u (eg_u M 44 7 (eg_wi ((M 44 7) - 100))) 15 12 (M 15 11)) 15 11 0) 43 5 0)
    else none
  else
    some (0, eg_u M 44 8 4)
noncomputable def fn_131_13 (M : eM) : Option (Int × eM) :=
  if (M 15 11) = 0 then
    fn_131_26 M
  else
    if (M 15 12) = 0 then
      fn_131_26 M
    else
      some (0, eg_u M 44 8 12)
/-- 131: WeakScheme$Machine.payForCollection()Z -/
noncomputable def fn_131 (M : eM) : Option (Int × eM) :=
  if ¬ (M 44 8) = 0 then
    some (0, M)
  else
    if ¬ (M 15 11) = 0 then
      fn_131_13 M
    else
      if ¬ (M 43 5) = 0 then
        fn_131_13 M
      else
        some (0, M)
set_option maxRecDepth 100000 in
theorem ft_131_26 {cn mo : Nat} {sc : eg_Sc} {d : Nat} {M : eM} {Q : Option eg_V → eg_H → Prop} {x : Int × eM} (hx : fn_131_26 M = some x) (hK : (fun (x : Int × eM) => Q (some (.inl ((x).1))) (em_L cn mo, eh_R, (x).2)) x) : eg_X sc (eg_wp sc d) eg_p131 (some .boolean) 0 0 Q 26 [some (.inr (.inr (some 44)))] [] (em_L cn mo, eh_R, M) 0 0 := by
  refine eg_k_aload rfl rfl ?_
  refine eg_k_gfi rfl rfl rfl ?_
  refine eg_k_ci rfl ?_
  refine vk_icmp rfl hx Iff.rfl (fun c4 hx => ?_) (fun c4 hx => ?_)
  · refine eg_k_aload rfl rfl ?_
    refine eg_k_dupr rfl ?_
    refine eg_k_gfi rfl rfl rfl ?_
    refine eg_k_ci rfl ?_
    refine eg_k_isub rfl ?_
    refine eg_k_pfi rfl rfl rfl ?_
    refine eg_k_aload rfl rfl ?_
    refine eg_k_gfr rfl rfl rfl eh_r44_1 ?_
    refine eg_k_aload rfl rfl ?_
    refine eg_k_gfr rfl rfl rfl eh_r44_1 ?_
    refine eg_k_gfze (x := M 15 11) rfl rfl rfl rfl ?_
    obtain ⟨b5, hx⟩ := vb_if hx
    refine eg_k_pfz rfl rfl rfl b5 ?_
    refine eg_k_aload rfl rfl ?_
    refine eg_k_gfr rfl rfl rfl eh_r44_1 ?_
    refine eg_k_ci rfl ?_
    refine eg_k_pfz rfl rfl rfl (by decide) ?_
    refine eg_k_aload rfl rfl ?_
    refine eg_k_gfr rfl rfl rfl eh_r44_5 ?_
    refine eg_k_ci rfl ?_
    refine eg_k_pfz rfl rfl rfl (by decide) ?_
    refine eg_k_ci rfl ?_
    have hx := Option.some.inj hx
    subst hx
    exact eg_k_iret rfl (Or.inr rfl) (Nat.le_refl _) (Nat.le_refl _) hK
  · refine eg_k_aload rfl rfl ?_
    refine eg_k_ci rfl ?_
    refine eg_k_pfi rfl rfl rfl ?_
    refine eg_k_ci rfl ?_
    have hx := Option.some.inj hx
    subst hx
    exact eg_k_iret rfl (Or.inl rfl) (Nat.le_refl _) (Nat.le_refl _) hK
set_option maxRecDepth 100000 in
theorem ft_131_13 {cn mo : Nat} {sc : eg_Sc} {d : Nat} {M : eM} {Q : Option eg_V → eg_H → Prop} {x : Int × eM} (hx : fn_131_13 M = some x) (hK : (fun (x : Int × eM) => Q (some (.inl ((x).1))) (em_L cn mo, eh_R, (x).2)) x) : eg_X sc (eg_wp sc d) eg_p131 (some .boolean) 0 0 Q 13 [some (.inr (.inr (some 44)))] [] (em_L cn mo, eh_R, M) 0 0 := by
  refine eg_k_aload rfl rfl ?_
  refine eg_k_gfr rfl rfl rfl eh_r44_1 ?_
  refine eg_k_gfz rfl rfl rfl ?_
  refine vk_if rfl hx Iff.rfl (fun c3 hx => ?_) (fun c3 hx => ?_)
  · have hz := ft_131_26 (d := d) (sc := sc) hx hK
    exact hz
  · refine eg_k_aload rfl rfl ?_
    refine eg_k_gfr rfl rfl rfl eh_r44_1 ?_
    refine eg_k_gfz rfl rfl rfl ?_
    refine vk_if rfl hx Iff.rfl (fun c6 hx => ?_) (fun c6 hx => ?_)
    · have hz := ft_131_26 (d := d) (sc := sc) hx hK
      exact hz
    · refine eg_k_aload rfl rfl ?_
      refine eg_k_ci rfl ?_
      refine eg_k_pfi rfl rfl rfl ?_
      refine eg_k_ci rfl ?_
      have hx := Option.some.inj hx
      subst hx
      exact eg_k_iret rfl (Or.inl rfl) (Nat.le_refl _) (Nat.le_refl _) hK
set_option maxRecDepth 100000 in
theorem ft_131 {cn mo : Nat} {sc : eg_Sc} {d : Nat} {M : eM} {Q : Option eg_V → eg_H → Prop} {x : Int × eM} (hx : fn_131 M = some x) (hK : Q (some (.inl ((x).1))) (em_L cn mo, eh_R, (x).2)) : eg_wp sc (d + 1) 131 [.inr (.inr (some 44))] (em_L cn mo, eh_R, M) 0 0 Q := by
  refine eg_in (lv := [some (.inr (.inr (some 44)))]) eg_tj131 (Nat.le_of_ble_eq_true rfl) rfl ?_
  refine eg_k_aload rfl rfl ?_
  refine eg_k_gfi rfl rfl rfl ?_
  refine vk_if rfl hx Iff.rfl (fun c1 hx => ?_) (fun c1 hx => ?_)
  · refine eg_k_ci rfl ?_
    have hx := Option.some.inj hx
    subst hx
    exact eg_k_iret rfl (Or.inl rfl) (Nat.le_refl _) (Nat.le_refl _) hK
  · refine eg_k_aload rfl rfl ?_
    refine eg_k_gfr rfl rfl rfl eh_r44_1 ?_
    refine eg_k_gfz rfl rfl rfl ?_
    refine vk_if rfl hx Iff.rfl (fun c2 hx => ?_) (fun c2 hx => ?_)
    · have hz := ft_131_13 (d := d) (sc := sc) hx hK
      exact hz
    · refine eg_k_aload rfl rfl ?_
      refine eg_k_gfr rfl rfl rfl eh_r44_5 ?_
      refine eg_k_gfz rfl rfl rfl ?_
      refine vk_if rfl hx Iff.rfl (fun c7 hx => ?_) (fun c7 hx => ?_)
      · have hz := ft_131_13 (d := d) (sc := sc) hx hK
        exact hz
      · refine eg_k_ci rfl ?_
        have hx := Option.some.inj hx
        subst hx
        exact eg_k_iret rfl (Or.inl rfl) (Nat.le_refl _) (Nat.le_refl _) hK
theorem fw_131_26 {M : eM} {c j : Nat} {v : Int} {x : Int × eM} (hc : c ∉ ([15, 43, 44] : List Nat)) (hx : fn_131_26 M = some x) (hK : (fun (x : Int × eM) => ((x).2) c j = v) x) : M c j = v := by
  refine vb_ite hx (fun _ hx => ?_) (fun _ hx => ?_)
  · obtain ⟨_, hx⟩ := vb_if hx
    have hx := Option.some.inj hx
    subst hx
    exact ((congrFun (eg_u_ne (vne hc (a := 43) (by decide))) j).trans ((congrFun (eg_u_ne (vne hc (a := 15) (by decide))) j).trans ((congrFun (eg_u_ne (vne hc (a := 15) (by decide))) j).trans ((congrFun (eg_u_ne (vne hc (a := 44) (by decide))) j).trans rfl)))).symm.trans hK
  · have hx := Option.some.inj hx
    subst hx
    exact ((congrFun (eg_u_ne (vne hc (a := 44) (by decide))) j).trans rfl).symm.trans hK
theorem fw_131_13 {M : eM} {c j : Nat} {v : Int} {x : Int × eM} (hc : c ∉ ([15, 43, 44] : List Nat)) (hx : fn_131_13 M = some x) (hK : (fun (x : Int × eM) => ((x).2) c j = v) x) : M c j = v := by
  refine vb_ite hx (fun _ hx => ?_) (fun _ hx => ?_)
  · have hz := fw_131_26 hc hx hK
    exact (Eq.refl _).symm.trans hz
  · refine vb_ite hx (fun _ hx => ?_) (fun _ hx => ?_)
    · have hz := fw_131_26 hc hx hK
      exact (Eq.refl _).symm.trans hz
    · have hx := Option.some.inj hx
      subst hx
      exact ((congrFun (eg_u_ne (vne hc (a := 44) (by decide))) j).trans rfl).symm.trans hK
theorem fw_131 {M : eM} {c : Nat} {x : Int × eM} (hx : fn_131 M = some x) (hc : c ∉ ([15, 43, 44] : List Nat)) (j : Nat) : ((x).2) c j = M c j := by
  obtain ⟨v, hK⟩ : ∃ v, ((x).2) c j = v := ⟨_, rfl⟩
  rw [hK]
  refine Eq.symm ?_
  refine vb_ite hx (fun _ hx => ?_) (fun _ hx => ?_)
  · have hx := Option.some.inj hx
    subst hx
    exact (Eq.refl _).symm.trans hK
  · refine vb_ite hx (fun _ hx => ?_) (fun _ hx => ?_)
    · have hz := fw_131_13 hc hx hK
      exact (Eq.refl _).symm.trans hz
    · refine vb_ite hx (fun _ hx => ?_) (fun _ hx => ?_)
      · have hz := fw_131_13 hc hx hK
        exact (Eq.refl _).symm.trans hz
      · have hx := Option.some.inj hx
        subst hx
        exact (Eq.refl _).symm.trans hK
noncomputable def fn_69_31 (cn : Nat) (mo : Nat) (x1 : Int) (x2 : Int) (x3 : Int) (x4 : Int) (x5 : Int) (x6 : Int) (M : eM) : Option ((Int × Int × Int × eM) ⊕ (eM)) :=
  if (M 29 0) ≤ 0 then
    if x5 = 0 then
      if x2 ≤ x4 then
        some (.inr M)
      else
        (fn_111 cn mo x4 0 M).bind fun m12 =>
        if 0 ≤ x4 ∧ x4 < 20000 then
        (fn_131 m12).bind fun r15 =>
          if r15.1 = 0 then
            some (.inl (m12 5 (x4).toNat, 1, eg_wi (x6 + 1), r15.2))
          else
            (fn_132 cn mo r15.2).bind fun m20 =>
            some (.inl (m12 5 (x4).toNat, 1, eg_wi (x6 + 1), m20))
        else none
    else
      (fn_113 15 x4 x4 0 M).bind fun m23 =>
      (fn_131 m23).bind fun r25 =>
      if r25.1 = 0 then
        some (.inl (x4, 0, eg_wi (x6 + 1), r25.2))
      else
        (fn_132 cn mo r25.2).bind fun m30 =>
        some (.inl (x4, 0, eg_wi (x6 + 1), m30))
  else
    (fn_104 cn mo (M 29 0) M).bind fun m33 =>
    (fn_131 m33).bind fun r35 =>
    if r35.1 = 0 then
      some (.inl (x4, x5, eg_wi (x6 + 1), r35.2))
    else
      (fn_132 cn mo r35.2).bind fun m40 =>
      some (.inl (x4, x5, eg_wi (x6 + 1), m40))
noncomputable def fn_69_9 (cn : Nat) (mo : Nat) (x1 : Int) (x2 : Int) (x3 : Int) (s1 : Int) (s2 : Int) (s3 : Int) (s4 : eM) : Option ((Int × Int × Int × eM) ⊕ (eM)) :=
  if 1000000 ≤ s3 then
    some (.inr s4)
  else
    if ¬ (s4 44 8) = 0 then
      some (.inr s4)
    else
      if (s4 29 0) ≤ 0 then
        fn_69_31 cn mo x1 x2 x3 s1 s2 s3 s4
      else
        (fn_72 (s4 29 0) s4).bind fun r42 =>
        if r42 = 0 then
          fn_69_31 cn mo x1 x2 x3 s1 s2 s3 s4
        else
          (fn_74 cn mo (s4 29 0) s4).bind fun m47 =>
          (fn_131 m47).bind fun r49 =>
          if r49.1 = 0 then
            some (.inl (s1, s2, eg_wi (s3 + 1), r49.2))
          else
            (fn_132 cn mo r49.2).bind fun m54 =>
            some (.inl (s1, s2, eg_wi (s3 + 1), m54))
/-- 69: WeakScheme$Machine.execute(III)V -/
noncomputable def fn_69 (cn : Nat) (mo : Nat) (a : Int) (b : Int) (e : Int) (M : eM) : Option (eM) :=
  (fn_70 e M).bind fun m3 =>
  lp (fun z => fn_69_9 cn mo a b e z.1 z.2.1 z.2.2.1 z.2.2.2) (a, 0, 0, m3)
set_option maxRecDepth 100000 in
theorem ft_69_31 {cn mo : Nat} {sc : eg_Sc} {d : Nat} {M : eM} {Q : Option eg_V → eg_H → Prop} {x1 : Int} {x2 : Int} {x3 : Int} {x4 : Int} {x5 : Int} {x6 : Int} {x : (Int × Int × Int × eM) ⊕ (eM)} (hx : fn_69_31 cn mo x1 x2 x3 x4 x5 x6 M = some x) (hK : (eK (fun (s : Int × Int × Int × eM) => eg_X sc (eg_wp sc (d + 20)) eg_p69 none 0 0 Q 9 [some (.inr (.inr (some 44))), some (.inl x1), some (.inl x2), some (.inl x3), some (.inl s.1), some (.inl s.2.1), some (.inl s.2.2.1)] [] (em_L cn mo, eh_R, s.2.2.2) 0 0) (fun (x : eM) => Q (none) (em_L cn mo, eh_R, x))) x) : eg_X sc (eg_wp sc (d + 20)) eg_p69 none 0 0 Q 31 [some (.inr (.inr (some 44))), some (.inl x1), some (.inl x2), some (.inl x3), some (.inl x4), some (.inl x5), some (.inl x6)] [] (em_L cn mo, eh_R, M) 0 0 := by
  refine eg_k_aload rfl rfl ?_
  refine eg_k_gfr rfl rfl rfl eh_r44_3 ?_
  refine eg_k_gfi rfl rfl rfl ?_
  refine vk_if rfl hx Iff.rfl (fun c7 hx => ?_) (fun c7 hx => ?_)
  · refine eg_k_iload rfl rfl ?_
    refine vk_if rfl hx Iff.rfl (fun c8 hx => ?_) (fun c8 hx => ?_)
    · refine eg_k_iload rfl rfl ?_
      refine eg_k_iload rfl rfl ?_
      refine vk_icmp rfl hx Iff.rfl (fun c9 hx => ?_) (fun c9 hx => ?_)
      · have hx := Option.some.inj hx
        subst hx
        exact eg_k_ret rfl rfl (Nat.le_refl _) (Nat.le_refl _) hK
      · refine eg_k_aload rfl rfl ?_
        refine eg_k_iload rfl rfl ?_
        refine eg_k_ci rfl ?_
        obtain ⟨m12, h10, hx⟩ := vb_bind hx
        refine eg_k_call (c1 := 0) (z1 := 0) (as := [.inr (.inr (some 44)), .inl x4, .inl 0]) (rest := []) rfl eg_tj111 (Nat.le_of_ble_eq_true rfl) rfl rfl rfl (Nat.le_of_ble_eq_true rfl) (Nat.le_refl _) (Nat.le_refl _) ?_ (fun Q hQ => ft_111 h10 hQ)
        refine eg_k_aload rfl rfl ?_
        refine eg_k_gfr rfl rfl rfl eh_r44_0 ?_
        refine eg_k_gfa rfl rfl rfl eh_r1_4 ?_
        refine eg_k_iload rfl rfl ?_
        obtain ⟨b13, hx⟩ := vb_if hx
        refine eg_k_iald (k := 20000) rfl rfl b13.1 b13.2 ?_
        refine eg_k_istore (lv' := [some (.inr (.inr (some 44))), some (.inl x1), some (.inl x2), some (.inl x3), some (.inl (m12 5 (x4).toNat)), some (.inl x5), some (.inl x6)]) rfl rfl ?_
        refine eg_k_ci rfl ?_
        refine eg_k_istore (lv' := [some (.inr (.inr (some 44))), some (.inl x1), some (.inl x2), some (.inl x3), some (.inl (m12 5 (x4).toNat)), some (.inl 1), some (.inl x6)]) rfl rfl ?_
        refine eg_k_goto rfl ?_
        refine eg_k_aload rfl rfl ?_
        obtain ⟨r15, h14, hx⟩ := vb_bind hx
        refine eg_k_call (c1 := 0) (z1 := 0) (as := [.inr (.inr (some 44))]) (rest := []) rfl eg_tj131 (Nat.le_of_ble_eq_true rfl) rfl rfl rfl (Nat.le_of_ble_eq_true rfl) (Nat.le_refl _) (Nat.le_refl _) ?_ (fun Q hQ => ft_131 h14 hQ)
        refine vk_if rfl hx Iff.rfl (fun c17 hx => ?_) (fun c17 hx => ?_)
        · refine eg_k_iinc (lv' := [some (.inr (.inr (some 44))), some (.inl x1), some (.inl x2), some (.inl x3), some (.inl (m12 5 (x4).toNat)), some (.inl 1), some (.inl (eg_wi (x6 + 1)))]) rfl rfl rfl ?_
          refine eg_k_goto rfl ?_
          have hx := Option.some.inj hx
          subst hx
          exact hK
        · refine eg_k_aload rfl rfl ?_
          refine eg_k_gfr rfl rfl rfl eh_r44_6 ?_
          obtain ⟨m20, h18, hx⟩ := vb_bind hx
          refine eg_k_call (c1 := 0) (z1 := 0) (as := [.inr (.inr (some 38))]) (rest := []) rfl eg_tj132 (Nat.le_of_ble_eq_true rfl) rfl rfl rfl (Nat.le_of_ble_eq_true rfl) (Nat.le_refl _) (Nat.le_refl _) ?_ (fun Q hQ => ft_132 h18 hQ)
          refine eg_k_iinc (lv' := [some (.inr (.inr (some 44))), some (.inl x1), some (.inl x2), some (.inl x3), some (.inl (m12 5 (x4).toNat)), some (.inl 1), some (.inl (eg_wi (x6 + 1)))]) rfl rfl rfl ?_
          refine eg_k_goto rfl ?_
          have hx := Option.some.inj hx
          subst hx
          exact hK
    · refine eg_k_aload rfl rfl ?_
      refine eg_k_ci rfl ?_
      refine eg_k_iload rfl rfl ?_
      refine eg_k_iload rfl rfl ?_
      refine eg_k_ci rfl ?_
      obtain ⟨m23, h21, hx⟩ := vb_bind hx
      refine eg_k_call (c1 := 0) (z1 := 0) (as := [.inr (.inr (some 44)), .inl 15, .inl x4, .inl x4, .inl 0]) (rest := []) rfl eg_tj113 (Nat.le_of_ble_eq_true rfl) rfl rfl rfl (Nat.le_of_ble_eq_true rfl) (Nat.le_refl _) (Nat.le_refl _) ?_ (fun Q hQ => ft_113 h21 hQ)
      refine eg_k_ci rfl ?_
      refine eg_k_istore (lv' := [some (.inr (.inr (some 44))), some (.inl x1), some (.inl x2), some (.inl x3), some (.inl x4), some (.inl 0), some (.inl x6)]) rfl rfl ?_
      refine eg_k_goto rfl ?_
      refine eg_k_aload rfl rfl ?_
      obtain ⟨r25, h24, hx⟩ := vb_bind hx
      refine eg_k_call (c1 := 0) (z1 := 0) (as := [.inr (.inr (some 44))]) (rest := []) rfl eg_tj131 (Nat.le_of_ble_eq_true rfl) rfl rfl rfl (Nat.le_of_ble_eq_true rfl) (Nat.le_refl _) (Nat.le_refl _) ?_ (fun Q hQ => ft_131 h24 hQ)
      refine vk_if rfl hx Iff.rfl (fun c27 hx => ?_) (fun c27 hx => ?_)
      · refine eg_k_iinc (lv' := [some (.inr (.inr (some 44))), some (.inl x1), some (.inl x2), some (.inl x3), some (.inl x4), some (.inl 0), some (.inl (eg_wi (x6 + 1)))]) rfl rfl rfl ?_
        refine eg_k_goto rfl ?_
        have hx := Option.some.inj hx
        subst hx
        exact hK
      · refine eg_k_aload rfl rfl ?_
        refine eg_k_gfr rfl rfl rfl eh_r44_6 ?_
        obtain ⟨m30, h28, hx⟩ := vb_bind hx
        refine eg_k_call (c1 := 0) (z1 := 0) (as := [.inr (.inr (some 38))]) (rest := []) rfl eg_tj132 (Nat.le_of_ble_eq_true rfl) rfl rfl rfl (Nat.le_of_ble_eq_true rfl) (Nat.le_refl _) (Nat.le_refl _) ?_ (fun Q hQ => ft_132 h28 hQ)
        refine eg_k_iinc (lv' := [some (.inr (.inr (some 44))), some (.inl x1), some (.inl x2), some (.inl x3), some (.inl x4), some (.inl 0), some (.inl (eg_wi (x6 + 1)))]) rfl rfl rfl ?_
        refine eg_k_goto rfl ?_
        have hx := Option.some.inj hx
        subst hx
        exact hK
  · refine eg_k_aload rfl rfl ?_
    refine eg_k_aload rfl rfl ?_
    refine eg_k_gfr rfl rfl rfl eh_r44_3 ?_
    refine eg_k_gfi rfl rfl rfl ?_
    obtain ⟨m33, h31, hx⟩ := vb_bind hx
    refine eg_k_call (c1 := 0) (z1 := 0) (as := [.inr (.inr (some 44)), .inl (M 29 0)]) (rest := []) rfl eg_tj104 (Nat.le_of_ble_eq_true rfl) rfl rfl rfl (Nat.le_of_ble_eq_true rfl) (Nat.le_refl _) (Nat.le_refl _) ?_ (fun Q hQ => ft_104 h31 hQ)
    refine eg_k_goto rfl ?_
    refine eg_k_aload rfl rfl ?_
    obtain ⟨r35, h34, hx⟩ := vb_bind hx
    refine eg_k_call (c1 := 0) (z1 := 0) (as := [.inr (.inr (some 44))]) (rest := []) rfl eg_tj131 (Nat.le_of_ble_eq_true rfl) rfl rfl rfl (Nat.le_of_ble_eq_true rfl) (Nat.le_refl _) (Nat.le_refl _) ?_ (fun Q hQ => ft_131 h34 hQ)
    refine vk_if rfl hx Iff.rfl (fun c37 hx => ?_) (fun c37 hx => ?_)
    · refine eg_k_iinc (lv' := [some (.inr (.inr (some 44))), some (.inl x1), some (.inl x2), some (.inl x3), some (.inl x4), some (.inl x5), some (.inl (eg_wi (x6 + 1)))]) rfl rfl rfl ?_
      refine eg_k_goto rfl ?_
      have hx := Option.some.inj hx
      subst hx
      exact hK
    · refine eg_k_aload rfl rfl ?_
      refine eg_k_gfr rfl rfl rfl eh_r44_6 ?_
      obtain ⟨m40, h38, hx⟩ := vb_bind hx
      refine eg_k_call (c1 := 0) (z1 := 0) (as := [.inr (.inr (some 38))]) (rest := []) rfl eg_tj132 (Nat.le_of_ble_eq_true rfl) rfl rfl rfl (Nat.le_of_ble_eq_true rfl) (Nat.le_refl _) (Nat.le_refl _) ?_ (fun Q hQ => ft_132 h38 hQ)
      refine eg_k_iinc (lv' := [some (.inr (.inr (some 44))), some (.inl x1), some (.inl x2), some (.inl x3), some (.inl x4), some (.inl x5), some (.inl (eg_wi (x6 + 1)))]) rfl rfl rfl ?_
      refine eg_k_goto rfl ?_
      have hx := Option.some.inj hx
      subst hx
      exact hK
set_option maxRecDepth 100000 in
theorem ft_69_9 {cn mo : Nat} {sc : eg_Sc} {d : Nat} {Q : Option eg_V → eg_H → Prop} {x1 : Int} {x2 : Int} {x3 : Int} {s : Int × Int × Int × eM} {x : eM} (hx : lp (fun z => fn_69_9 cn mo x1 x2 x3 z.1 z.2.1 z.2.2.1 z.2.2.2) s = some x) (hK : (fun (x : eM) => Q (none) (em_L cn mo, eh_R, x)) x) : eg_X sc (eg_wp sc (d + 20)) eg_p69 none 0 0 Q 9 [some (.inr (.inr (some 44))), some (.inl x1), some (.inl x2), some (.inl x3), some (.inl s.1), some (.inl s.2.1), some (.inl s.2.2.1)] [] (em_L cn mo, eh_R, s.2.2.2) 0 0 := by
  refine lp_sound (P := (fun (s : Int × Int × Int × eM) => eg_X sc (eg_wp sc (d + 20)) eg_p69 none 0 0 Q 9 [some (.inr (.inr (some 44))), some (.inl x1), some (.inl x2), some (.inl x3), some (.inl s.1), some (.inl s.2.1), some (.inl s.2.2.1)] [] (em_L cn mo, eh_R, s.2.2.2) 0 0)) (K := (fun (x : eM) => Q (none) (em_L cn mo, eh_R, x))) hx hK ?_
  intro s x hx hK
  obtain ⟨s1, s2, s3, s4⟩ := s
  refine eg_k_iload rfl rfl ?_
  refine eg_k_ci rfl ?_
  refine vk_icmp rfl hx Iff.rfl (fun c4 hx => ?_) (fun c4 hx => ?_)
  · have hx := Option.some.inj hx
    subst hx
    exact eg_k_ret rfl rfl (Nat.le_refl _) (Nat.le_refl _) hK
  · refine eg_k_aload rfl rfl ?_
    refine eg_k_gfi rfl rfl rfl ?_
    refine vk_if rfl hx Iff.rfl (fun c5 hx => ?_) (fun c5 hx => ?_)
    · have hx := Option.some.inj hx
      subst hx
      exact eg_k_ret rfl rfl (Nat.le_refl _) (Nat.le_refl _) hK
    · refine eg_k_aload rfl rfl ?_
      refine eg_k_gfr rfl rfl rfl eh_r44_3 ?_
      refine eg_k_gfi rfl rfl rfl ?_
      refine vk_if rfl hx Iff.rfl (fun c6 hx => ?_) (fun c6 hx => ?_)
      · have hz := ft_69_31 (d := d) (sc := sc) hx hK
        exact hz
      · refine eg_k_aload rfl rfl ?_
        refine eg_k_aload rfl rfl ?_
        refine eg_k_gfr rfl rfl rfl eh_r44_3 ?_
        refine eg_k_gfi rfl rfl rfl ?_
        obtain ⟨r42, h41, hx⟩ := vb_bind hx
        refine eg_k_call (c1 := 0) (z1 := 0) (as := [.inr (.inr (some 44)), .inl (s4 29 0)]) (rest := []) rfl eg_tj72 (Nat.le_of_ble_eq_true rfl) rfl rfl rfl (Nat.le_of_ble_eq_true rfl) (Nat.le_refl _) (Nat.le_refl _) ?_ (fun Q hQ => ft_72 h41 hQ)
        refine vk_if rfl hx Iff.rfl (fun c44 hx => ?_) (fun c44 hx => ?_)
        · have hz := ft_69_31 (d := d) (sc := sc) hx hK
          exact hz
        · refine eg_k_aload rfl rfl ?_
          refine eg_k_aload rfl rfl ?_
          refine eg_k_gfr rfl rfl rfl eh_r44_3 ?_
          refine eg_k_gfi rfl rfl rfl ?_
          obtain ⟨m47, h45, hx⟩ := vb_bind hx
          refine eg_k_call (c1 := 0) (z1 := 0) (as := [.inr (.inr (some 44)), .inl (s4 29 0)]) (rest := []) rfl eg_tj74 (Nat.le_of_ble_eq_true rfl) rfl rfl rfl (Nat.le_of_ble_eq_true rfl) (Nat.le_refl _) (Nat.le_refl _) ?_ (fun Q hQ => ft_74 h45 hQ)
          refine eg_k_goto rfl ?_
          refine eg_k_aload rfl rfl ?_
          obtain ⟨r49, h48, hx⟩ := vb_bind hx
          refine eg_k_call (c1 := 0) (z1 := 0) (as := [.inr (.inr (some 44))]) (rest := []) rfl eg_tj131 (Nat.le_of_ble_eq_true rfl) rfl rfl rfl (Nat.le_of_ble_eq_true rfl) (Nat.le_refl _) (Nat.le_refl _) ?_ (fun Q hQ => ft_131 h48 hQ)
          refine vk_if rfl hx Iff.rfl (fun c51 hx => ?_) (fun c51 hx => ?_)
          · refine eg_k_iinc (lv' := [some (.inr (.inr (some 44))), some (.inl x1), some (.inl x2), some (.inl x3), some (.inl s1), some (.inl s2), some (.inl (eg_wi (s3 + 1)))]) rfl rfl rfl ?_
            refine eg_k_goto rfl ?_
            have hx := Option.some.inj hx
            subst hx
            exact hK
          · refine eg_k_aload rfl rfl ?_
            refine eg_k_gfr rfl rfl rfl eh_r44_6 ?_
            obtain ⟨m54, h52, hx⟩ := vb_bind hx
            refine eg_k_call (c1 := 0) (z1 := 0) (as := [.inr (.inr (some 38))]) (rest := []) rfl eg_tj132 (Nat.le_of_ble_eq_true rfl) rfl rfl rfl (Nat.le_of_ble_eq_true rfl) (Nat.le_refl _) (Nat.le_refl _) ?_ (fun Q hQ => ft_132 h52 hQ)
            refine eg_k_iinc (lv' := [some (.inr (.inr (some 44))), some (.inl x1), some (.inl x2), some (.inl x3), some (.inl s1), some (.inl s2), some (.inl (eg_wi (s3 + 1)))]) rfl rfl rfl ?_
            refine eg_k_goto rfl ?_
            have hx := Option.some.inj hx
            subst hx
            exact hK
set_option maxRecDepth 100000 in
theorem ft_69 {cn mo : Nat} {sc : eg_Sc} {d : Nat} {M : eM} {Q : Option eg_V → eg_H → Prop} {a : Int} {b : Int} {e : Int} {x : eM} (hx : fn_69 cn mo a b e M = some x) (hK : Q (none) (em_L cn mo, eh_R, x)) : eg_wp sc (d + 21) 69 [.inr (.inr (some 44)), .inl a, .inl b, .inl e] (em_L cn mo, eh_R, M) 0 0 Q := by
  refine eg_in (lv := [some (.inr (.inr (some 44))), some (.inl a), some (.inl b), some (.inl e), none, none, none]) eg_tj69 (Nat.le_of_ble_eq_true rfl) rfl ?_
  refine eg_k_aload rfl rfl ?_
  refine eg_k_iload rfl rfl ?_
  obtain ⟨m3, h1, hx⟩ := vb_bind hx
  refine eg_k_call (c1 := 0) (z1 := 0) (as := [.inr (.inr (some 44)), .inl e]) (rest := []) rfl eg_tj70 (Nat.le_of_ble_eq_true rfl) rfl rfl rfl (Nat.le_of_ble_eq_true rfl) (Nat.le_refl _) (Nat.le_refl _) ?_ (fun Q hQ => ft_70 h1 hQ)
  refine eg_k_iload rfl rfl ?_
  refine eg_k_istore (lv' := [some (.inr (.inr (some 44))), some (.inl a), some (.inl b), some (.inl e), some (.inl a), none, none]) rfl rfl ?_
  refine eg_k_ci rfl ?_
  refine eg_k_istore (lv' := [some (.inr (.inr (some 44))), some (.inl a), some (.inl b), some (.inl e), some (.inl a), some (.inl 0), none]) rfl rfl ?_
  refine eg_k_ci rfl ?_
  refine eg_k_istore (lv' := [some (.inr (.inr (some 44))), some (.inl a), some (.inl b), some (.inl e), some (.inl a), some (.inl 0), some (.inl 0)]) rfl rfl ?_
  have hz := ft_69_9 (d := d) (sc := sc) hx hK
  exact hz
theorem fw_69_31 {cn : Nat} {mo : Nat} {M : eM} {c j : Nat} {v : Int} {x1 : Int} {x2 : Int} {x3 : Int} {x4 : Int} {x5 : Int} {x6 : Int} {x : (Int × Int × Int × eM) ⊕ (eM)} (hc : c ∉ ([15, 16, 17, 18, 19, 20, 21, 22, 23, 24, 25, 26, 27, 28, 29, 30, 31, 32, 33, 34, 35, 36, 37, 38, 39, 40, 41, 42, 43, 44] : List Nat)) (hx : fn_69_31 cn mo x1 x2 x3 x4 x5 x6 M = some x) (hK : (eK (fun (s : Int × Int × Int × eM) => s.2.2.2 c j = v) (fun (x : eM) => x c j = v)) x) : M c j = v := by
  refine vb_ite hx (fun _ hx => ?_) (fun _ hx => ?_)
  · refine vb_ite hx (fun _ hx => ?_) (fun _ hx => ?_)
    · refine vb_ite hx (fun _ hx => ?_) (fun _ hx => ?_)
      · have hx := Option.some.inj hx
        subst hx
        exact (Eq.refl _).symm.trans hK
      · obtain ⟨m12, h10, hx⟩ := vb_bind hx
        obtain ⟨_, hx⟩ := vb_if hx
        obtain ⟨r15, h14, hx⟩ := vb_bind hx
        refine vb_ite hx (fun _ hx => ?_) (fun _ hx => ?_)
        · have hx := Option.some.inj hx
          subst hx
          exact ((fw_131 h14 (vsub hc (by decide)) j).trans ((fw_111 h10 (vsub hc (by decide)) j).trans rfl)).symm.trans hK
        · obtain ⟨m20, h18, hx⟩ := vb_bind hx
          have hx := Option.some.inj hx
          subst hx
          exact ((fw_132 h18 (vsub hc (by decide)) j).trans ((fw_131 h14 (vsub hc (by decide)) j).trans ((fw_111 h10 (vsub hc (by decide)) j).trans rfl))).symm.trans hK
    · obtain ⟨m23, h21, hx⟩ := vb_bind hx
      obtain ⟨r25, h24, hx⟩ := vb_bind hx
      refine vb_ite hx (fun _ hx => ?_) (fun _ hx => ?_)
      · have hx := Option.some.inj hx
        subst hx
        exact ((fw_131 h24 (vsub hc (by decide)) j).trans ((fw_113 h21 (vsub hc (by decide)) j).trans rfl)).symm.trans hK
      · obtain ⟨m30, h28, hx⟩ := vb_bind hx
        have hx := Option.some.inj hx
        subst hx
        exact ((fw_132 h28 (vsub hc (by decide)) j).trans ((fw_131 h24 (vsub hc (by decide)) j).trans ((fw_113 h21 (vsub hc (by decide)) j).trans rfl))).symm.trans hK
  · obtain ⟨m33, h31, hx⟩ := vb_bind hx
    obtain ⟨r35, h34, hx⟩ := vb_bind hx
    refine vb_ite hx (fun _ hx => ?_) (fun _ hx => ?_)
    · have hx := Option.some.inj hx
      subst hx
      exact ((fw_131 h34 (vsub hc (by decide)) j).trans ((fw_104 h31 (vsub hc (by decide)) j).trans rfl)).symm.trans hK
    · obtain ⟨m40, h38, hx⟩ := vb_bind hx
      have hx := Option.some.inj hx
      subst hx
      exact ((fw_132 h38 (vsub hc (by decide)) j).trans ((fw_131 h34 (vsub hc (by decide)) j).trans ((fw_104 h31 (vsub hc (by decide)) j).trans rfl))).symm.trans hK
theorem fw_69_9 {cn : Nat} {mo : Nat} {c j : Nat} {v : Int} {x1 : Int} {x2 : Int} {x3 : Int} {s : Int × Int × Int × eM} {x : eM} (hc : c ∉ ([15, 16, 17, 18, 19, 20, 21, 22, 23, 24, 25, 26, 27, 28, 29, 30, 31, 32, 33, 34, 35, 36, 37, 38, 39, 40, 41, 42, 43, 44] : List Nat)) (hx : lp (fun z => fn_69_9 cn mo x1 x2 x3 z.1 z.2.1 z.2.2.1 z.2.2.2) s = some x) (hK : (fun (x : eM) => x c j = v) x) : s.2.2.2 c j = v := by
  refine lp_sound (P := (fun (s : Int × Int × Int × eM) => s.2.2.2 c j = v)) (K := (fun (x : eM) => x c j = v)) hx hK ?_
  intro s x hx hK
  obtain ⟨s1, s2, s3, s4⟩ := s
  refine vb_ite hx (fun _ hx => ?_) (fun _ hx => ?_)
  · have hx := Option.some.inj hx
    subst hx
    exact (Eq.refl _).symm.trans hK
  · refine vb_ite hx (fun _ hx => ?_) (fun _ hx => ?_)
    · have hx := Option.some.inj hx
      subst hx
      exact (Eq.refl _).symm.trans hK
    · refine vb_ite hx (fun _ hx => ?_) (fun _ hx => ?_)
      · have hz := fw_69_31 hc hx hK
        exact (Eq.refl _).symm.trans hz
      · obtain ⟨r42, h41, hx⟩ := vb_bind hx
        refine vb_ite hx (fun _ hx => ?_) (fun _ hx => ?_)
        · have hz := fw_69_31 hc hx hK
          exact (Eq.refl _).symm.trans hz
        · obtain ⟨m47, h45, hx⟩ := vb_bind hx
          obtain ⟨r49, h48, hx⟩ := vb_bind hx
          refine vb_ite hx (fun _ hx => ?_) (fun _ hx => ?_)
          · have hx := Option.some.inj hx
            subst hx
            exact ((fw_131 h48 (vsub hc (by decide)) j).trans ((fw_74 h45 (vsub hc (by decide)) j).trans rfl)).symm.trans hK
          · obtain ⟨m54, h52, hx⟩ := vb_bind hx
            have hx := Option.some.inj hx
            subst hx
            exact ((fw_132 h52 (vsub hc (by decide)) j).trans ((fw_131 h48 (vsub hc (by decide)) j).trans ((fw_74 h45 (vsub hc (by decide)) j).trans rfl))).symm.trans hK
theorem fw_69 {cn : Nat} {mo : Nat} {M : eM} {c : Nat} {a : Int} {b : Int} {e : Int} {x : eM} (hx : fn_69 cn mo a b e M = some x) (hc : c ∉ ([15, 16, 17, 18, 19, 20, 21, 22, 23, 24, 25, 26, 27, 28, 29, 30, 31, 32, 33, 34, 35, 36, 37, 38, 39, 40, 41, 42, 43, 44] : List Nat)) (j : Nat) : x c j = M c j := by
  obtain ⟨v, hK⟩ : ∃ v, x c j = v := ⟨_, rfl⟩
  rw [hK]
  refine Eq.symm ?_
  obtain ⟨m3, h1, hx⟩ := vb_bind hx
  have hz := fw_69_9 hc hx hK
  exact ((fw_70 h1 (vsub hc (by decide)) j).trans rfl).symm.trans hz
noncomputable def fn_29_47 (cn : Nat) (mo : Nat) (x1 : Int) (x2 : Int) (x3 : Int) (M : eM) : Option (Int × eM) :=
  if (M 0 8) = (-1) then
    (fn_69 cn mo x3 (M 1 6) x2 M).bind fun m12 =>
    some (m12 44 8, eg_u m12 0 9 (m12 44 7))
  else
    if ¬ (M 7 4) = 0 then
      some (M 7 4, eg_u M 1 6 x3)
    else
      some (3, eg_u M 1 6 x3)
/-- 29: WeakScheme.run(II)I -/
noncomputable def fn_29 (cn : Nat) (mo : Nat) (a : Int) (b : Int) (M : eM) : Option (Int × eM) :=
  if a < 0 then
    some ((-1), M)
  else
    if (M 7 2) < a then
      some ((-1), M)
    else
      if b < 0 then
        some ((-1), M)
      else
        if b ≤ 20000 then
          (fn_30 a (eg_u M 0 9 b)).bind fun m7 =>
          if ¬ (m7 7 4) = 0 then
            fn_29_47 cn mo a b (M 1 6) (eg_u (eg_u m7 7 2 0) 0 8 (m7 7 5))
          else
            (fn_54 (M 1 6) (eg_u (eg_u m7 7 2 0) 0 8 (m7 7 5))).bind fun r15 =>
            fn_29_47 cn mo a b (M 1 6) (eg_u r15.2 0 8 r15.1)
        else
          some ((-1), M)
set_option maxRecDepth 100000 in
theorem ft_29_47 {cn mo : Nat} {sc : eg_Sc} {d : Nat} {M : eM} {Q : Option eg_V → eg_H → Prop} {x1 : Int} {x2 : Int} {x3 : Int} {x : Int × eM} (hx : fn_29_47 cn mo x1 x2 x3 M = some x) (hK : (fun (x : Int × eM) => Q (some (.inl ((x).1))) (em_L cn mo, eh_R, (x).2)) x) : eg_X sc (eg_wp sc (d + 21)) eg_p29 (some .int) 0 0 Q 47 [some (.inr (.inr (some 0))), some (.inl x1), some (.inl x2), some (.inl x3)] [] (em_L cn mo, eh_R, M) 0 0 := by
  refine eg_k_aload rfl rfl ?_
  refine eg_k_gfi rfl rfl rfl ?_
  refine eg_k_ci rfl ?_
  refine vk_icmp rfl hx Iff.rfl (fun c9 hx => ?_) (fun c9 hx => ?_)
  · refine eg_k_aload rfl rfl ?_
    refine eg_k_gfr rfl rfl rfl eh_r0_7 ?_
    refine eg_k_iload rfl rfl ?_
    refine eg_k_aload rfl rfl ?_
    refine eg_k_gfr rfl rfl rfl eh_r0_0 ?_
    refine eg_k_gfi rfl rfl rfl ?_
    refine eg_k_iload rfl rfl ?_
    obtain ⟨m12, h10, hx⟩ := vb_bind hx
    refine eg_k_call (c1 := 0) (z1 := 0) (as := [.inr (.inr (some 44)), .inl x3, .inl (M 1 6), .inl x2]) (rest := []) rfl eg_tj69 (Nat.le_of_ble_eq_true rfl) rfl rfl rfl (Nat.le_of_ble_eq_true rfl) (Nat.le_refl _) (Nat.le_refl _) ?_ (fun Q hQ => ft_69 h10 hQ)
    refine eg_k_aload rfl rfl ?_
    refine eg_k_aload rfl rfl ?_
    refine eg_k_gfr rfl rfl rfl eh_r0_7 ?_
    refine eg_k_gfi rfl rfl rfl ?_
    refine eg_k_pfi rfl rfl rfl ?_
    refine eg_k_aload rfl rfl ?_
    refine eg_k_gfr rfl rfl rfl eh_r0_7 ?_
    refine eg_k_gfie (x := m12 44 8) rfl rfl rfl rfl ?_
    have hx := Option.some.inj hx
    subst hx
    exact eg_k_iret rfl True.intro (Nat.le_refl _) (Nat.le_refl _) hK
  · refine eg_k_aload rfl rfl ?_
    refine eg_k_gfr rfl rfl rfl eh_r0_0 ?_
    refine eg_k_iload rfl rfl ?_
    refine eg_k_pfi rfl rfl rfl ?_
    refine eg_k_aload rfl rfl ?_
    refine eg_k_gfr rfl rfl rfl eh_r0_1 ?_
    refine eg_k_gfie (x := M 7 4) rfl rfl rfl rfl ?_
    refine vk_if rfl hx Iff.rfl (fun c13 hx => ?_) (fun c13 hx => ?_)
    · refine eg_k_aload rfl rfl ?_
      refine eg_k_gfr rfl rfl rfl eh_r0_1 ?_
      refine eg_k_gfie (x := M 7 4) rfl rfl rfl rfl ?_
      have hx := Option.some.inj hx
      subst hx
      exact eg_k_iret rfl True.intro (Nat.le_refl _) (Nat.le_refl _) hK
    · refine eg_k_ci rfl ?_
      refine eg_k_goto rfl ?_
      have hx := Option.some.inj hx
      subst hx
      exact eg_k_iret rfl True.intro (Nat.le_refl _) (Nat.le_refl _) hK
set_option maxRecDepth 100000 in
theorem ft_29 {cn mo : Nat} {sc : eg_Sc} {d : Nat} {M : eM} {Q : Option eg_V → eg_H → Prop} {a : Int} {b : Int} {x : Int × eM} (hx : fn_29 cn mo a b M = some x) (hK : Q (some (.inl ((x).1))) (em_L cn mo, eh_R, (x).2)) : eg_wp sc (d + 22) 29 [.inr (.inr (some 0)), .inl a, .inl b] (em_L cn mo, eh_R, M) 0 0 Q := by
  refine eg_in (lv := [some (.inr (.inr (some 0))), some (.inl a), some (.inl b), none]) eg_tj29 (Nat.le_of_ble_eq_true rfl) rfl ?_
  refine eg_k_iload rfl rfl ?_
  refine vk_if rfl hx Iff.rfl (fun c1 hx => ?_) (fun c1 hx => ?_)
  · refine eg_k_ci rfl ?_
    have hx := Option.some.inj hx
    subst hx
    exact eg_k_iret rfl True.intro (Nat.le_refl _) (Nat.le_refl _) hK
  · refine eg_k_iload rfl rfl ?_
    refine eg_k_aload rfl rfl ?_
    refine eg_k_gfr rfl rfl rfl eh_r0_1 ?_
    refine eg_k_gfi rfl rfl rfl ?_
    refine vk_icmp rfl hx Iff.rfl (fun c2 hx => ?_) (fun c2 hx => ?_)
    · refine eg_k_ci rfl ?_
      have hx := Option.some.inj hx
      subst hx
      exact eg_k_iret rfl True.intro (Nat.le_refl _) (Nat.le_refl _) hK
    · refine eg_k_iload rfl rfl ?_
      refine vk_if rfl hx Iff.rfl (fun c3 hx => ?_) (fun c3 hx => ?_)
      · refine eg_k_ci rfl ?_
        have hx := Option.some.inj hx
        subst hx
        exact eg_k_iret rfl True.intro (Nat.le_refl _) (Nat.le_refl _) hK
      · refine eg_k_iload rfl rfl ?_
        refine eg_k_ci rfl ?_
        refine vk_icmp rfl hx Iff.rfl (fun c4 hx => ?_) (fun c4 hx => ?_)
        · refine eg_k_aload rfl rfl ?_
          refine eg_k_iload rfl rfl ?_
          refine eg_k_pfi rfl rfl rfl ?_
          refine eg_k_aload rfl rfl ?_
          refine eg_k_gfr rfl rfl rfl eh_r0_0 ?_
          refine eg_k_gfie (x := M 1 6) rfl rfl rfl rfl ?_
          refine eg_k_istore (lv' := [some (.inr (.inr (some 0))), some (.inl a), some (.inl b), some (.inl (M 1 6))]) rfl rfl ?_
          refine eg_k_aload rfl rfl ?_
          refine eg_k_gfr rfl rfl rfl eh_r0_1 ?_
          refine eg_k_iload rfl rfl ?_
          obtain ⟨m7, h5, hx⟩ := vb_bind hx
          refine eg_k_call (c1 := 0) (z1 := 0) (as := [.inr (.inr (some 7)), .inl a]) (rest := []) rfl eg_tj30 (Nat.le_of_ble_eq_true rfl) rfl rfl rfl (Nat.le_of_ble_eq_true rfl) (Nat.le_refl _) (Nat.le_refl _) ?_ (fun Q hQ => ft_30 h5 hQ)
          refine eg_k_aload rfl rfl ?_
          refine eg_k_gfr rfl rfl rfl eh_r0_1 ?_
          refine eg_k_ci rfl ?_
          refine eg_k_pfi rfl rfl rfl ?_
          refine eg_k_aload rfl rfl ?_
          refine eg_k_aload rfl rfl ?_
          refine eg_k_gfr rfl rfl rfl eh_r0_1 ?_
          refine eg_k_gfie (x := m7 7 5) rfl rfl rfl rfl ?_
          refine eg_k_pfi rfl rfl rfl ?_
          refine eg_k_aload rfl rfl ?_
          refine eg_k_gfr rfl rfl rfl eh_r0_1 ?_
          refine eg_k_gfie (x := m7 7 4) rfl rfl rfl rfl ?_
          refine vk_if rfl hx Iff.rfl (fun c8 hx => ?_) (fun c8 hx => ?_)
          · have hz := ft_29_47 (d := d) (sc := sc) hx hK
            exact hz
          · refine eg_k_aload rfl rfl ?_
            refine eg_k_aload rfl rfl ?_
            refine eg_k_gfr rfl rfl rfl eh_r0_2 ?_
            refine eg_k_iload rfl rfl ?_
            refine eg_k_aload rfl rfl ?_
            refine eg_k_gfr rfl rfl rfl eh_r0_1 ?_
            refine eg_k_gfa rfl rfl rfl eh_r7_3 ?_
            obtain ⟨r15, h14, hx⟩ := vb_bind hx
            refine eg_k_call (c1 := 0) (z1 := 0) (as := [.inr (.inr (some 12)), .inl (M 1 6), .inr (.inr (some 9))]) (rest := [.inr (.inr (some 0))]) rfl eg_tj54 (Nat.le_of_ble_eq_true rfl) rfl rfl rfl (Nat.le_of_ble_eq_true rfl) (Nat.le_refl _) (Nat.le_refl _) ?_ (fun Q hQ => ft_54 h14 hQ)
            refine eg_k_pfi rfl rfl rfl ?_
            have hz := ft_29_47 (d := d) (sc := sc) hx hK
            exact hz
        · refine eg_k_ci rfl ?_
          have hx := Option.some.inj hx
          subst hx
          exact eg_k_iret rfl True.intro (Nat.le_refl _) (Nat.le_refl _) hK
theorem fw_29_47 {cn : Nat} {mo : Nat} {M : eM} {c j : Nat} {v : Int} {x1 : Int} {x2 : Int} {x3 : Int} {x : Int × eM} (hc : c ∉ ([0, 1, 2, 3, 4, 5, 6, 7, 9, 10, 11, 12, 13, 14, 15, 16, 17, 18, 19, 20, 21, 22, 23, 24, 25, 26, 27, 28, 29, 30, 31, 32, 33, 34, 35, 36, 37, 38, 39, 40, 41, 42, 43, 44] : List Nat)) (hx : fn_29_47 cn mo x1 x2 x3 M = some x) (hK : (fun (x : Int × eM) => ((x).2) c j = v) x) : M c j = v := by
  refine vb_ite hx (fun _ hx => ?_) (fun _ hx => ?_)
  · obtain ⟨m12, h10, hx⟩ := vb_bind hx
    have hx := Option.some.inj hx
    subst hx
    exact ((congrFun (eg_u_ne (vne hc (a := 0) (by decide))) j).trans ((fw_69 h10 (vsub hc (by decide)) j).trans rfl)).symm.trans hK
  · refine vb_ite hx (fun _ hx => ?_) (fun _ hx => ?_)
    · have hx := Option.some.inj hx
      subst hx
      exact ((congrFun (eg_u_ne (vne hc (a := 1) (by decide))) j).trans rfl).symm.trans hK
    · have hx := Option.some.inj hx
      subst hx
      exact ((congrFun (eg_u_ne (vne hc (a := 1) (by decide))) j).trans rfl).symm.trans hK
theorem fw_29 {cn : Nat} {mo : Nat} {M : eM} {c : Nat} {a : Int} {b : Int} {x : Int × eM} (hx : fn_29 cn mo a b M = some x) (hc : c ∉ ([0, 1, 2, 3, 4, 5, 6, 7, 9, 10, 11, 12, 13, 14, 15, 16, 17, 18, 19, 20, 21, 22, 23, 24, 25, 26, 27, 28, 29, 30, 31, 32, 33, 34, 35, 36, 37, 38, 39, 40, 41, 42, 43, 44] : List Nat)) (j : Nat) : ((x).2) c j = M c j := by
  obtain ⟨v, hK⟩ : ∃ v, ((x).2) c j = v := ⟨_, rfl⟩
  rw [hK]
  refine Eq.symm ?_
  refine vb_ite hx (fun _ hx => ?_) (fun _ hx => ?_)
  · have hx := Option.some.inj hx
    subst hx
    exact (Eq.refl _).symm.trans hK
  · refine vb_ite hx (fun _ hx => ?_) (fun _ hx => ?_)
    · have hx := Option.some.inj hx
      subst hx
      exact (Eq.refl _).symm.trans hK
    · refine vb_ite hx (fun _ hx => ?_) (fun _ hx => ?_)
      · have hx := Option.some.inj hx
        subst hx
        exact (Eq.refl _).symm.trans hK
      · refine vb_ite hx (fun _ hx => ?_) (fun _ hx => ?_)
        · obtain ⟨m7, h5, hx⟩ := vb_bind hx
          refine vb_ite hx (fun _ hx => ?_) (fun _ hx => ?_)
          · have hz := fw_29_47 hc hx hK
            exact ((congrFun (eg_u_ne (vne hc (a := 0) (by decide))) j).trans ((congrFun (eg_u_ne (vne hc (a := 7) (by decide))) j).trans ((fw_30 h5 (vsub hc (by decide)) j).trans ((congrFun (eg_u_ne (vne hc (a := 0) (by decide))) j).trans rfl)))).symm.trans hz
          · obtain ⟨r15, h14, hx⟩ := vb_bind hx
            have hz := fw_29_47 hc hx hK
            exact ((congrFun (eg_u_ne (vne hc (a := 0) (by decide))) j).trans ((fw_54 h14 (vsub hc (by decide)) j).trans ((congrFun (eg_u_ne (vne hc (a := 0) (by decide))) j).trans ((congrFun (eg_u_ne (vne hc (a := 7) (by decide))) j).trans ((fw_30 h5 (vsub hc (by decide)) j).trans ((congrFun (eg_u_ne (vne hc (a := 0) (by decide))) j).trans rfl)))))).symm.trans hz
        · have hx := Option.some.inj hx
          subst hx
          exact (Eq.refl _).symm.trans hK
