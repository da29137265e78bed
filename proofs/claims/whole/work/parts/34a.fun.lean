noncomputable def fn_33_0 (s : eM) : Option ((eM) ⊕ (eM)) :=
  if (s 7 6) ≤ (s 7 7) then
    some (.inr s)
  else
    if 0 ≤ (s 7 7) ∧ (s 7 7) < 3000 then
    if (s 8 (s 7 7).toNat) < 32 then
        some (.inr s)
      else
        if 126 < (s 8 (s 7 7).toNat) then
          some (.inr s)
        else
          some (.inl (eg_u s 7 7 (eg_wi ((s 7 7) + 1))))
    else none
/-- 33: WeakScheme$Reader.skipComment()V -/
noncomputable def fn_33 (M : eM) : Option (eM) :=
  lp (fn_33_0) M
set_option maxRecDepth 100000 in
theorem ft_33_0 {cn mo : Nat} {sc : eg_Sc} {d : Nat} {Q : Option eg_V → eg_H → Prop} {s : eM} {x : eM} (hx : lp (fn_33_0) s = some x) (hK : (fun (x : eM) => Q (none) (em_L cn mo, eh_R, x)) x) : eg_X sc (eg_wp sc d) eg_p33 none 0 0 Q 0 [some (.inr (.inr (some 7)))] [] (em_L cn mo, eh_R, s) 0 0 := by
  refine lp_sound (P := (fun (s : eM) => eg_X sc (eg_wp sc d) eg_p33 none 0 0 Q 0 [some (.inr (.inr (some 7)))] [] (em_L cn mo, eh_R, s) 0 0)) (K := (fun (x : eM) => Q (none) (em_L cn mo, eh_R, x))) hx hK ?_
  intro s x hx hK
  refine eg_k_aload rfl rfl ?_
  refine eg_k_gfi rfl rfl rfl ?_
  refine eg_k_aload rfl rfl ?_
  refine eg_k_gfi rfl rfl rfl ?_
  refine vk_icmp rfl hx Iff.rfl (fun c1 hx => ?_) (fun c1 hx => ?_)
  · have hx := Option.some.inj hx
    subst hx
    exact eg_k_ret rfl rfl (Nat.le_refl _) (Nat.le_refl _) hK
  · refine eg_k_aload rfl rfl ?_
    refine eg_k_gfa rfl rfl rfl eh_r7_1 ?_
    refine eg_k_aload rfl rfl ?_
    refine eg_k_gfi rfl rfl rfl ?_
    obtain ⟨b2, hx⟩ := vb_if hx
    refine eg_k_bald (k := 3000) rfl rfl b2.1 b2.2 ?_
    refine eg_k_ci rfl ?_
    refine vk_icmp rfl hx Iff.rfl (fun c3 hx => ?_) (fun c3 hx => ?_)
    · have hx := Option.some.inj hx
      subst hx
      exact eg_k_ret rfl rfl (Nat.le_refl _) (Nat.le_refl _) hK
    · refine eg_k_aload rfl rfl ?_
      refine eg_k_gfa rfl rfl rfl eh_r7_1 ?_
      refine eg_k_aload rfl rfl ?_
      refine eg_k_gfi rfl rfl rfl ?_
      refine eg_k_bald (k := 3000) rfl rfl b2.1 b2.2 ?_
      refine eg_k_ci rfl ?_
      refine vk_icmp rfl hx Iff.rfl (fun c5 hx => ?_) (fun c5 hx => ?_)
      · have hx := Option.some.inj hx
        subst hx
        exact eg_k_ret rfl rfl (Nat.le_refl _) (Nat.le_refl _) hK
      · refine eg_k_aload rfl rfl ?_
        refine eg_k_dupr rfl ?_
        refine eg_k_gfi rfl rfl rfl ?_
        refine eg_k_ci rfl ?_
        refine eg_k_iadd rfl ?_
        refine eg_k_pfi rfl rfl rfl ?_
        refine eg_k_goto rfl ?_
        have hx := Option.some.inj hx
        subst hx
        exact hK
set_option maxRecDepth 100000 in
theorem ft_33 {cn mo : Nat} {sc : eg_Sc} {d : Nat} {M : eM} {Q : Option eg_V → eg_H → Prop} {x : eM} (hx : fn_33 M = some x) (hK : Q (none) (em_L cn mo, eh_R, x)) : eg_wp sc (d + 1) 33 [.inr (.inr (some 7))] (em_L cn mo, eh_R, M) 0 0 Q := by
  refine eg_in (lv := [some (.inr (.inr (some 7)))]) eg_tj33 (Nat.le_of_ble_eq_true rfl) rfl ?_
  have hz := ft_33_0 (d := d) (sc := sc) hx hK
  exact hz
theorem fw_33_0 {c j : Nat} {v : Int} {s : eM} {x : eM} (hc : c ∉ ([7] : List Nat)) (hx : lp (fn_33_0) s = some x) (hK : (fun (x : eM) => x c j = v) x) : s c j = v := by
  refine lp_sound (P := (fun (s : eM) => s c j = v)) (K := (fun (x : eM) => x c j = v)) hx hK ?_
  intro s x hx hK
  refine vb_ite hx (fun _ hx => ?_) (fun _ hx => ?_)
  · have hx := Option.some.inj hx
    subst hx
    exact (Eq.refl _).symm.trans hK
  · obtain ⟨_, hx⟩ := vb_if hx
    refine vb_ite hx (fun _ hx => ?_) (fun _ hx => ?_)
    · have hx := Option.some.inj hx
      subst hx
      exact (Eq.refl _).symm.trans hK
    · refine vb_ite hx (fun _ hx => ?_) (fun _ hx => ?_)
      · have hx := Option.some.inj hx
        subst hx
        exact (Eq.refl _).symm.trans hK
      · have hx := Option.some.inj hx
        subst hx
        exact ((congrFun (eg_u_ne (vne hc (a := 7) (by decide))) j).trans rfl).symm.trans hK
theorem fw_33 {M : eM} {c : Nat} {x : eM} (hx : fn_33 M = some x) (hc : c ∉ ([7] : List Nat)) (j : Nat) : x c j = M c j := by
  obtain ⟨v, hK⟩ : ∃ v, x c j = v := ⟨_, rfl⟩
  rw [hK]
  refine Eq.symm ?_
  have hz := fw_33_0 hc hx hK
  exact (Eq.refl _).symm.trans hz
/-- 35: WeakScheme$Reader.fail(II)V -/
noncomputable def fn_35 (a : Int) (b : Int) (M : eM) : Option (eM) :=
  some (eg_u (eg_u M 7 4 a) 7 5 b)
set_option maxRecDepth 100000 in
theorem ft_35 {cn mo : Nat} {sc : eg_Sc} {d : Nat} {M : eM} {Q : Option eg_V → eg_H → Prop} {a : Int} {b : Int} {x : eM} (hx : fn_35 a b M = some x) (hK : Q (none) (em_L cn mo, eh_R, x)) : eg_wp sc (d + 1) 35 [.inr (.inr (some 7)), .inl a, .inl b] (em_L cn mo, eh_R, M) 0 0 Q := by
  refine eg_in (lv := [some (.inr (.inr (some 7))), some (.inl a), some (.inl b)]) eg_tj35 (Nat.le_of_ble_eq_true rfl) rfl ?_
  refine eg_k_aload rfl rfl ?_
  refine eg_k_iload rfl rfl ?_
  refine eg_k_pfi rfl rfl rfl ?_
  refine eg_k_aload rfl rfl ?_
  refine eg_k_iload rfl rfl ?_
  refine eg_k_pfi rfl rfl rfl ?_
  have hx := Option.some.inj hx
  subst hx
  exact eg_k_ret rfl rfl (Nat.le_refl _) (Nat.le_refl _) hK
theorem fw_35 {M : eM} {c : Nat} {a : Int} {b : Int} {x : eM} (hx : fn_35 a b M = some x) (hc : c ∉ ([7] : List Nat)) (j : Nat) : x c j = M c j := by
  obtain ⟨v, hK⟩ : ∃ v, x c j = v := ⟨_, rfl⟩
  rw [hK]
  refine Eq.symm ?_
  have hx := Option.some.inj hx
  subst hx
  exact ((congrFun (eg_u_ne (vne hc (a := 7) (by decide))) j).trans ((congrFun (eg_u_ne (vne hc (a := 7) (by decide))) j).trans rfl)).symm.trans hK
/-- 37: WeakScheme$Reader.hasRoom()Z -/
noncomputable def fn_37 (M : eM) : Option (Int) :=
  if 2000 ≤ (eg_wi ((M 1 6) - (M 7 8))) then
    some 0
  else
    if 20000 ≤ (M 1 6) then
      some 0
    else
      some 1
set_option maxRecDepth 100000 in
theorem ft_37 {cn mo : Nat} {sc : eg_Sc} {d : Nat} {M : eM} {Q : Option eg_V → eg_H → Prop} {x : Int} (hx : fn_37 M = some x) (hK : Q (some (.inl x)) (em_L cn mo, eh_R, M)) : eg_wp sc (d + 1) 37 [.inr (.inr (some 7))] (em_L cn mo, eh_R, M) 0 0 Q := by
  refine eg_in (lv := [some (.inr (.inr (some 7)))]) eg_tj37 (Nat.le_of_ble_eq_true rfl) rfl ?_
  refine eg_k_aload rfl rfl ?_
  refine eg_k_gfr rfl rfl rfl eh_r7_0 ?_
  refine eg_k_gfi rfl rfl rfl ?_
  refine eg_k_aload rfl rfl ?_
  refine eg_k_gfi rfl rfl rfl ?_
  refine eg_k_isub rfl ?_
  refine eg_k_ci rfl ?_
  refine vk_icmp rfl hx Iff.rfl (fun c1 hx => ?_) (fun c1 hx => ?_)
  · refine eg_k_ci rfl ?_
    have hx := Option.some.inj hx
    subst hx
    exact eg_k_iret rfl (Or.inl rfl) (Nat.le_refl _) (Nat.le_refl _) hK
  · refine eg_k_aload rfl rfl ?_
    refine eg_k_gfr rfl rfl rfl eh_r7_0 ?_
    refine eg_k_gfi rfl rfl rfl ?_
    refine eg_k_ci rfl ?_
    refine vk_icmp rfl hx Iff.rfl (fun c2 hx => ?_) (fun c2 hx => ?_)
    · refine eg_k_ci rfl ?_
      have hx := Option.some.inj hx
      subst hx
      exact eg_k_iret rfl (Or.inl rfl) (Nat.le_refl _) (Nat.le_refl _) hK
    · refine eg_k_ci rfl ?_
      refine eg_k_goto rfl ?_
      have hx := Option.some.inj hx
      subst hx
      exact eg_k_iret rfl (Or.inr rfl) (Nat.le_refl _) (Nat.le_refl _) hK
/-- 36: WeakScheme$Reader.add(JI)Z -/
noncomputable def fn_36 (a : Int) (b : Int) (M : eM) : Option (Int × eM) :=
  (fn_37 M).bind fun r2 =>
  if ¬ r2 = 0 then
    if 0 ≤ (eg_wi ((M 1 6) - (M 7 8))) ∧ (eg_wi ((M 1 6) - (M 7 8))) < 2000 then
    if 0 ≤ (M 1 6) ∧ (M 1 6) < 20000 then
      some (1, eg_u (eg_u (eg_u (eg_u (eg_u M 9 (eg_wi ((M 1 6) - (M 7 8))).toNat b) 4 (M 1 6).toNat a) 6 (M 1 6).toNat (eg_wb (eg_wb (M 7 9)))) 5 (M 1 6).toNat (eg_wi ((M 1 6) + 1))) 1 6 (eg_wi ((M 1 6) + 1)))
      else none
    else none
  else
    (fn_35 2 b M).bind fun m11 =>
    some (0, m11)
set_option maxRecDepth 100000 in
theorem ft_36 {cn mo : Nat} {sc : eg_Sc} {d : Nat} {M : eM} {Q : Option eg_V → eg_H → Prop} {a : Int} {b : Int} {x : Int × eM} (hx : fn_36 a b M = some x) (hK : Q (some (.inl ((x).1))) (em_L cn mo, eh_R, (x).2)) : eg_wp sc (d + 2) 36 [.inr (.inr (some 7)), .inr (.inl a), .inl b] (em_L cn mo, eh_R, M) 0 0 Q := by
  refine eg_in (lv := [some (.inr (.inr (some 7))), some (.inr (.inl a)), none, some (.inl b), none]) eg_tj36 (Nat.le_of_ble_eq_true rfl) rfl ?_
  refine eg_k_aload rfl rfl ?_
  obtain ⟨r2, h1, hx⟩ := vb_bind hx
  refine eg_k_call (c1 := 0) (z1 := 0) (as := [.inr (.inr (some 7))]) (rest := []) rfl eg_tj37 (Nat.le_of_ble_eq_true rfl) rfl rfl rfl (Nat.le_of_ble_eq_true rfl) (Nat.le_refl _) (Nat.le_refl _) ?_ (fun Q hQ => ft_37 h1 hQ)
  refine vk_if rfl hx Iff.rfl (fun c4 hx => ?_) (fun c4 hx => ?_)
  · refine eg_k_aload rfl rfl ?_
    refine eg_k_gfr rfl rfl rfl eh_r7_0 ?_
    refine eg_k_gfi rfl rfl rfl ?_
    refine eg_k_istore (lv' := [some (.inr (.inr (some 7))), some (.inr (.inl a)), none, some (.inl b), some (.inl (M 1 6))]) rfl rfl ?_
    refine eg_k_aload rfl rfl ?_
    refine eg_k_gfa rfl rfl rfl eh_r7_3 ?_
    refine eg_k_iload rfl rfl ?_
    refine eg_k_aload rfl rfl ?_
    refine eg_k_gfi rfl rfl rfl ?_
    refine eg_k_isub rfl ?_
    refine eg_k_iload rfl rfl ?_
    obtain ⟨b5, hx⟩ := vb_if hx
    refine eg_k_iast (k := 2000) rfl rfl b5.1 b5.2 ?_
    refine eg_k_aload rfl rfl ?_
    refine eg_k_gfr rfl rfl rfl eh_r7_0 ?_
    refine eg_k_gfa rfl rfl rfl eh_r1_3 ?_
    refine eg_k_iload rfl rfl ?_
    refine eg_k_lload rfl rfl ?_
    obtain ⟨b6, hx⟩ := vb_if hx
    refine eg_k_last (k := 20000) rfl rfl b6.1 b6.2 ?_
    refine eg_k_aload rfl rfl ?_
    refine eg_k_gfr rfl rfl rfl eh_r7_0 ?_
    refine eg_k_gfa rfl rfl rfl eh_r1_5 ?_
    refine eg_k_iload rfl rfl ?_
    refine eg_k_aload rfl rfl ?_
    refine eg_k_gfie (x := M 7 9) rfl rfl rfl rfl ?_
    refine eg_k_i2b rfl ?_
    refine eg_k_bast (k := 20000) rfl rfl b6.1 b6.2 ?_
    refine eg_k_aload rfl rfl ?_
    refine eg_k_gfr rfl rfl rfl eh_r7_0 ?_
    refine eg_k_gfa rfl rfl rfl eh_r1_4 ?_
    refine eg_k_iload rfl rfl ?_
    refine eg_k_iload rfl rfl ?_
    refine eg_k_ci rfl ?_
    refine eg_k_iadd rfl ?_
    refine eg_k_iast (k := 20000) rfl rfl b6.1 b6.2 ?_
    refine eg_k_aload rfl rfl ?_
    refine eg_k_gfr rfl rfl rfl eh_r7_0 ?_
    refine eg_k_dupr rfl ?_
    refine eg_k_gfie (x := M 1 6) rfl rfl rfl rfl ?_
    refine eg_k_ci rfl ?_
    refine eg_k_iadd rfl ?_
    refine eg_k_pfi rfl rfl rfl ?_
    refine eg_k_ci rfl ?_
    have hx := Option.some.inj hx
    subst hx
    exact eg_k_iret rfl (Or.inr rfl) (Nat.le_refl _) (Nat.le_refl _) hK
  · refine eg_k_aload rfl rfl ?_
    refine eg_k_ci rfl ?_
    refine eg_k_iload rfl rfl ?_
    obtain ⟨m11, h9, hx⟩ := vb_bind hx
    refine eg_k_call (c1 := 0) (z1 := 0) (as := [.inr (.inr (some 7)), .inl 2, .inl b]) (rest := []) rfl eg_tj35 (Nat.le_of_ble_eq_true rfl) rfl rfl rfl (Nat.le_of_ble_eq_true rfl) (Nat.le_refl _) (Nat.le_refl _) ?_ (fun Q hQ => ft_35 h9 hQ)
    refine eg_k_ci rfl ?_
    have hx := Option.some.inj hx
    subst hx
    exact eg_k_iret rfl (Or.inl rfl) (Nat.le_refl _) (Nat.le_refl _) hK
theorem fw_36 {M : eM} {c : Nat} {a : Int} {b : Int} {x : Int × eM} (hx : fn_36 a b M = some x) (hc : c ∉ ([1, 4, 5, 6, 7, 9] : List Nat)) (j : Nat) : ((x).2) c j = M c j := by
  obtain ⟨v, hK⟩ : ∃ v, ((x).2) c j = v := ⟨_, rfl⟩
  rw [hK]
  refine Eq.symm ?_
  obtain ⟨r2, h1, hx⟩ := vb_bind hx
  refine vb_ite hx (fun _ hx => ?_) (fun _ hx => ?_)
  · obtain ⟨_, hx⟩ := vb_if hx
    obtain ⟨_, hx⟩ := vb_if hx
    have hx := Option.some.inj hx
    subst hx
    exact ((congrFun (eg_u_ne (vne hc (a := 1) (by decide))) j).trans ((congrFun (eg_u_ne (vne hc (a := 5) (by decide))) j).trans ((congrFun (eg_u_ne (vne hc (a := 6) (by decide))) j).trans ((congrFun (eg_u_ne (vne hc (a := 4) (by decide))) j).trans ((congrFun (eg_u_ne (vne hc (a := 9) (by decide))) j).trans rfl))))).symm.trans hK
  · obtain ⟨m11, h9, hx⟩ := vb_bind hx
    have hx := Option.some.inj hx
    subst hx
    exact ((fw_35 h9 (vsub hc (by decide)) j).trans rfl).symm.trans hK
/-- 38: WeakScheme.symbol(I)J -/
noncomputable def fn_38 (a : Int) (M : eM) : Option (Int) :=
  some (eb_lor 8589934592 a)
set_option maxRecDepth 100000 in
theorem ft_38 {cn mo : Nat} {sc : eg_Sc} {d : Nat} {M : eM} {Q : Option eg_V → eg_H → Prop} {a : Int} {x : Int} (hx : fn_38 a M = some x) (hK : Q (some (.inr (.inl x))) (em_L cn mo, eh_R, M)) : eg_wp sc (d + 1) 38 [.inl a] (em_L cn mo, eh_R, M) 0 0 Q := by
  refine eg_in (lv := [some (.inl a)]) eg_tj38 (Nat.le_of_ble_eq_true rfl) rfl ?_
  refine eg_k_cl rfl ?_
  refine eg_k_iload rfl rfl ?_
  refine eg_k_i2l rfl ?_
  refine eg_k_lor rfl ?_
  have hx := Option.some.inj hx
  subst hx
  exact eg_k_lret rfl rfl (Nat.le_refl _) (Nat.le_refl _) hK
/-- 34: WeakScheme$Reader.openList(Z)V -/
noncomputable def fn_34 (a : Int) (M : eM) : Option (eM) :=
  if ¬ (M 7 9) = 30 then
    (fn_36 25769803776 (M 7 7) M).bind fun r3 =>
    if r3.1 = 0 then
      some r3.2
    else
      if 0 ≤ (r3.2 7 9) ∧ (r3.2 7 9) < 30 then
      if 0 ≤ (r3.2 7 9) ∧ (r3.2 7 9) < 30 ∧ (a = 0 ∨ a = 1) then
        if a = 0 then
            some (eg_u (eg_u (eg_u (eg_u r3.2 10 (r3.2 7 9).toNat (eg_wi ((r3.2 1 6) - 1))) 11 (r3.2 7 9).toNat a) 7 9 (eg_wi ((r3.2 7 9) + 1))) 7 7 (eg_wi ((r3.2 7 7) + 1)))
          else
            (fn_38 0 (eg_u (eg_u (eg_u r3.2 10 (r3.2 7 9).toNat (eg_wi ((r3.2 1 6) - 1))) 11 (r3.2 7 9).toNat a) 7 9 (eg_wi ((r3.2 7 9) + 1)))).bind fun r10 =>
            (fn_36 r10 (r3.2 7 7) (eg_u (eg_u (eg_u r3.2 10 (r3.2 7 9).toNat (eg_wi ((r3.2 1 6) - 1))) 11 (r3.2 7 9).toNat a) 7 9 (eg_wi ((r3.2 7 9) + 1)))).bind fun r13 =>
            some (eg_u r13.2 7 7 (eg_wi ((r13.2 7 7) + 1)))
        else none
      else none
  else
    (fn_35 2 (M 7 7) M).bind fun m17 =>
    some m17
set_option maxRecDepth 100000 in
theorem ft_34 {cn mo : Nat} {sc : eg_Sc} {d : Nat} {M : eM} {Q : Option eg_V → eg_H → Prop} {a : Int} {x : eM} (hx : fn_34 a M = some x) (hK : Q (none) (em_L cn mo, eh_R, x)) : eg_wp sc (d + 3) 34 [.inr (.inr (some 7)), .inl a] (em_L cn mo, eh_R, M) 0 0 Q := by
  refine eg_in (lv := [some (.inr (.inr (some 7))), some (.inl a)]) eg_tj34 (Nat.le_of_ble_eq_true rfl) rfl ?_
  refine eg_k_aload rfl rfl ?_
  refine eg_k_gfi rfl rfl rfl ?_
  refine eg_k_ci rfl ?_
  refine vk_icmp rfl hx Iff.rfl (fun c1 hx => ?_) (fun c1 hx => ?_)
  · refine eg_k_aload rfl rfl ?_
    refine eg_k_cl rfl ?_
    refine eg_k_aload rfl rfl ?_
    refine eg_k_gfi rfl rfl rfl ?_
    obtain ⟨r3, h2, hx⟩ := vb_bind hx
    refine eg_k_call (c1 := 0) (z1 := 0) (as := [.inr (.inr (some 7)), .inr (.inl 25769803776), .inl (M 7 7)]) (rest := []) rfl eg_tj36 (Nat.le_of_ble_eq_true rfl) rfl rfl rfl (Nat.le_of_ble_eq_true rfl) (Nat.le_refl _) (Nat.le_refl _) ?_ (fun Q hQ => ft_36 h2 hQ)
    refine vk_if rfl hx Iff.rfl (fun c5 hx => ?_) (fun c5 hx => ?_)
    · have hx := Option.some.inj hx
      subst hx
      exact eg_k_ret rfl rfl (Nat.le_refl _) (Nat.le_refl _) hK
    · refine eg_k_aload rfl rfl ?_
      refine eg_k_gfa rfl rfl rfl eh_r7_10 ?_
      refine eg_k_aload rfl rfl ?_
      refine eg_k_gfi rfl rfl rfl ?_
      refine eg_k_aload rfl rfl ?_
      refine eg_k_gfr rfl rfl rfl eh_r7_0 ?_
      refine eg_k_gfi rfl rfl rfl ?_
      refine eg_k_ci rfl ?_
      refine eg_k_isub rfl ?_
      obtain ⟨b6, hx⟩ := vb_if hx
      refine eg_k_iast (k := 30) rfl rfl b6.1 b6.2 ?_
      refine eg_k_aload rfl rfl ?_
      refine eg_k_gfa rfl rfl rfl eh_r7_11 ?_
      refine eg_k_aload rfl rfl ?_
      refine eg_k_gfie (x := r3.2 7 9) rfl rfl rfl rfl ?_
      refine eg_k_iload rfl rfl ?_
      obtain ⟨b7, hx⟩ := vb_if hx
      refine eg_k_zast (k := 30) rfl rfl b7.1 b7.2.1 b7.2.2 ?_
      refine eg_k_aload rfl rfl ?_
      refine eg_k_dupr rfl ?_
      refine eg_k_gfie (x := r3.2 7 9) rfl rfl rfl rfl ?_
      refine eg_k_ci rfl ?_
      refine eg_k_iadd rfl ?_
      refine eg_k_pfi rfl rfl rfl ?_
      refine eg_k_iload rfl rfl ?_
      refine vk_if rfl hx Iff.rfl (fun c8 hx => ?_) (fun c8 hx => ?_)
      · refine eg_k_aload rfl rfl ?_
        refine eg_k_dupr rfl ?_
        refine eg_k_gfie (x := r3.2 7 7) rfl rfl rfl rfl ?_
        refine eg_k_ci rfl ?_
        refine eg_k_iadd rfl ?_
        refine eg_k_pfi rfl rfl rfl ?_
        have hx := Option.some.inj hx
        subst hx
        exact eg_k_ret rfl rfl (Nat.le_refl _) (Nat.le_refl _) hK
      · refine eg_k_aload rfl rfl ?_
        refine eg_k_ci rfl ?_
        obtain ⟨r10, h9, hx⟩ := vb_bind hx
        refine eg_k_call (c1 := 0) (z1 := 0) (as := [.inl 0]) (rest := [.inr (.inr (some 7))]) rfl eg_tj38 (Nat.le_of_ble_eq_true rfl) rfl rfl trivial (Nat.le_of_ble_eq_true rfl) (Nat.le_refl _) (Nat.le_refl _) ?_ (fun Q hQ => ft_38 h9 hQ)
        refine eg_k_aload rfl rfl ?_
        refine eg_k_gfie (x := r3.2 7 7) rfl rfl rfl rfl ?_
        obtain ⟨r13, h12, hx⟩ := vb_bind hx
        refine eg_k_call (c1 := 0) (z1 := 0) (as := [.inr (.inr (some 7)), .inr (.inl r10), .inl (r3.2 7 7)]) (rest := []) rfl eg_tj36 (Nat.le_of_ble_eq_true rfl) rfl rfl rfl (Nat.le_of_ble_eq_true rfl) (Nat.le_refl _) (Nat.le_refl _) ?_ (fun Q hQ => ft_36 h12 hQ)
        refine eg_k_popi rfl ?_
        refine eg_k_aload rfl rfl ?_
        refine eg_k_dupr rfl ?_
        refine eg_k_gfi rfl rfl rfl ?_
        refine eg_k_ci rfl ?_
        refine eg_k_iadd rfl ?_
        refine eg_k_pfi rfl rfl rfl ?_
        have hx := Option.some.inj hx
        subst hx
        exact eg_k_ret rfl rfl (Nat.le_refl _) (Nat.le_refl _) hK
  · refine eg_k_aload rfl rfl ?_
    refine eg_k_ci rfl ?_
    refine eg_k_aload rfl rfl ?_
    refine eg_k_gfi rfl rfl rfl ?_
    obtain ⟨m17, h15, hx⟩ := vb_bind hx
    refine eg_k_call (c1 := 0) (z1 := 0) (as := [.inr (.inr (some 7)), .inl 2, .inl (M 7 7)]) (rest := []) rfl eg_tj35 (Nat.le_of_ble_eq_true rfl) rfl rfl rfl (Nat.le_of_ble_eq_true rfl) (Nat.le_refl _) (Nat.le_refl _) ?_ (fun Q hQ => ft_35 h15 hQ)
    refine eg_k_goto rfl ?_
    have hx := Option.some.inj hx
    subst hx
    exact eg_k_ret rfl rfl (Nat.le_refl _) (Nat.le_refl _) hK
theorem fw_34 {M : eM} {c : Nat} {a : Int} {x : eM} (hx : fn_34 a M = some x) (hc : c ∉ ([1, 4, 5, 6, 7, 9, 10, 11] : List Nat)) (j : Nat) : x c j = M c j := by
  obtain ⟨v, hK⟩ : ∃ v, x c j = v := ⟨_, rfl⟩
  rw [hK]
  refine Eq.symm ?_
  refine vb_ite hx (fun _ hx => ?_) (fun _ hx => ?_)
  · obtain ⟨r3, h2, hx⟩ := vb_bind hx
    refine vb_ite hx (fun _ hx => ?_) (fun _ hx => ?_)
    · have hx := Option.some.inj hx
      subst hx
      exact ((fw_36 h2 (vsub hc (by decide)) j).trans rfl).symm.trans hK
    · obtain ⟨_, hx⟩ := vb_if hx
      obtain ⟨_, hx⟩ := vb_if hx
      refine vb_ite hx (fun _ hx => ?_) (fun _ hx => ?_)
      · have hx := Option.some.inj hx
        subst hx
        exact ((congrFun (eg_u_ne (vne hc (a := 7) (by decide))) j).trans ((congrFun (eg_u_ne (vne hc (a := 7) (by decide))) j).trans ((congrFun (eg_u_ne (vne hc (a := 11) (by decide))) j).trans ((congrFun (eg_u_ne (vne hc (a := 10) (by decide))) j).trans ((fw_36 h2 (vsub hc (by decide)) j).trans rfl))))).symm.trans hK
      · obtain ⟨r10, h9, hx⟩ := vb_bind hx
        obtain ⟨r13, h12, hx⟩ := vb_bind hx
        have hx := Option.some.inj hx
        subst hx
        exact ((congrFun (eg_u_ne (vne hc (a := 7) (by decide))) j).trans ((fw_36 h12 (vsub hc (by decide)) j).trans ((congrFun (eg_u_ne (vne hc (a := 7) (by decide))) j).trans ((congrFun (eg_u_ne (vne hc (a := 11) (by decide))) j).trans ((congrFun (eg_u_ne (vne hc (a := 10) (by decide))) j).trans ((fw_36 h2 (vsub hc (by decide)) j).trans rfl)))))).symm.trans hK
  · obtain ⟨m17, h15, hx⟩ := vb_bind hx
    have hx := Option.some.inj hx
    subst hx
    exact ((fw_35 h15 (vsub hc (by decide)) j).trans rfl).symm.trans hK
noncomputable def fn_40_0 (s : eM) : Option ((eM) ⊕ (eM)) :=
  if (s 7 9) ≤ 0 then
    some (.inr s)
  else
    if 0 ≤ (eg_wi ((s 7 9) - 1)) ∧ (eg_wi ((s 7 9) - 1)) < 30 then
    if (s 11 (eg_wi ((s 7 9) - 1)).toNat) = 0 then
        some (.inr s)
      else
        if 0 ≤ (s 10 (eg_wi ((s 7 9) - 1)).toNat) ∧ (s 10 (eg_wi ((s 7 9) - 1)).toNat) < 20000 then
        some (.inl (eg_u (eg_u s 7 9 (eg_wi ((s 7 9) - 1))) 5 (s 10 (eg_wi ((s 7 9) - 1)).toNat).toNat (s 1 6)))
        else none
    else none
/-- 40: WeakScheme$Reader.closeTicks()V -/
noncomputable def fn_40 (M : eM) : Option (eM) :=
  lp (fn_40_0) M
set_option maxRecDepth 100000 in
theorem ft_40_0 {cn mo : Nat} {sc : eg_Sc} {d : Nat} {Q : Option eg_V → eg_H → Prop} {s : eM} {x : eM} (hx : lp (fn_40_0) s = some x) (hK : (fun (x : eM) => Q (none) (em_L cn mo, eh_R, x)) x) : eg_X sc (eg_wp sc d) eg_p40 none 0 0 Q 0 [some (.inr (.inr (some 7)))] [] (em_L cn mo, eh_R, s) 0 0 := by
  refine lp_sound (P := (fun (s : eM) => eg_X sc (eg_wp sc d) eg_p40 none 0 0 Q 0 [some (.inr (.inr (some 7)))] [] (em_L cn mo, eh_R, s) 0 0)) (K := (fun (x : eM) => Q (none) (em_L cn mo, eh_R, x))) hx hK ?_
  intro s x hx hK
  refine eg_k_aload rfl rfl ?_
  refine eg_k_gfi rfl rfl rfl ?_
  refine vk_if rfl hx Iff.rfl (fun c1 hx => ?_) (fun c1 hx => ?_)
  · have hx := Option.some.inj hx
    subst hx
    exact eg_k_ret rfl rfl (Nat.le_refl _) (Nat.le_refl _) hK
  · refine eg_k_aload rfl rfl ?_
    refine eg_k_gfa rfl rfl rfl eh_r7_11 ?_
    refine eg_k_aload rfl rfl ?_
    refine eg_k_gfi rfl rfl rfl ?_
    refine eg_k_ci rfl ?_
    refine eg_k_isub rfl ?_
    obtain ⟨b2, hx⟩ := vb_if hx
    refine eg_k_zald (k := 30) rfl rfl b2.1 b2.2 ?_
    refine vk_if rfl hx Iff.rfl (fun c3 hx => ?_) (fun c3 hx => ?_)
    · have hx := Option.some.inj hx
      subst hx
      exact eg_k_ret rfl rfl (Nat.le_refl _) (Nat.le_refl _) hK
    · refine eg_k_aload rfl rfl ?_
      refine eg_k_dupr rfl ?_
      refine eg_k_gfi rfl rfl rfl ?_
      refine eg_k_ci rfl ?_
      refine eg_k_isub rfl ?_
      refine eg_k_pfi rfl rfl rfl ?_
      refine eg_k_aload rfl rfl ?_
      refine eg_k_gfr rfl rfl rfl eh_r7_0 ?_
      refine eg_k_gfa rfl rfl rfl eh_r1_4 ?_
      refine eg_k_aload rfl rfl ?_
      refine eg_k_gfa rfl rfl rfl eh_r7_10 ?_
      refine eg_k_aload rfl rfl ?_
      refine eg_k_gfie (x := eg_wi ((s 7 9) - 1)) rfl rfl rfl rfl ?_
      refine vk_iald (k := 30) (y := s 10 (eg_wi ((s 7 9) - 1)).toNat) rfl rfl b2.1 b2.2 rfl ?_
      refine eg_k_aload rfl rfl ?_
      refine eg_k_gfr rfl rfl rfl eh_r7_0 ?_
      refine eg_k_gfie (x := s 1 6) rfl rfl rfl rfl ?_
      obtain ⟨b5, hx⟩ := vb_if hx
      refine eg_k_iast (k := 20000) rfl rfl b5.1 b5.2 ?_
      refine eg_k_goto rfl ?_
      have hx := Option.some.inj hx
      subst hx
      exact hK
set_option maxRecDepth 100000 in
theorem ft_40 {cn mo : Nat} {sc : eg_Sc} {d : Nat} {M : eM} {Q : Option eg_V → eg_H → Prop} {x : eM} (hx : fn_40 M = some x) (hK : Q (none) (em_L cn mo, eh_R, x)) : eg_wp sc (d + 1) 40 [.inr (.inr (some 7))] (em_L cn mo, eh_R, M) 0 0 Q := by
  refine eg_in (lv := [some (.inr (.inr (some 7)))]) eg_tj40 (Nat.le_of_ble_eq_true rfl) rfl ?_
  have hz := ft_40_0 (d := d) (sc := sc) hx hK
  exact hz
theorem fw_40_0 {c j : Nat} {v : Int} {s : eM} {x : eM} (hc : c ∉ ([5, 7] : List Nat)) (hx : lp (fn_40_0) s = some x) (hK : (fun (x : eM) => x c j = v) x) : s c j = v := by
  refine lp_sound (P := (fun (s : eM) => s c j = v)) (K := (fun (x : eM) => x c j = v)) hx hK ?_
  intro s x hx hK
  refine vb_ite hx (fun _ hx => ?_) (fun _ hx => ?_)
  · have hx := Option.some.inj hx
    subst hx
    exact (Eq.refl _).symm.trans hK
  · obtain ⟨_, hx⟩ := vb_if hx
    refine vb_ite hx (fun _ hx => ?_) (fun _ hx => ?_)
    · have hx := Option.some.inj hx
      subst hx
      exact (Eq.refl _).symm.trans hK
    · obtain ⟨_, hx⟩ := vb_if hx
      have hx := Option.some.inj hx
      subst hx
      exact ((congrFun (eg_u_ne (vne hc (a := 5) (by decide))) j).trans ((congrFun (eg_u_ne (vne hc (a := 7) (by decide))) j).trans rfl)).symm.trans hK
theorem fw_40 {M : eM} {c : Nat} {x : eM} (hx : fn_40 M = some x) (hc : c ∉ ([5, 7] : List Nat)) (j : Nat) : x c j = M c j := by
  obtain ⟨v, hK⟩ : ∃ v, x c j = v := ⟨_, rfl⟩
  rw [hK]
  refine Eq.symm ?_
  have hz := fw_40_0 hc hx hK
  exact (Eq.refl _).symm.trans hz
/-- 39: WeakScheme$Reader.closeList()V -/
noncomputable def fn_39 (M : eM) : Option (eM) :=
  if (M 7 9) = 0 then
    (fn_35 1 (M 7 7) M).bind fun m4 =>
    some m4
  else
    if 0 ≤ (eg_wi ((M 7 9) - 1)) ∧ (eg_wi ((M 7 9) - 1)) < 30 then
    if (M 11 (eg_wi ((M 7 9) - 1)).toNat) = 0 then
        if 0 ≤ (M 10 (eg_wi ((M 7 9) - 1)).toNat) ∧ (M 10 (eg_wi ((M 7 9) - 1)).toNat) < 20000 then
        (fn_40 (eg_u (eg_u (eg_u M 7 9 (eg_wi ((M 7 9) - 1))) 5 (M 10 (eg_wi ((M 7 9) - 1)).toNat).toNat (M 1 6)) 7 7 (eg_wi ((M 7 7) + 1)))).bind fun m11 =>
          some m11
        else none
      else
        (fn_35 1 (M 7 7) M).bind fun m14 =>
        some m14
    else none
set_option maxRecDepth 100000 in
theorem ft_39 {cn mo : Nat} {sc : eg_Sc} {d : Nat} {M : eM} {Q : Option eg_V → eg_H → Prop} {x : eM} (hx : fn_39 M = some x) (hK : Q (none) (em_L cn mo, eh_R, x)) : eg_wp sc (d + 2) 39 [.inr (.inr (some 7))] (em_L cn mo, eh_R, M) 0 0 Q := by
  refine eg_in (lv := [some (.inr (.inr (some 7)))]) eg_tj39 (Nat.le_of_ble_eq_true rfl) rfl ?_
  refine eg_k_aload rfl rfl ?_
  refine eg_k_gfi rfl rfl rfl ?_
  refine vk_if rfl hx Iff.rfl (fun c1 hx => ?_) (fun c1 hx => ?_)
  · refine eg_k_aload rfl rfl ?_
    refine eg_k_ci rfl ?_
    refine eg_k_aload rfl rfl ?_
    refine eg_k_gfi rfl rfl rfl ?_
    obtain ⟨m4, h2, hx⟩ := vb_bind hx
    refine eg_k_call (c1 := 0) (z1 := 0) (as := [.inr (.inr (some 7)), .inl 1, .inl (M 7 7)]) (rest := []) rfl eg_tj35 (Nat.le_of_ble_eq_true rfl) rfl rfl rfl (Nat.le_of_ble_eq_true rfl) (Nat.le_refl _) (Nat.le_refl _) ?_ (fun Q hQ => ft_35 h2 hQ)
    have hx := Option.some.inj hx
    subst hx
    exact eg_k_ret rfl rfl (Nat.le_refl _) (Nat.le_refl _) hK
  · refine eg_k_aload rfl rfl ?_
    refine eg_k_gfa rfl rfl rfl eh_r7_11 ?_
    refine eg_k_aload rfl rfl ?_
    refine eg_k_gfi rfl rfl rfl ?_
    refine eg_k_ci rfl ?_
    refine eg_k_isub rfl ?_
    obtain ⟨b5, hx⟩ := vb_if hx
    refine eg_k_zald (k := 30) rfl rfl b5.1 b5.2 ?_
    refine vk_if rfl hx Iff.rfl (fun c6 hx => ?_) (fun c6 hx => ?_)
    · refine eg_k_aload rfl rfl ?_
      refine eg_k_dupr rfl ?_
      refine eg_k_gfi rfl rfl rfl ?_
      refine eg_k_ci rfl ?_
      refine eg_k_isub rfl ?_
      refine eg_k_pfi rfl rfl rfl ?_
      refine eg_k_aload rfl rfl ?_
      refine eg_k_gfr rfl rfl rfl eh_r7_0 ?_
      refine eg_k_gfa rfl rfl rfl eh_r1_4 ?_
      refine eg_k_aload rfl rfl ?_
      refine eg_k_gfa rfl rfl rfl eh_r7_10 ?_
      refine eg_k_aload rfl rfl ?_
      refine eg_k_gfie (x := eg_wi ((M 7 9) - 1)) rfl rfl rfl rfl ?_
      refine vk_iald (k := 30) (y := M 10 (eg_wi ((M 7 9) - 1)).toNat) rfl rfl b5.1 b5.2 rfl ?_
      refine eg_k_aload rfl rfl ?_
      refine eg_k_gfr rfl rfl rfl eh_r7_0 ?_
      refine eg_k_gfie (x := M 1 6) rfl rfl rfl rfl ?_
      obtain ⟨b8, hx⟩ := vb_if hx
      refine eg_k_iast (k := 20000) rfl rfl b8.1 b8.2 ?_
      refine eg_k_aload rfl rfl ?_
      refine eg_k_dupr rfl ?_
      refine eg_k_gfie (x := M 7 7) rfl rfl rfl rfl ?_
      refine eg_k_ci rfl ?_
      refine eg_k_iadd rfl ?_
      refine eg_k_pfi rfl rfl rfl ?_
      refine eg_k_aload rfl rfl ?_
      obtain ⟨m11, h9, hx⟩ := vb_bind hx
      refine eg_k_call (c1 := 0) (z1 := 0) (as := [.inr (.inr (some 7))]) (rest := []) rfl eg_tj40 (Nat.le_of_ble_eq_true rfl) rfl rfl rfl (Nat.le_of_ble_eq_true rfl) (Nat.le_refl _) (Nat.le_refl _) ?_ (fun Q hQ => ft_40 h9 hQ)
      have hx := Option.some.inj hx
      subst hx
      exact eg_k_ret rfl rfl (Nat.le_refl _) (Nat.le_refl _) hK
    · refine eg_k_aload rfl rfl ?_
      refine eg_k_ci rfl ?_
      refine eg_k_aload rfl rfl ?_
      refine eg_k_gfi rfl rfl rfl ?_
      obtain ⟨m14, h12, hx⟩ := vb_bind hx
      refine eg_k_call (c1 := 0) (z1 := 0) (as := [.inr (.inr (some 7)), .inl 1, .inl (M 7 7)]) (rest := []) rfl eg_tj35 (Nat.le_of_ble_eq_true rfl) rfl rfl rfl (Nat.le_of_ble_eq_true rfl) (Nat.le_refl _) (Nat.le_refl _) ?_ (fun Q hQ => ft_35 h12 hQ)
      have hx := Option.some.inj hx
      subst hx
      exact eg_k_ret rfl rfl (Nat.le_refl _) (Nat.le_refl _) hK
theorem fw_39 {M : eM} {c : Nat} {x : eM} (hx : fn_39 M = some x) (hc : c ∉ ([5, 7] : List Nat)) (j : Nat) : x c j = M c j := by
  obtain ⟨v, hK⟩ : ∃ v, x c j = v := ⟨_, rfl⟩
  rw [hK]
  refine Eq.symm ?_
  refine vb_ite hx (fun _ hx => ?_) (fun _ hx => ?_)
  · obtain ⟨m4, h2, hx⟩ := vb_bind hx
    have hx := Option.some.inj hx
    subst hx
    exact ((fw_35 h2 (vsub hc (by decide)) j).trans rfl).symm.trans hK
  · obtain ⟨_, hx⟩ := vb_if hx
    refine vb_ite hx (fun _ hx => ?_) (fun _ hx => ?_)
    · obtain ⟨_, hx⟩ := vb_if hx
      obtain ⟨m11, h9, hx⟩ := vb_bind hx
      have hx := Option.some.inj hx
      subst hx
      exact ((fw_40 h9 (vsub hc (by decide)) j).trans ((congrFun (eg_u_ne (vne hc (a := 7) (by decide))) j).trans ((congrFun (eg_u_ne (vne hc (a := 5) (by decide))) j).trans ((congrFun (eg_u_ne (vne hc (a := 7) (by decide))) j).trans rfl)))).symm.trans hK
    · obtain ⟨m14, h12, hx⟩ := vb_bind hx
      have hx := Option.some.inj hx
      subst hx
      exact ((fw_35 h12 (vsub hc (by decide)) j).trans rfl).symm.trans hK
/-- 43: WeakScheme$Reader.isDigit(I)Z -/
noncomputable def fn_43 (a : Int) (M : eM) : Option (Int) :=
  if 0 ≤ a ∧ a < 3000 then
  if (M 8 (a).toNat) < 48 then
      some 0
    else
      if 57 < (M 8 (a).toNat) then
        some 0
      else
        some 1
  else none
set_option maxRecDepth 100000 in
theorem ft_43 {cn mo : Nat} {sc : eg_Sc} {d : Nat} {M : eM} {Q : Option eg_V → eg_H → Prop} {a : Int} {x : Int} (hx : fn_43 a M = some x) (hK : Q (some (.inl x)) (em_L cn mo, eh_R, M)) : eg_wp sc (d + 1) 43 [.inr (.inr (some 7)), .inl a] (em_L cn mo, eh_R, M) 0 0 Q := by
  refine eg_in (lv := [some (.inr (.inr (some 7))), some (.inl a)]) eg_tj43 (Nat.le_of_ble_eq_true rfl) rfl ?_
  refine eg_k_aload rfl rfl ?_
  refine eg_k_gfa rfl rfl rfl eh_r7_1 ?_
  refine eg_k_iload rfl rfl ?_
  obtain ⟨b1, hx⟩ := vb_if hx
  refine eg_k_bald (k := 3000) rfl rfl b1.1 b1.2 ?_
  refine eg_k_ci rfl ?_
  refine vk_icmp rfl hx Iff.rfl (fun c2 hx => ?_) (fun c2 hx => ?_)
  · refine eg_k_ci rfl ?_
    have hx := Option.some.inj hx
    subst hx
    exact eg_k_iret rfl (Or.inl rfl) (Nat.le_refl _) (Nat.le_refl _) hK
  · refine eg_k_aload rfl rfl ?_
    refine eg_k_gfa rfl rfl rfl eh_r7_1 ?_
    refine eg_k_iload rfl rfl ?_
    refine eg_k_bald (k := 3000) rfl rfl b1.1 b1.2 ?_
    refine eg_k_ci rfl ?_
    refine vk_icmp rfl hx Iff.rfl (fun c4 hx => ?_) (fun c4 hx => ?_)
    · refine eg_k_ci rfl ?_
      have hx := Option.some.inj hx
      subst hx
      exact eg_k_iret rfl (Or.inl rfl) (Nat.le_refl _) (Nat.le_refl _) hK
    · refine eg_k_ci rfl ?_
      refine eg_k_goto rfl ?_
      have hx := Option.some.inj hx
      subst hx
      exact eg_k_iret rfl (Or.inr rfl) (Nat.le_refl _) (Nat.le_refl _) hK
noncomputable def fn_42_17 (x1 : Int) (x2 : Int) (M : eM) : Option (Int) :=
  (fn_43 x1 M).bind fun r5 =>
  if ¬ r5 = 0 then
    some 1
  else
    if x2 = 33 then
      some 1
    else
      if x2 = 63 then
        some 1
      else
        if x2 = 42 then
          some 1
        else
          if x2 = 43 then
            some 1
          else
            if x2 = 45 then
              some 1
            else
              if x2 = 47 then
                some 1
              else
                if x2 = 60 then
                  some 1
                else
                  if x2 = 61 then
                    some 1
                  else
                    if ¬ x2 = 62 then
                      some 0
                    else
                      some 1
/-- 42: WeakScheme$Reader.isLetter(I)Z -/
noncomputable def fn_42 (a : Int) (M : eM) : Option (Int) :=
  if a < (M 7 6) then
    if 0 ≤ a ∧ a < 3000 then
    if (M 8 (a).toNat) < 97 then
        fn_42_17 a (M 8 (a).toNat) M
      else
        if (M 8 (a).toNat) ≤ 122 then
          some 1
        else
          fn_42_17 a (M 8 (a).toNat) M
    else none
  else
    some 0
set_option maxRecDepth 100000 in
theorem ft_42_17 {cn mo : Nat} {sc : eg_Sc} {d : Nat} {M : eM} {Q : Option eg_V → eg_H → Prop} {x1 : Int} {x2 : Int} {x : Int} (hx : fn_42_17 x1 x2 M = some x) (hK : (fun (x : Int) => Q (some (.inl x)) (em_L cn mo, eh_R, M)) x) : eg_X sc (eg_wp sc (d + 1)) eg_p42 (some .boolean) 0 0 Q 17 [some (.inr (.inr (some 7))), some (.inl x1), some (.inl x2)] [] (em_L cn mo, eh_R, M) 0 0 := by
  refine eg_k_aload rfl rfl ?_
  refine eg_k_iload rfl rfl ?_
  obtain ⟨r5, h4, hx⟩ := vb_bind hx
  refine eg_k_call (c1 := 0) (z1 := 0) (as := [.inr (.inr (some 7)), .inl x1]) (rest := []) rfl eg_tj43 (Nat.le_of_ble_eq_true rfl) rfl rfl rfl (Nat.le_of_ble_eq_true rfl) (Nat.le_refl _) (Nat.le_refl _) ?_ (fun Q hQ => ft_43 h4 hQ)
  refine vk_if rfl hx Iff.rfl (fun c7 hx => ?_) (fun c7 hx => ?_)
  · refine eg_k_ci rfl ?_
    refine eg_k_goto rfl ?_
    have hx := Option.some.inj hx
    subst hx
    exact eg_k_iret rfl (Or.inr rfl) (Nat.le_refl _) (Nat.le_refl _) hK
  · refine eg_k_iload rfl rfl ?_
    refine eg_k_ci rfl ?_
    refine vk_icmp rfl hx Iff.rfl (fun c8 hx => ?_) (fun c8 hx => ?_)
    · refine eg_k_ci rfl ?_
      refine eg_k_goto rfl ?_
      have hx := Option.some.inj hx
      subst hx
      exact eg_k_iret rfl (Or.inr rfl) (Nat.le_refl _) (Nat.le_refl _) hK
    · refine eg_k_iload rfl rfl ?_
      refine eg_k_ci rfl ?_
      refine vk_icmp rfl hx Iff.rfl (fun c9 hx => ?_) (fun c9 hx => ?_)
      · refine eg_k_ci rfl ?_
        refine eg_k_goto rfl ?_
        have hx := Option.some.inj hx
        subst hx
        exact eg_k_iret rfl (Or.inr rfl) (Nat.le_refl _) (Nat.le_refl _) hK
      · refine eg_k_iload rfl rfl ?_
        refine eg_k_ci rfl ?_
        refine vk_icmp rfl hx Iff.rfl (fun c10 hx => ?_) (fun c10 hx => ?_)
        · refine eg_k_ci rfl ?_
          refine eg_k_goto rfl ?_
          have hx := Option.some.inj hx
          subst hx
          exact eg_k_iret rfl (Or.inr rfl) (Nat.le_refl _) (Nat.le_refl _) hK
        · refine eg_k_iload rfl rfl ?_
          refine eg_k_ci rfl ?_
          refine vk_icmp rfl hx Iff.rfl (fun c11 hx => ?_) (fun c11 hx => ?_)
          · refine eg_k_ci rfl ?_
            refine eg_k_goto rfl ?_
            have hx := Option.some.inj hx
            subst hx
            exact eg_k_iret rfl (Or.inr rfl) (Nat.le_refl _) (Nat.le_refl _) hK
          · refine eg_k_iload rfl rfl ?_
            refine eg_k_ci rfl ?_
            refine vk_icmp rfl hx Iff.rfl (fun c12 hx => ?_) (fun c12 hx => ?_)
            · refine eg_k_ci rfl ?_
              refine eg_k_goto rfl ?_
              have hx := Option.some.inj hx
              subst hx
              exact eg_k_iret rfl (Or.inr rfl) (Nat.le_refl _) (Nat.le_refl _) hK
            · refine eg_k_iload rfl rfl ?_
              refine eg_k_ci rfl ?_
              refine vk_icmp rfl hx Iff.rfl (fun c13 hx => ?_) (fun c13 hx => ?_)
              · refine eg_k_ci rfl ?_
                refine eg_k_goto rfl ?_
                have hx := Option.some.inj hx
                subst hx
                exact eg_k_iret rfl (Or.inr rfl) (Nat.le_refl _) (Nat.le_refl _) hK
              · refine eg_k_iload rfl rfl ?_
                refine eg_k_ci rfl ?_
                refine vk_icmp rfl hx Iff.rfl (fun c14 hx => ?_) (fun c14 hx => ?_)
                · refine eg_k_ci rfl ?_
                  refine eg_k_goto rfl ?_
                  have hx := Option.some.inj hx
                  subst hx
                  exact eg_k_iret rfl (Or.inr rfl) (Nat.le_refl _) (Nat.le_refl _) hK
                · refine eg_k_iload rfl rfl ?_
                  refine eg_k_ci rfl ?_
                  refine vk_icmp rfl hx Iff.rfl (fun c15 hx => ?_) (fun c15 hx => ?_)
                  · refine eg_k_ci rfl ?_
                    refine eg_k_goto rfl ?_
                    have hx := Option.some.inj hx
                    subst hx
                    exact eg_k_iret rfl (Or.inr rfl) (Nat.le_refl _) (Nat.le_refl _) hK
                  · refine eg_k_iload rfl rfl ?_
                    refine eg_k_ci rfl ?_
                    refine vk_icmp rfl hx Iff.rfl (fun c16 hx => ?_) (fun c16 hx => ?_)
                    · refine eg_k_ci rfl ?_
                      have hx := Option.some.inj hx
                      subst hx
                      exact eg_k_iret rfl (Or.inl rfl) (Nat.le_refl _) (Nat.le_refl _) hK
                    · refine eg_k_ci rfl ?_
                      refine eg_k_goto rfl ?_
                      have hx := Option.some.inj hx
                      subst hx
                      exact eg_k_iret rfl (Or.inr rfl) (Nat.le_refl _) (Nat.le_refl _) hK
set_option maxRecDepth 100000 in
theorem ft_42 {cn mo : Nat} {sc : eg_Sc} {d : Nat} {M : eM} {Q : Option eg_V → eg_H → Prop} {a : Int} {x : Int} (hx : fn_42 a M = some x) (hK : Q (some (.inl x)) (em_L cn mo, eh_R, M)) : eg_wp sc (d + 2) 42 [.inr (.inr (some 7)), .inl a] (em_L cn mo, eh_R, M) 0 0 Q := by
  refine eg_in (lv := [some (.inr (.inr (some 7))), some (.inl a), none]) eg_tj42 (Nat.le_of_ble_eq_true rfl) rfl ?_
  refine eg_k_iload rfl rfl ?_
  refine eg_k_aload rfl rfl ?_
  refine eg_k_gfi rfl rfl rfl ?_
  refine vk_icmp rfl hx Iff.rfl (fun c1 hx => ?_) (fun c1 hx => ?_)
  · refine eg_k_aload rfl rfl ?_
    refine eg_k_gfa rfl rfl rfl eh_r7_1 ?_
    refine eg_k_iload rfl rfl ?_
    obtain ⟨b2, hx⟩ := vb_if hx
    refine eg_k_bald (k := 3000) rfl rfl b2.1 b2.2 ?_
    refine eg_k_istore (lv' := [some (.inr (.inr (some 7))), some (.inl a), some (.inl (M 8 (a).toNat))]) rfl rfl ?_
    refine eg_k_iload rfl rfl ?_
    refine eg_k_ci rfl ?_
    refine vk_icmp rfl hx Iff.rfl (fun c3 hx => ?_) (fun c3 hx => ?_)
    · have hz := ft_42_17 (d := d) (sc := sc) hx hK
      exact hz
    · refine eg_k_iload rfl rfl ?_
      refine eg_k_ci rfl ?_
      refine vk_icmp rfl hx Iff.rfl (fun c17 hx => ?_) (fun c17 hx => ?_)
      · refine eg_k_ci rfl ?_
        refine eg_k_goto rfl ?_
        have hx := Option.some.inj hx
        subst hx
        exact eg_k_iret rfl (Or.inr rfl) (Nat.le_refl _) (Nat.le_refl _) hK
      · have hz := ft_42_17 (d := d) (sc := sc) hx hK
        exact hz
  · refine eg_k_ci rfl ?_
    have hx := Option.some.inj hx
    subst hx
    exact eg_k_iret rfl (Or.inl rfl) (Nat.le_refl _) (Nat.le_refl _) hK
/-- 44: WeakScheme.truth(Z)J -/
noncomputable def fn_44 (a : Int) (M : eM) : Option (Int) :=
  if a = 0 then
    some 4294967296
  else
    some 4294967297
set_option maxRecDepth 100000 in
theorem ft_44 {cn mo : Nat} {sc : eg_Sc} {d : Nat} {M : eM} {Q : Option eg_V → eg_H → Prop} {a : Int} {x : Int} (hx : fn_44 a M = some x) (hK : Q (some (.inr (.inl x))) (em_L cn mo, eh_R, M)) : eg_wp sc (d + 1) 44 [.inl a] (em_L cn mo, eh_R, M) 0 0 Q := by
  refine eg_in (lv := [some (.inl a)]) eg_tj44 (Nat.le_of_ble_eq_true rfl) rfl ?_
  refine eg_k_iload rfl rfl ?_
  refine vk_if rfl hx Iff.rfl (fun c1 hx => ?_) (fun c1 hx => ?_)
  · refine eg_k_cl rfl ?_
    have hx := Option.some.inj hx
    subst hx
    exact eg_k_lret rfl rfl (Nat.le_refl _) (Nat.le_refl _) hK
  · refine eg_k_cl rfl ?_
    refine eg_k_goto rfl ?_
    have hx := Option.some.inj hx
    subst hx
    exact eg_k_lret rfl rfl (Nat.le_refl _) (Nat.le_refl _) hK
/-- 45: WeakScheme$Reader.addAtom(JI)V -/
noncomputable def fn_45 (a : Int) (b : Int) (M : eM) : Option (eM) :=
  (fn_36 a (M 7 7) M).bind fun r2 =>
  if r2.1 = 0 then
    some r2.2
  else
    (fn_40 (eg_u r2.2 7 7 b)).bind fun m7 =>
    some m7
set_option maxRecDepth 100000 in
theorem ft_45 {cn mo : Nat} {sc : eg_Sc} {d : Nat} {M : eM} {Q : Option eg_V → eg_H → Prop} {a : Int} {b : Int} {x : eM} (hx : fn_45 a b M = some x) (hK : Q (none) (em_L cn mo, eh_R, x)) : eg_wp sc (d + 3) 45 [.inr (.inr (some 7)), .inr (.inl a), .inl b] (em_L cn mo, eh_R, M) 0 0 Q := by
  refine eg_in (lv := [some (.inr (.inr (some 7))), some (.inr (.inl a)), none, some (.inl b)]) eg_tj45 (Nat.le_of_ble_eq_true rfl) rfl ?_
  refine eg_k_aload rfl rfl ?_
  refine eg_k_lload rfl rfl ?_
  refine eg_k_aload rfl rfl ?_
  refine eg_k_gfi rfl rfl rfl ?_
  obtain ⟨r2, h1, hx⟩ := vb_bind hx
  refine eg_k_call (c1 := 0) (z1 := 0) (as := [.inr (.inr (some 7)), .inr (.inl a), .inl (M 7 7)]) (rest := []) rfl eg_tj36 (Nat.le_of_ble_eq_true rfl) rfl rfl rfl (Nat.le_of_ble_eq_true rfl) (Nat.le_refl _) (Nat.le_refl _) ?_ (fun Q hQ => ft_36 h1 hQ)
  refine vk_if rfl hx Iff.rfl (fun c4 hx => ?_) (fun c4 hx => ?_)
  · have hx := Option.some.inj hx
    subst hx
    exact eg_k_ret rfl rfl (Nat.le_refl _) (Nat.le_refl _) hK
  · refine eg_k_aload rfl rfl ?_
    refine eg_k_iload rfl rfl ?_
    refine eg_k_pfi rfl rfl rfl ?_
    refine eg_k_aload rfl rfl ?_
    obtain ⟨m7, h5, hx⟩ := vb_bind hx
    refine eg_k_call (c1 := 0) (z1 := 0) (as := [.inr (.inr (some 7))]) (rest := []) rfl eg_tj40 (Nat.le_of_ble_eq_true rfl) rfl rfl rfl (Nat.le_of_ble_eq_true rfl) (Nat.le_refl _) (Nat.le_refl _) ?_ (fun Q hQ => ft_40 h5 hQ)
    have hx := Option.some.inj hx
    subst hx
    exact eg_k_ret rfl rfl (Nat.le_refl _) (Nat.le_refl _) hK
theorem fw_45 {M : eM} {c : Nat} {a : Int} {b : Int} {x : eM} (hx : fn_45 a b M = some x) (hc : c ∉ ([1, 4, 5, 6, 7, 9] : List Nat)) (j : Nat) : x c j = M c j := by
  obtain ⟨v, hK⟩ : ∃ v, x c j = v := ⟨_, rfl⟩
  rw [hK]
  refine Eq.symm ?_
  obtain ⟨r2, h1, hx⟩ := vb_bind hx
  refine vb_ite hx (fun _ hx => ?_) (fun _ hx => ?_)
  · have hx := Option.some.inj hx
    subst hx
    exact ((fw_36 h1 (vsub hc (by decide)) j).trans rfl).symm.trans hK
  · obtain ⟨m7, h5, hx⟩ := vb_bind hx
    have hx := Option.some.inj hx
    subst hx
    exact ((fw_40 h5 (vsub hc (by decide)) j).trans ((congrFun (eg_u_ne (vne hc (a := 7) (by decide))) j).trans ((fw_36 h1 (vsub hc (by decide)) j).trans rfl))).symm.trans hK
noncomputable def fn_41_46 (x1 : Int) (M : eM) : Option (eM) :=
  (fn_42 (eg_wi ((M 7 7) + 2)) M).bind fun r8 =>
  if r8 = 0 then
    (fn_44 x1 M).bind fun r12 =>
    (fn_45 r12 (eg_wi ((M 7 7) + 2)) M).bind fun m16 =>
    some m16
  else
    (fn_35 1 (eg_wi ((M 7 7) + 2)) M).bind fun m19 =>
    some m19
noncomputable def fn_41_19 (y0 : Int) (M : eM) : Option (eM) :=
  if (M 7 6) ≤ (eg_wi ((M 7 7) + 1)) then
    (fn_35 1 (eg_wi ((M 7 7) + 1)) M).bind fun m5 =>
    some m5
  else
    if ¬ y0 = 0 then
      fn_41_46 y0 M
    else
      if 0 ≤ (eg_wi ((M 7 7) + 1)) ∧ (eg_wi ((M 7 7) + 1)) < 3000 then
      if (M 8 (eg_wi ((M 7 7) + 1)).toNat) = 102 then
          fn_41_46 y0 M
        else
          (fn_35 1 (eg_wi ((M 7 7) + 1)) M).bind fun m24 =>
          some m24
      else none
noncomputable def fn_41_18 (M : eM) : Option (eM) :=
  fn_41_19 0 M
/-- 41: WeakScheme$Reader.readTruth()V -/
noncomputable def fn_41 (M : eM) : Option (eM) :=
  if (M 7 6) ≤ (eg_wi ((M 7 7) + 1)) then
    fn_41_18 M
  else
    if 0 ≤ (eg_wi ((M 7 7) + 1)) ∧ (eg_wi ((M 7 7) + 1)) < 3000 then
    if ¬ (M 8 (eg_wi ((M 7 7) + 1)).toNat) = 116 then
        fn_41_18 M
      else
        fn_41_19 1 M
    else none
set_option maxRecDepth 100000 in
theorem ft_41_46 {cn mo : Nat} {sc : eg_Sc} {d : Nat} {M : eM} {Q : Option eg_V → eg_H → Prop} {x1 : Int} {x : eM} (hx : fn_41_46 x1 M = some x) (hK : (fun (x : eM) => Q (none) (em_L cn mo, eh_R, x)) x) : eg_X sc (eg_wp sc (d + 3)) eg_p41 none 0 0 Q 46 [some (.inr (.inr (some 7))), some (.inl x1)] [] (em_L cn mo, eh_R, M) 0 0 := by
  refine eg_k_aload rfl rfl ?_
  refine eg_k_aload rfl rfl ?_
  refine eg_k_gfi rfl rfl rfl ?_
  refine eg_k_ci rfl ?_
  refine eg_k_iadd rfl ?_
  obtain ⟨r8, h7, hx⟩ := vb_bind hx
  refine eg_k_call (c1 := 0) (z1 := 0) (as := [.inr (.inr (some 7)), .inl (eg_wi ((M 7 7) + 2))]) (rest := []) rfl eg_tj42 (Nat.le_of_ble_eq_true rfl) rfl rfl rfl (Nat.le_of_ble_eq_true rfl) (Nat.le_refl _) (Nat.le_refl _) ?_ (fun Q hQ => ft_42 h7 hQ)
  refine vk_if rfl hx Iff.rfl (fun c10 hx => ?_) (fun c10 hx => ?_)
  · refine eg_k_aload rfl rfl ?_
    refine eg_k_iload rfl rfl ?_
    obtain ⟨r12, h11, hx⟩ := vb_bind hx
    refine eg_k_call (c1 := 0) (z1 := 0) (as := [.inl x1]) (rest := [.inr (.inr (some 7))]) rfl eg_tj44 (Nat.le_of_ble_eq_true rfl) rfl rfl trivial (Nat.le_of_ble_eq_true rfl) (Nat.le_refl _) (Nat.le_refl _) ?_ (fun Q hQ => ft_44 h11 hQ)
    refine eg_k_aload rfl rfl ?_
    refine eg_k_gfi rfl rfl rfl ?_
    refine eg_k_ci rfl ?_
    refine eg_k_iadd rfl ?_
    obtain ⟨m16, h14, hx⟩ := vb_bind hx
    refine eg_k_call (c1 := 0) (z1 := 0) (as := [.inr (.inr (some 7)), .inr (.inl r12), .inl (eg_wi ((M 7 7) + 2))]) (rest := []) rfl eg_tj45 (Nat.le_of_ble_eq_true rfl) rfl rfl rfl (Nat.le_of_ble_eq_true rfl) (Nat.le_refl _) (Nat.le_refl _) ?_ (fun Q hQ => ft_45 h14 hQ)
    have hx := Option.some.inj hx
    subst hx
    exact eg_k_ret rfl rfl (Nat.le_refl _) (Nat.le_refl _) hK
  · refine eg_k_aload rfl rfl ?_
    refine eg_k_ci rfl ?_
    refine eg_k_aload rfl rfl ?_
    refine eg_k_gfi rfl rfl rfl ?_
    refine eg_k_ci rfl ?_
    refine eg_k_iadd rfl ?_
    obtain ⟨m19, h17, hx⟩ := vb_bind hx
    refine eg_k_call (c1 := 0) (z1 := 0) (as := [.inr (.inr (some 7)), .inl 1, .inl (eg_wi ((M 7 7) + 2))]) (rest := []) rfl eg_tj35 (Nat.le_of_ble_eq_true rfl) rfl rfl rfl (Nat.le_of_ble_eq_true rfl) (Nat.le_refl _) (Nat.le_refl _) ?_ (fun Q hQ => ft_35 h17 hQ)
    refine eg_k_goto rfl ?_
    have hx := Option.some.inj hx
    subst hx
    exact eg_k_ret rfl rfl (Nat.le_refl _) (Nat.le_refl _) hK
set_option maxRecDepth 100000 in
theorem ft_41_19 {cn mo : Nat} {sc : eg_Sc} {d : Nat} {M : eM} {Q : Option eg_V → eg_H → Prop} {y0 : Int} {x : eM} (hx : fn_41_19 y0 M = some x) (hK : (fun (x : eM) => Q (none) (em_L cn mo, eh_R, x)) x) : ∀ (w1 : Option eg_V), eg_X sc (eg_wp sc (d + 3)) eg_p41 none 0 0 Q 19 [some (.inr (.inr (some 7))), w1] [.inl y0] (em_L cn mo, eh_R, M) 0 0 := by
  intro w1
  refine eg_k_istore (lv' := [some (.inr (.inr (some 7))), some (.inl y0)]) rfl rfl ?_
  refine eg_k_aload rfl rfl ?_
  refine eg_k_gfi rfl rfl rfl ?_
  refine eg_k_ci rfl ?_
  refine eg_k_iadd rfl ?_
  refine eg_k_aload rfl rfl ?_
  refine eg_k_gfi rfl rfl rfl ?_
  refine vk_icmp rfl hx Iff.rfl (fun c2 hx => ?_) (fun c2 hx => ?_)
  · refine eg_k_aload rfl rfl ?_
    refine eg_k_ci rfl ?_
    refine eg_k_aload rfl rfl ?_
    refine eg_k_gfi rfl rfl rfl ?_
    refine eg_k_ci rfl ?_
    refine eg_k_iadd rfl ?_
    obtain ⟨m5, h3, hx⟩ := vb_bind hx
    refine eg_k_call (c1 := 0) (z1 := 0) (as := [.inr (.inr (some 7)), .inl 1, .inl (eg_wi ((M 7 7) + 1))]) (rest := []) rfl eg_tj35 (Nat.le_of_ble_eq_true rfl) rfl rfl rfl (Nat.le_of_ble_eq_true rfl) (Nat.le_refl _) (Nat.le_refl _) ?_ (fun Q hQ => ft_35 h3 hQ)
    refine eg_k_goto rfl ?_
    have hx := Option.some.inj hx
    subst hx
    exact eg_k_ret rfl rfl (Nat.le_refl _) (Nat.le_refl _) hK
  · refine eg_k_iload rfl rfl ?_
    refine vk_if rfl hx Iff.rfl (fun c6 hx => ?_) (fun c6 hx => ?_)
    · have hz := ft_41_46 (d := d) (sc := sc) hx hK
      exact hz
    · refine eg_k_aload rfl rfl ?_
      refine eg_k_gfa rfl rfl rfl eh_r7_1 ?_
      refine eg_k_aload rfl rfl ?_
      refine eg_k_gfi rfl rfl rfl ?_
      refine eg_k_ci rfl ?_
      refine eg_k_iadd rfl ?_
      obtain ⟨b20, hx⟩ := vb_if hx
      refine eg_k_bald (k := 3000) rfl rfl b20.1 b20.2 ?_
      refine eg_k_ci rfl ?_
      refine vk_icmp rfl hx Iff.rfl (fun c21 hx => ?_) (fun c21 hx => ?_)
      · have hz := ft_41_46 (d := d) (sc := sc) hx hK
        exact hz
      · refine eg_k_aload rfl rfl ?_
        refine eg_k_ci rfl ?_
        refine eg_k_aload rfl rfl ?_
        refine eg_k_gfi rfl rfl rfl ?_
        refine eg_k_ci rfl ?_
        refine eg_k_iadd rfl ?_
        obtain ⟨m24, h22, hx⟩ := vb_bind hx
        refine eg_k_call (c1 := 0) (z1 := 0) (as := [.inr (.inr (some 7)), .inl 1, .inl (eg_wi ((M 7 7) + 1))]) (rest := []) rfl eg_tj35 (Nat.le_of_ble_eq_true rfl) rfl rfl rfl (Nat.le_of_ble_eq_true rfl) (Nat.le_refl _) (Nat.le_refl _) ?_ (fun Q hQ => ft_35 h22 hQ)
        refine eg_k_goto rfl ?_
        have hx := Option.some.inj hx
        subst hx
        exact eg_k_ret rfl rfl (Nat.le_refl _) (Nat.le_refl _) hK
set_option maxRecDepth 100000 in
theorem ft_41_18 {cn mo : Nat} {sc : eg_Sc} {d : Nat} {M : eM} {Q : Option eg_V → eg_H → Prop} {x : eM} (hx : fn_41_18 M = some x) (hK : (fun (x : eM) => Q (none) (em_L cn mo, eh_R, x)) x) : ∀ (w1 : Option eg_V), eg_X sc (eg_wp sc (d + 3)) eg_p41 none 0 0 Q 18 [some (.inr (.inr (some 7))), w1] [] (em_L cn mo, eh_R, M) 0 0 := by
  intro w1
  refine eg_k_ci rfl ?_
  have hz := ft_41_19 (d := d) (sc := sc) hx hK
  exact hz w1
set_option maxRecDepth 100000 in
theorem ft_41 {cn mo : Nat} {sc : eg_Sc} {d : Nat} {M : eM} {Q : Option eg_V → eg_H → Prop} {x : eM} (hx : fn_41 M = some x) (hK : Q (none) (em_L cn mo, eh_R, x)) : eg_wp sc (d + 4) 41 [.inr (.inr (some 7))] (em_L cn mo, eh_R, M) 0 0 Q := by
  refine eg_in (lv := [some (.inr (.inr (some 7))), none]) eg_tj41 (Nat.le_of_ble_eq_true rfl) rfl ?_
  refine eg_k_aload rfl rfl ?_
  refine eg_k_gfi rfl rfl rfl ?_
  refine eg_k_ci rfl ?_
  refine eg_k_iadd rfl ?_
  refine eg_k_aload rfl rfl ?_
  refine eg_k_gfi rfl rfl rfl ?_
  refine vk_icmp rfl hx Iff.rfl (fun c1 hx => ?_) (fun c1 hx => ?_)
  · have hz := ft_41_18 (d := d) (sc := sc) hx hK
    exact hz none
  · refine eg_k_aload rfl rfl ?_
    refine eg_k_gfa rfl rfl rfl eh_r7_1 ?_
    refine eg_k_aload rfl rfl ?_
    refine eg_k_gfi rfl rfl rfl ?_
    refine eg_k_ci rfl ?_
    refine eg_k_iadd rfl ?_
    obtain ⟨b25, hx⟩ := vb_if hx
    refine eg_k_bald (k := 3000) rfl rfl b25.1 b25.2 ?_
    refine eg_k_ci rfl ?_
    refine vk_icmp rfl hx Iff.rfl (fun c26 hx => ?_) (fun c26 hx => ?_)
    · have hz := ft_41_18 (d := d) (sc := sc) hx hK
      exact hz none
    · refine eg_k_ci rfl ?_
      refine eg_k_goto rfl ?_
      have hz := ft_41_19 (d := d) (sc := sc) hx hK
      exact hz none
theorem fw_41_46 {M : eM} {c j : Nat} {v : Int} {x1 : Int} {x : eM} (hc : c ∉ ([1, 4, 5, 6, 7, 9] : List Nat)) (hx : fn_41_46 x1 M = some x) (hK : (fun (x : eM) => x c j = v) x) : M c j = v := by
  obtain ⟨r8, h7, hx⟩ := vb_bind hx
  refine vb_ite hx (fun _ hx => ?_) (fun _ hx => ?_)
  · obtain ⟨r12, h11, hx⟩ := vb_bind hx
    obtain ⟨m16, h14, hx⟩ := vb_bind hx
    have hx := Option.some.inj hx
    subst hx
    exact ((fw_45 h14 (vsub hc (by decide)) j).trans rfl).symm.trans hK
  · obtain ⟨m19, h17, hx⟩ := vb_bind hx
    have hx := Option.some.inj hx
    subst hx
    exact ((fw_35 h17 (vsub hc (by decide)) j).trans rfl).symm.trans hK
theorem fw_41_19 {M : eM} {c j : Nat} {v : Int} {y0 : Int} {x : eM} (hc : c ∉ ([1, 4, 5, 6, 7, 9] : List Nat)) (hx : fn_41_19 y0 M = some x) (hK : (fun (x : eM) => x c j = v) x) : M c j = v := by
  refine vb_ite hx (fun _ hx => ?_) (fun _ hx => ?_)
  · obtain ⟨m5, h3, hx⟩ := vb_bind hx
    have hx := Option.some.inj hx
    subst hx
    exact ((fw_35 h3 (vsub hc (by decide)) j).trans rfl).symm.trans hK
  · refine vb_ite hx (fun _ hx => ?_) (fun _ hx => ?_)
    · have hz := fw_41_46 hc hx hK
      exact (Eq.refl _).symm.trans hz
    · obtain ⟨_, hx⟩ := vb_if hx
      refine vb_ite hx (fun _ hx => ?_) (fun _ hx => ?_)
      · have hz := fw_41_46 hc hx hK
        exact (Eq.refl _).symm.trans hz
      · obtain ⟨m24, h22, hx⟩ := vb_bind hx
        have hx := Option.some.inj hx
        subst hx
        exact ((fw_35 h22 (vsub hc (by decide)) j).trans rfl).symm.trans hK
theorem fw_41_18 {M : eM} {c j : Nat} {v : Int} {x : eM} (hc : c ∉ ([1, 4, 5, 6, 7, 9] : List Nat)) (hx : fn_41_18 M = some x) (hK : (fun (x : eM) => x c j = v) x) : M c j = v := by
  have hz := fw_41_19 hc hx hK
  exact (Eq.refl _).symm.trans hz
theorem fw_41 {M : eM} {c : Nat} {x : eM} (hx : fn_41 M = some x) (hc : c ∉ ([1, 4, 5, 6, 7, 9] : List Nat)) (j : Nat) : x c j = M c j := by
  obtain ⟨v, hK⟩ : ∃ v, x c j = v := ⟨_, rfl⟩
  rw [hK]
  refine Eq.symm ?_
  refine vb_ite hx (fun _ hx => ?_) (fun _ hx => ?_)
  · have hz := fw_41_18 hc hx hK
    exact (Eq.refl _).symm.trans hz
  · obtain ⟨_, hx⟩ := vb_if hx
    refine vb_ite hx (fun _ hx => ?_) (fun _ hx => ?_)
    · have hz := fw_41_18 hc hx hK
      exact (Eq.refl _).symm.trans hz
    · have hz := fw_41_19 hc hx hK
      exact (Eq.refl _).symm.trans hz
noncomputable def fn_47_2 (x1 : Int) (x2 : Int) (M : eM) (s : Int) : Option ((Int) ⊕ (Int)) :=
  if x2 ≤ s then
    some (.inr 1)
  else
    (fn_43 s M).bind fun r3 =>
    if ¬ r3 = 0 then
      some (.inl (eg_wi (s + 1)))
    else
      some (.inr 0)
/-- 47: WeakScheme$Reader.isDigits(II)Z -/
noncomputable def fn_47 (a : Int) (b : Int) (M : eM) : Option (Int) :=
  lp (fn_47_2 a b M) a
set_option maxRecDepth 100000 in
theorem ft_47_2 {cn mo : Nat} {sc : eg_Sc} {d : Nat} {M : eM} {Q : Option eg_V → eg_H → Prop} {x1 : Int} {x2 : Int} {s : Int} {x : Int} (hx : lp (fn_47_2 x1 x2 M) s = some x) (hK : (fun (x : Int) => Q (some (.inl x)) (em_L cn mo, eh_R, M)) x) : eg_X sc (eg_wp sc (d + 1)) eg_p47 (some .boolean) 0 0 Q 2 [some (.inr (.inr (some 7))), some (.inl x1), some (.inl x2), some (.inl s)] [] (em_L cn mo, eh_R, M) 0 0 := by
  refine lp_sound (P := (fun (s : Int) => eg_X sc (eg_wp sc (d + 1)) eg_p47 (some .boolean) 0 0 Q 2 [some (.inr (.inr (some 7))), some (.inl x1), some (.inl x2), some (.inl s)] [] (em_L cn mo, eh_R, M) 0 0)) (K := (fun (x : Int) => Q (some (.inl x)) (em_L cn mo, eh_R, M))) hx hK ?_
  intro s x hx hK
  refine eg_k_iload rfl rfl ?_
  refine eg_k_iload rfl rfl ?_
  refine vk_icmp rfl hx Iff.rfl (fun c1 hx => ?_) (fun c1 hx => ?_)
  · refine eg_k_ci rfl ?_
    have hx := Option.some.inj hx
    subst hx
    exact eg_k_iret rfl (Or.inr rfl) (Nat.le_refl _) (Nat.le_refl _) hK
  · refine eg_k_aload rfl rfl ?_
    refine eg_k_iload rfl rfl ?_
    obtain ⟨r3, h2, hx⟩ := vb_bind hx
    refine eg_k_call (c1 := 0) (z1 := 0) (as := [.inr (.inr (some 7)), .inl s]) (rest := []) rfl eg_tj43 (Nat.le_of_ble_eq_true rfl) rfl rfl rfl (Nat.le_of_ble_eq_true rfl) (Nat.le_refl _) (Nat.le_refl _) ?_ (fun Q hQ => ft_43 h2 hQ)
    refine vk_if rfl hx Iff.rfl (fun c5 hx => ?_) (fun c5 hx => ?_)
    · refine eg_k_iinc (lv' := [some (.inr (.inr (some 7))), some (.inl x1), some (.inl x2), some (.inl (eg_wi (s + 1)))]) rfl rfl rfl ?_
      refine eg_k_goto rfl ?_
      have hx := Option.some.inj hx
      subst hx
      exact hK
    · refine eg_k_ci rfl ?_
      have hx := Option.some.inj hx
      subst hx
      exact eg_k_iret rfl (Or.inl rfl) (Nat.le_refl _) (Nat.le_refl _) hK
set_option maxRecDepth 100000 in
theorem ft_47 {cn mo : Nat} {sc : eg_Sc} {d : Nat} {M : eM} {Q : Option eg_V → eg_H → Prop} {a : Int} {b : Int} {x : Int} (hx : fn_47 a b M = some x) (hK : Q (some (.inl x)) (em_L cn mo, eh_R, M)) : eg_wp sc (d + 2) 47 [.inr (.inr (some 7)), .inl a, .inl b] (em_L cn mo, eh_R, M) 0 0 Q := by
  refine eg_in (lv := [some (.inr (.inr (some 7))), some (.inl a), some (.inl b), none]) eg_tj47 (Nat.le_of_ble_eq_true rfl) rfl ?_
  refine eg_k_iload rfl rfl ?_
  refine eg_k_istore (lv' := [some (.inr (.inr (some 7))), some (.inl a), some (.inl b), some (.inl a)]) rfl rfl ?_
  have hz := ft_47_2 (d := d) (sc := sc) hx hK
  exact hz
/-- 49: WeakScheme.number(I)J -/
noncomputable def fn_49 (a : Int) (M : eM) : Option (Int) :=
  some (eb_land a 4294967295)
set_option maxRecDepth 100000 in
theorem ft_49 {cn mo : Nat} {sc : eg_Sc} {d : Nat} {M : eM} {Q : Option eg_V → eg_H → Prop} {a : Int} {x : Int} (hx : fn_49 a M = some x) (hK : Q (some (.inr (.inl x))) (em_L cn mo, eh_R, M)) : eg_wp sc (d + 1) 49 [.inl a] (em_L cn mo, eh_R, M) 0 0 Q := by
  refine eg_in (lv := [some (.inl a)]) eg_tj49 (Nat.le_of_ble_eq_true rfl) rfl ?_
  refine eg_k_iload rfl rfl ?_
  refine eg_k_i2l rfl ?_
  refine eg_k_cl rfl ?_
  refine eg_k_land rfl ?_
  have hx := Option.some.inj hx
  subst hx
  exact eg_k_lret rfl rfl (Nat.le_refl _) (Nat.le_refl _) hK
noncomputable def fn_48_39 (x1 : Int) (x2 : Int) (x3 : Int) (x5 : Int) (M : eM) : Option (eM) :=
  if x5 ≤ x3 then
    if x1 = 0 then
      (fn_49 (eg_wi x5) M).bind fun r6 =>
      (fn_45 r6 x2 M).bind fun m10 =>
      some m10
    else
      (fn_49 (eg_wi (eg_wl (-x5))) M).bind fun r12 =>
      (fn_45 r12 x2 M).bind fun m16 =>
      some m16
  else
    (fn_35 1 (M 7 7) M).bind fun m19 =>
    some m19
noncomputable def fn_48_18 (x1 : Int) (x2 : Int) (x3 : Int) (M : eM) (s1 : Int) (s2 : Int) : Option ((Int × Int) ⊕ (eM)) :=
  if x2 ≤ s2 then
    (fn_48_39 x1 x2 x3 s1 M).map Sum.inr
  else
    if x3 < s1 then
      (fn_48_39 x1 x2 x3 s1 M).map Sum.inr
    else
      if 0 ≤ s2 ∧ s2 < 3000 then
      some (.inl (eg_wl ((eg_wl ((eg_wl (s1 * 10)) + (M 8 (s2).toNat))) - 48), eg_wi (s2 + 1)))
      else none
/-- 48: WeakScheme$Reader.readNumber(ZI)V -/
noncomputable def fn_48 (a : Int) (b : Int) (M : eM) : Option (eM) :=
  if a = 0 then
    lp (fun z => fn_48_18 a b 2147483647 M z.1 z.2) (0, M 7 7)
  else
    lp (fun z => fn_48_18 a b 2147483648 M z.1 z.2) (0, eg_wi ((M 7 7) + 1))
set_option maxRecDepth 100000 in
theorem ft_48_39 {cn mo : Nat} {sc : eg_Sc} {d : Nat} {M : eM} {Q : Option eg_V → eg_H → Prop} {x1 : Int} {x2 : Int} {x3 : Int} {x5 : Int} {x : eM} (hx : fn_48_39 x1 x2 x3 x5 M = some x) (hK : (fun (x : eM) => Q (none) (em_L cn mo, eh_R, x)) x) : ∀ (w7 : Option eg_V), eg_X sc (eg_wp sc (d + 3)) eg_p48 none 0 0 Q 39 [some (.inr (.inr (some 7))), some (.inl x1), some (.inl x2), some (.inr (.inl x3)), none, some (.inr (.inl x5)), none, w7] [] (em_L cn mo, eh_R, M) 0 0 := by
  intro w7
  refine eg_k_lload rfl rfl ?_
  refine eg_k_lload rfl rfl ?_
  refine vk_lcmp rfl rfl hx Iff.rfl (fun c3 hx => ?_) (fun c3 hx => ?_)
  · refine eg_k_aload rfl rfl ?_
    refine eg_k_iload rfl rfl ?_
    refine vk_if rfl hx Iff.rfl (fun c4 hx => ?_) (fun c4 hx => ?_)
    · refine eg_k_lload rfl rfl ?_
      refine eg_k_l2i rfl ?_
      obtain ⟨r6, h5, hx⟩ := vb_bind hx
      refine eg_k_call (c1 := 0) (z1 := 0) (as := [.inl (eg_wi x5)]) (rest := [.inr (.inr (some 7))]) rfl eg_tj49 (Nat.le_of_ble_eq_true rfl) rfl rfl trivial (Nat.le_of_ble_eq_true rfl) (Nat.le_refl _) (Nat.le_refl _) ?_ (fun Q hQ => ft_49 h5 hQ)
      refine eg_k_iload rfl rfl ?_
      obtain ⟨m10, h8, hx⟩ := vb_bind hx
      refine eg_k_call (c1 := 0) (z1 := 0) (as := [.inr (.inr (some 7)), .inr (.inl r6), .inl x2]) (rest := []) rfl eg_tj45 (Nat.le_of_ble_eq_true rfl) rfl rfl rfl (Nat.le_of_ble_eq_true rfl) (Nat.le_refl _) (Nat.le_refl _) ?_ (fun Q hQ => ft_45 h8 hQ)
      have hx := Option.some.inj hx
      subst hx
      exact eg_k_ret rfl rfl (Nat.le_refl _) (Nat.le_refl _) hK
    · refine eg_k_lload rfl rfl ?_
      refine eg_k_lneg rfl ?_
      refine eg_k_goto rfl ?_
      refine eg_k_l2i rfl ?_
      obtain ⟨r12, h11, hx⟩ := vb_bind hx
      refine eg_k_call (c1 := 0) (z1 := 0) (as := [.inl (eg_wi (eg_wl (-x5)))]) (rest := [.inr (.inr (some 7))]) rfl eg_tj49 (Nat.le_of_ble_eq_true rfl) rfl rfl trivial (Nat.le_of_ble_eq_true rfl) (Nat.le_refl _) (Nat.le_refl _) ?_ (fun Q hQ => ft_49 h11 hQ)
      refine eg_k_iload rfl rfl ?_
      obtain ⟨m16, h14, hx⟩ := vb_bind hx
      refine eg_k_call (c1 := 0) (z1 := 0) (as := [.inr (.inr (some 7)), .inr (.inl r12), .inl x2]) (rest := []) rfl eg_tj45 (Nat.le_of_ble_eq_true rfl) rfl rfl rfl (Nat.le_of_ble_eq_true rfl) (Nat.le_refl _) (Nat.le_refl _) ?_ (fun Q hQ => ft_45 h14 hQ)
      have hx := Option.some.inj hx
      subst hx
      exact eg_k_ret rfl rfl (Nat.le_refl _) (Nat.le_refl _) hK
  · refine eg_k_aload rfl rfl ?_
    refine eg_k_ci rfl ?_
    refine eg_k_aload rfl rfl ?_
    refine eg_k_gfi rfl rfl rfl ?_
    obtain ⟨m19, h17, hx⟩ := vb_bind hx
    refine eg_k_call (c1 := 0) (z1 := 0) (as := [.inr (.inr (some 7)), .inl 1, .inl (M 7 7)]) (rest := []) rfl eg_tj35 (Nat.le_of_ble_eq_true rfl) rfl rfl rfl (Nat.le_of_ble_eq_true rfl) (Nat.le_refl _) (Nat.le_refl _) ?_ (fun Q hQ => ft_35 h17 hQ)
    refine eg_k_goto rfl ?_
    have hx := Option.some.inj hx
    subst hx
    exact eg_k_ret rfl rfl (Nat.le_refl _) (Nat.le_refl _) hK
set_option maxRecDepth 100000 in
theorem ft_48_18 {cn mo : Nat} {sc : eg_Sc} {d : Nat} {M : eM} {Q : Option eg_V → eg_H → Prop} {x1 : Int} {x2 : Int} {x3 : Int} {s : Int × Int} {x : eM} (hx : lp (fun z => fn_48_18 x1 x2 x3 M z.1 z.2) s = some x) (hK : (fun (x : eM) => Q (none) (em_L cn mo, eh_R, x)) x) : eg_X sc (eg_wp sc (d + 3)) eg_p48 none 0 0 Q 18 [some (.inr (.inr (some 7))), some (.inl x1), some (.inl x2), some (.inr (.inl x3)), none, some (.inr (.inl s.1)), none, some (.inl s.2)] [] (em_L cn mo, eh_R, M) 0 0 := by
  refine lp_sound (P := (fun (s : Int × Int) => eg_X sc (eg_wp sc (d + 3)) eg_p48 none 0 0 Q 18 [some (.inr (.inr (some 7))), some (.inl x1), some (.inl x2), some (.inr (.inl x3)), none, some (.inr (.inl s.1)), none, some (.inl s.2)] [] (em_L cn mo, eh_R, M) 0 0)) (K := (fun (x : eM) => Q (none) (em_L cn mo, eh_R, x))) hx hK ?_
  intro s x hx hK
  obtain ⟨s1, s2⟩ := s
  refine eg_k_iload rfl rfl ?_
  refine eg_k_iload rfl rfl ?_
  refine vk_icmp rfl hx Iff.rfl (fun c2 hx => ?_) (fun c2 hx => ?_)
  · obtain ⟨x, hy, e9⟩ := vb_map hx
    clear hx
    subst e9
    have hx := hy
    clear hy
    have hz := ft_48_39 (d := d) (sc := sc) hx hK
    exact hz (some (.inl s2))
  · refine eg_k_lload rfl rfl ?_
    refine eg_k_lload rfl rfl ?_
    refine vk_lcmp rfl rfl hx Iff.rfl (fun c20 hx => ?_) (fun c20 hx => ?_)
    · obtain ⟨x, hy, e9⟩ := vb_map hx
      clear hx
      subst e9
      have hx := hy
      clear hy
      have hz := ft_48_39 (d := d) (sc := sc) hx hK
      exact hz (some (.inl s2))
    · refine eg_k_lload rfl rfl ?_
      refine eg_k_cl rfl ?_
      refine eg_k_lmul rfl ?_
      refine eg_k_aload rfl rfl ?_
      refine eg_k_gfa rfl rfl rfl eh_r7_1 ?_
      refine eg_k_iload rfl rfl ?_
      obtain ⟨b21, hx⟩ := vb_if hx
      refine eg_k_bald (k := 3000) rfl rfl b21.1 b21.2 ?_
      refine eg_k_i2l rfl ?_
      refine eg_k_ladd rfl ?_
      refine eg_k_cl rfl ?_
      refine eg_k_lsub rfl ?_
      refine eg_k_lstore (lv' := [some (.inr (.inr (some 7))), some (.inl x1), some (.inl x2), some (.inr (.inl x3)), none, some (.inr (.inl (eg_wl ((eg_wl ((eg_wl (s1 * 10)) + (M 8 (s2).toNat))) - 48)))), none, some (.inl s2)]) rfl rfl ?_
      refine eg_k_iinc (lv' := [some (.inr (.inr (some 7))), some (.inl x1), some (.inl x2), some (.inr (.inl x3)), none, some (.inr (.inl (eg_wl ((eg_wl ((eg_wl (s1 * 10)) + (M 8 (s2).toNat))) - 48)))), none, some (.inl (eg_wi (s2 + 1)))]) rfl rfl rfl ?_
      refine eg_k_goto rfl ?_
      have hx := Option.some.inj hx
      subst hx
      exact hK
set_option maxRecDepth 100000 in
theorem ft_48 {cn mo : Nat} {sc : eg_Sc} {d : Nat} {M : eM} {Q : Option eg_V → eg_H → Prop} {a : Int} {b : Int} {x : eM} (hx : fn_48 a b M = some x) (hK : Q (none) (em_L cn mo, eh_R, x)) : eg_wp sc (d + 4) 48 [.inr (.inr (some 7)), .inl a, .inl b] (em_L cn mo, eh_R, M) 0 0 Q := by
  refine eg_in (lv := [some (.inr (.inr (some 7))), some (.inl a), some (.inl b), none, none, none, none, none]) eg_tj48 (Nat.le_of_ble_eq_true rfl) rfl ?_
  refine eg_k_iload rfl rfl ?_
  refine vk_if rfl hx Iff.rfl (fun c1 hx => ?_) (fun c1 hx => ?_)
  · refine eg_k_cl rfl ?_
    refine eg_k_lstore (lv' := [some (.inr (.inr (some 7))), some (.inl a), some (.inl b), some (.inr (.inl 2147483647)), none, none, none, none]) rfl rfl ?_
    refine eg_k_cl rfl ?_
    refine eg_k_lstore (lv' := [some (.inr (.inr (some 7))), some (.inl a), some (.inl b), some (.inr (.inl 2147483647)), none, some (.inr (.inl 0)), none, none]) rfl rfl ?_
    refine eg_k_iload rfl rfl ?_
    refine eg_k_if rfl (fun _ => ?_) (fun z => absurd c1 z)
    refine eg_k_aload rfl rfl ?_
    refine eg_k_gfi rfl rfl rfl ?_
    refine eg_k_istore (lv' := [some (.inr (.inr (some 7))), some (.inl a), some (.inl b), some (.inr (.inl 2147483647)), none, some (.inr (.inl 0)), none, some (.inl (M 7 7))]) rfl rfl ?_
    have hz := ft_48_18 (d := d) (sc := sc) hx hK
    exact hz
  · refine eg_k_cl rfl ?_
    refine eg_k_goto rfl ?_
    refine eg_k_lstore (lv' := [some (.inr (.inr (some 7))), some (.inl a), some (.inl b), some (.inr (.inl 2147483648)), none, none, none, none]) rfl rfl ?_
    refine eg_k_cl rfl ?_
    refine eg_k_lstore (lv' := [some (.inr (.inr (some 7))), some (.inl a), some (.inl b), some (.inr (.inl 2147483648)), none, some (.inr (.inl 0)), none, none]) rfl rfl ?_
    refine eg_k_iload rfl rfl ?_
    refine eg_k_if rfl (fun z => absurd z c1) (fun _ => ?_)
    refine eg_k_aload rfl rfl ?_
    refine eg_k_gfi rfl rfl rfl ?_
    refine eg_k_ci rfl ?_
    refine eg_k_iadd rfl ?_
    refine eg_k_goto rfl ?_
    refine eg_k_istore (lv' := [some (.inr (.inr (some 7))), some (.inl a), some (.inl b), some (.inr (.inl 2147483648)), none, some (.inr (.inl 0)), none, some (.inl (eg_wi ((M 7 7) + 1)))]) rfl rfl ?_
    have hz := ft_48_18 (d := d) (sc := sc) hx hK
    exact hz
theorem fw_48_39 {M : eM} {c j : Nat} {v : Int} {x1 : Int} {x2 : Int} {x3 : Int} {x5 : Int} {x : eM} (hc : c ∉ ([1, 4, 5, 6, 7, 9] : List Nat)) (hx : fn_48_39 x1 x2 x3 x5 M = some x) (hK : (fun (x : eM) => x c j = v) x) : M c j = v := by
  refine vb_ite hx (fun _ hx => ?_) (fun _ hx => ?_)
  · refine vb_ite hx (fun _ hx => ?_) (fun _ hx => ?_)
    · obtain ⟨r6, h5, hx⟩ := vb_bind hx
      obtain ⟨m10, h8, hx⟩ := vb_bind hx
      have hx := Option.some.inj hx
      subst hx
      exact ((fw_45 h8 (vsub hc (by decide)) j).trans rfl).symm.trans hK
    · obtain ⟨r12, h11, hx⟩ := vb_bind hx
      obtain ⟨m16, h14, hx⟩ := vb_bind hx
      have hx := Option.some.inj hx
      subst hx
      exact ((fw_45 h14 (vsub hc (by decide)) j).trans rfl).symm.trans hK
  · obtain ⟨m19, h17, hx⟩ := vb_bind hx
    have hx := Option.some.inj hx
    subst hx
    exact ((fw_35 h17 (vsub hc (by decide)) j).trans rfl).symm.trans hK
theorem fw_48_18 {M : eM} {c j : Nat} {v : Int} {x1 : Int} {x2 : Int} {x3 : Int} {s : Int × Int} {x : eM} (hc : c ∉ ([1, 4, 5, 6, 7, 9] : List Nat)) (hx : lp (fun z => fn_48_18 x1 x2 x3 M z.1 z.2) s = some x) (hK : (fun (x : eM) => x c j = v) x) : M c j = v := by
  refine lp_sound (P := (fun (s : Int × Int) => M c j = v)) (K := (fun (x : eM) => x c j = v)) hx hK ?_
  intro s x hx hK
  obtain ⟨s1, s2⟩ := s
  refine vb_ite hx (fun _ hx => ?_) (fun _ hx => ?_)
  · obtain ⟨x, hy, e9⟩ := vb_map hx
    clear hx
    subst e9
    have hx := hy
    clear hy
    have hz := fw_48_39 hc hx hK
    exact (Eq.refl _).symm.trans hz
  · refine vb_ite hx (fun _ hx => ?_) (fun _ hx => ?_)
    · obtain ⟨x, hy, e9⟩ := vb_map hx
      clear hx
      subst e9
      have hx := hy
      clear hy
      have hz := fw_48_39 hc hx hK
      exact (Eq.refl _).symm.trans hz
    · obtain ⟨_, hx⟩ := vb_if hx
      have hx := Option.some.inj hx
      subst hx
      exact hK
theorem fw_48 {M : eM} {c : Nat} {a : Int} {b : Int} {x : eM} (hx : fn_48 a b M = some x) (hc : c ∉ ([1, 4, 5, 6, 7, 9] : List Nat)) (j : Nat) : x c j = M c j := by
  obtain ⟨v, hK⟩ : ∃ v, x c j = v := ⟨_, rfl⟩
  rw [hK]
  refine Eq.symm ?_
  refine vb_ite hx (fun _ hx => ?_) (fun _ hx => ?_)
  · have hz := fw_48_18 hc hx hK
    exact (Eq.refl _).symm.trans hz
  · have hz := fw_48_18 hc hx hK
    exact (Eq.refl _).symm.trans hz
noncomputable def fn_52_2 (x1 : Int) (x3 : Int) (M : eM) (s : Int) : Option ((Int) ⊕ (Int)) :=
  if 0 ≤ x1 ∧ x1 < 444 then
  if (M 3 (x1).toNat) ≤ s then
      some (.inr 1)
    else
      if 0 ≤ (eg_wi ((eg_wi (x1 * 20)) + s)) ∧ (eg_wi ((eg_wi (x1 * 20)) + s)) < 8880 then
      if 0 ≤ (eg_wi (x3 + s)) ∧ (eg_wi (x3 + s)) < 3000 then
        if (M 2 (eg_wi ((eg_wi (x1 * 20)) + s)).toNat) = (M 8 (eg_wi (x3 + s)).toNat) then
            some (.inl (eg_wi (s + 1)))
          else
            some (.inr 0)
        else none
      else none
  else none
/-- 52: WeakScheme$Source.isSpelled(I[BI)Z -/
noncomputable def fn_52 (a : Int) (e : Int) (M : eM) : Option (Int) :=
  lp (fn_52_2 a e M) 0
set_option maxRecDepth 100000 in
theorem ft_52_2 {cn mo : Nat} {sc : eg_Sc} {d : Nat} {M : eM} {Q : Option eg_V → eg_H → Prop} {x1 : Int} {x3 : Int} {s : Int} {x : Int} (hx : lp (fn_52_2 x1 x3 M) s = some x) (hK : (fun (x : Int) => Q (some (.inl x)) (em_L cn mo, eh_R, M)) x) : eg_X sc (eg_wp sc d) eg_p52 (some .boolean) 0 0 Q 2 [some (.inr (.inr (some 1))), some (.inl x1), some (.inr (.inr (some 8))), some (.inl x3), some (.inl s)] [] (em_L cn mo, eh_R, M) 0 0 := by
  refine lp_sound (P := (fun (s : Int) => eg_X sc (eg_wp sc d) eg_p52 (some .boolean) 0 0 Q 2 [some (.inr (.inr (some 1))), some (.inl x1), some (.inr (.inr (some 8))), some (.inl x3), some (.inl s)] [] (em_L cn mo, eh_R, M) 0 0)) (K := (fun (x : Int) => Q (some (.inl x)) (em_L cn mo, eh_R, M))) hx hK ?_
  intro s x hx hK
  refine eg_k_iload rfl rfl ?_
  refine eg_k_aload rfl rfl ?_
  refine eg_k_gfa rfl rfl rfl eh_r1_1 ?_
  refine eg_k_iload rfl rfl ?_
  obtain ⟨b1, hx⟩ := vb_if hx
  refine eg_k_iald (k := 444) rfl rfl b1.1 b1.2 ?_
  refine vk_icmp rfl hx Iff.rfl (fun c2 hx => ?_) (fun c2 hx => ?_)
  · refine eg_k_ci rfl ?_
    have hx := Option.some.inj hx
    subst hx
    exact eg_k_iret rfl (Or.inr rfl) (Nat.le_refl _) (Nat.le_refl _) hK
  · refine eg_k_aload rfl rfl ?_
    refine eg_k_gfa rfl rfl rfl eh_r1_0 ?_
    refine eg_k_iload rfl rfl ?_
    refine eg_k_ci rfl ?_
    refine eg_k_imul rfl ?_
    refine eg_k_iload rfl rfl ?_
    refine eg_k_iadd rfl ?_
    obtain ⟨b3, hx⟩ := vb_if hx
    refine eg_k_bald (k := 8880) rfl rfl b3.1 b3.2 ?_
    refine eg_k_aload rfl rfl ?_
    refine eg_k_iload rfl rfl ?_
    refine eg_k_iload rfl rfl ?_
    refine eg_k_iadd rfl ?_
    obtain ⟨b4, hx⟩ := vb_if hx
    refine eg_k_bald (k := 3000) rfl rfl b4.1 b4.2 ?_
    refine vk_icmp rfl hx Iff.rfl (fun c5 hx => ?_) (fun c5 hx => ?_)
    · refine eg_k_iinc (lv' := [some (.inr (.inr (some 1))), some (.inl x1), some (.inr (.inr (some 8))), some (.inl x3), some (.inl (eg_wi (s + 1)))]) rfl rfl rfl ?_
      refine eg_k_goto rfl ?_
      have hx := Option.some.inj hx
      subst hx
      exact hK
    · refine eg_k_ci rfl ?_
      have hx := Option.some.inj hx
      subst hx
      exact eg_k_iret rfl (Or.inl rfl) (Nat.le_refl _) (Nat.le_refl _) hK
set_option maxRecDepth 100000 in
theorem ft_52 {cn mo : Nat} {sc : eg_Sc} {d : Nat} {M : eM} {Q : Option eg_V → eg_H → Prop} {a : Int} {e : Int} {x : Int} (hx : fn_52 a e M = some x) (hK : Q (some (.inl x)) (em_L cn mo, eh_R, M)) : eg_wp sc (d + 1) 52 [.inr (.inr (some 1)), .inl a, .inr (.inr (some 8)), .inl e] (em_L cn mo, eh_R, M) 0 0 Q := by
  refine eg_in (lv := [some (.inr (.inr (some 1))), some (.inl a), some (.inr (.inr (some 8))), some (.inl e), none]) eg_tj52 (Nat.le_of_ble_eq_true rfl) rfl ?_
  refine eg_k_ci rfl ?_
  refine eg_k_istore (lv' := [some (.inr (.inr (some 1))), some (.inl a), some (.inr (.inr (some 8))), some (.inl e), some (.inl 0)]) rfl rfl ?_
  have hz := ft_52_2 (d := d) (sc := sc) hx hK
  exact hz
noncomputable def fn_51_2 (x2 : Int) (x3 : Int) (M : eM) (s : Int) : Option ((Int) ⊕ (Int)) :=
  if (M 1 2) ≤ s then
    some (.inr (-1))
  else
    if 0 ≤ s ∧ s < 444 then
    if ¬ (M 3 (s).toNat) = (eg_wi (x3 - x2)) then
        some (.inl (eg_wi (s + 1)))
      else
        (fn_52 s x2 M).bind fun r5 =>
        if r5 = 0 then
          some (.inl (eg_wi (s + 1)))
        else
          some (.inr s)
    else none
/-- 51: WeakScheme$Source.find([BII)I -/
noncomputable def fn_51 (b : Int) (e : Int) (M : eM) : Option (Int) :=
  lp (fn_51_2 b e M) 0
set_option maxRecDepth 100000 in
theorem ft_51_2 {cn mo : Nat} {sc : eg_Sc} {d : Nat} {M : eM} {Q : Option eg_V → eg_H → Prop} {x2 : Int} {x3 : Int} {s : Int} {x : Int} (hx : lp (fn_51_2 x2 x3 M) s = some x) (hK : (fun (x : Int) => Q (some (.inl x)) (em_L cn mo, eh_R, M)) x) : eg_X sc (eg_wp sc (d + 1)) eg_p51 (some .int) 0 0 Q 2 [some (.inr (.inr (some 1))), some (.inr (.inr (some 8))), some (.inl x2), some (.inl x3), some (.inl s)] [] (em_L cn mo, eh_R, M) 0 0 := by
  refine lp_sound (P := (fun (s : Int) => eg_X sc (eg_wp sc (d + 1)) eg_p51 (some .int) 0 0 Q 2 [some (.inr (.inr (some 1))), some (.inr (.inr (some 8))), some (.inl x2), some (.inl x3), some (.inl s)] [] (em_L cn mo, eh_R, M) 0 0)) (K := (fun (x : Int) => Q (some (.inl x)) (em_L cn mo, eh_R, M))) hx hK ?_
  intro s x hx hK
  refine eg_k_iload rfl rfl ?_
  refine eg_k_aload rfl rfl ?_
  refine eg_k_gfi rfl rfl rfl ?_
  refine vk_icmp rfl hx Iff.rfl (fun c1 hx => ?_) (fun c1 hx => ?_)
  · refine eg_k_ci rfl ?_
    have hx := Option.some.inj hx
    subst hx
    exact eg_k_iret rfl True.intro (Nat.le_refl _) (Nat.le_refl _) hK
  · refine eg_k_aload rfl rfl ?_
    refine eg_k_gfa rfl rfl rfl eh_r1_1 ?_
    refine eg_k_iload rfl rfl ?_
    obtain ⟨b2, hx⟩ := vb_if hx
    refine eg_k_iald (k := 444) rfl rfl b2.1 b2.2 ?_
    refine eg_k_iload rfl rfl ?_
    refine eg_k_iload rfl rfl ?_
    refine eg_k_isub rfl ?_
    refine vk_icmp rfl hx Iff.rfl (fun c3 hx => ?_) (fun c3 hx => ?_)
    · refine eg_k_iinc (lv' := [some (.inr (.inr (some 1))), some (.inr (.inr (some 8))), some (.inl x2), some (.inl x3), some (.inl (eg_wi (s + 1)))]) rfl rfl rfl ?_
      refine eg_k_goto rfl ?_
      have hx := Option.some.inj hx
      subst hx
      exact hK
    · refine eg_k_aload rfl rfl ?_
      refine eg_k_iload rfl rfl ?_
      refine eg_k_aload rfl rfl ?_
      refine eg_k_iload rfl rfl ?_
      obtain ⟨r5, h4, hx⟩ := vb_bind hx
      refine eg_k_call (c1 := 0) (z1 := 0) (as := [.inr (.inr (some 1)), .inl s, .inr (.inr (some 8)), .inl x2]) (rest := []) rfl eg_tj52 (Nat.le_of_ble_eq_true rfl) rfl rfl rfl (Nat.le_of_ble_eq_true rfl) (Nat.le_refl _) (Nat.le_refl _) ?_ (fun Q hQ => ft_52 h4 hQ)
      refine vk_if rfl hx Iff.rfl (fun c7 hx => ?_) (fun c7 hx => ?_)
      · refine eg_k_iinc (lv' := [some (.inr (.inr (some 1))), some (.inr (.inr (some 8))), some (.inl x2), some (.inl x3), some (.inl (eg_wi (s + 1)))]) rfl rfl rfl ?_
        refine eg_k_goto rfl ?_
        have hx := Option.some.inj hx
        subst hx
        exact hK
      · refine eg_k_iload rfl rfl ?_
        have hx := Option.some.inj hx
        subst hx
        exact eg_k_iret rfl True.intro (Nat.le_refl _) (Nat.le_refl _) hK
set_option maxRecDepth 100000 in
theorem ft_51 {cn mo : Nat} {sc : eg_Sc} {d : Nat} {M : eM} {Q : Option eg_V → eg_H → Prop} {b : Int} {e : Int} {x : Int} (hx : fn_51 b e M = some x) (hK : Q (some (.inl x)) (em_L cn mo, eh_R, M)) : eg_wp sc (d + 2) 51 [.inr (.inr (some 1)), .inr (.inr (some 8)), .inl b, .inl e] (em_L cn mo, eh_R, M) 0 0 Q := by
  refine eg_in (lv := [some (.inr (.inr (some 1))), some (.inr (.inr (some 8))), some (.inl b), some (.inl e), none]) eg_tj51 (Nat.le_of_ble_eq_true rfl) rfl ?_
  refine eg_k_ci rfl ?_
  refine eg_k_istore (lv' := [some (.inr (.inr (some 1))), some (.inr (.inr (some 8))), some (.inl b), some (.inl e), some (.inl 0)]) rfl rfl ?_
  have hz := ft_51_2 (d := d) (sc := sc) hx hK
  exact hz
/-- 53: WeakScheme$Source.enter([BII)I -/
noncomputable def fn_53 (b : Int) (e : Int) (M : eM) : Option (Int × eM) :=
  if (M 1 2) = 444 then
    some ((-1), M)
  else
    if (eg_wi (e - b)) ≤ 20 then
      if 0 ≤ b ∧ 0 ≤ (eg_wi ((M 1 2) * 20)) ∧ 0 ≤ (eg_wi (e - b)) ∧ b + (eg_wi (e - b)) ≤ 3000 ∧ (eg_wi ((M 1 2) * 20)) + (eg_wi (e - b)) ≤ 8880 then
      if 0 ≤ (M 1 2) ∧ (M 1 2) < 444 then
        some (eg_wi ((eg_wi ((M 1 2) + 1)) - 1), eg_u (eg_u (eg_cp M 8 2 (b).toNat (eg_wi ((M 1 2) * 20)).toNat (eg_wi (e - b)).toNat) 3 (M 1 2).toNat (eg_wi (e - b))) 1 2 (eg_wi ((M 1 2) + 1)))
        else none
      else none
    else
      some ((-1), M)
set_option maxRecDepth 100000 in
theorem ft_53 {cn mo : Nat} {sc : eg_Sc} {d : Nat} {M : eM} {Q : Option eg_V → eg_H → Prop} {b : Int} {e : Int} {x : Int × eM} (hx : fn_53 b e M = some x) (hK : Q (some (.inl ((x).1))) (em_L cn mo, eh_R, (x).2)) : eg_wp sc (d + 1) 53 [.inr (.inr (some 1)), .inr (.inr (some 8)), .inl b, .inl e] (em_L cn mo, eh_R, M) 0 0 Q := by
  refine eg_in (lv := [some (.inr (.inr (some 1))), some (.inr (.inr (some 8))), some (.inl b), some (.inl e)]) eg_tj53 (Nat.le_of_ble_eq_true rfl) rfl ?_
  refine eg_k_aload rfl rfl ?_
  refine eg_k_gfi rfl rfl rfl ?_
  refine eg_k_ci rfl ?_
  refine vk_icmp rfl hx Iff.rfl (fun c1 hx => ?_) (fun c1 hx => ?_)
  · refine eg_k_ci rfl ?_
    have hx := Option.some.inj hx
    subst hx
    exact eg_k_iret rfl True.intro (Nat.le_refl _) (Nat.le_refl _) hK
  · refine eg_k_iload rfl rfl ?_
    refine eg_k_iload rfl rfl ?_
    refine eg_k_isub rfl ?_
    refine eg_k_ci rfl ?_
    refine vk_icmp rfl hx Iff.rfl (fun c2 hx => ?_) (fun c2 hx => ?_)
    · refine eg_k_aload rfl rfl ?_
      refine eg_k_iload rfl rfl ?_
      refine eg_k_aload rfl rfl ?_
      refine eg_k_gfa rfl rfl rfl eh_r1_0 ?_
      refine eg_k_aload rfl rfl ?_
      refine eg_k_gfi rfl rfl rfl ?_
      refine eg_k_ci rfl ?_
      refine eg_k_imul rfl ?_
      refine eg_k_iload rfl rfl ?_
      refine eg_k_iload rfl rfl ?_
      refine eg_k_isub rfl ?_
      obtain ⟨b3, hx⟩ := vb_if hx
      refine vk_copy (n0 := 3000) (n1 := 8880) (ty := .byte) rfl rfl rfl (Or.inr rfl) (Nat.le_of_ble_eq_true rfl) b3 ?_
      refine eg_k_aload rfl rfl ?_
      refine eg_k_gfa rfl rfl rfl eh_r1_1 ?_
      refine eg_k_aload rfl rfl ?_
      refine eg_k_gfie (x := M 1 2) rfl rfl rfl rfl ?_
      refine eg_k_iload rfl rfl ?_
      refine eg_k_iload rfl rfl ?_
      refine eg_k_isub rfl ?_
      obtain ⟨b4, hx⟩ := vb_if hx
      refine eg_k_iast (k := 444) rfl rfl b4.1 b4.2 ?_
      refine eg_k_aload rfl rfl ?_
      refine eg_k_dupr rfl ?_
      refine eg_k_gfie (x := M 1 2) rfl rfl rfl rfl ?_
      refine eg_k_ci rfl ?_
      refine eg_k_iadd rfl ?_
      refine eg_k_pfi rfl rfl rfl ?_
      refine eg_k_aload rfl rfl ?_
      refine eg_k_gfie (x := eg_wi ((M 1 2) + 1)) rfl rfl rfl rfl ?_
      refine eg_k_ci rfl ?_
      refine eg_k_isub rfl ?_
      have hx := Option.some.inj hx
      subst hx
      exact eg_k_iret rfl True.intro (Nat.le_refl _) (Nat.le_refl _) hK
    · refine eg_k_ci rfl ?_
      have hx := Option.some.inj hx
      subst hx
      exact eg_k_iret rfl True.intro (Nat.le_refl _) (Nat.le_refl _) hK
theorem fw_53 {M : eM} {c : Nat} {b : Int} {e : Int} {x : Int × eM} (hx : fn_53 b e M = some x) (hc : c ∉ ([1, 2, 3] : List Nat)) (j : Nat) : ((x).2) c j = M c j := by
  obtain ⟨v, hK⟩ : ∃ v, ((x).2) c j = v := ⟨_, rfl⟩
  rw [hK]
  refine Eq.symm ?_
  refine vb_ite hx (fun _ hx => ?_) (fun _ hx => ?_)
  · have hx := Option.some.inj hx
    subst hx
    exact (Eq.refl _).symm.trans hK
  · refine vb_ite hx (fun _ hx => ?_) (fun _ hx => ?_)
    · obtain ⟨_, hx⟩ := vb_if hx
      obtain ⟨_, hx⟩ := vb_if hx
      have hx := Option.some.inj hx
      subst hx
      exact ((congrFun (eg_u_ne (vne hc (a := 1) (by decide))) j).trans ((congrFun (eg_u_ne (vne hc (a := 3) (by decide))) j).trans ((congrFun (ev_cp_ne (vne hc (a := 2) (by decide))) j).trans rfl))).symm.trans hK
    · have hx := Option.some.inj hx
      subst hx
      exact (Eq.refl _).symm.trans hK
/-- 50: WeakScheme$Reader.readName(I)V -/
noncomputable def fn_50 (a : Int) (M : eM) : Option (eM) :=
  (fn_51 (M 7 7) a M).bind fun r2 =>
  if 0 ≤ r2 then
    (fn_38 r2 M).bind fun r6 =>
    (fn_45 r6 a M).bind fun m10 =>
    some m10
  else
    (fn_37 M).bind fun r12 =>
    if r12 = 0 then
      (fn_35 2 (M 7 7) M).bind fun m17 =>
      some m17
    else
      (fn_53 (M 7 7) a M).bind fun r19 =>
      if 0 ≤ r19.1 then
        (fn_38 r19.1 r19.2).bind fun r23 =>
        (fn_45 r23 a r19.2).bind fun m27 =>
        some m27
      else
        (fn_35 2 (r19.2 7 7) r19.2).bind fun m30 =>
        some m30
set_option maxRecDepth 100000 in
theorem ft_50 {cn mo : Nat} {sc : eg_Sc} {d : Nat} {M : eM} {Q : Option eg_V → eg_H → Prop} {a : Int} {x : eM} (hx : fn_50 a M = some x) (hK : Q (none) (em_L cn mo, eh_R, x)) : eg_wp sc (d + 4) 50 [.inr (.inr (some 7)), .inl a] (em_L cn mo, eh_R, M) 0 0 Q := by
  refine eg_in (lv := [some (.inr (.inr (some 7))), some (.inl a), none]) eg_tj50 (Nat.le_of_ble_eq_true rfl) rfl ?_
  refine eg_k_aload rfl rfl ?_
  refine eg_k_gfr rfl rfl rfl eh_r7_0 ?_
  refine eg_k_aload rfl rfl ?_
  refine eg_k_gfa rfl rfl rfl eh_r7_1 ?_
  refine eg_k_aload rfl rfl ?_
  refine eg_k_gfi rfl rfl rfl ?_
  refine eg_k_iload rfl rfl ?_
  obtain ⟨r2, h1, hx⟩ := vb_bind hx
  refine eg_k_call (c1 := 0) (z1 := 0) (as := [.inr (.inr (some 1)), .inr (.inr (some 8)), .inl (M 7 7), .inl a]) (rest := []) rfl eg_tj51 (Nat.le_of_ble_eq_true rfl) rfl rfl rfl (Nat.le_of_ble_eq_true rfl) (Nat.le_refl _) (Nat.le_refl _) ?_ (fun Q hQ => ft_51 h1 hQ)
  refine eg_k_istore (lv' := [some (.inr (.inr (some 7))), some (.inl a), some (.inl r2)]) rfl rfl ?_
  refine eg_k_iload rfl rfl ?_
  refine vk_if rfl hx Iff.rfl (fun c4 hx => ?_) (fun c4 hx => ?_)
  · refine eg_k_iload rfl rfl ?_
    refine eg_k_if rfl (fun _ => ?_) (fun z => absurd c4 z)
    refine eg_k_aload rfl rfl ?_
    refine eg_k_iload rfl rfl ?_
    obtain ⟨r6, h5, hx⟩ := vb_bind hx
    refine eg_k_call (c1 := 0) (z1 := 0) (as := [.inl r2]) (rest := [.inr (.inr (some 7))]) rfl eg_tj38 (Nat.le_of_ble_eq_true rfl) rfl rfl trivial (Nat.le_of_ble_eq_true rfl) (Nat.le_refl _) (Nat.le_refl _) ?_ (fun Q hQ => ft_38 h5 hQ)
    refine eg_k_iload rfl rfl ?_
    obtain ⟨m10, h8, hx⟩ := vb_bind hx
    refine eg_k_call (c1 := 0) (z1 := 0) (as := [.inr (.inr (some 7)), .inr (.inl r6), .inl a]) (rest := []) rfl eg_tj45 (Nat.le_of_ble_eq_true rfl) rfl rfl rfl (Nat.le_of_ble_eq_true rfl) (Nat.le_refl _) (Nat.le_refl _) ?_ (fun Q hQ => ft_45 h8 hQ)
    have hx := Option.some.inj hx
    subst hx
    exact eg_k_ret rfl rfl (Nat.le_refl _) (Nat.le_refl _) hK
  · refine eg_k_aload rfl rfl ?_
    obtain ⟨r12, h11, hx⟩ := vb_bind hx
    refine eg_k_call (c1 := 0) (z1 := 0) (as := [.inr (.inr (some 7))]) (rest := []) rfl eg_tj37 (Nat.le_of_ble_eq_true rfl) rfl rfl rfl (Nat.le_of_ble_eq_true rfl) (Nat.le_refl _) (Nat.le_refl _) ?_ (fun Q hQ => ft_37 h11 hQ)
    refine vk_if rfl hx Iff.rfl (fun c14 hx => ?_) (fun c14 hx => ?_)
    · refine eg_k_iload rfl rfl ?_
      refine eg_k_if rfl (fun z => absurd z c4) (fun _ => ?_)
      refine eg_k_aload rfl rfl ?_
      refine eg_k_ci rfl ?_
      refine eg_k_aload rfl rfl ?_
      refine eg_k_gfi rfl rfl rfl ?_
      obtain ⟨m17, h15, hx⟩ := vb_bind hx
      refine eg_k_call (c1 := 0) (z1 := 0) (as := [.inr (.inr (some 7)), .inl 2, .inl (M 7 7)]) (rest := []) rfl eg_tj35 (Nat.le_of_ble_eq_true rfl) rfl rfl rfl (Nat.le_of_ble_eq_true rfl) (Nat.le_refl _) (Nat.le_refl _) ?_ (fun Q hQ => ft_35 h15 hQ)
      refine eg_k_goto rfl ?_
      have hx := Option.some.inj hx
      subst hx
      exact eg_k_ret rfl rfl (Nat.le_refl _) (Nat.le_refl _) hK
    · refine eg_k_aload rfl rfl ?_
      refine eg_k_gfr rfl rfl rfl eh_r7_0 ?_
      refine eg_k_aload rfl rfl ?_
      refine eg_k_gfa rfl rfl rfl eh_r7_1 ?_
      refine eg_k_aload rfl rfl ?_
      refine eg_k_gfi rfl rfl rfl ?_
      refine eg_k_iload rfl rfl ?_
      obtain ⟨r19, h18, hx⟩ := vb_bind hx
      refine eg_k_call (c1 := 0) (z1 := 0) (as := [.inr (.inr (some 1)), .inr (.inr (some 8)), .inl (M 7 7), .inl a]) (rest := []) rfl eg_tj53 (Nat.le_of_ble_eq_true rfl) rfl rfl rfl (Nat.le_of_ble_eq_true rfl) (Nat.le_refl _) (Nat.le_refl _) ?_ (fun Q hQ => ft_53 h18 hQ)
      refine eg_k_istore (lv' := [some (.inr (.inr (some 7))), some (.inl a), some (.inl r19.1)]) rfl rfl ?_
      refine eg_k_iload rfl rfl ?_
      refine vk_if rfl hx Iff.rfl (fun c21 hx => ?_) (fun c21 hx => ?_)
      · refine eg_k_aload rfl rfl ?_
        refine eg_k_iload rfl rfl ?_
        obtain ⟨r23, h22, hx⟩ := vb_bind hx
        refine eg_k_call (c1 := 0) (z1 := 0) (as := [.inl r19.1]) (rest := [.inr (.inr (some 7))]) rfl eg_tj38 (Nat.le_of_ble_eq_true rfl) rfl rfl trivial (Nat.le_of_ble_eq_true rfl) (Nat.le_refl _) (Nat.le_refl _) ?_ (fun Q hQ => ft_38 h22 hQ)
        refine eg_k_iload rfl rfl ?_
        obtain ⟨m27, h25, hx⟩ := vb_bind hx
        refine eg_k_call (c1 := 0) (z1 := 0) (as := [.inr (.inr (some 7)), .inr (.inl r23), .inl a]) (rest := []) rfl eg_tj45 (Nat.le_of_ble_eq_true rfl) rfl rfl rfl (Nat.le_of_ble_eq_true rfl) (Nat.le_refl _) (Nat.le_refl _) ?_ (fun Q hQ => ft_45 h25 hQ)
        have hx := Option.some.inj hx
        subst hx
        exact eg_k_ret rfl rfl (Nat.le_refl _) (Nat.le_refl _) hK
      · refine eg_k_aload rfl rfl ?_
        refine eg_k_ci rfl ?_
        refine eg_k_aload rfl rfl ?_
        refine eg_k_gfi rfl rfl rfl ?_
        obtain ⟨m30, h28, hx⟩ := vb_bind hx
        refine eg_k_call (c1 := 0) (z1 := 0) (as := [.inr (.inr (some 7)), .inl 2, .inl (r19.2 7 7)]) (rest := []) rfl eg_tj35 (Nat.le_of_ble_eq_true rfl) rfl rfl rfl (Nat.le_of_ble_eq_true rfl) (Nat.le_refl _) (Nat.le_refl _) ?_ (fun Q hQ => ft_35 h28 hQ)
        refine eg_k_goto rfl ?_
        have hx := Option.some.inj hx
        subst hx
        exact eg_k_ret rfl rfl (Nat.le_refl _) (Nat.le_refl _) hK
theorem fw_50 {M : eM} {c : Nat} {a : Int} {x : eM} (hx : fn_50 a M = some x) (hc : c ∉ ([1, 2, 3, 4, 5, 6, 7, 9] : List Nat)) (j : Nat) : x c j = M c j := by
  obtain ⟨v, hK⟩ : ∃ v, x c j = v := ⟨_, rfl⟩
  rw [hK]
  refine Eq.symm ?_
  obtain ⟨r2, h1, hx⟩ := vb_bind hx
  refine vb_ite hx (fun _ hx => ?_) (fun _ hx => ?_)
  · obtain ⟨r6, h5, hx⟩ := vb_bind hx
    obtain ⟨m10, h8, hx⟩ := vb_bind hx
    have hx := Option.some.inj hx
    subst hx
    exact ((fw_45 h8 (vsub hc (by decide)) j).trans rfl).symm.trans hK
  · obtain ⟨r12, h11, hx⟩ := vb_bind hx
    refine vb_ite hx (fun _ hx => ?_) (fun _ hx => ?_)
    · obtain ⟨m17, h15, hx⟩ := vb_bind hx
      have hx := Option.some.inj hx
      subst hx
      exact ((fw_35 h15 (vsub hc (by decide)) j).trans rfl).symm.trans hK
    · obtain ⟨r19, h18, hx⟩ := vb_bind hx
      refine vb_ite hx (fun _ hx => ?_) (fun _ hx => ?_)
      · obtain ⟨r23, h22, hx⟩ := vb_bind hx
        obtain ⟨m27, h25, hx⟩ := vb_bind hx
        have hx := Option.some.inj hx
        subst hx
        exact ((fw_45 h25 (vsub hc (by decide)) j).trans ((fw_53 h18 (vsub hc (by decide)) j).trans rfl)).symm.trans hK
      · obtain ⟨m30, h28, hx⟩ := vb_bind hx
        have hx := Option.some.inj hx
        subst hx
        exact ((fw_35 h28 (vsub hc (by decide)) j).trans ((fw_53 h18 (vsub hc (by decide)) j).trans rfl)).symm.trans hK
noncomputable def fn_46_40 (x1 : Int) (x2 : Int) (y0 : Int) (M : eM) : Option (eM) :=
  (fn_47 y0 x1 M).bind fun r6 =>
  if r6 = 0 then
    (fn_43 (M 7 7) M).bind fun r10 =>
    if ¬ r10 = 0 then
      (fn_35 1 (M 7 7) M).bind fun m15 =>
      some m15
    else
      if (eg_wi (x1 - (M 7 7))) ≤ 20 then
        (fn_50 x1 M).bind fun m19 =>
        some m19
      else
        (fn_35 1 (M 7 7) M).bind fun m22 =>
        some m22
  else
    (fn_48 x2 x1 M).bind fun m25 =>
    some m25
noncomputable def fn_46_29 (x1 : Int) (y0 : Int) (M : eM) : Option (eM) :=
  if y0 = 0 then
    fn_46_40 x1 y0 (M 7 7) M
  else
    fn_46_40 x1 y0 (eg_wi ((M 7 7) + 1)) M
noncomputable def fn_46_28 (x1 : Int) (M : eM) : Option (eM) :=
  fn_46_29 x1 0 M
noncomputable def fn_46_13 (x1 : Int) (M : eM) : Option (eM) :=
  if 0 ≤ (M 7 7) ∧ (M 7 7) < 3000 then
  if ¬ (M 8 (M 7 7).toNat) = 45 then
      fn_46_28 x1 M
    else
      if (eg_wi (x1 - (M 7 7))) ≤ 1 then
        fn_46_28 x1 M
      else
        fn_46_29 x1 1 M
  else none
noncomputable def fn_46_3 (M : eM) (s : Int) : Option ((Int) ⊕ (eM)) :=
  if (M 7 6) ≤ s then
    (fn_46_13 s M).map Sum.inr
  else
    (fn_42 s M).bind fun r28 =>
    if r28 = 0 then
      (fn_46_13 s M).map Sum.inr
    else
      some (.inl (eg_wi (s + 1)))
/-- 46: WeakScheme$Reader.readWord()V -/
noncomputable def fn_46 (M : eM) : Option (eM) :=
  lp (fn_46_3 M) (M 7 7)
set_option maxRecDepth 100000 in
theorem ft_46_40 {cn mo : Nat} {sc : eg_Sc} {d : Nat} {M : eM} {Q : Option eg_V → eg_H → Prop} {x1 : Int} {x2 : Int} {y0 : Int} {x : eM} (hx : fn_46_40 x1 x2 y0 M = some x) (hK : (fun (x : eM) => Q (none) (em_L cn mo, eh_R, x)) x) : eg_X sc (eg_wp sc (d + 4)) eg_p46 none 0 0 Q 40 [some (.inr (.inr (some 7))), some (.inl x1), some (.inl x2)] [.inl y0, .inr (.inr (some 7))] (em_L cn mo, eh_R, M) 0 0 := by
  refine eg_k_iload rfl rfl ?_
  obtain ⟨r6, h5, hx⟩ := vb_bind hx
  refine eg_k_call (c1 := 0) (z1 := 0) (as := [.inr (.inr (some 7)), .inl y0, .inl x1]) (rest := []) rfl eg_tj47 (Nat.le_of_ble_eq_true rfl) rfl rfl rfl (Nat.le_of_ble_eq_true rfl) (Nat.le_refl _) (Nat.le_refl _) ?_ (fun Q hQ => ft_47 h5 hQ)
  refine vk_if rfl hx Iff.rfl (fun c8 hx => ?_) (fun c8 hx => ?_)
  · refine eg_k_aload rfl rfl ?_
    refine eg_k_aload rfl rfl ?_
    refine eg_k_gfi rfl rfl rfl ?_
    obtain ⟨r10, h9, hx⟩ := vb_bind hx
    refine eg_k_call (c1 := 0) (z1 := 0) (as := [.inr (.inr (some 7)), .inl (M 7 7)]) (rest := []) rfl eg_tj43 (Nat.le_of_ble_eq_true rfl) rfl rfl rfl (Nat.le_of_ble_eq_true rfl) (Nat.le_refl _) (Nat.le_refl _) ?_ (fun Q hQ => ft_43 h9 hQ)
    refine vk_if rfl hx Iff.rfl (fun c12 hx => ?_) (fun c12 hx => ?_)
    · refine eg_k_aload rfl rfl ?_
      refine eg_k_ci rfl ?_
      refine eg_k_aload rfl rfl ?_
      refine eg_k_gfi rfl rfl rfl ?_
      obtain ⟨m15, h13, hx⟩ := vb_bind hx
      refine eg_k_call (c1 := 0) (z1 := 0) (as := [.inr (.inr (some 7)), .inl 1, .inl (M 7 7)]) (rest := []) rfl eg_tj35 (Nat.le_of_ble_eq_true rfl) rfl rfl rfl (Nat.le_of_ble_eq_true rfl) (Nat.le_refl _) (Nat.le_refl _) ?_ (fun Q hQ => ft_35 h13 hQ)
      refine eg_k_goto rfl ?_
      have hx := Option.some.inj hx
      subst hx
      exact eg_k_ret rfl rfl (Nat.le_refl _) (Nat.le_refl _) hK
    · refine eg_k_iload rfl rfl ?_
      refine eg_k_aload rfl rfl ?_
      refine eg_k_gfi rfl rfl rfl ?_
      refine eg_k_isub rfl ?_
      refine eg_k_ci rfl ?_
      refine vk_icmp rfl hx Iff.rfl (fun c16 hx => ?_) (fun c16 hx => ?_)
      · refine eg_k_aload rfl rfl ?_
        refine eg_k_iload rfl rfl ?_
        obtain ⟨m19, h17, hx⟩ := vb_bind hx
        refine eg_k_call (c1 := 0) (z1 := 0) (as := [.inr (.inr (some 7)), .inl x1]) (rest := []) rfl eg_tj50 (Nat.le_of_ble_eq_true rfl) rfl rfl rfl (Nat.le_of_ble_eq_true rfl) (Nat.le_refl _) (Nat.le_refl _) ?_ (fun Q hQ => ft_50 h17 hQ)
        have hx := Option.some.inj hx
        subst hx
        exact eg_k_ret rfl rfl (Nat.le_refl _) (Nat.le_refl _) hK
      · refine eg_k_aload rfl rfl ?_
        refine eg_k_ci rfl ?_
        refine eg_k_aload rfl rfl ?_
        refine eg_k_gfi rfl rfl rfl ?_
        obtain ⟨m22, h20, hx⟩ := vb_bind hx
        refine eg_k_call (c1 := 0) (z1 := 0) (as := [.inr (.inr (some 7)), .inl 1, .inl (M 7 7)]) (rest := []) rfl eg_tj35 (Nat.le_of_ble_eq_true rfl) rfl rfl rfl (Nat.le_of_ble_eq_true rfl) (Nat.le_refl _) (Nat.le_refl _) ?_ (fun Q hQ => ft_35 h20 hQ)
        refine eg_k_goto rfl ?_
        have hx := Option.some.inj hx
        subst hx
        exact eg_k_ret rfl rfl (Nat.le_refl _) (Nat.le_refl _) hK
  · refine eg_k_aload rfl rfl ?_
    refine eg_k_iload rfl rfl ?_
    refine eg_k_iload rfl rfl ?_
    obtain ⟨m25, h23, hx⟩ := vb_bind hx
    refine eg_k_call (c1 := 0) (z1 := 0) (as := [.inr (.inr (some 7)), .inl x2, .inl x1]) (rest := []) rfl eg_tj48 (Nat.le_of_ble_eq_true rfl) rfl rfl rfl (Nat.le_of_ble_eq_true rfl) (Nat.le_refl _) (Nat.le_refl _) ?_ (fun Q hQ => ft_48 h23 hQ)
    refine eg_k_goto rfl ?_
    have hx := Option.some.inj hx
    subst hx
    exact eg_k_ret rfl rfl (Nat.le_refl _) (Nat.le_refl _) hK
set_option maxRecDepth 100000 in
theorem ft_46_29 {cn mo : Nat} {sc : eg_Sc} {d : Nat} {M : eM} {Q : Option eg_V → eg_H → Prop} {x1 : Int} {y0 : Int} {x : eM} (hx : fn_46_29 x1 y0 M = some x) (hK : (fun (x : eM) => Q (none) (em_L cn mo, eh_R, x)) x) : ∀ (w2 : Option eg_V), eg_X sc (eg_wp sc (d + 4)) eg_p46 none 0 0 Q 29 [some (.inr (.inr (some 7))), some (.inl x1), w2] [.inl y0] (em_L cn mo, eh_R, M) 0 0 := by
  intro w2
  refine eg_k_istore (lv' := [some (.inr (.inr (some 7))), some (.inl x1), some (.inl y0)]) rfl rfl ?_
  refine eg_k_aload rfl rfl ?_
  refine eg_k_iload rfl rfl ?_
  refine vk_if rfl hx Iff.rfl (fun c4 hx => ?_) (fun c4 hx => ?_)
  · refine eg_k_aload rfl rfl ?_
    refine eg_k_gfi rfl rfl rfl ?_
    have hz := ft_46_40 (d := d) (sc := sc) hx hK
    exact hz
  · refine eg_k_aload rfl rfl ?_
    refine eg_k_gfi rfl rfl rfl ?_
    refine eg_k_ci rfl ?_
    refine eg_k_iadd rfl ?_
    refine eg_k_goto rfl ?_
    have hz := ft_46_40 (d := d) (sc := sc) hx hK
    exact hz
set_option maxRecDepth 100000 in
theorem ft_46_28 {cn mo : Nat} {sc : eg_Sc} {d : Nat} {M : eM} {Q : Option eg_V → eg_H → Prop} {x1 : Int} {x : eM} (hx : fn_46_28 x1 M = some x) (hK : (fun (x : eM) => Q (none) (em_L cn mo, eh_R, x)) x) : ∀ (w2 : Option eg_V), eg_X sc (eg_wp sc (d + 4)) eg_p46 none 0 0 Q 28 [some (.inr (.inr (some 7))), some (.inl x1), w2] [] (em_L cn mo, eh_R, M) 0 0 := by
  intro w2
  refine eg_k_ci rfl ?_
  have hz := ft_46_29 (d := d) (sc := sc) hx hK
  exact hz w2
set_option maxRecDepth 100000 in
theorem ft_46_13 {cn mo : Nat} {sc : eg_Sc} {d : Nat} {M : eM} {Q : Option eg_V → eg_H → Prop} {x1 : Int} {x : eM} (hx : fn_46_13 x1 M = some x) (hK : (fun (x : eM) => Q (none) (em_L cn mo, eh_R, x)) x) : ∀ (w2 : Option eg_V), eg_X sc (eg_wp sc (d + 4)) eg_p46 none 0 0 Q 13 [some (.inr (.inr (some 7))), some (.inl x1), w2] [] (em_L cn mo, eh_R, M) 0 0 := by
  intro w2
  refine eg_k_aload rfl rfl ?_
  refine eg_k_gfa rfl rfl rfl eh_r7_1 ?_
  refine eg_k_aload rfl rfl ?_
  refine eg_k_gfi rfl rfl rfl ?_
  obtain ⟨b2, hx⟩ := vb_if hx
  refine eg_k_bald (k := 3000) rfl rfl b2.1 b2.2 ?_
  refine eg_k_ci rfl ?_
  refine vk_icmp rfl hx Iff.rfl (fun c3 hx => ?_) (fun c3 hx => ?_)
  · have hz := ft_46_28 (d := d) (sc := sc) hx hK
    exact hz w2
  · refine eg_k_iload rfl rfl ?_
    refine eg_k_aload rfl rfl ?_
    refine eg_k_gfi rfl rfl rfl ?_
    refine eg_k_isub rfl ?_
    refine eg_k_ci rfl ?_
    refine vk_icmp rfl hx Iff.rfl (fun c26 hx => ?_) (fun c26 hx => ?_)
    · have hz := ft_46_28 (d := d) (sc := sc) hx hK
      exact hz w2
    · refine eg_k_ci rfl ?_
      refine eg_k_goto rfl ?_
      have hz := ft_46_29 (d := d) (sc := sc) hx hK
      exact hz w2
set_option maxRecDepth 100000 in
theorem ft_46_3 {cn mo : Nat} {sc : eg_Sc} {d : Nat} {M : eM} {Q : Option eg_V → eg_H → Prop} {s : Int} {x : eM} (hx : lp (fn_46_3 M) s = some x) (hK : (fun (x : eM) => Q (none) (em_L cn mo, eh_R, x)) x) : ∀ (w2 : Option eg_V), eg_X sc (eg_wp sc (d + 4)) eg_p46 none 0 0 Q 3 [some (.inr (.inr (some 7))), some (.inl s), w2] [] (em_L cn mo, eh_R, M) 0 0 := by
  refine lp_sound (P := (fun (s : Int) => ∀ (w2 : Option eg_V), eg_X sc (eg_wp sc (d + 4)) eg_p46 none 0 0 Q 3 [some (.inr (.inr (some 7))), some (.inl s), w2] [] (em_L cn mo, eh_R, M) 0 0)) (K := (fun (x : eM) => Q (none) (em_L cn mo, eh_R, x))) hx hK ?_
  intro s x hx hK w2
  refine eg_k_iload rfl rfl ?_
  refine eg_k_aload rfl rfl ?_
  refine eg_k_gfi rfl rfl rfl ?_
  refine vk_icmp rfl hx Iff.rfl (fun c1 hx => ?_) (fun c1 hx => ?_)
  · obtain ⟨x, hy, e9⟩ := vb_map hx
    clear hx
    subst e9
    have hx := hy
    clear hy
    have hz := ft_46_13 (d := d) (sc := sc) hx hK
    exact hz w2
  · refine eg_k_aload rfl rfl ?_
    refine eg_k_iload rfl rfl ?_
    obtain ⟨r28, h27, hx⟩ := vb_bind hx
    refine eg_k_call (c1 := 0) (z1 := 0) (as := [.inr (.inr (some 7)), .inl s]) (rest := []) rfl eg_tj42 (Nat.le_of_ble_eq_true rfl) rfl rfl rfl (Nat.le_of_ble_eq_true rfl) (Nat.le_refl _) (Nat.le_refl _) ?_ (fun Q hQ => ft_42 h27 hQ)
    refine vk_if rfl hx Iff.rfl (fun c30 hx => ?_) (fun c30 hx => ?_)
    · obtain ⟨x, hy, e9⟩ := vb_map hx
      clear hx
      subst e9
      have hx := hy
      clear hy
      have hz := ft_46_13 (d := d) (sc := sc) hx hK
      exact hz w2
    · refine eg_k_iinc (lv' := [some (.inr (.inr (some 7))), some (.inl (eg_wi (s + 1))), w2]) rfl rfl rfl ?_
      refine eg_k_goto rfl ?_
      have hx := Option.some.inj hx
      subst hx
      exact hK w2
set_option maxRecDepth 100000 in
theorem ft_46 {cn mo : Nat} {sc : eg_Sc} {d : Nat} {M : eM} {Q : Option eg_V → eg_H → Prop} {x : eM} (hx : fn_46 M = some x) (hK : Q (none) (em_L cn mo, eh_R, x)) : eg_wp sc (d + 5) 46 [.inr (.inr (some 7))] (em_L cn mo, eh_R, M) 0 0 Q := by
  refine eg_in (lv := [some (.inr (.inr (some 7))), none, none]) eg_tj46 (Nat.le_of_ble_eq_true rfl) rfl ?_
  refine eg_k_aload rfl rfl ?_
  refine eg_k_gfi rfl rfl rfl ?_
  refine eg_k_istore (lv' := [some (.inr (.inr (some 7))), some (.inl (M 7 7)), none]) rfl rfl ?_
  have hz := ft_46_3 (d := d) (sc := sc) hx hK
  exact hz none
theorem fw_46_40 {M : eM} {c j : Nat} {v : Int} {x1 : Int} {x2 : Int} {y0 : Int} {x : eM} (hc : c ∉ ([1, 2, 3, 4, 5, 6, 7, 9] : List Nat)) (hx : fn_46_40 x1 x2 y0 M = some x) (hK : (fun (x : eM) => x c j = v) x) : M c j = v := by
  obtain ⟨r6, h5, hx⟩ := vb_bind hx
  refine vb_ite hx (fun _ hx => ?_) (fun _ hx => ?_)
  · obtain ⟨r10, h9, hx⟩ := vb_bind hx
    refine vb_ite hx (fun _ hx => ?_) (fun _ hx => ?_)
    · obtain ⟨m15, h13, hx⟩ := vb_bind hx
      have hx := Option.some.inj hx
      subst hx
      exact ((fw_35 h13 (vsub hc (by decide)) j).trans rfl).symm.trans hK
    · refine vb_ite hx (fun _ hx => ?_) (fun _ hx => ?_)
      · obtain ⟨m19, h17, hx⟩ := vb_bind hx
        have hx := Option.some.inj hx
        subst hx
        exact ((fw_50 h17 (vsub hc (by decide)) j).trans rfl).symm.trans hK
      · obtain ⟨m22, h20, hx⟩ := vb_bind hx
        have hx := Option.some.inj hx
        subst hx
        exact ((fw_35 h20 (vsub hc (by decide)) j).trans rfl).symm.trans hK
  · obtain ⟨m25, h23, hx⟩ := vb_bind hx
    have hx := Option.some.inj hx
    subst hx
    exact ((fw_48 h23 (vsub hc (by decide)) j).trans rfl).symm.trans hK
theorem fw_46_29 {M : eM} {c j : Nat} {v : Int} {x1 : Int} {y0 : Int} {x : eM} (hc : c ∉ ([1, 2, 3, 4, 5, 6, 7, 9] : List Nat)) (hx : fn_46_29 x1 y0 M = some x) (hK : (fun (x : eM) => x c j = v) x) : M c j = v := by
  refine vb_ite hx (fun _ hx => ?_) (fun _ hx => ?_)
  · have hz := fw_46_40 hc hx hK
    exact (Eq.refl _).symm.trans hz
  · have hz := fw_46_40 hc hx hK
    exact (Eq.refl _).symm.trans hz
theorem fw_46_28 {M : eM} {c j : Nat} {v : Int} {x1 : Int} {x : eM} (hc : c ∉ ([1, 2, 3, 4, 5, 6, 7, 9] : List Nat)) (hx : fn_46_28 x1 M = some x) (hK : (fun (x : eM) => x c j = v) x) : M c j = v := by
  have hz := fw_46_29 hc hx hK
  exact (Eq.refl _).symm.trans hz
theorem fw_46_13 {M : eM} {c j : Nat} {v : Int} {x1 : Int} {x : eM} (hc : c ∉ ([1, 2, 3, 4, 5, 6, 7, 9] : List Nat)) (hx : fn_46_13 x1 M = some x) (hK : (fun (x : eM) => x c j = v) x) : M c j = v := by
  obtain ⟨_, hx⟩ := vb_if hx
  refine vb_ite hx (fun _ hx => ?_) (fun _ hx => ?_)
  · have hz := fw_46_28 hc hx hK
    exact (Eq.refl _).symm.trans hz
  · refine vb_ite hx (fun _ hx => ?_) (fun _ hx => ?_)
    · have hz := fw_46_28 hc hx hK
      exact (Eq.refl _).symm.trans hz
    · have hz := fw_46_29 hc hx hK
      exact (Eq.refl _).symm.trans hz
theorem fw_46_3 {M : eM} {c j : Nat} {v : Int} {s : Int} {x : eM} (hc : c ∉ ([1, 2, 3, 4, 5, 6, 7, 9] : List Nat)) (hx : lp (fn_46_3 M) s = some x) (hK : (fun (x : eM) => x c j = v) x) : M c j = v := by
  refine lp_sound (P := (fun (s : Int) => M c j = v)) (K := (fun (x : eM) => x c j = v)) hx hK ?_
  intro s x hx hK
  refine vb_ite hx (fun _ hx => ?_) (fun _ hx => ?_)
  · obtain ⟨x, hy, e9⟩ := vb_map hx
    clear hx
    subst e9
    have hx := hy
    clear hy
    have hz := fw_46_13 hc hx hK
    exact (Eq.refl _).symm.trans hz
  · obtain ⟨r28, h27, hx⟩ := vb_bind hx
    refine vb_ite hx (fun _ hx => ?_) (fun _ hx => ?_)
    · obtain ⟨x, hy, e9⟩ := vb_map hx
      clear hx
      subst e9
      have hx := hy
      clear hy
      have hz := fw_46_13 hc hx hK
      exact (Eq.refl _).symm.trans hz
    · have hx := Option.some.inj hx
      subst hx
      exact hK
theorem fw_46 {M : eM} {c : Nat} {x : eM} (hx : fn_46 M = some x) (hc : c ∉ ([1, 2, 3, 4, 5, 6, 7, 9] : List Nat)) (j : Nat) : x c j = M c j := by
  obtain ⟨v, hK⟩ : ∃ v, x c j = v := ⟨_, rfl⟩
  rw [hK]
  refine Eq.symm ?_
  have hz := fw_46_3 hc hx hK
  exact (Eq.refl _).symm.trans hz
/-- 32: WeakScheme$Reader.readToken()V -/
noncomputable def fn_32 (M : eM) : Option (eM) :=
  if 0 ≤ (M 7 7) ∧ (M 7 7) < 3000 then
  if (M 8 (M 7 7).toNat) = 10 then
      some (eg_u M 7 7 (eg_wi ((M 7 7) + 1)))
    else
      if ¬ (M 8 (M 7 7).toNat) = 32 then
        if ¬ (M 8 (M 7 7).toNat) = 59 then
          if ¬ (M 8 (M 7 7).toNat) = 40 then
            if ¬ (M 8 (M 7 7).toNat) = 39 then
              if ¬ (M 8 (M 7 7).toNat) = 41 then
                if ¬ (M 8 (M 7 7).toNat) = 35 then
                  (fn_42 (M 7 7) M).bind fun r10 =>
                  if r10 = 0 then
                    (fn_35 1 (M 7 7) M).bind fun m15 =>
                    some m15
                  else
                    (fn_46 M).bind fun m18 =>
                    some m18
                else
                  (fn_41 M).bind fun m21 =>
                  some m21
              else
                (fn_39 M).bind fun m24 =>
                some m24
            else
              (fn_34 1 M).bind fun m27 =>
              some m27
          else
            (fn_34 0 M).bind fun m30 =>
            some m30
        else
          (fn_33 M).bind fun m33 =>
          some m33
      else
        some (eg_u M 7 7 (eg_wi ((M 7 7) + 1)))
  else none
set_option maxRecDepth 100000 in
theorem ft_32 {cn mo : Nat} {sc : eg_Sc} {d : Nat} {M : eM} {Q : Option eg_V → eg_H → Prop} {x : eM} (hx : fn_32 M = some x) (hK : Q (none) (em_L cn mo, eh_R, x)) : eg_wp sc (d + 6) 32 [.inr (.inr (some 7))] (em_L cn mo, eh_R, M) 0 0 Q := by
  refine eg_in (lv := [some (.inr (.inr (some 7))), none]) eg_tj32 (Nat.le_of_ble_eq_true rfl) rfl ?_
  refine eg_k_aload rfl rfl ?_
  refine eg_k_gfa rfl rfl rfl eh_r7_1 ?_
  refine eg_k_aload rfl rfl ?_
  refine eg_k_gfi rfl rfl rfl ?_
  obtain ⟨b1, hx⟩ := vb_if hx
  refine eg_k_bald (k := 3000) rfl rfl b1.1 b1.2 ?_
  refine eg_k_istore (lv' := [some (.inr (.inr (some 7))), some (.inl (M 8 (M 7 7).toNat))]) rfl rfl ?_
  refine eg_k_iload rfl rfl ?_
  refine eg_k_ci rfl ?_
  refine vk_icmp rfl hx Iff.rfl (fun c2 hx => ?_) (fun c2 hx => ?_)
  · refine eg_k_aload rfl rfl ?_
    refine eg_k_dupr rfl ?_
    refine eg_k_gfi rfl rfl rfl ?_
    refine eg_k_ci rfl ?_
    refine eg_k_iadd rfl ?_
    refine eg_k_pfi rfl rfl rfl ?_
    refine eg_k_goto rfl ?_
    have hx := Option.some.inj hx
    subst hx
    exact eg_k_ret rfl rfl (Nat.le_refl _) (Nat.le_refl _) hK
  · refine eg_k_iload rfl rfl ?_
    refine eg_k_ci rfl ?_
    refine vk_icmp rfl hx Iff.rfl (fun c3 hx => ?_) (fun c3 hx => ?_)
    · refine eg_k_iload rfl rfl ?_
      refine eg_k_ci rfl ?_
      refine vk_icmp rfl hx Iff.rfl (fun c4 hx => ?_) (fun c4 hx => ?_)
      · refine eg_k_iload rfl rfl ?_
        refine eg_k_ci rfl ?_
        refine vk_icmp rfl hx Iff.rfl (fun c5 hx => ?_) (fun c5 hx => ?_)
        · refine eg_k_iload rfl rfl ?_
          refine eg_k_ci rfl ?_
          refine vk_icmp rfl hx Iff.rfl (fun c6 hx => ?_) (fun c6 hx => ?_)
          · refine eg_k_iload rfl rfl ?_
            refine eg_k_ci rfl ?_
            refine vk_icmp rfl hx Iff.rfl (fun c7 hx => ?_) (fun c7 hx => ?_)
            · refine eg_k_iload rfl rfl ?_
              refine eg_k_ci rfl ?_
              refine vk_icmp rfl hx Iff.rfl (fun c8 hx => ?_) (fun c8 hx => ?_)
              · refine eg_k_aload rfl rfl ?_
                refine eg_k_aload rfl rfl ?_
                refine eg_k_gfi rfl rfl rfl ?_
                obtain ⟨r10, h9, hx⟩ := vb_bind hx
                refine eg_k_call (c1 := 0) (z1 := 0) (as := [.inr (.inr (some 7)), .inl (M 7 7)]) (rest := []) rfl eg_tj42 (Nat.le_of_ble_eq_true rfl) rfl rfl rfl (Nat.le_of_ble_eq_true rfl) (Nat.le_refl _) (Nat.le_refl _) ?_ (fun Q hQ => ft_42 h9 hQ)
                refine vk_if rfl hx Iff.rfl (fun c12 hx => ?_) (fun c12 hx => ?_)
                · refine eg_k_aload rfl rfl ?_
                  refine eg_k_ci rfl ?_
                  refine eg_k_aload rfl rfl ?_
                  refine eg_k_gfi rfl rfl rfl ?_
                  obtain ⟨m15, h13, hx⟩ := vb_bind hx
                  refine eg_k_call (c1 := 0) (z1 := 0) (as := [.inr (.inr (some 7)), .inl 1, .inl (M 7 7)]) (rest := []) rfl eg_tj35 (Nat.le_of_ble_eq_true rfl) rfl rfl rfl (Nat.le_of_ble_eq_true rfl) (Nat.le_refl _) (Nat.le_refl _) ?_ (fun Q hQ => ft_35 h13 hQ)
                  have hx := Option.some.inj hx
                  subst hx
                  exact eg_k_ret rfl rfl (Nat.le_refl _) (Nat.le_refl _) hK
                · refine eg_k_aload rfl rfl ?_
                  obtain ⟨m18, h16, hx⟩ := vb_bind hx
                  refine eg_k_call (c1 := 0) (z1 := 0) (as := [.inr (.inr (some 7))]) (rest := []) rfl eg_tj46 (Nat.le_of_ble_eq_true rfl) rfl rfl rfl (Nat.le_of_ble_eq_true rfl) (Nat.le_refl _) (Nat.le_refl _) ?_ (fun Q hQ => ft_46 h16 hQ)
                  refine eg_k_goto rfl ?_
                  have hx := Option.some.inj hx
                  subst hx
                  exact eg_k_ret rfl rfl (Nat.le_refl _) (Nat.le_refl _) hK
              · refine eg_k_aload rfl rfl ?_
                obtain ⟨m21, h19, hx⟩ := vb_bind hx
                refine eg_k_call (c1 := 0) (z1 := 0) (as := [.inr (.inr (some 7))]) (rest := []) rfl eg_tj41 (Nat.le_of_ble_eq_true rfl) rfl rfl rfl (Nat.le_of_ble_eq_true rfl) (Nat.le_refl _) (Nat.le_refl _) ?_ (fun Q hQ => ft_41 h19 hQ)
                refine eg_k_goto rfl ?_
                have hx := Option.some.inj hx
                subst hx
                exact eg_k_ret rfl rfl (Nat.le_refl _) (Nat.le_refl _) hK
            · refine eg_k_aload rfl rfl ?_
              obtain ⟨m24, h22, hx⟩ := vb_bind hx
              refine eg_k_call (c1 := 0) (z1 := 0) (as := [.inr (.inr (some 7))]) (rest := []) rfl eg_tj39 (Nat.le_of_ble_eq_true rfl) rfl rfl rfl (Nat.le_of_ble_eq_true rfl) (Nat.le_refl _) (Nat.le_refl _) ?_ (fun Q hQ => ft_39 h22 hQ)
              refine eg_k_goto rfl ?_
              have hx := Option.some.inj hx
              subst hx
              exact eg_k_ret rfl rfl (Nat.le_refl _) (Nat.le_refl _) hK
          · refine eg_k_aload rfl rfl ?_
            refine eg_k_ci rfl ?_
            obtain ⟨m27, h25, hx⟩ := vb_bind hx
            refine eg_k_call (c1 := 0) (z1 := 0) (as := [.inr (.inr (some 7)), .inl 1]) (rest := []) rfl eg_tj34 (Nat.le_of_ble_eq_true rfl) rfl rfl rfl (Nat.le_of_ble_eq_true rfl) (Nat.le_refl _) (Nat.le_refl _) ?_ (fun Q hQ => ft_34 h25 hQ)
            refine eg_k_goto rfl ?_
            have hx := Option.some.inj hx
            subst hx
            exact eg_k_ret rfl rfl (Nat.le_refl _) (Nat.le_refl _) hK
        · refine eg_k_aload rfl rfl ?_
          refine eg_k_ci rfl ?_
          obtain ⟨m30, h28, hx⟩ := vb_bind hx
          refine eg_k_call (c1 := 0) (z1 := 0) (as := [.inr (.inr (some 7)), .inl 0]) (rest := []) rfl eg_tj34 (Nat.le_of_ble_eq_true rfl) rfl rfl rfl (Nat.le_of_ble_eq_true rfl) (Nat.le_refl _) (Nat.le_refl _) ?_ (fun Q hQ => ft_34 h28 hQ)
          refine eg_k_goto rfl ?_
          have hx := Option.some.inj hx
          subst hx
          exact eg_k_ret rfl rfl (Nat.le_refl _) (Nat.le_refl _) hK
      · refine eg_k_aload rfl rfl ?_
        obtain ⟨m33, h31, hx⟩ := vb_bind hx
        refine eg_k_call (c1 := 0) (z1 := 0) (as := [.inr (.inr (some 7))]) (rest := []) rfl eg_tj33 (Nat.le_of_ble_eq_true rfl) rfl rfl rfl (Nat.le_of_ble_eq_true rfl) (Nat.le_refl _) (Nat.le_refl _) ?_ (fun Q hQ => ft_33 h31 hQ)
        refine eg_k_goto rfl ?_
        have hx := Option.some.inj hx
        subst hx
        exact eg_k_ret rfl rfl (Nat.le_refl _) (Nat.le_refl _) hK
    · refine eg_k_aload rfl rfl ?_
      refine eg_k_dupr rfl ?_
      refine eg_k_gfi rfl rfl rfl ?_
      refine eg_k_ci rfl ?_
      refine eg_k_iadd rfl ?_
      refine eg_k_pfi rfl rfl rfl ?_
      refine eg_k_goto rfl ?_
      have hx := Option.some.inj hx
      subst hx
      exact eg_k_ret rfl rfl (Nat.le_refl _) (Nat.le_refl _) hK
theorem fw_32 {M : eM} {c : Nat} {x : eM} (hx : fn_32 M = some x) (hc : c ∉ ([1, 2, 3, 4, 5, 6, 7, 9, 10, 11] : List Nat)) (j : Nat) : x c j = M c j := by
  obtain ⟨v, hK⟩ : ∃ v, x c j = v := ⟨_, rfl⟩
  rw [hK]
  refine Eq.symm ?_
  obtain ⟨_, hx⟩ := vb_if hx
  refine vb_ite hx (fun _ hx => ?_) (fun _ hx => ?_)
  · have hx := Option.some.inj hx
    subst hx
    exact ((congrFun (eg_u_ne (vne hc (a := 7) (by decide))) j).trans rfl).symm.trans hK
  · refine vb_ite hx (fun _ hx => ?_) (fun _ hx => ?_)
    · refine vb_ite hx (fun _ hx => ?_) (fun _ hx => ?_)
      · refine vb_ite hx (fun _ hx => ?_) (fun _ hx => ?_)
        · refine vb_ite hx (fun _ hx => ?_) (fun _ hx => ?_)
          · refine vb_ite hx (fun _ hx => ?_) (fun _ hx => ?_)
            · refine vb_ite hx (fun _ hx => ?_) (fun _ hx => ?_)
              · obtain ⟨r10, h9, hx⟩ := vb_bind hx
                refine vb_ite hx (fun _ hx => ?_) (fun _ hx => ?_)
                · obtain ⟨m15, h13, hx⟩ := vb_bind hx
                  have hx := Option.some.inj hx
                  subst hx
                  exact ((fw_35 h13 (vsub hc (by decide)) j).trans rfl).symm.trans hK
                · obtain ⟨m18, h16, hx⟩ := vb_bind hx
                  have hx := Option.some.inj hx
                  subst hx
                  exact ((fw_46 h16 (vsub hc (by decide)) j).trans rfl).symm.trans hK
              · obtain ⟨m21, h19, hx⟩ := vb_bind hx
                have hx := Option.some.inj hx
                subst hx
                exact ((fw_41 h19 (vsub hc (by decide)) j).trans rfl).symm.trans hK
            · obtain ⟨m24, h22, hx⟩ := vb_bind hx
              have hx := Option.some.inj hx
              subst hx
              exact ((fw_39 h22 (vsub hc (by decide)) j).trans rfl).symm.trans hK
          · obtain ⟨m27, h25, hx⟩ := vb_bind hx
            have hx := Option.some.inj hx
            subst hx
            exact ((fw_34 h25 (vsub hc (by decide)) j).trans rfl).symm.trans hK
        · obtain ⟨m30, h28, hx⟩ := vb_bind hx
          have hx := Option.some.inj hx
          subst hx
          exact ((fw_34 h28 (vsub hc (by decide)) j).trans rfl).symm.trans hK
      · obtain ⟨m33, h31, hx⟩ := vb_bind hx
        have hx := Option.some.inj hx
        subst hx
        exact ((fw_33 h31 (vsub hc (by decide)) j).trans rfl).symm.trans hK
    · have hx := Option.some.inj hx
      subst hx
      exact ((congrFun (eg_u_ne (vne hc (a := 7) (by decide))) j).trans rfl).symm.trans hK
noncomputable def fn_30_25 (x1 : Int) (s1 : Int) (s2 : eM) : Option ((Int × eM) ⊕ (eM)) :=
  if (s2 7 6) ≤ s1 then
    if ¬ (s2 7 4) = 0 then
      some (.inr s2)
    else
      if (s2 7 9) ≤ 0 then
        some (.inr s2)
      else
        (fn_35 1 (s2 7 6) s2).bind fun m6 =>
        some (.inr m6)
  else
    if (s2 7 6) ≤ (s2 7 7) then
      if ¬ (s2 7 4) = 0 then
        some (.inr s2)
      else
        if (s2 7 9) ≤ 0 then
          some (.inr s2)
        else
          (fn_35 1 (s2 7 6) s2).bind fun m12 =>
          some (.inr m12)
    else
      if ¬ (s2 7 4) = 0 then
        some (.inr s2)
      else
        (fn_32 s2).bind fun m16 =>
        some (.inl (eg_wi (s1 + 1), m16))
/-- 30: WeakScheme$Reader.read(I)V -/
noncomputable def fn_30 (a : Int) (M : eM) : Option (eM) :=
  lp (fun z => fn_30_25 a z.1 z.2) (0, eg_u (eg_u (eg_u (eg_u (eg_u (eg_u M 7 6 (if (M 7 2) < a then (M 7 2) else a)) 7 7 0) 7 8 (M 1 6)) 7 9 0) 7 4 0) 7 5 (-1))
set_option maxRecDepth 100000 in
theorem ft_30_25 {cn mo : Nat} {sc : eg_Sc} {d : Nat} {Q : Option eg_V → eg_H → Prop} {x1 : Int} {s : Int × eM} {x : eM} (hx : lp (fun z => fn_30_25 x1 z.1 z.2) s = some x) (hK : (fun (x : eM) => Q (none) (em_L cn mo, eh_R, x)) x) : eg_X sc (eg_wp sc (d + 6)) eg_p30 none 0 0 Q 25 [some (.inr (.inr (some 7))), some (.inl x1), some (.inl s.1)] [] (em_L cn mo, eh_R, s.2) 0 0 := by
  refine lp_sound (P := (fun (s : Int × eM) => eg_X sc (eg_wp sc (d + 6)) eg_p30 none 0 0 Q 25 [some (.inr (.inr (some 7))), some (.inl x1), some (.inl s.1)] [] (em_L cn mo, eh_R, s.2) 0 0)) (K := (fun (x : eM) => Q (none) (em_L cn mo, eh_R, x))) hx hK ?_
  intro s x hx hK
  obtain ⟨s1, s2⟩ := s
  refine eg_k_iload rfl rfl ?_
  refine eg_k_aload rfl rfl ?_
  refine eg_k_gfi rfl rfl rfl ?_
  refine vk_icmp rfl hx Iff.rfl (fun c1 hx => ?_) (fun c1 hx => ?_)
  · refine eg_k_aload rfl rfl ?_
    refine eg_k_gfi rfl rfl rfl ?_
    refine vk_if rfl hx Iff.rfl (fun c2 hx => ?_) (fun c2 hx => ?_)
    · have hx := Option.some.inj hx
      subst hx
      exact eg_k_ret rfl rfl (Nat.le_refl _) (Nat.le_refl _) hK
    · refine eg_k_aload rfl rfl ?_
      refine eg_k_gfi rfl rfl rfl ?_
      refine vk_if rfl hx Iff.rfl (fun c3 hx => ?_) (fun c3 hx => ?_)
      · have hx := Option.some.inj hx
        subst hx
        exact eg_k_ret rfl rfl (Nat.le_refl _) (Nat.le_refl _) hK
      · refine eg_k_aload rfl rfl ?_
        refine eg_k_ci rfl ?_
        refine eg_k_aload rfl rfl ?_
        refine eg_k_gfi rfl rfl rfl ?_
        obtain ⟨m6, h4, hx⟩ := vb_bind hx
        refine eg_k_call (c1 := 0) (z1 := 0) (as := [.inr (.inr (some 7)), .inl 1, .inl (s2 7 6)]) (rest := []) rfl eg_tj35 (Nat.le_of_ble_eq_true rfl) rfl rfl rfl (Nat.le_of_ble_eq_true rfl) (Nat.le_refl _) (Nat.le_refl _) ?_ (fun Q hQ => ft_35 h4 hQ)
        have hx := Option.some.inj hx
        subst hx
        exact eg_k_ret rfl rfl (Nat.le_refl _) (Nat.le_refl _) hK
  · refine eg_k_aload rfl rfl ?_
    refine eg_k_gfi rfl rfl rfl ?_
    refine eg_k_aload rfl rfl ?_
    refine eg_k_gfi rfl rfl rfl ?_
    refine vk_icmp rfl hx Iff.rfl (fun c7 hx => ?_) (fun c7 hx => ?_)
    · refine eg_k_aload rfl rfl ?_
      refine eg_k_gfi rfl rfl rfl ?_
      refine vk_if rfl hx Iff.rfl (fun c8 hx => ?_) (fun c8 hx => ?_)
      · have hx := Option.some.inj hx
        subst hx
        exact eg_k_ret rfl rfl (Nat.le_refl _) (Nat.le_refl _) hK
      · refine eg_k_aload rfl rfl ?_
        refine eg_k_gfi rfl rfl rfl ?_
        refine vk_if rfl hx Iff.rfl (fun c9 hx => ?_) (fun c9 hx => ?_)
        · have hx := Option.some.inj hx
          subst hx
          exact eg_k_ret rfl rfl (Nat.le_refl _) (Nat.le_refl _) hK
        · refine eg_k_aload rfl rfl ?_
          refine eg_k_ci rfl ?_
          refine eg_k_aload rfl rfl ?_
          refine eg_k_gfi rfl rfl rfl ?_
          obtain ⟨m12, h10, hx⟩ := vb_bind hx
          refine eg_k_call (c1 := 0) (z1 := 0) (as := [.inr (.inr (some 7)), .inl 1, .inl (s2 7 6)]) (rest := []) rfl eg_tj35 (Nat.le_of_ble_eq_true rfl) rfl rfl rfl (Nat.le_of_ble_eq_true rfl) (Nat.le_refl _) (Nat.le_refl _) ?_ (fun Q hQ => ft_35 h10 hQ)
          have hx := Option.some.inj hx
          subst hx
          exact eg_k_ret rfl rfl (Nat.le_refl _) (Nat.le_refl _) hK
    · refine eg_k_aload rfl rfl ?_
      refine eg_k_gfi rfl rfl rfl ?_
      refine vk_if rfl hx Iff.rfl (fun c13 hx => ?_) (fun c13 hx => ?_)
      · refine eg_k_aload rfl rfl ?_
        refine eg_k_gfi rfl rfl rfl ?_
        refine eg_k_if rfl (fun _ => ?_) (fun z => absurd c13 z)
        have hx := Option.some.inj hx
        subst hx
        exact eg_k_ret rfl rfl (Nat.le_refl _) (Nat.le_refl _) hK
      · refine eg_k_aload rfl rfl ?_
        obtain ⟨m16, h14, hx⟩ := vb_bind hx
        refine eg_k_call (c1 := 0) (z1 := 0) (as := [.inr (.inr (some 7))]) (rest := []) rfl eg_tj32 (Nat.le_of_ble_eq_true rfl) rfl rfl rfl (Nat.le_of_ble_eq_true rfl) (Nat.le_refl _) (Nat.le_refl _) ?_ (fun Q hQ => ft_32 h14 hQ)
        refine eg_k_iinc (lv' := [some (.inr (.inr (some 7))), some (.inl x1), some (.inl (eg_wi (s1 + 1)))]) rfl rfl rfl ?_
        refine eg_k_goto rfl ?_
        have hx := Option.some.inj hx
        subst hx
        exact hK
set_option maxRecDepth 100000 in
theorem ft_30 {cn mo : Nat} {sc : eg_Sc} {d : Nat} {M : eM} {Q : Option eg_V → eg_H → Prop} {a : Int} {x : eM} (hx : fn_30 a M = some x) (hK : Q (none) (em_L cn mo, eh_R, x)) : eg_wp sc (d + 7) 30 [.inr (.inr (some 7)), .inl a] (em_L cn mo, eh_R, M) 0 0 Q := by
  refine eg_in (lv := [some (.inr (.inr (some 7))), some (.inl a), none]) eg_tj30 (Nat.le_of_ble_eq_true rfl) rfl ?_
  refine eg_k_aload rfl rfl ?_
  refine eg_k_iload rfl rfl ?_
  refine eg_k_aload rfl rfl ?_
  refine eg_k_gfi rfl rfl rfl ?_
  refine eg_k_min rfl (Nat.le_of_ble_eq_true rfl) (Nat.le_refl _) (Nat.le_refl _) ?_
  refine eg_k_pfi rfl rfl rfl ?_
  refine eg_k_aload rfl rfl ?_
  refine eg_k_ci rfl ?_
  refine eg_k_pfi rfl rfl rfl ?_
  refine eg_k_aload rfl rfl ?_
  refine eg_k_aload rfl rfl ?_
  refine eg_k_gfr rfl rfl rfl eh_r7_0 ?_
  refine eg_k_gfie (x := M 1 6) rfl rfl rfl rfl ?_
  refine eg_k_pfi rfl rfl rfl ?_
  refine eg_k_aload rfl rfl ?_
  refine eg_k_ci rfl ?_
  refine eg_k_pfi rfl rfl rfl ?_
  refine eg_k_aload rfl rfl ?_
  refine eg_k_ci rfl ?_
  refine eg_k_pfi rfl rfl rfl ?_
  refine eg_k_aload rfl rfl ?_
  refine eg_k_ci rfl ?_
  refine eg_k_pfi rfl rfl rfl ?_
  refine eg_k_ci rfl ?_
  refine eg_k_istore (lv' := [some (.inr (.inr (some 7))), some (.inl a), some (.inl 0)]) rfl rfl ?_
  have hz := ft_30_25 (d := d) (sc := sc) hx hK
  exact hz
theorem fw_30_25 {c j : Nat} {v : Int} {x1 : Int} {s : Int × eM} {x : eM} (hc : c ∉ ([1, 2, 3, 4, 5, 6, 7, 9, 10, 11] : List Nat)) (hx : lp (fun z => fn_30_25 x1 z.1 z.2) s = some x) (hK : (fun (x : eM) => x c j = v) x) : s.2 c j = v := by
  refine lp_sound (P := (fun (s : Int × eM) => s.2 c j = v)) (K := (fun (x : eM) => x c j = v)) hx hK ?_
  intro s x hx hK
  obtain ⟨s1, s2⟩ := s
  refine vb_ite hx (fun _ hx => ?_) (fun _ hx => ?_)
  · refine vb_ite hx (fun _ hx => ?_) (fun _ hx => ?_)
    · have hx := Option.some.inj hx
      subst hx
      exact (Eq.refl _).symm.trans hK
    · refine vb_ite hx (fun _ hx => ?_) (fun _ hx => ?_)
      · have hx := Option.some.inj hx
        subst hx
        exact (Eq.refl _).symm.trans hK
      · obtain ⟨m6, h4, hx⟩ := vb_bind hx
        have hx := Option.some.inj hx
        subst hx
        exact ((fw_35 h4 (vsub hc (by decide)) j).trans rfl).symm.trans hK
  · refine vb_ite hx (fun _ hx => ?_) (fun _ hx => ?_)
    · refine vb_ite hx (fun _ hx => ?_) (fun _ hx => ?_)
      · have hx := Option.some.inj hx
        subst hx
        exact (Eq.refl _).symm.trans hK
      · refine vb_ite hx (fun _ hx => ?_) (fun _ hx => ?_)
        · have hx := Option.some.inj hx
          subst hx
          exact (Eq.refl _).symm.trans hK
        · obtain ⟨m12, h10, hx⟩ := vb_bind hx
          have hx := Option.some.inj hx
          subst hx
          exact ((fw_35 h10 (vsub hc (by decide)) j).trans rfl).symm.trans hK
    · refine vb_ite hx (fun _ hx => ?_) (fun _ hx => ?_)
      · have hx := Option.some.inj hx
        subst hx
        exact (Eq.refl _).symm.trans hK
      · obtain ⟨m16, h14, hx⟩ := vb_bind hx
        have hx := Option.some.inj hx
        subst hx
        exact ((fw_32 h14 (vsub hc (by decide)) j).trans rfl).symm.trans hK
theorem fw_30 {M : eM} {c : Nat} {a : Int} {x : eM} (hx : fn_30 a M = some x) (hc : c ∉ ([1, 2, 3, 4, 5, 6, 7, 9, 10, 11] : List Nat)) (j : Nat) : x c j = M c j := by
  obtain ⟨v, hK⟩ : ∃ v, x c j = v := ⟨_, rfl⟩
  rw [hK]
  refine Eq.symm ?_
  have hz := fw_30_25 hc hx hK
  exact ((congrFun (eg_u_ne (vne hc (a := 7) (by decide))) j).trans ((congrFun (eg_u_ne (vne hc (a := 7) (by decide))) j).trans ((congrFun (eg_u_ne (vne hc (a := 7) (by decide))) j).trans ((congrFun (eg_u_ne (vne hc (a := 7) (by decide))) j).trans ((congrFun (eg_u_ne (vne hc (a := 7) (by decide))) j).trans ((congrFun (eg_u_ne (vne hc (a := 7) (by decide))) j).trans rfl)))))).symm.trans hz
