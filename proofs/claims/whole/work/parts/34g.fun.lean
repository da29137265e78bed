/-- 172: WeakSchemeModel.isSpecial(I)Z -/
noncomputable def fn_172 (a : Int) (M : eM) : Option (Int) :=
  if 0 ≤ a ∧ a < 20100 then
  if ¬ (M 49 (a).toNat) = 3 then
      some 0
    else
      if 10 ≤ (M 50 (a).toNat) then
        some 0
      else
        some 1
  else none
set_option maxRecDepth 100000 in
theorem ft_172 {cn mo : Nat} {sc : eg_Sc} {d : Nat} {M : eM} {Q : Option eg_V → eg_H → Prop} {a : Int} {x : Int} (hx : fn_172 a M = some x) (hK : Q (some (.inl x)) (em_L cn mo, eh_R, M)) : eg_wp sc (d + 1) 172 [.inr (.inr (some 45)), .inl a] (em_L cn mo, eh_R, M) 0 0 Q := by
  refine eg_in (lv := [some (.inr (.inr (some 45))), some (.inl a)]) eg_tj172 (Nat.le_of_ble_eq_true rfl) rfl ?_
  refine eg_k_aload rfl rfl ?_
  refine eg_k_gfa rfl rfl rfl eh_r45_8 ?_
  refine eg_k_iload rfl rfl ?_
  obtain ⟨b1, hx⟩ := vb_if hx
  refine eg_k_bald (k := 20100) rfl rfl b1.1 b1.2 ?_
  refine eg_k_ci rfl ?_
  refine vk_icmp rfl hx Iff.rfl (fun c2 hx => ?_) (fun c2 hx => ?_)
  · refine eg_k_ci rfl ?_
    have hx := Option.some.inj hx
    subst hx
    exact eg_k_iret rfl (Or.inl rfl) (Nat.le_refl _) (Nat.le_refl _) hK
  · refine eg_k_aload rfl rfl ?_
    refine eg_k_gfa rfl rfl rfl eh_r45_9 ?_
    refine eg_k_iload rfl rfl ?_
    refine eg_k_iald (k := 20100) rfl rfl b1.1 b1.2 ?_
    refine eg_k_ci rfl ?_
    refine vk_icmp rfl hx Iff.rfl (fun c4 hx => ?_) (fun c4 hx => ?_)
    · refine eg_k_ci rfl ?_
      have hx := Option.some.inj hx
      subst hx
      exact eg_k_iret rfl (Or.inl rfl) (Nat.le_refl _) (Nat.le_refl _) hK
    · refine eg_k_ci rfl ?_
      refine eg_k_goto rfl ?_
      have hx := Option.some.inj hx
      subst hx
      exact eg_k_iret rfl (Or.inr rfl) (Nat.le_refl _) (Nat.le_refl _) hK
/-- 173: WeakSchemeModel.shape(I)I -/
noncomputable def fn_173 (a : Int) (M : eM) : Option (Int × eM) :=
  if 0 ≤ a ∧ a < 20100 then
  (fn_161 3 (M 56 (a).toNat) M).bind fun r3 =>
    some (r3.1, r3.2)
  else none
set_option maxRecDepth 100000 in
theorem ft_173 {cn mo : Nat} {sc : eg_Sc} {d : Nat} {M : eM} {Q : Option eg_V → eg_H → Prop} {a : Int} {x : Int × eM} (hx : fn_173 a M = some x) (hK : Q (some (.inl ((x).1))) (em_L cn mo, eh_R, (x).2)) : eg_wp sc (d + 2) 173 [.inr (.inr (some 45)), .inl a] (em_L cn mo, eh_R, M) 0 0 Q := by
  refine eg_in (lv := [some (.inr (.inr (some 45))), some (.inl a)]) eg_tj173 (Nat.le_of_ble_eq_true rfl) rfl ?_
  refine eg_k_aload rfl rfl ?_
  refine eg_k_ci rfl ?_
  refine eg_k_aload rfl rfl ?_
  refine eg_k_gfa rfl rfl rfl eh_r45_15 ?_
  refine eg_k_iload rfl rfl ?_
  obtain ⟨b1, hx⟩ := vb_if hx
  refine eg_k_sald (k := 20100) rfl rfl b1.1 b1.2 ?_
  obtain ⟨r3, h2, hx⟩ := vb_bind hx
  refine eg_k_call (c1 := 0) (z1 := 0) (as := [.inr (.inr (some 45)), .inl 3, .inl (M 56 (a).toNat)]) (rest := []) rfl eg_tj161 (Nat.le_of_ble_eq_true rfl) rfl rfl rfl (Nat.le_of_ble_eq_true rfl) (Nat.le_refl _) (Nat.le_refl _) ?_ (fun Q hQ => ft_161 h2 hQ)
  have hx := Option.some.inj hx
  subst hx
  exact eg_k_iret rfl True.intro (Nat.le_refl _) (Nat.le_refl _) hK
theorem fw_173 {M : eM} {c : Nat} {a : Int} {x : Int × eM} (hx : fn_173 a M = some x) (hc : c ∉ ([45] : List Nat)) (j : Nat) : ((x).2) c j = M c j := by
  obtain ⟨v, hK⟩ : ∃ v, ((x).2) c j = v := ⟨_, rfl⟩
  rw [hK]
  refine Eq.symm ?_
  obtain ⟨_, hx⟩ := vb_if hx
  obtain ⟨r3, h2, hx⟩ := vb_bind hx
  have hx := Option.some.inj hx
  subst hx
  exact ((fw_161 h2 (vsub hc (by decide)) j).trans rfl).symm.trans hK
/-- 175: WeakSchemeModel.formOf(I)I -/
noncomputable def fn_175 (a : Int) (M : eM) : Option (Int) :=
  if 0 ≤ a ∧ a < 20100 then
  if ¬ (M 49 (a).toNat) = 4 then
      some (-1)
    else
      if (M 55 (a).toNat) ≤ 0 then
        some (-1)
      else
        (fn_172 (M 51 (a).toNat) M).bind fun r7 =>
        if r7 = 0 then
          some (-1)
        else
          if 0 ≤ (M 51 (a).toNat) ∧ (M 51 (a).toNat) < 20100 then
          some (M 50 (M 51 (a).toNat).toNat)
          else none
  else none
set_option maxRecDepth 100000 in
theorem ft_175 {cn mo : Nat} {sc : eg_Sc} {d : Nat} {M : eM} {Q : Option eg_V → eg_H → Prop} {a : Int} {x : Int} (hx : fn_175 a M = some x) (hK : Q (some (.inl x)) (em_L cn mo, eh_R, M)) : eg_wp sc (d + 2) 175 [.inr (.inr (some 45)), .inl a] (em_L cn mo, eh_R, M) 0 0 Q := by
  refine eg_in (lv := [some (.inr (.inr (some 45))), some (.inl a)]) eg_tj175 (Nat.le_of_ble_eq_true rfl) rfl ?_
  refine eg_k_aload rfl rfl ?_
  refine eg_k_gfa rfl rfl rfl eh_r45_8 ?_
  refine eg_k_iload rfl rfl ?_
  obtain ⟨b1, hx⟩ := vb_if hx
  refine eg_k_bald (k := 20100) rfl rfl b1.1 b1.2 ?_
  refine eg_k_ci rfl ?_
  refine vk_icmp rfl hx Iff.rfl (fun c2 hx => ?_) (fun c2 hx => ?_)
  · refine eg_k_ci rfl ?_
    have hx := Option.some.inj hx
    subst hx
    exact eg_k_iret rfl True.intro (Nat.le_refl _) (Nat.le_refl _) hK
  · refine eg_k_aload rfl rfl ?_
    refine eg_k_gfa rfl rfl rfl eh_r45_14 ?_
    refine eg_k_iload rfl rfl ?_
    refine eg_k_sald (k := 20100) rfl rfl b1.1 b1.2 ?_
    refine vk_if rfl hx Iff.rfl (fun c4 hx => ?_) (fun c4 hx => ?_)
    · refine eg_k_ci rfl ?_
      have hx := Option.some.inj hx
      subst hx
      exact eg_k_iret rfl True.intro (Nat.le_refl _) (Nat.le_refl _) hK
    · refine eg_k_aload rfl rfl ?_
      refine eg_k_aload rfl rfl ?_
      refine eg_k_gfa rfl rfl rfl eh_r45_10 ?_
      refine eg_k_iload rfl rfl ?_
      refine eg_k_iald (k := 20100) rfl rfl b1.1 b1.2 ?_
      obtain ⟨r7, h6, hx⟩ := vb_bind hx
      refine eg_k_call (c1 := 0) (z1 := 0) (as := [.inr (.inr (some 45)), .inl (M 51 (a).toNat)]) (rest := []) rfl eg_tj172 (Nat.le_of_ble_eq_true rfl) rfl rfl rfl (Nat.le_of_ble_eq_true rfl) (Nat.le_refl _) (Nat.le_refl _) ?_ (fun Q hQ => ft_172 h6 hQ)
      refine vk_if rfl hx Iff.rfl (fun c9 hx => ?_) (fun c9 hx => ?_)
      · refine eg_k_ci rfl ?_
        have hx := Option.some.inj hx
        subst hx
        exact eg_k_iret rfl True.intro (Nat.le_refl _) (Nat.le_refl _) hK
      · refine eg_k_aload rfl rfl ?_
        refine eg_k_gfa rfl rfl rfl eh_r45_9 ?_
        refine eg_k_aload rfl rfl ?_
        refine eg_k_gfa rfl rfl rfl eh_r45_10 ?_
        refine eg_k_iload rfl rfl ?_
        refine eg_k_iald (k := 20100) rfl rfl b1.1 b1.2 ?_
        obtain ⟨b11, hx⟩ := vb_if hx
        refine eg_k_iald (k := 20100) rfl rfl b11.1 b11.2 ?_
        refine eg_k_goto rfl ?_
        have hx := Option.some.inj hx
        subst hx
        exact eg_k_iret rfl True.intro (Nat.le_refl _) (Nat.le_refl _) hK
/-- 174: WeakSchemeModel.isForm(IZ)Z -/
noncomputable def fn_174 (a : Int) (b : Int) (M : eM) : Option (Int) :=
  if 0 ≤ a ∧ a < 20100 then
  (fn_175 a M).bind fun r3 =>
    if r3 = 0 then
      if ¬ (M 55 (a).toNat) = 2 then
        some 0
      else
        some 1
    else if r3 = 1 then
      if (M 55 (a).toNat) = 3 then
        some 1
      else
        if ¬ (M 55 (a).toNat) = 4 then
          some 0
        else
          some 1
    else if r3 = 2 then
      if ¬ (M 55 (a).toNat) = 3 then
        some 0
      else
        some 1
    else if r3 = 3 then
      if ¬ (M 55 (a).toNat) = 3 then
        some 0
      else
        if b = 0 then
          some 0
        else
          some 1
    else if r3 = 4 then
      if (M 55 (a).toNat) < 3 then
        some 0
      else
        some 1
    else if r3 = 5 then
      if (M 55 (a).toNat) < 3 then
        some 0
      else
        some 1
    else if r3 = 6 then
      if (M 55 (a).toNat) < 2 then
        some 0
      else
        some 1
    else if r3 = 7 then
      if (M 55 (a).toNat) < 2 then
        some 0
      else
        some 1
    else if r3 = 8 then
      some 1
    else if r3 = 9 then
      some 1
    else 
      if (M 55 (a).toNat) < 1 then
        some 0
      else
        if 9 < (M 55 (a).toNat) then
          some 0
        else
          some 1
  else none
set_option maxRecDepth 100000 in
theorem ft_174 {cn mo : Nat} {sc : eg_Sc} {d : Nat} {M : eM} {Q : Option eg_V → eg_H → Prop} {a : Int} {b : Int} {x : Int} (hx : fn_174 a b M = some x) (hK : Q (some (.inl x)) (em_L cn mo, eh_R, M)) : eg_wp sc (d + 3) 174 [.inr (.inr (some 45)), .inl a, .inl b] (em_L cn mo, eh_R, M) 0 0 Q := by
  refine eg_in (lv := [some (.inr (.inr (some 45))), some (.inl a), some (.inl b), none]) eg_tj174 (Nat.le_of_ble_eq_true rfl) rfl ?_
  refine eg_k_aload rfl rfl ?_
  refine eg_k_gfa rfl rfl rfl eh_r45_14 ?_
  refine eg_k_iload rfl rfl ?_
  obtain ⟨b1, hx⟩ := vb_if hx
  refine eg_k_sald (k := 20100) rfl rfl b1.1 b1.2 ?_
  refine eg_k_istore (lv' := [some (.inr (.inr (some 45))), some (.inl a), some (.inl b), some (.inl (M 55 (a).toNat))]) rfl rfl ?_
  refine eg_k_aload rfl rfl ?_
  refine eg_k_iload rfl rfl ?_
  obtain ⟨r3, h2, hx⟩ := vb_bind hx
  refine eg_k_call (c1 := 0) (z1 := 0) (as := [.inr (.inr (some 45)), .inl a]) (rest := []) rfl eg_tj175 (Nat.le_of_ble_eq_true rfl) rfl rfl rfl (Nat.le_of_ble_eq_true rfl) (Nat.le_refl _) (Nat.le_refl _) ?_ (fun Q hQ => ft_175 h2 hQ)
  refine vb_ite hx (fun e9 hx => ?_) (fun e9 hx => ?_)
  · refine eg_k_tsw (x := r3) (t := 9) rfl (by rw [e9]; rfl) ?_
    refine eg_k_iload rfl rfl ?_
    refine eg_k_ci rfl ?_
    refine vk_icmp rfl hx Iff.rfl (fun c5 hx => ?_) (fun c5 hx => ?_)
    · refine eg_k_ci rfl ?_
      have hx := Option.some.inj hx
      subst hx
      exact eg_k_iret rfl (Or.inl rfl) (Nat.le_refl _) (Nat.le_refl _) hK
    · refine eg_k_ci rfl ?_
      refine eg_k_goto rfl ?_
      have hx := Option.some.inj hx
      subst hx
      exact eg_k_iret rfl (Or.inr rfl) (Nat.le_refl _) (Nat.le_refl _) hK
  have e0_ := e9
  refine vb_ite hx (fun e9 hx => ?_) (fun e9 hx => ?_)
  · refine eg_k_tsw (x := r3) (t := 16) rfl (by rw [e9]; rfl) ?_
    refine eg_k_iload rfl rfl ?_
    refine eg_k_ci rfl ?_
    refine vk_icmp rfl hx Iff.rfl (fun c6 hx => ?_) (fun c6 hx => ?_)
    · refine eg_k_ci rfl ?_
      refine eg_k_goto rfl ?_
      have hx := Option.some.inj hx
      subst hx
      exact eg_k_iret rfl (Or.inr rfl) (Nat.le_refl _) (Nat.le_refl _) hK
    · refine eg_k_iload rfl rfl ?_
      refine eg_k_ci rfl ?_
      refine vk_icmp rfl hx Iff.rfl (fun c7 hx => ?_) (fun c7 hx => ?_)
      · refine eg_k_ci rfl ?_
        have hx := Option.some.inj hx
        subst hx
        exact eg_k_iret rfl (Or.inl rfl) (Nat.le_refl _) (Nat.le_refl _) hK
      · refine eg_k_ci rfl ?_
        refine eg_k_goto rfl ?_
        have hx := Option.some.inj hx
        subst hx
        exact eg_k_iret rfl (Or.inr rfl) (Nat.le_refl _) (Nat.le_refl _) hK
  have e1_ := e9
  refine vb_ite hx (fun e9 hx => ?_) (fun e9 hx => ?_)
  · refine eg_k_tsw (x := r3) (t := 26) rfl (by rw [e9]; rfl) ?_
    refine eg_k_iload rfl rfl ?_
    refine eg_k_ci rfl ?_
    refine vk_icmp rfl hx Iff.rfl (fun c8 hx => ?_) (fun c8 hx => ?_)
    · refine eg_k_ci rfl ?_
      have hx := Option.some.inj hx
      subst hx
      exact eg_k_iret rfl (Or.inl rfl) (Nat.le_refl _) (Nat.le_refl _) hK
    · refine eg_k_ci rfl ?_
      refine eg_k_goto rfl ?_
      have hx := Option.some.inj hx
      subst hx
      exact eg_k_iret rfl (Or.inr rfl) (Nat.le_refl _) (Nat.le_refl _) hK
  have e2_ := e9
  refine vb_ite hx (fun e9 hx => ?_) (fun e9 hx => ?_)
  · refine eg_k_tsw (x := r3) (t := 33) rfl (by rw [e9]; rfl) ?_
    refine eg_k_iload rfl rfl ?_
    refine eg_k_ci rfl ?_
    refine vk_icmp rfl hx Iff.rfl (fun c9 hx => ?_) (fun c9 hx => ?_)
    · refine eg_k_ci rfl ?_
      have hx := Option.some.inj hx
      subst hx
      exact eg_k_iret rfl (Or.inl rfl) (Nat.le_refl _) (Nat.le_refl _) hK
    · refine eg_k_iload rfl rfl ?_
      refine vk_if rfl hx Iff.rfl (fun c10 hx => ?_) (fun c10 hx => ?_)
      · refine eg_k_ci rfl ?_
        have hx := Option.some.inj hx
        subst hx
        exact eg_k_iret rfl (Or.inl rfl) (Nat.le_refl _) (Nat.le_refl _) hK
      · refine eg_k_ci rfl ?_
        refine eg_k_goto rfl ?_
        have hx := Option.some.inj hx
        subst hx
        exact eg_k_iret rfl (Or.inr rfl) (Nat.le_refl _) (Nat.le_refl _) hK
  have e3_ := e9
  refine vb_ite hx (fun e9 hx => ?_) (fun e9 hx => ?_)
  · refine eg_k_tsw (x := r3) (t := 42) rfl (by rw [e9]; rfl) ?_
    refine eg_k_iload rfl rfl ?_
    refine eg_k_ci rfl ?_
    refine vk_icmp rfl hx Iff.rfl (fun c11 hx => ?_) (fun c11 hx => ?_)
    · refine eg_k_ci rfl ?_
      have hx := Option.some.inj hx
      subst hx
      exact eg_k_iret rfl (Or.inl rfl) (Nat.le_refl _) (Nat.le_refl _) hK
    · refine eg_k_ci rfl ?_
      refine eg_k_goto rfl ?_
      have hx := Option.some.inj hx
      subst hx
      exact eg_k_iret rfl (Or.inr rfl) (Nat.le_refl _) (Nat.le_refl _) hK
  have e4_ := e9
  refine vb_ite hx (fun e9 hx => ?_) (fun e9 hx => ?_)
  · refine eg_k_tsw (x := r3) (t := 42) rfl (by rw [e9]; rfl) ?_
    refine eg_k_iload rfl rfl ?_
    refine eg_k_ci rfl ?_
    refine vk_icmp rfl hx Iff.rfl (fun c12 hx => ?_) (fun c12 hx => ?_)
    · refine eg_k_ci rfl ?_
      have hx := Option.some.inj hx
      subst hx
      exact eg_k_iret rfl (Or.inl rfl) (Nat.le_refl _) (Nat.le_refl _) hK
    · refine eg_k_ci rfl ?_
      refine eg_k_goto rfl ?_
      have hx := Option.some.inj hx
      subst hx
      exact eg_k_iret rfl (Or.inr rfl) (Nat.le_refl _) (Nat.le_refl _) hK
  have e5_ := e9
  refine vb_ite hx (fun e9 hx => ?_) (fun e9 hx => ?_)
  · refine eg_k_tsw (x := r3) (t := 49) rfl (by rw [e9]; rfl) ?_
    refine eg_k_iload rfl rfl ?_
    refine eg_k_ci rfl ?_
    refine vk_icmp rfl hx Iff.rfl (fun c13 hx => ?_) (fun c13 hx => ?_)
    · refine eg_k_ci rfl ?_
      have hx := Option.some.inj hx
      subst hx
      exact eg_k_iret rfl (Or.inl rfl) (Nat.le_refl _) (Nat.le_refl _) hK
    · refine eg_k_ci rfl ?_
      refine eg_k_goto rfl ?_
      have hx := Option.some.inj hx
      subst hx
      exact eg_k_iret rfl (Or.inr rfl) (Nat.le_refl _) (Nat.le_refl _) hK
  have e6_ := e9
  refine vb_ite hx (fun e9 hx => ?_) (fun e9 hx => ?_)
  · refine eg_k_tsw (x := r3) (t := 49) rfl (by rw [e9]; rfl) ?_
    refine eg_k_iload rfl rfl ?_
    refine eg_k_ci rfl ?_
    refine vk_icmp rfl hx Iff.rfl (fun c14 hx => ?_) (fun c14 hx => ?_)
    · refine eg_k_ci rfl ?_
      have hx := Option.some.inj hx
      subst hx
      exact eg_k_iret rfl (Or.inl rfl) (Nat.le_refl _) (Nat.le_refl _) hK
    · refine eg_k_ci rfl ?_
      refine eg_k_goto rfl ?_
      have hx := Option.some.inj hx
      subst hx
      exact eg_k_iret rfl (Or.inr rfl) (Nat.le_refl _) (Nat.le_refl _) hK
  have e7_ := e9
  refine vb_ite hx (fun e9 hx => ?_) (fun e9 hx => ?_)
  · refine eg_k_tsw (x := r3) (t := 56) rfl (by rw [e9]; rfl) ?_
    refine eg_k_ci rfl ?_
    have hx := Option.some.inj hx
    subst hx
    exact eg_k_iret rfl (Or.inr rfl) (Nat.le_refl _) (Nat.le_refl _) hK
  have e8_ := e9
  refine vb_ite hx (fun e9 hx => ?_) (fun e9 hx => ?_)
  · refine eg_k_tsw (x := r3) (t := 56) rfl (by rw [e9]; rfl) ?_
    refine eg_k_ci rfl ?_
    have hx := Option.some.inj hx
    subst hx
    exact eg_k_iret rfl (Or.inr rfl) (Nat.le_refl _) (Nat.le_refl _) hK
  have e9_ := e9
  refine eg_k_tsw (x := r3) (t := 58) rfl (by unfold eg_tb; rw [if_pos (by omega)]; rfl) ?_
  refine eg_k_iload rfl rfl ?_
  refine eg_k_ci rfl ?_
  refine vk_icmp rfl hx Iff.rfl (fun c15 hx => ?_) (fun c15 hx => ?_)
  · refine eg_k_ci rfl ?_
    have hx := Option.some.inj hx
    subst hx
    exact eg_k_iret rfl (Or.inl rfl) (Nat.le_refl _) (Nat.le_refl _) hK
  · refine eg_k_iload rfl rfl ?_
    refine eg_k_ci rfl ?_
    refine vk_icmp rfl hx Iff.rfl (fun c16 hx => ?_) (fun c16 hx => ?_)
    · refine eg_k_ci rfl ?_
      have hx := Option.some.inj hx
      subst hx
      exact eg_k_iret rfl (Or.inl rfl) (Nat.le_refl _) (Nat.le_refl _) hK
    · refine eg_k_ci rfl ?_
      refine eg_k_goto rfl ?_
      have hx := Option.some.inj hx
      subst hx
      exact eg_k_iret rfl (Or.inr rfl) (Nat.le_refl _) (Nat.le_refl _) hK
/-- 176: WeakSchemeModel.second(I)I -/
noncomputable def fn_176 (a : Int) (M : eM) : Option (Int) :=
  if 0 ≤ a ∧ a < 20100 then
  if 0 ≤ (M 51 (a).toNat) ∧ (M 51 (a).toNat) < 20100 then
    some (M 53 (M 51 (a).toNat).toNat)
    else none
  else none
set_option maxRecDepth 100000 in
theorem ft_176 {cn mo : Nat} {sc : eg_Sc} {d : Nat} {M : eM} {Q : Option eg_V → eg_H → Prop} {a : Int} {x : Int} (hx : fn_176 a M = some x) (hK : Q (some (.inl x)) (em_L cn mo, eh_R, M)) : eg_wp sc (d + 1) 176 [.inr (.inr (some 45)), .inl a] (em_L cn mo, eh_R, M) 0 0 Q := by
  refine eg_in (lv := [some (.inr (.inr (some 45))), some (.inl a)]) eg_tj176 (Nat.le_of_ble_eq_true rfl) rfl ?_
  refine eg_k_aload rfl rfl ?_
  refine eg_k_gfa rfl rfl rfl eh_r45_12 ?_
  refine eg_k_aload rfl rfl ?_
  refine eg_k_gfa rfl rfl rfl eh_r45_10 ?_
  refine eg_k_iload rfl rfl ?_
  obtain ⟨b1, hx⟩ := vb_if hx
  refine eg_k_iald (k := 20100) rfl rfl b1.1 b1.2 ?_
  obtain ⟨b2, hx⟩ := vb_if hx
  refine eg_k_iald (k := 20100) rfl rfl b2.1 b2.2 ?_
  have hx := Option.some.inj hx
  subst hx
  exact eg_k_iret rfl True.intro (Nat.le_refl _) (Nat.le_refl _) hK
/-- 177: WeakSchemeModel.isName(I)Z -/
noncomputable def fn_177 (a : Int) (M : eM) : Option (Int) :=
  if 0 ≤ a ∧ a < 20100 then
  if ¬ (M 49 (a).toNat) = 3 then
      some 0
    else
      some 1
  else none
set_option maxRecDepth 100000 in
theorem ft_177 {cn mo : Nat} {sc : eg_Sc} {d : Nat} {M : eM} {Q : Option eg_V → eg_H → Prop} {a : Int} {x : Int} (hx : fn_177 a M = some x) (hK : Q (some (.inl x)) (em_L cn mo, eh_R, M)) : eg_wp sc (d + 1) 177 [.inr (.inr (some 45)), .inl a] (em_L cn mo, eh_R, M) 0 0 Q := by
  refine eg_in (lv := [some (.inr (.inr (some 45))), some (.inl a)]) eg_tj177 (Nat.le_of_ble_eq_true rfl) rfl ?_
  refine eg_k_aload rfl rfl ?_
  refine eg_k_gfa rfl rfl rfl eh_r45_8 ?_
  refine eg_k_iload rfl rfl ?_
  obtain ⟨b1, hx⟩ := vb_if hx
  refine eg_k_bald (k := 20100) rfl rfl b1.1 b1.2 ?_
  refine eg_k_ci rfl ?_
  refine vk_icmp rfl hx Iff.rfl (fun c2 hx => ?_) (fun c2 hx => ?_)
  · refine eg_k_ci rfl ?_
    have hx := Option.some.inj hx
    subst hx
    exact eg_k_iret rfl (Or.inl rfl) (Nat.le_refl _) (Nat.le_refl _) hK
  · refine eg_k_ci rfl ?_
    refine eg_k_goto rfl ?_
    have hx := Option.some.inj hx
    subst hx
    exact eg_k_iret rfl (Or.inr rfl) (Nat.le_refl _) (Nat.le_refl _) hK
/-- 178: WeakSchemeModel.later(III)V -/
noncomputable def fn_178 (a : Int) (b : Int) (e : Int) (M : eM) : Option (eM) :=
  if 0 ≤ (M 45 23) ∧ (M 45 23) < 4100 then
  some (eg_u (eg_u (eg_u (eg_u M 59 (M 45 23).toNat a) 60 (M 45 23).toNat b) 61 (M 45 23).toNat e) 45 23 (eg_wi ((M 45 23) + 1)))
  else none
set_option maxRecDepth 100000 in
theorem ft_178 {cn mo : Nat} {sc : eg_Sc} {d : Nat} {M : eM} {Q : Option eg_V → eg_H → Prop} {a : Int} {b : Int} {e : Int} {x : eM} (hx : fn_178 a b e M = some x) (hK : Q (none) (em_L cn mo, eh_R, x)) : eg_wp sc (d + 1) 178 [.inr (.inr (some 45)), .inl a, .inl b, .inl e] (em_L cn mo, eh_R, M) 0 0 Q := by
  refine eg_in (lv := [some (.inr (.inr (some 45))), some (.inl a), some (.inl b), some (.inl e)]) eg_tj178 (Nat.le_of_ble_eq_true rfl) rfl ?_
  refine eg_k_aload rfl rfl ?_
  refine eg_k_gfa rfl rfl rfl eh_r45_24 ?_
  refine eg_k_aload rfl rfl ?_
  refine eg_k_gfi rfl rfl rfl ?_
  refine eg_k_iload rfl rfl ?_
  obtain ⟨b1, hx⟩ := vb_if hx
  refine eg_k_iast (k := 4100) rfl rfl b1.1 b1.2 ?_
  refine eg_k_aload rfl rfl ?_
  refine eg_k_gfa rfl rfl rfl eh_r45_25 ?_
  refine eg_k_aload rfl rfl ?_
  refine eg_k_gfie (x := M 45 23) rfl rfl rfl rfl ?_
  refine eg_k_iload rfl rfl ?_
  refine eg_k_iast (k := 4100) rfl rfl b1.1 b1.2 ?_
  refine eg_k_aload rfl rfl ?_
  refine eg_k_gfa rfl rfl rfl eh_r45_26 ?_
  refine eg_k_aload rfl rfl ?_
  refine eg_k_gfie (x := M 45 23) rfl rfl rfl rfl ?_
  refine eg_k_iload rfl rfl ?_
  refine eg_k_iast (k := 4100) rfl rfl b1.1 b1.2 ?_
  refine eg_k_aload rfl rfl ?_
  refine eg_k_aload rfl rfl ?_
  refine eg_k_gfie (x := M 45 23) rfl rfl rfl rfl ?_
  refine eg_k_ci rfl ?_
  refine eg_k_iadd rfl ?_
  refine eg_k_pfi rfl rfl rfl ?_
  have hx := Option.some.inj hx
  subst hx
  exact eg_k_ret rfl rfl (Nat.le_refl _) (Nat.le_refl _) hK
theorem fw_178 {M : eM} {c : Nat} {a : Int} {b : Int} {e : Int} {x : eM} (hx : fn_178 a b e M = some x) (hc : c ∉ ([45, 59, 60, 61] : List Nat)) (j : Nat) : x c j = M c j := by
  obtain ⟨v, hK⟩ : ∃ v, x c j = v := ⟨_, rfl⟩
  rw [hK]
  refine Eq.symm ?_
  obtain ⟨_, hx⟩ := vb_if hx
  have hx := Option.some.inj hx
  subst hx
  exact ((congrFun (eg_u_ne (vne hc (a := 45) (by decide))) j).trans ((congrFun (eg_u_ne (vne hc (a := 61) (by decide))) j).trans ((congrFun (eg_u_ne (vne hc (a := 60) (by decide))) j).trans ((congrFun (eg_u_ne (vne hc (a := 59) (by decide))) j).trans rfl)))).symm.trans hK
noncomputable def fn_180_42 (x1 : Int) (x2 : Int) (x3 : Int) (x4 : Int) (x5 : Int) (x6 : Int) (x7 : Int) (y0 : Int) (M : eM) : Option ((Int × Int) ⊕ (Int × eM)) :=
  if 0 ≤ y0 ∧ y0 < 20100 then
  if 0 ≤ x5 ∧ x5 < 20100 then
    if ¬ (M 50 (y0).toNat) = (M 50 (x5).toNat) then
        if 0 ≤ x6 ∧ x6 < 20100 then
        some (.inl (M 53 (x6).toNat, eg_wi (x7 + 1)))
        else none
      else
        (fn_173 x5 M).bind fun r25 =>
        some (.inr (r25.1, r25.2))
    else none
  else none
noncomputable def fn_180_31 (x1 : Int) (x2 : Int) (x3 : Int) (x4 : Int) (x5 : Int) (M : eM) (s1 : Int) (s2 : Int) : Option ((Int × Int) ⊕ (Int × eM)) :=
  if x3 ≤ s2 then
    some (.inr (0, M))
  else
    if x4 = 0 then
      fn_180_42 x1 x2 x3 x4 x5 s1 s2 s1 M
    else
      if 0 ≤ s1 ∧ s1 < 20100 then
      fn_180_42 x1 x2 x3 x4 x5 s1 s2 (M 51 (s1).toNat) M
      else none
noncomputable def fn_180_8 (x1 : Int) (x2 : Int) (x3 : Int) (x4 : Int) (y0 : Int) (M : eM) : Option (Int × eM) :=
  (fn_177 y0 M).bind fun r3 =>
  if r3 = 0 then
    (fn_173 y0 M).bind fun r7 =>
    some (r7.1, r7.2)
  else
    (fn_172 y0 M).bind fun r10 =>
    if ¬ r10 = 0 then
      (fn_173 y0 M).bind fun r14 =>
      some (r14.1, r14.2)
    else
      if ¬ x3 = 8 then
        if 0 ≤ x1 ∧ x1 < 20100 then
        lp (fun z => fn_180_31 x1 x2 x3 x4 y0 M z.1 z.2) (M 51 (x1).toNat, 0)
        else none
      else
        (fn_173 y0 M).bind fun r29 =>
        some (r29.1, r29.2)
/-- 180: WeakSchemeModel.fresh(IIIZ)I -/
noncomputable def fn_180 (a : Int) (b : Int) (e : Int) (f : Int) (M : eM) : Option (Int × eM) :=
  if f = 0 then
    fn_180_8 a b e f b M
  else
    if 0 ≤ b ∧ b < 20100 then
    fn_180_8 a b e f (M 51 (b).toNat) M
    else none
set_option maxRecDepth 100000 in
theorem ft_180_42 {cn mo : Nat} {sc : eg_Sc} {d : Nat} {M : eM} {Q : Option eg_V → eg_H → Prop} {x1 : Int} {x2 : Int} {x3 : Int} {x4 : Int} {x5 : Int} {x6 : Int} {x7 : Int} {y0 : Int} {x : (Int × Int) ⊕ (Int × eM)} (hx : fn_180_42 x1 x2 x3 x4 x5 x6 x7 y0 M = some x) (hK : (eK (fun (s : Int × Int) => ∀ (w8 : Option eg_V), eg_X sc (eg_wp sc (d + 2)) eg_p180 (some .int) 0 0 Q 31 [some (.inr (.inr (some 45))), some (.inl x1), some (.inl x2), some (.inl x3), some (.inl x4), some (.inl x5), some (.inl s.1), some (.inl s.2), w8] [] (em_L cn mo, eh_R, M) 0 0) (fun (x : Int × eM) => Q (some (.inl ((x).1))) (em_L cn mo, eh_R, (x).2))) x) : ∀ (w8 : Option eg_V), eg_X sc (eg_wp sc (d + 2)) eg_p180 (some .int) 0 0 Q 42 [some (.inr (.inr (some 45))), some (.inl x1), some (.inl x2), some (.inl x3), some (.inl x4), some (.inl x5), some (.inl x6), some (.inl x7), w8] [.inl y0] (em_L cn mo, eh_R, M) 0 0 := by
  intro w8
  refine eg_k_istore (lv' := [some (.inr (.inr (some 45))), some (.inl x1), some (.inl x2), some (.inl x3), some (.inl x4), some (.inl x5), some (.inl x6), some (.inl x7), some (.inl y0)]) rfl rfl ?_
  refine eg_k_aload rfl rfl ?_
  refine eg_k_gfa rfl rfl rfl eh_r45_9 ?_
  refine eg_k_iload rfl rfl ?_
  obtain ⟨b20, hx⟩ := vb_if hx
  refine eg_k_iald (k := 20100) rfl rfl b20.1 b20.2 ?_
  refine eg_k_aload rfl rfl ?_
  refine eg_k_gfa rfl rfl rfl eh_r45_9 ?_
  refine eg_k_iload rfl rfl ?_
  obtain ⟨b21, hx⟩ := vb_if hx
  refine eg_k_iald (k := 20100) rfl rfl b21.1 b21.2 ?_
  refine vk_icmp rfl hx Iff.rfl (fun c22 hx => ?_) (fun c22 hx => ?_)
  · refine eg_k_aload rfl rfl ?_
    refine eg_k_gfa rfl rfl rfl eh_r45_12 ?_
    refine eg_k_iload rfl rfl ?_
    obtain ⟨b23, hx⟩ := vb_if hx
    refine eg_k_iald (k := 20100) rfl rfl b23.1 b23.2 ?_
    refine eg_k_istore (lv' := [some (.inr (.inr (some 45))), some (.inl x1), some (.inl x2), some (.inl x3), some (.inl x4), some (.inl x5), some (.inl (M 53 (x6).toNat)), some (.inl x7), some (.inl y0)]) rfl rfl ?_
    refine eg_k_iinc (lv' := [some (.inr (.inr (some 45))), some (.inl x1), some (.inl x2), some (.inl x3), some (.inl x4), some (.inl x5), some (.inl (M 53 (x6).toNat)), some (.inl (eg_wi (x7 + 1))), some (.inl y0)]) rfl rfl rfl ?_
    refine eg_k_goto rfl ?_
    have hx := Option.some.inj hx
    subst hx
    exact hK (some (.inl y0))
  · refine eg_k_aload rfl rfl ?_
    refine eg_k_iload rfl rfl ?_
    obtain ⟨r25, h24, hx⟩ := vb_bind hx
    refine eg_k_call (c1 := 0) (z1 := 0) (as := [.inr (.inr (some 45)), .inl x5]) (rest := []) rfl eg_tj173 (Nat.le_of_ble_eq_true rfl) rfl rfl rfl (Nat.le_of_ble_eq_true rfl) (Nat.le_refl _) (Nat.le_refl _) ?_ (fun Q hQ => ft_173 h24 hQ)
    have hx := Option.some.inj hx
    subst hx
    exact eg_k_iret rfl True.intro (Nat.le_refl _) (Nat.le_refl _) hK
set_option maxRecDepth 100000 in
theorem ft_180_31 {cn mo : Nat} {sc : eg_Sc} {d : Nat} {M : eM} {Q : Option eg_V → eg_H → Prop} {x1 : Int} {x2 : Int} {x3 : Int} {x4 : Int} {x5 : Int} {s : Int × Int} {x : Int × eM} (hx : lp (fun z => fn_180_31 x1 x2 x3 x4 x5 M z.1 z.2) s = some x) (hK : (fun (x : Int × eM) => Q (some (.inl ((x).1))) (em_L cn mo, eh_R, (x).2)) x) : ∀ (w8 : Option eg_V), eg_X sc (eg_wp sc (d + 2)) eg_p180 (some .int) 0 0 Q 31 [some (.inr (.inr (some 45))), some (.inl x1), some (.inl x2), some (.inl x3), some (.inl x4), some (.inl x5), some (.inl s.1), some (.inl s.2), w8] [] (em_L cn mo, eh_R, M) 0 0 := by
  refine lp_sound (P := (fun (s : Int × Int) => ∀ (w8 : Option eg_V), eg_X sc (eg_wp sc (d + 2)) eg_p180 (some .int) 0 0 Q 31 [some (.inr (.inr (some 45))), some (.inl x1), some (.inl x2), some (.inl x3), some (.inl x4), some (.inl x5), some (.inl s.1), some (.inl s.2), w8] [] (em_L cn mo, eh_R, M) 0 0)) (K := (fun (x : Int × eM) => Q (some (.inl ((x).1))) (em_L cn mo, eh_R, (x).2))) hx hK ?_
  intro s x hx hK w8
  obtain ⟨s1, s2⟩ := s
  refine eg_k_iload rfl rfl ?_
  refine eg_k_iload rfl rfl ?_
  refine vk_icmp rfl hx Iff.rfl (fun c18 hx => ?_) (fun c18 hx => ?_)
  · refine eg_k_ci rfl ?_
    have hx := Option.some.inj hx
    subst hx
    exact eg_k_iret rfl True.intro (Nat.le_refl _) (Nat.le_refl _) hK
  · refine eg_k_iload rfl rfl ?_
    refine vk_if rfl hx Iff.rfl (fun c19 hx => ?_) (fun c19 hx => ?_)
    · refine eg_k_iload rfl rfl ?_
      have hz := ft_180_42 (d := d) (sc := sc) hx hK
      exact hz w8
    · refine eg_k_aload rfl rfl ?_
      refine eg_k_gfa rfl rfl rfl eh_r45_10 ?_
      refine eg_k_iload rfl rfl ?_
      obtain ⟨b27, hx⟩ := vb_if hx
      refine eg_k_iald (k := 20100) rfl rfl b27.1 b27.2 ?_
      refine eg_k_goto rfl ?_
      have hz := ft_180_42 (d := d) (sc := sc) hx hK
      exact hz w8
set_option maxRecDepth 100000 in
theorem ft_180_8 {cn mo : Nat} {sc : eg_Sc} {d : Nat} {M : eM} {Q : Option eg_V → eg_H → Prop} {x1 : Int} {x2 : Int} {x3 : Int} {x4 : Int} {y0 : Int} {x : Int × eM} (hx : fn_180_8 x1 x2 x3 x4 y0 M = some x) (hK : (fun (x : Int × eM) => Q (some (.inl ((x).1))) (em_L cn mo, eh_R, (x).2)) x) : ∀ (w5 w6 w7 w8 : Option eg_V), eg_X sc (eg_wp sc (d + 2)) eg_p180 (some .int) 0 0 Q 8 [some (.inr (.inr (some 45))), some (.inl x1), some (.inl x2), some (.inl x3), some (.inl x4), w5, w6, w7, w8] [.inl y0] (em_L cn mo, eh_R, M) 0 0 := by
  intro w5 w6 w7 w8
  refine eg_k_istore (lv' := [some (.inr (.inr (some 45))), some (.inl x1), some (.inl x2), some (.inl x3), some (.inl x4), some (.inl y0), w6, w7, w8]) rfl rfl ?_
  refine eg_k_aload rfl rfl ?_
  refine eg_k_iload rfl rfl ?_
  obtain ⟨r3, h2, hx⟩ := vb_bind hx
  refine eg_k_call (c1 := 0) (z1 := 0) (as := [.inr (.inr (some 45)), .inl y0]) (rest := []) rfl eg_tj177 (Nat.le_of_ble_eq_true rfl) rfl rfl rfl (Nat.le_of_ble_eq_true rfl) (Nat.le_refl _) (Nat.le_refl _) ?_ (fun Q hQ => ft_177 h2 hQ)
  refine vk_if rfl hx Iff.rfl (fun c5 hx => ?_) (fun c5 hx => ?_)
  · refine eg_k_aload rfl rfl ?_
    refine eg_k_iload rfl rfl ?_
    obtain ⟨r7, h6, hx⟩ := vb_bind hx
    refine eg_k_call (c1 := 0) (z1 := 0) (as := [.inr (.inr (some 45)), .inl y0]) (rest := []) rfl eg_tj173 (Nat.le_of_ble_eq_true rfl) rfl rfl rfl (Nat.le_of_ble_eq_true rfl) (Nat.le_refl _) (Nat.le_refl _) ?_ (fun Q hQ => ft_173 h6 hQ)
    have hx := Option.some.inj hx
    subst hx
    exact eg_k_iret rfl True.intro (Nat.le_refl _) (Nat.le_refl _) hK
  · refine eg_k_aload rfl rfl ?_
    refine eg_k_iload rfl rfl ?_
    obtain ⟨r10, h9, hx⟩ := vb_bind hx
    refine eg_k_call (c1 := 0) (z1 := 0) (as := [.inr (.inr (some 45)), .inl y0]) (rest := []) rfl eg_tj172 (Nat.le_of_ble_eq_true rfl) rfl rfl rfl (Nat.le_of_ble_eq_true rfl) (Nat.le_refl _) (Nat.le_refl _) ?_ (fun Q hQ => ft_172 h9 hQ)
    refine vk_if rfl hx Iff.rfl (fun c12 hx => ?_) (fun c12 hx => ?_)
    · refine eg_k_aload rfl rfl ?_
      refine eg_k_iload rfl rfl ?_
      obtain ⟨r14, h13, hx⟩ := vb_bind hx
      refine eg_k_call (c1 := 0) (z1 := 0) (as := [.inr (.inr (some 45)), .inl y0]) (rest := []) rfl eg_tj173 (Nat.le_of_ble_eq_true rfl) rfl rfl rfl (Nat.le_of_ble_eq_true rfl) (Nat.le_refl _) (Nat.le_refl _) ?_ (fun Q hQ => ft_173 h13 hQ)
      have hx := Option.some.inj hx
      subst hx
      exact eg_k_iret rfl True.intro (Nat.le_refl _) (Nat.le_refl _) hK
    · refine eg_k_iload rfl rfl ?_
      refine eg_k_ci rfl ?_
      refine vk_icmp rfl hx Iff.rfl (fun c16 hx => ?_) (fun c16 hx => ?_)
      · refine eg_k_aload rfl rfl ?_
        refine eg_k_gfa rfl rfl rfl eh_r45_10 ?_
        refine eg_k_iload rfl rfl ?_
        obtain ⟨b17, hx⟩ := vb_if hx
        refine eg_k_iald (k := 20100) rfl rfl b17.1 b17.2 ?_
        refine eg_k_istore (lv' := [some (.inr (.inr (some 45))), some (.inl x1), some (.inl x2), some (.inl x3), some (.inl x4), some (.inl y0), some (.inl (M 51 (x1).toNat)), w7, w8]) rfl rfl ?_
        refine eg_k_ci rfl ?_
        refine eg_k_istore (lv' := [some (.inr (.inr (some 45))), some (.inl x1), some (.inl x2), some (.inl x3), some (.inl x4), some (.inl y0), some (.inl (M 51 (x1).toNat)), some (.inl 0), w8]) rfl rfl ?_
        have hz := ft_180_31 (d := d) (sc := sc) hx hK
        exact hz w8
      · refine eg_k_aload rfl rfl ?_
        refine eg_k_iload rfl rfl ?_
        obtain ⟨r29, h28, hx⟩ := vb_bind hx
        refine eg_k_call (c1 := 0) (z1 := 0) (as := [.inr (.inr (some 45)), .inl y0]) (rest := []) rfl eg_tj173 (Nat.le_of_ble_eq_true rfl) rfl rfl rfl (Nat.le_of_ble_eq_true rfl) (Nat.le_refl _) (Nat.le_refl _) ?_ (fun Q hQ => ft_173 h28 hQ)
        have hx := Option.some.inj hx
        subst hx
        exact eg_k_iret rfl True.intro (Nat.le_refl _) (Nat.le_refl _) hK
set_option maxRecDepth 100000 in
theorem ft_180 {cn mo : Nat} {sc : eg_Sc} {d : Nat} {M : eM} {Q : Option eg_V → eg_H → Prop} {a : Int} {b : Int} {e : Int} {f : Int} {x : Int × eM} (hx : fn_180 a b e f M = some x) (hK : Q (some (.inl ((x).1))) (em_L cn mo, eh_R, (x).2)) : eg_wp sc (d + 3) 180 [.inr (.inr (some 45)), .inl a, .inl b, .inl e, .inl f] (em_L cn mo, eh_R, M) 0 0 Q := by
  refine eg_in (lv := [some (.inr (.inr (some 45))), some (.inl a), some (.inl b), some (.inl e), some (.inl f), none, none, none, none]) eg_tj180 (Nat.le_of_ble_eq_true rfl) rfl ?_
  refine eg_k_iload rfl rfl ?_
  refine vk_if rfl hx Iff.rfl (fun c1 hx => ?_) (fun c1 hx => ?_)
  · refine eg_k_iload rfl rfl ?_
    have hz := ft_180_8 (d := d) (sc := sc) hx hK
    exact hz none none none none
  · refine eg_k_aload rfl rfl ?_
    refine eg_k_gfa rfl rfl rfl eh_r45_10 ?_
    refine eg_k_iload rfl rfl ?_
    obtain ⟨b31, hx⟩ := vb_if hx
    refine eg_k_iald (k := 20100) rfl rfl b31.1 b31.2 ?_
    refine eg_k_goto rfl ?_
    have hz := ft_180_8 (d := d) (sc := sc) hx hK
    exact hz none none none none
theorem fw_180_42 {M : eM} {c j : Nat} {v : Int} {x1 : Int} {x2 : Int} {x3 : Int} {x4 : Int} {x5 : Int} {x6 : Int} {x7 : Int} {y0 : Int} {x : (Int × Int) ⊕ (Int × eM)} (hc : c ∉ ([45] : List Nat)) (hx : fn_180_42 x1 x2 x3 x4 x5 x6 x7 y0 M = some x) (hK : (eK (fun (s : Int × Int) => M c j = v) (fun (x : Int × eM) => ((x).2) c j = v)) x) : M c j = v := by
  obtain ⟨_, hx⟩ := vb_if hx
  obtain ⟨_, hx⟩ := vb_if hx
  refine vb_ite hx (fun _ hx => ?_) (fun _ hx => ?_)
  · obtain ⟨_, hx⟩ := vb_if hx
    have hx := Option.some.inj hx
    subst hx
    exact hK
  · obtain ⟨r25, h24, hx⟩ := vb_bind hx
    have hx := Option.some.inj hx
    subst hx
    exact ((fw_173 h24 (vsub hc (by decide)) j).trans rfl).symm.trans hK
theorem fw_180_31 {M : eM} {c j : Nat} {v : Int} {x1 : Int} {x2 : Int} {x3 : Int} {x4 : Int} {x5 : Int} {s : Int × Int} {x : Int × eM} (hc : c ∉ ([45] : List Nat)) (hx : lp (fun z => fn_180_31 x1 x2 x3 x4 x5 M z.1 z.2) s = some x) (hK : (fun (x : Int × eM) => ((x).2) c j = v) x) : M c j = v := by
  refine lp_sound (P := (fun (s : Int × Int) => M c j = v)) (K := (fun (x : Int × eM) => ((x).2) c j = v)) hx hK ?_
  intro s x hx hK
  obtain ⟨s1, s2⟩ := s
  refine vb_ite hx (fun _ hx => ?_) (fun _ hx => ?_)
  · have hx := Option.some.inj hx
    subst hx
    exact (Eq.refl _).symm.trans hK
  · refine vb_ite hx (fun _ hx => ?_) (fun _ hx => ?_)
    · have hz := fw_180_42 hc hx hK
      exact (Eq.refl _).symm.trans hz
    · obtain ⟨_, hx⟩ := vb_if hx
      have hz := fw_180_42 hc hx hK
      exact (Eq.refl _).symm.trans hz
theorem fw_180_8 {M : eM} {c j : Nat} {v : Int} {x1 : Int} {x2 : Int} {x3 : Int} {x4 : Int} {y0 : Int} {x : Int × eM} (hc : c ∉ ([45] : List Nat)) (hx : fn_180_8 x1 x2 x3 x4 y0 M = some x) (hK : (fun (x : Int × eM) => ((x).2) c j = v) x) : M c j = v := by
  obtain ⟨r3, h2, hx⟩ := vb_bind hx
  refine vb_ite hx (fun _ hx => ?_) (fun _ hx => ?_)
  · obtain ⟨r7, h6, hx⟩ := vb_bind hx
    have hx := Option.some.inj hx
    subst hx
    exact ((fw_173 h6 (vsub hc (by decide)) j).trans rfl).symm.trans hK
  · obtain ⟨r10, h9, hx⟩ := vb_bind hx
    refine vb_ite hx (fun _ hx => ?_) (fun _ hx => ?_)
    · obtain ⟨r14, h13, hx⟩ := vb_bind hx
      have hx := Option.some.inj hx
      subst hx
      exact ((fw_173 h13 (vsub hc (by decide)) j).trans rfl).symm.trans hK
    · refine vb_ite hx (fun _ hx => ?_) (fun _ hx => ?_)
      · obtain ⟨_, hx⟩ := vb_if hx
        have hz := fw_180_31 hc hx hK
        exact (Eq.refl _).symm.trans hz
      · obtain ⟨r29, h28, hx⟩ := vb_bind hx
        have hx := Option.some.inj hx
        subst hx
        exact ((fw_173 h28 (vsub hc (by decide)) j).trans rfl).symm.trans hK
theorem fw_180 {M : eM} {c : Nat} {a : Int} {b : Int} {e : Int} {f : Int} {x : Int × eM} (hx : fn_180 a b e f M = some x) (hc : c ∉ ([45] : List Nat)) (j : Nat) : ((x).2) c j = M c j := by
  obtain ⟨v, hK⟩ : ∃ v, ((x).2) c j = v := ⟨_, rfl⟩
  rw [hK]
  refine Eq.symm ?_
  refine vb_ite hx (fun _ hx => ?_) (fun _ hx => ?_)
  · have hz := fw_180_8 hc hx hK
    exact (Eq.refl _).symm.trans hz
  · obtain ⟨_, hx⟩ := vb_if hx
    have hz := fw_180_8 hc hx hK
    exact (Eq.refl _).symm.trans hz
noncomputable def fn_179_17 (x1 : Int) (s1 : Int) (s2 : Int) (s3 : eM) : Option ((Int × Int × eM) ⊕ (Int × eM)) :=
  if 0 ≤ x1 ∧ x1 < 20100 then
  if (s3 55 (x1).toNat) ≤ s2 then
      some (.inr (0, s3))
    else
      (fn_180 x1 s1 s2 0 s3).bind fun r7 =>
      if r7.1 ≤ 0 then
        if 0 ≤ s1 ∧ s1 < 20100 then
        some (.inl (r7.2 53 (s1).toNat, eg_wi (s2 + 1), r7.2))
        else none
      else
        some (.inr (r7.1, r7.2))
  else none
/-- 179: WeakSchemeModel.names(I)I -/
noncomputable def fn_179 (a : Int) (M : eM) : Option (Int × eM) :=
  if 0 ≤ a ∧ a < 20100 then
  if (M 49 (a).toNat) = 4 then
      lp (fun z => fn_179_17 a z.1 z.2.1 z.2.2) (M 51 (a).toNat, 0, M)
    else
      (fn_173 a M).bind fun r12 =>
      some (r12.1, r12.2)
  else none
set_option maxRecDepth 100000 in
theorem ft_179_17 {cn mo : Nat} {sc : eg_Sc} {d : Nat} {Q : Option eg_V → eg_H → Prop} {x1 : Int} {s : Int × Int × eM} {x : Int × eM} (hx : lp (fun z => fn_179_17 x1 z.1 z.2.1 z.2.2) s = some x) (hK : (fun (x : Int × eM) => Q (some (.inl ((x).1))) (em_L cn mo, eh_R, (x).2)) x) : ∀ (w4 : Option eg_V), eg_X sc (eg_wp sc (d + 3)) eg_p179 (some .int) 0 0 Q 17 [some (.inr (.inr (some 45))), some (.inl x1), some (.inl s.1), some (.inl s.2.1), w4] [] (em_L cn mo, eh_R, s.2.2) 0 0 := by
  refine lp_sound (P := (fun (s : Int × Int × eM) => ∀ (w4 : Option eg_V), eg_X sc (eg_wp sc (d + 3)) eg_p179 (some .int) 0 0 Q 17 [some (.inr (.inr (some 45))), some (.inl x1), some (.inl s.1), some (.inl s.2.1), w4] [] (em_L cn mo, eh_R, s.2.2) 0 0)) (K := (fun (x : Int × eM) => Q (some (.inl ((x).1))) (em_L cn mo, eh_R, (x).2))) hx hK ?_
  intro s x hx hK w4
  obtain ⟨s1, s2, s3⟩ := s
  refine eg_k_iload rfl rfl ?_
  refine eg_k_aload rfl rfl ?_
  refine eg_k_gfa rfl rfl rfl eh_r45_14 ?_
  refine eg_k_iload rfl rfl ?_
  obtain ⟨b4, hx⟩ := vb_if hx
  refine eg_k_sald (k := 20100) rfl rfl b4.1 b4.2 ?_
  refine vk_icmp rfl hx Iff.rfl (fun c5 hx => ?_) (fun c5 hx => ?_)
  · refine eg_k_ci rfl ?_
    have hx := Option.some.inj hx
    subst hx
    exact eg_k_iret rfl True.intro (Nat.le_refl _) (Nat.le_refl _) hK
  · refine eg_k_aload rfl rfl ?_
    refine eg_k_iload rfl rfl ?_
    refine eg_k_iload rfl rfl ?_
    refine eg_k_iload rfl rfl ?_
    refine eg_k_ci rfl ?_
    obtain ⟨r7, h6, hx⟩ := vb_bind hx
    refine eg_k_call (c1 := 0) (z1 := 0) (as := [.inr (.inr (some 45)), .inl x1, .inl s1, .inl s2, .inl 0]) (rest := []) rfl eg_tj180 (Nat.le_of_ble_eq_true rfl) rfl rfl rfl (Nat.le_of_ble_eq_true rfl) (Nat.le_refl _) (Nat.le_refl _) ?_ (fun Q hQ => ft_180 h6 hQ)
    refine eg_k_istore (lv' := [some (.inr (.inr (some 45))), some (.inl x1), some (.inl s1), some (.inl s2), some (.inl r7.1)]) rfl rfl ?_
    refine eg_k_iload rfl rfl ?_
    refine vk_if rfl hx Iff.rfl (fun c9 hx => ?_) (fun c9 hx => ?_)
    · refine eg_k_aload rfl rfl ?_
      refine eg_k_gfa rfl rfl rfl eh_r45_12 ?_
      refine eg_k_iload rfl rfl ?_
      obtain ⟨b10, hx⟩ := vb_if hx
      refine eg_k_iald (k := 20100) rfl rfl b10.1 b10.2 ?_
      refine eg_k_istore (lv' := [some (.inr (.inr (some 45))), some (.inl x1), some (.inl (r7.2 53 (s1).toNat)), some (.inl s2), some (.inl r7.1)]) rfl rfl ?_
      refine eg_k_iinc (lv' := [some (.inr (.inr (some 45))), some (.inl x1), some (.inl (r7.2 53 (s1).toNat)), some (.inl (eg_wi (s2 + 1))), some (.inl r7.1)]) rfl rfl rfl ?_
      refine eg_k_goto rfl ?_
      have hx := Option.some.inj hx
      subst hx
      exact hK (some (.inl r7.1))
    · refine eg_k_iload rfl rfl ?_
      have hx := Option.some.inj hx
      subst hx
      exact eg_k_iret rfl True.intro (Nat.le_refl _) (Nat.le_refl _) hK
set_option maxRecDepth 100000 in
theorem ft_179 {cn mo : Nat} {sc : eg_Sc} {d : Nat} {M : eM} {Q : Option eg_V → eg_H → Prop} {a : Int} {x : Int × eM} (hx : fn_179 a M = some x) (hK : Q (some (.inl ((x).1))) (em_L cn mo, eh_R, (x).2)) : eg_wp sc (d + 4) 179 [.inr (.inr (some 45)), .inl a] (em_L cn mo, eh_R, M) 0 0 Q := by
  refine eg_in (lv := [some (.inr (.inr (some 45))), some (.inl a), none, none, none]) eg_tj179 (Nat.le_of_ble_eq_true rfl) rfl ?_
  refine eg_k_aload rfl rfl ?_
  refine eg_k_gfa rfl rfl rfl eh_r45_8 ?_
  refine eg_k_iload rfl rfl ?_
  obtain ⟨b1, hx⟩ := vb_if hx
  refine eg_k_bald (k := 20100) rfl rfl b1.1 b1.2 ?_
  refine eg_k_ci rfl ?_
  refine vk_icmp rfl hx Iff.rfl (fun c2 hx => ?_) (fun c2 hx => ?_)
  · refine eg_k_aload rfl rfl ?_
    refine eg_k_gfa rfl rfl rfl eh_r45_10 ?_
    refine eg_k_iload rfl rfl ?_
    refine eg_k_iald (k := 20100) rfl rfl b1.1 b1.2 ?_
    refine eg_k_istore (lv' := [some (.inr (.inr (some 45))), some (.inl a), some (.inl (M 51 (a).toNat)), none, none]) rfl rfl ?_
    refine eg_k_ci rfl ?_
    refine eg_k_istore (lv' := [some (.inr (.inr (some 45))), some (.inl a), some (.inl (M 51 (a).toNat)), some (.inl 0), none]) rfl rfl ?_
    have hz := ft_179_17 (d := d) (sc := sc) hx hK
    exact hz none
  · refine eg_k_aload rfl rfl ?_
    refine eg_k_iload rfl rfl ?_
    obtain ⟨r12, h11, hx⟩ := vb_bind hx
    refine eg_k_call (c1 := 0) (z1 := 0) (as := [.inr (.inr (some 45)), .inl a]) (rest := []) rfl eg_tj173 (Nat.le_of_ble_eq_true rfl) rfl rfl rfl (Nat.le_of_ble_eq_true rfl) (Nat.le_refl _) (Nat.le_refl _) ?_ (fun Q hQ => ft_173 h11 hQ)
    have hx := Option.some.inj hx
    subst hx
    exact eg_k_iret rfl True.intro (Nat.le_refl _) (Nat.le_refl _) hK
theorem fw_179_17 {c j : Nat} {v : Int} {x1 : Int} {s : Int × Int × eM} {x : Int × eM} (hc : c ∉ ([45] : List Nat)) (hx : lp (fun z => fn_179_17 x1 z.1 z.2.1 z.2.2) s = some x) (hK : (fun (x : Int × eM) => ((x).2) c j = v) x) : s.2.2 c j = v := by
  refine lp_sound (P := (fun (s : Int × Int × eM) => s.2.2 c j = v)) (K := (fun (x : Int × eM) => ((x).2) c j = v)) hx hK ?_
  intro s x hx hK
  obtain ⟨s1, s2, s3⟩ := s
  obtain ⟨_, hx⟩ := vb_if hx
  refine vb_ite hx (fun _ hx => ?_) (fun _ hx => ?_)
  · have hx := Option.some.inj hx
    subst hx
    exact (Eq.refl _).symm.trans hK
  · obtain ⟨r7, h6, hx⟩ := vb_bind hx
    refine vb_ite hx (fun _ hx => ?_) (fun _ hx => ?_)
    · obtain ⟨_, hx⟩ := vb_if hx
      have hx := Option.some.inj hx
      subst hx
      exact ((fw_180 h6 (vsub hc (by decide)) j).trans rfl).symm.trans hK
    · have hx := Option.some.inj hx
      subst hx
      exact ((fw_180 h6 (vsub hc (by decide)) j).trans rfl).symm.trans hK
theorem fw_179 {M : eM} {c : Nat} {a : Int} {x : Int × eM} (hx : fn_179 a M = some x) (hc : c ∉ ([45] : List Nat)) (j : Nat) : ((x).2) c j = M c j := by
  obtain ⟨v, hK⟩ : ∃ v, ((x).2) c j = v := ⟨_, rfl⟩
  rw [hK]
  refine Eq.symm ?_
  obtain ⟨_, hx⟩ := vb_if hx
  refine vb_ite hx (fun _ hx => ?_) (fun _ hx => ?_)
  · have hz := fw_179_17 hc hx hK
    exact (Eq.refl _).symm.trans hz
  · obtain ⟨r12, h11, hx⟩ := vb_bind hx
    have hx := Option.some.inj hx
    subst hx
    exact ((fw_173 h11 (vsub hc (by decide)) j).trans rfl).symm.trans hK
noncomputable def fn_181_2 (x1 : Int) (x2 : Int) (s1 : Int) (s2 : eM) : Option ((Int × eM) ⊕ (eM)) :=
  if s1 = x2 then
    some (.inr s2)
  else
    (fn_178 s1 0 0 s2).bind fun m4 =>
    if 0 ≤ s1 ∧ s1 < 20100 then
    some (.inl (m4 54 (s1).toNat, m4))
    else none
/-- 181: WeakSchemeModel.laterAll(II)V -/
noncomputable def fn_181 (a : Int) (b : Int) (M : eM) : Option (eM) :=
  lp (fun z => fn_181_2 a b z.1 z.2) (a, M)
set_option maxRecDepth 100000 in
theorem ft_181_2 {cn mo : Nat} {sc : eg_Sc} {d : Nat} {Q : Option eg_V → eg_H → Prop} {x1 : Int} {x2 : Int} {s : Int × eM} {x : eM} (hx : lp (fun z => fn_181_2 x1 x2 z.1 z.2) s = some x) (hK : (fun (x : eM) => Q (none) (em_L cn mo, eh_R, x)) x) : eg_X sc (eg_wp sc (d + 1)) eg_p181 none 0 0 Q 2 [some (.inr (.inr (some 45))), some (.inl x1), some (.inl x2), some (.inl s.1)] [] (em_L cn mo, eh_R, s.2) 0 0 := by
  refine lp_sound (P := (fun (s : Int × eM) => eg_X sc (eg_wp sc (d + 1)) eg_p181 none 0 0 Q 2 [some (.inr (.inr (some 45))), some (.inl x1), some (.inl x2), some (.inl s.1)] [] (em_L cn mo, eh_R, s.2) 0 0)) (K := (fun (x : eM) => Q (none) (em_L cn mo, eh_R, x))) hx hK ?_
  intro s x hx hK
  obtain ⟨s1, s2⟩ := s
  refine eg_k_iload rfl rfl ?_
  refine eg_k_iload rfl rfl ?_
  refine vk_icmp rfl hx Iff.rfl (fun c1 hx => ?_) (fun c1 hx => ?_)
  · have hx := Option.some.inj hx
    subst hx
    exact eg_k_ret rfl rfl (Nat.le_refl _) (Nat.le_refl _) hK
  · refine eg_k_aload rfl rfl ?_
    refine eg_k_iload rfl rfl ?_
    refine eg_k_ci rfl ?_
    refine eg_k_ci rfl ?_
    obtain ⟨m4, h2, hx⟩ := vb_bind hx
    refine eg_k_call (c1 := 0) (z1 := 0) (as := [.inr (.inr (some 45)), .inl s1, .inl 0, .inl 0]) (rest := []) rfl eg_tj178 (Nat.le_of_ble_eq_true rfl) rfl rfl rfl (Nat.le_of_ble_eq_true rfl) (Nat.le_refl _) (Nat.le_refl _) ?_ (fun Q hQ => ft_178 h2 hQ)
    refine eg_k_aload rfl rfl ?_
    refine eg_k_gfa rfl rfl rfl eh_r45_13 ?_
    refine eg_k_iload rfl rfl ?_
    obtain ⟨b5, hx⟩ := vb_if hx
    refine eg_k_iald (k := 20100) rfl rfl b5.1 b5.2 ?_
    refine eg_k_istore (lv' := [some (.inr (.inr (some 45))), some (.inl x1), some (.inl x2), some (.inl (m4 54 (s1).toNat))]) rfl rfl ?_
    refine eg_k_goto rfl ?_
    have hx := Option.some.inj hx
    subst hx
    exact hK
set_option maxRecDepth 100000 in
theorem ft_181 {cn mo : Nat} {sc : eg_Sc} {d : Nat} {M : eM} {Q : Option eg_V → eg_H → Prop} {a : Int} {b : Int} {x : eM} (hx : fn_181 a b M = some x) (hK : Q (none) (em_L cn mo, eh_R, x)) : eg_wp sc (d + 2) 181 [.inr (.inr (some 45)), .inl a, .inl b] (em_L cn mo, eh_R, M) 0 0 Q := by
  refine eg_in (lv := [some (.inr (.inr (some 45))), some (.inl a), some (.inl b), none]) eg_tj181 (Nat.le_of_ble_eq_true rfl) rfl ?_
  refine eg_k_iload rfl rfl ?_
  refine eg_k_istore (lv' := [some (.inr (.inr (some 45))), some (.inl a), some (.inl b), some (.inl a)]) rfl rfl ?_
  have hz := ft_181_2 (d := d) (sc := sc) hx hK
  exact hz
theorem fw_181_2 {c j : Nat} {v : Int} {x1 : Int} {x2 : Int} {s : Int × eM} {x : eM} (hc : c ∉ ([45, 59, 60, 61] : List Nat)) (hx : lp (fun z => fn_181_2 x1 x2 z.1 z.2) s = some x) (hK : (fun (x : eM) => x c j = v) x) : s.2 c j = v := by
  refine lp_sound (P := (fun (s : Int × eM) => s.2 c j = v)) (K := (fun (x : eM) => x c j = v)) hx hK ?_
  intro s x hx hK
  obtain ⟨s1, s2⟩ := s
  refine vb_ite hx (fun _ hx => ?_) (fun _ hx => ?_)
  · have hx := Option.some.inj hx
    subst hx
    exact (Eq.refl _).symm.trans hK
  · obtain ⟨m4, h2, hx⟩ := vb_bind hx
    obtain ⟨_, hx⟩ := vb_if hx
    have hx := Option.some.inj hx
    subst hx
    exact ((fw_178 h2 (vsub hc (by decide)) j).trans rfl).symm.trans hK
theorem fw_181 {M : eM} {c : Nat} {a : Int} {b : Int} {x : eM} (hx : fn_181 a b M = some x) (hc : c ∉ ([45, 59, 60, 61] : List Nat)) (j : Nat) : x c j = M c j := by
  obtain ⟨v, hK⟩ : ∃ v, x c j = v := ⟨_, rfl⟩
  rw [hK]
  refine Eq.symm ?_
  have hz := fw_181_2 hc hx hK
  exact (Eq.refl _).symm.trans hz
noncomputable def fn_171_109 (x1 : Int) (x2 : Int) (x3 : Int) (x5 : Int) (s1 : Int) (s2 : Int) (s3 : eM) : Option ((Int × Int × eM) ⊕ (Int × eM)) :=
  if s2 < 0 then
    some (.inr (0, s3))
  else
    (fn_178 (eg_wi ((-1) - s1)) s2 x5 s3).bind fun m88 =>
    if 0 ≤ s1 ∧ s1 < 20100 then
    some (.inl (m88 54 (s1).toNat, eg_wi (s2 + (-1)), m88))
    else none
/-- 171: WeakSchemeModel.lookAt(IZ)I -/
noncomputable def fn_171 (a : Int) (b : Int) (M : eM) : Option (Int × eM) :=
  if 0 ≤ a ∧ a < 20100 then
  if (M 49 (a).toNat) = 4 then
      (fn_174 a b M).bind fun r4 =>
      if ¬ r4 = 0 then
        (fn_175 a M).bind fun r8 =>
        if r8 = (-1) then
          (fn_181 (M 52 (a).toNat) (-1) M).bind fun m13 =>
          some (0, m13)
        else if r8 = 0 then
          some (0, M)
        else if r8 = 1 then
          (fn_181 (M 52 (a).toNat) (M 51 (a).toNat) M).bind fun m18 =>
          some (0, m18)
        else if r8 = 2 then
          (fn_176 a M).bind fun r20 =>
          (fn_177 r20 M).bind fun r23 =>
          if r23 = 0 then
            (fn_173 r20 M).bind fun r27 =>
            some (r27.1, r27.2)
          else
            (fn_172 r20 M).bind fun r30 =>
            if r30 = 0 then
              if 0 ≤ r20 ∧ r20 < 20100 then
              (fn_178 (M 53 (r20).toNat) 0 0 M).bind fun m36 =>
                some (0, m36)
              else none
            else
              (fn_173 r20 M).bind fun r38 =>
              some (r38.1, r38.2)
        else if r8 = 3 then
          (fn_176 a M).bind fun r41 =>
          (fn_177 r41 M).bind fun r44 =>
          if r44 = 0 then
            (fn_173 r41 M).bind fun r48 =>
            some (r48.1, r48.2)
          else
            (fn_172 r41 M).bind fun r51 =>
            if r51 = 0 then
              if 0 ≤ r41 ∧ r41 < 20100 then
              (fn_178 (M 53 (r41).toNat) 0 0 M).bind fun m57 =>
                some (0, m57)
              else none
            else
              (fn_173 r41 M).bind fun r59 =>
              some (r59.1, r59.2)
        else if r8 = 4 then
          (fn_176 a M).bind fun r62 =>
          (fn_179 r62 M).bind fun r65 =>
          (fn_176 a r65.2).bind fun r69 =>
          (fn_181 (r65.2 52 (a).toNat) r69 r65.2).bind fun m73 =>
          some (r65.1, m73)
        else if r8 = 5 then
          (fn_176 a M).bind fun r75 =>
          if 0 ≤ r75 ∧ r75 < 20100 then
          if (M 49 (r75).toNat) = 4 then
              (fn_181 (M 52 (a).toNat) r75 M).bind fun m82 =>
              lp (fun z => fn_171_109 a b 0 r75 z.1 z.2.1 z.2.2) (m82 52 (r75).toNat, eg_wi ((m82 55 (r75).toNat) - 1), m82)
            else
              (fn_173 r75 M).bind fun r91 =>
              some (r91.1, r91.2)
          else none
        else 
          (fn_181 (M 52 (a).toNat) (M 51 (a).toNat) M).bind fun m97 =>
          some (0, m97)
      else
        (fn_173 a M).bind fun r99 =>
        some (r99.1, r99.2)
    else
      (fn_172 a M).bind fun r102 =>
      if r102 = 0 then
        some (0, M)
      else
        (fn_173 a M).bind fun r106 =>
        some (r106.1, r106.2)
  else none
set_option maxRecDepth 100000 in
theorem ft_171_109 {cn mo : Nat} {sc : eg_Sc} {d : Nat} {Q : Option eg_V → eg_H → Prop} {x1 : Int} {x2 : Int} {x3 : Int} {x5 : Int} {s : Int × Int × eM} {x : Int × eM} (hx : lp (fun z => fn_171_109 x1 x2 x3 x5 z.1 z.2.1 z.2.2) s = some x) (hK : (fun (x : Int × eM) => Q (some (.inl ((x).1))) (em_L cn mo, eh_R, (x).2)) x) : eg_X sc (eg_wp sc (d + 4)) eg_p171 (some .int) 0 0 Q 109 [some (.inr (.inr (some 45))), some (.inl x1), some (.inl x2), some (.inl x3), none, some (.inl x5), some (.inl s.1), some (.inl s.2.1)] [] (em_L cn mo, eh_R, s.2.2) 0 0 := by
  refine lp_sound (P := (fun (s : Int × Int × eM) => eg_X sc (eg_wp sc (d + 4)) eg_p171 (some .int) 0 0 Q 109 [some (.inr (.inr (some 45))), some (.inl x1), some (.inl x2), some (.inl x3), none, some (.inl x5), some (.inl s.1), some (.inl s.2.1)] [] (em_L cn mo, eh_R, s.2.2) 0 0)) (K := (fun (x : Int × eM) => Q (some (.inl ((x).1))) (em_L cn mo, eh_R, (x).2))) hx hK ?_
  intro s x hx hK
  obtain ⟨s1, s2, s3⟩ := s
  refine eg_k_iload rfl rfl ?_
  refine vk_if rfl hx Iff.rfl (fun c85 hx => ?_) (fun c85 hx => ?_)
  · refine eg_k_ci rfl ?_
    have hx := Option.some.inj hx
    subst hx
    exact eg_k_iret rfl True.intro (Nat.le_refl _) (Nat.le_refl _) hK
  · refine eg_k_aload rfl rfl ?_
    refine eg_k_ci rfl ?_
    refine eg_k_iload rfl rfl ?_
    refine eg_k_isub rfl ?_
    refine eg_k_iload rfl rfl ?_
    refine eg_k_iload rfl rfl ?_
    obtain ⟨m88, h86, hx⟩ := vb_bind hx
    refine eg_k_call (c1 := 0) (z1 := 0) (as := [.inr (.inr (some 45)), .inl (eg_wi ((-1) - s1)), .inl s2, .inl x5]) (rest := []) rfl eg_tj178 (Nat.le_of_ble_eq_true rfl) rfl rfl rfl (Nat.le_of_ble_eq_true rfl) (Nat.le_refl _) (Nat.le_refl _) ?_ (fun Q hQ => ft_178 h86 hQ)
    refine eg_k_aload rfl rfl ?_
    refine eg_k_gfa rfl rfl rfl eh_r45_13 ?_
    refine eg_k_iload rfl rfl ?_
    obtain ⟨b89, hx⟩ := vb_if hx
    refine eg_k_iald (k := 20100) rfl rfl b89.1 b89.2 ?_
    refine eg_k_istore (lv' := [some (.inr (.inr (some 45))), some (.inl x1), some (.inl x2), some (.inl x3), none, some (.inl x5), some (.inl (m88 54 (s1).toNat)), some (.inl s2)]) rfl rfl ?_
    refine eg_k_iinc (lv' := [some (.inr (.inr (some 45))), some (.inl x1), some (.inl x2), some (.inl x3), none, some (.inl x5), some (.inl (m88 54 (s1).toNat)), some (.inl (eg_wi (s2 + (-1))))]) rfl rfl rfl ?_
    refine eg_k_goto rfl ?_
    have hx := Option.some.inj hx
    subst hx
    exact hK
set_option maxRecDepth 100000 in
theorem ft_171 {cn mo : Nat} {sc : eg_Sc} {d : Nat} {M : eM} {Q : Option eg_V → eg_H → Prop} {a : Int} {b : Int} {x : Int × eM} (hx : fn_171 a b M = some x) (hK : Q (some (.inl ((x).1))) (em_L cn mo, eh_R, (x).2)) : eg_wp sc (d + 5) 171 [.inr (.inr (some 45)), .inl a, .inl b] (em_L cn mo, eh_R, M) 0 0 Q := by
  refine eg_in (lv := [some (.inr (.inr (some 45))), some (.inl a), some (.inl b), none, none, none, none, none]) eg_tj171 (Nat.le_of_ble_eq_true rfl) rfl ?_
  refine eg_k_aload rfl rfl ?_
  refine eg_k_gfa rfl rfl rfl eh_r45_8 ?_
  refine eg_k_iload rfl rfl ?_
  obtain ⟨b1, hx⟩ := vb_if hx
  refine eg_k_bald (k := 20100) rfl rfl b1.1 b1.2 ?_
  refine eg_k_ci rfl ?_
  refine vk_icmp rfl hx Iff.rfl (fun c2 hx => ?_) (fun c2 hx => ?_)
  · refine eg_k_aload rfl rfl ?_
    refine eg_k_iload rfl rfl ?_
    refine eg_k_iload rfl rfl ?_
    obtain ⟨r4, h3, hx⟩ := vb_bind hx
    refine eg_k_call (c1 := 0) (z1 := 0) (as := [.inr (.inr (some 45)), .inl a, .inl b]) (rest := []) rfl eg_tj174 (Nat.le_of_ble_eq_true rfl) rfl rfl rfl (Nat.le_of_ble_eq_true rfl) (Nat.le_refl _) (Nat.le_refl _) ?_ (fun Q hQ => ft_174 h3 hQ)
    refine vk_if rfl hx Iff.rfl (fun c6 hx => ?_) (fun c6 hx => ?_)
    · refine eg_k_ci rfl ?_
      refine eg_k_istore (lv' := [some (.inr (.inr (some 45))), some (.inl a), some (.inl b), some (.inl 0), none, none, none, none]) rfl rfl ?_
      refine eg_k_aload rfl rfl ?_
      refine eg_k_iload rfl rfl ?_
      obtain ⟨r8, h7, hx⟩ := vb_bind hx
      refine eg_k_call (c1 := 0) (z1 := 0) (as := [.inr (.inr (some 45)), .inl a]) (rest := []) rfl eg_tj175 (Nat.le_of_ble_eq_true rfl) rfl rfl rfl (Nat.le_of_ble_eq_true rfl) (Nat.le_refl _) (Nat.le_refl _) ?_ (fun Q hQ => ft_175 h7 hQ)
      refine vb_ite hx (fun e9 hx => ?_) (fun e9 hx => ?_)
      · refine eg_k_tsw (x := r8) (t := 127) rfl (by rw [e9]; rfl) ?_
        refine eg_k_aload rfl rfl ?_
        refine eg_k_aload rfl rfl ?_
        refine eg_k_gfa rfl rfl rfl eh_r45_11 ?_
        refine eg_k_iload rfl rfl ?_
        refine eg_k_iald (k := 20100) rfl rfl b1.1 b1.2 ?_
        refine eg_k_ci rfl ?_
        obtain ⟨m13, h11, hx⟩ := vb_bind hx
        refine eg_k_call (c1 := 0) (z1 := 0) (as := [.inr (.inr (some 45)), .inl (M 52 (a).toNat), .inl (-1)]) (rest := []) rfl eg_tj181 (Nat.le_of_ble_eq_true rfl) rfl rfl rfl (Nat.le_of_ble_eq_true rfl) (Nat.le_refl _) (Nat.le_refl _) ?_ (fun Q hQ => ft_181 h11 hQ)
        refine eg_k_ci rfl ?_
        have hx := Option.some.inj hx
        subst hx
        exact eg_k_iret rfl True.intro (Nat.le_refl _) (Nat.le_refl _) hK
      have e901_ := e9
      refine vb_ite hx (fun e9 hx => ?_) (fun e9 hx => ?_)
      · refine eg_k_tsw (x := r8) (t := 31) rfl (by rw [e9]; rfl) ?_
        refine eg_k_ci rfl ?_
        have hx := Option.some.inj hx
        subst hx
        exact eg_k_iret rfl True.intro (Nat.le_refl _) (Nat.le_refl _) hK
      have e0_ := e9
      refine vb_ite hx (fun e9 hx => ?_) (fun e9 hx => ?_)
      · refine eg_k_tsw (x := r8) (t := 136) rfl (by rw [e9]; rfl) ?_
        refine eg_k_aload rfl rfl ?_
        refine eg_k_aload rfl rfl ?_
        refine eg_k_gfa rfl rfl rfl eh_r45_11 ?_
        refine eg_k_iload rfl rfl ?_
        refine eg_k_iald (k := 20100) rfl rfl b1.1 b1.2 ?_
        refine eg_k_aload rfl rfl ?_
        refine eg_k_gfa rfl rfl rfl eh_r45_10 ?_
        refine eg_k_iload rfl rfl ?_
        refine eg_k_iald (k := 20100) rfl rfl b1.1 b1.2 ?_
        obtain ⟨m18, h16, hx⟩ := vb_bind hx
        refine eg_k_call (c1 := 0) (z1 := 0) (as := [.inr (.inr (some 45)), .inl (M 52 (a).toNat), .inl (M 51 (a).toNat)]) (rest := []) rfl eg_tj181 (Nat.le_of_ble_eq_true rfl) rfl rfl rfl (Nat.le_of_ble_eq_true rfl) (Nat.le_refl _) (Nat.le_refl _) ?_ (fun Q hQ => ft_181 h16 hQ)
        refine eg_k_ci rfl ?_
        have hx := Option.some.inj hx
        subst hx
        exact eg_k_iret rfl True.intro (Nat.le_refl _) (Nat.le_refl _) hK
      have e1_ := e9
      refine vb_ite hx (fun e9 hx => ?_) (fun e9 hx => ?_)
      · refine eg_k_tsw (x := r8) (t := 33) rfl (by rw [e9]; rfl) ?_
        refine eg_k_aload rfl rfl ?_
        refine eg_k_iload rfl rfl ?_
        obtain ⟨r20, h19, hx⟩ := vb_bind hx
        refine eg_k_call (c1 := 0) (z1 := 0) (as := [.inr (.inr (some 45)), .inl a]) (rest := []) rfl eg_tj176 (Nat.le_of_ble_eq_true rfl) rfl rfl rfl (Nat.le_of_ble_eq_true rfl) (Nat.le_refl _) (Nat.le_refl _) ?_ (fun Q hQ => ft_176 h19 hQ)
        refine eg_k_istore (lv' := [some (.inr (.inr (some 45))), some (.inl a), some (.inl b), some (.inl 0), some (.inl r20), none, none, none]) rfl rfl ?_
        refine eg_k_aload rfl rfl ?_
        refine eg_k_iload rfl rfl ?_
        obtain ⟨r23, h22, hx⟩ := vb_bind hx
        refine eg_k_call (c1 := 0) (z1 := 0) (as := [.inr (.inr (some 45)), .inl r20]) (rest := []) rfl eg_tj177 (Nat.le_of_ble_eq_true rfl) rfl rfl rfl (Nat.le_of_ble_eq_true rfl) (Nat.le_refl _) (Nat.le_refl _) ?_ (fun Q hQ => ft_177 h22 hQ)
        refine vk_if rfl hx Iff.rfl (fun c25 hx => ?_) (fun c25 hx => ?_)
        · refine eg_k_aload rfl rfl ?_
          refine eg_k_iload rfl rfl ?_
          obtain ⟨r27, h26, hx⟩ := vb_bind hx
          refine eg_k_call (c1 := 0) (z1 := 0) (as := [.inr (.inr (some 45)), .inl r20]) (rest := []) rfl eg_tj173 (Nat.le_of_ble_eq_true rfl) rfl rfl rfl (Nat.le_of_ble_eq_true rfl) (Nat.le_refl _) (Nat.le_refl _) ?_ (fun Q hQ => ft_173 h26 hQ)
          have hx := Option.some.inj hx
          subst hx
          exact eg_k_iret rfl True.intro (Nat.le_refl _) (Nat.le_refl _) hK
        · refine eg_k_aload rfl rfl ?_
          refine eg_k_iload rfl rfl ?_
          obtain ⟨r30, h29, hx⟩ := vb_bind hx
          refine eg_k_call (c1 := 0) (z1 := 0) (as := [.inr (.inr (some 45)), .inl r20]) (rest := []) rfl eg_tj172 (Nat.le_of_ble_eq_true rfl) rfl rfl rfl (Nat.le_of_ble_eq_true rfl) (Nat.le_refl _) (Nat.le_refl _) ?_ (fun Q hQ => ft_172 h29 hQ)
          refine vk_if rfl hx Iff.rfl (fun c32 hx => ?_) (fun c32 hx => ?_)
          · refine eg_k_aload rfl rfl ?_
            refine eg_k_aload rfl rfl ?_
            refine eg_k_gfa rfl rfl rfl eh_r45_12 ?_
            refine eg_k_iload rfl rfl ?_
            obtain ⟨b33, hx⟩ := vb_if hx
            refine eg_k_iald (k := 20100) rfl rfl b33.1 b33.2 ?_
            refine eg_k_ci rfl ?_
            refine eg_k_ci rfl ?_
            obtain ⟨m36, h34, hx⟩ := vb_bind hx
            refine eg_k_call (c1 := 0) (z1 := 0) (as := [.inr (.inr (some 45)), .inl (M 53 (r20).toNat), .inl 0, .inl 0]) (rest := []) rfl eg_tj178 (Nat.le_of_ble_eq_true rfl) rfl rfl rfl (Nat.le_of_ble_eq_true rfl) (Nat.le_refl _) (Nat.le_refl _) ?_ (fun Q hQ => ft_178 h34 hQ)
            refine eg_k_ci rfl ?_
            have hx := Option.some.inj hx
            subst hx
            exact eg_k_iret rfl True.intro (Nat.le_refl _) (Nat.le_refl _) hK
          · refine eg_k_aload rfl rfl ?_
            refine eg_k_iload rfl rfl ?_
            obtain ⟨r38, h37, hx⟩ := vb_bind hx
            refine eg_k_call (c1 := 0) (z1 := 0) (as := [.inr (.inr (some 45)), .inl r20]) (rest := []) rfl eg_tj173 (Nat.le_of_ble_eq_true rfl) rfl rfl rfl (Nat.le_of_ble_eq_true rfl) (Nat.le_refl _) (Nat.le_refl _) ?_ (fun Q hQ => ft_173 h37 hQ)
            have hx := Option.some.inj hx
            subst hx
            exact eg_k_iret rfl True.intro (Nat.le_refl _) (Nat.le_refl _) hK
      have e2_ := e9
      refine vb_ite hx (fun e9 hx => ?_) (fun e9 hx => ?_)
      · refine eg_k_tsw (x := r8) (t := 33) rfl (by rw [e9]; rfl) ?_
        refine eg_k_aload rfl rfl ?_
        refine eg_k_iload rfl rfl ?_
        obtain ⟨r41, h40, hx⟩ := vb_bind hx
        refine eg_k_call (c1 := 0) (z1 := 0) (as := [.inr (.inr (some 45)), .inl a]) (rest := []) rfl eg_tj176 (Nat.le_of_ble_eq_true rfl) rfl rfl rfl (Nat.le_of_ble_eq_true rfl) (Nat.le_refl _) (Nat.le_refl _) ?_ (fun Q hQ => ft_176 h40 hQ)
        refine eg_k_istore (lv' := [some (.inr (.inr (some 45))), some (.inl a), some (.inl b), some (.inl 0), some (.inl r41), none, none, none]) rfl rfl ?_
        refine eg_k_aload rfl rfl ?_
        refine eg_k_iload rfl rfl ?_
        obtain ⟨r44, h43, hx⟩ := vb_bind hx
        refine eg_k_call (c1 := 0) (z1 := 0) (as := [.inr (.inr (some 45)), .inl r41]) (rest := []) rfl eg_tj177 (Nat.le_of_ble_eq_true rfl) rfl rfl rfl (Nat.le_of_ble_eq_true rfl) (Nat.le_refl _) (Nat.le_refl _) ?_ (fun Q hQ => ft_177 h43 hQ)
        refine vk_if rfl hx Iff.rfl (fun c46 hx => ?_) (fun c46 hx => ?_)
        · refine eg_k_aload rfl rfl ?_
          refine eg_k_iload rfl rfl ?_
          obtain ⟨r48, h47, hx⟩ := vb_bind hx
          refine eg_k_call (c1 := 0) (z1 := 0) (as := [.inr (.inr (some 45)), .inl r41]) (rest := []) rfl eg_tj173 (Nat.le_of_ble_eq_true rfl) rfl rfl rfl (Nat.le_of_ble_eq_true rfl) (Nat.le_refl _) (Nat.le_refl _) ?_ (fun Q hQ => ft_173 h47 hQ)
          have hx := Option.some.inj hx
          subst hx
          exact eg_k_iret rfl True.intro (Nat.le_refl _) (Nat.le_refl _) hK
        · refine eg_k_aload rfl rfl ?_
          refine eg_k_iload rfl rfl ?_
          obtain ⟨r51, h50, hx⟩ := vb_bind hx
          refine eg_k_call (c1 := 0) (z1 := 0) (as := [.inr (.inr (some 45)), .inl r41]) (rest := []) rfl eg_tj172 (Nat.le_of_ble_eq_true rfl) rfl rfl rfl (Nat.le_of_ble_eq_true rfl) (Nat.le_refl _) (Nat.le_refl _) ?_ (fun Q hQ => ft_172 h50 hQ)
          refine vk_if rfl hx Iff.rfl (fun c53 hx => ?_) (fun c53 hx => ?_)
          · refine eg_k_aload rfl rfl ?_
            refine eg_k_aload rfl rfl ?_
            refine eg_k_gfa rfl rfl rfl eh_r45_12 ?_
            refine eg_k_iload rfl rfl ?_
            obtain ⟨b54, hx⟩ := vb_if hx
            refine eg_k_iald (k := 20100) rfl rfl b54.1 b54.2 ?_
            refine eg_k_ci rfl ?_
            refine eg_k_ci rfl ?_
            obtain ⟨m57, h55, hx⟩ := vb_bind hx
            refine eg_k_call (c1 := 0) (z1 := 0) (as := [.inr (.inr (some 45)), .inl (M 53 (r41).toNat), .inl 0, .inl 0]) (rest := []) rfl eg_tj178 (Nat.le_of_ble_eq_true rfl) rfl rfl rfl (Nat.le_of_ble_eq_true rfl) (Nat.le_refl _) (Nat.le_refl _) ?_ (fun Q hQ => ft_178 h55 hQ)
            refine eg_k_ci rfl ?_
            have hx := Option.some.inj hx
            subst hx
            exact eg_k_iret rfl True.intro (Nat.le_refl _) (Nat.le_refl _) hK
          · refine eg_k_aload rfl rfl ?_
            refine eg_k_iload rfl rfl ?_
            obtain ⟨r59, h58, hx⟩ := vb_bind hx
            refine eg_k_call (c1 := 0) (z1 := 0) (as := [.inr (.inr (some 45)), .inl r41]) (rest := []) rfl eg_tj173 (Nat.le_of_ble_eq_true rfl) rfl rfl rfl (Nat.le_of_ble_eq_true rfl) (Nat.le_refl _) (Nat.le_refl _) ?_ (fun Q hQ => ft_173 h58 hQ)
            have hx := Option.some.inj hx
            subst hx
            exact eg_k_iret rfl True.intro (Nat.le_refl _) (Nat.le_refl _) hK
      have e3_ := e9
      refine vb_ite hx (fun e9 hx => ?_) (fun e9 hx => ?_)
      · refine eg_k_tsw (x := r8) (t := 59) rfl (by rw [e9]; rfl) ?_
        refine eg_k_aload rfl rfl ?_
        refine eg_k_aload rfl rfl ?_
        refine eg_k_iload rfl rfl ?_
        obtain ⟨r62, h61, hx⟩ := vb_bind hx
        refine eg_k_call (c1 := 0) (z1 := 0) (as := [.inr (.inr (some 45)), .inl a]) (rest := [.inr (.inr (some 45))]) rfl eg_tj176 (Nat.le_of_ble_eq_true rfl) rfl rfl rfl (Nat.le_of_ble_eq_true rfl) (Nat.le_refl _) (Nat.le_refl _) ?_ (fun Q hQ => ft_176 h61 hQ)
        obtain ⟨r65, h64, hx⟩ := vb_bind hx
        refine eg_k_call (c1 := 0) (z1 := 0) (as := [.inr (.inr (some 45)), .inl r62]) (rest := []) rfl eg_tj179 (Nat.le_of_ble_eq_true rfl) rfl rfl rfl (Nat.le_of_ble_eq_true rfl) (Nat.le_refl _) (Nat.le_refl _) ?_ (fun Q hQ => ft_179 h64 hQ)
        refine eg_k_istore (lv' := [some (.inr (.inr (some 45))), some (.inl a), some (.inl b), some (.inl r65.1), none, none, none, none]) rfl rfl ?_
        refine eg_k_aload rfl rfl ?_
        refine eg_k_aload rfl rfl ?_
        refine eg_k_gfa rfl rfl rfl eh_r45_11 ?_
        refine eg_k_iload rfl rfl ?_
        refine eg_k_iald (k := 20100) rfl rfl b1.1 b1.2 ?_
        refine eg_k_aload rfl rfl ?_
        refine eg_k_iload rfl rfl ?_
        obtain ⟨r69, h68, hx⟩ := vb_bind hx
        refine eg_k_call (c1 := 0) (z1 := 0) (as := [.inr (.inr (some 45)), .inl a]) (rest := [.inl (r65.2 52 (a).toNat), .inr (.inr (some 45))]) rfl eg_tj176 (Nat.le_of_ble_eq_true rfl) rfl rfl rfl (Nat.le_of_ble_eq_true rfl) (Nat.le_refl _) (Nat.le_refl _) ?_ (fun Q hQ => ft_176 h68 hQ)
        obtain ⟨m73, h71, hx⟩ := vb_bind hx
        refine eg_k_call (c1 := 0) (z1 := 0) (as := [.inr (.inr (some 45)), .inl (r65.2 52 (a).toNat), .inl r69]) (rest := []) rfl eg_tj181 (Nat.le_of_ble_eq_true rfl) rfl rfl rfl (Nat.le_of_ble_eq_true rfl) (Nat.le_refl _) (Nat.le_refl _) ?_ (fun Q hQ => ft_181 h71 hQ)
        refine eg_k_iload rfl rfl ?_
        have hx := Option.some.inj hx
        subst hx
        exact eg_k_iret rfl True.intro (Nat.le_refl _) (Nat.le_refl _) hK
      have e4_ := e9
      refine vb_ite hx (fun e9 hx => ?_) (fun e9 hx => ?_)
      · refine eg_k_tsw (x := r8) (t := 76) rfl (by rw [e9]; rfl) ?_
        refine eg_k_aload rfl rfl ?_
        refine eg_k_iload rfl rfl ?_
        obtain ⟨r75, h74, hx⟩ := vb_bind hx
        refine eg_k_call (c1 := 0) (z1 := 0) (as := [.inr (.inr (some 45)), .inl a]) (rest := []) rfl eg_tj176 (Nat.le_of_ble_eq_true rfl) rfl rfl rfl (Nat.le_of_ble_eq_true rfl) (Nat.le_refl _) (Nat.le_refl _) ?_ (fun Q hQ => ft_176 h74 hQ)
        refine eg_k_istore (lv' := [some (.inr (.inr (some 45))), some (.inl a), some (.inl b), some (.inl 0), none, some (.inl r75), none, none]) rfl rfl ?_
        refine eg_k_aload rfl rfl ?_
        refine eg_k_gfa rfl rfl rfl eh_r45_8 ?_
        refine eg_k_iload rfl rfl ?_
        obtain ⟨b77, hx⟩ := vb_if hx
        refine eg_k_bald (k := 20100) rfl rfl b77.1 b77.2 ?_
        refine eg_k_ci rfl ?_
        refine vk_icmp rfl hx Iff.rfl (fun c78 hx => ?_) (fun c78 hx => ?_)
        · refine eg_k_aload rfl rfl ?_
          refine eg_k_aload rfl rfl ?_
          refine eg_k_gfa rfl rfl rfl eh_r45_11 ?_
          refine eg_k_iload rfl rfl ?_
          refine eg_k_iald (k := 20100) rfl rfl b1.1 b1.2 ?_
          refine eg_k_iload rfl rfl ?_
          obtain ⟨m82, h80, hx⟩ := vb_bind hx
          refine eg_k_call (c1 := 0) (z1 := 0) (as := [.inr (.inr (some 45)), .inl (M 52 (a).toNat), .inl r75]) (rest := []) rfl eg_tj181 (Nat.le_of_ble_eq_true rfl) rfl rfl rfl (Nat.le_of_ble_eq_true rfl) (Nat.le_refl _) (Nat.le_refl _) ?_ (fun Q hQ => ft_181 h80 hQ)
          refine eg_k_aload rfl rfl ?_
          refine eg_k_gfa rfl rfl rfl eh_r45_11 ?_
          refine eg_k_iload rfl rfl ?_
          refine eg_k_iald (k := 20100) rfl rfl b77.1 b77.2 ?_
          refine eg_k_istore (lv' := [some (.inr (.inr (some 45))), some (.inl a), some (.inl b), some (.inl 0), none, some (.inl r75), some (.inl (m82 52 (r75).toNat)), none]) rfl rfl ?_
          refine eg_k_aload rfl rfl ?_
          refine eg_k_gfa rfl rfl rfl eh_r45_14 ?_
          refine eg_k_iload rfl rfl ?_
          refine eg_k_sald (k := 20100) rfl rfl b77.1 b77.2 ?_
          refine eg_k_ci rfl ?_
          refine eg_k_isub rfl ?_
          refine eg_k_istore (lv' := [some (.inr (.inr (some 45))), some (.inl a), some (.inl b), some (.inl 0), none, some (.inl r75), some (.inl (m82 52 (r75).toNat)), some (.inl (eg_wi ((m82 55 (r75).toNat) - 1)))]) rfl rfl ?_
          have hz := ft_171_109 (d := d) (sc := sc) hx hK
          exact hz
        · refine eg_k_aload rfl rfl ?_
          refine eg_k_iload rfl rfl ?_
          obtain ⟨r91, h90, hx⟩ := vb_bind hx
          refine eg_k_call (c1 := 0) (z1 := 0) (as := [.inr (.inr (some 45)), .inl r75]) (rest := []) rfl eg_tj173 (Nat.le_of_ble_eq_true rfl) rfl rfl rfl (Nat.le_of_ble_eq_true rfl) (Nat.le_refl _) (Nat.le_refl _) ?_ (fun Q hQ => ft_173 h90 hQ)
          have hx := Option.some.inj hx
          subst hx
          exact eg_k_iret rfl True.intro (Nat.le_refl _) (Nat.le_refl _) hK
      have e5_ := e9
      refine eg_k_tsw (x := r8) (t := 136) rfl (by unfold eg_tb; rw [if_pos (by omega)]; rfl) ?_
      refine eg_k_aload rfl rfl ?_
      refine eg_k_aload rfl rfl ?_
      refine eg_k_gfa rfl rfl rfl eh_r45_11 ?_
      refine eg_k_iload rfl rfl ?_
      refine eg_k_iald (k := 20100) rfl rfl b1.1 b1.2 ?_
      refine eg_k_aload rfl rfl ?_
      refine eg_k_gfa rfl rfl rfl eh_r45_10 ?_
      refine eg_k_iload rfl rfl ?_
      refine eg_k_iald (k := 20100) rfl rfl b1.1 b1.2 ?_
      obtain ⟨m97, h95, hx⟩ := vb_bind hx
      refine eg_k_call (c1 := 0) (z1 := 0) (as := [.inr (.inr (some 45)), .inl (M 52 (a).toNat), .inl (M 51 (a).toNat)]) (rest := []) rfl eg_tj181 (Nat.le_of_ble_eq_true rfl) rfl rfl rfl (Nat.le_of_ble_eq_true rfl) (Nat.le_refl _) (Nat.le_refl _) ?_ (fun Q hQ => ft_181 h95 hQ)
      refine eg_k_ci rfl ?_
      have hx := Option.some.inj hx
      subst hx
      exact eg_k_iret rfl True.intro (Nat.le_refl _) (Nat.le_refl _) hK
    · refine eg_k_aload rfl rfl ?_
      refine eg_k_iload rfl rfl ?_
      obtain ⟨r99, h98, hx⟩ := vb_bind hx
      refine eg_k_call (c1 := 0) (z1 := 0) (as := [.inr (.inr (some 45)), .inl a]) (rest := []) rfl eg_tj173 (Nat.le_of_ble_eq_true rfl) rfl rfl rfl (Nat.le_of_ble_eq_true rfl) (Nat.le_refl _) (Nat.le_refl _) ?_ (fun Q hQ => ft_173 h98 hQ)
      have hx := Option.some.inj hx
      subst hx
      exact eg_k_iret rfl True.intro (Nat.le_refl _) (Nat.le_refl _) hK
  · refine eg_k_aload rfl rfl ?_
    refine eg_k_iload rfl rfl ?_
    obtain ⟨r102, h101, hx⟩ := vb_bind hx
    refine eg_k_call (c1 := 0) (z1 := 0) (as := [.inr (.inr (some 45)), .inl a]) (rest := []) rfl eg_tj172 (Nat.le_of_ble_eq_true rfl) rfl rfl rfl (Nat.le_of_ble_eq_true rfl) (Nat.le_refl _) (Nat.le_refl _) ?_ (fun Q hQ => ft_172 h101 hQ)
    refine vk_if rfl hx Iff.rfl (fun c104 hx => ?_) (fun c104 hx => ?_)
    · refine eg_k_ci rfl ?_
      have hx := Option.some.inj hx
      subst hx
      exact eg_k_iret rfl True.intro (Nat.le_refl _) (Nat.le_refl _) hK
    · refine eg_k_aload rfl rfl ?_
      refine eg_k_iload rfl rfl ?_
      obtain ⟨r106, h105, hx⟩ := vb_bind hx
      refine eg_k_call (c1 := 0) (z1 := 0) (as := [.inr (.inr (some 45)), .inl a]) (rest := []) rfl eg_tj173 (Nat.le_of_ble_eq_true rfl) rfl rfl rfl (Nat.le_of_ble_eq_true rfl) (Nat.le_refl _) (Nat.le_refl _) ?_ (fun Q hQ => ft_173 h105 hQ)
      refine eg_k_goto rfl ?_
      have hx := Option.some.inj hx
      subst hx
      exact eg_k_iret rfl True.intro (Nat.le_refl _) (Nat.le_refl _) hK
theorem fw_171_109 {c j : Nat} {v : Int} {x1 : Int} {x2 : Int} {x3 : Int} {x5 : Int} {s : Int × Int × eM} {x : Int × eM} (hc : c ∉ ([45, 59, 60, 61] : List Nat)) (hx : lp (fun z => fn_171_109 x1 x2 x3 x5 z.1 z.2.1 z.2.2) s = some x) (hK : (fun (x : Int × eM) => ((x).2) c j = v) x) : s.2.2 c j = v := by
  refine lp_sound (P := (fun (s : Int × Int × eM) => s.2.2 c j = v)) (K := (fun (x : Int × eM) => ((x).2) c j = v)) hx hK ?_
  intro s x hx hK
  obtain ⟨s1, s2, s3⟩ := s
  refine vb_ite hx (fun _ hx => ?_) (fun _ hx => ?_)
  · have hx := Option.some.inj hx
    subst hx
    exact (Eq.refl _).symm.trans hK
  · obtain ⟨m88, h86, hx⟩ := vb_bind hx
    obtain ⟨_, hx⟩ := vb_if hx
    have hx := Option.some.inj hx
    subst hx
    exact ((fw_178 h86 (vsub hc (by decide)) j).trans rfl).symm.trans hK
theorem fw_171 {M : eM} {c : Nat} {a : Int} {b : Int} {x : Int × eM} (hx : fn_171 a b M = some x) (hc : c ∉ ([45, 59, 60, 61] : List Nat)) (j : Nat) : ((x).2) c j = M c j := by
  obtain ⟨v, hK⟩ : ∃ v, ((x).2) c j = v := ⟨_, rfl⟩
  rw [hK]
  refine Eq.symm ?_
  obtain ⟨_, hx⟩ := vb_if hx
  refine vb_ite hx (fun _ hx => ?_) (fun _ hx => ?_)
  · obtain ⟨r4, h3, hx⟩ := vb_bind hx
    refine vb_ite hx (fun _ hx => ?_) (fun _ hx => ?_)
    · obtain ⟨r8, h7, hx⟩ := vb_bind hx
      refine vb_ite hx (fun _ hx => ?_) (fun _ hx => ?_)
      · obtain ⟨m13, h11, hx⟩ := vb_bind hx
        have hx := Option.some.inj hx
        subst hx
        exact ((fw_181 h11 (vsub hc (by decide)) j).trans rfl).symm.trans hK
      refine vb_ite hx (fun _ hx => ?_) (fun _ hx => ?_)
      · have hx := Option.some.inj hx
        subst hx
        exact (Eq.refl _).symm.trans hK
      refine vb_ite hx (fun _ hx => ?_) (fun _ hx => ?_)
      · obtain ⟨m18, h16, hx⟩ := vb_bind hx
        have hx := Option.some.inj hx
        subst hx
        exact ((fw_181 h16 (vsub hc (by decide)) j).trans rfl).symm.trans hK
      refine vb_ite hx (fun _ hx => ?_) (fun _ hx => ?_)
      · obtain ⟨r20, h19, hx⟩ := vb_bind hx
        obtain ⟨r23, h22, hx⟩ := vb_bind hx
        refine vb_ite hx (fun _ hx => ?_) (fun _ hx => ?_)
        · obtain ⟨r27, h26, hx⟩ := vb_bind hx
          have hx := Option.some.inj hx
          subst hx
          exact ((fw_173 h26 (vsub hc (by decide)) j).trans rfl).symm.trans hK
        · obtain ⟨r30, h29, hx⟩ := vb_bind hx
          refine vb_ite hx (fun _ hx => ?_) (fun _ hx => ?_)
          · obtain ⟨_, hx⟩ := vb_if hx
            obtain ⟨m36, h34, hx⟩ := vb_bind hx
            have hx := Option.some.inj hx
            subst hx
            exact ((fw_178 h34 (vsub hc (by decide)) j).trans rfl).symm.trans hK
          · obtain ⟨r38, h37, hx⟩ := vb_bind hx
            have hx := Option.some.inj hx
            subst hx
            exact ((fw_173 h37 (vsub hc (by decide)) j).trans rfl).symm.trans hK
      refine vb_ite hx (fun _ hx => ?_) (fun _ hx => ?_)
      · obtain ⟨r41, h40, hx⟩ := vb_bind hx
        obtain ⟨r44, h43, hx⟩ := vb_bind hx
        refine vb_ite hx (fun _ hx => ?_) (fun _ hx => ?_)
        · obtain ⟨r48, h47, hx⟩ := vb_bind hx
          have hx := Option.some.inj hx
          subst hx
          exact ((fw_173 h47 (vsub hc (by decide)) j).trans rfl).symm.trans hK
        · obtain ⟨r51, h50, hx⟩ := vb_bind hx
          refine vb_ite hx (fun _ hx => ?_) (fun _ hx => ?_)
          · obtain ⟨_, hx⟩ := vb_if hx
            obtain ⟨m57, h55, hx⟩ := vb_bind hx
            have hx := Option.some.inj hx
            subst hx
            exact ((fw_178 h55 (vsub hc (by decide)) j).trans rfl).symm.trans hK
          · obtain ⟨r59, h58, hx⟩ := vb_bind hx
            have hx := Option.some.inj hx
            subst hx
            exact ((fw_173 h58 (vsub hc (by decide)) j).trans rfl).symm.trans hK
      refine vb_ite hx (fun _ hx => ?_) (fun _ hx => ?_)
      · obtain ⟨r62, h61, hx⟩ := vb_bind hx
        obtain ⟨r65, h64, hx⟩ := vb_bind hx
        obtain ⟨r69, h68, hx⟩ := vb_bind hx
        obtain ⟨m73, h71, hx⟩ := vb_bind hx
        have hx := Option.some.inj hx
        subst hx
        exact ((fw_181 h71 (vsub hc (by decide)) j).trans ((fw_179 h64 (vsub hc (by decide)) j).trans rfl)).symm.trans hK
      refine vb_ite hx (fun _ hx => ?_) (fun _ hx => ?_)
      · obtain ⟨r75, h74, hx⟩ := vb_bind hx
        obtain ⟨_, hx⟩ := vb_if hx
        refine vb_ite hx (fun _ hx => ?_) (fun _ hx => ?_)
        · obtain ⟨m82, h80, hx⟩ := vb_bind hx
          have hz := fw_171_109 hc hx hK
          exact ((fw_181 h80 (vsub hc (by decide)) j).trans rfl).symm.trans hz
        · obtain ⟨r91, h90, hx⟩ := vb_bind hx
          have hx := Option.some.inj hx
          subst hx
          exact ((fw_173 h90 (vsub hc (by decide)) j).trans rfl).symm.trans hK
      obtain ⟨m97, h95, hx⟩ := vb_bind hx
      have hx := Option.some.inj hx
      subst hx
      exact ((fw_181 h95 (vsub hc (by decide)) j).trans rfl).symm.trans hK
    · obtain ⟨r99, h98, hx⟩ := vb_bind hx
      have hx := Option.some.inj hx
      subst hx
      exact ((fw_173 h98 (vsub hc (by decide)) j).trans rfl).symm.trans hK
  · obtain ⟨r102, h101, hx⟩ := vb_bind hx
    refine vb_ite hx (fun _ hx => ?_) (fun _ hx => ?_)
    · have hx := Option.some.inj hx
      subst hx
      exact (Eq.refl _).symm.trans hK
    · obtain ⟨r106, h105, hx⟩ := vb_bind hx
      have hx := Option.some.inj hx
      subst hx
      exact ((fw_173 h105 (vsub hc (by decide)) j).trans rfl).symm.trans hK
noncomputable def fn_182_22 (x1 : Int) (x2 : Int) (x3 : Int) (y0 : Int) (M : eM) : Option (Int × eM) :=
  if ¬ y0 = 0 then
    (fn_180 x3 x1 x2 1 M).bind fun r5 =>
    if ¬ r5.1 = 0 then
      some (r5.1, r5.2)
    else
      (fn_176 x1 r5.2).bind fun r9 =>
      (fn_178 r9 0 0 r5.2).bind fun m13 =>
      some (r5.1, m13)
  else
    (fn_173 x1 M).bind fun r15 =>
    some (r15.1, r15.2)
noncomputable def fn_182_21 (x1 : Int) (x2 : Int) (x3 : Int) (M : eM) : Option (Int × eM) :=
  fn_182_22 x1 x2 x3 0 M
/-- 182: WeakSchemeModel.binding(III)I -/
noncomputable def fn_182 (a : Int) (b : Int) (e : Int) (M : eM) : Option (Int × eM) :=
  if 0 ≤ a ∧ a < 20100 then
  if ¬ (M 49 (a).toNat) = 4 then
      fn_182_21 a b e M
    else
      if ¬ (M 55 (a).toNat) = 2 then
        fn_182_21 a b e M
      else
        (fn_177 (M 51 (a).toNat) M).bind fun r21 =>
        if r21 = 0 then
          fn_182_21 a b e M
        else
          fn_182_22 a b e 1 M
  else none
set_option maxRecDepth 100000 in
theorem ft_182_22 {cn mo : Nat} {sc : eg_Sc} {d : Nat} {M : eM} {Q : Option eg_V → eg_H → Prop} {x1 : Int} {x2 : Int} {x3 : Int} {y0 : Int} {x : Int × eM} (hx : fn_182_22 x1 x2 x3 y0 M = some x) (hK : (fun (x : Int × eM) => Q (some (.inl ((x).1))) (em_L cn mo, eh_R, (x).2)) x) : ∀ (w4 w5 : Option eg_V), eg_X sc (eg_wp sc (d + 3)) eg_p182 (some .int) 0 0 Q 22 [some (.inr (.inr (some 45))), some (.inl x1), some (.inl x2), some (.inl x3), w4, w5] [.inl y0] (em_L cn mo, eh_R, M) 0 0 := by
  intro w4 w5
  refine eg_k_istore (lv' := [some (.inr (.inr (some 45))), some (.inl x1), some (.inl x2), some (.inl x3), some (.inl y0), w5]) rfl rfl ?_
  refine eg_k_iload rfl rfl ?_
  refine vk_if rfl hx Iff.rfl (fun c3 hx => ?_) (fun c3 hx => ?_)
  · refine eg_k_aload rfl rfl ?_
    refine eg_k_iload rfl rfl ?_
    refine eg_k_iload rfl rfl ?_
    refine eg_k_iload rfl rfl ?_
    refine eg_k_ci rfl ?_
    obtain ⟨r5, h4, hx⟩ := vb_bind hx
    refine eg_k_call (c1 := 0) (z1 := 0) (as := [.inr (.inr (some 45)), .inl x3, .inl x1, .inl x2, .inl 1]) (rest := []) rfl eg_tj180 (Nat.le_of_ble_eq_true rfl) rfl rfl rfl (Nat.le_of_ble_eq_true rfl) (Nat.le_refl _) (Nat.le_refl _) ?_ (fun Q hQ => ft_180 h4 hQ)
    refine eg_k_istore (lv' := [some (.inr (.inr (some 45))), some (.inl x1), some (.inl x2), some (.inl x3), some (.inl y0), some (.inl r5.1)]) rfl rfl ?_
    refine eg_k_iload rfl rfl ?_
    refine vk_if rfl hx Iff.rfl (fun c7 hx => ?_) (fun c7 hx => ?_)
    · refine eg_k_iload rfl rfl ?_
      have hx := Option.some.inj hx
      subst hx
      exact eg_k_iret rfl True.intro (Nat.le_refl _) (Nat.le_refl _) hK
    · refine eg_k_aload rfl rfl ?_
      refine eg_k_aload rfl rfl ?_
      refine eg_k_iload rfl rfl ?_
      obtain ⟨r9, h8, hx⟩ := vb_bind hx
      refine eg_k_call (c1 := 0) (z1 := 0) (as := [.inr (.inr (some 45)), .inl x1]) (rest := [.inr (.inr (some 45))]) rfl eg_tj176 (Nat.le_of_ble_eq_true rfl) rfl rfl rfl (Nat.le_of_ble_eq_true rfl) (Nat.le_refl _) (Nat.le_refl _) ?_ (fun Q hQ => ft_176 h8 hQ)
      refine eg_k_ci rfl ?_
      refine eg_k_ci rfl ?_
      obtain ⟨m13, h11, hx⟩ := vb_bind hx
      refine eg_k_call (c1 := 0) (z1 := 0) (as := [.inr (.inr (some 45)), .inl r9, .inl 0, .inl 0]) (rest := []) rfl eg_tj178 (Nat.le_of_ble_eq_true rfl) rfl rfl rfl (Nat.le_of_ble_eq_true rfl) (Nat.le_refl _) (Nat.le_refl _) ?_ (fun Q hQ => ft_178 h11 hQ)
      refine eg_k_iload rfl rfl ?_
      have hx := Option.some.inj hx
      subst hx
      exact eg_k_iret rfl True.intro (Nat.le_refl _) (Nat.le_refl _) hK
  · refine eg_k_aload rfl rfl ?_
    refine eg_k_iload rfl rfl ?_
    obtain ⟨r15, h14, hx⟩ := vb_bind hx
    refine eg_k_call (c1 := 0) (z1 := 0) (as := [.inr (.inr (some 45)), .inl x1]) (rest := []) rfl eg_tj173 (Nat.le_of_ble_eq_true rfl) rfl rfl rfl (Nat.le_of_ble_eq_true rfl) (Nat.le_refl _) (Nat.le_refl _) ?_ (fun Q hQ => ft_173 h14 hQ)
    have hx := Option.some.inj hx
    subst hx
    exact eg_k_iret rfl True.intro (Nat.le_refl _) (Nat.le_refl _) hK
set_option maxRecDepth 100000 in
theorem ft_182_21 {cn mo : Nat} {sc : eg_Sc} {d : Nat} {M : eM} {Q : Option eg_V → eg_H → Prop} {x1 : Int} {x2 : Int} {x3 : Int} {x : Int × eM} (hx : fn_182_21 x1 x2 x3 M = some x) (hK : (fun (x : Int × eM) => Q (some (.inl ((x).1))) (em_L cn mo, eh_R, (x).2)) x) : ∀ (w4 w5 : Option eg_V), eg_X sc (eg_wp sc (d + 3)) eg_p182 (some .int) 0 0 Q 21 [some (.inr (.inr (some 45))), some (.inl x1), some (.inl x2), some (.inl x3), w4, w5] [] (em_L cn mo, eh_R, M) 0 0 := by
  intro w4 w5
  refine eg_k_ci rfl ?_
  have hz := ft_182_22 (d := d) (sc := sc) hx hK
  exact hz w4 w5
set_option maxRecDepth 100000 in
theorem ft_182 {cn mo : Nat} {sc : eg_Sc} {d : Nat} {M : eM} {Q : Option eg_V → eg_H → Prop} {a : Int} {b : Int} {e : Int} {x : Int × eM} (hx : fn_182 a b e M = some x) (hK : Q (some (.inl ((x).1))) (em_L cn mo, eh_R, (x).2)) : eg_wp sc (d + 4) 182 [.inr (.inr (some 45)), .inl a, .inl b, .inl e] (em_L cn mo, eh_R, M) 0 0 Q := by
  refine eg_in (lv := [some (.inr (.inr (some 45))), some (.inl a), some (.inl b), some (.inl e), none, none]) eg_tj182 (Nat.le_of_ble_eq_true rfl) rfl ?_
  refine eg_k_aload rfl rfl ?_
  refine eg_k_gfa rfl rfl rfl eh_r45_8 ?_
  refine eg_k_iload rfl rfl ?_
  obtain ⟨b1, hx⟩ := vb_if hx
  refine eg_k_bald (k := 20100) rfl rfl b1.1 b1.2 ?_
  refine eg_k_ci rfl ?_
  refine vk_icmp rfl hx Iff.rfl (fun c2 hx => ?_) (fun c2 hx => ?_)
  · have hz := ft_182_21 (d := d) (sc := sc) hx hK
    exact hz none none
  · refine eg_k_aload rfl rfl ?_
    refine eg_k_gfa rfl rfl rfl eh_r45_14 ?_
    refine eg_k_iload rfl rfl ?_
    refine eg_k_sald (k := 20100) rfl rfl b1.1 b1.2 ?_
    refine eg_k_ci rfl ?_
    refine vk_icmp rfl hx Iff.rfl (fun c18 hx => ?_) (fun c18 hx => ?_)
    · have hz := ft_182_21 (d := d) (sc := sc) hx hK
      exact hz none none
    · refine eg_k_aload rfl rfl ?_
      refine eg_k_aload rfl rfl ?_
      refine eg_k_gfa rfl rfl rfl eh_r45_10 ?_
      refine eg_k_iload rfl rfl ?_
      refine eg_k_iald (k := 20100) rfl rfl b1.1 b1.2 ?_
      obtain ⟨r21, h20, hx⟩ := vb_bind hx
      refine eg_k_call (c1 := 0) (z1 := 0) (as := [.inr (.inr (some 45)), .inl (M 51 (a).toNat)]) (rest := []) rfl eg_tj177 (Nat.le_of_ble_eq_true rfl) rfl rfl rfl (Nat.le_of_ble_eq_true rfl) (Nat.le_refl _) (Nat.le_refl _) ?_ (fun Q hQ => ft_177 h20 hQ)
      refine vk_if rfl hx Iff.rfl (fun c23 hx => ?_) (fun c23 hx => ?_)
      · have hz := ft_182_21 (d := d) (sc := sc) hx hK
        exact hz none none
      · refine eg_k_ci rfl ?_
        refine eg_k_goto rfl ?_
        have hz := ft_182_22 (d := d) (sc := sc) hx hK
        exact hz none none
theorem fw_182_22 {M : eM} {c j : Nat} {v : Int} {x1 : Int} {x2 : Int} {x3 : Int} {y0 : Int} {x : Int × eM} (hc : c ∉ ([45, 59, 60, 61] : List Nat)) (hx : fn_182_22 x1 x2 x3 y0 M = some x) (hK : (fun (x : Int × eM) => ((x).2) c j = v) x) : M c j = v := by
  refine vb_ite hx (fun _ hx => ?_) (fun _ hx => ?_)
  · obtain ⟨r5, h4, hx⟩ := vb_bind hx
    refine vb_ite hx (fun _ hx => ?_) (fun _ hx => ?_)
    · have hx := Option.some.inj hx
      subst hx
      exact ((fw_180 h4 (vsub hc (by decide)) j).trans rfl).symm.trans hK
    · obtain ⟨r9, h8, hx⟩ := vb_bind hx
      obtain ⟨m13, h11, hx⟩ := vb_bind hx
      have hx := Option.some.inj hx
      subst hx
      exact ((fw_178 h11 (vsub hc (by decide)) j).trans ((fw_180 h4 (vsub hc (by decide)) j).trans rfl)).symm.trans hK
  · obtain ⟨r15, h14, hx⟩ := vb_bind hx
    have hx := Option.some.inj hx
    subst hx
    exact ((fw_173 h14 (vsub hc (by decide)) j).trans rfl).symm.trans hK
theorem fw_182_21 {M : eM} {c j : Nat} {v : Int} {x1 : Int} {x2 : Int} {x3 : Int} {x : Int × eM} (hc : c ∉ ([45, 59, 60, 61] : List Nat)) (hx : fn_182_21 x1 x2 x3 M = some x) (hK : (fun (x : Int × eM) => ((x).2) c j = v) x) : M c j = v := by
  have hz := fw_182_22 hc hx hK
  exact (Eq.refl _).symm.trans hz
theorem fw_182 {M : eM} {c : Nat} {a : Int} {b : Int} {e : Int} {x : Int × eM} (hx : fn_182 a b e M = some x) (hc : c ∉ ([45, 59, 60, 61] : List Nat)) (j : Nat) : ((x).2) c j = M c j := by
  obtain ⟨v, hK⟩ : ∃ v, ((x).2) c j = v := ⟨_, rfl⟩
  rw [hK]
  refine Eq.symm ?_
  obtain ⟨_, hx⟩ := vb_if hx
  refine vb_ite hx (fun _ hx => ?_) (fun _ hx => ?_)
  · have hz := fw_182_21 hc hx hK
    exact (Eq.refl _).symm.trans hz
  · refine vb_ite hx (fun _ hx => ?_) (fun _ hx => ?_)
    · have hz := fw_182_21 hc hx hK
      exact (Eq.refl _).symm.trans hz
    · obtain ⟨r21, h20, hx⟩ := vb_bind hx
      refine vb_ite hx (fun _ hx => ?_) (fun _ hx => ?_)
      · have hz := fw_182_21 hc hx hK
        exact (Eq.refl _).symm.trans hz
      · have hz := fw_182_22 hc hx hK
        exact (Eq.refl _).symm.trans hz
noncomputable def fn_170_13 (x1 : Int) (s1 : Int) (s2 : eM) : Option ((Int × eM) ⊕ ((Int × eM) ⊕ (Int × eM))) :=
  if ¬ s1 = 0 then
    if s1 ≤ 0 then
      if 0 ≤ x1 ∧ x1 < 20100 then
      some (.inr (.inl (s2 53 (x1).toNat, s2)))
      else none
    else
      some (.inr (.inr (s1, s2)))
  else
    if (s2 45 23) ≤ 0 then
      if s1 ≤ 0 then
        if 0 ≤ x1 ∧ x1 < 20100 then
        some (.inr (.inl (s2 53 (x1).toNat, s2)))
        else none
      else
        some (.inr (.inr (s1, s2)))
    else
      if 0 ≤ (eg_wi ((s2 45 23) - 1)) ∧ (eg_wi ((s2 45 23) - 1)) < 4100 then
      if (s2 59 (eg_wi ((s2 45 23) - 1)).toNat) < 0 then
          (fn_182 (eg_wi ((-1) - (s2 59 (eg_wi ((s2 45 23) - 1)).toNat))) (s2 60 (eg_wi ((s2 45 23) - 1)).toNat) (s2 61 (eg_wi ((s2 45 23) - 1)).toNat) (eg_u s2 45 23 (eg_wi ((s2 45 23) - 1)))).bind fun r16 =>
          some (.inl (r16.1, r16.2))
        else
          (fn_171 (s2 59 (eg_wi ((s2 45 23) - 1)).toNat) 0 (eg_u s2 45 23 (eg_wi ((s2 45 23) - 1)))).bind fun r19 =>
          some (.inl (r19.1, r19.2))
      else none
noncomputable def fn_170_3 (s1 : Int) (s2 : eM) : Option ((Int × eM) ⊕ (Int × eM)) :=
  if s1 < 0 then
    some (.inr (0, s2))
  else
    (fn_171 s1 1 (eg_u s2 45 23 0)).bind fun r3 =>
    lp (fun z => fn_170_13 s1 z.1 z.2) (r3.1, r3.2)
/-- 170: WeakSchemeModel.shapes()I -/
noncomputable def fn_170 (M : eM) : Option (Int × eM) :=
  lp (fun z => fn_170_3 z.1 z.2) (M 45 21, M)
set_option maxRecDepth 100000 in
theorem ft_170_13 {cn mo : Nat} {sc : eg_Sc} {d : Nat} {Q : Option eg_V → eg_H → Prop} {x1 : Int} {s : Int × eM} {x : (Int × eM) ⊕ (Int × eM)} (hx : lp (fun z => fn_170_13 x1 z.1 z.2) s = some x) (hK : (eK (fun (s : Int × eM) => ∀ (w2 w3 : Option eg_V), eg_X sc (eg_wp sc (d + 5)) eg_p170 (some .int) 0 0 Q 3 [some (.inr (.inr (some 45))), some (.inl s.1), w2, w3] [] (em_L cn mo, eh_R, s.2) 0 0) (fun (x : Int × eM) => Q (some (.inl ((x).1))) (em_L cn mo, eh_R, (x).2))) x) : ∀ (w3 : Option eg_V), eg_X sc (eg_wp sc (d + 5)) eg_p170 (some .int) 0 0 Q 13 [some (.inr (.inr (some 45))), some (.inl x1), some (.inl s.1), w3] [] (em_L cn mo, eh_R, s.2) 0 0 := by
  refine lp_sound (P := (fun (s : Int × eM) => ∀ (w3 : Option eg_V), eg_X sc (eg_wp sc (d + 5)) eg_p170 (some .int) 0 0 Q 13 [some (.inr (.inr (some 45))), some (.inl x1), some (.inl s.1), w3] [] (em_L cn mo, eh_R, s.2) 0 0)) (K := (eK (fun (s : Int × eM) => ∀ (w2 w3 : Option eg_V), eg_X sc (eg_wp sc (d + 5)) eg_p170 (some .int) 0 0 Q 3 [some (.inr (.inr (some 45))), some (.inl s.1), w2, w3] [] (em_L cn mo, eh_R, s.2) 0 0) (fun (x : Int × eM) => Q (some (.inl ((x).1))) (em_L cn mo, eh_R, (x).2)))) hx hK ?_
  intro s x hx hK w3
  obtain ⟨s1, s2⟩ := s
  refine eg_k_iload rfl rfl ?_
  refine vk_if rfl hx Iff.rfl (fun c5 hx => ?_) (fun c5 hx => ?_)
  · refine eg_k_iload rfl rfl ?_
    refine vk_if rfl hx Iff.rfl (fun c6 hx => ?_) (fun c6 hx => ?_)
    · refine eg_k_aload rfl rfl ?_
      refine eg_k_gfa rfl rfl rfl eh_r45_12 ?_
      refine eg_k_iload rfl rfl ?_
      obtain ⟨b7, hx⟩ := vb_if hx
      refine eg_k_iald (k := 20100) rfl rfl b7.1 b7.2 ?_
      refine eg_k_istore (lv' := [some (.inr (.inr (some 45))), some (.inl (s2 53 (x1).toNat)), some (.inl s1), w3]) rfl rfl ?_
      refine eg_k_goto rfl ?_
      have hx := Option.some.inj hx
      subst hx
      exact hK (some (.inl s1)) w3
    · refine eg_k_iload rfl rfl ?_
      have hx := Option.some.inj hx
      subst hx
      exact eg_k_iret rfl True.intro (Nat.le_refl _) (Nat.le_refl _) hK
  · refine eg_k_aload rfl rfl ?_
    refine eg_k_gfi rfl rfl rfl ?_
    refine vk_if rfl hx Iff.rfl (fun c8 hx => ?_) (fun c8 hx => ?_)
    · refine eg_k_iload rfl rfl ?_
      refine vk_if rfl hx Iff.rfl (fun c9 hx => ?_) (fun c9 hx => ?_)
      · refine eg_k_aload rfl rfl ?_
        refine eg_k_gfa rfl rfl rfl eh_r45_12 ?_
        refine eg_k_iload rfl rfl ?_
        obtain ⟨b10, hx⟩ := vb_if hx
        refine eg_k_iald (k := 20100) rfl rfl b10.1 b10.2 ?_
        refine eg_k_istore (lv' := [some (.inr (.inr (some 45))), some (.inl (s2 53 (x1).toNat)), some (.inl s1), w3]) rfl rfl ?_
        refine eg_k_goto rfl ?_
        have hx := Option.some.inj hx
        subst hx
        exact hK (some (.inl s1)) w3
      · refine eg_k_iload rfl rfl ?_
        have hx := Option.some.inj hx
        subst hx
        exact eg_k_iret rfl True.intro (Nat.le_refl _) (Nat.le_refl _) hK
    · refine eg_k_aload rfl rfl ?_
      refine eg_k_aload rfl rfl ?_
      refine eg_k_gfi rfl rfl rfl ?_
      refine eg_k_ci rfl ?_
      refine eg_k_isub rfl ?_
      refine eg_k_pfi rfl rfl rfl ?_
      refine eg_k_aload rfl rfl ?_
      refine eg_k_gfa rfl rfl rfl eh_r45_24 ?_
      refine eg_k_aload rfl rfl ?_
      refine eg_k_gfie (x := eg_wi ((s2 45 23) - 1)) rfl rfl rfl rfl ?_
      obtain ⟨b11, hx⟩ := vb_if hx
      refine vk_iald (k := 4100) (y := s2 59 (eg_wi ((s2 45 23) - 1)).toNat) rfl rfl b11.1 b11.2 rfl ?_
      refine eg_k_istore (lv' := [some (.inr (.inr (some 45))), some (.inl x1), some (.inl s1), some (.inl (s2 59 (eg_wi ((s2 45 23) - 1)).toNat))]) rfl rfl ?_
      refine eg_k_iload rfl rfl ?_
      refine vk_if rfl hx Iff.rfl (fun c12 hx => ?_) (fun c12 hx => ?_)
      · refine eg_k_aload rfl rfl ?_
        refine eg_k_ci rfl ?_
        refine eg_k_iload rfl rfl ?_
        refine eg_k_isub rfl ?_
        refine eg_k_aload rfl rfl ?_
        refine eg_k_gfa rfl rfl rfl eh_r45_25 ?_
        refine eg_k_aload rfl rfl ?_
        refine eg_k_gfie (x := eg_wi ((s2 45 23) - 1)) rfl rfl rfl rfl ?_
        refine vk_iald (k := 4100) (y := s2 60 (eg_wi ((s2 45 23) - 1)).toNat) rfl rfl b11.1 b11.2 rfl ?_
        refine eg_k_aload rfl rfl ?_
        refine eg_k_gfa rfl rfl rfl eh_r45_26 ?_
        refine eg_k_aload rfl rfl ?_
        refine eg_k_gfie (x := eg_wi ((s2 45 23) - 1)) rfl rfl rfl rfl ?_
        refine vk_iald (k := 4100) (y := s2 61 (eg_wi ((s2 45 23) - 1)).toNat) rfl rfl b11.1 b11.2 rfl ?_
        obtain ⟨r16, h15, hx⟩ := vb_bind hx
        refine eg_k_call (c1 := 0) (z1 := 0) (as := [.inr (.inr (some 45)), .inl (eg_wi ((-1) - (s2 59 (eg_wi ((s2 45 23) - 1)).toNat))), .inl (s2 60 (eg_wi ((s2 45 23) - 1)).toNat), .inl (s2 61 (eg_wi ((s2 45 23) - 1)).toNat)]) (rest := []) rfl eg_tj182 (Nat.le_of_ble_eq_true rfl) rfl rfl rfl (Nat.le_of_ble_eq_true rfl) (Nat.le_refl _) (Nat.le_refl _) ?_ (fun Q hQ => ft_182 h15 hQ)
        refine eg_k_istore (lv' := [some (.inr (.inr (some 45))), some (.inl x1), some (.inl r16.1), some (.inl (s2 59 (eg_wi ((s2 45 23) - 1)).toNat))]) rfl rfl ?_
        refine eg_k_goto rfl ?_
        have hx := Option.some.inj hx
        subst hx
        exact hK (some (.inl (s2 59 (eg_wi ((s2 45 23) - 1)).toNat)))
      · refine eg_k_aload rfl rfl ?_
        refine eg_k_iload rfl rfl ?_
        refine eg_k_ci rfl ?_
        obtain ⟨r19, h18, hx⟩ := vb_bind hx
        refine eg_k_call (c1 := 0) (z1 := 0) (as := [.inr (.inr (some 45)), .inl (s2 59 (eg_wi ((s2 45 23) - 1)).toNat), .inl 0]) (rest := []) rfl eg_tj171 (Nat.le_of_ble_eq_true rfl) rfl rfl rfl (Nat.le_of_ble_eq_true rfl) (Nat.le_refl _) (Nat.le_refl _) ?_ (fun Q hQ => ft_171 h18 hQ)
        refine eg_k_goto rfl ?_
        refine eg_k_istore (lv' := [some (.inr (.inr (some 45))), some (.inl x1), some (.inl r19.1), some (.inl (s2 59 (eg_wi ((s2 45 23) - 1)).toNat))]) rfl rfl ?_
        refine eg_k_goto rfl ?_
        have hx := Option.some.inj hx
        subst hx
        exact hK (some (.inl (s2 59 (eg_wi ((s2 45 23) - 1)).toNat)))
set_option maxRecDepth 100000 in
theorem ft_170_3 {cn mo : Nat} {sc : eg_Sc} {d : Nat} {Q : Option eg_V → eg_H → Prop} {s : Int × eM} {x : Int × eM} (hx : lp (fun z => fn_170_3 z.1 z.2) s = some x) (hK : (fun (x : Int × eM) => Q (some (.inl ((x).1))) (em_L cn mo, eh_R, (x).2)) x) : ∀ (w2 w3 : Option eg_V), eg_X sc (eg_wp sc (d + 5)) eg_p170 (some .int) 0 0 Q 3 [some (.inr (.inr (some 45))), some (.inl s.1), w2, w3] [] (em_L cn mo, eh_R, s.2) 0 0 := by
  refine lp_sound (P := (fun (s : Int × eM) => ∀ (w2 w3 : Option eg_V), eg_X sc (eg_wp sc (d + 5)) eg_p170 (some .int) 0 0 Q 3 [some (.inr (.inr (some 45))), some (.inl s.1), w2, w3] [] (em_L cn mo, eh_R, s.2) 0 0)) (K := (fun (x : Int × eM) => Q (some (.inl ((x).1))) (em_L cn mo, eh_R, (x).2))) hx hK ?_
  intro s x hx hK w2 w3
  obtain ⟨s1, s2⟩ := s
  refine eg_k_iload rfl rfl ?_
  refine vk_if rfl hx Iff.rfl (fun c1 hx => ?_) (fun c1 hx => ?_)
  · refine eg_k_ci rfl ?_
    have hx := Option.some.inj hx
    subst hx
    exact eg_k_iret rfl True.intro (Nat.le_refl _) (Nat.le_refl _) hK
  · refine eg_k_aload rfl rfl ?_
    refine eg_k_ci rfl ?_
    refine eg_k_pfi rfl rfl rfl ?_
    refine eg_k_aload rfl rfl ?_
    refine eg_k_iload rfl rfl ?_
    refine eg_k_ci rfl ?_
    obtain ⟨r3, h2, hx⟩ := vb_bind hx
    refine eg_k_call (c1 := 0) (z1 := 0) (as := [.inr (.inr (some 45)), .inl s1, .inl 1]) (rest := []) rfl eg_tj171 (Nat.le_of_ble_eq_true rfl) rfl rfl rfl (Nat.le_of_ble_eq_true rfl) (Nat.le_refl _) (Nat.le_refl _) ?_ (fun Q hQ => ft_171 h2 hQ)
    refine eg_k_istore (lv' := [some (.inr (.inr (some 45))), some (.inl s1), some (.inl r3.1), w3]) rfl rfl ?_
    have hz := ft_170_13 (d := d) (sc := sc) hx hK
    exact hz w3
set_option maxRecDepth 100000 in
theorem ft_170 {cn mo : Nat} {sc : eg_Sc} {d : Nat} {M : eM} {Q : Option eg_V → eg_H → Prop} {x : Int × eM} (hx : fn_170 M = some x) (hK : Q (some (.inl ((x).1))) (em_L cn mo, eh_R, (x).2)) : eg_wp sc (d + 6) 170 [.inr (.inr (some 45))] (em_L cn mo, eh_R, M) 0 0 Q := by
  refine eg_in (lv := [some (.inr (.inr (some 45))), none, none, none]) eg_tj170 (Nat.le_of_ble_eq_true rfl) rfl ?_
  refine eg_k_aload rfl rfl ?_
  refine eg_k_gfi rfl rfl rfl ?_
  refine eg_k_istore (lv' := [some (.inr (.inr (some 45))), some (.inl (M 45 21)), none, none]) rfl rfl ?_
  have hz := ft_170_3 (d := d) (sc := sc) hx hK
  exact hz none none
theorem fw_170_13 {c j : Nat} {v : Int} {x1 : Int} {s : Int × eM} {x : (Int × eM) ⊕ (Int × eM)} (hc : c ∉ ([45, 59, 60, 61] : List Nat)) (hx : lp (fun z => fn_170_13 x1 z.1 z.2) s = some x) (hK : (eK (fun (s : Int × eM) => s.2 c j = v) (fun (x : Int × eM) => ((x).2) c j = v)) x) : s.2 c j = v := by
  refine lp_sound (P := (fun (s : Int × eM) => s.2 c j = v)) (K := (eK (fun (s : Int × eM) => s.2 c j = v) (fun (x : Int × eM) => ((x).2) c j = v))) hx hK ?_
  intro s x hx hK
  obtain ⟨s1, s2⟩ := s
  refine vb_ite hx (fun _ hx => ?_) (fun _ hx => ?_)
  · refine vb_ite hx (fun _ hx => ?_) (fun _ hx => ?_)
    · obtain ⟨_, hx⟩ := vb_if hx
      have hx := Option.some.inj hx
      subst hx
      exact (Eq.refl _).symm.trans hK
    · have hx := Option.some.inj hx
      subst hx
      exact (Eq.refl _).symm.trans hK
  · refine vb_ite hx (fun _ hx => ?_) (fun _ hx => ?_)
    · refine vb_ite hx (fun _ hx => ?_) (fun _ hx => ?_)
      · obtain ⟨_, hx⟩ := vb_if hx
        have hx := Option.some.inj hx
        subst hx
        exact (Eq.refl _).symm.trans hK
      · have hx := Option.some.inj hx
        subst hx
        exact (Eq.refl _).symm.trans hK
    · obtain ⟨_, hx⟩ := vb_if hx
      refine vb_ite hx (fun _ hx => ?_) (fun _ hx => ?_)
      · obtain ⟨r16, h15, hx⟩ := vb_bind hx
        have hx := Option.some.inj hx
        subst hx
        exact ((fw_182 h15 (vsub hc (by decide)) j).trans ((congrFun (eg_u_ne (vne hc (a := 45) (by decide))) j).trans rfl)).symm.trans hK
      · obtain ⟨r19, h18, hx⟩ := vb_bind hx
        have hx := Option.some.inj hx
        subst hx
        exact ((fw_171 h18 (vsub hc (by decide)) j).trans ((congrFun (eg_u_ne (vne hc (a := 45) (by decide))) j).trans rfl)).symm.trans hK
theorem fw_170_3 {c j : Nat} {v : Int} {s : Int × eM} {x : Int × eM} (hc : c ∉ ([45, 59, 60, 61] : List Nat)) (hx : lp (fun z => fn_170_3 z.1 z.2) s = some x) (hK : (fun (x : Int × eM) => ((x).2) c j = v) x) : s.2 c j = v := by
  refine lp_sound (P := (fun (s : Int × eM) => s.2 c j = v)) (K := (fun (x : Int × eM) => ((x).2) c j = v)) hx hK ?_
  intro s x hx hK
  obtain ⟨s1, s2⟩ := s
  refine vb_ite hx (fun _ hx => ?_) (fun _ hx => ?_)
  · have hx := Option.some.inj hx
    subst hx
    exact (Eq.refl _).symm.trans hK
  · obtain ⟨r3, h2, hx⟩ := vb_bind hx
    have hz := fw_170_13 hc hx hK
    exact ((fw_171 h2 (vsub hc (by decide)) j).trans ((congrFun (eg_u_ne (vne hc (a := 45) (by decide))) j).trans rfl)).symm.trans hz
theorem fw_170 {M : eM} {c : Nat} {x : Int × eM} (hx : fn_170 M = some x) (hc : c ∉ ([45, 59, 60, 61] : List Nat)) (j : Nat) : ((x).2) c j = M c j := by
  obtain ⟨v, hK⟩ : ∃ v, ((x).2) c j = v := ⟨_, rfl⟩
  rw [hK]
  refine Eq.symm ?_
  have hz := fw_170_3 hc hx hK
  exact (Eq.refl _).symm.trans hz
