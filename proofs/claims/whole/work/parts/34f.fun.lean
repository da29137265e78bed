/-- 160: WeakSchemeModel.isByte(I)Z -/
noncomputable def fn_160 (a : Int) (M : eM) : Option (Int) :=
  if a = 10 then
    some 1
  else
    if a < 32 then
      some 0
    else
      if 127 ≤ a then
        some 0
      else
        some 1
set_option maxRecDepth 100000 in
theorem ft_160 {cn mo : Nat} {sc : eg_Sc} {d : Nat} {M : eM} {Q : Option eg_V → eg_H → Prop} {a : Int} {x : Int} (hx : fn_160 a M = some x) (hK : Q (some (.inl x)) (em_L cn mo, eh_R, M)) : eg_wp sc (d + 1) 160 [.inl a] (em_L cn mo, eh_R, M) 0 0 Q := by
  refine eg_in (lv := [some (.inl a)]) eg_tj160 (Nat.le_of_ble_eq_true rfl) rfl ?_
  refine eg_k_iload rfl rfl ?_
  refine eg_k_ci rfl ?_
  refine vk_icmp rfl hx Iff.rfl (fun c1 hx => ?_) (fun c1 hx => ?_)
  · refine eg_k_ci rfl ?_
    refine eg_k_goto rfl ?_
    have hx := Option.some.inj hx
    subst hx
    exact eg_k_iret rfl (Or.inr rfl) (Nat.le_refl _) (Nat.le_refl _) hK
  · refine eg_k_iload rfl rfl ?_
    refine eg_k_ci rfl ?_
    refine vk_icmp rfl hx Iff.rfl (fun c2 hx => ?_) (fun c2 hx => ?_)
    · refine eg_k_ci rfl ?_
      have hx := Option.some.inj hx
      subst hx
      exact eg_k_iret rfl (Or.inl rfl) (Nat.le_refl _) (Nat.le_refl _) hK
    · refine eg_k_iload rfl rfl ?_
      refine eg_k_ci rfl ?_
      refine vk_icmp rfl hx Iff.rfl (fun c3 hx => ?_) (fun c3 hx => ?_)
      · refine eg_k_ci rfl ?_
        have hx := Option.some.inj hx
        subst hx
        exact eg_k_iret rfl (Or.inl rfl) (Nat.le_refl _) (Nat.le_refl _) hK
      · refine eg_k_ci rfl ?_
        refine eg_k_goto rfl ?_
        have hx := Option.some.inj hx
        subst hx
        exact eg_k_iret rfl (Or.inr rfl) (Nat.le_refl _) (Nat.le_refl _) hK
/-- 161: WeakSchemeModel.fail(II)I -/
noncomputable def fn_161 (a : Int) (b : Int) (M : eM) : Option (Int × eM) :=
  some (a, eg_u M 45 2 b)
set_option maxRecDepth 100000 in
theorem ft_161 {cn mo : Nat} {sc : eg_Sc} {d : Nat} {M : eM} {Q : Option eg_V → eg_H → Prop} {a : Int} {b : Int} {x : Int × eM} (hx : fn_161 a b M = some x) (hK : Q (some (.inl ((x).1))) (em_L cn mo, eh_R, (x).2)) : eg_wp sc (d + 1) 161 [.inr (.inr (some 45)), .inl a, .inl b] (em_L cn mo, eh_R, M) 0 0 Q := by
  refine eg_in (lv := [some (.inr (.inr (some 45))), some (.inl a), some (.inl b)]) eg_tj161 (Nat.le_of_ble_eq_true rfl) rfl ?_
  refine eg_k_aload rfl rfl ?_
  refine eg_k_iload rfl rfl ?_
  refine eg_k_pfi rfl rfl rfl ?_
  refine eg_k_iload rfl rfl ?_
  have hx := Option.some.inj hx
  subst hx
  exact eg_k_iret rfl True.intro (Nat.le_refl _) (Nat.le_refl _) hK
theorem fw_161 {M : eM} {c : Nat} {a : Int} {b : Int} {x : Int × eM} (hx : fn_161 a b M = some x) (hc : c ∉ ([45] : List Nat)) (j : Nat) : ((x).2) c j = M c j := by
  obtain ⟨v, hK⟩ : ∃ v, ((x).2) c j = v := ⟨_, rfl⟩
  rw [hK]
  refine Eq.symm ?_
  have hx := Option.some.inj hx
  subst hx
  exact ((congrFun (eg_u_ne (vne hc (a := 45) (by decide))) j).trans rfl).symm.trans hK
noncomputable def fn_163_107 (x1 : Int) (x2 : Int) (x3 : Int) (x4 : Int) (M : eM) : Option (Int × eM) :=
  if 0 ≤ x4 ∧ x4 < 20100 then
  some (0, eg_u (eg_u (eg_u M 52 (x4).toNat (M 45 16)) 55 (x4).toNat (eg_ws (eg_ws (eg_wi ((M 55 (x4).toNat) + 1))))) 45 16 (eg_wi ((M 45 16) + 1)))
  else none
noncomputable def fn_163_97 (x1 : Int) (x2 : Int) (x3 : Int) (x4 : Int) (x5 : Int) (M : eM) : Option (Int × eM) :=
  if x4 < 0 then
    if 0 ≤ x5 then
      some (0, eg_u (eg_u M 45 22 (M 45 16)) 45 16 (eg_wi ((M 45 16) + 1)))
    else
      some (0, eg_u (eg_u (eg_u M 45 21 (M 45 16)) 45 22 (M 45 16)) 45 16 (eg_wi ((M 45 16) + 1)))
  else
    if 0 ≤ x5 then
      fn_163_107 x1 x2 x3 x4 M
    else
      if 0 ≤ x4 ∧ x4 < 20100 then
      fn_163_107 x1 x2 x3 x4 (eg_u M 51 (x4).toNat (M 45 16))
      else none
noncomputable def fn_163_82 (x1 : Int) (x2 : Int) (x3 : Int) (x4 : Int) (y0 : Int) (M : eM) : Option (Int × eM) :=
  if 0 ≤ (M 45 16) ∧ (M 45 16) < 20100 then
  if y0 < 0 then
      fn_163_97 x1 x2 x3 x4 y0 (eg_u M 54 (M 45 16).toNat y0)
    else
      if 0 ≤ y0 ∧ y0 < 20100 then
      fn_163_97 x1 x2 x3 x4 y0 (eg_u (eg_u M 54 (M 45 16).toNat y0) 53 (y0).toNat (M 45 16))
      else none
  else none
noncomputable def fn_163_72 (x1 : Int) (x2 : Int) (x3 : Int) (y0 : Int) (M : eM) : Option (Int × eM) :=
  if 0 ≤ y0 then
    if 0 ≤ y0 ∧ y0 < 20100 then
    fn_163_82 x1 x2 x3 y0 (M 52 (y0).toNat) M
    else none
  else
    fn_163_82 x1 x2 x3 y0 (M 45 22) M
/-- 163: WeakSchemeModel.add(III)I -/
noncomputable def fn_163 (a : Int) (b : Int) (e : Int) (M : eM) : Option (Int × eM) :=
  if (eg_wi ((M 45 16) - (M 45 17))) = 2000 then
    (fn_161 2 e M).bind fun r3 =>
    some (r3.1, r3.2)
  else
    if ¬ (M 45 16) = 20000 then
      if 0 ≤ (M 45 16) ∧ (M 45 16) < 20100 then
      if (M 45 18) ≤ 0 then
          fn_163_72 a b e (-1) (eg_u (eg_u (eg_u (eg_u (eg_u (eg_u (eg_u M 49 (M 45 16).toNat (eg_wb (eg_wb a))) 50 (M 45 16).toNat b) 51 (M 45 16).toNat (-1)) 52 (M 45 16).toNat (-1)) 53 (M 45 16).toNat (-1)) 55 (M 45 16).toNat (eg_ws 0)) 56 (M 45 16).toNat (eg_ws (eg_ws e)))
        else
          if 0 ≤ (eg_wi ((M 45 18) - 1)) ∧ (eg_wi ((M 45 18) - 1)) < 31 then
          fn_163_72 a b e (M 57 (eg_wi ((M 45 18) - 1)).toNat) (eg_u (eg_u (eg_u (eg_u (eg_u (eg_u (eg_u M 49 (M 45 16).toNat (eg_wb (eg_wb a))) 50 (M 45 16).toNat b) 51 (M 45 16).toNat (-1)) 52 (M 45 16).toNat (-1)) 53 (M 45 16).toNat (-1)) 55 (M 45 16).toNat (eg_ws 0)) 56 (M 45 16).toNat (eg_ws (eg_ws e)))
          else none
      else none
    else
      (fn_161 2 e M).bind fun r28 =>
      some (r28.1, r28.2)
set_option maxRecDepth 100000 in
theorem ft_163_107 {cn mo : Nat} {sc : eg_Sc} {d : Nat} {M : eM} {Q : Option eg_V → eg_H → Prop} {x1 : Int} {x2 : Int} {x3 : Int} {x4 : Int} {x : Int × eM} (hx : fn_163_107 x1 x2 x3 x4 M = some x) (hK : (fun (x : Int × eM) => Q (some (.inl ((x).1))) (em_L cn mo, eh_R, (x).2)) x) : ∀ (w5 : Option eg_V), eg_X sc (eg_wp sc (d + 1)) eg_p163 (some .int) 0 0 Q 107 [some (.inr (.inr (some 45))), some (.inl x1), some (.inl x2), some (.inl x3), some (.inl x4), w5] [] (em_L cn mo, eh_R, M) 0 0 := by
  intro w5
  refine eg_k_aload rfl rfl ?_
  refine eg_k_gfa rfl rfl rfl eh_r45_11 ?_
  refine eg_k_iload rfl rfl ?_
  refine eg_k_aload rfl rfl ?_
  refine eg_k_gfi rfl rfl rfl ?_
  obtain ⟨b21, hx⟩ := vb_if hx
  refine eg_k_iast (k := 20100) rfl rfl b21.1 b21.2 ?_
  refine eg_k_aload rfl rfl ?_
  refine eg_k_gfa rfl rfl rfl eh_r45_14 ?_
  refine eg_k_iload rfl rfl ?_
  refine eg_k_aload rfl rfl ?_
  refine eg_k_gfa rfl rfl rfl eh_r45_14 ?_
  refine eg_k_iload rfl rfl ?_
  refine vk_sald (k := 20100) (y := M 55 (x4).toNat) rfl rfl b21.1 b21.2 rfl ?_
  refine eg_k_ci rfl ?_
  refine eg_k_iadd rfl ?_
  refine eg_k_i2s rfl ?_
  refine eg_k_sast (k := 20100) rfl rfl b21.1 b21.2 ?_
  refine eg_k_goto rfl ?_
  refine eg_k_aload rfl rfl ?_
  refine eg_k_aload rfl rfl ?_
  refine eg_k_gfie (x := M 45 16) rfl rfl rfl rfl ?_
  refine eg_k_ci rfl ?_
  refine eg_k_iadd rfl ?_
  refine eg_k_pfi rfl rfl rfl ?_
  refine eg_k_ci rfl ?_
  have hx := Option.some.inj hx
  subst hx
  exact eg_k_iret rfl True.intro (Nat.le_refl _) (Nat.le_refl _) hK
set_option maxRecDepth 100000 in
theorem ft_163_97 {cn mo : Nat} {sc : eg_Sc} {d : Nat} {M : eM} {Q : Option eg_V → eg_H → Prop} {x1 : Int} {x2 : Int} {x3 : Int} {x4 : Int} {x5 : Int} {x : Int × eM} (hx : fn_163_97 x1 x2 x3 x4 x5 M = some x) (hK : (fun (x : Int × eM) => Q (some (.inl ((x).1))) (em_L cn mo, eh_R, (x).2)) x) : eg_X sc (eg_wp sc (d + 1)) eg_p163 (some .int) 0 0 Q 97 [some (.inr (.inr (some 45))), some (.inl x1), some (.inl x2), some (.inl x3), some (.inl x4), some (.inl x5)] [] (em_L cn mo, eh_R, M) 0 0 := by
  refine eg_k_iload rfl rfl ?_
  refine vk_if rfl hx Iff.rfl (fun c18 hx => ?_) (fun c18 hx => ?_)
  · refine eg_k_iload rfl rfl ?_
    refine vk_if rfl hx Iff.rfl (fun c19 hx => ?_) (fun c19 hx => ?_)
    · refine eg_k_aload rfl rfl ?_
      refine eg_k_aload rfl rfl ?_
      refine eg_k_gfi rfl rfl rfl ?_
      refine eg_k_pfi rfl rfl rfl ?_
      refine eg_k_aload rfl rfl ?_
      refine eg_k_aload rfl rfl ?_
      refine eg_k_gfie (x := M 45 16) rfl rfl rfl rfl ?_
      refine eg_k_ci rfl ?_
      refine eg_k_iadd rfl ?_
      refine eg_k_pfi rfl rfl rfl ?_
      refine eg_k_ci rfl ?_
      have hx := Option.some.inj hx
      subst hx
      exact eg_k_iret rfl True.intro (Nat.le_refl _) (Nat.le_refl _) hK
    · refine eg_k_aload rfl rfl ?_
      refine eg_k_aload rfl rfl ?_
      refine eg_k_gfi rfl rfl rfl ?_
      refine eg_k_pfi rfl rfl rfl ?_
      refine eg_k_aload rfl rfl ?_
      refine eg_k_aload rfl rfl ?_
      refine eg_k_gfie (x := M 45 16) rfl rfl rfl rfl ?_
      refine eg_k_pfi rfl rfl rfl ?_
      refine eg_k_aload rfl rfl ?_
      refine eg_k_aload rfl rfl ?_
      refine eg_k_gfie (x := M 45 16) rfl rfl rfl rfl ?_
      refine eg_k_ci rfl ?_
      refine eg_k_iadd rfl ?_
      refine eg_k_pfi rfl rfl rfl ?_
      refine eg_k_ci rfl ?_
      have hx := Option.some.inj hx
      subst hx
      exact eg_k_iret rfl True.intro (Nat.le_refl _) (Nat.le_refl _) hK
  · refine eg_k_iload rfl rfl ?_
    refine vk_if rfl hx Iff.rfl (fun c20 hx => ?_) (fun c20 hx => ?_)
    · have hz := ft_163_107 (d := d) (sc := sc) hx hK
      exact hz (some (.inl x5))
    · refine eg_k_aload rfl rfl ?_
      refine eg_k_gfa rfl rfl rfl eh_r45_10 ?_
      refine eg_k_iload rfl rfl ?_
      refine eg_k_aload rfl rfl ?_
      refine eg_k_gfi rfl rfl rfl ?_
      obtain ⟨b24, hx⟩ := vb_if hx
      refine eg_k_iast (k := 20100) rfl rfl b24.1 b24.2 ?_
      have hz := ft_163_107 (d := d) (sc := sc) hx hK
      exact hz (some (.inl x5))
set_option maxRecDepth 100000 in
theorem ft_163_82 {cn mo : Nat} {sc : eg_Sc} {d : Nat} {M : eM} {Q : Option eg_V → eg_H → Prop} {x1 : Int} {x2 : Int} {x3 : Int} {x4 : Int} {y0 : Int} {x : Int × eM} (hx : fn_163_82 x1 x2 x3 x4 y0 M = some x) (hK : (fun (x : Int × eM) => Q (some (.inl ((x).1))) (em_L cn mo, eh_R, (x).2)) x) : ∀ (w5 : Option eg_V), eg_X sc (eg_wp sc (d + 1)) eg_p163 (some .int) 0 0 Q 82 [some (.inr (.inr (some 45))), some (.inl x1), some (.inl x2), some (.inl x3), some (.inl x4), w5] [.inl y0] (em_L cn mo, eh_R, M) 0 0 := by
  intro w5
  refine eg_k_istore (lv' := [some (.inr (.inr (some 45))), some (.inl x1), some (.inl x2), some (.inl x3), some (.inl x4), some (.inl y0)]) rfl rfl ?_
  refine eg_k_aload rfl rfl ?_
  refine eg_k_gfa rfl rfl rfl eh_r45_13 ?_
  refine eg_k_aload rfl rfl ?_
  refine eg_k_gfi rfl rfl rfl ?_
  refine eg_k_iload rfl rfl ?_
  obtain ⟨b16, hx⟩ := vb_if hx
  refine eg_k_iast (k := 20100) rfl rfl b16.1 b16.2 ?_
  refine eg_k_iload rfl rfl ?_
  refine vk_if rfl hx Iff.rfl (fun c17 hx => ?_) (fun c17 hx => ?_)
  · have hz := ft_163_97 (d := d) (sc := sc) hx hK
    exact hz
  · refine eg_k_aload rfl rfl ?_
    refine eg_k_gfa rfl rfl rfl eh_r45_12 ?_
    refine eg_k_iload rfl rfl ?_
    refine eg_k_aload rfl rfl ?_
    refine eg_k_gfie (x := M 45 16) rfl rfl rfl rfl ?_
    obtain ⟨b25, hx⟩ := vb_if hx
    refine eg_k_iast (k := 20100) rfl rfl b25.1 b25.2 ?_
    have hz := ft_163_97 (d := d) (sc := sc) hx hK
    exact hz
set_option maxRecDepth 100000 in
theorem ft_163_72 {cn mo : Nat} {sc : eg_Sc} {d : Nat} {M : eM} {Q : Option eg_V → eg_H → Prop} {x1 : Int} {x2 : Int} {x3 : Int} {y0 : Int} {x : Int × eM} (hx : fn_163_72 x1 x2 x3 y0 M = some x) (hK : (fun (x : Int × eM) => Q (some (.inl ((x).1))) (em_L cn mo, eh_R, (x).2)) x) : ∀ (w4 w5 : Option eg_V), eg_X sc (eg_wp sc (d + 1)) eg_p163 (some .int) 0 0 Q 72 [some (.inr (.inr (some 45))), some (.inl x1), some (.inl x2), some (.inl x3), w4, w5] [.inl y0] (em_L cn mo, eh_R, M) 0 0 := by
  intro w4 w5
  refine eg_k_istore (lv' := [some (.inr (.inr (some 45))), some (.inl x1), some (.inl x2), some (.inl x3), some (.inl y0), w5]) rfl rfl ?_
  refine eg_k_iload rfl rfl ?_
  refine vk_if rfl hx Iff.rfl (fun c14 hx => ?_) (fun c14 hx => ?_)
  · refine eg_k_aload rfl rfl ?_
    refine eg_k_gfa rfl rfl rfl eh_r45_11 ?_
    refine eg_k_iload rfl rfl ?_
    obtain ⟨b15, hx⟩ := vb_if hx
    refine eg_k_iald (k := 20100) rfl rfl b15.1 b15.2 ?_
    have hz := ft_163_82 (d := d) (sc := sc) hx hK
    exact hz w5
  · refine eg_k_aload rfl rfl ?_
    refine eg_k_gfi rfl rfl rfl ?_
    refine eg_k_goto rfl ?_
    have hz := ft_163_82 (d := d) (sc := sc) hx hK
    exact hz w5
set_option maxRecDepth 100000 in
theorem ft_163 {cn mo : Nat} {sc : eg_Sc} {d : Nat} {M : eM} {Q : Option eg_V → eg_H → Prop} {a : Int} {b : Int} {e : Int} {x : Int × eM} (hx : fn_163 a b e M = some x) (hK : Q (some (.inl ((x).1))) (em_L cn mo, eh_R, (x).2)) : eg_wp sc (d + 2) 163 [.inr (.inr (some 45)), .inl a, .inl b, .inl e] (em_L cn mo, eh_R, M) 0 0 Q := by
  refine eg_in (lv := [some (.inr (.inr (some 45))), some (.inl a), some (.inl b), some (.inl e), none, none]) eg_tj163 (Nat.le_of_ble_eq_true rfl) rfl ?_
  refine eg_k_aload rfl rfl ?_
  refine eg_k_gfi rfl rfl rfl ?_
  refine eg_k_aload rfl rfl ?_
  refine eg_k_gfi rfl rfl rfl ?_
  refine eg_k_isub rfl ?_
  refine eg_k_ci rfl ?_
  refine vk_icmp rfl hx Iff.rfl (fun c1 hx => ?_) (fun c1 hx => ?_)
  · refine eg_k_aload rfl rfl ?_
    refine eg_k_ci rfl ?_
    refine eg_k_iload rfl rfl ?_
    obtain ⟨r3, h2, hx⟩ := vb_bind hx
    refine eg_k_call (c1 := 0) (z1 := 0) (as := [.inr (.inr (some 45)), .inl 2, .inl e]) (rest := []) rfl eg_tj161 (Nat.le_of_ble_eq_true rfl) rfl rfl rfl (Nat.le_of_ble_eq_true rfl) (Nat.le_refl _) (Nat.le_refl _) ?_ (fun Q hQ => ft_161 h2 hQ)
    have hx := Option.some.inj hx
    subst hx
    exact eg_k_iret rfl True.intro (Nat.le_refl _) (Nat.le_refl _) hK
  · refine eg_k_aload rfl rfl ?_
    refine eg_k_gfi rfl rfl rfl ?_
    refine eg_k_ci rfl ?_
    refine vk_icmp rfl hx Iff.rfl (fun c5 hx => ?_) (fun c5 hx => ?_)
    · refine eg_k_aload rfl rfl ?_
      refine eg_k_gfa rfl rfl rfl eh_r45_8 ?_
      refine eg_k_aload rfl rfl ?_
      refine eg_k_gfi rfl rfl rfl ?_
      refine eg_k_iload rfl rfl ?_
      refine eg_k_i2b rfl ?_
      obtain ⟨b6, hx⟩ := vb_if hx
      refine eg_k_bast (k := 20100) rfl rfl b6.1 b6.2 ?_
      refine eg_k_aload rfl rfl ?_
      refine eg_k_gfa rfl rfl rfl eh_r45_9 ?_
      refine eg_k_aload rfl rfl ?_
      refine eg_k_gfie (x := M 45 16) rfl rfl rfl rfl ?_
      refine eg_k_iload rfl rfl ?_
      refine eg_k_iast (k := 20100) rfl rfl b6.1 b6.2 ?_
      refine eg_k_aload rfl rfl ?_
      refine eg_k_gfa rfl rfl rfl eh_r45_10 ?_
      refine eg_k_aload rfl rfl ?_
      refine eg_k_gfie (x := M 45 16) rfl rfl rfl rfl ?_
      refine eg_k_ci rfl ?_
      refine eg_k_iast (k := 20100) rfl rfl b6.1 b6.2 ?_
      refine eg_k_aload rfl rfl ?_
      refine eg_k_gfa rfl rfl rfl eh_r45_11 ?_
      refine eg_k_aload rfl rfl ?_
      refine eg_k_gfie (x := M 45 16) rfl rfl rfl rfl ?_
      refine eg_k_ci rfl ?_
      refine eg_k_iast (k := 20100) rfl rfl b6.1 b6.2 ?_
      refine eg_k_aload rfl rfl ?_
      refine eg_k_gfa rfl rfl rfl eh_r45_12 ?_
      refine eg_k_aload rfl rfl ?_
      refine eg_k_gfie (x := M 45 16) rfl rfl rfl rfl ?_
      refine eg_k_ci rfl ?_
      refine eg_k_iast (k := 20100) rfl rfl b6.1 b6.2 ?_
      refine eg_k_aload rfl rfl ?_
      refine eg_k_gfa rfl rfl rfl eh_r45_14 ?_
      refine eg_k_aload rfl rfl ?_
      refine eg_k_gfie (x := M 45 16) rfl rfl rfl rfl ?_
      refine eg_k_ci rfl ?_
      refine eg_k_sast (k := 20100) rfl rfl b6.1 b6.2 ?_
      refine eg_k_aload rfl rfl ?_
      refine eg_k_gfa rfl rfl rfl eh_r45_15 ?_
      refine eg_k_aload rfl rfl ?_
      refine eg_k_gfie (x := M 45 16) rfl rfl rfl rfl ?_
      refine eg_k_iload rfl rfl ?_
      refine eg_k_i2s rfl ?_
      refine eg_k_sast (k := 20100) rfl rfl b6.1 b6.2 ?_
      refine eg_k_aload rfl rfl ?_
      refine eg_k_gfie (x := M 45 18) rfl rfl rfl rfl ?_
      refine vk_if rfl hx Iff.rfl (fun c13 hx => ?_) (fun c13 hx => ?_)
      · refine eg_k_ci rfl ?_
        have hz := ft_163_72 (d := d) (sc := sc) hx hK
        exact hz none none
      · refine eg_k_aload rfl rfl ?_
        refine eg_k_gfa rfl rfl rfl eh_r45_19 ?_
        refine eg_k_aload rfl rfl ?_
        refine eg_k_gfie (x := M 45 18) rfl rfl rfl rfl ?_
        refine eg_k_ci rfl ?_
        refine eg_k_isub rfl ?_
        obtain ⟨b26, hx⟩ := vb_if hx
        refine vk_iald (k := 31) (y := M 57 (eg_wi ((M 45 18) - 1)).toNat) rfl rfl b26.1 b26.2 rfl ?_
        refine eg_k_goto rfl ?_
        have hz := ft_163_72 (d := d) (sc := sc) hx hK
        exact hz none none
    · refine eg_k_aload rfl rfl ?_
      refine eg_k_ci rfl ?_
      refine eg_k_iload rfl rfl ?_
      obtain ⟨r28, h27, hx⟩ := vb_bind hx
      refine eg_k_call (c1 := 0) (z1 := 0) (as := [.inr (.inr (some 45)), .inl 2, .inl e]) (rest := []) rfl eg_tj161 (Nat.le_of_ble_eq_true rfl) rfl rfl rfl (Nat.le_of_ble_eq_true rfl) (Nat.le_refl _) (Nat.le_refl _) ?_ (fun Q hQ => ft_161 h27 hQ)
      have hx := Option.some.inj hx
      subst hx
      exact eg_k_iret rfl True.intro (Nat.le_refl _) (Nat.le_refl _) hK
theorem fw_163_107 {M : eM} {c j : Nat} {v : Int} {x1 : Int} {x2 : Int} {x3 : Int} {x4 : Int} {x : Int × eM} (hc : c ∉ ([45, 49, 50, 51, 52, 53, 54, 55, 56] : List Nat)) (hx : fn_163_107 x1 x2 x3 x4 M = some x) (hK : (fun (x : Int × eM) => ((x).2) c j = v) x) : M c j = v := by
  obtain ⟨_, hx⟩ := vb_if hx
  have hx := Option.some.inj hx
  subst hx
  exact ((congrFun (eg_u_ne (vne hc (a := 45) (by decide))) j).trans ((congrFun (eg_u_ne (vne hc (a := 55) (by decide))) j).trans ((congrFun (eg_u_ne (vne hc (a := 52) (by decide))) j).trans rfl))).symm.trans hK
theorem fw_163_97 {M : eM} {c j : Nat} {v : Int} {x1 : Int} {x2 : Int} {x3 : Int} {x4 : Int} {x5 : Int} {x : Int × eM} (hc : c ∉ ([45, 49, 50, 51, 52, 53, 54, 55, 56] : List Nat)) (hx : fn_163_97 x1 x2 x3 x4 x5 M = some x) (hK : (fun (x : Int × eM) => ((x).2) c j = v) x) : M c j = v := by
  refine vb_ite hx (fun _ hx => ?_) (fun _ hx => ?_)
  · refine vb_ite hx (fun _ hx => ?_) (fun _ hx => ?_)
    · have hx := Option.some.inj hx
      subst hx
      exact ((congrFun (eg_u_ne (vne hc (a := 45) (by decide))) j).trans ((congrFun (eg_u_ne (vne hc (a := 45) (by decide))) j).trans rfl)).symm.trans hK
    · have hx := Option.some.inj hx
      subst hx
      exact ((congrFun (eg_u_ne (vne hc (a := 45) (by decide))) j).trans ((congrFun (eg_u_ne (vne hc (a := 45) (by decide))) j).trans ((congrFun (eg_u_ne (vne hc (a := 45) (by decide))) j).trans rfl))).symm.trans hK
  · refine vb_ite hx (fun _ hx => ?_) (fun _ hx => ?_)
    · have hz := fw_163_107 hc hx hK
      exact (Eq.refl _).symm.trans hz
    · obtain ⟨_, hx⟩ := vb_if hx
      have hz := fw_163_107 hc hx hK
      exact ((congrFun (eg_u_ne (vne hc (a := 51) (by decide))) j).trans rfl).symm.trans hz
theorem fw_163_82 {M : eM} {c j : Nat} {v : Int} {x1 : Int} {x2 : Int} {x3 : Int} {x4 : Int} {y0 : Int} {x : Int × eM} (hc : c ∉ ([45, 49, 50, 51, 52, 53, 54, 55, 56] : List Nat)) (hx : fn_163_82 x1 x2 x3 x4 y0 M = some x) (hK : (fun (x : Int × eM) => ((x).2) c j = v) x) : M c j = v := by
  obtain ⟨_, hx⟩ := vb_if hx
  refine vb_ite hx (fun _ hx => ?_) (fun _ hx => ?_)
  · have hz := fw_163_97 hc hx hK
    exact ((congrFun (eg_u_ne (vne hc (a := 54) (by decide))) j).trans rfl).symm.trans hz
  · obtain ⟨_, hx⟩ := vb_if hx
    have hz := fw_163_97 hc hx hK
    exact ((congrFun (eg_u_ne (vne hc (a := 53) (by decide))) j).trans ((congrFun (eg_u_ne (vne hc (a := 54) (by decide))) j).trans rfl)).symm.trans hz
theorem fw_163_72 {M : eM} {c j : Nat} {v : Int} {x1 : Int} {x2 : Int} {x3 : Int} {y0 : Int} {x : Int × eM} (hc : c ∉ ([45, 49, 50, 51, 52, 53, 54, 55, 56] : List Nat)) (hx : fn_163_72 x1 x2 x3 y0 M = some x) (hK : (fun (x : Int × eM) => ((x).2) c j = v) x) : M c j = v := by
  refine vb_ite hx (fun _ hx => ?_) (fun _ hx => ?_)
  · obtain ⟨_, hx⟩ := vb_if hx
    have hz := fw_163_82 hc hx hK
    exact (Eq.refl _).symm.trans hz
  · have hz := fw_163_82 hc hx hK
    exact (Eq.refl _).symm.trans hz
theorem fw_163 {M : eM} {c : Nat} {a : Int} {b : Int} {e : Int} {x : Int × eM} (hx : fn_163 a b e M = some x) (hc : c ∉ ([45, 49, 50, 51, 52, 53, 54, 55, 56] : List Nat)) (j : Nat) : ((x).2) c j = M c j := by
  obtain ⟨v, hK⟩ : ∃ v, ((x).2) c j = v := ⟨_, rfl⟩
  rw [hK]
  refine Eq.symm ?_
  refine vb_ite hx (fun _ hx => ?_) (fun _ hx => ?_)
  · obtain ⟨r3, h2, hx⟩ := vb_bind hx
    have hx := Option.some.inj hx
    subst hx
    exact ((fw_161 h2 (vsub hc (by decide)) j).trans rfl).symm.trans hK
  · refine vb_ite hx (fun _ hx => ?_) (fun _ hx => ?_)
    · obtain ⟨_, hx⟩ := vb_if hx
      refine vb_ite hx (fun _ hx => ?_) (fun _ hx => ?_)
      · have hz := fw_163_72 hc hx hK
        exact ((congrFun (eg_u_ne (vne hc (a := 56) (by decide))) j).trans ((congrFun (eg_u_ne (vne hc (a := 55) (by decide))) j).trans ((congrFun (eg_u_ne (vne hc (a := 53) (by decide))) j).trans ((congrFun (eg_u_ne (vne hc (a := 52) (by decide))) j).trans ((congrFun (eg_u_ne (vne hc (a := 51) (by decide))) j).trans ((congrFun (eg_u_ne (vne hc (a := 50) (by decide))) j).trans ((congrFun (eg_u_ne (vne hc (a := 49) (by decide))) j).trans rfl))))))).symm.trans hz
      · obtain ⟨_, hx⟩ := vb_if hx
        have hz := fw_163_72 hc hx hK
        exact ((congrFun (eg_u_ne (vne hc (a := 56) (by decide))) j).trans ((congrFun (eg_u_ne (vne hc (a := 55) (by decide))) j).trans ((congrFun (eg_u_ne (vne hc (a := 53) (by decide))) j).trans ((congrFun (eg_u_ne (vne hc (a := 52) (by decide))) j).trans ((congrFun (eg_u_ne (vne hc (a := 51) (by decide))) j).trans ((congrFun (eg_u_ne (vne hc (a := 50) (by decide))) j).trans ((congrFun (eg_u_ne (vne hc (a := 49) (by decide))) j).trans rfl))))))).symm.trans hz
    · obtain ⟨r28, h27, hx⟩ := vb_bind hx
      have hx := Option.some.inj hx
      subst hx
      exact ((fw_161 h27 (vsub hc (by decide)) j).trans rfl).symm.trans hK
/-- 162: WeakSchemeModel.openList(Z)I -/
noncomputable def fn_162 (a : Int) (M : eM) : Option (Int × eM) :=
  if ¬ (M 45 18) = 30 then
    (fn_163 4 0 (M 45 3) M).bind fun r3 =>
    if r3.1 ≤ 0 then
      if 0 ≤ (r3.2 45 18) ∧ (r3.2 45 18) < 31 then
      if 0 ≤ (r3.2 45 18) ∧ (r3.2 45 18) < 31 ∧ (a = 0 ∨ a = 1) then
        if a = 0 then
            some (r3.1, eg_u (eg_u (eg_u (eg_u r3.2 57 (r3.2 45 18).toNat (eg_wi ((r3.2 45 16) - 1))) 58 (r3.2 45 18).toNat a) 45 18 (eg_wi ((r3.2 45 18) + 1))) 45 3 (eg_wi ((r3.2 45 3) + 1)))
          else
            (fn_163 3 0 (r3.2 45 3) (eg_u (eg_u (eg_u r3.2 57 (r3.2 45 18).toNat (eg_wi ((r3.2 45 16) - 1))) 58 (r3.2 45 18).toNat a) 45 18 (eg_wi ((r3.2 45 18) + 1)))).bind fun r10 =>
            some (r10.1, eg_u r10.2 45 3 (eg_wi ((r10.2 45 3) + 1)))
        else none
      else none
    else
      some (r3.1, r3.2)
  else
    (fn_161 2 (M 45 3) M).bind fun r13 =>
    some (r13.1, r13.2)
set_option maxRecDepth 100000 in
theorem ft_162 {cn mo : Nat} {sc : eg_Sc} {d : Nat} {M : eM} {Q : Option eg_V → eg_H → Prop} {a : Int} {x : Int × eM} (hx : fn_162 a M = some x) (hK : Q (some (.inl ((x).1))) (em_L cn mo, eh_R, (x).2)) : eg_wp sc (d + 3) 162 [.inr (.inr (some 45)), .inl a] (em_L cn mo, eh_R, M) 0 0 Q := by
  refine eg_in (lv := [some (.inr (.inr (some 45))), some (.inl a), none]) eg_tj162 (Nat.le_of_ble_eq_true rfl) rfl ?_
  refine eg_k_aload rfl rfl ?_
  refine eg_k_gfi rfl rfl rfl ?_
  refine eg_k_ci rfl ?_
  refine vk_icmp rfl hx Iff.rfl (fun c1 hx => ?_) (fun c1 hx => ?_)
  · refine eg_k_aload rfl rfl ?_
    refine eg_k_ci rfl ?_
    refine eg_k_ci rfl ?_
    refine eg_k_aload rfl rfl ?_
    refine eg_k_gfi rfl rfl rfl ?_
    obtain ⟨r3, h2, hx⟩ := vb_bind hx
    refine eg_k_call (c1 := 0) (z1 := 0) (as := [.inr (.inr (some 45)), .inl 4, .inl 0, .inl (M 45 3)]) (rest := []) rfl eg_tj163 (Nat.le_of_ble_eq_true rfl) rfl rfl rfl (Nat.le_of_ble_eq_true rfl) (Nat.le_refl _) (Nat.le_refl _) ?_ (fun Q hQ => ft_163 h2 hQ)
    refine eg_k_istore (lv' := [some (.inr (.inr (some 45))), some (.inl a), some (.inl r3.1)]) rfl rfl ?_
    refine eg_k_iload rfl rfl ?_
    refine vk_if rfl hx Iff.rfl (fun c5 hx => ?_) (fun c5 hx => ?_)
    · refine eg_k_aload rfl rfl ?_
      refine eg_k_gfa rfl rfl rfl eh_r45_19 ?_
      refine eg_k_aload rfl rfl ?_
      refine eg_k_gfi rfl rfl rfl ?_
      refine eg_k_aload rfl rfl ?_
      refine eg_k_gfi rfl rfl rfl ?_
      refine eg_k_ci rfl ?_
      refine eg_k_isub rfl ?_
      obtain ⟨b6, hx⟩ := vb_if hx
      refine eg_k_iast (k := 31) rfl rfl b6.1 b6.2 ?_
      refine eg_k_aload rfl rfl ?_
      refine eg_k_gfa rfl rfl rfl eh_r45_20 ?_
      refine eg_k_aload rfl rfl ?_
      refine eg_k_gfie (x := r3.2 45 18) rfl rfl rfl rfl ?_
      refine eg_k_iload rfl rfl ?_
      obtain ⟨b7, hx⟩ := vb_if hx
      refine eg_k_zast (k := 31) rfl rfl b7.1 b7.2.1 b7.2.2 ?_
      refine eg_k_aload rfl rfl ?_
      refine eg_k_aload rfl rfl ?_
      refine eg_k_gfie (x := r3.2 45 18) rfl rfl rfl rfl ?_
      refine eg_k_ci rfl ?_
      refine eg_k_iadd rfl ?_
      refine eg_k_pfi rfl rfl rfl ?_
      refine eg_k_iload rfl rfl ?_
      refine vk_if rfl hx Iff.rfl (fun c8 hx => ?_) (fun c8 hx => ?_)
      · refine eg_k_aload rfl rfl ?_
        refine eg_k_aload rfl rfl ?_
        refine eg_k_gfie (x := r3.2 45 3) rfl rfl rfl rfl ?_
        refine eg_k_ci rfl ?_
        refine eg_k_iadd rfl ?_
        refine eg_k_pfi rfl rfl rfl ?_
        refine eg_k_iload rfl rfl ?_
        have hx := Option.some.inj hx
        subst hx
        exact eg_k_iret rfl True.intro (Nat.le_refl _) (Nat.le_refl _) hK
      · refine eg_k_aload rfl rfl ?_
        refine eg_k_ci rfl ?_
        refine eg_k_ci rfl ?_
        refine eg_k_aload rfl rfl ?_
        refine eg_k_gfie (x := r3.2 45 3) rfl rfl rfl rfl ?_
        obtain ⟨r10, h9, hx⟩ := vb_bind hx
        refine eg_k_call (c1 := 0) (z1 := 0) (as := [.inr (.inr (some 45)), .inl 3, .inl 0, .inl (r3.2 45 3)]) (rest := []) rfl eg_tj163 (Nat.le_of_ble_eq_true rfl) rfl rfl rfl (Nat.le_of_ble_eq_true rfl) (Nat.le_refl _) (Nat.le_refl _) ?_ (fun Q hQ => ft_163 h9 hQ)
        refine eg_k_istore (lv' := [some (.inr (.inr (some 45))), some (.inl a), some (.inl r10.1)]) rfl rfl ?_
        refine eg_k_aload rfl rfl ?_
        refine eg_k_aload rfl rfl ?_
        refine eg_k_gfi rfl rfl rfl ?_
        refine eg_k_ci rfl ?_
        refine eg_k_iadd rfl ?_
        refine eg_k_pfi rfl rfl rfl ?_
        refine eg_k_iload rfl rfl ?_
        have hx := Option.some.inj hx
        subst hx
        exact eg_k_iret rfl True.intro (Nat.le_refl _) (Nat.le_refl _) hK
    · refine eg_k_iload rfl rfl ?_
      have hx := Option.some.inj hx
      subst hx
      exact eg_k_iret rfl True.intro (Nat.le_refl _) (Nat.le_refl _) hK
  · refine eg_k_aload rfl rfl ?_
    refine eg_k_ci rfl ?_
    refine eg_k_aload rfl rfl ?_
    refine eg_k_gfi rfl rfl rfl ?_
    obtain ⟨r13, h12, hx⟩ := vb_bind hx
    refine eg_k_call (c1 := 0) (z1 := 0) (as := [.inr (.inr (some 45)), .inl 2, .inl (M 45 3)]) (rest := []) rfl eg_tj161 (Nat.le_of_ble_eq_true rfl) rfl rfl rfl (Nat.le_of_ble_eq_true rfl) (Nat.le_refl _) (Nat.le_refl _) ?_ (fun Q hQ => ft_161 h12 hQ)
    have hx := Option.some.inj hx
    subst hx
    exact eg_k_iret rfl True.intro (Nat.le_refl _) (Nat.le_refl _) hK
theorem fw_162 {M : eM} {c : Nat} {a : Int} {x : Int × eM} (hx : fn_162 a M = some x) (hc : c ∉ ([45, 49, 50, 51, 52, 53, 54, 55, 56, 57, 58] : List Nat)) (j : Nat) : ((x).2) c j = M c j := by
  obtain ⟨v, hK⟩ : ∃ v, ((x).2) c j = v := ⟨_, rfl⟩
  rw [hK]
  refine Eq.symm ?_
  refine vb_ite hx (fun _ hx => ?_) (fun _ hx => ?_)
  · obtain ⟨r3, h2, hx⟩ := vb_bind hx
    refine vb_ite hx (fun _ hx => ?_) (fun _ hx => ?_)
    · obtain ⟨_, hx⟩ := vb_if hx
      obtain ⟨_, hx⟩ := vb_if hx
      refine vb_ite hx (fun _ hx => ?_) (fun _ hx => ?_)
      · have hx := Option.some.inj hx
        subst hx
        exact ((congrFun (eg_u_ne (vne hc (a := 45) (by decide))) j).trans ((congrFun (eg_u_ne (vne hc (a := 45) (by decide))) j).trans ((congrFun (eg_u_ne (vne hc (a := 58) (by decide))) j).trans ((congrFun (eg_u_ne (vne hc (a := 57) (by decide))) j).trans ((fw_163 h2 (vsub hc (by decide)) j).trans rfl))))).symm.trans hK
      · obtain ⟨r10, h9, hx⟩ := vb_bind hx
        have hx := Option.some.inj hx
        subst hx
        exact ((congrFun (eg_u_ne (vne hc (a := 45) (by decide))) j).trans ((fw_163 h9 (vsub hc (by decide)) j).trans ((congrFun (eg_u_ne (vne hc (a := 45) (by decide))) j).trans ((congrFun (eg_u_ne (vne hc (a := 58) (by decide))) j).trans ((congrFun (eg_u_ne (vne hc (a := 57) (by decide))) j).trans ((fw_163 h2 (vsub hc (by decide)) j).trans rfl)))))).symm.trans hK
    · have hx := Option.some.inj hx
      subst hx
      exact ((fw_163 h2 (vsub hc (by decide)) j).trans rfl).symm.trans hK
  · obtain ⟨r13, h12, hx⟩ := vb_bind hx
    have hx := Option.some.inj hx
    subst hx
    exact ((fw_161 h12 (vsub hc (by decide)) j).trans rfl).symm.trans hK
/-- 165: WeakSchemeModel.peek()I -/
noncomputable def fn_165 (M : eM) : Option (Int) :=
  if (M 45 4) ≤ (M 45 3) then
    some (-1)
  else
    if 0 ≤ (M 45 3) ∧ (M 45 3) < 3020 then
    some (M 46 (M 45 3).toNat)
    else none
set_option maxRecDepth 100000 in
theorem ft_165 {cn mo : Nat} {sc : eg_Sc} {d : Nat} {M : eM} {Q : Option eg_V → eg_H → Prop} {x : Int} (hx : fn_165 M = some x) (hK : Q (some (.inl x)) (em_L cn mo, eh_R, M)) : eg_wp sc (d + 1) 165 [.inr (.inr (some 45))] (em_L cn mo, eh_R, M) 0 0 Q := by
  refine eg_in (lv := [some (.inr (.inr (some 45)))]) eg_tj165 (Nat.le_of_ble_eq_true rfl) rfl ?_
  refine eg_k_aload rfl rfl ?_
  refine eg_k_gfi rfl rfl rfl ?_
  refine eg_k_aload rfl rfl ?_
  refine eg_k_gfi rfl rfl rfl ?_
  refine vk_icmp rfl hx Iff.rfl (fun c1 hx => ?_) (fun c1 hx => ?_)
  · refine eg_k_ci rfl ?_
    have hx := Option.some.inj hx
    subst hx
    exact eg_k_iret rfl True.intro (Nat.le_refl _) (Nat.le_refl _) hK
  · refine eg_k_aload rfl rfl ?_
    refine eg_k_gfa rfl rfl rfl eh_r45_0 ?_
    refine eg_k_aload rfl rfl ?_
    refine eg_k_gfi rfl rfl rfl ?_
    obtain ⟨b2, hx⟩ := vb_if hx
    refine eg_k_iald (k := 3020) rfl rfl b2.1 b2.2 ?_
    refine eg_k_goto rfl ?_
    have hx := Option.some.inj hx
    subst hx
    exact eg_k_iret rfl True.intro (Nat.le_refl _) (Nat.le_refl _) hK
noncomputable def fn_166_12 (x0 : Int) (M : eM) : Option (Int) :=
  if x0 = 33 then
    some 1
  else
    if x0 = 63 then
      some 1
    else
      if x0 = 42 then
        some 1
      else
        if x0 = 43 then
          some 1
        else
          if x0 = 45 then
            some 1
          else
            if x0 = 47 then
              some 1
            else
              if x0 < 60 then
                some 0
              else
                if 62 < x0 then
                  some 0
                else
                  some 1
noncomputable def fn_166_6 (x0 : Int) (M : eM) : Option (Int) :=
  if x0 < 48 then
    fn_166_12 x0 M
  else
    if x0 ≤ 57 then
      some 1
    else
      fn_166_12 x0 M
/-- 166: WeakSchemeModel.isLetter(I)Z -/
noncomputable def fn_166 (a : Int) (M : eM) : Option (Int) :=
  if a < 97 then
    fn_166_6 a M
  else
    if a ≤ 122 then
      some 1
    else
      fn_166_6 a M
set_option maxRecDepth 100000 in
theorem ft_166_12 {cn mo : Nat} {sc : eg_Sc} {d : Nat} {M : eM} {Q : Option eg_V → eg_H → Prop} {x0 : Int} {x : Int} (hx : fn_166_12 x0 M = some x) (hK : (fun (x : Int) => Q (some (.inl x)) (em_L cn mo, eh_R, M)) x) : eg_X sc (eg_wp sc d) eg_p166 (some .boolean) 0 0 Q 12 [some (.inl x0)] [] (em_L cn mo, eh_R, M) 0 0 := by
  refine eg_k_iload rfl rfl ?_
  refine eg_k_ci rfl ?_
  refine vk_icmp rfl hx Iff.rfl (fun c3 hx => ?_) (fun c3 hx => ?_)
  · refine eg_k_ci rfl ?_
    refine eg_k_goto rfl ?_
    have hx := Option.some.inj hx
    subst hx
    exact eg_k_iret rfl (Or.inr rfl) (Nat.le_refl _) (Nat.le_refl _) hK
  · refine eg_k_iload rfl rfl ?_
    refine eg_k_ci rfl ?_
    refine vk_icmp rfl hx Iff.rfl (fun c4 hx => ?_) (fun c4 hx => ?_)
    · refine eg_k_ci rfl ?_
      refine eg_k_goto rfl ?_
      have hx := Option.some.inj hx
      subst hx
      exact eg_k_iret rfl (Or.inr rfl) (Nat.le_refl _) (Nat.le_refl _) hK
    · refine eg_k_iload rfl rfl ?_
      refine eg_k_ci rfl ?_
      refine vk_icmp rfl hx Iff.rfl (fun c5 hx => ?_) (fun c5 hx => ?_)
      · refine eg_k_ci rfl ?_
        refine eg_k_goto rfl ?_
        have hx := Option.some.inj hx
        subst hx
        exact eg_k_iret rfl (Or.inr rfl) (Nat.le_refl _) (Nat.le_refl _) hK
      · refine eg_k_iload rfl rfl ?_
        refine eg_k_ci rfl ?_
        refine vk_icmp rfl hx Iff.rfl (fun c6 hx => ?_) (fun c6 hx => ?_)
        · refine eg_k_ci rfl ?_
          refine eg_k_goto rfl ?_
          have hx := Option.some.inj hx
          subst hx
          exact eg_k_iret rfl (Or.inr rfl) (Nat.le_refl _) (Nat.le_refl _) hK
        · refine eg_k_iload rfl rfl ?_
          refine eg_k_ci rfl ?_
          refine vk_icmp rfl hx Iff.rfl (fun c7 hx => ?_) (fun c7 hx => ?_)
          · refine eg_k_ci rfl ?_
            refine eg_k_goto rfl ?_
            have hx := Option.some.inj hx
            subst hx
            exact eg_k_iret rfl (Or.inr rfl) (Nat.le_refl _) (Nat.le_refl _) hK
          · refine eg_k_iload rfl rfl ?_
            refine eg_k_ci rfl ?_
            refine vk_icmp rfl hx Iff.rfl (fun c8 hx => ?_) (fun c8 hx => ?_)
            · refine eg_k_ci rfl ?_
              refine eg_k_goto rfl ?_
              have hx := Option.some.inj hx
              subst hx
              exact eg_k_iret rfl (Or.inr rfl) (Nat.le_refl _) (Nat.le_refl _) hK
            · refine eg_k_iload rfl rfl ?_
              refine eg_k_ci rfl ?_
              refine vk_icmp rfl hx Iff.rfl (fun c9 hx => ?_) (fun c9 hx => ?_)
              · refine eg_k_ci rfl ?_
                have hx := Option.some.inj hx
                subst hx
                exact eg_k_iret rfl (Or.inl rfl) (Nat.le_refl _) (Nat.le_refl _) hK
              · refine eg_k_iload rfl rfl ?_
                refine eg_k_ci rfl ?_
                refine vk_icmp rfl hx Iff.rfl (fun c10 hx => ?_) (fun c10 hx => ?_)
                · refine eg_k_ci rfl ?_
                  have hx := Option.some.inj hx
                  subst hx
                  exact eg_k_iret rfl (Or.inl rfl) (Nat.le_refl _) (Nat.le_refl _) hK
                · refine eg_k_ci rfl ?_
                  refine eg_k_goto rfl ?_
                  have hx := Option.some.inj hx
                  subst hx
                  exact eg_k_iret rfl (Or.inr rfl) (Nat.le_refl _) (Nat.le_refl _) hK
set_option maxRecDepth 100000 in
theorem ft_166_6 {cn mo : Nat} {sc : eg_Sc} {d : Nat} {M : eM} {Q : Option eg_V → eg_H → Prop} {x0 : Int} {x : Int} (hx : fn_166_6 x0 M = some x) (hK : (fun (x : Int) => Q (some (.inl x)) (em_L cn mo, eh_R, M)) x) : eg_X sc (eg_wp sc d) eg_p166 (some .boolean) 0 0 Q 6 [some (.inl x0)] [] (em_L cn mo, eh_R, M) 0 0 := by
  refine eg_k_iload rfl rfl ?_
  refine eg_k_ci rfl ?_
  refine vk_icmp rfl hx Iff.rfl (fun c2 hx => ?_) (fun c2 hx => ?_)
  · have hz := ft_166_12 (d := d) (sc := sc) hx hK
    exact hz
  · refine eg_k_iload rfl rfl ?_
    refine eg_k_ci rfl ?_
    refine vk_icmp rfl hx Iff.rfl (fun c11 hx => ?_) (fun c11 hx => ?_)
    · refine eg_k_ci rfl ?_
      refine eg_k_goto rfl ?_
      have hx := Option.some.inj hx
      subst hx
      exact eg_k_iret rfl (Or.inr rfl) (Nat.le_refl _) (Nat.le_refl _) hK
    · have hz := ft_166_12 (d := d) (sc := sc) hx hK
      exact hz
set_option maxRecDepth 100000 in
theorem ft_166 {cn mo : Nat} {sc : eg_Sc} {d : Nat} {M : eM} {Q : Option eg_V → eg_H → Prop} {a : Int} {x : Int} (hx : fn_166 a M = some x) (hK : Q (some (.inl x)) (em_L cn mo, eh_R, M)) : eg_wp sc (d + 1) 166 [.inl a] (em_L cn mo, eh_R, M) 0 0 Q := by
  refine eg_in (lv := [some (.inl a)]) eg_tj166 (Nat.le_of_ble_eq_true rfl) rfl ?_
  refine eg_k_iload rfl rfl ?_
  refine eg_k_ci rfl ?_
  refine vk_icmp rfl hx Iff.rfl (fun c1 hx => ?_) (fun c1 hx => ?_)
  · have hz := ft_166_6 (d := d) (sc := sc) hx hK
    exact hz
  · refine eg_k_iload rfl rfl ?_
    refine eg_k_ci rfl ?_
    refine vk_icmp rfl hx Iff.rfl (fun c12 hx => ?_) (fun c12 hx => ?_)
    · refine eg_k_ci rfl ?_
      refine eg_k_goto rfl ?_
      have hx := Option.some.inj hx
      subst hx
      exact eg_k_iret rfl (Or.inr rfl) (Nat.le_refl _) (Nat.le_refl _) hK
    · have hz := ft_166_6 (d := d) (sc := sc) hx hK
      exact hz
noncomputable def fn_167_0 (s : eM) : Option ((eM) ⊕ (eM)) :=
  if (s 45 18) ≤ 0 then
    some (.inr s)
  else
    if 0 ≤ (eg_wi ((s 45 18) - 1)) ∧ (eg_wi ((s 45 18) - 1)) < 31 then
    if (s 58 (eg_wi ((s 45 18) - 1)).toNat) = 0 then
        some (.inr s)
      else
        if 0 ≤ (s 57 (eg_wi ((s 45 18) - 1)).toNat) ∧ (s 57 (eg_wi ((s 45 18) - 1)).toNat) < 20100 then
        if ¬ (s 55 (s 57 (eg_wi ((s 45 18) - 1)).toNat).toNat) = 2 then
            some (.inr s)
          else
            some (.inl (eg_u s 45 18 (eg_wi ((s 45 18) - 1))))
        else none
    else none
/-- 167: WeakSchemeModel.closeQuotes()V -/
noncomputable def fn_167 (M : eM) : Option (eM) :=
  lp (fn_167_0) M
set_option maxRecDepth 100000 in
theorem ft_167_0 {cn mo : Nat} {sc : eg_Sc} {d : Nat} {Q : Option eg_V → eg_H → Prop} {s : eM} {x : eM} (hx : lp (fn_167_0) s = some x) (hK : (fun (x : eM) => Q (none) (em_L cn mo, eh_R, x)) x) : eg_X sc (eg_wp sc d) eg_p167 none 0 0 Q 0 [some (.inr (.inr (some 45)))] [] (em_L cn mo, eh_R, s) 0 0 := by
  refine lp_sound (P := (fun (s : eM) => eg_X sc (eg_wp sc d) eg_p167 none 0 0 Q 0 [some (.inr (.inr (some 45)))] [] (em_L cn mo, eh_R, s) 0 0)) (K := (fun (x : eM) => Q (none) (em_L cn mo, eh_R, x))) hx hK ?_
  intro s x hx hK
  refine eg_k_aload rfl rfl ?_
  refine eg_k_gfi rfl rfl rfl ?_
  refine vk_if rfl hx Iff.rfl (fun c1 hx => ?_) (fun c1 hx => ?_)
  · have hx := Option.some.inj hx
    subst hx
    exact eg_k_ret rfl rfl (Nat.le_refl _) (Nat.le_refl _) hK
  · refine eg_k_aload rfl rfl ?_
    refine eg_k_gfa rfl rfl rfl eh_r45_20 ?_
    refine eg_k_aload rfl rfl ?_
    refine eg_k_gfi rfl rfl rfl ?_
    refine eg_k_ci rfl ?_
    refine eg_k_isub rfl ?_
    obtain ⟨b2, hx⟩ := vb_if hx
    refine eg_k_zald (k := 31) rfl rfl b2.1 b2.2 ?_
    refine vk_if rfl hx Iff.rfl (fun c3 hx => ?_) (fun c3 hx => ?_)
    · have hx := Option.some.inj hx
      subst hx
      exact eg_k_ret rfl rfl (Nat.le_refl _) (Nat.le_refl _) hK
    · refine eg_k_aload rfl rfl ?_
      refine eg_k_gfa rfl rfl rfl eh_r45_14 ?_
      refine eg_k_aload rfl rfl ?_
      refine eg_k_gfa rfl rfl rfl eh_r45_19 ?_
      refine eg_k_aload rfl rfl ?_
      refine eg_k_gfi rfl rfl rfl ?_
      refine eg_k_ci rfl ?_
      refine eg_k_isub rfl ?_
      refine eg_k_iald (k := 31) rfl rfl b2.1 b2.2 ?_
      obtain ⟨b5, hx⟩ := vb_if hx
      refine eg_k_sald (k := 20100) rfl rfl b5.1 b5.2 ?_
      refine eg_k_ci rfl ?_
      refine vk_icmp rfl hx Iff.rfl (fun c6 hx => ?_) (fun c6 hx => ?_)
      · have hx := Option.some.inj hx
        subst hx
        exact eg_k_ret rfl rfl (Nat.le_refl _) (Nat.le_refl _) hK
      · refine eg_k_aload rfl rfl ?_
        refine eg_k_aload rfl rfl ?_
        refine eg_k_gfi rfl rfl rfl ?_
        refine eg_k_ci rfl ?_
        refine eg_k_isub rfl ?_
        refine eg_k_pfi rfl rfl rfl ?_
        refine eg_k_goto rfl ?_
        have hx := Option.some.inj hx
        subst hx
        exact hK
set_option maxRecDepth 100000 in
theorem ft_167 {cn mo : Nat} {sc : eg_Sc} {d : Nat} {M : eM} {Q : Option eg_V → eg_H → Prop} {x : eM} (hx : fn_167 M = some x) (hK : Q (none) (em_L cn mo, eh_R, x)) : eg_wp sc (d + 1) 167 [.inr (.inr (some 45))] (em_L cn mo, eh_R, M) 0 0 Q := by
  refine eg_in (lv := [some (.inr (.inr (some 45)))]) eg_tj167 (Nat.le_of_ble_eq_true rfl) rfl ?_
  have hz := ft_167_0 (d := d) (sc := sc) hx hK
  exact hz
theorem fw_167_0 {c j : Nat} {v : Int} {s : eM} {x : eM} (hc : c ∉ ([45] : List Nat)) (hx : lp (fn_167_0) s = some x) (hK : (fun (x : eM) => x c j = v) x) : s c j = v := by
  refine lp_sound (P := (fun (s : eM) => s c j = v)) (K := (fun (x : eM) => x c j = v)) hx hK ?_
  intro s x hx hK
  refine vb_ite hx (fun _ hx => ?_) (fun _ hx => ?_)
  · have hx := Option.some.inj hx
    subst hx
    exact (Eq.refl _).symm.trans hK
  · obtain ⟨_, hx⟩ := vb_if hx
    refine vb_ite hx (fun _ hx => ?_) (fun _ hx => ?_)
    · have hx := Option.some.inj hx
      subst hx
      exact (Eq.refl _).symm.trans hK
    · obtain ⟨_, hx⟩ := vb_if hx
      refine vb_ite hx (fun _ hx => ?_) (fun _ hx => ?_)
      · have hx := Option.some.inj hx
        subst hx
        exact (Eq.refl _).symm.trans hK
      · have hx := Option.some.inj hx
        subst hx
        exact ((congrFun (eg_u_ne (vne hc (a := 45) (by decide))) j).trans rfl).symm.trans hK
theorem fw_167 {M : eM} {c : Nat} {x : eM} (hx : fn_167 M = some x) (hc : c ∉ ([45] : List Nat)) (j : Nat) : x c j = M c j := by
  obtain ⟨v, hK⟩ : ∃ v, x c j = v := ⟨_, rfl⟩
  rw [hK]
  refine Eq.symm ?_
  have hz := fw_167_0 hc hx hK
  exact (Eq.refl _).symm.trans hz
noncomputable def fn_164_24 (x1 : Int) (x2 : Int) (M : eM) : Option (Int × eM) :=
  (fn_165 (eg_u M 45 3 (eg_wi ((M 45 3) + 1)))).bind fun r6 =>
  (fn_166 r6 (eg_u M 45 3 (eg_wi ((M 45 3) + 1)))).bind fun r9 =>
  if r9 = 0 then
    if ¬ x2 = 116 then
      (fn_163 2 0 x1 (eg_u M 45 3 (eg_wi ((M 45 3) + 1)))).bind fun r14 =>
      (fn_167 r14.2).bind fun m18 =>
      some (r14.1, m18)
    else
      (fn_163 1 0 x1 (eg_u M 45 3 (eg_wi ((M 45 3) + 1)))).bind fun r20 =>
      (fn_167 r20.2).bind fun m24 =>
      some (r20.1, m24)
  else
    (fn_161 1 (eg_wi ((M 45 3) + 1)) (eg_u M 45 3 (eg_wi ((M 45 3) + 1)))).bind fun r26 =>
    some (r26.1, r26.2)
/-- 164: WeakSchemeModel.sharp()I -/
noncomputable def fn_164 (M : eM) : Option (Int × eM) :=
  (fn_165 (eg_u M 45 3 (eg_wi ((M 45 3) + 1)))).bind fun r2 =>
  if r2 = 116 then
    fn_164_24 (M 45 3) r2 (eg_u M 45 3 (eg_wi ((M 45 3) + 1)))
  else
    if r2 = 102 then
      fn_164_24 (M 45 3) r2 (eg_u M 45 3 (eg_wi ((M 45 3) + 1)))
    else
      (fn_161 1 (eg_wi ((M 45 3) + 1)) (eg_u M 45 3 (eg_wi ((M 45 3) + 1)))).bind fun r30 =>
      some (r30.1, r30.2)
set_option maxRecDepth 100000 in
theorem ft_164_24 {cn mo : Nat} {sc : eg_Sc} {d : Nat} {M : eM} {Q : Option eg_V → eg_H → Prop} {x1 : Int} {x2 : Int} {x : Int × eM} (hx : fn_164_24 x1 x2 M = some x) (hK : (fun (x : Int × eM) => Q (some (.inl ((x).1))) (em_L cn mo, eh_R, (x).2)) x) : ∀ (w3 : Option eg_V), eg_X sc (eg_wp sc (d + 2)) eg_p164 (some .int) 0 0 Q 24 [some (.inr (.inr (some 45))), some (.inl x1), some (.inl x2), w3] [] (em_L cn mo, eh_R, M) 0 0 := by
  intro w3
  refine eg_k_aload rfl rfl ?_
  refine eg_k_aload rfl rfl ?_
  refine eg_k_gfi rfl rfl rfl ?_
  refine eg_k_ci rfl ?_
  refine eg_k_iadd rfl ?_
  refine eg_k_pfi rfl rfl rfl ?_
  refine eg_k_aload rfl rfl ?_
  obtain ⟨r6, h5, hx⟩ := vb_bind hx
  refine eg_k_call (c1 := 0) (z1 := 0) (as := [.inr (.inr (some 45))]) (rest := []) rfl eg_tj165 (Nat.le_of_ble_eq_true rfl) rfl rfl rfl (Nat.le_of_ble_eq_true rfl) (Nat.le_refl _) (Nat.le_refl _) ?_ (fun Q hQ => ft_165 h5 hQ)
  obtain ⟨r9, h8, hx⟩ := vb_bind hx
  refine eg_k_call (c1 := 0) (z1 := 0) (as := [.inl r6]) (rest := []) rfl eg_tj166 (Nat.le_of_ble_eq_true rfl) rfl rfl trivial (Nat.le_of_ble_eq_true rfl) (Nat.le_refl _) (Nat.le_refl _) ?_ (fun Q hQ => ft_166 h8 hQ)
  refine vk_if rfl hx Iff.rfl (fun c11 hx => ?_) (fun c11 hx => ?_)
  · refine eg_k_aload rfl rfl ?_
    refine eg_k_iload rfl rfl ?_
    refine eg_k_ci rfl ?_
    refine vk_icmp rfl hx Iff.rfl (fun c12 hx => ?_) (fun c12 hx => ?_)
    · refine eg_k_ci rfl ?_
      refine eg_k_ci rfl ?_
      refine eg_k_iload rfl rfl ?_
      obtain ⟨r14, h13, hx⟩ := vb_bind hx
      refine eg_k_call (c1 := 0) (z1 := 0) (as := [.inr (.inr (some 45)), .inl 2, .inl 0, .inl x1]) (rest := []) rfl eg_tj163 (Nat.le_of_ble_eq_true rfl) rfl rfl rfl (Nat.le_of_ble_eq_true rfl) (Nat.le_refl _) (Nat.le_refl _) ?_ (fun Q hQ => ft_163 h13 hQ)
      refine eg_k_istore (lv' := [some (.inr (.inr (some 45))), some (.inl x1), some (.inl x2), some (.inl r14.1)]) rfl rfl ?_
      refine eg_k_aload rfl rfl ?_
      obtain ⟨m18, h16, hx⟩ := vb_bind hx
      refine eg_k_call (c1 := 0) (z1 := 0) (as := [.inr (.inr (some 45))]) (rest := []) rfl eg_tj167 (Nat.le_of_ble_eq_true rfl) rfl rfl rfl (Nat.le_of_ble_eq_true rfl) (Nat.le_refl _) (Nat.le_refl _) ?_ (fun Q hQ => ft_167 h16 hQ)
      refine eg_k_iload rfl rfl ?_
      have hx := Option.some.inj hx
      subst hx
      exact eg_k_iret rfl True.intro (Nat.le_refl _) (Nat.le_refl _) hK
    · refine eg_k_ci rfl ?_
      refine eg_k_goto rfl ?_
      refine eg_k_ci rfl ?_
      refine eg_k_iload rfl rfl ?_
      obtain ⟨r20, h19, hx⟩ := vb_bind hx
      refine eg_k_call (c1 := 0) (z1 := 0) (as := [.inr (.inr (some 45)), .inl 1, .inl 0, .inl x1]) (rest := []) rfl eg_tj163 (Nat.le_of_ble_eq_true rfl) rfl rfl rfl (Nat.le_of_ble_eq_true rfl) (Nat.le_refl _) (Nat.le_refl _) ?_ (fun Q hQ => ft_163 h19 hQ)
      refine eg_k_istore (lv' := [some (.inr (.inr (some 45))), some (.inl x1), some (.inl x2), some (.inl r20.1)]) rfl rfl ?_
      refine eg_k_aload rfl rfl ?_
      obtain ⟨m24, h22, hx⟩ := vb_bind hx
      refine eg_k_call (c1 := 0) (z1 := 0) (as := [.inr (.inr (some 45))]) (rest := []) rfl eg_tj167 (Nat.le_of_ble_eq_true rfl) rfl rfl rfl (Nat.le_of_ble_eq_true rfl) (Nat.le_refl _) (Nat.le_refl _) ?_ (fun Q hQ => ft_167 h22 hQ)
      refine eg_k_iload rfl rfl ?_
      have hx := Option.some.inj hx
      subst hx
      exact eg_k_iret rfl True.intro (Nat.le_refl _) (Nat.le_refl _) hK
  · refine eg_k_aload rfl rfl ?_
    refine eg_k_ci rfl ?_
    refine eg_k_aload rfl rfl ?_
    refine eg_k_gfie (x := eg_wi ((M 45 3) + 1)) rfl rfl rfl rfl ?_
    obtain ⟨r26, h25, hx⟩ := vb_bind hx
    refine eg_k_call (c1 := 0) (z1 := 0) (as := [.inr (.inr (some 45)), .inl 1, .inl (eg_wi ((M 45 3) + 1))]) (rest := []) rfl eg_tj161 (Nat.le_of_ble_eq_true rfl) rfl rfl rfl (Nat.le_of_ble_eq_true rfl) (Nat.le_refl _) (Nat.le_refl _) ?_ (fun Q hQ => ft_161 h25 hQ)
    have hx := Option.some.inj hx
    subst hx
    exact eg_k_iret rfl True.intro (Nat.le_refl _) (Nat.le_refl _) hK
set_option maxRecDepth 100000 in
theorem ft_164 {cn mo : Nat} {sc : eg_Sc} {d : Nat} {M : eM} {Q : Option eg_V → eg_H → Prop} {x : Int × eM} (hx : fn_164 M = some x) (hK : Q (some (.inl ((x).1))) (em_L cn mo, eh_R, (x).2)) : eg_wp sc (d + 3) 164 [.inr (.inr (some 45))] (em_L cn mo, eh_R, M) 0 0 Q := by
  refine eg_in (lv := [some (.inr (.inr (some 45))), none, none, none]) eg_tj164 (Nat.le_of_ble_eq_true rfl) rfl ?_
  refine eg_k_aload rfl rfl ?_
  refine eg_k_gfi rfl rfl rfl ?_
  refine eg_k_istore (lv' := [some (.inr (.inr (some 45))), some (.inl (M 45 3)), none, none]) rfl rfl ?_
  refine eg_k_aload rfl rfl ?_
  refine eg_k_aload rfl rfl ?_
  refine eg_k_gfi rfl rfl rfl ?_
  refine eg_k_ci rfl ?_
  refine eg_k_iadd rfl ?_
  refine eg_k_pfi rfl rfl rfl ?_
  refine eg_k_aload rfl rfl ?_
  obtain ⟨r2, h1, hx⟩ := vb_bind hx
  refine eg_k_call (c1 := 0) (z1 := 0) (as := [.inr (.inr (some 45))]) (rest := []) rfl eg_tj165 (Nat.le_of_ble_eq_true rfl) rfl rfl rfl (Nat.le_of_ble_eq_true rfl) (Nat.le_refl _) (Nat.le_refl _) ?_ (fun Q hQ => ft_165 h1 hQ)
  refine eg_k_istore (lv' := [some (.inr (.inr (some 45))), some (.inl (M 45 3)), some (.inl r2), none]) rfl rfl ?_
  refine eg_k_iload rfl rfl ?_
  refine eg_k_ci rfl ?_
  refine vk_icmp rfl hx Iff.rfl (fun c4 hx => ?_) (fun c4 hx => ?_)
  · have hz := ft_164_24 (d := d) (sc := sc) hx hK
    exact hz none
  · refine eg_k_iload rfl rfl ?_
    refine eg_k_ci rfl ?_
    refine vk_icmp rfl hx Iff.rfl (fun c28 hx => ?_) (fun c28 hx => ?_)
    · have hz := ft_164_24 (d := d) (sc := sc) hx hK
      exact hz none
    · refine eg_k_aload rfl rfl ?_
      refine eg_k_ci rfl ?_
      refine eg_k_aload rfl rfl ?_
      refine eg_k_gfie (x := eg_wi ((M 45 3) + 1)) rfl rfl rfl rfl ?_
      obtain ⟨r30, h29, hx⟩ := vb_bind hx
      refine eg_k_call (c1 := 0) (z1 := 0) (as := [.inr (.inr (some 45)), .inl 1, .inl (eg_wi ((M 45 3) + 1))]) (rest := []) rfl eg_tj161 (Nat.le_of_ble_eq_true rfl) rfl rfl rfl (Nat.le_of_ble_eq_true rfl) (Nat.le_refl _) (Nat.le_refl _) ?_ (fun Q hQ => ft_161 h29 hQ)
      have hx := Option.some.inj hx
      subst hx
      exact eg_k_iret rfl True.intro (Nat.le_refl _) (Nat.le_refl _) hK
theorem fw_164_24 {M : eM} {c j : Nat} {v : Int} {x1 : Int} {x2 : Int} {x : Int × eM} (hc : c ∉ ([45, 49, 50, 51, 52, 53, 54, 55, 56] : List Nat)) (hx : fn_164_24 x1 x2 M = some x) (hK : (fun (x : Int × eM) => ((x).2) c j = v) x) : M c j = v := by
  obtain ⟨r6, h5, hx⟩ := vb_bind hx
  obtain ⟨r9, h8, hx⟩ := vb_bind hx
  refine vb_ite hx (fun _ hx => ?_) (fun _ hx => ?_)
  · refine vb_ite hx (fun _ hx => ?_) (fun _ hx => ?_)
    · obtain ⟨r14, h13, hx⟩ := vb_bind hx
      obtain ⟨m18, h16, hx⟩ := vb_bind hx
      have hx := Option.some.inj hx
      subst hx
      exact ((fw_167 h16 (vsub hc (by decide)) j).trans ((fw_163 h13 (vsub hc (by decide)) j).trans ((congrFun (eg_u_ne (vne hc (a := 45) (by decide))) j).trans rfl))).symm.trans hK
    · obtain ⟨r20, h19, hx⟩ := vb_bind hx
      obtain ⟨m24, h22, hx⟩ := vb_bind hx
      have hx := Option.some.inj hx
      subst hx
      exact ((fw_167 h22 (vsub hc (by decide)) j).trans ((fw_163 h19 (vsub hc (by decide)) j).trans ((congrFun (eg_u_ne (vne hc (a := 45) (by decide))) j).trans rfl))).symm.trans hK
  · obtain ⟨r26, h25, hx⟩ := vb_bind hx
    have hx := Option.some.inj hx
    subst hx
    exact ((fw_161 h25 (vsub hc (by decide)) j).trans ((congrFun (eg_u_ne (vne hc (a := 45) (by decide))) j).trans rfl)).symm.trans hK
theorem fw_164 {M : eM} {c : Nat} {x : Int × eM} (hx : fn_164 M = some x) (hc : c ∉ ([45, 49, 50, 51, 52, 53, 54, 55, 56] : List Nat)) (j : Nat) : ((x).2) c j = M c j := by
  obtain ⟨v, hK⟩ : ∃ v, ((x).2) c j = v := ⟨_, rfl⟩
  rw [hK]
  refine Eq.symm ?_
  obtain ⟨r2, h1, hx⟩ := vb_bind hx
  refine vb_ite hx (fun _ hx => ?_) (fun _ hx => ?_)
  · have hz := fw_164_24 hc hx hK
    exact ((congrFun (eg_u_ne (vne hc (a := 45) (by decide))) j).trans rfl).symm.trans hz
  · refine vb_ite hx (fun _ hx => ?_) (fun _ hx => ?_)
    · have hz := fw_164_24 hc hx hK
      exact ((congrFun (eg_u_ne (vne hc (a := 45) (by decide))) j).trans rfl).symm.trans hz
    · obtain ⟨r30, h29, hx⟩ := vb_bind hx
      have hx := Option.some.inj hx
      subst hx
      exact ((fw_161 h29 (vsub hc (by decide)) j).trans ((congrFun (eg_u_ne (vne hc (a := 45) (by decide))) j).trans rfl)).symm.trans hK
noncomputable def fn_169_70 (x1 : Int) (x2 : Int) (x3 : Int) (s1 : Int) (s2 : eM) : Option ((Int × eM) ⊕ (Int × eM)) :=
  if x3 ≤ s1 then
    if 0 ≤ (s2 45 7) ∧ (s2 45 7) < 460 then
    if 0 ≤ (eg_wi ((s2 45 7) + 1)) ∧ (eg_wi ((s2 45 7) + 1)) < 460 then
      some (.inr (eg_wi ((eg_wi ((s2 45 7) + 1)) - 1), eg_u (eg_u s2 48 (eg_wi ((s2 45 7) + 1)).toNat (eg_wi ((s2 48 (s2 45 7).toNat) + x3))) 45 7 (eg_wi ((s2 45 7) + 1))))
      else none
    else none
  else
    if 0 ≤ (s2 45 7) ∧ (s2 45 7) < 460 then
    if 0 ≤ (eg_wi (x1 + s1)) ∧ (eg_wi (x1 + s1)) < 3020 then
      if 0 ≤ (eg_wi ((s2 48 (s2 45 7).toNat) + s1)) ∧ (eg_wi ((s2 48 (s2 45 7).toNat) + s1)) < 9200 then
        some (.inl (eg_wi (s1 + 1), eg_u s2 47 (eg_wi ((s2 48 (s2 45 7).toNat) + s1)).toNat (s2 46 (eg_wi (x1 + s1)).toNat)))
        else none
      else none
    else none
noncomputable def fn_169_29 (x1 : Int) (x2 : Int) (x3 : Int) (x4 : Int) (M : eM) (s1 : Int) (s2 : Int) : Option ((Int × Int) ⊕ ((Int) ⊕ (Int × eM))) :=
  if x3 ≤ s2 then
    if s1 = 0 then
      some (.inr (.inl (eg_wi (x4 + 1))))
    else
      some (.inr (.inr (x4, M)))
  else
    if s1 = 0 then
      some (.inr (.inl (eg_wi (x4 + 1))))
    else
      if 0 ≤ x4 ∧ x4 < 460 then
      if 0 ≤ (eg_wi ((M 48 (x4).toNat) + s2)) ∧ (eg_wi ((M 48 (x4).toNat) + s2)) < 9200 then
        if 0 ≤ (eg_wi (x1 + s2)) ∧ (eg_wi (x1 + s2)) < 3020 then
          if ¬ (M 47 (eg_wi ((M 48 (x4).toNat) + s2)).toNat) = (M 46 (eg_wi (x1 + s2)).toNat) then
              some (.inl (0, eg_wi (s2 + 1)))
            else
              some (.inl (1, eg_wi (s2 + 1)))
          else none
        else none
      else none
noncomputable def fn_169_6 (x1 : Int) (x2 : Int) (x3 : Int) (M : eM) (s : Int) : Option ((Int) ⊕ (Int × eM)) :=
  if (M 45 7) ≤ s then
    if ¬ (M 45 7) = 444 then
      (lp (fun z => fn_169_70 x1 x2 x3 z.1 z.2) (0, M)).map Sum.inr
    else
      some (.inr ((-1), M))
  else
    if 0 ≤ (eg_wi (s + 1)) ∧ (eg_wi (s + 1)) < 460 then
    if 0 ≤ s ∧ s < 460 then
      if ¬ (eg_wi ((M 48 (eg_wi (s + 1)).toNat) - (M 48 (s).toNat))) = x3 then
          lp (fun z => fn_169_29 x1 x2 x3 s M z.1 z.2) (0, 0)
        else
          lp (fun z => fn_169_29 x1 x2 x3 s M z.1 z.2) (1, 0)
      else none
    else none
/-- 169: WeakSchemeModel.nameOf(II)I -/
noncomputable def fn_169 (a : Int) (b : Int) (M : eM) : Option (Int × eM) :=
  lp (fn_169_6 a b (eg_wi (b - a)) M) 0
set_option maxRecDepth 100000 in
theorem ft_169_70 {cn mo : Nat} {sc : eg_Sc} {d : Nat} {Q : Option eg_V → eg_H → Prop} {x1 : Int} {x2 : Int} {x3 : Int} {s : Int × eM} {x : Int × eM} (hx : lp (fun z => fn_169_70 x1 x2 x3 z.1 z.2) s = some x) (hK : (fun (x : Int × eM) => Q (some (.inl ((x).1))) (em_L cn mo, eh_R, (x).2)) x) : ∀ (w5 w6 : Option eg_V), eg_X sc (eg_wp sc d) eg_p169 (some .int) 0 0 Q 70 [some (.inr (.inr (some 45))), some (.inl x1), some (.inl x2), some (.inl x3), some (.inl s.1), w5, w6] [] (em_L cn mo, eh_R, s.2) 0 0 := by
  refine lp_sound (P := (fun (s : Int × eM) => ∀ (w5 w6 : Option eg_V), eg_X sc (eg_wp sc d) eg_p169 (some .int) 0 0 Q 70 [some (.inr (.inr (some 45))), some (.inl x1), some (.inl x2), some (.inl x3), some (.inl s.1), w5, w6] [] (em_L cn mo, eh_R, s.2) 0 0)) (K := (fun (x : Int × eM) => Q (some (.inl ((x).1))) (em_L cn mo, eh_R, (x).2))) hx hK ?_
  intro s x hx hK w5 w6
  obtain ⟨s1, s2⟩ := s
  refine eg_k_iload rfl rfl ?_
  refine eg_k_iload rfl rfl ?_
  refine vk_icmp rfl hx Iff.rfl (fun c3 hx => ?_) (fun c3 hx => ?_)
  · refine eg_k_aload rfl rfl ?_
    refine eg_k_gfa rfl rfl rfl eh_r45_6 ?_
    refine eg_k_aload rfl rfl ?_
    refine eg_k_gfi rfl rfl rfl ?_
    refine eg_k_ci rfl ?_
    refine eg_k_iadd rfl ?_
    refine eg_k_aload rfl rfl ?_
    refine eg_k_gfa rfl rfl rfl eh_r45_6 ?_
    refine eg_k_aload rfl rfl ?_
    refine eg_k_gfi rfl rfl rfl ?_
    obtain ⟨b4, hx⟩ := vb_if hx
    refine eg_k_iald (k := 460) rfl rfl b4.1 b4.2 ?_
    refine eg_k_iload rfl rfl ?_
    refine eg_k_iadd rfl ?_
    obtain ⟨b5, hx⟩ := vb_if hx
    refine eg_k_iast (k := 460) rfl rfl b5.1 b5.2 ?_
    refine eg_k_aload rfl rfl ?_
    refine eg_k_aload rfl rfl ?_
    refine eg_k_gfie (x := s2 45 7) rfl rfl rfl rfl ?_
    refine eg_k_ci rfl ?_
    refine eg_k_iadd rfl ?_
    refine eg_k_pfi rfl rfl rfl ?_
    refine eg_k_aload rfl rfl ?_
    refine eg_k_gfie (x := eg_wi ((s2 45 7) + 1)) rfl rfl rfl rfl ?_
    refine eg_k_ci rfl ?_
    refine eg_k_isub rfl ?_
    have hx := Option.some.inj hx
    subst hx
    exact eg_k_iret rfl True.intro (Nat.le_refl _) (Nat.le_refl _) hK
  · refine eg_k_aload rfl rfl ?_
    refine eg_k_gfa rfl rfl rfl eh_r45_5 ?_
    refine eg_k_aload rfl rfl ?_
    refine eg_k_gfa rfl rfl rfl eh_r45_6 ?_
    refine eg_k_aload rfl rfl ?_
    refine eg_k_gfi rfl rfl rfl ?_
    obtain ⟨b6, hx⟩ := vb_if hx
    refine eg_k_iald (k := 460) rfl rfl b6.1 b6.2 ?_
    refine eg_k_iload rfl rfl ?_
    refine eg_k_iadd rfl ?_
    refine eg_k_aload rfl rfl ?_
    refine eg_k_gfa rfl rfl rfl eh_r45_0 ?_
    refine eg_k_iload rfl rfl ?_
    refine eg_k_iload rfl rfl ?_
    refine eg_k_iadd rfl ?_
    obtain ⟨b7, hx⟩ := vb_if hx
    refine eg_k_iald (k := 3020) rfl rfl b7.1 b7.2 ?_
    obtain ⟨b8, hx⟩ := vb_if hx
    refine eg_k_iast (k := 9200) rfl rfl b8.1 b8.2 ?_
    refine eg_k_iinc (lv' := [some (.inr (.inr (some 45))), some (.inl x1), some (.inl x2), some (.inl x3), some (.inl (eg_wi (s1 + 1))), w5, w6]) rfl rfl rfl ?_
    refine eg_k_goto rfl ?_
    have hx := Option.some.inj hx
    subst hx
    exact hK w5 w6
set_option maxRecDepth 100000 in
theorem ft_169_29 {cn mo : Nat} {sc : eg_Sc} {d : Nat} {M : eM} {Q : Option eg_V → eg_H → Prop} {x1 : Int} {x2 : Int} {x3 : Int} {x4 : Int} {s : Int × Int} {x : (Int) ⊕ (Int × eM)} (hx : lp (fun z => fn_169_29 x1 x2 x3 x4 M z.1 z.2) s = some x) (hK : (eK (fun (s : Int) => ∀ (w5 w6 : Option eg_V), eg_X sc (eg_wp sc d) eg_p169 (some .int) 0 0 Q 6 [some (.inr (.inr (some 45))), some (.inl x1), some (.inl x2), some (.inl x3), some (.inl s), w5, w6] [] (em_L cn mo, eh_R, M) 0 0) (fun (x : Int × eM) => Q (some (.inl ((x).1))) (em_L cn mo, eh_R, (x).2))) x) : eg_X sc (eg_wp sc d) eg_p169 (some .int) 0 0 Q 29 [some (.inr (.inr (some 45))), some (.inl x1), some (.inl x2), some (.inl x3), some (.inl x4), some (.inl s.1), some (.inl s.2)] [] (em_L cn mo, eh_R, M) 0 0 := by
  refine lp_sound (P := (fun (s : Int × Int) => eg_X sc (eg_wp sc d) eg_p169 (some .int) 0 0 Q 29 [some (.inr (.inr (some 45))), some (.inl x1), some (.inl x2), some (.inl x3), some (.inl x4), some (.inl s.1), some (.inl s.2)] [] (em_L cn mo, eh_R, M) 0 0)) (K := (eK (fun (s : Int) => ∀ (w5 w6 : Option eg_V), eg_X sc (eg_wp sc d) eg_p169 (some .int) 0 0 Q 6 [some (.inr (.inr (some 45))), some (.inl x1), some (.inl x2), some (.inl x3), some (.inl s), w5, w6] [] (em_L cn mo, eh_R, M) 0 0) (fun (x : Int × eM) => Q (some (.inl ((x).1))) (em_L cn mo, eh_R, (x).2)))) hx hK ?_
  intro s x hx hK
  obtain ⟨s1, s2⟩ := s
  refine eg_k_iload rfl rfl ?_
  refine eg_k_iload rfl rfl ?_
  refine vk_icmp rfl hx Iff.rfl (fun c12 hx => ?_) (fun c12 hx => ?_)
  · refine eg_k_iload rfl rfl ?_
    refine vk_if rfl hx Iff.rfl (fun c13 hx => ?_) (fun c13 hx => ?_)
    · refine eg_k_iinc (lv' := [some (.inr (.inr (some 45))), some (.inl x1), some (.inl x2), some (.inl x3), some (.inl (eg_wi (x4 + 1))), some (.inl s1), some (.inl s2)]) rfl rfl rfl ?_
      refine eg_k_goto rfl ?_
      have hx := Option.some.inj hx
      subst hx
      exact hK (some (.inl s1)) (some (.inl s2))
    · refine eg_k_iload rfl rfl ?_
      have hx := Option.some.inj hx
      subst hx
      exact eg_k_iret rfl True.intro (Nat.le_refl _) (Nat.le_refl _) hK
  · refine eg_k_iload rfl rfl ?_
    refine vk_if rfl hx Iff.rfl (fun c14 hx => ?_) (fun c14 hx => ?_)
    · refine eg_k_iload rfl rfl ?_
      refine eg_k_if rfl (fun _ => ?_) (fun z => absurd c14 z)
      refine eg_k_iinc (lv' := [some (.inr (.inr (some 45))), some (.inl x1), some (.inl x2), some (.inl x3), some (.inl (eg_wi (x4 + 1))), some (.inl s1), some (.inl s2)]) rfl rfl rfl ?_
      refine eg_k_goto rfl ?_
      have hx := Option.some.inj hx
      subst hx
      exact hK (some (.inl s1)) (some (.inl s2))
    · refine eg_k_aload rfl rfl ?_
      refine eg_k_gfa rfl rfl rfl eh_r45_5 ?_
      refine eg_k_aload rfl rfl ?_
      refine eg_k_gfa rfl rfl rfl eh_r45_6 ?_
      refine eg_k_iload rfl rfl ?_
      obtain ⟨b15, hx⟩ := vb_if hx
      refine eg_k_iald (k := 460) rfl rfl b15.1 b15.2 ?_
      refine eg_k_iload rfl rfl ?_
      refine eg_k_iadd rfl ?_
      obtain ⟨b16, hx⟩ := vb_if hx
      refine eg_k_iald (k := 9200) rfl rfl b16.1 b16.2 ?_
      refine eg_k_aload rfl rfl ?_
      refine eg_k_gfa rfl rfl rfl eh_r45_0 ?_
      refine eg_k_iload rfl rfl ?_
      refine eg_k_iload rfl rfl ?_
      refine eg_k_iadd rfl ?_
      obtain ⟨b17, hx⟩ := vb_if hx
      refine eg_k_iald (k := 3020) rfl rfl b17.1 b17.2 ?_
      refine vk_icmp rfl hx Iff.rfl (fun c18 hx => ?_) (fun c18 hx => ?_)
      · refine eg_k_ci rfl ?_
        refine eg_k_istore (lv' := [some (.inr (.inr (some 45))), some (.inl x1), some (.inl x2), some (.inl x3), some (.inl x4), some (.inl 0), some (.inl s2)]) rfl rfl ?_
        refine eg_k_iinc (lv' := [some (.inr (.inr (some 45))), some (.inl x1), some (.inl x2), some (.inl x3), some (.inl x4), some (.inl 0), some (.inl (eg_wi (s2 + 1)))]) rfl rfl rfl ?_
        refine eg_k_goto rfl ?_
        have hx := Option.some.inj hx
        subst hx
        exact hK
      · refine eg_k_ci rfl ?_
        refine eg_k_goto rfl ?_
        refine eg_k_istore (lv' := [some (.inr (.inr (some 45))), some (.inl x1), some (.inl x2), some (.inl x3), some (.inl x4), some (.inl 1), some (.inl s2)]) rfl rfl ?_
        refine eg_k_iinc (lv' := [some (.inr (.inr (some 45))), some (.inl x1), some (.inl x2), some (.inl x3), some (.inl x4), some (.inl 1), some (.inl (eg_wi (s2 + 1)))]) rfl rfl rfl ?_
        refine eg_k_goto rfl ?_
        have hx := Option.some.inj hx
        subst hx
        exact hK
set_option maxRecDepth 100000 in
theorem ft_169_6 {cn mo : Nat} {sc : eg_Sc} {d : Nat} {M : eM} {Q : Option eg_V → eg_H → Prop} {x1 : Int} {x2 : Int} {x3 : Int} {s : Int} {x : Int × eM} (hx : lp (fn_169_6 x1 x2 x3 M) s = some x) (hK : (fun (x : Int × eM) => Q (some (.inl ((x).1))) (em_L cn mo, eh_R, (x).2)) x) : ∀ (w5 w6 : Option eg_V), eg_X sc (eg_wp sc d) eg_p169 (some .int) 0 0 Q 6 [some (.inr (.inr (some 45))), some (.inl x1), some (.inl x2), some (.inl x3), some (.inl s), w5, w6] [] (em_L cn mo, eh_R, M) 0 0 := by
  refine lp_sound (P := (fun (s : Int) => ∀ (w5 w6 : Option eg_V), eg_X sc (eg_wp sc d) eg_p169 (some .int) 0 0 Q 6 [some (.inr (.inr (some 45))), some (.inl x1), some (.inl x2), some (.inl x3), some (.inl s), w5, w6] [] (em_L cn mo, eh_R, M) 0 0)) (K := (fun (x : Int × eM) => Q (some (.inl ((x).1))) (em_L cn mo, eh_R, (x).2))) hx hK ?_
  intro s x hx hK w5 w6
  refine eg_k_iload rfl rfl ?_
  refine eg_k_aload rfl rfl ?_
  refine eg_k_gfi rfl rfl rfl ?_
  refine vk_icmp rfl hx Iff.rfl (fun c1 hx => ?_) (fun c1 hx => ?_)
  · refine eg_k_aload rfl rfl ?_
    refine eg_k_gfi rfl rfl rfl ?_
    refine eg_k_ci rfl ?_
    refine vk_icmp rfl hx Iff.rfl (fun c2 hx => ?_) (fun c2 hx => ?_)
    · refine eg_k_ci rfl ?_
      refine eg_k_istore (lv' := [some (.inr (.inr (some 45))), some (.inl x1), some (.inl x2), some (.inl x3), some (.inl 0), w5, w6]) rfl rfl ?_
      obtain ⟨x, hy, e9⟩ := vb_map hx
      clear hx
      subst e9
      have hx := hy
      clear hy
      have hz := ft_169_70 (d := d) (sc := sc) hx hK
      exact hz w5 w6
    · refine eg_k_ci rfl ?_
      have hx := Option.some.inj hx
      subst hx
      exact eg_k_iret rfl True.intro (Nat.le_refl _) (Nat.le_refl _) hK
  · refine eg_k_aload rfl rfl ?_
    refine eg_k_gfa rfl rfl rfl eh_r45_6 ?_
    refine eg_k_iload rfl rfl ?_
    refine eg_k_ci rfl ?_
    refine eg_k_iadd rfl ?_
    obtain ⟨b9, hx⟩ := vb_if hx
    refine eg_k_iald (k := 460) rfl rfl b9.1 b9.2 ?_
    refine eg_k_aload rfl rfl ?_
    refine eg_k_gfa rfl rfl rfl eh_r45_6 ?_
    refine eg_k_iload rfl rfl ?_
    obtain ⟨b10, hx⟩ := vb_if hx
    refine eg_k_iald (k := 460) rfl rfl b10.1 b10.2 ?_
    refine eg_k_isub rfl ?_
    refine eg_k_iload rfl rfl ?_
    refine vk_icmp rfl hx Iff.rfl (fun c11 hx => ?_) (fun c11 hx => ?_)
    · refine eg_k_ci rfl ?_
      refine eg_k_istore (lv' := [some (.inr (.inr (some 45))), some (.inl x1), some (.inl x2), some (.inl x3), some (.inl s), some (.inl 0), w6]) rfl rfl ?_
      refine eg_k_ci rfl ?_
      refine eg_k_istore (lv' := [some (.inr (.inr (some 45))), some (.inl x1), some (.inl x2), some (.inl x3), some (.inl s), some (.inl 0), some (.inl 0)]) rfl rfl ?_
      have hz := ft_169_29 (d := d) (sc := sc) hx hK
      exact hz
    · refine eg_k_ci rfl ?_
      refine eg_k_goto rfl ?_
      refine eg_k_istore (lv' := [some (.inr (.inr (some 45))), some (.inl x1), some (.inl x2), some (.inl x3), some (.inl s), some (.inl 1), w6]) rfl rfl ?_
      refine eg_k_ci rfl ?_
      refine eg_k_istore (lv' := [some (.inr (.inr (some 45))), some (.inl x1), some (.inl x2), some (.inl x3), some (.inl s), some (.inl 1), some (.inl 0)]) rfl rfl ?_
      have hz := ft_169_29 (d := d) (sc := sc) hx hK
      exact hz
set_option maxRecDepth 100000 in
theorem ft_169 {cn mo : Nat} {sc : eg_Sc} {d : Nat} {M : eM} {Q : Option eg_V → eg_H → Prop} {a : Int} {b : Int} {x : Int × eM} (hx : fn_169 a b M = some x) (hK : Q (some (.inl ((x).1))) (em_L cn mo, eh_R, (x).2)) : eg_wp sc (d + 1) 169 [.inr (.inr (some 45)), .inl a, .inl b] (em_L cn mo, eh_R, M) 0 0 Q := by
  refine eg_in (lv := [some (.inr (.inr (some 45))), some (.inl a), some (.inl b), none, none, none, none]) eg_tj169 (Nat.le_of_ble_eq_true rfl) rfl ?_
  refine eg_k_iload rfl rfl ?_
  refine eg_k_iload rfl rfl ?_
  refine eg_k_isub rfl ?_
  refine eg_k_istore (lv' := [some (.inr (.inr (some 45))), some (.inl a), some (.inl b), some (.inl (eg_wi (b - a))), none, none, none]) rfl rfl ?_
  refine eg_k_ci rfl ?_
  refine eg_k_istore (lv' := [some (.inr (.inr (some 45))), some (.inl a), some (.inl b), some (.inl (eg_wi (b - a))), some (.inl 0), none, none]) rfl rfl ?_
  have hz := ft_169_6 (d := d) (sc := sc) hx hK
  exact hz none none
theorem fw_169_70 {c j : Nat} {v : Int} {x1 : Int} {x2 : Int} {x3 : Int} {s : Int × eM} {x : Int × eM} (hc : c ∉ ([45, 47, 48] : List Nat)) (hx : lp (fun z => fn_169_70 x1 x2 x3 z.1 z.2) s = some x) (hK : (fun (x : Int × eM) => ((x).2) c j = v) x) : s.2 c j = v := by
  refine lp_sound (P := (fun (s : Int × eM) => s.2 c j = v)) (K := (fun (x : Int × eM) => ((x).2) c j = v)) hx hK ?_
  intro s x hx hK
  obtain ⟨s1, s2⟩ := s
  refine vb_ite hx (fun _ hx => ?_) (fun _ hx => ?_)
  · obtain ⟨_, hx⟩ := vb_if hx
    obtain ⟨_, hx⟩ := vb_if hx
    have hx := Option.some.inj hx
    subst hx
    exact ((congrFun (eg_u_ne (vne hc (a := 45) (by decide))) j).trans ((congrFun (eg_u_ne (vne hc (a := 48) (by decide))) j).trans rfl)).symm.trans hK
  · obtain ⟨_, hx⟩ := vb_if hx
    obtain ⟨_, hx⟩ := vb_if hx
    obtain ⟨_, hx⟩ := vb_if hx
    have hx := Option.some.inj hx
    subst hx
    exact ((congrFun (eg_u_ne (vne hc (a := 47) (by decide))) j).trans rfl).symm.trans hK
theorem fw_169_29 {M : eM} {c j : Nat} {v : Int} {x1 : Int} {x2 : Int} {x3 : Int} {x4 : Int} {s : Int × Int} {x : (Int) ⊕ (Int × eM)} (hc : c ∉ ([45, 47, 48] : List Nat)) (hx : lp (fun z => fn_169_29 x1 x2 x3 x4 M z.1 z.2) s = some x) (hK : (eK (fun (s : Int) => M c j = v) (fun (x : Int × eM) => ((x).2) c j = v)) x) : M c j = v := by
  refine lp_sound (P := (fun (s : Int × Int) => M c j = v)) (K := (eK (fun (s : Int) => M c j = v) (fun (x : Int × eM) => ((x).2) c j = v))) hx hK ?_
  intro s x hx hK
  obtain ⟨s1, s2⟩ := s
  refine vb_ite hx (fun _ hx => ?_) (fun _ hx => ?_)
  · refine vb_ite hx (fun _ hx => ?_) (fun _ hx => ?_)
    · have hx := Option.some.inj hx
      subst hx
      exact hK
    · have hx := Option.some.inj hx
      subst hx
      exact (Eq.refl _).symm.trans hK
  · refine vb_ite hx (fun _ hx => ?_) (fun _ hx => ?_)
    · have hx := Option.some.inj hx
      subst hx
      exact hK
    · obtain ⟨_, hx⟩ := vb_if hx
      obtain ⟨_, hx⟩ := vb_if hx
      obtain ⟨_, hx⟩ := vb_if hx
      refine vb_ite hx (fun _ hx => ?_) (fun _ hx => ?_)
      · have hx := Option.some.inj hx
        subst hx
        exact hK
      · have hx := Option.some.inj hx
        subst hx
        exact hK
theorem fw_169_6 {M : eM} {c j : Nat} {v : Int} {x1 : Int} {x2 : Int} {x3 : Int} {s : Int} {x : Int × eM} (hc : c ∉ ([45, 47, 48] : List Nat)) (hx : lp (fn_169_6 x1 x2 x3 M) s = some x) (hK : (fun (x : Int × eM) => ((x).2) c j = v) x) : M c j = v := by
  refine lp_sound (P := (fun (s : Int) => M c j = v)) (K := (fun (x : Int × eM) => ((x).2) c j = v)) hx hK ?_
  intro s x hx hK
  refine vb_ite hx (fun _ hx => ?_) (fun _ hx => ?_)
  · refine vb_ite hx (fun _ hx => ?_) (fun _ hx => ?_)
    · obtain ⟨x, hy, e9⟩ := vb_map hx
      clear hx
      subst e9
      have hx := hy
      clear hy
      have hz := fw_169_70 hc hx hK
      exact (Eq.refl _).symm.trans hz
    · have hx := Option.some.inj hx
      subst hx
      exact (Eq.refl _).symm.trans hK
  · obtain ⟨_, hx⟩ := vb_if hx
    obtain ⟨_, hx⟩ := vb_if hx
    refine vb_ite hx (fun _ hx => ?_) (fun _ hx => ?_)
    · have hz := fw_169_29 hc hx hK
      exact (Eq.refl _).symm.trans hz
    · have hz := fw_169_29 hc hx hK
      exact (Eq.refl _).symm.trans hz
theorem fw_169 {M : eM} {c : Nat} {a : Int} {b : Int} {x : Int × eM} (hx : fn_169 a b M = some x) (hc : c ∉ ([45, 47, 48] : List Nat)) (j : Nat) : ((x).2) c j = M c j := by
  obtain ⟨v, hK⟩ : ∃ v, ((x).2) c j = v := ⟨_, rfl⟩
  rw [hK]
  refine Eq.symm ?_
  have hz := fw_169_6 hc hx hK
  exact (Eq.refl _).symm.trans hz
noncomputable def fn_168_150 (x1 : Int) (x7 : Int) (y0 : Int) (M : eM) : Option (Int × eM) :=
  if 0 ≤ y0 then
    if ¬ x7 = 0 then
      (fn_167 M).bind fun m29 =>
      some (x7, m29)
    else
      if 0 ≤ (eg_wi ((M 45 16) - 1)) ∧ (eg_wi ((M 45 16) - 1)) < 20100 then
      (fn_167 (eg_u M 50 (eg_wi ((M 45 16) - 1)).toNat y0)).bind fun m33 =>
        some (x7, m33)
      else none
  else
    (fn_161 2 x1 M).bind fun r35 =>
    some (r35.1, r35.2)
noncomputable def fn_168_135 (x1 : Int) (M : eM) : Option (Int × eM) :=
  (fn_163 3 0 x1 M).bind fun r19 =>
  if r19.1 ≤ 0 then
    (fn_169 x1 (r19.2 45 3) r19.2).bind fun r23 =>
    fn_168_150 x1 r19.1 r23.1 r23.2
  else
    fn_168_150 x1 r19.1 0 r19.2
noncomputable def fn_168_93 (x1 : Int) (y0 : Int) (M : eM) : Option (Int × eM) :=
  if y0 < (-2147483648) then
    (fn_161 1 x1 M).bind fun r45 =>
    some (r45.1, r45.2)
  else
    if y0 ≤ 2147483647 then
      (fn_163 0 (eg_wi y0) x1 M).bind fun r49 =>
      (fn_167 r49.2).bind fun m53 =>
      some (r49.1, m53)
    else
      (fn_161 1 x1 M).bind fun r55 =>
      some (r55.1, r55.2)
noncomputable def fn_168_61 (x1 : Int) (x2 : Int) (x3 : Int) (x5 : Int) (x7 : Int) (y0 : Int) (M : eM) : Option ((Int × Int × Int) ⊕ (Int × eM)) :=
  if y0 = 0 then
    some (.inl (y0, x5, eg_wi (x7 + 1)))
  else
    if 10000000000 ≤ x5 then
      some (.inl (y0, x5, eg_wi (x7 + 1)))
    else
      if 0 ≤ x7 ∧ x7 < 3020 then
      some (.inl (y0, eg_wl ((eg_wl ((eg_wl (10 * x5)) + (M 46 (x7).toNat))) - 48), eg_wi (x7 + 1)))
      else none
noncomputable def fn_168_60 (x1 : Int) (x2 : Int) (x3 : Int) (x5 : Int) (x7 : Int) (M : eM) : Option ((Int × Int × Int) ⊕ (Int × eM)) :=
  fn_168_61 x1 x2 x3 x5 x7 0 M
noncomputable def fn_168_40 (x1 : Int) (x2 : Int) (x3 : Int) (M : eM) (s1 : Int) (s2 : Int) (s3 : Int) : Option ((Int × Int × Int) ⊕ (Int × eM)) :=
  if (M 45 3) ≤ s3 then
    if s1 = 0 then
      if 20 < x2 then
        (fn_161 1 x1 M).bind fun r14 =>
        some (.inr (r14.1, r14.2))
      else
        if 0 ≤ x1 ∧ x1 < 3020 then
        if (M 46 (x1).toNat) < 48 then
            (fn_168_135 x1 M).map Sum.inr
          else
            if 57 < (M 46 (x1).toNat) then
              (fn_168_135 x1 M).map Sum.inr
            else
              (fn_161 1 x1 M).bind fun r40 =>
              some (.inr (r40.1, r40.2))
        else none
    else
      if x3 ≤ x1 then
        (fn_168_93 x1 s2 M).map Sum.inr
      else
        (fn_168_93 x1 (eg_wl (-s2)) M).map Sum.inr
  else
    if s1 = 0 then
      fn_168_60 x1 x2 x3 s2 s3 M
    else
      if 0 ≤ s3 ∧ s3 < 3020 then
      if (M 46 (s3).toNat) < 48 then
          fn_168_60 x1 x2 x3 s2 s3 M
        else
          if 57 < (M 46 (s3).toNat) then
            fn_168_60 x1 x2 x3 s2 s3 M
          else
            fn_168_61 x1 x2 x3 s2 s3 1 M
      else none
noncomputable def fn_168_3 (x1 : Int) (s : eM) : Option ((eM) ⊕ (Int × eM)) :=
  (fn_165 s).bind fun r2 =>
  (fn_166 r2 s).bind fun r5 =>
  if r5 = 0 then
    if 0 ≤ x1 ∧ x1 < 3020 then
    if ¬ (s 46 (x1).toNat) = 45 then
        (lp (fun z => fn_168_40 x1 (eg_wi ((s 45 3) - x1)) x1 s z.1 z.2.1 z.2.2) (1, 0, x1)).map Sum.inr
      else
        if (eg_wi ((s 45 3) - x1)) ≤ 1 then
          (lp (fun z => fn_168_40 x1 (eg_wi ((s 45 3) - x1)) x1 s z.1 z.2.1 z.2.2) (1, 0, x1)).map Sum.inr
        else
          (lp (fun z => fn_168_40 x1 (eg_wi ((s 45 3) - x1)) (eg_wi (x1 + 1)) s z.1 z.2.1 z.2.2) (1, 0, eg_wi (x1 + 1))).map Sum.inr
    else none
  else
    some (.inl (eg_u s 45 3 (eg_wi ((s 45 3) + 1))))
/-- 168: WeakSchemeModel.word()I -/
noncomputable def fn_168 (M : eM) : Option (Int × eM) :=
  lp (fn_168_3 (M 45 3)) M
set_option maxRecDepth 100000 in
theorem ft_168_150 {cn mo : Nat} {sc : eg_Sc} {d : Nat} {M : eM} {Q : Option eg_V → eg_H → Prop} {x1 : Int} {x7 : Int} {y0 : Int} {x : Int × eM} (hx : fn_168_150 x1 x7 y0 M = some x) (hK : (fun (x : Int × eM) => Q (some (.inl ((x).1))) (em_L cn mo, eh_R, (x).2)) x) : ∀ (w2 w3 w4 w5 w6 w8 : Option eg_V), eg_X sc (eg_wp sc (d + 2)) eg_p168 (some .int) 0 0 Q 150 [some (.inr (.inr (some 45))), some (.inl x1), w2, w3, w4, w5, w6, some (.inl x7), w8] [.inl y0] (em_L cn mo, eh_R, M) 0 0 := by
  intro w2 w3 w4 w5 w6 w8
  refine eg_k_istore (lv' := [some (.inr (.inr (some 45))), some (.inl x1), w2, w3, w4, w5, w6, some (.inl x7), some (.inl y0)]) rfl rfl ?_
  refine eg_k_iload rfl rfl ?_
  refine vk_if rfl hx Iff.rfl (fun c25 hx => ?_) (fun c25 hx => ?_)
  · refine eg_k_iload rfl rfl ?_
    refine vk_if rfl hx Iff.rfl (fun c26 hx => ?_) (fun c26 hx => ?_)
    · refine eg_k_aload rfl rfl ?_
      obtain ⟨m29, h27, hx⟩ := vb_bind hx
      refine eg_k_call (c1 := 0) (z1 := 0) (as := [.inr (.inr (some 45))]) (rest := []) rfl eg_tj167 (Nat.le_of_ble_eq_true rfl) rfl rfl rfl (Nat.le_of_ble_eq_true rfl) (Nat.le_refl _) (Nat.le_refl _) ?_ (fun Q hQ => ft_167 h27 hQ)
      refine eg_k_iload rfl rfl ?_
      have hx := Option.some.inj hx
      subst hx
      exact eg_k_iret rfl True.intro (Nat.le_refl _) (Nat.le_refl _) hK
    · refine eg_k_aload rfl rfl ?_
      refine eg_k_gfa rfl rfl rfl eh_r45_9 ?_
      refine eg_k_aload rfl rfl ?_
      refine eg_k_gfi rfl rfl rfl ?_
      refine eg_k_ci rfl ?_
      refine eg_k_isub rfl ?_
      refine eg_k_iload rfl rfl ?_
      obtain ⟨b30, hx⟩ := vb_if hx
      refine eg_k_iast (k := 20100) rfl rfl b30.1 b30.2 ?_
      refine eg_k_aload rfl rfl ?_
      obtain ⟨m33, h31, hx⟩ := vb_bind hx
      refine eg_k_call (c1 := 0) (z1 := 0) (as := [.inr (.inr (some 45))]) (rest := []) rfl eg_tj167 (Nat.le_of_ble_eq_true rfl) rfl rfl rfl (Nat.le_of_ble_eq_true rfl) (Nat.le_refl _) (Nat.le_refl _) ?_ (fun Q hQ => ft_167 h31 hQ)
      refine eg_k_iload rfl rfl ?_
      have hx := Option.some.inj hx
      subst hx
      exact eg_k_iret rfl True.intro (Nat.le_refl _) (Nat.le_refl _) hK
  · refine eg_k_aload rfl rfl ?_
    refine eg_k_ci rfl ?_
    refine eg_k_iload rfl rfl ?_
    obtain ⟨r35, h34, hx⟩ := vb_bind hx
    refine eg_k_call (c1 := 0) (z1 := 0) (as := [.inr (.inr (some 45)), .inl 2, .inl x1]) (rest := []) rfl eg_tj161 (Nat.le_of_ble_eq_true rfl) rfl rfl rfl (Nat.le_of_ble_eq_true rfl) (Nat.le_refl _) (Nat.le_refl _) ?_ (fun Q hQ => ft_161 h34 hQ)
    have hx := Option.some.inj hx
    subst hx
    exact eg_k_iret rfl True.intro (Nat.le_refl _) (Nat.le_refl _) hK
set_option maxRecDepth 100000 in
theorem ft_168_135 {cn mo : Nat} {sc : eg_Sc} {d : Nat} {M : eM} {Q : Option eg_V → eg_H → Prop} {x1 : Int} {x : Int × eM} (hx : fn_168_135 x1 M = some x) (hK : (fun (x : Int × eM) => Q (some (.inl ((x).1))) (em_L cn mo, eh_R, (x).2)) x) : ∀ (w2 w3 w4 w5 w6 w7 w8 : Option eg_V), eg_X sc (eg_wp sc (d + 2)) eg_p168 (some .int) 0 0 Q 135 [some (.inr (.inr (some 45))), some (.inl x1), w2, w3, w4, w5, w6, w7, w8] [] (em_L cn mo, eh_R, M) 0 0 := by
  intro w2 w3 w4 w5 w6 w7 w8
  refine eg_k_aload rfl rfl ?_
  refine eg_k_ci rfl ?_
  refine eg_k_ci rfl ?_
  refine eg_k_iload rfl rfl ?_
  obtain ⟨r19, h18, hx⟩ := vb_bind hx
  refine eg_k_call (c1 := 0) (z1 := 0) (as := [.inr (.inr (some 45)), .inl 3, .inl 0, .inl x1]) (rest := []) rfl eg_tj163 (Nat.le_of_ble_eq_true rfl) rfl rfl rfl (Nat.le_of_ble_eq_true rfl) (Nat.le_refl _) (Nat.le_refl _) ?_ (fun Q hQ => ft_163 h18 hQ)
  refine eg_k_istore (lv' := [some (.inr (.inr (some 45))), some (.inl x1), w2, w3, w4, w5, ev_nw w6, some (.inl r19.1), w8]) rfl (by rcases w6 with _ | (_ | (_ | _)) <;> rfl) ?_
  refine eg_k_iload rfl rfl ?_
  refine vk_if rfl hx Iff.rfl (fun c21 hx => ?_) (fun c21 hx => ?_)
  · refine eg_k_aload rfl rfl ?_
    refine eg_k_iload rfl rfl ?_
    refine eg_k_aload rfl rfl ?_
    refine eg_k_gfi rfl rfl rfl ?_
    obtain ⟨r23, h22, hx⟩ := vb_bind hx
    refine eg_k_call (c1 := 0) (z1 := 0) (as := [.inr (.inr (some 45)), .inl x1, .inl (r19.2 45 3)]) (rest := []) rfl eg_tj169 (Nat.le_of_ble_eq_true rfl) rfl rfl rfl (Nat.le_of_ble_eq_true rfl) (Nat.le_refl _) (Nat.le_refl _) ?_ (fun Q hQ => ft_169 h22 hQ)
    have hz := ft_168_150 (d := d) (sc := sc) hx hK
    exact hz w2 w3 w4 w5 (ev_nw w6) w8
  · refine eg_k_ci rfl ?_
    refine eg_k_goto rfl ?_
    have hz := ft_168_150 (d := d) (sc := sc) hx hK
    exact hz w2 w3 w4 w5 (ev_nw w6) w8
set_option maxRecDepth 100000 in
theorem ft_168_93 {cn mo : Nat} {sc : eg_Sc} {d : Nat} {M : eM} {Q : Option eg_V → eg_H → Prop} {x1 : Int} {y0 : Int} {x : Int × eM} (hx : fn_168_93 x1 y0 M = some x) (hK : (fun (x : Int × eM) => Q (some (.inl ((x).1))) (em_L cn mo, eh_R, (x).2)) x) : ∀ (w2 w3 w4 w5 w6 w7 w8 : Option eg_V), eg_X sc (eg_wp sc (d + 2)) eg_p168 (some .int) 0 0 Q 93 [some (.inr (.inr (some 45))), some (.inl x1), w2, w3, w4, w5, w6, w7, w8] [.inr (.inl y0)] (em_L cn mo, eh_R, M) 0 0 := by
  intro w2 w3 w4 w5 w6 w7 w8
  refine eg_k_lstore (lv' := [some (.inr (.inr (some 45))), some (.inl x1), w2, w3, ev_nw w4, some (.inr (.inl y0)), none, w7, w8]) rfl (by rcases w4 with _ | (_ | (_ | _)) <;> rfl) ?_
  refine eg_k_lload rfl rfl ?_
  refine eg_k_cl rfl ?_
  refine vk_lcmp rfl rfl hx Iff.rfl (fun c43 hx => ?_) (fun c43 hx => ?_)
  · refine eg_k_aload rfl rfl ?_
    refine eg_k_ci rfl ?_
    refine eg_k_iload rfl rfl ?_
    obtain ⟨r45, h44, hx⟩ := vb_bind hx
    refine eg_k_call (c1 := 0) (z1 := 0) (as := [.inr (.inr (some 45)), .inl 1, .inl x1]) (rest := []) rfl eg_tj161 (Nat.le_of_ble_eq_true rfl) rfl rfl rfl (Nat.le_of_ble_eq_true rfl) (Nat.le_refl _) (Nat.le_refl _) ?_ (fun Q hQ => ft_161 h44 hQ)
    have hx := Option.some.inj hx
    subst hx
    exact eg_k_iret rfl True.intro (Nat.le_refl _) (Nat.le_refl _) hK
  · refine eg_k_lload rfl rfl ?_
    refine eg_k_cl rfl ?_
    refine vk_lcmp rfl rfl hx Iff.rfl (fun c47 hx => ?_) (fun c47 hx => ?_)
    · refine eg_k_aload rfl rfl ?_
      refine eg_k_ci rfl ?_
      refine eg_k_lload rfl rfl ?_
      refine eg_k_l2i rfl ?_
      refine eg_k_iload rfl rfl ?_
      obtain ⟨r49, h48, hx⟩ := vb_bind hx
      refine eg_k_call (c1 := 0) (z1 := 0) (as := [.inr (.inr (some 45)), .inl 0, .inl (eg_wi y0), .inl x1]) (rest := []) rfl eg_tj163 (Nat.le_of_ble_eq_true rfl) rfl rfl rfl (Nat.le_of_ble_eq_true rfl) (Nat.le_refl _) (Nat.le_refl _) ?_ (fun Q hQ => ft_163 h48 hQ)
      refine eg_k_istore (lv' := [some (.inr (.inr (some 45))), some (.inl x1), w2, w3, ev_nw w4, some (.inr (.inl y0)), none, some (.inl r49.1), w8]) rfl rfl ?_
      refine eg_k_goto rfl ?_
      refine eg_k_aload rfl rfl ?_
      obtain ⟨m53, h51, hx⟩ := vb_bind hx
      refine eg_k_call (c1 := 0) (z1 := 0) (as := [.inr (.inr (some 45))]) (rest := []) rfl eg_tj167 (Nat.le_of_ble_eq_true rfl) rfl rfl rfl (Nat.le_of_ble_eq_true rfl) (Nat.le_refl _) (Nat.le_refl _) ?_ (fun Q hQ => ft_167 h51 hQ)
      refine eg_k_iload rfl rfl ?_
      have hx := Option.some.inj hx
      subst hx
      exact eg_k_iret rfl True.intro (Nat.le_refl _) (Nat.le_refl _) hK
    · refine eg_k_aload rfl rfl ?_
      refine eg_k_ci rfl ?_
      refine eg_k_iload rfl rfl ?_
      obtain ⟨r55, h54, hx⟩ := vb_bind hx
      refine eg_k_call (c1 := 0) (z1 := 0) (as := [.inr (.inr (some 45)), .inl 1, .inl x1]) (rest := []) rfl eg_tj161 (Nat.le_of_ble_eq_true rfl) rfl rfl rfl (Nat.le_of_ble_eq_true rfl) (Nat.le_refl _) (Nat.le_refl _) ?_ (fun Q hQ => ft_161 h54 hQ)
      have hx := Option.some.inj hx
      subst hx
      exact eg_k_iret rfl True.intro (Nat.le_refl _) (Nat.le_refl _) hK
set_option maxRecDepth 100000 in
theorem ft_168_61 {cn mo : Nat} {sc : eg_Sc} {d : Nat} {M : eM} {Q : Option eg_V → eg_H → Prop} {x1 : Int} {x2 : Int} {x3 : Int} {x5 : Int} {x7 : Int} {y0 : Int} {x : (Int × Int × Int) ⊕ (Int × eM)} (hx : fn_168_61 x1 x2 x3 x5 x7 y0 M = some x) (hK : (eK (fun (s : Int × Int × Int) => ∀ (w8 : Option eg_V), eg_X sc (eg_wp sc (d + 2)) eg_p168 (some .int) 0 0 Q 40 [some (.inr (.inr (some 45))), some (.inl x1), some (.inl x2), some (.inl x3), some (.inl s.1), some (.inr (.inl s.2.1)), none, some (.inl s.2.2), w8] [] (em_L cn mo, eh_R, M) 0 0) (fun (x : Int × eM) => Q (some (.inl ((x).1))) (em_L cn mo, eh_R, (x).2))) x) : ∀ (w4 w8 : Option eg_V), eg_X sc (eg_wp sc (d + 2)) eg_p168 (some .int) 0 0 Q 61 [some (.inr (.inr (some 45))), some (.inl x1), some (.inl x2), some (.inl x3), w4, some (.inr (.inl x5)), none, some (.inl x7), w8] [.inl y0] (em_L cn mo, eh_R, M) 0 0 := by
  intro w4 w8
  refine eg_k_istore (lv' := [some (.inr (.inr (some 45))), some (.inl x1), some (.inl x2), some (.inl x3), some (.inl y0), some (.inr (.inl x5)), none, some (.inl x7), w8]) rfl rfl ?_
  refine eg_k_iload rfl rfl ?_
  refine vk_if rfl hx Iff.rfl (fun c58 hx => ?_) (fun c58 hx => ?_)
  · refine eg_k_lload rfl rfl ?_
    refine eg_k_lstore (lv' := [some (.inr (.inr (some 45))), some (.inl x1), some (.inl x2), some (.inl x3), some (.inl y0), some (.inr (.inl x5)), none, some (.inl x7), w8]) rfl rfl ?_
    refine eg_k_iinc (lv' := [some (.inr (.inr (some 45))), some (.inl x1), some (.inl x2), some (.inl x3), some (.inl y0), some (.inr (.inl x5)), none, some (.inl (eg_wi (x7 + 1))), w8]) rfl rfl rfl ?_
    refine eg_k_goto rfl ?_
    have hx := Option.some.inj hx
    subst hx
    exact hK w8
  · refine eg_k_lload rfl rfl ?_
    refine eg_k_cl rfl ?_
    refine vk_lcmp rfl rfl hx Iff.rfl (fun c59 hx => ?_) (fun c59 hx => ?_)
    · refine eg_k_lload rfl rfl ?_
      refine eg_k_lstore (lv' := [some (.inr (.inr (some 45))), some (.inl x1), some (.inl x2), some (.inl x3), some (.inl y0), some (.inr (.inl x5)), none, some (.inl x7), w8]) rfl rfl ?_
      refine eg_k_iinc (lv' := [some (.inr (.inr (some 45))), some (.inl x1), some (.inl x2), some (.inl x3), some (.inl y0), some (.inr (.inl x5)), none, some (.inl (eg_wi (x7 + 1))), w8]) rfl rfl rfl ?_
      refine eg_k_goto rfl ?_
      have hx := Option.some.inj hx
      subst hx
      exact hK w8
    · refine eg_k_cl rfl ?_
      refine eg_k_lload rfl rfl ?_
      refine eg_k_lmul rfl ?_
      refine eg_k_aload rfl rfl ?_
      refine eg_k_gfa rfl rfl rfl eh_r45_0 ?_
      refine eg_k_iload rfl rfl ?_
      obtain ⟨b60, hx⟩ := vb_if hx
      refine eg_k_iald (k := 3020) rfl rfl b60.1 b60.2 ?_
      refine eg_k_i2l rfl ?_
      refine eg_k_ladd rfl ?_
      refine eg_k_cl rfl ?_
      refine eg_k_lsub rfl ?_
      refine eg_k_goto rfl ?_
      refine eg_k_lstore (lv' := [some (.inr (.inr (some 45))), some (.inl x1), some (.inl x2), some (.inl x3), some (.inl y0), some (.inr (.inl (eg_wl ((eg_wl ((eg_wl (10 * x5)) + (M 46 (x7).toNat))) - 48)))), none, some (.inl x7), w8]) rfl rfl ?_
      refine eg_k_iinc (lv' := [some (.inr (.inr (some 45))), some (.inl x1), some (.inl x2), some (.inl x3), some (.inl y0), some (.inr (.inl (eg_wl ((eg_wl ((eg_wl (10 * x5)) + (M 46 (x7).toNat))) - 48)))), none, some (.inl (eg_wi (x7 + 1))), w8]) rfl rfl rfl ?_
      refine eg_k_goto rfl ?_
      have hx := Option.some.inj hx
      subst hx
      exact hK w8
set_option maxRecDepth 100000 in
theorem ft_168_60 {cn mo : Nat} {sc : eg_Sc} {d : Nat} {M : eM} {Q : Option eg_V → eg_H → Prop} {x1 : Int} {x2 : Int} {x3 : Int} {x5 : Int} {x7 : Int} {x : (Int × Int × Int) ⊕ (Int × eM)} (hx : fn_168_60 x1 x2 x3 x5 x7 M = some x) (hK : (eK (fun (s : Int × Int × Int) => ∀ (w8 : Option eg_V), eg_X sc (eg_wp sc (d + 2)) eg_p168 (some .int) 0 0 Q 40 [some (.inr (.inr (some 45))), some (.inl x1), some (.inl x2), some (.inl x3), some (.inl s.1), some (.inr (.inl s.2.1)), none, some (.inl s.2.2), w8] [] (em_L cn mo, eh_R, M) 0 0) (fun (x : Int × eM) => Q (some (.inl ((x).1))) (em_L cn mo, eh_R, (x).2))) x) : ∀ (w4 w8 : Option eg_V), eg_X sc (eg_wp sc (d + 2)) eg_p168 (some .int) 0 0 Q 60 [some (.inr (.inr (some 45))), some (.inl x1), some (.inl x2), some (.inl x3), w4, some (.inr (.inl x5)), none, some (.inl x7), w8] [] (em_L cn mo, eh_R, M) 0 0 := by
  intro w4 w8
  refine eg_k_ci rfl ?_
  have hz := ft_168_61 (d := d) (sc := sc) hx hK
  exact hz w4 w8
set_option maxRecDepth 100000 in
theorem ft_168_40 {cn mo : Nat} {sc : eg_Sc} {d : Nat} {M : eM} {Q : Option eg_V → eg_H → Prop} {x1 : Int} {x2 : Int} {x3 : Int} {s : Int × Int × Int} {x : Int × eM} (hx : lp (fun z => fn_168_40 x1 x2 x3 M z.1 z.2.1 z.2.2) s = some x) (hK : (fun (x : Int × eM) => Q (some (.inl ((x).1))) (em_L cn mo, eh_R, (x).2)) x) : ∀ (w8 : Option eg_V), eg_X sc (eg_wp sc (d + 2)) eg_p168 (some .int) 0 0 Q 40 [some (.inr (.inr (some 45))), some (.inl x1), some (.inl x2), some (.inl x3), some (.inl s.1), some (.inr (.inl s.2.1)), none, some (.inl s.2.2), w8] [] (em_L cn mo, eh_R, M) 0 0 := by
  refine lp_sound (P := (fun (s : Int × Int × Int) => ∀ (w8 : Option eg_V), eg_X sc (eg_wp sc (d + 2)) eg_p168 (some .int) 0 0 Q 40 [some (.inr (.inr (some 45))), some (.inl x1), some (.inl x2), some (.inl x3), some (.inl s.1), some (.inr (.inl s.2.1)), none, some (.inl s.2.2), w8] [] (em_L cn mo, eh_R, M) 0 0)) (K := (fun (x : Int × eM) => Q (some (.inl ((x).1))) (em_L cn mo, eh_R, (x).2))) hx hK ?_
  intro s x hx hK w8
  obtain ⟨s1, s2, s3⟩ := s
  refine eg_k_iload rfl rfl ?_
  refine eg_k_aload rfl rfl ?_
  refine eg_k_gfi rfl rfl rfl ?_
  refine vk_icmp rfl hx Iff.rfl (fun c10 hx => ?_) (fun c10 hx => ?_)
  · refine eg_k_iload rfl rfl ?_
    refine vk_if rfl hx Iff.rfl (fun c11 hx => ?_) (fun c11 hx => ?_)
    · refine eg_k_iload rfl rfl ?_
      refine eg_k_ci rfl ?_
      refine vk_icmp rfl hx Iff.rfl (fun c12 hx => ?_) (fun c12 hx => ?_)
      · refine eg_k_aload rfl rfl ?_
        refine eg_k_ci rfl ?_
        refine eg_k_iload rfl rfl ?_
        obtain ⟨r14, h13, hx⟩ := vb_bind hx
        refine eg_k_call (c1 := 0) (z1 := 0) (as := [.inr (.inr (some 45)), .inl 1, .inl x1]) (rest := []) rfl eg_tj161 (Nat.le_of_ble_eq_true rfl) rfl rfl rfl (Nat.le_of_ble_eq_true rfl) (Nat.le_refl _) (Nat.le_refl _) ?_ (fun Q hQ => ft_161 h13 hQ)
        have hx := Option.some.inj hx
        subst hx
        exact eg_k_iret rfl True.intro (Nat.le_refl _) (Nat.le_refl _) hK
      · refine eg_k_aload rfl rfl ?_
        refine eg_k_gfa rfl rfl rfl eh_r45_0 ?_
        refine eg_k_iload rfl rfl ?_
        obtain ⟨b16, hx⟩ := vb_if hx
        refine eg_k_iald (k := 3020) rfl rfl b16.1 b16.2 ?_
        refine eg_k_ci rfl ?_
        refine vk_icmp rfl hx Iff.rfl (fun c17 hx => ?_) (fun c17 hx => ?_)
        · obtain ⟨x, hy, e9⟩ := vb_map hx
          clear hx
          subst e9
          have hx := hy
          clear hy
          have hz := ft_168_135 (d := d) (sc := sc) hx hK
          exact hz (some (.inl x2)) (some (.inl x3)) (some (.inl s1)) (some (.inr (.inl s2))) none (some (.inl s3)) w8
        · refine eg_k_aload rfl rfl ?_
          refine eg_k_gfa rfl rfl rfl eh_r45_0 ?_
          refine eg_k_iload rfl rfl ?_
          refine eg_k_iald (k := 3020) rfl rfl b16.1 b16.2 ?_
          refine eg_k_ci rfl ?_
          refine vk_icmp rfl hx Iff.rfl (fun c38 hx => ?_) (fun c38 hx => ?_)
          · obtain ⟨x, hy, e9⟩ := vb_map hx
            clear hx
            subst e9
            have hx := hy
            clear hy
            have hz := ft_168_135 (d := d) (sc := sc) hx hK
            exact hz (some (.inl x2)) (some (.inl x3)) (some (.inl s1)) (some (.inr (.inl s2))) none (some (.inl s3)) w8
          · refine eg_k_aload rfl rfl ?_
            refine eg_k_ci rfl ?_
            refine eg_k_iload rfl rfl ?_
            obtain ⟨r40, h39, hx⟩ := vb_bind hx
            refine eg_k_call (c1 := 0) (z1 := 0) (as := [.inr (.inr (some 45)), .inl 1, .inl x1]) (rest := []) rfl eg_tj161 (Nat.le_of_ble_eq_true rfl) rfl rfl rfl (Nat.le_of_ble_eq_true rfl) (Nat.le_refl _) (Nat.le_refl _) ?_ (fun Q hQ => ft_161 h39 hQ)
            have hx := Option.some.inj hx
            subst hx
            exact eg_k_iret rfl True.intro (Nat.le_refl _) (Nat.le_refl _) hK
    · refine eg_k_iload rfl rfl ?_
      refine eg_k_iload rfl rfl ?_
      refine vk_icmp rfl hx Iff.rfl (fun c42 hx => ?_) (fun c42 hx => ?_)
      · refine eg_k_lload rfl rfl ?_
        obtain ⟨x, hy, e9⟩ := vb_map hx
        clear hx
        subst e9
        have hx := hy
        clear hy
        have hz := ft_168_93 (d := d) (sc := sc) hx hK
        exact hz (some (.inl x2)) (some (.inl x3)) (some (.inl s1)) (some (.inr (.inl s2))) none (some (.inl s3)) w8
      · refine eg_k_lload rfl rfl ?_
        refine eg_k_lneg rfl ?_
        refine eg_k_goto rfl ?_
        obtain ⟨x, hy, e9⟩ := vb_map hx
        clear hx
        subst e9
        have hx := hy
        clear hy
        have hz := ft_168_93 (d := d) (sc := sc) hx hK
        exact hz (some (.inl x2)) (some (.inl x3)) (some (.inl s1)) (some (.inr (.inl s2))) none (some (.inl s3)) w8
  · refine eg_k_iload rfl rfl ?_
    refine vk_if rfl hx Iff.rfl (fun c57 hx => ?_) (fun c57 hx => ?_)
    · have hz := ft_168_60 (d := d) (sc := sc) hx hK
      exact hz (some (.inl s1)) w8
    · refine eg_k_aload rfl rfl ?_
      refine eg_k_gfa rfl rfl rfl eh_r45_0 ?_
      refine eg_k_iload rfl rfl ?_
      obtain ⟨b61, hx⟩ := vb_if hx
      refine eg_k_iald (k := 3020) rfl rfl b61.1 b61.2 ?_
      refine eg_k_ci rfl ?_
      refine vk_icmp rfl hx Iff.rfl (fun c62 hx => ?_) (fun c62 hx => ?_)
      · have hz := ft_168_60 (d := d) (sc := sc) hx hK
        exact hz (some (.inl s1)) w8
      · refine eg_k_aload rfl rfl ?_
        refine eg_k_gfa rfl rfl rfl eh_r45_0 ?_
        refine eg_k_iload rfl rfl ?_
        refine eg_k_iald (k := 3020) rfl rfl b61.1 b61.2 ?_
        refine eg_k_ci rfl ?_
        refine vk_icmp rfl hx Iff.rfl (fun c64 hx => ?_) (fun c64 hx => ?_)
        · have hz := ft_168_60 (d := d) (sc := sc) hx hK
          exact hz (some (.inl s1)) w8
        · refine eg_k_ci rfl ?_
          refine eg_k_goto rfl ?_
          have hz := ft_168_61 (d := d) (sc := sc) hx hK
          exact hz (some (.inl s1)) w8
set_option maxRecDepth 100000 in
theorem ft_168_3 {cn mo : Nat} {sc : eg_Sc} {d : Nat} {Q : Option eg_V → eg_H → Prop} {x1 : Int} {s : eM} {x : Int × eM} (hx : lp (fn_168_3 x1) s = some x) (hK : (fun (x : Int × eM) => Q (some (.inl ((x).1))) (em_L cn mo, eh_R, (x).2)) x) : eg_X sc (eg_wp sc (d + 2)) eg_p168 (some .int) 0 0 Q 3 [some (.inr (.inr (some 45))), some (.inl x1), none, none, none, none, none, none, none] [] (em_L cn mo, eh_R, s) 0 0 := by
  refine lp_sound (P := (fun (s : eM) => eg_X sc (eg_wp sc (d + 2)) eg_p168 (some .int) 0 0 Q 3 [some (.inr (.inr (some 45))), some (.inl x1), none, none, none, none, none, none, none] [] (em_L cn mo, eh_R, s) 0 0)) (K := (fun (x : Int × eM) => Q (some (.inl ((x).1))) (em_L cn mo, eh_R, (x).2))) hx hK ?_
  intro s x hx hK
  refine eg_k_aload rfl rfl ?_
  obtain ⟨r2, h1, hx⟩ := vb_bind hx
  refine eg_k_call (c1 := 0) (z1 := 0) (as := [.inr (.inr (some 45))]) (rest := []) rfl eg_tj165 (Nat.le_of_ble_eq_true rfl) rfl rfl rfl (Nat.le_of_ble_eq_true rfl) (Nat.le_refl _) (Nat.le_refl _) ?_ (fun Q hQ => ft_165 h1 hQ)
  obtain ⟨r5, h4, hx⟩ := vb_bind hx
  refine eg_k_call (c1 := 0) (z1 := 0) (as := [.inl r2]) (rest := []) rfl eg_tj166 (Nat.le_of_ble_eq_true rfl) rfl rfl trivial (Nat.le_of_ble_eq_true rfl) (Nat.le_refl _) (Nat.le_refl _) ?_ (fun Q hQ => ft_166 h4 hQ)
  refine vk_if rfl hx Iff.rfl (fun c7 hx => ?_) (fun c7 hx => ?_)
  · refine eg_k_aload rfl rfl ?_
    refine eg_k_gfi rfl rfl rfl ?_
    refine eg_k_iload rfl rfl ?_
    refine eg_k_isub rfl ?_
    refine eg_k_istore (lv' := [some (.inr (.inr (some 45))), some (.inl x1), some (.inl (eg_wi ((s 45 3) - x1))), none, none, none, none, none, none]) rfl rfl ?_
    refine eg_k_aload rfl rfl ?_
    refine eg_k_gfa rfl rfl rfl eh_r45_0 ?_
    refine eg_k_iload rfl rfl ?_
    obtain ⟨b8, hx⟩ := vb_if hx
    refine eg_k_iald (k := 3020) rfl rfl b8.1 b8.2 ?_
    refine eg_k_ci rfl ?_
    refine vk_icmp rfl hx Iff.rfl (fun c9 hx => ?_) (fun c9 hx => ?_)
    · refine eg_k_iload rfl rfl ?_
      refine eg_k_istore (lv' := [some (.inr (.inr (some 45))), some (.inl x1), some (.inl (eg_wi ((s 45 3) - x1))), some (.inl x1), none, none, none, none, none]) rfl rfl ?_
      refine eg_k_ci rfl ?_
      refine eg_k_istore (lv' := [some (.inr (.inr (some 45))), some (.inl x1), some (.inl (eg_wi ((s 45 3) - x1))), some (.inl x1), some (.inl 1), none, none, none, none]) rfl rfl ?_
      refine eg_k_cl rfl ?_
      refine eg_k_lstore (lv' := [some (.inr (.inr (some 45))), some (.inl x1), some (.inl (eg_wi ((s 45 3) - x1))), some (.inl x1), some (.inl 1), some (.inr (.inl 0)), none, none, none]) rfl rfl ?_
      refine eg_k_iload rfl rfl ?_
      refine eg_k_istore (lv' := [some (.inr (.inr (some 45))), some (.inl x1), some (.inl (eg_wi ((s 45 3) - x1))), some (.inl x1), some (.inl 1), some (.inr (.inl 0)), none, some (.inl x1), none]) rfl rfl ?_
      obtain ⟨x, hy, e9⟩ := vb_map hx
      clear hx
      subst e9
      have hx := hy
      clear hy
      have hz := ft_168_40 (d := d) (sc := sc) hx hK
      exact hz none
    · refine eg_k_iload rfl rfl ?_
      refine eg_k_ci rfl ?_
      refine vk_icmp rfl hx Iff.rfl (fun c65 hx => ?_) (fun c65 hx => ?_)
      · refine eg_k_iload rfl rfl ?_
        refine eg_k_istore (lv' := [some (.inr (.inr (some 45))), some (.inl x1), some (.inl (eg_wi ((s 45 3) - x1))), some (.inl x1), none, none, none, none, none]) rfl rfl ?_
        refine eg_k_ci rfl ?_
        refine eg_k_istore (lv' := [some (.inr (.inr (some 45))), some (.inl x1), some (.inl (eg_wi ((s 45 3) - x1))), some (.inl x1), some (.inl 1), none, none, none, none]) rfl rfl ?_
        refine eg_k_cl rfl ?_
        refine eg_k_lstore (lv' := [some (.inr (.inr (some 45))), some (.inl x1), some (.inl (eg_wi ((s 45 3) - x1))), some (.inl x1), some (.inl 1), some (.inr (.inl 0)), none, none, none]) rfl rfl ?_
        refine eg_k_iload rfl rfl ?_
        refine eg_k_istore (lv' := [some (.inr (.inr (some 45))), some (.inl x1), some (.inl (eg_wi ((s 45 3) - x1))), some (.inl x1), some (.inl 1), some (.inr (.inl 0)), none, some (.inl x1), none]) rfl rfl ?_
        obtain ⟨x, hy, e9⟩ := vb_map hx
        clear hx
        subst e9
        have hx := hy
        clear hy
        have hz := ft_168_40 (d := d) (sc := sc) hx hK
        exact hz none
      · refine eg_k_iload rfl rfl ?_
        refine eg_k_ci rfl ?_
        refine eg_k_iadd rfl ?_
        refine eg_k_goto rfl ?_
        refine eg_k_istore (lv' := [some (.inr (.inr (some 45))), some (.inl x1), some (.inl (eg_wi ((s 45 3) - x1))), some (.inl (eg_wi (x1 + 1))), none, none, none, none, none]) rfl rfl ?_
        refine eg_k_ci rfl ?_
        refine eg_k_istore (lv' := [some (.inr (.inr (some 45))), some (.inl x1), some (.inl (eg_wi ((s 45 3) - x1))), some (.inl (eg_wi (x1 + 1))), some (.inl 1), none, none, none, none]) rfl rfl ?_
        refine eg_k_cl rfl ?_
        refine eg_k_lstore (lv' := [some (.inr (.inr (some 45))), some (.inl x1), some (.inl (eg_wi ((s 45 3) - x1))), some (.inl (eg_wi (x1 + 1))), some (.inl 1), some (.inr (.inl 0)), none, none, none]) rfl rfl ?_
        refine eg_k_iload rfl rfl ?_
        refine eg_k_istore (lv' := [some (.inr (.inr (some 45))), some (.inl x1), some (.inl (eg_wi ((s 45 3) - x1))), some (.inl (eg_wi (x1 + 1))), some (.inl 1), some (.inr (.inl 0)), none, some (.inl (eg_wi (x1 + 1))), none]) rfl rfl ?_
        obtain ⟨x, hy, e9⟩ := vb_map hx
        clear hx
        subst e9
        have hx := hy
        clear hy
        have hz := ft_168_40 (d := d) (sc := sc) hx hK
        exact hz none
  · refine eg_k_aload rfl rfl ?_
    refine eg_k_aload rfl rfl ?_
    refine eg_k_gfi rfl rfl rfl ?_
    refine eg_k_ci rfl ?_
    refine eg_k_iadd rfl ?_
    refine eg_k_pfi rfl rfl rfl ?_
    refine eg_k_goto rfl ?_
    have hx := Option.some.inj hx
    subst hx
    exact hK
set_option maxRecDepth 100000 in
theorem ft_168 {cn mo : Nat} {sc : eg_Sc} {d : Nat} {M : eM} {Q : Option eg_V → eg_H → Prop} {x : Int × eM} (hx : fn_168 M = some x) (hK : Q (some (.inl ((x).1))) (em_L cn mo, eh_R, (x).2)) : eg_wp sc (d + 3) 168 [.inr (.inr (some 45))] (em_L cn mo, eh_R, M) 0 0 Q := by
  refine eg_in (lv := [some (.inr (.inr (some 45))), none, none, none, none, none, none, none, none]) eg_tj168 (Nat.le_of_ble_eq_true rfl) rfl ?_
  refine eg_k_aload rfl rfl ?_
  refine eg_k_gfi rfl rfl rfl ?_
  refine eg_k_istore (lv' := [some (.inr (.inr (some 45))), some (.inl (M 45 3)), none, none, none, none, none, none, none]) rfl rfl ?_
  have hz := ft_168_3 (d := d) (sc := sc) hx hK
  exact hz
theorem fw_168_150 {M : eM} {c j : Nat} {v : Int} {x1 : Int} {x7 : Int} {y0 : Int} {x : Int × eM} (hc : c ∉ ([45, 47, 48, 49, 50, 51, 52, 53, 54, 55, 56] : List Nat)) (hx : fn_168_150 x1 x7 y0 M = some x) (hK : (fun (x : Int × eM) => ((x).2) c j = v) x) : M c j = v := by
  refine vb_ite hx (fun _ hx => ?_) (fun _ hx => ?_)
  · refine vb_ite hx (fun _ hx => ?_) (fun _ hx => ?_)
    · obtain ⟨m29, h27, hx⟩ := vb_bind hx
      have hx := Option.some.inj hx
      subst hx
      exact ((fw_167 h27 (vsub hc (by decide)) j).trans rfl).symm.trans hK
    · obtain ⟨_, hx⟩ := vb_if hx
      obtain ⟨m33, h31, hx⟩ := vb_bind hx
      have hx := Option.some.inj hx
      subst hx
      exact ((fw_167 h31 (vsub hc (by decide)) j).trans ((congrFun (eg_u_ne (vne hc (a := 50) (by decide))) j).trans rfl)).symm.trans hK
  · obtain ⟨r35, h34, hx⟩ := vb_bind hx
    have hx := Option.some.inj hx
    subst hx
    exact ((fw_161 h34 (vsub hc (by decide)) j).trans rfl).symm.trans hK
theorem fw_168_135 {M : eM} {c j : Nat} {v : Int} {x1 : Int} {x : Int × eM} (hc : c ∉ ([45, 47, 48, 49, 50, 51, 52, 53, 54, 55, 56] : List Nat)) (hx : fn_168_135 x1 M = some x) (hK : (fun (x : Int × eM) => ((x).2) c j = v) x) : M c j = v := by
  obtain ⟨r19, h18, hx⟩ := vb_bind hx
  refine vb_ite hx (fun _ hx => ?_) (fun _ hx => ?_)
  · obtain ⟨r23, h22, hx⟩ := vb_bind hx
    have hz := fw_168_150 hc hx hK
    exact ((fw_169 h22 (vsub hc (by decide)) j).trans ((fw_163 h18 (vsub hc (by decide)) j).trans rfl)).symm.trans hz
  · have hz := fw_168_150 hc hx hK
    exact ((fw_163 h18 (vsub hc (by decide)) j).trans rfl).symm.trans hz
theorem fw_168_93 {M : eM} {c j : Nat} {v : Int} {x1 : Int} {y0 : Int} {x : Int × eM} (hc : c ∉ ([45, 47, 48, 49, 50, 51, 52, 53, 54, 55, 56] : List Nat)) (hx : fn_168_93 x1 y0 M = some x) (hK : (fun (x : Int × eM) => ((x).2) c j = v) x) : M c j = v := by
  refine vb_ite hx (fun _ hx => ?_) (fun _ hx => ?_)
  · obtain ⟨r45, h44, hx⟩ := vb_bind hx
    have hx := Option.some.inj hx
    subst hx
    exact ((fw_161 h44 (vsub hc (by decide)) j).trans rfl).symm.trans hK
  · refine vb_ite hx (fun _ hx => ?_) (fun _ hx => ?_)
    · obtain ⟨r49, h48, hx⟩ := vb_bind hx
      obtain ⟨m53, h51, hx⟩ := vb_bind hx
      have hx := Option.some.inj hx
      subst hx
      exact ((fw_167 h51 (vsub hc (by decide)) j).trans ((fw_163 h48 (vsub hc (by decide)) j).trans rfl)).symm.trans hK
    · obtain ⟨r55, h54, hx⟩ := vb_bind hx
      have hx := Option.some.inj hx
      subst hx
      exact ((fw_161 h54 (vsub hc (by decide)) j).trans rfl).symm.trans hK
theorem fw_168_61 {M : eM} {c j : Nat} {v : Int} {x1 : Int} {x2 : Int} {x3 : Int} {x5 : Int} {x7 : Int} {y0 : Int} {x : (Int × Int × Int) ⊕ (Int × eM)} (hc : c ∉ ([45, 47, 48, 49, 50, 51, 52, 53, 54, 55, 56] : List Nat)) (hx : fn_168_61 x1 x2 x3 x5 x7 y0 M = some x) (hK : (eK (fun (s : Int × Int × Int) => M c j = v) (fun (x : Int × eM) => ((x).2) c j = v)) x) : M c j = v := by
  refine vb_ite hx (fun _ hx => ?_) (fun _ hx => ?_)
  · have hx := Option.some.inj hx
    subst hx
    exact hK
  · refine vb_ite hx (fun _ hx => ?_) (fun _ hx => ?_)
    · have hx := Option.some.inj hx
      subst hx
      exact hK
    · obtain ⟨_, hx⟩ := vb_if hx
      have hx := Option.some.inj hx
      subst hx
      exact hK
theorem fw_168_60 {M : eM} {c j : Nat} {v : Int} {x1 : Int} {x2 : Int} {x3 : Int} {x5 : Int} {x7 : Int} {x : (Int × Int × Int) ⊕ (Int × eM)} (hc : c ∉ ([45, 47, 48, 49, 50, 51, 52, 53, 54, 55, 56] : List Nat)) (hx : fn_168_60 x1 x2 x3 x5 x7 M = some x) (hK : (eK (fun (s : Int × Int × Int) => M c j = v) (fun (x : Int × eM) => ((x).2) c j = v)) x) : M c j = v := by
  have hz := fw_168_61 hc hx hK
  exact (Eq.refl _).symm.trans hz
theorem fw_168_40 {M : eM} {c j : Nat} {v : Int} {x1 : Int} {x2 : Int} {x3 : Int} {s : Int × Int × Int} {x : Int × eM} (hc : c ∉ ([45, 47, 48, 49, 50, 51, 52, 53, 54, 55, 56] : List Nat)) (hx : lp (fun z => fn_168_40 x1 x2 x3 M z.1 z.2.1 z.2.2) s = some x) (hK : (fun (x : Int × eM) => ((x).2) c j = v) x) : M c j = v := by
  refine lp_sound (P := (fun (s : Int × Int × Int) => M c j = v)) (K := (fun (x : Int × eM) => ((x).2) c j = v)) hx hK ?_
  intro s x hx hK
  obtain ⟨s1, s2, s3⟩ := s
  refine vb_ite hx (fun _ hx => ?_) (fun _ hx => ?_)
  · refine vb_ite hx (fun _ hx => ?_) (fun _ hx => ?_)
    · refine vb_ite hx (fun _ hx => ?_) (fun _ hx => ?_)
      · obtain ⟨r14, h13, hx⟩ := vb_bind hx
        have hx := Option.some.inj hx
        subst hx
        exact ((fw_161 h13 (vsub hc (by decide)) j).trans rfl).symm.trans hK
      · obtain ⟨_, hx⟩ := vb_if hx
        refine vb_ite hx (fun _ hx => ?_) (fun _ hx => ?_)
        · obtain ⟨x, hy, e9⟩ := vb_map hx
          clear hx
          subst e9
          have hx := hy
          clear hy
          have hz := fw_168_135 hc hx hK
          exact (Eq.refl _).symm.trans hz
        · refine vb_ite hx (fun _ hx => ?_) (fun _ hx => ?_)
          · obtain ⟨x, hy, e9⟩ := vb_map hx
            clear hx
            subst e9
            have hx := hy
            clear hy
            have hz := fw_168_135 hc hx hK
            exact (Eq.refl _).symm.trans hz
          · obtain ⟨r40, h39, hx⟩ := vb_bind hx
            have hx := Option.some.inj hx
            subst hx
            exact ((fw_161 h39 (vsub hc (by decide)) j).trans rfl).symm.trans hK
    · refine vb_ite hx (fun _ hx => ?_) (fun _ hx => ?_)
      · obtain ⟨x, hy, e9⟩ := vb_map hx
        clear hx
        subst e9
        have hx := hy
        clear hy
        have hz := fw_168_93 hc hx hK
        exact (Eq.refl _).symm.trans hz
      · obtain ⟨x, hy, e9⟩ := vb_map hx
        clear hx
        subst e9
        have hx := hy
        clear hy
        have hz := fw_168_93 hc hx hK
        exact (Eq.refl _).symm.trans hz
  · refine vb_ite hx (fun _ hx => ?_) (fun _ hx => ?_)
    · have hz := fw_168_60 hc hx hK
      exact (Eq.refl _).symm.trans hz
    · obtain ⟨_, hx⟩ := vb_if hx
      refine vb_ite hx (fun _ hx => ?_) (fun _ hx => ?_)
      · have hz := fw_168_60 hc hx hK
        exact (Eq.refl _).symm.trans hz
      · refine vb_ite hx (fun _ hx => ?_) (fun _ hx => ?_)
        · have hz := fw_168_60 hc hx hK
          exact (Eq.refl _).symm.trans hz
        · have hz := fw_168_61 hc hx hK
          exact (Eq.refl _).symm.trans hz
theorem fw_168_3 {c j : Nat} {v : Int} {x1 : Int} {s : eM} {x : Int × eM} (hc : c ∉ ([45, 47, 48, 49, 50, 51, 52, 53, 54, 55, 56] : List Nat)) (hx : lp (fn_168_3 x1) s = some x) (hK : (fun (x : Int × eM) => ((x).2) c j = v) x) : s c j = v := by
  refine lp_sound (P := (fun (s : eM) => s c j = v)) (K := (fun (x : Int × eM) => ((x).2) c j = v)) hx hK ?_
  intro s x hx hK
  obtain ⟨r2, h1, hx⟩ := vb_bind hx
  obtain ⟨r5, h4, hx⟩ := vb_bind hx
  refine vb_ite hx (fun _ hx => ?_) (fun _ hx => ?_)
  · obtain ⟨_, hx⟩ := vb_if hx
    refine vb_ite hx (fun _ hx => ?_) (fun _ hx => ?_)
    · obtain ⟨x, hy, e9⟩ := vb_map hx
      clear hx
      subst e9
      have hx := hy
      clear hy
      have hz := fw_168_40 hc hx hK
      exact (Eq.refl _).symm.trans hz
    · refine vb_ite hx (fun _ hx => ?_) (fun _ hx => ?_)
      · obtain ⟨x, hy, e9⟩ := vb_map hx
        clear hx
        subst e9
        have hx := hy
        clear hy
        have hz := fw_168_40 hc hx hK
        exact (Eq.refl _).symm.trans hz
      · obtain ⟨x, hy, e9⟩ := vb_map hx
        clear hx
        subst e9
        have hx := hy
        clear hy
        have hz := fw_168_40 hc hx hK
        exact (Eq.refl _).symm.trans hz
  · have hx := Option.some.inj hx
    subst hx
    exact ((congrFun (eg_u_ne (vne hc (a := 45) (by decide))) j).trans rfl).symm.trans hK
theorem fw_168 {M : eM} {c : Nat} {x : Int × eM} (hx : fn_168 M = some x) (hc : c ∉ ([45, 47, 48, 49, 50, 51, 52, 53, 54, 55, 56] : List Nat)) (j : Nat) : ((x).2) c j = M c j := by
  obtain ⟨v, hK⟩ : ∃ v, ((x).2) c j = v := ⟨_, rfl⟩
  rw [hK]
  refine Eq.symm ?_
  have hz := fw_168_3 hc hx hK
  exact (Eq.refl _).symm.trans hz
noncomputable def fn_159_23 (x1 : Int) (s : eM) : Option ((eM) ⊕ (Int × eM)) :=
  if (s 45 4) ≤ (s 45 3) then
    some (.inr (0, s))
  else
    if 0 ≤ (s 45 3) ∧ (s 45 3) < 3020 then
    if (s 46 (s 45 3).toNat) = 10 then
        some (.inr (0, s))
      else
        (fn_160 (s 46 (s 45 3).toNat) s).bind fun r45 =>
        if ¬ r45 = 0 then
          some (.inl (eg_u s 45 3 (eg_wi ((s 45 3) + 1))))
        else
          (fn_161 1 (s 45 3) s).bind fun r49 =>
          some (.inr (r49.1, r49.2))
    else none
/-- 159: WeakSchemeModel.item()I -/
noncomputable def fn_159 (M : eM) : Option (Int × eM) :=
  if 0 ≤ (M 45 3) ∧ (M 45 3) < 3020 then
  if (M 46 (M 45 3).toNat) = 10 then
      some (0, eg_u M 45 3 (eg_wi ((M 45 3) + 1)))
    else
      if ¬ (M 46 (M 45 3).toNat) = 32 then
        if ¬ (M 46 (M 45 3).toNat) = 59 then
          if ¬ (M 46 (M 45 3).toNat) = 40 then
            if ¬ (M 46 (M 45 3).toNat) = 39 then
              if ¬ (M 46 (M 45 3).toNat) = 35 then
                (fn_166 (M 46 (M 45 3).toNat) M).bind fun r9 =>
                if r9 = 0 then
                  if ¬ (M 46 (M 45 3).toNat) = 41 then
                    (fn_161 1 (M 45 3) M).bind fun r14 =>
                    some (r14.1, r14.2)
                  else
                    if (M 45 18) = 0 then
                      (fn_161 1 (M 45 3) M).bind fun r18 =>
                      some (r18.1, r18.2)
                    else
                      if 0 ≤ (eg_wi ((M 45 18) - 1)) ∧ (eg_wi ((M 45 18) - 1)) < 31 then
                      if (M 58 (eg_wi ((M 45 18) - 1)).toNat) = 0 then
                          (fn_167 (eg_u (eg_u M 45 18 (eg_wi ((M 45 18) - 1))) 45 3 (eg_wi ((M 45 3) + 1)))).bind fun m24 =>
                          some (0, m24)
                        else
                          (fn_161 1 (M 45 3) M).bind fun r26 =>
                          some (r26.1, r26.2)
                      else none
                else
                  (fn_168 M).bind fun r29 =>
                  some (r29.1, r29.2)
              else
                (fn_164 M).bind fun r32 =>
                some (r32.1, r32.2)
            else
              (fn_162 1 M).bind fun r35 =>
              some (r35.1, r35.2)
          else
            (fn_162 0 M).bind fun r38 =>
            some (r38.1, r38.2)
        else
          lp (fn_159_23 (M 46 (M 45 3).toNat)) M
      else
        some (0, eg_u M 45 3 (eg_wi ((M 45 3) + 1)))
  else none
set_option maxRecDepth 100000 in
theorem ft_159_23 {cn mo : Nat} {sc : eg_Sc} {d : Nat} {Q : Option eg_V → eg_H → Prop} {x1 : Int} {s : eM} {x : Int × eM} (hx : lp (fn_159_23 x1) s = some x) (hK : (fun (x : Int × eM) => Q (some (.inl ((x).1))) (em_L cn mo, eh_R, (x).2)) x) : eg_X sc (eg_wp sc (d + 3)) eg_p159 (some .int) 0 0 Q 23 [some (.inr (.inr (some 45))), some (.inl x1)] [] (em_L cn mo, eh_R, s) 0 0 := by
  refine lp_sound (P := (fun (s : eM) => eg_X sc (eg_wp sc (d + 3)) eg_p159 (some .int) 0 0 Q 23 [some (.inr (.inr (some 45))), some (.inl x1)] [] (em_L cn mo, eh_R, s) 0 0)) (K := (fun (x : Int × eM) => Q (some (.inl ((x).1))) (em_L cn mo, eh_R, (x).2))) hx hK ?_
  intro s x hx hK
  refine eg_k_aload rfl rfl ?_
  refine eg_k_gfi rfl rfl rfl ?_
  refine eg_k_aload rfl rfl ?_
  refine eg_k_gfi rfl rfl rfl ?_
  refine vk_icmp rfl hx Iff.rfl (fun c40 hx => ?_) (fun c40 hx => ?_)
  · refine eg_k_ci rfl ?_
    have hx := Option.some.inj hx
    subst hx
    exact eg_k_iret rfl True.intro (Nat.le_refl _) (Nat.le_refl _) hK
  · refine eg_k_aload rfl rfl ?_
    refine eg_k_gfa rfl rfl rfl eh_r45_0 ?_
    refine eg_k_aload rfl rfl ?_
    refine eg_k_gfi rfl rfl rfl ?_
    obtain ⟨b41, hx⟩ := vb_if hx
    refine eg_k_iald (k := 3020) rfl rfl b41.1 b41.2 ?_
    refine eg_k_ci rfl ?_
    refine vk_icmp rfl hx Iff.rfl (fun c42 hx => ?_) (fun c42 hx => ?_)
    · refine eg_k_ci rfl ?_
      have hx := Option.some.inj hx
      subst hx
      exact eg_k_iret rfl True.intro (Nat.le_refl _) (Nat.le_refl _) hK
    · refine eg_k_aload rfl rfl ?_
      refine eg_k_gfa rfl rfl rfl eh_r45_0 ?_
      refine eg_k_aload rfl rfl ?_
      refine eg_k_gfi rfl rfl rfl ?_
      refine eg_k_iald (k := 3020) rfl rfl b41.1 b41.2 ?_
      obtain ⟨r45, h44, hx⟩ := vb_bind hx
      refine eg_k_call (c1 := 0) (z1 := 0) (as := [.inl (s 46 (s 45 3).toNat)]) (rest := []) rfl eg_tj160 (Nat.le_of_ble_eq_true rfl) rfl rfl trivial (Nat.le_of_ble_eq_true rfl) (Nat.le_refl _) (Nat.le_refl _) ?_ (fun Q hQ => ft_160 h44 hQ)
      refine vk_if rfl hx Iff.rfl (fun c47 hx => ?_) (fun c47 hx => ?_)
      · refine eg_k_aload rfl rfl ?_
        refine eg_k_aload rfl rfl ?_
        refine eg_k_gfi rfl rfl rfl ?_
        refine eg_k_ci rfl ?_
        refine eg_k_iadd rfl ?_
        refine eg_k_pfi rfl rfl rfl ?_
        refine eg_k_goto rfl ?_
        have hx := Option.some.inj hx
        subst hx
        exact hK
      · refine eg_k_aload rfl rfl ?_
        refine eg_k_ci rfl ?_
        refine eg_k_aload rfl rfl ?_
        refine eg_k_gfi rfl rfl rfl ?_
        obtain ⟨r49, h48, hx⟩ := vb_bind hx
        refine eg_k_call (c1 := 0) (z1 := 0) (as := [.inr (.inr (some 45)), .inl 1, .inl (s 45 3)]) (rest := []) rfl eg_tj161 (Nat.le_of_ble_eq_true rfl) rfl rfl rfl (Nat.le_of_ble_eq_true rfl) (Nat.le_refl _) (Nat.le_refl _) ?_ (fun Q hQ => ft_161 h48 hQ)
        have hx := Option.some.inj hx
        subst hx
        exact eg_k_iret rfl True.intro (Nat.le_refl _) (Nat.le_refl _) hK
set_option maxRecDepth 100000 in
theorem ft_159 {cn mo : Nat} {sc : eg_Sc} {d : Nat} {M : eM} {Q : Option eg_V → eg_H → Prop} {x : Int × eM} (hx : fn_159 M = some x) (hK : Q (some (.inl ((x).1))) (em_L cn mo, eh_R, (x).2)) : eg_wp sc (d + 4) 159 [.inr (.inr (some 45))] (em_L cn mo, eh_R, M) 0 0 Q := by
  refine eg_in (lv := [some (.inr (.inr (some 45))), none]) eg_tj159 (Nat.le_of_ble_eq_true rfl) rfl ?_
  refine eg_k_aload rfl rfl ?_
  refine eg_k_gfa rfl rfl rfl eh_r45_0 ?_
  refine eg_k_aload rfl rfl ?_
  refine eg_k_gfi rfl rfl rfl ?_
  obtain ⟨b1, hx⟩ := vb_if hx
  refine eg_k_iald (k := 3020) rfl rfl b1.1 b1.2 ?_
  refine eg_k_istore (lv' := [some (.inr (.inr (some 45))), some (.inl (M 46 (M 45 3).toNat))]) rfl rfl ?_
  refine eg_k_iload rfl rfl ?_
  refine eg_k_ci rfl ?_
  refine vk_icmp rfl hx Iff.rfl (fun c2 hx => ?_) (fun c2 hx => ?_)
  · refine eg_k_aload rfl rfl ?_
    refine eg_k_aload rfl rfl ?_
    refine eg_k_gfi rfl rfl rfl ?_
    refine eg_k_ci rfl ?_
    refine eg_k_iadd rfl ?_
    refine eg_k_pfi rfl rfl rfl ?_
    refine eg_k_ci rfl ?_
    have hx := Option.some.inj hx
    subst hx
    exact eg_k_iret rfl True.intro (Nat.le_refl _) (Nat.le_refl _) hK
  · refine eg_k_iload rfl rfl ?_
    refine eg_k_ci rfl ?_
    refine vk_icmp rfl hx Iff.rfl (fun c3 hx => ?_) (fun c3 hx => ?_)
    · refine eg_k_iload rfl rfl ?_
      refine eg_k_ci rfl ?_
      refine vk_icmp rfl hx Iff.rfl (fun c4 hx => ?_) (fun c4 hx => ?_)
      · refine eg_k_iload rfl rfl ?_
        refine eg_k_ci rfl ?_
        refine vk_icmp rfl hx Iff.rfl (fun c5 hx => ?_) (fun c5 hx => ?_)
        · refine eg_k_iload rfl rfl ?_
          refine eg_k_ci rfl ?_
          refine vk_icmp rfl hx Iff.rfl (fun c6 hx => ?_) (fun c6 hx => ?_)
          · refine eg_k_iload rfl rfl ?_
            refine eg_k_ci rfl ?_
            refine vk_icmp rfl hx Iff.rfl (fun c7 hx => ?_) (fun c7 hx => ?_)
            · refine eg_k_iload rfl rfl ?_
              obtain ⟨r9, h8, hx⟩ := vb_bind hx
              refine eg_k_call (c1 := 0) (z1 := 0) (as := [.inl (M 46 (M 45 3).toNat)]) (rest := []) rfl eg_tj166 (Nat.le_of_ble_eq_true rfl) rfl rfl trivial (Nat.le_of_ble_eq_true rfl) (Nat.le_refl _) (Nat.le_refl _) ?_ (fun Q hQ => ft_166 h8 hQ)
              refine vk_if rfl hx Iff.rfl (fun c11 hx => ?_) (fun c11 hx => ?_)
              · refine eg_k_iload rfl rfl ?_
                refine eg_k_ci rfl ?_
                refine vk_icmp rfl hx Iff.rfl (fun c12 hx => ?_) (fun c12 hx => ?_)
                · refine eg_k_aload rfl rfl ?_
                  refine eg_k_ci rfl ?_
                  refine eg_k_aload rfl rfl ?_
                  refine eg_k_gfi rfl rfl rfl ?_
                  obtain ⟨r14, h13, hx⟩ := vb_bind hx
                  refine eg_k_call (c1 := 0) (z1 := 0) (as := [.inr (.inr (some 45)), .inl 1, .inl (M 45 3)]) (rest := []) rfl eg_tj161 (Nat.le_of_ble_eq_true rfl) rfl rfl rfl (Nat.le_of_ble_eq_true rfl) (Nat.le_refl _) (Nat.le_refl _) ?_ (fun Q hQ => ft_161 h13 hQ)
                  have hx := Option.some.inj hx
                  subst hx
                  exact eg_k_iret rfl True.intro (Nat.le_refl _) (Nat.le_refl _) hK
                · refine eg_k_aload rfl rfl ?_
                  refine eg_k_gfi rfl rfl rfl ?_
                  refine vk_if rfl hx Iff.rfl (fun c16 hx => ?_) (fun c16 hx => ?_)
                  · refine eg_k_aload rfl rfl ?_
                    refine eg_k_ci rfl ?_
                    refine eg_k_aload rfl rfl ?_
                    refine eg_k_gfi rfl rfl rfl ?_
                    obtain ⟨r18, h17, hx⟩ := vb_bind hx
                    refine eg_k_call (c1 := 0) (z1 := 0) (as := [.inr (.inr (some 45)), .inl 1, .inl (M 45 3)]) (rest := []) rfl eg_tj161 (Nat.le_of_ble_eq_true rfl) rfl rfl rfl (Nat.le_of_ble_eq_true rfl) (Nat.le_refl _) (Nat.le_refl _) ?_ (fun Q hQ => ft_161 h17 hQ)
                    have hx := Option.some.inj hx
                    subst hx
                    exact eg_k_iret rfl True.intro (Nat.le_refl _) (Nat.le_refl _) hK
                  · refine eg_k_aload rfl rfl ?_
                    refine eg_k_gfa rfl rfl rfl eh_r45_20 ?_
                    refine eg_k_aload rfl rfl ?_
                    refine eg_k_gfi rfl rfl rfl ?_
                    refine eg_k_ci rfl ?_
                    refine eg_k_isub rfl ?_
                    obtain ⟨b20, hx⟩ := vb_if hx
                    refine eg_k_zald (k := 31) rfl rfl b20.1 b20.2 ?_
                    refine vk_if rfl hx Iff.rfl (fun c21 hx => ?_) (fun c21 hx => ?_)
                    · refine eg_k_aload rfl rfl ?_
                      refine eg_k_aload rfl rfl ?_
                      refine eg_k_gfi rfl rfl rfl ?_
                      refine eg_k_ci rfl ?_
                      refine eg_k_isub rfl ?_
                      refine eg_k_pfi rfl rfl rfl ?_
                      refine eg_k_aload rfl rfl ?_
                      refine eg_k_aload rfl rfl ?_
                      refine eg_k_gfie (x := M 45 3) rfl rfl rfl rfl ?_
                      refine eg_k_ci rfl ?_
                      refine eg_k_iadd rfl ?_
                      refine eg_k_pfi rfl rfl rfl ?_
                      refine eg_k_aload rfl rfl ?_
                      obtain ⟨m24, h22, hx⟩ := vb_bind hx
                      refine eg_k_call (c1 := 0) (z1 := 0) (as := [.inr (.inr (some 45))]) (rest := []) rfl eg_tj167 (Nat.le_of_ble_eq_true rfl) rfl rfl rfl (Nat.le_of_ble_eq_true rfl) (Nat.le_refl _) (Nat.le_refl _) ?_ (fun Q hQ => ft_167 h22 hQ)
                      refine eg_k_ci rfl ?_
                      have hx := Option.some.inj hx
                      subst hx
                      exact eg_k_iret rfl True.intro (Nat.le_refl _) (Nat.le_refl _) hK
                    · refine eg_k_aload rfl rfl ?_
                      refine eg_k_ci rfl ?_
                      refine eg_k_aload rfl rfl ?_
                      refine eg_k_gfi rfl rfl rfl ?_
                      obtain ⟨r26, h25, hx⟩ := vb_bind hx
                      refine eg_k_call (c1 := 0) (z1 := 0) (as := [.inr (.inr (some 45)), .inl 1, .inl (M 45 3)]) (rest := []) rfl eg_tj161 (Nat.le_of_ble_eq_true rfl) rfl rfl rfl (Nat.le_of_ble_eq_true rfl) (Nat.le_refl _) (Nat.le_refl _) ?_ (fun Q hQ => ft_161 h25 hQ)
                      have hx := Option.some.inj hx
                      subst hx
                      exact eg_k_iret rfl True.intro (Nat.le_refl _) (Nat.le_refl _) hK
              · refine eg_k_aload rfl rfl ?_
                obtain ⟨r29, h28, hx⟩ := vb_bind hx
                refine eg_k_call (c1 := 0) (z1 := 0) (as := [.inr (.inr (some 45))]) (rest := []) rfl eg_tj168 (Nat.le_of_ble_eq_true rfl) rfl rfl rfl (Nat.le_of_ble_eq_true rfl) (Nat.le_refl _) (Nat.le_refl _) ?_ (fun Q hQ => ft_168 h28 hQ)
                have hx := Option.some.inj hx
                subst hx
                exact eg_k_iret rfl True.intro (Nat.le_refl _) (Nat.le_refl _) hK
            · refine eg_k_aload rfl rfl ?_
              obtain ⟨r32, h31, hx⟩ := vb_bind hx
              refine eg_k_call (c1 := 0) (z1 := 0) (as := [.inr (.inr (some 45))]) (rest := []) rfl eg_tj164 (Nat.le_of_ble_eq_true rfl) rfl rfl rfl (Nat.le_of_ble_eq_true rfl) (Nat.le_refl _) (Nat.le_refl _) ?_ (fun Q hQ => ft_164 h31 hQ)
              have hx := Option.some.inj hx
              subst hx
              exact eg_k_iret rfl True.intro (Nat.le_refl _) (Nat.le_refl _) hK
          · refine eg_k_aload rfl rfl ?_
            refine eg_k_ci rfl ?_
            obtain ⟨r35, h34, hx⟩ := vb_bind hx
            refine eg_k_call (c1 := 0) (z1 := 0) (as := [.inr (.inr (some 45)), .inl 1]) (rest := []) rfl eg_tj162 (Nat.le_of_ble_eq_true rfl) rfl rfl rfl (Nat.le_of_ble_eq_true rfl) (Nat.le_refl _) (Nat.le_refl _) ?_ (fun Q hQ => ft_162 h34 hQ)
            have hx := Option.some.inj hx
            subst hx
            exact eg_k_iret rfl True.intro (Nat.le_refl _) (Nat.le_refl _) hK
        · refine eg_k_aload rfl rfl ?_
          refine eg_k_ci rfl ?_
          obtain ⟨r38, h37, hx⟩ := vb_bind hx
          refine eg_k_call (c1 := 0) (z1 := 0) (as := [.inr (.inr (some 45)), .inl 0]) (rest := []) rfl eg_tj162 (Nat.le_of_ble_eq_true rfl) rfl rfl rfl (Nat.le_of_ble_eq_true rfl) (Nat.le_refl _) (Nat.le_refl _) ?_ (fun Q hQ => ft_162 h37 hQ)
          have hx := Option.some.inj hx
          subst hx
          exact eg_k_iret rfl True.intro (Nat.le_refl _) (Nat.le_refl _) hK
      · have hz := ft_159_23 (d := d) (sc := sc) hx hK
        exact hz
    · refine eg_k_aload rfl rfl ?_
      refine eg_k_aload rfl rfl ?_
      refine eg_k_gfi rfl rfl rfl ?_
      refine eg_k_ci rfl ?_
      refine eg_k_iadd rfl ?_
      refine eg_k_pfi rfl rfl rfl ?_
      refine eg_k_ci rfl ?_
      have hx := Option.some.inj hx
      subst hx
      exact eg_k_iret rfl True.intro (Nat.le_refl _) (Nat.le_refl _) hK
theorem fw_159_23 {c j : Nat} {v : Int} {x1 : Int} {s : eM} {x : Int × eM} (hc : c ∉ ([45, 47, 48, 49, 50, 51, 52, 53, 54, 55, 56, 57, 58] : List Nat)) (hx : lp (fn_159_23 x1) s = some x) (hK : (fun (x : Int × eM) => ((x).2) c j = v) x) : s c j = v := by
  refine lp_sound (P := (fun (s : eM) => s c j = v)) (K := (fun (x : Int × eM) => ((x).2) c j = v)) hx hK ?_
  intro s x hx hK
  refine vb_ite hx (fun _ hx => ?_) (fun _ hx => ?_)
  · have hx := Option.some.inj hx
    subst hx
    exact (Eq.refl _).symm.trans hK
  · obtain ⟨_, hx⟩ := vb_if hx
    refine vb_ite hx (fun _ hx => ?_) (fun _ hx => ?_)
    · have hx := Option.some.inj hx
      subst hx
      exact (Eq.refl _).symm.trans hK
    · obtain ⟨r45, h44, hx⟩ := vb_bind hx
      refine vb_ite hx (fun _ hx => ?_) (fun _ hx => ?_)
      · have hx := Option.some.inj hx
        subst hx
        exact ((congrFun (eg_u_ne (vne hc (a := 45) (by decide))) j).trans rfl).symm.trans hK
      · obtain ⟨r49, h48, hx⟩ := vb_bind hx
        have hx := Option.some.inj hx
        subst hx
        exact ((fw_161 h48 (vsub hc (by decide)) j).trans rfl).symm.trans hK
theorem fw_159 {M : eM} {c : Nat} {x : Int × eM} (hx : fn_159 M = some x) (hc : c ∉ ([45, 47, 48, 49, 50, 51, 52, 53, 54, 55, 56, 57, 58] : List Nat)) (j : Nat) : ((x).2) c j = M c j := by
  obtain ⟨v, hK⟩ : ∃ v, ((x).2) c j = v := ⟨_, rfl⟩
  rw [hK]
  refine Eq.symm ?_
  obtain ⟨_, hx⟩ := vb_if hx
  refine vb_ite hx (fun _ hx => ?_) (fun _ hx => ?_)
  · have hx := Option.some.inj hx
    subst hx
    exact ((congrFun (eg_u_ne (vne hc (a := 45) (by decide))) j).trans rfl).symm.trans hK
  · refine vb_ite hx (fun _ hx => ?_) (fun _ hx => ?_)
    · refine vb_ite hx (fun _ hx => ?_) (fun _ hx => ?_)
      · refine vb_ite hx (fun _ hx => ?_) (fun _ hx => ?_)
        · refine vb_ite hx (fun _ hx => ?_) (fun _ hx => ?_)
          · refine vb_ite hx (fun _ hx => ?_) (fun _ hx => ?_)
            · obtain ⟨r9, h8, hx⟩ := vb_bind hx
              refine vb_ite hx (fun _ hx => ?_) (fun _ hx => ?_)
              · refine vb_ite hx (fun _ hx => ?_) (fun _ hx => ?_)
                · obtain ⟨r14, h13, hx⟩ := vb_bind hx
                  have hx := Option.some.inj hx
                  subst hx
                  exact ((fw_161 h13 (vsub hc (by decide)) j).trans rfl).symm.trans hK
                · refine vb_ite hx (fun _ hx => ?_) (fun _ hx => ?_)
                  · obtain ⟨r18, h17, hx⟩ := vb_bind hx
                    have hx := Option.some.inj hx
                    subst hx
                    exact ((fw_161 h17 (vsub hc (by decide)) j).trans rfl).symm.trans hK
                  · obtain ⟨_, hx⟩ := vb_if hx
                    refine vb_ite hx (fun _ hx => ?_) (fun _ hx => ?_)
                    · obtain ⟨m24, h22, hx⟩ := vb_bind hx
                      have hx := Option.some.inj hx
                      subst hx
                      exact ((fw_167 h22 (vsub hc (by decide)) j).trans ((congrFun (eg_u_ne (vne hc (a := 45) (by decide))) j).trans ((congrFun (eg_u_ne (vne hc (a := 45) (by decide))) j).trans rfl))).symm.trans hK
                    · obtain ⟨r26, h25, hx⟩ := vb_bind hx
                      have hx := Option.some.inj hx
                      subst hx
                      exact ((fw_161 h25 (vsub hc (by decide)) j).trans rfl).symm.trans hK
              · obtain ⟨r29, h28, hx⟩ := vb_bind hx
                have hx := Option.some.inj hx
                subst hx
                exact ((fw_168 h28 (vsub hc (by decide)) j).trans rfl).symm.trans hK
            · obtain ⟨r32, h31, hx⟩ := vb_bind hx
              have hx := Option.some.inj hx
              subst hx
              exact ((fw_164 h31 (vsub hc (by decide)) j).trans rfl).symm.trans hK
          · obtain ⟨r35, h34, hx⟩ := vb_bind hx
            have hx := Option.some.inj hx
            subst hx
            exact ((fw_162 h34 (vsub hc (by decide)) j).trans rfl).symm.trans hK
        · obtain ⟨r38, h37, hx⟩ := vb_bind hx
          have hx := Option.some.inj hx
          subst hx
          exact ((fw_162 h37 (vsub hc (by decide)) j).trans rfl).symm.trans hK
      · have hz := fw_159_23 hc hx hK
        exact (Eq.refl _).symm.trans hz
    · have hx := Option.some.inj hx
      subst hx
      exact ((congrFun (eg_u_ne (vne hc (a := 45) (by decide))) j).trans rfl).symm.trans hK
noncomputable def fn_158_21 (x1 : Int) (s1 : Int) (s2 : eM) : Option ((Int × eM) ⊕ (Int × eM)) :=
  if ¬ s1 = 0 then
    some (.inr (s1, s2))
  else
    if (s2 45 4) ≤ (s2 45 3) then
      if (s2 45 18) ≤ 0 then
        some (.inr (s1, s2))
      else
        (fn_161 1 x1 s2).bind fun r5 =>
        some (.inr (r5.1, r5.2))
    else
      (fn_159 s2).bind fun r8 =>
      some (.inl (r8.1, r8.2))
/-- 158: WeakSchemeModel.read(I)I -/
noncomputable def fn_158 (a : Int) (M : eM) : Option (Int × eM) :=
  lp (fun z => fn_158_21 a z.1 z.2) (0, eg_u (eg_u (eg_u (eg_u (eg_u (eg_u M 45 3 0) 45 4 a) 45 18 0) 45 21 (-1)) 45 22 (-1)) 45 16 (M 45 17))
set_option maxRecDepth 100000 in
theorem ft_158_21 {cn mo : Nat} {sc : eg_Sc} {d : Nat} {Q : Option eg_V → eg_H → Prop} {x1 : Int} {s : Int × eM} {x : Int × eM} (hx : lp (fun z => fn_158_21 x1 z.1 z.2) s = some x) (hK : (fun (x : Int × eM) => Q (some (.inl ((x).1))) (em_L cn mo, eh_R, (x).2)) x) : eg_X sc (eg_wp sc (d + 4)) eg_p158 (some .int) 0 0 Q 21 [some (.inr (.inr (some 45))), some (.inl x1), some (.inl s.1)] [] (em_L cn mo, eh_R, s.2) 0 0 := by
  refine lp_sound (P := (fun (s : Int × eM) => eg_X sc (eg_wp sc (d + 4)) eg_p158 (some .int) 0 0 Q 21 [some (.inr (.inr (some 45))), some (.inl x1), some (.inl s.1)] [] (em_L cn mo, eh_R, s.2) 0 0)) (K := (fun (x : Int × eM) => Q (some (.inl ((x).1))) (em_L cn mo, eh_R, (x).2))) hx hK ?_
  intro s x hx hK
  obtain ⟨s1, s2⟩ := s
  refine eg_k_iload rfl rfl ?_
  refine vk_if rfl hx Iff.rfl (fun c1 hx => ?_) (fun c1 hx => ?_)
  · refine eg_k_iload rfl rfl ?_
    refine eg_k_if rfl (fun _ => ?_) (fun z => absurd c1 z)
    refine eg_k_iload rfl rfl ?_
    have hx := Option.some.inj hx
    subst hx
    exact eg_k_iret rfl True.intro (Nat.le_refl _) (Nat.le_refl _) hK
  · refine eg_k_aload rfl rfl ?_
    refine eg_k_gfi rfl rfl rfl ?_
    refine eg_k_aload rfl rfl ?_
    refine eg_k_gfi rfl rfl rfl ?_
    refine vk_icmp rfl hx Iff.rfl (fun c2 hx => ?_) (fun c2 hx => ?_)
    · refine eg_k_iload rfl rfl ?_
      refine eg_k_if rfl (fun z => absurd (Decidable.not_not.mp c1) z) (fun _ => ?_)
      refine eg_k_aload rfl rfl ?_
      refine eg_k_gfi rfl rfl rfl ?_
      refine vk_if rfl hx Iff.rfl (fun c3 hx => ?_) (fun c3 hx => ?_)
      · refine eg_k_iload rfl rfl ?_
        have hx := Option.some.inj hx
        subst hx
        exact eg_k_iret rfl True.intro (Nat.le_refl _) (Nat.le_refl _) hK
      · refine eg_k_aload rfl rfl ?_
        refine eg_k_ci rfl ?_
        refine eg_k_iload rfl rfl ?_
        obtain ⟨r5, h4, hx⟩ := vb_bind hx
        refine eg_k_call (c1 := 0) (z1 := 0) (as := [.inr (.inr (some 45)), .inl 1, .inl x1]) (rest := []) rfl eg_tj161 (Nat.le_of_ble_eq_true rfl) rfl rfl rfl (Nat.le_of_ble_eq_true rfl) (Nat.le_refl _) (Nat.le_refl _) ?_ (fun Q hQ => ft_161 h4 hQ)
        refine eg_k_goto rfl ?_
        have hx := Option.some.inj hx
        subst hx
        exact eg_k_iret rfl True.intro (Nat.le_refl _) (Nat.le_refl _) hK
    · refine eg_k_aload rfl rfl ?_
      obtain ⟨r8, h7, hx⟩ := vb_bind hx
      refine eg_k_call (c1 := 0) (z1 := 0) (as := [.inr (.inr (some 45))]) (rest := []) rfl eg_tj159 (Nat.le_of_ble_eq_true rfl) rfl rfl rfl (Nat.le_of_ble_eq_true rfl) (Nat.le_refl _) (Nat.le_refl _) ?_ (fun Q hQ => ft_159 h7 hQ)
      refine eg_k_istore (lv' := [some (.inr (.inr (some 45))), some (.inl x1), some (.inl r8.1)]) rfl rfl ?_
      refine eg_k_goto rfl ?_
      have hx := Option.some.inj hx
      subst hx
      exact hK
set_option maxRecDepth 100000 in
theorem ft_158 {cn mo : Nat} {sc : eg_Sc} {d : Nat} {M : eM} {Q : Option eg_V → eg_H → Prop} {a : Int} {x : Int × eM} (hx : fn_158 a M = some x) (hK : Q (some (.inl ((x).1))) (em_L cn mo, eh_R, (x).2)) : eg_wp sc (d + 5) 158 [.inr (.inr (some 45)), .inl a] (em_L cn mo, eh_R, M) 0 0 Q := by
  refine eg_in (lv := [some (.inr (.inr (some 45))), some (.inl a), none]) eg_tj158 (Nat.le_of_ble_eq_true rfl) rfl ?_
  refine eg_k_aload rfl rfl ?_
  refine eg_k_ci rfl ?_
  refine eg_k_pfi rfl rfl rfl ?_
  refine eg_k_aload rfl rfl ?_
  refine eg_k_iload rfl rfl ?_
  refine eg_k_pfi rfl rfl rfl ?_
  refine eg_k_aload rfl rfl ?_
  refine eg_k_ci rfl ?_
  refine eg_k_pfi rfl rfl rfl ?_
  refine eg_k_aload rfl rfl ?_
  refine eg_k_ci rfl ?_
  refine eg_k_pfi rfl rfl rfl ?_
  refine eg_k_aload rfl rfl ?_
  refine eg_k_ci rfl ?_
  refine eg_k_pfi rfl rfl rfl ?_
  refine eg_k_aload rfl rfl ?_
  refine eg_k_aload rfl rfl ?_
  refine eg_k_gfie (x := M 45 17) rfl rfl rfl rfl ?_
  refine eg_k_pfi rfl rfl rfl ?_
  refine eg_k_ci rfl ?_
  refine eg_k_istore (lv' := [some (.inr (.inr (some 45))), some (.inl a), some (.inl 0)]) rfl rfl ?_
  have hz := ft_158_21 (d := d) (sc := sc) hx hK
  exact hz
theorem fw_158_21 {c j : Nat} {v : Int} {x1 : Int} {s : Int × eM} {x : Int × eM} (hc : c ∉ ([45, 47, 48, 49, 50, 51, 52, 53, 54, 55, 56, 57, 58] : List Nat)) (hx : lp (fun z => fn_158_21 x1 z.1 z.2) s = some x) (hK : (fun (x : Int × eM) => ((x).2) c j = v) x) : s.2 c j = v := by
  refine lp_sound (P := (fun (s : Int × eM) => s.2 c j = v)) (K := (fun (x : Int × eM) => ((x).2) c j = v)) hx hK ?_
  intro s x hx hK
  obtain ⟨s1, s2⟩ := s
  refine vb_ite hx (fun _ hx => ?_) (fun _ hx => ?_)
  · have hx := Option.some.inj hx
    subst hx
    exact (Eq.refl _).symm.trans hK
  · refine vb_ite hx (fun _ hx => ?_) (fun _ hx => ?_)
    · refine vb_ite hx (fun _ hx => ?_) (fun _ hx => ?_)
      · have hx := Option.some.inj hx
        subst hx
        exact (Eq.refl _).symm.trans hK
      · obtain ⟨r5, h4, hx⟩ := vb_bind hx
        have hx := Option.some.inj hx
        subst hx
        exact ((fw_161 h4 (vsub hc (by decide)) j).trans rfl).symm.trans hK
    · obtain ⟨r8, h7, hx⟩ := vb_bind hx
      have hx := Option.some.inj hx
      subst hx
      exact ((fw_159 h7 (vsub hc (by decide)) j).trans rfl).symm.trans hK
theorem fw_158 {M : eM} {c : Nat} {a : Int} {x : Int × eM} (hx : fn_158 a M = some x) (hc : c ∉ ([45, 47, 48, 49, 50, 51, 52, 53, 54, 55, 56, 57, 58] : List Nat)) (j : Nat) : ((x).2) c j = M c j := by
  obtain ⟨v, hK⟩ : ∃ v, ((x).2) c j = v := ⟨_, rfl⟩
  rw [hK]
  refine Eq.symm ?_
  have hz := fw_158_21 hc hx hK
  exact ((congrFun (eg_u_ne (vne hc (a := 45) (by decide))) j).trans ((congrFun (eg_u_ne (vne hc (a := 45) (by decide))) j).trans ((congrFun (eg_u_ne (vne hc (a := 45) (by decide))) j).trans ((congrFun (eg_u_ne (vne hc (a := 45) (by decide))) j).trans ((congrFun (eg_u_ne (vne hc (a := 45) (by decide))) j).trans ((congrFun (eg_u_ne (vne hc (a := 45) (by decide))) j).trans rfl)))))).symm.trans hz
