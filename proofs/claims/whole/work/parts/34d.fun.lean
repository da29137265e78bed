/-- 127: WeakScheme$Finalizers.queuedProcedure(I)J -/
noncomputable def fn_127 (a : Int) (M : eM) : Option (Int) :=
  if 0 ≤ (eg_wi ((eg_wi ((M 21 5) + a)) - eg_wi (Int.tdiv (eg_wi ((M 21 5) + a)) 500) * 500)) ∧ (eg_wi ((eg_wi ((M 21 5) + a)) - eg_wi (Int.tdiv (eg_wi ((M 21 5) + a)) 500) * 500)) < 500 then
  some (M 25 (eg_wi ((eg_wi ((M 21 5) + a)) - eg_wi (Int.tdiv (eg_wi ((M 21 5) + a)) 500) * 500)).toNat)
  else none
set_option maxRecDepth 100000 in
theorem ft_127 {cn mo : Nat} {sc : eg_Sc} {d : Nat} {M : eM} {Q : Option eg_V → eg_H → Prop} {a : Int} {x : Int} (hx : fn_127 a M = some x) (hK : Q (some (.inr (.inl x))) (em_L cn mo, eh_R, M)) : eg_wp sc (d + 1) 127 [.inr (.inr (some 21)), .inl a] (em_L cn mo, eh_R, M) 0 0 Q := by
  refine eg_in (lv := [some (.inr (.inr (some 21))), some (.inl a)]) eg_tj127 (Nat.le_of_ble_eq_true rfl) rfl ?_
  refine eg_k_aload rfl rfl ?_
  refine eg_k_gfa rfl rfl rfl eh_r21_4 ?_
  refine eg_k_aload rfl rfl ?_
  refine eg_k_gfi rfl rfl rfl ?_
  refine eg_k_iload rfl rfl ?_
  refine eg_k_iadd rfl ?_
  refine eg_k_ci rfl ?_
  refine eg_k_irem rfl (by decide) ?_
  obtain ⟨b1, hx⟩ := vb_if hx
  refine eg_k_lald (k := 500) rfl rfl b1.1 b1.2 ?_
  have hx := Option.some.inj hx
  subst hx
  exact eg_k_lret rfl rfl (Nat.le_refl _) (Nat.le_refl _) hK
/-- 128: WeakScheme$Finalizers.queuedObject(I)J -/
noncomputable def fn_128 (a : Int) (M : eM) : Option (Int) :=
  if 0 ≤ (eg_wi ((eg_wi ((M 21 5) + a)) - eg_wi (Int.tdiv (eg_wi ((M 21 5) + a)) 500) * 500)) ∧ (eg_wi ((eg_wi ((M 21 5) + a)) - eg_wi (Int.tdiv (eg_wi ((M 21 5) + a)) 500) * 500)) < 500 then
  some (M 24 (eg_wi ((eg_wi ((M 21 5) + a)) - eg_wi (Int.tdiv (eg_wi ((M 21 5) + a)) 500) * 500)).toNat)
  else none
set_option maxRecDepth 100000 in
theorem ft_128 {cn mo : Nat} {sc : eg_Sc} {d : Nat} {M : eM} {Q : Option eg_V → eg_H → Prop} {a : Int} {x : Int} (hx : fn_128 a M = some x) (hK : Q (some (.inr (.inl x))) (em_L cn mo, eh_R, M)) : eg_wp sc (d + 1) 128 [.inr (.inr (some 21)), .inl a] (em_L cn mo, eh_R, M) 0 0 Q := by
  refine eg_in (lv := [some (.inr (.inr (some 21))), some (.inl a)]) eg_tj128 (Nat.le_of_ble_eq_true rfl) rfl ?_
  refine eg_k_aload rfl rfl ?_
  refine eg_k_gfa rfl rfl rfl eh_r21_3 ?_
  refine eg_k_aload rfl rfl ?_
  refine eg_k_gfi rfl rfl rfl ?_
  refine eg_k_iload rfl rfl ?_
  refine eg_k_iadd rfl ?_
  refine eg_k_ci rfl ?_
  refine eg_k_irem rfl (by decide) ?_
  obtain ⟨b1, hx⟩ := vb_if hx
  refine eg_k_lald (k := 500) rfl rfl b1.1 b1.2 ?_
  have hx := Option.some.inj hx
  subst hx
  exact eg_k_lret rfl rfl (Nat.le_refl _) (Nat.le_refl _) hK
/-- 136: WeakScheme$Collector.markHandle(I)V -/
noncomputable def fn_136 (mo : Nat) (a : Int) (M : eM) : Option (eM) :=
  if a = 0 then
    some M
  else
    if 0 ≤ a ∧ a < (mo : Int) then
    if ¬ (M 39 (a).toNat) = 0 then
        some M
      else
        if 0 ≤ (M 38 8) ∧ (M 38 8) < (mo : Int) then
        some (eg_u (eg_u (eg_u M 39 (a).toNat (eg_wb 1)) 40 (M 38 8).toNat a) 38 8 (eg_wi ((M 38 8) + 1)))
        else none
    else none
set_option maxRecDepth 100000 in
theorem ft_136 {cn mo : Nat} {sc : eg_Sc} {d : Nat} {M : eM} {Q : Option eg_V → eg_H → Prop} {a : Int} {x : eM} (hx : fn_136 mo a M = some x) (hK : Q (none) (em_L cn mo, eh_R, x)) : eg_wp sc (d + 1) 136 [.inr (.inr (some 38)), .inl a] (em_L cn mo, eh_R, M) 0 0 Q := by
  refine eg_in (lv := [some (.inr (.inr (some 38))), some (.inl a)]) eg_tj136 (Nat.le_of_ble_eq_true rfl) rfl ?_
  refine eg_k_iload rfl rfl ?_
  refine vk_if rfl hx Iff.rfl (fun c1 hx => ?_) (fun c1 hx => ?_)
  · have hx := Option.some.inj hx
    subst hx
    exact eg_k_ret rfl rfl (Nat.le_refl _) (Nat.le_refl _) hK
  · refine eg_k_aload rfl rfl ?_
    refine eg_k_gfa rfl rfl rfl eh_r38_6 ?_
    refine eg_k_iload rfl rfl ?_
    obtain ⟨b2, hx⟩ := vb_if hx
    refine eg_k_bald (k := mo) rfl rfl b2.1 b2.2 ?_
    refine vk_if rfl hx Iff.rfl (fun c3 hx => ?_) (fun c3 hx => ?_)
    · have hx := Option.some.inj hx
      subst hx
      exact eg_k_ret rfl rfl (Nat.le_refl _) (Nat.le_refl _) hK
    · refine eg_k_aload rfl rfl ?_
      refine eg_k_gfa rfl rfl rfl eh_r38_6 ?_
      refine eg_k_iload rfl rfl ?_
      refine eg_k_ci rfl ?_
      refine eg_k_bast (k := mo) rfl rfl b2.1 b2.2 ?_
      refine eg_k_aload rfl rfl ?_
      refine eg_k_gfa rfl rfl rfl eh_r38_7 ?_
      refine eg_k_aload rfl rfl ?_
      refine eg_k_gfie (x := M 38 8) rfl rfl rfl rfl ?_
      refine eg_k_iload rfl rfl ?_
      obtain ⟨b5, hx⟩ := vb_if hx
      refine eg_k_iast (k := mo) rfl rfl b5.1 b5.2 ?_
      refine eg_k_aload rfl rfl ?_
      refine eg_k_dupr rfl ?_
      refine eg_k_gfie (x := M 38 8) rfl rfl rfl rfl ?_
      refine eg_k_ci rfl ?_
      refine eg_k_iadd rfl ?_
      refine eg_k_pfi rfl rfl rfl ?_
      have hx := Option.some.inj hx
      subst hx
      exact eg_k_ret rfl rfl (Nat.le_refl _) (Nat.le_refl _) hK
theorem fw_136 {mo : Nat} {M : eM} {c : Nat} {a : Int} {x : eM} (hx : fn_136 mo a M = some x) (hc : c ∉ ([38, 39, 40] : List Nat)) (j : Nat) : x c j = M c j := by
  obtain ⟨v, hK⟩ : ∃ v, x c j = v := ⟨_, rfl⟩
  rw [hK]
  refine Eq.symm ?_
  refine vb_ite hx (fun _ hx => ?_) (fun _ hx => ?_)
  · have hx := Option.some.inj hx
    subst hx
    exact (Eq.refl _).symm.trans hK
  · obtain ⟨_, hx⟩ := vb_if hx
    refine vb_ite hx (fun _ hx => ?_) (fun _ hx => ?_)
    · have hx := Option.some.inj hx
      subst hx
      exact (Eq.refl _).symm.trans hK
    · obtain ⟨_, hx⟩ := vb_if hx
      have hx := Option.some.inj hx
      subst hx
      exact ((congrFun (eg_u_ne (vne hc (a := 38) (by decide))) j).trans ((congrFun (eg_u_ne (vne hc (a := 40) (by decide))) j).trans ((congrFun (eg_u_ne (vne hc (a := 39) (by decide))) j).trans rfl))).symm.trans hK
/-- 137: WeakScheme$Collector.mark(J)V -/
noncomputable def fn_137 (mo : Nat) (a : Int) (M : eM) : Option (eM) :=
  if ¬ (eb_lshr a 32) = 4 then
    some M
  else
    (fn_136 mo (eg_wi a) M).bind fun m4 =>
    some m4
set_option maxRecDepth 100000 in
theorem ft_137 {cn mo : Nat} {sc : eg_Sc} {d : Nat} {M : eM} {Q : Option eg_V → eg_H → Prop} {a : Int} {x : eM} (hx : fn_137 mo a M = some x) (hK : Q (none) (em_L cn mo, eh_R, x)) : eg_wp sc (d + 2) 137 [.inr (.inr (some 38)), .inr (.inl a)] (em_L cn mo, eh_R, M) 0 0 Q := by
  refine eg_in (lv := [some (.inr (.inr (some 38))), some (.inr (.inl a)), none]) eg_tj137 (Nat.le_of_ble_eq_true rfl) rfl ?_
  refine eg_k_lload rfl rfl ?_
  refine eg_k_ci rfl ?_
  refine eg_k_lshr rfl ?_
  refine eg_k_cl rfl ?_
  refine vk_lcmp rfl rfl hx Iff.rfl (fun c1 hx => ?_) (fun c1 hx => ?_)
  · have hx := Option.some.inj hx
    subst hx
    exact eg_k_ret rfl rfl (Nat.le_refl _) (Nat.le_refl _) hK
  · refine eg_k_aload rfl rfl ?_
    refine eg_k_lload rfl rfl ?_
    refine eg_k_l2i rfl ?_
    obtain ⟨m4, h2, hx⟩ := vb_bind hx
    refine eg_k_call (c1 := 0) (z1 := 0) (as := [.inr (.inr (some 38)), .inl (eg_wi a)]) (rest := []) rfl eg_tj136 (Nat.le_of_ble_eq_true rfl) rfl rfl rfl (Nat.le_of_ble_eq_true rfl) (Nat.le_refl _) (Nat.le_refl _) ?_ (fun Q hQ => ft_136 h2 hQ)
    have hx := Option.some.inj hx
    subst hx
    exact eg_k_ret rfl rfl (Nat.le_refl _) (Nat.le_refl _) hK
theorem fw_137 {mo : Nat} {M : eM} {c : Nat} {a : Int} {x : eM} (hx : fn_137 mo a M = some x) (hc : c ∉ ([38, 39, 40] : List Nat)) (j : Nat) : x c j = M c j := by
  obtain ⟨v, hK⟩ : ∃ v, x c j = v := ⟨_, rfl⟩
  rw [hK]
  refine Eq.symm ?_
  refine vb_ite hx (fun _ hx => ?_) (fun _ hx => ?_)
  · have hx := Option.some.inj hx
    subst hx
    exact (Eq.refl _).symm.trans hK
  · obtain ⟨m4, h2, hx⟩ := vb_bind hx
    have hx := Option.some.inj hx
    subst hx
    exact ((fw_136 h2 (vsub hc (by decide)) j).trans rfl).symm.trans hK
noncomputable def fn_135_36 (mo : Nat) (s1 : Int) (s2 : eM) : Option ((Int × eM) ⊕ (eM)) :=
  if 32 ≤ s1 then
    some (.inr s2)
  else
    if 0 ≤ s1 ∧ s1 < 32 then
    (fn_137 mo (s2 36 (s1).toNat) s2).bind fun m6 =>
      some (.inl (eg_wi (s1 + 1), m6))
    else none
noncomputable def fn_135_16 (mo : Nat) (x1 : Int) (s1 : Int) (s2 : eM) : Option ((Int × eM) ⊕ ((Int × eM) ⊕ (eM))) :=
  if 0 ≤ x1 ∧ x1 < 2000 then
  if (s2 34 (x1).toNat) ≤ s1 then
      some (.inr (.inl (eg_wi (x1 + 1), s2)))
    else
      (fn_73 x1 s1 s2).bind fun r14 =>
      (fn_137 mo r14 s2).bind fun m18 =>
      some (.inl (eg_wi (s1 + 1), m18))
  else none
noncomputable def fn_135_2 (mo : Nat) (s1 : Int) (s2 : eM) : Option ((Int × eM) ⊕ (eM)) :=
  if (s2 29 0) < s1 then
    (lp (fun z => fn_135_36 mo z.1 z.2) (0, s2)).map Sum.inr
  else
    if 0 ≤ s1 ∧ s1 < 2000 then
    (fn_136 mo (s2 33 (s1).toNat) s2).bind fun m10 =>
      lp (fun z => fn_135_16 mo s1 z.1 z.2) (0, m10)
    else none
/-- 135: WeakScheme$Collector.markHeld()V -/
noncomputable def fn_135 (mo : Nat) (M : eM) : Option (eM) :=
  lp (fun z => fn_135_2 mo z.1 z.2) (1, M)
set_option maxRecDepth 100000 in
theorem ft_135_36 {cn mo : Nat} {sc : eg_Sc} {d : Nat} {Q : Option eg_V → eg_H → Prop} {s : Int × eM} {x : eM} (hx : lp (fun z => fn_135_36 mo z.1 z.2) s = some x) (hK : (fun (x : eM) => Q (none) (em_L cn mo, eh_R, x)) x) : ∀ (w2 : Option eg_V), eg_X sc (eg_wp sc (d + 2)) eg_p135 none 0 0 Q 36 [some (.inr (.inr (some 38))), some (.inl s.1), w2] [] (em_L cn mo, eh_R, s.2) 0 0 := by
  refine lp_sound (P := (fun (s : Int × eM) => ∀ (w2 : Option eg_V), eg_X sc (eg_wp sc (d + 2)) eg_p135 none 0 0 Q 36 [some (.inr (.inr (some 38))), some (.inl s.1), w2] [] (em_L cn mo, eh_R, s.2) 0 0)) (K := (fun (x : eM) => Q (none) (em_L cn mo, eh_R, x))) hx hK ?_
  intro s x hx hK w2
  obtain ⟨s1, s2⟩ := s
  refine eg_k_iload rfl rfl ?_
  refine eg_k_aload rfl rfl ?_
  refine eg_k_gfr rfl rfl rfl eh_r38_3 ?_
  refine eg_k_gfa rfl rfl rfl eh_r29_7 ?_
  refine eg_k_alen (k := 32) rfl rfl ?_
  refine vk_icmp rfl hx Iff.rfl (fun c2 hx => ?_) (fun c2 hx => ?_)
  · have hx := Option.some.inj hx
    subst hx
    exact eg_k_ret rfl rfl (Nat.le_refl _) (Nat.le_refl _) hK
  · refine eg_k_aload rfl rfl ?_
    refine eg_k_aload rfl rfl ?_
    refine eg_k_gfr rfl rfl rfl eh_r38_3 ?_
    refine eg_k_gfa rfl rfl rfl eh_r29_7 ?_
    refine eg_k_iload rfl rfl ?_
    obtain ⟨b3, hx⟩ := vb_if hx
    refine eg_k_lald (k := 32) rfl rfl b3.1 b3.2 ?_
    obtain ⟨m6, h4, hx⟩ := vb_bind hx
    refine eg_k_call (c1 := 0) (z1 := 0) (as := [.inr (.inr (some 38)), .inr (.inl (s2 36 (s1).toNat))]) (rest := []) rfl eg_tj137 (Nat.le_of_ble_eq_true rfl) rfl rfl rfl (Nat.le_of_ble_eq_true rfl) (Nat.le_refl _) (Nat.le_refl _) ?_ (fun Q hQ => ft_137 h4 hQ)
    refine eg_k_iinc (lv' := [some (.inr (.inr (some 38))), some (.inl (eg_wi (s1 + 1))), w2]) rfl rfl rfl ?_
    refine eg_k_goto rfl ?_
    have hx := Option.some.inj hx
    subst hx
    exact hK w2
set_option maxRecDepth 100000 in
theorem ft_135_16 {cn mo : Nat} {sc : eg_Sc} {d : Nat} {Q : Option eg_V → eg_H → Prop} {x1 : Int} {s : Int × eM} {x : (Int × eM) ⊕ (eM)} (hx : lp (fun z => fn_135_16 mo x1 z.1 z.2) s = some x) (hK : (eK (fun (s : Int × eM) => ∀ (w2 : Option eg_V), eg_X sc (eg_wp sc (d + 2)) eg_p135 none 0 0 Q 2 [some (.inr (.inr (some 38))), some (.inl s.1), w2] [] (em_L cn mo, eh_R, s.2) 0 0) (fun (x : eM) => Q (none) (em_L cn mo, eh_R, x))) x) : eg_X sc (eg_wp sc (d + 2)) eg_p135 none 0 0 Q 16 [some (.inr (.inr (some 38))), some (.inl x1), some (.inl s.1)] [] (em_L cn mo, eh_R, s.2) 0 0 := by
  refine lp_sound (P := (fun (s : Int × eM) => eg_X sc (eg_wp sc (d + 2)) eg_p135 none 0 0 Q 16 [some (.inr (.inr (some 38))), some (.inl x1), some (.inl s.1)] [] (em_L cn mo, eh_R, s.2) 0 0)) (K := (eK (fun (s : Int × eM) => ∀ (w2 : Option eg_V), eg_X sc (eg_wp sc (d + 2)) eg_p135 none 0 0 Q 2 [some (.inr (.inr (some 38))), some (.inl s.1), w2] [] (em_L cn mo, eh_R, s.2) 0 0) (fun (x : eM) => Q (none) (em_L cn mo, eh_R, x)))) hx hK ?_
  intro s x hx hK
  obtain ⟨s1, s2⟩ := s
  refine eg_k_iload rfl rfl ?_
  refine eg_k_aload rfl rfl ?_
  refine eg_k_gfr rfl rfl rfl eh_r38_3 ?_
  refine eg_k_gfa rfl rfl rfl eh_r29_5 ?_
  refine eg_k_iload rfl rfl ?_
  obtain ⟨b11, hx⟩ := vb_if hx
  refine eg_k_iald (k := 2000) rfl rfl b11.1 b11.2 ?_
  refine vk_icmp rfl hx Iff.rfl (fun c12 hx => ?_) (fun c12 hx => ?_)
  · refine eg_k_iinc (lv' := [some (.inr (.inr (some 38))), some (.inl (eg_wi (x1 + 1))), some (.inl s1)]) rfl rfl rfl ?_
    refine eg_k_goto rfl ?_
    have hx := Option.some.inj hx
    subst hx
    exact hK (some (.inl s1))
  · refine eg_k_aload rfl rfl ?_
    refine eg_k_aload rfl rfl ?_
    refine eg_k_gfr rfl rfl rfl eh_r38_3 ?_
    refine eg_k_iload rfl rfl ?_
    refine eg_k_iload rfl rfl ?_
    obtain ⟨r14, h13, hx⟩ := vb_bind hx
    refine eg_k_call (c1 := 0) (z1 := 0) (as := [.inr (.inr (some 29)), .inl x1, .inl s1]) (rest := [.inr (.inr (some 38))]) rfl eg_tj73 (Nat.le_of_ble_eq_true rfl) rfl rfl rfl (Nat.le_of_ble_eq_true rfl) (Nat.le_refl _) (Nat.le_refl _) ?_ (fun Q hQ => ft_73 h13 hQ)
    obtain ⟨m18, h16, hx⟩ := vb_bind hx
    refine eg_k_call (c1 := 0) (z1 := 0) (as := [.inr (.inr (some 38)), .inr (.inl r14)]) (rest := []) rfl eg_tj137 (Nat.le_of_ble_eq_true rfl) rfl rfl rfl (Nat.le_of_ble_eq_true rfl) (Nat.le_refl _) (Nat.le_refl _) ?_ (fun Q hQ => ft_137 h16 hQ)
    refine eg_k_iinc (lv' := [some (.inr (.inr (some 38))), some (.inl x1), some (.inl (eg_wi (s1 + 1)))]) rfl rfl rfl ?_
    refine eg_k_goto rfl ?_
    have hx := Option.some.inj hx
    subst hx
    exact hK
set_option maxRecDepth 100000 in
theorem ft_135_2 {cn mo : Nat} {sc : eg_Sc} {d : Nat} {Q : Option eg_V → eg_H → Prop} {s : Int × eM} {x : eM} (hx : lp (fun z => fn_135_2 mo z.1 z.2) s = some x) (hK : (fun (x : eM) => Q (none) (em_L cn mo, eh_R, x)) x) : ∀ (w2 : Option eg_V), eg_X sc (eg_wp sc (d + 2)) eg_p135 none 0 0 Q 2 [some (.inr (.inr (some 38))), some (.inl s.1), w2] [] (em_L cn mo, eh_R, s.2) 0 0 := by
  refine lp_sound (P := (fun (s : Int × eM) => ∀ (w2 : Option eg_V), eg_X sc (eg_wp sc (d + 2)) eg_p135 none 0 0 Q 2 [some (.inr (.inr (some 38))), some (.inl s.1), w2] [] (em_L cn mo, eh_R, s.2) 0 0)) (K := (fun (x : eM) => Q (none) (em_L cn mo, eh_R, x))) hx hK ?_
  intro s x hx hK w2
  obtain ⟨s1, s2⟩ := s
  refine eg_k_iload rfl rfl ?_
  refine eg_k_aload rfl rfl ?_
  refine eg_k_gfr rfl rfl rfl eh_r38_3 ?_
  refine eg_k_gfi rfl rfl rfl ?_
  refine vk_icmp rfl hx Iff.rfl (fun c1 hx => ?_) (fun c1 hx => ?_)
  · refine eg_k_ci rfl ?_
    refine eg_k_istore (lv' := [some (.inr (.inr (some 38))), some (.inl 0), w2]) rfl rfl ?_
    obtain ⟨x, hy, e9⟩ := vb_map hx
    clear hx
    subst e9
    have hx := hy
    clear hy
    have hz := ft_135_36 (d := d) (sc := sc) hx hK
    exact hz w2
  · refine eg_k_aload rfl rfl ?_
    refine eg_k_aload rfl rfl ?_
    refine eg_k_gfr rfl rfl rfl eh_r38_3 ?_
    refine eg_k_gfa rfl rfl rfl eh_r29_4 ?_
    refine eg_k_iload rfl rfl ?_
    obtain ⟨b7, hx⟩ := vb_if hx
    refine eg_k_iald (k := 2000) rfl rfl b7.1 b7.2 ?_
    obtain ⟨m10, h8, hx⟩ := vb_bind hx
    refine eg_k_call (c1 := 0) (z1 := 0) (as := [.inr (.inr (some 38)), .inl (s2 33 (s1).toNat)]) (rest := []) rfl eg_tj136 (Nat.le_of_ble_eq_true rfl) rfl rfl rfl (Nat.le_of_ble_eq_true rfl) (Nat.le_refl _) (Nat.le_refl _) ?_ (fun Q hQ => ft_136 h8 hQ)
    refine eg_k_ci rfl ?_
    refine eg_k_istore (lv' := [some (.inr (.inr (some 38))), some (.inl s1), some (.inl 0)]) rfl rfl ?_
    have hz := ft_135_16 (d := d) (sc := sc) hx hK
    exact hz
set_option maxRecDepth 100000 in
theorem ft_135 {cn mo : Nat} {sc : eg_Sc} {d : Nat} {M : eM} {Q : Option eg_V → eg_H → Prop} {x : eM} (hx : fn_135 mo M = some x) (hK : Q (none) (em_L cn mo, eh_R, x)) : eg_wp sc (d + 3) 135 [.inr (.inr (some 38))] (em_L cn mo, eh_R, M) 0 0 Q := by
  refine eg_in (lv := [some (.inr (.inr (some 38))), none, none]) eg_tj135 (Nat.le_of_ble_eq_true rfl) rfl ?_
  refine eg_k_ci rfl ?_
  refine eg_k_istore (lv' := [some (.inr (.inr (some 38))), some (.inl 1), none]) rfl rfl ?_
  have hz := ft_135_2 (d := d) (sc := sc) hx hK
  exact hz none
theorem fw_135_36 {mo : Nat} {c j : Nat} {v : Int} {s : Int × eM} {x : eM} (hc : c ∉ ([38, 39, 40] : List Nat)) (hx : lp (fun z => fn_135_36 mo z.1 z.2) s = some x) (hK : (fun (x : eM) => x c j = v) x) : s.2 c j = v := by
  refine lp_sound (P := (fun (s : Int × eM) => s.2 c j = v)) (K := (fun (x : eM) => x c j = v)) hx hK ?_
  intro s x hx hK
  obtain ⟨s1, s2⟩ := s
  refine vb_ite hx (fun _ hx => ?_) (fun _ hx => ?_)
  · have hx := Option.some.inj hx
    subst hx
    exact (Eq.refl _).symm.trans hK
  · obtain ⟨_, hx⟩ := vb_if hx
    obtain ⟨m6, h4, hx⟩ := vb_bind hx
    have hx := Option.some.inj hx
    subst hx
    exact ((fw_137 h4 (vsub hc (by decide)) j).trans rfl).symm.trans hK
theorem fw_135_16 {mo : Nat} {c j : Nat} {v : Int} {x1 : Int} {s : Int × eM} {x : (Int × eM) ⊕ (eM)} (hc : c ∉ ([38, 39, 40] : List Nat)) (hx : lp (fun z => fn_135_16 mo x1 z.1 z.2) s = some x) (hK : (eK (fun (s : Int × eM) => s.2 c j = v) (fun (x : eM) => x c j = v)) x) : s.2 c j = v := by
  refine lp_sound (P := (fun (s : Int × eM) => s.2 c j = v)) (K := (eK (fun (s : Int × eM) => s.2 c j = v) (fun (x : eM) => x c j = v))) hx hK ?_
  intro s x hx hK
  obtain ⟨s1, s2⟩ := s
  obtain ⟨_, hx⟩ := vb_if hx
  refine vb_ite hx (fun _ hx => ?_) (fun _ hx => ?_)
  · have hx := Option.some.inj hx
    subst hx
    exact (Eq.refl _).symm.trans hK
  · obtain ⟨r14, h13, hx⟩ := vb_bind hx
    obtain ⟨m18, h16, hx⟩ := vb_bind hx
    have hx := Option.some.inj hx
    subst hx
    exact ((fw_137 h16 (vsub hc (by decide)) j).trans rfl).symm.trans hK
theorem fw_135_2 {mo : Nat} {c j : Nat} {v : Int} {s : Int × eM} {x : eM} (hc : c ∉ ([38, 39, 40] : List Nat)) (hx : lp (fun z => fn_135_2 mo z.1 z.2) s = some x) (hK : (fun (x : eM) => x c j = v) x) : s.2 c j = v := by
  refine lp_sound (P := (fun (s : Int × eM) => s.2 c j = v)) (K := (fun (x : eM) => x c j = v)) hx hK ?_
  intro s x hx hK
  obtain ⟨s1, s2⟩ := s
  refine vb_ite hx (fun _ hx => ?_) (fun _ hx => ?_)
  · obtain ⟨x, hy, e9⟩ := vb_map hx
    clear hx
    subst e9
    have hx := hy
    clear hy
    have hz := fw_135_36 hc hx hK
    exact (Eq.refl _).symm.trans hz
  · obtain ⟨_, hx⟩ := vb_if hx
    obtain ⟨m10, h8, hx⟩ := vb_bind hx
    have hz := fw_135_16 hc hx hK
    exact ((fw_136 h8 (vsub hc (by decide)) j).trans rfl).symm.trans hz
theorem fw_135 {mo : Nat} {M : eM} {c : Nat} {x : eM} (hx : fn_135 mo M = some x) (hc : c ∉ ([38, 39, 40] : List Nat)) (j : Nat) : x c j = M c j := by
  obtain ⟨v, hK⟩ : ∃ v, x c j = v := ⟨_, rfl⟩
  rw [hK]
  refine Eq.symm ?_
  have hz := fw_135_2 hc hx hK
  exact (Eq.refl _).symm.trans hz
/-- 138: WeakScheme$Collector.isLive(J)Z -/
noncomputable def fn_138 (mo : Nat) (a : Int) (M : eM) : Option (Int) :=
  if ¬ (eb_lshr a 32) = 4 then
    some 1
  else
    if 0 ≤ (eg_wi a) ∧ (eg_wi a) < (mo : Int) then
    if (M 39 (eg_wi a).toNat) = 0 then
        some 0
      else
        some 1
    else none
set_option maxRecDepth 100000 in
theorem ft_138 {cn mo : Nat} {sc : eg_Sc} {d : Nat} {M : eM} {Q : Option eg_V → eg_H → Prop} {a : Int} {x : Int} (hx : fn_138 mo a M = some x) (hK : Q (some (.inl x)) (em_L cn mo, eh_R, M)) : eg_wp sc (d + 1) 138 [.inr (.inr (some 38)), .inr (.inl a)] (em_L cn mo, eh_R, M) 0 0 Q := by
  refine eg_in (lv := [some (.inr (.inr (some 38))), some (.inr (.inl a)), none]) eg_tj138 (Nat.le_of_ble_eq_true rfl) rfl ?_
  refine eg_k_lload rfl rfl ?_
  refine eg_k_ci rfl ?_
  refine eg_k_lshr rfl ?_
  refine eg_k_cl rfl ?_
  refine vk_lcmp rfl rfl hx Iff.rfl (fun c1 hx => ?_) (fun c1 hx => ?_)
  · refine eg_k_ci rfl ?_
    refine eg_k_goto rfl ?_
    have hx := Option.some.inj hx
    subst hx
    exact eg_k_iret rfl (Or.inr rfl) (Nat.le_refl _) (Nat.le_refl _) hK
  · refine eg_k_aload rfl rfl ?_
    refine eg_k_gfa rfl rfl rfl eh_r38_6 ?_
    refine eg_k_lload rfl rfl ?_
    refine eg_k_l2i rfl ?_
    obtain ⟨b2, hx⟩ := vb_if hx
    refine eg_k_bald (k := mo) rfl rfl b2.1 b2.2 ?_
    refine vk_if rfl hx Iff.rfl (fun c3 hx => ?_) (fun c3 hx => ?_)
    · refine eg_k_ci rfl ?_
      have hx := Option.some.inj hx
      subst hx
      exact eg_k_iret rfl (Or.inl rfl) (Nat.le_refl _) (Nat.le_refl _) hK
    · refine eg_k_ci rfl ?_
      refine eg_k_goto rfl ?_
      have hx := Option.some.inj hx
      subst hx
      exact eg_k_iret rfl (Or.inr rfl) (Nat.le_refl _) (Nat.le_refl _) hK
/-- 139: WeakScheme$Collector.await(JI)V -/
noncomputable def fn_139 (mo : Nat) (a : Int) (b : Int) (M : eM) : Option (eM) :=
  if 0 ≤ (eg_wi a) ∧ (eg_wi a) < (mo : Int) then
  if 0 ≤ b ∧ b < ((mo + 500 : Nat) : Int) then
    some (eg_u (eg_u M 42 (b).toNat (M 41 (eg_wi a).toNat)) 41 (eg_wi a).toNat b)
    else none
  else none
set_option maxRecDepth 100000 in
theorem ft_139 {cn mo : Nat} {sc : eg_Sc} {d : Nat} {M : eM} {Q : Option eg_V → eg_H → Prop} {a : Int} {b : Int} {x : eM} (hx : fn_139 mo a b M = some x) (hK : Q (none) (em_L cn mo, eh_R, x)) : eg_wp sc (d + 1) 139 [.inr (.inr (some 38)), .inr (.inl a), .inl b] (em_L cn mo, eh_R, M) 0 0 Q := by
  refine eg_in (lv := [some (.inr (.inr (some 38))), some (.inr (.inl a)), none, some (.inl b)]) eg_tj139 (Nat.le_of_ble_eq_true rfl) rfl ?_
  refine eg_k_aload rfl rfl ?_
  refine eg_k_gfa rfl rfl rfl eh_r38_10 ?_
  refine eg_k_iload rfl rfl ?_
  refine eg_k_aload rfl rfl ?_
  refine eg_k_gfa rfl rfl rfl eh_r38_9 ?_
  refine eg_k_lload rfl rfl ?_
  refine eg_k_l2i rfl ?_
  obtain ⟨b1, hx⟩ := vb_if hx
  refine eg_k_iald (k := mo) rfl rfl b1.1 b1.2 ?_
  obtain ⟨b2, hx⟩ := vb_if hx
  refine eg_k_iast (k := (mo + 500)) rfl rfl b2.1 b2.2 ?_
  refine eg_k_aload rfl rfl ?_
  refine eg_k_gfa rfl rfl rfl eh_r38_9 ?_
  refine eg_k_lload rfl rfl ?_
  refine eg_k_l2i rfl ?_
  refine eg_k_iload rfl rfl ?_
  refine eg_k_iast (k := mo) rfl rfl b1.1 b1.2 ?_
  have hx := Option.some.inj hx
  subst hx
  exact eg_k_ret rfl rfl (Nat.le_refl _) (Nat.le_refl _) hK
theorem fw_139 {mo : Nat} {M : eM} {c : Nat} {a : Int} {b : Int} {x : eM} (hx : fn_139 mo a b M = some x) (hc : c ∉ ([41, 42] : List Nat)) (j : Nat) : x c j = M c j := by
  obtain ⟨v, hK⟩ : ∃ v, x c j = v := ⟨_, rfl⟩
  rw [hK]
  refine Eq.symm ?_
  obtain ⟨_, hx⟩ := vb_if hx
  obtain ⟨_, hx⟩ := vb_if hx
  have hx := Option.some.inj hx
  subst hx
  exact ((congrFun (eg_u_ne (vne hc (a := 41) (by decide))) j).trans ((congrFun (eg_u_ne (vne hc (a := 42) (by decide))) j).trans rfl)).symm.trans hK
noncomputable def fn_141_2 (cn : Nat) (mo : Nat) (x1 : Int) (x2 : Int) (x3 : Int) (s1 : Int) (s2 : eM) : Option ((Int × eM) ⊕ (eM)) :=
  if x3 ≤ s1 then
    some (.inr s2)
  else
    (fn_78 cn mo x1 (eg_wi (x2 + s1)) s2).bind fun r3 =>
    (fn_137 mo r3 s2).bind fun m7 =>
    some (.inl (eg_wi (s1 + 1), m7))
/-- 141: WeakScheme$Collector.markCells(III)V -/
noncomputable def fn_141 (cn : Nat) (mo : Nat) (a : Int) (b : Int) (e : Int) (M : eM) : Option (eM) :=
  lp (fun z => fn_141_2 cn mo a b e z.1 z.2) (0, M)
set_option maxRecDepth 100000 in
theorem ft_141_2 {cn mo : Nat} {sc : eg_Sc} {d : Nat} {Q : Option eg_V → eg_H → Prop} {x1 : Int} {x2 : Int} {x3 : Int} {s : Int × eM} {x : eM} (hx : lp (fun z => fn_141_2 cn mo x1 x2 x3 z.1 z.2) s = some x) (hK : (fun (x : eM) => Q (none) (em_L cn mo, eh_R, x)) x) : eg_X sc (eg_wp sc (d + 2)) eg_p141 none 0 0 Q 2 [some (.inr (.inr (some 38))), some (.inl x1), some (.inl x2), some (.inl x3), some (.inl s.1)] [] (em_L cn mo, eh_R, s.2) 0 0 := by
  refine lp_sound (P := (fun (s : Int × eM) => eg_X sc (eg_wp sc (d + 2)) eg_p141 none 0 0 Q 2 [some (.inr (.inr (some 38))), some (.inl x1), some (.inl x2), some (.inl x3), some (.inl s.1)] [] (em_L cn mo, eh_R, s.2) 0 0)) (K := (fun (x : eM) => Q (none) (em_L cn mo, eh_R, x))) hx hK ?_
  intro s x hx hK
  obtain ⟨s1, s2⟩ := s
  refine eg_k_iload rfl rfl ?_
  refine eg_k_iload rfl rfl ?_
  refine vk_icmp rfl hx Iff.rfl (fun c1 hx => ?_) (fun c1 hx => ?_)
  · have hx := Option.some.inj hx
    subst hx
    exact eg_k_ret rfl rfl (Nat.le_refl _) (Nat.le_refl _) hK
  · refine eg_k_aload rfl rfl ?_
    refine eg_k_aload rfl rfl ?_
    refine eg_k_gfr rfl rfl rfl eh_r38_1 ?_
    refine eg_k_iload rfl rfl ?_
    refine eg_k_iload rfl rfl ?_
    refine eg_k_iload rfl rfl ?_
    refine eg_k_iadd rfl ?_
    obtain ⟨r3, h2, hx⟩ := vb_bind hx
    refine eg_k_call (c1 := 0) (z1 := 0) (as := [.inr (.inr (some 15)), .inl x1, .inl (eg_wi (x2 + s1))]) (rest := [.inr (.inr (some 38))]) rfl eg_tj78 (Nat.le_of_ble_eq_true rfl) rfl rfl rfl (Nat.le_of_ble_eq_true rfl) (Nat.le_refl _) (Nat.le_refl _) ?_ (fun Q hQ => ft_78 h2 hQ)
    obtain ⟨m7, h5, hx⟩ := vb_bind hx
    refine eg_k_call (c1 := 0) (z1 := 0) (as := [.inr (.inr (some 38)), .inr (.inl r3)]) (rest := []) rfl eg_tj137 (Nat.le_of_ble_eq_true rfl) rfl rfl rfl (Nat.le_of_ble_eq_true rfl) (Nat.le_refl _) (Nat.le_refl _) ?_ (fun Q hQ => ft_137 h5 hQ)
    refine eg_k_iinc (lv' := [some (.inr (.inr (some 38))), some (.inl x1), some (.inl x2), some (.inl x3), some (.inl (eg_wi (s1 + 1)))]) rfl rfl rfl ?_
    refine eg_k_goto rfl ?_
    have hx := Option.some.inj hx
    subst hx
    exact hK
set_option maxRecDepth 100000 in
theorem ft_141 {cn mo : Nat} {sc : eg_Sc} {d : Nat} {M : eM} {Q : Option eg_V → eg_H → Prop} {a : Int} {b : Int} {e : Int} {x : eM} (hx : fn_141 cn mo a b e M = some x) (hK : Q (none) (em_L cn mo, eh_R, x)) : eg_wp sc (d + 3) 141 [.inr (.inr (some 38)), .inl a, .inl b, .inl e] (em_L cn mo, eh_R, M) 0 0 Q := by
  refine eg_in (lv := [some (.inr (.inr (some 38))), some (.inl a), some (.inl b), some (.inl e), none]) eg_tj141 (Nat.le_of_ble_eq_true rfl) rfl ?_
  refine eg_k_ci rfl ?_
  refine eg_k_istore (lv' := [some (.inr (.inr (some 38))), some (.inl a), some (.inl b), some (.inl e), some (.inl 0)]) rfl rfl ?_
  have hz := ft_141_2 (d := d) (sc := sc) hx hK
  exact hz
theorem fw_141_2 {cn : Nat} {mo : Nat} {c j : Nat} {v : Int} {x1 : Int} {x2 : Int} {x3 : Int} {s : Int × eM} {x : eM} (hc : c ∉ ([38, 39, 40] : List Nat)) (hx : lp (fun z => fn_141_2 cn mo x1 x2 x3 z.1 z.2) s = some x) (hK : (fun (x : eM) => x c j = v) x) : s.2 c j = v := by
  refine lp_sound (P := (fun (s : Int × eM) => s.2 c j = v)) (K := (fun (x : eM) => x c j = v)) hx hK ?_
  intro s x hx hK
  obtain ⟨s1, s2⟩ := s
  refine vb_ite hx (fun _ hx => ?_) (fun _ hx => ?_)
  · have hx := Option.some.inj hx
    subst hx
    exact (Eq.refl _).symm.trans hK
  · obtain ⟨r3, h2, hx⟩ := vb_bind hx
    obtain ⟨m7, h5, hx⟩ := vb_bind hx
    have hx := Option.some.inj hx
    subst hx
    exact ((fw_137 h5 (vsub hc (by decide)) j).trans rfl).symm.trans hK
theorem fw_141 {cn : Nat} {mo : Nat} {M : eM} {c : Nat} {a : Int} {b : Int} {e : Int} {x : eM} (hx : fn_141 cn mo a b e M = some x) (hc : c ∉ ([38, 39, 40] : List Nat)) (j : Nat) : x c j = M c j := by
  obtain ⟨v, hK⟩ : ∃ v, x c j = v := ⟨_, rfl⟩
  rw [hK]
  refine Eq.symm ?_
  have hz := fw_141_2 hc hx hK
  exact (Eq.refl _).symm.trans hz
noncomputable def fn_142_7 (cn : Nat) (mo : Nat) (x1 : Int) (s1 : Int) (s2 : eM) : Option ((Int × eM) ⊕ (eM)) :=
  if s1 = 0 then
    some (.inr s2)
  else
    (fn_78 cn mo s1 1 s2).bind fun r6 =>
    (fn_138 mo r6 s2).bind fun r9 =>
    if r9 = 0 then
      (fn_139 mo r6 s1 s2).bind fun m14 =>
      (fn_78 cn mo s1 3 m14).bind fun r16 =>
      some (.inl (eg_wi r16, m14))
    else
      (fn_136 mo s1 s2).bind fun m20 =>
      (fn_78 cn mo s1 3 m20).bind fun r22 =>
      some (.inl (eg_wi r22, m20))
/-- 142: WeakScheme$Collector.traceTable(I)V -/
noncomputable def fn_142 (cn : Nat) (mo : Nat) (a : Int) (M : eM) : Option (eM) :=
  (fn_78 cn mo a 1 M).bind fun r2 =>
  lp (fun z => fn_142_7 cn mo a z.1 z.2) (eg_wi r2, M)
set_option maxRecDepth 100000 in
theorem ft_142_7 {cn mo : Nat} {sc : eg_Sc} {d : Nat} {Q : Option eg_V → eg_H → Prop} {x1 : Int} {s : Int × eM} {x : eM} (hx : lp (fun z => fn_142_7 cn mo x1 z.1 z.2) s = some x) (hK : (fun (x : eM) => Q (none) (em_L cn mo, eh_R, x)) x) : ∀ (w3 w4 : Option eg_V), eg_X sc (eg_wp sc (d + 1)) eg_p142 none 0 0 Q 7 [some (.inr (.inr (some 38))), some (.inl x1), some (.inl s.1), w3, w4] [] (em_L cn mo, eh_R, s.2) 0 0 := by
  refine lp_sound (P := (fun (s : Int × eM) => ∀ (w3 w4 : Option eg_V), eg_X sc (eg_wp sc (d + 1)) eg_p142 none 0 0 Q 7 [some (.inr (.inr (some 38))), some (.inl x1), some (.inl s.1), w3, w4] [] (em_L cn mo, eh_R, s.2) 0 0)) (K := (fun (x : eM) => Q (none) (em_L cn mo, eh_R, x))) hx hK ?_
  intro s x hx hK w3 w4
  obtain ⟨s1, s2⟩ := s
  refine eg_k_iload rfl rfl ?_
  refine vk_if rfl hx Iff.rfl (fun c4 hx => ?_) (fun c4 hx => ?_)
  · have hx := Option.some.inj hx
    subst hx
    exact eg_k_ret rfl rfl (Nat.le_refl _) (Nat.le_refl _) hK
  · refine eg_k_aload rfl rfl ?_
    refine eg_k_gfr rfl rfl rfl eh_r38_1 ?_
    refine eg_k_iload rfl rfl ?_
    refine eg_k_ci rfl ?_
    obtain ⟨r6, h5, hx⟩ := vb_bind hx
    refine eg_k_call (c1 := 0) (z1 := 0) (as := [.inr (.inr (some 15)), .inl s1, .inl 1]) (rest := []) rfl eg_tj78 (Nat.le_of_ble_eq_true rfl) rfl rfl rfl (Nat.le_of_ble_eq_true rfl) (Nat.le_refl _) (Nat.le_refl _) ?_ (fun Q hQ => ft_78 h5 hQ)
    refine eg_k_lstore (lv' := [some (.inr (.inr (some 38))), some (.inl x1), some (.inl s1), some (.inr (.inl r6)), none]) rfl rfl ?_
    refine eg_k_aload rfl rfl ?_
    refine eg_k_lload rfl rfl ?_
    obtain ⟨r9, h8, hx⟩ := vb_bind hx
    refine eg_k_call (c1 := 0) (z1 := 0) (as := [.inr (.inr (some 38)), .inr (.inl r6)]) (rest := []) rfl eg_tj138 (Nat.le_of_ble_eq_true rfl) rfl rfl rfl (Nat.le_of_ble_eq_true rfl) (Nat.le_refl _) (Nat.le_refl _) ?_ (fun Q hQ => ft_138 h8 hQ)
    refine vk_if rfl hx Iff.rfl (fun c11 hx => ?_) (fun c11 hx => ?_)
    · refine eg_k_aload rfl rfl ?_
      refine eg_k_lload rfl rfl ?_
      refine eg_k_iload rfl rfl ?_
      obtain ⟨m14, h12, hx⟩ := vb_bind hx
      refine eg_k_call (c1 := 0) (z1 := 0) (as := [.inr (.inr (some 38)), .inr (.inl r6), .inl s1]) (rest := []) rfl eg_tj139 (Nat.le_of_ble_eq_true rfl) rfl rfl rfl (Nat.le_of_ble_eq_true rfl) (Nat.le_refl _) (Nat.le_refl _) ?_ (fun Q hQ => ft_139 h12 hQ)
      refine eg_k_aload rfl rfl ?_
      refine eg_k_gfr rfl rfl rfl eh_r38_1 ?_
      refine eg_k_iload rfl rfl ?_
      refine eg_k_ci rfl ?_
      obtain ⟨r16, h15, hx⟩ := vb_bind hx
      refine eg_k_call (c1 := 0) (z1 := 0) (as := [.inr (.inr (some 15)), .inl s1, .inl 3]) (rest := []) rfl eg_tj78 (Nat.le_of_ble_eq_true rfl) rfl rfl rfl (Nat.le_of_ble_eq_true rfl) (Nat.le_refl _) (Nat.le_refl _) ?_ (fun Q hQ => ft_78 h15 hQ)
      refine eg_k_l2i rfl ?_
      refine eg_k_istore (lv' := [some (.inr (.inr (some 38))), some (.inl x1), some (.inl (eg_wi r16)), some (.inr (.inl r6)), none]) rfl rfl ?_
      refine eg_k_goto rfl ?_
      have hx := Option.some.inj hx
      subst hx
      exact hK (some (.inr (.inl r6))) none
    · refine eg_k_aload rfl rfl ?_
      refine eg_k_iload rfl rfl ?_
      obtain ⟨m20, h18, hx⟩ := vb_bind hx
      refine eg_k_call (c1 := 0) (z1 := 0) (as := [.inr (.inr (some 38)), .inl s1]) (rest := []) rfl eg_tj136 (Nat.le_of_ble_eq_true rfl) rfl rfl rfl (Nat.le_of_ble_eq_true rfl) (Nat.le_refl _) (Nat.le_refl _) ?_ (fun Q hQ => ft_136 h18 hQ)
      refine eg_k_goto rfl ?_
      refine eg_k_aload rfl rfl ?_
      refine eg_k_gfr rfl rfl rfl eh_r38_1 ?_
      refine eg_k_iload rfl rfl ?_
      refine eg_k_ci rfl ?_
      obtain ⟨r22, h21, hx⟩ := vb_bind hx
      refine eg_k_call (c1 := 0) (z1 := 0) (as := [.inr (.inr (some 15)), .inl s1, .inl 3]) (rest := []) rfl eg_tj78 (Nat.le_of_ble_eq_true rfl) rfl rfl rfl (Nat.le_of_ble_eq_true rfl) (Nat.le_refl _) (Nat.le_refl _) ?_ (fun Q hQ => ft_78 h21 hQ)
      refine eg_k_l2i rfl ?_
      refine eg_k_istore (lv' := [some (.inr (.inr (some 38))), some (.inl x1), some (.inl (eg_wi r22)), some (.inr (.inl r6)), none]) rfl rfl ?_
      refine eg_k_goto rfl ?_
      have hx := Option.some.inj hx
      subst hx
      exact hK (some (.inr (.inl r6))) none
set_option maxRecDepth 100000 in
theorem ft_142 {cn mo : Nat} {sc : eg_Sc} {d : Nat} {M : eM} {Q : Option eg_V → eg_H → Prop} {a : Int} {x : eM} (hx : fn_142 cn mo a M = some x) (hK : Q (none) (em_L cn mo, eh_R, x)) : eg_wp sc (d + 2) 142 [.inr (.inr (some 38)), .inl a] (em_L cn mo, eh_R, M) 0 0 Q := by
  refine eg_in (lv := [some (.inr (.inr (some 38))), some (.inl a), none, none, none]) eg_tj142 (Nat.le_of_ble_eq_true rfl) rfl ?_
  refine eg_k_aload rfl rfl ?_
  refine eg_k_gfr rfl rfl rfl eh_r38_1 ?_
  refine eg_k_iload rfl rfl ?_
  refine eg_k_ci rfl ?_
  obtain ⟨r2, h1, hx⟩ := vb_bind hx
  refine eg_k_call (c1 := 0) (z1 := 0) (as := [.inr (.inr (some 15)), .inl a, .inl 1]) (rest := []) rfl eg_tj78 (Nat.le_of_ble_eq_true rfl) rfl rfl rfl (Nat.le_of_ble_eq_true rfl) (Nat.le_refl _) (Nat.le_refl _) ?_ (fun Q hQ => ft_78 h1 hQ)
  refine eg_k_l2i rfl ?_
  refine eg_k_istore (lv' := [some (.inr (.inr (some 38))), some (.inl a), some (.inl (eg_wi r2)), none, none]) rfl rfl ?_
  have hz := ft_142_7 (d := d) (sc := sc) hx hK
  exact hz none none
theorem fw_142_7 {cn : Nat} {mo : Nat} {c j : Nat} {v : Int} {x1 : Int} {s : Int × eM} {x : eM} (hc : c ∉ ([38, 39, 40, 41, 42] : List Nat)) (hx : lp (fun z => fn_142_7 cn mo x1 z.1 z.2) s = some x) (hK : (fun (x : eM) => x c j = v) x) : s.2 c j = v := by
  refine lp_sound (P := (fun (s : Int × eM) => s.2 c j = v)) (K := (fun (x : eM) => x c j = v)) hx hK ?_
  intro s x hx hK
  obtain ⟨s1, s2⟩ := s
  refine vb_ite hx (fun _ hx => ?_) (fun _ hx => ?_)
  · have hx := Option.some.inj hx
    subst hx
    exact (Eq.refl _).symm.trans hK
  · obtain ⟨r6, h5, hx⟩ := vb_bind hx
    obtain ⟨r9, h8, hx⟩ := vb_bind hx
    refine vb_ite hx (fun _ hx => ?_) (fun _ hx => ?_)
    · obtain ⟨m14, h12, hx⟩ := vb_bind hx
      obtain ⟨r16, h15, hx⟩ := vb_bind hx
      have hx := Option.some.inj hx
      subst hx
      exact ((fw_139 h12 (vsub hc (by decide)) j).trans rfl).symm.trans hK
    · obtain ⟨m20, h18, hx⟩ := vb_bind hx
      obtain ⟨r22, h21, hx⟩ := vb_bind hx
      have hx := Option.some.inj hx
      subst hx
      exact ((fw_136 h18 (vsub hc (by decide)) j).trans rfl).symm.trans hK
theorem fw_142 {cn : Nat} {mo : Nat} {M : eM} {c : Nat} {a : Int} {x : eM} (hx : fn_142 cn mo a M = some x) (hc : c ∉ ([38, 39, 40, 41, 42] : List Nat)) (j : Nat) : x c j = M c j := by
  obtain ⟨v, hK⟩ : ∃ v, x c j = v := ⟨_, rfl⟩
  rw [hK]
  refine Eq.symm ?_
  obtain ⟨r2, h1, hx⟩ := vb_bind hx
  have hz := fw_142_7 hc hx hK
  exact (Eq.refl _).symm.trans hz
/-- 140: WeakScheme$Collector.trace(I)V -/
noncomputable def fn_140 (cn : Nat) (mo : Nat) (a : Int) (M : eM) : Option (eM) :=
  if 0 ≤ a ∧ a < (mo : Int) then
  if (M 18 (a).toNat) = 1 then
      (fn_78 cn mo a 1 M).bind fun r3 =>
      (fn_137 mo r3 M).bind fun m7 =>
      (fn_78 cn mo a 2 m7).bind fun r9 =>
      (fn_137 mo r9 m7).bind fun m13 =>
      some m13
    else if (M 18 (a).toNat) = 2 then
      (fn_98 mo a M).bind fun r15 =>
      (fn_141 cn mo a 1 r15 M).bind fun m19 =>
      some m19
    else if (M 18 (a).toNat) = 3 then
      (fn_78 cn mo a 2 M).bind fun r21 =>
      (fn_136 mo (eg_wi r21) M).bind fun m25 =>
      some m25
    else if (M 18 (a).toNat) = 4 then
      (fn_78 cn mo a 2 M).bind fun r27 =>
      (fn_136 mo (eg_wi r27) M).bind fun m31 =>
      (fn_141 cn mo a 3 (eg_wi ((m31 19 (a).toNat) - 3)) m31).bind fun m35 =>
      some m35
    else if (M 18 (a).toNat) = 5 then
      some M
    else if (M 18 (a).toNat) = 6 then
      (fn_78 cn mo a 1 M).bind fun r37 =>
      (fn_138 mo r37 M).bind fun r40 =>
      if r40 = 0 then
        (fn_78 cn mo a 1 M).bind fun r44 =>
        (fn_139 mo r44 a M).bind fun m48 =>
        some m48
      else
        (fn_78 cn mo a 2 M).bind fun r50 =>
        (fn_137 mo r50 M).bind fun m54 =>
        some m54
    else if (M 18 (a).toNat) = 7 then
      (fn_142 cn mo a M).bind fun m57 =>
      some m57
    else if (M 18 (a).toNat) = 8 then
      (fn_78 cn mo a 2 M).bind fun r59 =>
      (fn_137 mo r59 M).bind fun m63 =>
      some m63
    else 
      some M
  else none
set_option maxRecDepth 100000 in
theorem ft_140 {cn mo : Nat} {sc : eg_Sc} {d : Nat} {M : eM} {Q : Option eg_V → eg_H → Prop} {a : Int} {x : eM} (hx : fn_140 cn mo a M = some x) (hK : Q (none) (em_L cn mo, eh_R, x)) : eg_wp sc (d + 4) 140 [.inr (.inr (some 38)), .inl a] (em_L cn mo, eh_R, M) 0 0 Q := by
  refine eg_in (lv := [some (.inr (.inr (some 38))), some (.inl a)]) eg_tj140 (Nat.le_of_ble_eq_true rfl) rfl ?_
  refine eg_k_aload rfl rfl ?_
  refine eg_k_gfr rfl rfl rfl eh_r38_1 ?_
  refine eg_k_gfa rfl rfl rfl eh_r15_3 ?_
  refine eg_k_iload rfl rfl ?_
  obtain ⟨b1, hx⟩ := vb_if hx
  refine eg_k_iald (k := mo) rfl rfl b1.1 b1.2 ?_
  refine vb_ite hx (fun e9 hx => ?_) (fun e9 hx => ?_)
  · refine eg_k_tsw (x := M 18 (a).toNat) (t := 6) rfl (by rw [e9]; rfl) ?_
    refine eg_k_aload rfl rfl ?_
    refine eg_k_aload rfl rfl ?_
    refine eg_k_gfr rfl rfl rfl eh_r38_1 ?_
    refine eg_k_iload rfl rfl ?_
    refine eg_k_ci rfl ?_
    obtain ⟨r3, h2, hx⟩ := vb_bind hx
    refine eg_k_call (c1 := 0) (z1 := 0) (as := [.inr (.inr (some 15)), .inl a, .inl 1]) (rest := [.inr (.inr (some 38))]) rfl eg_tj78 (Nat.le_of_ble_eq_true rfl) rfl rfl rfl (Nat.le_of_ble_eq_true rfl) (Nat.le_refl _) (Nat.le_refl _) ?_ (fun Q hQ => ft_78 h2 hQ)
    obtain ⟨m7, h5, hx⟩ := vb_bind hx
    refine eg_k_call (c1 := 0) (z1 := 0) (as := [.inr (.inr (some 38)), .inr (.inl r3)]) (rest := []) rfl eg_tj137 (Nat.le_of_ble_eq_true rfl) rfl rfl rfl (Nat.le_of_ble_eq_true rfl) (Nat.le_refl _) (Nat.le_refl _) ?_ (fun Q hQ => ft_137 h5 hQ)
    refine eg_k_aload rfl rfl ?_
    refine eg_k_aload rfl rfl ?_
    refine eg_k_gfr rfl rfl rfl eh_r38_1 ?_
    refine eg_k_iload rfl rfl ?_
    refine eg_k_ci rfl ?_
    obtain ⟨r9, h8, hx⟩ := vb_bind hx
    refine eg_k_call (c1 := 0) (z1 := 0) (as := [.inr (.inr (some 15)), .inl a, .inl 2]) (rest := [.inr (.inr (some 38))]) rfl eg_tj78 (Nat.le_of_ble_eq_true rfl) rfl rfl rfl (Nat.le_of_ble_eq_true rfl) (Nat.le_refl _) (Nat.le_refl _) ?_ (fun Q hQ => ft_78 h8 hQ)
    obtain ⟨m13, h11, hx⟩ := vb_bind hx
    refine eg_k_call (c1 := 0) (z1 := 0) (as := [.inr (.inr (some 38)), .inr (.inl r9)]) (rest := []) rfl eg_tj137 (Nat.le_of_ble_eq_true rfl) rfl rfl rfl (Nat.le_of_ble_eq_true rfl) (Nat.le_refl _) (Nat.le_refl _) ?_ (fun Q hQ => ft_137 h11 hQ)
    refine eg_k_goto rfl ?_
    have hx := Option.some.inj hx
    subst hx
    exact eg_k_ret rfl rfl (Nat.le_refl _) (Nat.le_refl _) hK
  have e1_ := e9
  refine vb_ite hx (fun e9 hx => ?_) (fun e9 hx => ?_)
  · refine eg_k_tsw (x := M 18 (a).toNat) (t := 21) rfl (by rw [e9]; rfl) ?_
    refine eg_k_aload rfl rfl ?_
    refine eg_k_iload rfl rfl ?_
    refine eg_k_ci rfl ?_
    refine eg_k_aload rfl rfl ?_
    refine eg_k_gfr rfl rfl rfl eh_r38_1 ?_
    refine eg_k_iload rfl rfl ?_
    obtain ⟨r15, h14, hx⟩ := vb_bind hx
    refine eg_k_call (c1 := 0) (z1 := 0) (as := [.inr (.inr (some 15)), .inl a]) (rest := [.inl 1, .inl a, .inr (.inr (some 38))]) rfl eg_tj98 (Nat.le_of_ble_eq_true rfl) rfl rfl rfl (Nat.le_of_ble_eq_true rfl) (Nat.le_refl _) (Nat.le_refl _) ?_ (fun Q hQ => ft_98 h14 hQ)
    obtain ⟨m19, h17, hx⟩ := vb_bind hx
    refine eg_k_call (c1 := 0) (z1 := 0) (as := [.inr (.inr (some 38)), .inl a, .inl 1, .inl r15]) (rest := []) rfl eg_tj141 (Nat.le_of_ble_eq_true rfl) rfl rfl rfl (Nat.le_of_ble_eq_true rfl) (Nat.le_refl _) (Nat.le_refl _) ?_ (fun Q hQ => ft_141 h17 hQ)
    refine eg_k_goto rfl ?_
    have hx := Option.some.inj hx
    subst hx
    exact eg_k_ret rfl rfl (Nat.le_refl _) (Nat.le_refl _) hK
  have e2_ := e9
  refine vb_ite hx (fun e9 hx => ?_) (fun e9 hx => ?_)
  · refine eg_k_tsw (x := M 18 (a).toNat) (t := 30) rfl (by rw [e9]; rfl) ?_
    refine eg_k_aload rfl rfl ?_
    refine eg_k_aload rfl rfl ?_
    refine eg_k_gfr rfl rfl rfl eh_r38_1 ?_
    refine eg_k_iload rfl rfl ?_
    refine eg_k_ci rfl ?_
    obtain ⟨r21, h20, hx⟩ := vb_bind hx
    refine eg_k_call (c1 := 0) (z1 := 0) (as := [.inr (.inr (some 15)), .inl a, .inl 2]) (rest := [.inr (.inr (some 38))]) rfl eg_tj78 (Nat.le_of_ble_eq_true rfl) rfl rfl rfl (Nat.le_of_ble_eq_true rfl) (Nat.le_refl _) (Nat.le_refl _) ?_ (fun Q hQ => ft_78 h20 hQ)
    refine eg_k_l2i rfl ?_
    obtain ⟨m25, h23, hx⟩ := vb_bind hx
    refine eg_k_call (c1 := 0) (z1 := 0) (as := [.inr (.inr (some 38)), .inl (eg_wi r21)]) (rest := []) rfl eg_tj136 (Nat.le_of_ble_eq_true rfl) rfl rfl rfl (Nat.le_of_ble_eq_true rfl) (Nat.le_refl _) (Nat.le_refl _) ?_ (fun Q hQ => ft_136 h23 hQ)
    refine eg_k_goto rfl ?_
    have hx := Option.some.inj hx
    subst hx
    exact eg_k_ret rfl rfl (Nat.le_refl _) (Nat.le_refl _) hK
  have e3_ := e9
  refine vb_ite hx (fun e9 hx => ?_) (fun e9 hx => ?_)
  · refine eg_k_tsw (x := M 18 (a).toNat) (t := 39) rfl (by rw [e9]; rfl) ?_
    refine eg_k_aload rfl rfl ?_
    refine eg_k_aload rfl rfl ?_
    refine eg_k_gfr rfl rfl rfl eh_r38_1 ?_
    refine eg_k_iload rfl rfl ?_
    refine eg_k_ci rfl ?_
    obtain ⟨r27, h26, hx⟩ := vb_bind hx
    refine eg_k_call (c1 := 0) (z1 := 0) (as := [.inr (.inr (some 15)), .inl a, .inl 2]) (rest := [.inr (.inr (some 38))]) rfl eg_tj78 (Nat.le_of_ble_eq_true rfl) rfl rfl rfl (Nat.le_of_ble_eq_true rfl) (Nat.le_refl _) (Nat.le_refl _) ?_ (fun Q hQ => ft_78 h26 hQ)
    refine eg_k_l2i rfl ?_
    obtain ⟨m31, h29, hx⟩ := vb_bind hx
    refine eg_k_call (c1 := 0) (z1 := 0) (as := [.inr (.inr (some 38)), .inl (eg_wi r27)]) (rest := []) rfl eg_tj136 (Nat.le_of_ble_eq_true rfl) rfl rfl rfl (Nat.le_of_ble_eq_true rfl) (Nat.le_refl _) (Nat.le_refl _) ?_ (fun Q hQ => ft_136 h29 hQ)
    refine eg_k_aload rfl rfl ?_
    refine eg_k_iload rfl rfl ?_
    refine eg_k_ci rfl ?_
    refine eg_k_aload rfl rfl ?_
    refine eg_k_gfr rfl rfl rfl eh_r38_1 ?_
    refine eg_k_gfa rfl rfl rfl eh_r15_4 ?_
    refine eg_k_iload rfl rfl ?_
    refine eg_k_iald (k := mo) rfl rfl b1.1 b1.2 ?_
    refine eg_k_ci rfl ?_
    refine eg_k_isub rfl ?_
    obtain ⟨m35, h33, hx⟩ := vb_bind hx
    refine eg_k_call (c1 := 0) (z1 := 0) (as := [.inr (.inr (some 38)), .inl a, .inl 3, .inl (eg_wi ((m31 19 (a).toNat) - 3))]) (rest := []) rfl eg_tj141 (Nat.le_of_ble_eq_true rfl) rfl rfl rfl (Nat.le_of_ble_eq_true rfl) (Nat.le_refl _) (Nat.le_refl _) ?_ (fun Q hQ => ft_141 h33 hQ)
    refine eg_k_goto rfl ?_
    have hx := Option.some.inj hx
    subst hx
    exact eg_k_ret rfl rfl (Nat.le_refl _) (Nat.le_refl _) hK
  have e4_ := e9
  refine vb_ite hx (fun e9 hx => ?_) (fun e9 hx => ?_)
  · refine eg_k_tsw (x := M 18 (a).toNat) (t := 96) rfl (by rw [e9]; rfl) ?_
    have hx := Option.some.inj hx
    subst hx
    exact eg_k_ret rfl rfl (Nat.le_refl _) (Nat.le_refl _) hK
  have e5_ := e9
  refine vb_ite hx (fun e9 hx => ?_) (fun e9 hx => ?_)
  · refine eg_k_tsw (x := M 18 (a).toNat) (t := 71) rfl (by rw [e9]; rfl) ?_
    refine eg_k_aload rfl rfl ?_
    refine eg_k_aload rfl rfl ?_
    refine eg_k_gfr rfl rfl rfl eh_r38_1 ?_
    refine eg_k_iload rfl rfl ?_
    refine eg_k_ci rfl ?_
    obtain ⟨r37, h36, hx⟩ := vb_bind hx
    refine eg_k_call (c1 := 0) (z1 := 0) (as := [.inr (.inr (some 15)), .inl a, .inl 1]) (rest := [.inr (.inr (some 38))]) rfl eg_tj78 (Nat.le_of_ble_eq_true rfl) rfl rfl rfl (Nat.le_of_ble_eq_true rfl) (Nat.le_refl _) (Nat.le_refl _) ?_ (fun Q hQ => ft_78 h36 hQ)
    obtain ⟨r40, h39, hx⟩ := vb_bind hx
    refine eg_k_call (c1 := 0) (z1 := 0) (as := [.inr (.inr (some 38)), .inr (.inl r37)]) (rest := []) rfl eg_tj138 (Nat.le_of_ble_eq_true rfl) rfl rfl rfl (Nat.le_of_ble_eq_true rfl) (Nat.le_refl _) (Nat.le_refl _) ?_ (fun Q hQ => ft_138 h39 hQ)
    refine vk_if rfl hx Iff.rfl (fun c42 hx => ?_) (fun c42 hx => ?_)
    · refine eg_k_aload rfl rfl ?_
      refine eg_k_aload rfl rfl ?_
      refine eg_k_gfr rfl rfl rfl eh_r38_1 ?_
      refine eg_k_iload rfl rfl ?_
      refine eg_k_ci rfl ?_
      obtain ⟨r44, h43, hx⟩ := vb_bind hx
      refine eg_k_call (c1 := 0) (z1 := 0) (as := [.inr (.inr (some 15)), .inl a, .inl 1]) (rest := [.inr (.inr (some 38))]) rfl eg_tj78 (Nat.le_of_ble_eq_true rfl) rfl rfl rfl (Nat.le_of_ble_eq_true rfl) (Nat.le_refl _) (Nat.le_refl _) ?_ (fun Q hQ => ft_78 h43 hQ)
      refine eg_k_iload rfl rfl ?_
      obtain ⟨m48, h46, hx⟩ := vb_bind hx
      refine eg_k_call (c1 := 0) (z1 := 0) (as := [.inr (.inr (some 38)), .inr (.inl r44), .inl a]) (rest := []) rfl eg_tj139 (Nat.le_of_ble_eq_true rfl) rfl rfl rfl (Nat.le_of_ble_eq_true rfl) (Nat.le_refl _) (Nat.le_refl _) ?_ (fun Q hQ => ft_139 h46 hQ)
      refine eg_k_goto rfl ?_
      have hx := Option.some.inj hx
      subst hx
      exact eg_k_ret rfl rfl (Nat.le_refl _) (Nat.le_refl _) hK
    · refine eg_k_aload rfl rfl ?_
      refine eg_k_aload rfl rfl ?_
      refine eg_k_gfr rfl rfl rfl eh_r38_1 ?_
      refine eg_k_iload rfl rfl ?_
      refine eg_k_ci rfl ?_
      obtain ⟨r50, h49, hx⟩ := vb_bind hx
      refine eg_k_call (c1 := 0) (z1 := 0) (as := [.inr (.inr (some 15)), .inl a, .inl 2]) (rest := [.inr (.inr (some 38))]) rfl eg_tj78 (Nat.le_of_ble_eq_true rfl) rfl rfl rfl (Nat.le_of_ble_eq_true rfl) (Nat.le_refl _) (Nat.le_refl _) ?_ (fun Q hQ => ft_78 h49 hQ)
      obtain ⟨m54, h52, hx⟩ := vb_bind hx
      refine eg_k_call (c1 := 0) (z1 := 0) (as := [.inr (.inr (some 38)), .inr (.inl r50)]) (rest := []) rfl eg_tj137 (Nat.le_of_ble_eq_true rfl) rfl rfl rfl (Nat.le_of_ble_eq_true rfl) (Nat.le_refl _) (Nat.le_refl _) ?_ (fun Q hQ => ft_137 h52 hQ)
      refine eg_k_goto rfl ?_
      have hx := Option.some.inj hx
      subst hx
      exact eg_k_ret rfl rfl (Nat.le_refl _) (Nat.le_refl _) hK
  have e6_ := e9
  refine vb_ite hx (fun e9 hx => ?_) (fun e9 hx => ?_)
  · refine eg_k_tsw (x := M 18 (a).toNat) (t := 59) rfl (by rw [e9]; rfl) ?_
    refine eg_k_aload rfl rfl ?_
    refine eg_k_iload rfl rfl ?_
    obtain ⟨m57, h55, hx⟩ := vb_bind hx
    refine eg_k_call (c1 := 0) (z1 := 0) (as := [.inr (.inr (some 38)), .inl a]) (rest := []) rfl eg_tj142 (Nat.le_of_ble_eq_true rfl) rfl rfl rfl (Nat.le_of_ble_eq_true rfl) (Nat.le_refl _) (Nat.le_refl _) ?_ (fun Q hQ => ft_142 h55 hQ)
    refine eg_k_goto rfl ?_
    have hx := Option.some.inj hx
    subst hx
    exact eg_k_ret rfl rfl (Nat.le_refl _) (Nat.le_refl _) hK
  have e7_ := e9
  refine vb_ite hx (fun e9 hx => ?_) (fun e9 hx => ?_)
  · refine eg_k_tsw (x := M 18 (a).toNat) (t := 63) rfl (by rw [e9]; rfl) ?_
    refine eg_k_aload rfl rfl ?_
    refine eg_k_aload rfl rfl ?_
    refine eg_k_gfr rfl rfl rfl eh_r38_1 ?_
    refine eg_k_iload rfl rfl ?_
    refine eg_k_ci rfl ?_
    obtain ⟨r59, h58, hx⟩ := vb_bind hx
    refine eg_k_call (c1 := 0) (z1 := 0) (as := [.inr (.inr (some 15)), .inl a, .inl 2]) (rest := [.inr (.inr (some 38))]) rfl eg_tj78 (Nat.le_of_ble_eq_true rfl) rfl rfl rfl (Nat.le_of_ble_eq_true rfl) (Nat.le_refl _) (Nat.le_refl _) ?_ (fun Q hQ => ft_78 h58 hQ)
    obtain ⟨m63, h61, hx⟩ := vb_bind hx
    refine eg_k_call (c1 := 0) (z1 := 0) (as := [.inr (.inr (some 38)), .inr (.inl r59)]) (rest := []) rfl eg_tj137 (Nat.le_of_ble_eq_true rfl) rfl rfl rfl (Nat.le_of_ble_eq_true rfl) (Nat.le_refl _) (Nat.le_refl _) ?_ (fun Q hQ => ft_137 h61 hQ)
    refine eg_k_goto rfl ?_
    have hx := Option.some.inj hx
    subst hx
    exact eg_k_ret rfl rfl (Nat.le_refl _) (Nat.le_refl _) hK
  have e8_ := e9
  refine eg_k_tsw (x := M 18 (a).toNat) (t := 96) rfl (by unfold eg_tb; rw [if_pos (by omega)]; rfl) ?_
  have hx := Option.some.inj hx
  subst hx
  exact eg_k_ret rfl rfl (Nat.le_refl _) (Nat.le_refl _) hK
theorem fw_140 {cn : Nat} {mo : Nat} {M : eM} {c : Nat} {a : Int} {x : eM} (hx : fn_140 cn mo a M = some x) (hc : c ∉ ([38, 39, 40, 41, 42] : List Nat)) (j : Nat) : x c j = M c j := by
  obtain ⟨v, hK⟩ : ∃ v, x c j = v := ⟨_, rfl⟩
  rw [hK]
  refine Eq.symm ?_
  obtain ⟨_, hx⟩ := vb_if hx
  refine vb_ite hx (fun _ hx => ?_) (fun _ hx => ?_)
  · obtain ⟨r3, h2, hx⟩ := vb_bind hx
    obtain ⟨m7, h5, hx⟩ := vb_bind hx
    obtain ⟨r9, h8, hx⟩ := vb_bind hx
    obtain ⟨m13, h11, hx⟩ := vb_bind hx
    have hx := Option.some.inj hx
    subst hx
    exact ((fw_137 h11 (vsub hc (by decide)) j).trans ((fw_137 h5 (vsub hc (by decide)) j).trans rfl)).symm.trans hK
  refine vb_ite hx (fun _ hx => ?_) (fun _ hx => ?_)
  · obtain ⟨r15, h14, hx⟩ := vb_bind hx
    obtain ⟨m19, h17, hx⟩ := vb_bind hx
    have hx := Option.some.inj hx
    subst hx
    exact ((fw_141 h17 (vsub hc (by decide)) j).trans rfl).symm.trans hK
  refine vb_ite hx (fun _ hx => ?_) (fun _ hx => ?_)
  · obtain ⟨r21, h20, hx⟩ := vb_bind hx
    obtain ⟨m25, h23, hx⟩ := vb_bind hx
    have hx := Option.some.inj hx
    subst hx
    exact ((fw_136 h23 (vsub hc (by decide)) j).trans rfl).symm.trans hK
  refine vb_ite hx (fun _ hx => ?_) (fun _ hx => ?_)
  · obtain ⟨r27, h26, hx⟩ := vb_bind hx
    obtain ⟨m31, h29, hx⟩ := vb_bind hx
    obtain ⟨m35, h33, hx⟩ := vb_bind hx
    have hx := Option.some.inj hx
    subst hx
    exact ((fw_141 h33 (vsub hc (by decide)) j).trans ((fw_136 h29 (vsub hc (by decide)) j).trans rfl)).symm.trans hK
  refine vb_ite hx (fun _ hx => ?_) (fun _ hx => ?_)
  · have hx := Option.some.inj hx
    subst hx
    exact (Eq.refl _).symm.trans hK
  refine vb_ite hx (fun _ hx => ?_) (fun _ hx => ?_)
  · obtain ⟨r37, h36, hx⟩ := vb_bind hx
    obtain ⟨r40, h39, hx⟩ := vb_bind hx
    refine vb_ite hx (fun _ hx => ?_) (fun _ hx => ?_)
    · obtain ⟨r44, h43, hx⟩ := vb_bind hx
      obtain ⟨m48, h46, hx⟩ := vb_bind hx
      have hx := Option.some.inj hx
      subst hx
      exact ((fw_139 h46 (vsub hc (by decide)) j).trans rfl).symm.trans hK
    · obtain ⟨r50, h49, hx⟩ := vb_bind hx
      obtain ⟨m54, h52, hx⟩ := vb_bind hx
      have hx := Option.some.inj hx
      subst hx
      exact ((fw_137 h52 (vsub hc (by decide)) j).trans rfl).symm.trans hK
  refine vb_ite hx (fun _ hx => ?_) (fun _ hx => ?_)
  · obtain ⟨m57, h55, hx⟩ := vb_bind hx
    have hx := Option.some.inj hx
    subst hx
    exact ((fw_142 h55 (vsub hc (by decide)) j).trans rfl).symm.trans hK
  refine vb_ite hx (fun _ hx => ?_) (fun _ hx => ?_)
  · obtain ⟨r59, h58, hx⟩ := vb_bind hx
    obtain ⟨m63, h61, hx⟩ := vb_bind hx
    have hx := Option.some.inj hx
    subst hx
    exact ((fw_137 h61 (vsub hc (by decide)) j).trans rfl).symm.trans hK
  have hx := Option.some.inj hx
  subst hx
  exact (Eq.refl _).symm.trans hK
noncomputable def fn_143_5 (cn : Nat) (mo : Nat) (x1 : Int) (s1 : Int) (s2 : eM) : Option ((Int × eM) ⊕ (eM)) :=
  if s1 = 0 then
    some (.inr s2)
  else
    if s1 < (s2 38 11) then
      if 0 ≤ s1 ∧ s1 < (mo : Int) then
      if ¬ (s2 18 (s1).toNat) = 8 then
          (fn_78 cn mo s1 2 s2).bind fun r7 =>
          (fn_137 mo r7 s2).bind fun m11 =>
          if 0 ≤ s1 ∧ s1 < ((mo + 500 : Nat) : Int) then
          some (.inl (m11 42 (s1).toNat, m11))
          else none
        else
          (fn_136 mo s1 s2).bind fun m15 =>
          if 0 ≤ s1 ∧ s1 < ((mo + 500 : Nat) : Int) then
          some (.inl (m15 42 (s1).toNat, m15))
          else none
      else none
    else
      if 0 ≤ (eg_wi (s1 - (s2 38 11))) ∧ (eg_wi (s1 - (s2 38 11))) < 500 then
      (fn_137 mo (s2 23 (eg_wi (s1 - (s2 38 11))).toNat) s2).bind fun m20 =>
        if 0 ≤ s1 ∧ s1 < ((mo + 500 : Nat) : Int) then
        some (.inl (m20 42 (s1).toNat, m20))
        else none
      else none
/-- 143: WeakScheme$Collector.wake(I)V -/
noncomputable def fn_143 (cn : Nat) (mo : Nat) (a : Int) (M : eM) : Option (eM) :=
  if 0 ≤ a ∧ a < (mo : Int) then
  lp (fun z => fn_143_5 cn mo a z.1 z.2) (M 41 (a).toNat, M)
  else none
set_option maxRecDepth 100000 in
theorem ft_143_5 {cn mo : Nat} {sc : eg_Sc} {d : Nat} {Q : Option eg_V → eg_H → Prop} {x1 : Int} {s : Int × eM} {x : eM} (hx : lp (fun z => fn_143_5 cn mo x1 z.1 z.2) s = some x) (hK : (fun (x : eM) => Q (none) (em_L cn mo, eh_R, x)) x) : eg_X sc (eg_wp sc (d + 2)) eg_p143 none 0 0 Q 5 [some (.inr (.inr (some 38))), some (.inl x1), some (.inl s.1)] [] (em_L cn mo, eh_R, s.2) 0 0 := by
  refine lp_sound (P := (fun (s : Int × eM) => eg_X sc (eg_wp sc (d + 2)) eg_p143 none 0 0 Q 5 [some (.inr (.inr (some 38))), some (.inl x1), some (.inl s.1)] [] (em_L cn mo, eh_R, s.2) 0 0)) (K := (fun (x : eM) => Q (none) (em_L cn mo, eh_R, x))) hx hK ?_
  intro s x hx hK
  obtain ⟨s1, s2⟩ := s
  refine eg_k_iload rfl rfl ?_
  refine vk_if rfl hx Iff.rfl (fun c2 hx => ?_) (fun c2 hx => ?_)
  · have hx := Option.some.inj hx
    subst hx
    exact eg_k_ret rfl rfl (Nat.le_refl _) (Nat.le_refl _) hK
  · refine eg_k_iload rfl rfl ?_
    refine eg_k_aload rfl rfl ?_
    refine eg_k_gfi rfl rfl rfl ?_
    refine vk_icmp rfl hx Iff.rfl (fun c3 hx => ?_) (fun c3 hx => ?_)
    · refine eg_k_aload rfl rfl ?_
      refine eg_k_gfr rfl rfl rfl eh_r38_1 ?_
      refine eg_k_gfa rfl rfl rfl eh_r15_3 ?_
      refine eg_k_iload rfl rfl ?_
      obtain ⟨b4, hx⟩ := vb_if hx
      refine eg_k_iald (k := mo) rfl rfl b4.1 b4.2 ?_
      refine eg_k_ci rfl ?_
      refine vk_icmp rfl hx Iff.rfl (fun c5 hx => ?_) (fun c5 hx => ?_)
      · refine eg_k_aload rfl rfl ?_
        refine eg_k_aload rfl rfl ?_
        refine eg_k_gfr rfl rfl rfl eh_r38_1 ?_
        refine eg_k_iload rfl rfl ?_
        refine eg_k_ci rfl ?_
        obtain ⟨r7, h6, hx⟩ := vb_bind hx
        refine eg_k_call (c1 := 0) (z1 := 0) (as := [.inr (.inr (some 15)), .inl s1, .inl 2]) (rest := [.inr (.inr (some 38))]) rfl eg_tj78 (Nat.le_of_ble_eq_true rfl) rfl rfl rfl (Nat.le_of_ble_eq_true rfl) (Nat.le_refl _) (Nat.le_refl _) ?_ (fun Q hQ => ft_78 h6 hQ)
        obtain ⟨m11, h9, hx⟩ := vb_bind hx
        refine eg_k_call (c1 := 0) (z1 := 0) (as := [.inr (.inr (some 38)), .inr (.inl r7)]) (rest := []) rfl eg_tj137 (Nat.le_of_ble_eq_true rfl) rfl rfl rfl (Nat.le_of_ble_eq_true rfl) (Nat.le_refl _) (Nat.le_refl _) ?_ (fun Q hQ => ft_137 h9 hQ)
        refine eg_k_aload rfl rfl ?_
        refine eg_k_gfa rfl rfl rfl eh_r38_10 ?_
        refine eg_k_iload rfl rfl ?_
        obtain ⟨b12, hx⟩ := vb_if hx
        refine eg_k_iald (k := (mo + 500)) rfl rfl b12.1 b12.2 ?_
        refine eg_k_istore (lv' := [some (.inr (.inr (some 38))), some (.inl x1), some (.inl (m11 42 (s1).toNat))]) rfl rfl ?_
        refine eg_k_goto rfl ?_
        have hx := Option.some.inj hx
        subst hx
        exact hK
      · refine eg_k_aload rfl rfl ?_
        refine eg_k_iload rfl rfl ?_
        obtain ⟨m15, h13, hx⟩ := vb_bind hx
        refine eg_k_call (c1 := 0) (z1 := 0) (as := [.inr (.inr (some 38)), .inl s1]) (rest := []) rfl eg_tj136 (Nat.le_of_ble_eq_true rfl) rfl rfl rfl (Nat.le_of_ble_eq_true rfl) (Nat.le_refl _) (Nat.le_refl _) ?_ (fun Q hQ => ft_136 h13 hQ)
        refine eg_k_goto rfl ?_
        refine eg_k_aload rfl rfl ?_
        refine eg_k_gfa rfl rfl rfl eh_r38_10 ?_
        refine eg_k_iload rfl rfl ?_
        obtain ⟨b16, hx⟩ := vb_if hx
        refine eg_k_iald (k := (mo + 500)) rfl rfl b16.1 b16.2 ?_
        refine eg_k_istore (lv' := [some (.inr (.inr (some 38))), some (.inl x1), some (.inl (m15 42 (s1).toNat))]) rfl rfl ?_
        refine eg_k_goto rfl ?_
        have hx := Option.some.inj hx
        subst hx
        exact hK
    · refine eg_k_aload rfl rfl ?_
      refine eg_k_aload rfl rfl ?_
      refine eg_k_gfr rfl rfl rfl eh_r38_2 ?_
      refine eg_k_gfa rfl rfl rfl eh_r21_1 ?_
      refine eg_k_iload rfl rfl ?_
      refine eg_k_aload rfl rfl ?_
      refine eg_k_gfi rfl rfl rfl ?_
      refine eg_k_isub rfl ?_
      obtain ⟨b17, hx⟩ := vb_if hx
      refine eg_k_lald (k := 500) rfl rfl b17.1 b17.2 ?_
      obtain ⟨m20, h18, hx⟩ := vb_bind hx
      refine eg_k_call (c1 := 0) (z1 := 0) (as := [.inr (.inr (some 38)), .inr (.inl (s2 23 (eg_wi (s1 - (s2 38 11))).toNat))]) (rest := []) rfl eg_tj137 (Nat.le_of_ble_eq_true rfl) rfl rfl rfl (Nat.le_of_ble_eq_true rfl) (Nat.le_refl _) (Nat.le_refl _) ?_ (fun Q hQ => ft_137 h18 hQ)
      refine eg_k_goto rfl ?_
      refine eg_k_aload rfl rfl ?_
      refine eg_k_gfa rfl rfl rfl eh_r38_10 ?_
      refine eg_k_iload rfl rfl ?_
      obtain ⟨b21, hx⟩ := vb_if hx
      refine eg_k_iald (k := (mo + 500)) rfl rfl b21.1 b21.2 ?_
      refine eg_k_istore (lv' := [some (.inr (.inr (some 38))), some (.inl x1), some (.inl (m20 42 (s1).toNat))]) rfl rfl ?_
      refine eg_k_goto rfl ?_
      have hx := Option.some.inj hx
      subst hx
      exact hK
set_option maxRecDepth 100000 in
theorem ft_143 {cn mo : Nat} {sc : eg_Sc} {d : Nat} {M : eM} {Q : Option eg_V → eg_H → Prop} {a : Int} {x : eM} (hx : fn_143 cn mo a M = some x) (hK : Q (none) (em_L cn mo, eh_R, x)) : eg_wp sc (d + 3) 143 [.inr (.inr (some 38)), .inl a] (em_L cn mo, eh_R, M) 0 0 Q := by
  refine eg_in (lv := [some (.inr (.inr (some 38))), some (.inl a), none]) eg_tj143 (Nat.le_of_ble_eq_true rfl) rfl ?_
  refine eg_k_aload rfl rfl ?_
  refine eg_k_gfa rfl rfl rfl eh_r38_9 ?_
  refine eg_k_iload rfl rfl ?_
  obtain ⟨b1, hx⟩ := vb_if hx
  refine eg_k_iald (k := mo) rfl rfl b1.1 b1.2 ?_
  refine eg_k_istore (lv' := [some (.inr (.inr (some 38))), some (.inl a), some (.inl (M 41 (a).toNat))]) rfl rfl ?_
  have hz := ft_143_5 (d := d) (sc := sc) hx hK
  exact hz
theorem fw_143_5 {cn : Nat} {mo : Nat} {c j : Nat} {v : Int} {x1 : Int} {s : Int × eM} {x : eM} (hc : c ∉ ([38, 39, 40] : List Nat)) (hx : lp (fun z => fn_143_5 cn mo x1 z.1 z.2) s = some x) (hK : (fun (x : eM) => x c j = v) x) : s.2 c j = v := by
  refine lp_sound (P := (fun (s : Int × eM) => s.2 c j = v)) (K := (fun (x : eM) => x c j = v)) hx hK ?_
  intro s x hx hK
  obtain ⟨s1, s2⟩ := s
  refine vb_ite hx (fun _ hx => ?_) (fun _ hx => ?_)
  · have hx := Option.some.inj hx
    subst hx
    exact (Eq.refl _).symm.trans hK
  · refine vb_ite hx (fun _ hx => ?_) (fun _ hx => ?_)
    · obtain ⟨_, hx⟩ := vb_if hx
      refine vb_ite hx (fun _ hx => ?_) (fun _ hx => ?_)
      · obtain ⟨r7, h6, hx⟩ := vb_bind hx
        obtain ⟨m11, h9, hx⟩ := vb_bind hx
        obtain ⟨_, hx⟩ := vb_if hx
        have hx := Option.some.inj hx
        subst hx
        exact ((fw_137 h9 (vsub hc (by decide)) j).trans rfl).symm.trans hK
      · obtain ⟨m15, h13, hx⟩ := vb_bind hx
        obtain ⟨_, hx⟩ := vb_if hx
        have hx := Option.some.inj hx
        subst hx
        exact ((fw_136 h13 (vsub hc (by decide)) j).trans rfl).symm.trans hK
    · obtain ⟨_, hx⟩ := vb_if hx
      obtain ⟨m20, h18, hx⟩ := vb_bind hx
      obtain ⟨_, hx⟩ := vb_if hx
      have hx := Option.some.inj hx
      subst hx
      exact ((fw_137 h18 (vsub hc (by decide)) j).trans rfl).symm.trans hK
theorem fw_143 {cn : Nat} {mo : Nat} {M : eM} {c : Nat} {a : Int} {x : eM} (hx : fn_143 cn mo a M = some x) (hc : c ∉ ([38, 39, 40] : List Nat)) (j : Nat) : x c j = M c j := by
  obtain ⟨v, hK⟩ : ∃ v, x c j = v := ⟨_, rfl⟩
  rw [hK]
  refine Eq.symm ?_
  obtain ⟨_, hx⟩ := vb_if hx
  have hz := fw_143_5 hc hx hK
  exact (Eq.refl _).symm.trans hz
noncomputable def fn_133_87 (cn : Nat) (mo : Nat) (s1 : Int) (s2 : eM) : Option ((Int × eM) ⊕ (eM)) :=
  if (s2 38 8) ≤ s1 then
    some (.inr s2)
  else
    if (mo : Int) ≤ s1 then
      some (.inr s2)
    else
      if 0 ≤ s1 ∧ s1 < (mo : Int) then
      (fn_140 cn mo (s2 40 (s1).toNat) s2).bind fun m14 =>
        (fn_143 cn mo (m14 40 (s1).toNat) m14).bind fun m18 =>
        some (.inl (eg_wi (s1 + 1), m18))
      else none
noncomputable def fn_133_51 (cn : Nat) (mo : Nat) (s1 : Int) (s2 : eM) : Option ((Int × eM) ⊕ (eM)) :=
  if (s2 21 2) ≤ s1 then
    (lp (fun z => fn_133_87 cn mo z.1 z.2) (0, s2)).map Sum.inr
  else
    if 0 ≤ s1 ∧ s1 < 500 then
    (fn_138 mo (s2 22 (s1).toNat) s2).bind fun r21 =>
      if r21 = 0 then
        (fn_139 mo (s2 22 (s1).toNat) (eg_wi ((s2 38 11) + s1)) s2).bind fun m27 =>
        some (.inl (eg_wi (s1 + 1), m27))
      else
        (fn_137 mo (s2 23 (s1).toNat) s2).bind fun m31 =>
        some (.inl (eg_wi (s1 + 1), m31))
    else none
noncomputable def fn_133_30 (cn : Nat) (mo : Nat) (s1 : Int) (s2 : eM) : Option ((Int × eM) ⊕ (eM)) :=
  if (s2 21 6) ≤ s1 then
    (lp (fun z => fn_133_51 cn mo z.1 z.2) (0, s2)).map Sum.inr
  else
    (fn_128 s1 s2).bind fun r33 =>
    (fn_137 mo r33 s2).bind fun m37 =>
    (fn_127 s1 m37).bind fun r39 =>
    (fn_137 mo r39 m37).bind fun m43 =>
    some (.inl (eg_wi (s1 + 1), m43))
noncomputable def fn_133_15 (cn : Nat) (mo : Nat) (s1 : Int) (s2 : eM) : Option ((Int × eM) ⊕ (eM)) :=
  if (s2 1 2) ≤ s1 then
    (lp (fun z => fn_133_30 cn mo z.1 z.2) (0, s2)).map Sum.inr
  else
    if 0 ≤ s1 ∧ s1 < 444 then
    (fn_137 mo (s2 37 (s1).toNat) s2).bind fun m47 =>
      some (.inl (eg_wi (s1 + 1), m47))
    else none
/-- 133: WeakScheme$Collector.findLive()V -/
noncomputable def fn_133 (cn : Nat) (mo : Nat) (M : eM) : Option (eM) :=
  if mo < 2147483647 then
  (fn_135 mo (eg_u (eg_fil (eg_fil M 39 0 mo (eg_wb 0)) 41 0 mo 0) 38 8 0)).bind fun m5 =>
    lp (fun z => fn_133_15 cn mo z.1 z.2) (0, m5)
  else none
set_option maxRecDepth 100000 in
theorem ft_133_87 {cn mo : Nat} {sc : eg_Sc} {d : Nat} {Q : Option eg_V → eg_H → Prop} {s : Int × eM} {x : eM} (hx : lp (fun z => fn_133_87 cn mo z.1 z.2) s = some x) (hK : (fun (x : eM) => Q (none) (em_L cn mo, eh_R, x)) x) : eg_X sc (eg_wp sc (d + 4)) eg_p133 none 0 0 Q 87 [some (.inr (.inr (some 38))), some (.inl s.1)] [] (em_L cn mo, eh_R, s.2) 0 0 := by
  refine lp_sound (P := (fun (s : Int × eM) => eg_X sc (eg_wp sc (d + 4)) eg_p133 none 0 0 Q 87 [some (.inr (.inr (some 38))), some (.inl s.1)] [] (em_L cn mo, eh_R, s.2) 0 0)) (K := (fun (x : eM) => Q (none) (em_L cn mo, eh_R, x))) hx hK ?_
  intro s x hx hK
  obtain ⟨s1, s2⟩ := s
  refine eg_k_iload rfl rfl ?_
  refine eg_k_aload rfl rfl ?_
  refine eg_k_gfi rfl rfl rfl ?_
  refine vk_icmp rfl hx Iff.rfl (fun c9 hx => ?_) (fun c9 hx => ?_)
  · have hx := Option.some.inj hx
    subst hx
    exact eg_k_ret rfl rfl (Nat.le_refl _) (Nat.le_refl _) hK
  · refine eg_k_iload rfl rfl ?_
    refine eg_k_aload rfl rfl ?_
    refine eg_k_gfa rfl rfl rfl eh_r38_7 ?_
    refine eg_k_alen (k := mo) rfl rfl ?_
    refine vk_icmp rfl hx Iff.rfl (fun c10 hx => ?_) (fun c10 hx => ?_)
    · have hx := Option.some.inj hx
      subst hx
      exact eg_k_ret rfl rfl (Nat.le_refl _) (Nat.le_refl _) hK
    · refine eg_k_aload rfl rfl ?_
      refine eg_k_aload rfl rfl ?_
      refine eg_k_gfa rfl rfl rfl eh_r38_7 ?_
      refine eg_k_iload rfl rfl ?_
      obtain ⟨b11, hx⟩ := vb_if hx
      refine eg_k_iald (k := mo) rfl rfl b11.1 b11.2 ?_
      obtain ⟨m14, h12, hx⟩ := vb_bind hx
      refine eg_k_call (c1 := 0) (z1 := 0) (as := [.inr (.inr (some 38)), .inl (s2 40 (s1).toNat)]) (rest := []) rfl eg_tj140 (Nat.le_of_ble_eq_true rfl) rfl rfl rfl (Nat.le_of_ble_eq_true rfl) (Nat.le_refl _) (Nat.le_refl _) ?_ (fun Q hQ => ft_140 h12 hQ)
      refine eg_k_aload rfl rfl ?_
      refine eg_k_aload rfl rfl ?_
      refine eg_k_gfa rfl rfl rfl eh_r38_7 ?_
      refine eg_k_iload rfl rfl ?_
      refine eg_k_iald (k := mo) rfl rfl b11.1 b11.2 ?_
      obtain ⟨m18, h16, hx⟩ := vb_bind hx
      refine eg_k_call (c1 := 0) (z1 := 0) (as := [.inr (.inr (some 38)), .inl (m14 40 (s1).toNat)]) (rest := []) rfl eg_tj143 (Nat.le_of_ble_eq_true rfl) rfl rfl rfl (Nat.le_of_ble_eq_true rfl) (Nat.le_refl _) (Nat.le_refl _) ?_ (fun Q hQ => ft_143 h16 hQ)
      refine eg_k_iinc (lv' := [some (.inr (.inr (some 38))), some (.inl (eg_wi (s1 + 1)))]) rfl rfl rfl ?_
      refine eg_k_goto rfl ?_
      have hx := Option.some.inj hx
      subst hx
      exact hK
set_option maxRecDepth 100000 in
theorem ft_133_51 {cn mo : Nat} {sc : eg_Sc} {d : Nat} {Q : Option eg_V → eg_H → Prop} {s : Int × eM} {x : eM} (hx : lp (fun z => fn_133_51 cn mo z.1 z.2) s = some x) (hK : (fun (x : eM) => Q (none) (em_L cn mo, eh_R, x)) x) : eg_X sc (eg_wp sc (d + 4)) eg_p133 none 0 0 Q 51 [some (.inr (.inr (some 38))), some (.inl s.1)] [] (em_L cn mo, eh_R, s.2) 0 0 := by
  refine lp_sound (P := (fun (s : Int × eM) => eg_X sc (eg_wp sc (d + 4)) eg_p133 none 0 0 Q 51 [some (.inr (.inr (some 38))), some (.inl s.1)] [] (em_L cn mo, eh_R, s.2) 0 0)) (K := (fun (x : eM) => Q (none) (em_L cn mo, eh_R, x))) hx hK ?_
  intro s x hx hK
  obtain ⟨s1, s2⟩ := s
  refine eg_k_iload rfl rfl ?_
  refine eg_k_aload rfl rfl ?_
  refine eg_k_gfr rfl rfl rfl eh_r38_2 ?_
  refine eg_k_gfi rfl rfl rfl ?_
  refine vk_icmp rfl hx Iff.rfl (fun c8 hx => ?_) (fun c8 hx => ?_)
  · refine eg_k_ci rfl ?_
    refine eg_k_istore (lv' := [some (.inr (.inr (some 38))), some (.inl 0)]) rfl rfl ?_
    obtain ⟨x, hy, e9⟩ := vb_map hx
    clear hx
    subst e9
    have hx := hy
    clear hy
    have hz := ft_133_87 (d := d) (sc := sc) hx hK
    exact hz
  · refine eg_k_aload rfl rfl ?_
    refine eg_k_aload rfl rfl ?_
    refine eg_k_gfr rfl rfl rfl eh_r38_2 ?_
    refine eg_k_gfa rfl rfl rfl eh_r21_0 ?_
    refine eg_k_iload rfl rfl ?_
    obtain ⟨b19, hx⟩ := vb_if hx
    refine eg_k_lald (k := 500) rfl rfl b19.1 b19.2 ?_
    obtain ⟨r21, h20, hx⟩ := vb_bind hx
    refine eg_k_call (c1 := 0) (z1 := 0) (as := [.inr (.inr (some 38)), .inr (.inl (s2 22 (s1).toNat))]) (rest := []) rfl eg_tj138 (Nat.le_of_ble_eq_true rfl) rfl rfl rfl (Nat.le_of_ble_eq_true rfl) (Nat.le_refl _) (Nat.le_refl _) ?_ (fun Q hQ => ft_138 h20 hQ)
    refine vk_if rfl hx Iff.rfl (fun c23 hx => ?_) (fun c23 hx => ?_)
    · refine eg_k_aload rfl rfl ?_
      refine eg_k_aload rfl rfl ?_
      refine eg_k_gfr rfl rfl rfl eh_r38_2 ?_
      refine eg_k_gfa rfl rfl rfl eh_r21_0 ?_
      refine eg_k_iload rfl rfl ?_
      refine eg_k_lald (k := 500) rfl rfl b19.1 b19.2 ?_
      refine eg_k_aload rfl rfl ?_
      refine eg_k_gfi rfl rfl rfl ?_
      refine eg_k_iload rfl rfl ?_
      refine eg_k_iadd rfl ?_
      obtain ⟨m27, h25, hx⟩ := vb_bind hx
      refine eg_k_call (c1 := 0) (z1 := 0) (as := [.inr (.inr (some 38)), .inr (.inl (s2 22 (s1).toNat)), .inl (eg_wi ((s2 38 11) + s1))]) (rest := []) rfl eg_tj139 (Nat.le_of_ble_eq_true rfl) rfl rfl rfl (Nat.le_of_ble_eq_true rfl) (Nat.le_refl _) (Nat.le_refl _) ?_ (fun Q hQ => ft_139 h25 hQ)
      refine eg_k_iinc (lv' := [some (.inr (.inr (some 38))), some (.inl (eg_wi (s1 + 1)))]) rfl rfl rfl ?_
      refine eg_k_goto rfl ?_
      have hx := Option.some.inj hx
      subst hx
      exact hK
    · refine eg_k_aload rfl rfl ?_
      refine eg_k_aload rfl rfl ?_
      refine eg_k_gfr rfl rfl rfl eh_r38_2 ?_
      refine eg_k_gfa rfl rfl rfl eh_r21_1 ?_
      refine eg_k_iload rfl rfl ?_
      refine eg_k_lald (k := 500) rfl rfl b19.1 b19.2 ?_
      obtain ⟨m31, h29, hx⟩ := vb_bind hx
      refine eg_k_call (c1 := 0) (z1 := 0) (as := [.inr (.inr (some 38)), .inr (.inl (s2 23 (s1).toNat))]) (rest := []) rfl eg_tj137 (Nat.le_of_ble_eq_true rfl) rfl rfl rfl (Nat.le_of_ble_eq_true rfl) (Nat.le_refl _) (Nat.le_refl _) ?_ (fun Q hQ => ft_137 h29 hQ)
      refine eg_k_goto rfl ?_
      refine eg_k_iinc (lv' := [some (.inr (.inr (some 38))), some (.inl (eg_wi (s1 + 1)))]) rfl rfl rfl ?_
      refine eg_k_goto rfl ?_
      have hx := Option.some.inj hx
      subst hx
      exact hK
set_option maxRecDepth 100000 in
theorem ft_133_30 {cn mo : Nat} {sc : eg_Sc} {d : Nat} {Q : Option eg_V → eg_H → Prop} {s : Int × eM} {x : eM} (hx : lp (fun z => fn_133_30 cn mo z.1 z.2) s = some x) (hK : (fun (x : eM) => Q (none) (em_L cn mo, eh_R, x)) x) : eg_X sc (eg_wp sc (d + 4)) eg_p133 none 0 0 Q 30 [some (.inr (.inr (some 38))), some (.inl s.1)] [] (em_L cn mo, eh_R, s.2) 0 0 := by
  refine lp_sound (P := (fun (s : Int × eM) => eg_X sc (eg_wp sc (d + 4)) eg_p133 none 0 0 Q 30 [some (.inr (.inr (some 38))), some (.inl s.1)] [] (em_L cn mo, eh_R, s.2) 0 0)) (K := (fun (x : eM) => Q (none) (em_L cn mo, eh_R, x))) hx hK ?_
  intro s x hx hK
  obtain ⟨s1, s2⟩ := s
  refine eg_k_iload rfl rfl ?_
  refine eg_k_aload rfl rfl ?_
  refine eg_k_gfr rfl rfl rfl eh_r38_2 ?_
  refine eg_k_gfi rfl rfl rfl ?_
  refine vk_icmp rfl hx Iff.rfl (fun c7 hx => ?_) (fun c7 hx => ?_)
  · refine eg_k_ci rfl ?_
    refine eg_k_istore (lv' := [some (.inr (.inr (some 38))), some (.inl 0)]) rfl rfl ?_
    obtain ⟨x, hy, e9⟩ := vb_map hx
    clear hx
    subst e9
    have hx := hy
    clear hy
    have hz := ft_133_51 (d := d) (sc := sc) hx hK
    exact hz
  · refine eg_k_aload rfl rfl ?_
    refine eg_k_aload rfl rfl ?_
    refine eg_k_gfr rfl rfl rfl eh_r38_2 ?_
    refine eg_k_iload rfl rfl ?_
    obtain ⟨r33, h32, hx⟩ := vb_bind hx
    refine eg_k_call (c1 := 0) (z1 := 0) (as := [.inr (.inr (some 21)), .inl s1]) (rest := [.inr (.inr (some 38))]) rfl eg_tj128 (Nat.le_of_ble_eq_true rfl) rfl rfl rfl (Nat.le_of_ble_eq_true rfl) (Nat.le_refl _) (Nat.le_refl _) ?_ (fun Q hQ => ft_128 h32 hQ)
    obtain ⟨m37, h35, hx⟩ := vb_bind hx
    refine eg_k_call (c1 := 0) (z1 := 0) (as := [.inr (.inr (some 38)), .inr (.inl r33)]) (rest := []) rfl eg_tj137 (Nat.le_of_ble_eq_true rfl) rfl rfl rfl (Nat.le_of_ble_eq_true rfl) (Nat.le_refl _) (Nat.le_refl _) ?_ (fun Q hQ => ft_137 h35 hQ)
    refine eg_k_aload rfl rfl ?_
    refine eg_k_aload rfl rfl ?_
    refine eg_k_gfr rfl rfl rfl eh_r38_2 ?_
    refine eg_k_iload rfl rfl ?_
    obtain ⟨r39, h38, hx⟩ := vb_bind hx
    refine eg_k_call (c1 := 0) (z1 := 0) (as := [.inr (.inr (some 21)), .inl s1]) (rest := [.inr (.inr (some 38))]) rfl eg_tj127 (Nat.le_of_ble_eq_true rfl) rfl rfl rfl (Nat.le_of_ble_eq_true rfl) (Nat.le_refl _) (Nat.le_refl _) ?_ (fun Q hQ => ft_127 h38 hQ)
    obtain ⟨m43, h41, hx⟩ := vb_bind hx
    refine eg_k_call (c1 := 0) (z1 := 0) (as := [.inr (.inr (some 38)), .inr (.inl r39)]) (rest := []) rfl eg_tj137 (Nat.le_of_ble_eq_true rfl) rfl rfl rfl (Nat.le_of_ble_eq_true rfl) (Nat.le_refl _) (Nat.le_refl _) ?_ (fun Q hQ => ft_137 h41 hQ)
    refine eg_k_iinc (lv' := [some (.inr (.inr (some 38))), some (.inl (eg_wi (s1 + 1)))]) rfl rfl rfl ?_
    refine eg_k_goto rfl ?_
    have hx := Option.some.inj hx
    subst hx
    exact hK
set_option maxRecDepth 100000 in
theorem ft_133_15 {cn mo : Nat} {sc : eg_Sc} {d : Nat} {Q : Option eg_V → eg_H → Prop} {s : Int × eM} {x : eM} (hx : lp (fun z => fn_133_15 cn mo z.1 z.2) s = some x) (hK : (fun (x : eM) => Q (none) (em_L cn mo, eh_R, x)) x) : eg_X sc (eg_wp sc (d + 4)) eg_p133 none 0 0 Q 15 [some (.inr (.inr (some 38))), some (.inl s.1)] [] (em_L cn mo, eh_R, s.2) 0 0 := by
  refine lp_sound (P := (fun (s : Int × eM) => eg_X sc (eg_wp sc (d + 4)) eg_p133 none 0 0 Q 15 [some (.inr (.inr (some 38))), some (.inl s.1)] [] (em_L cn mo, eh_R, s.2) 0 0)) (K := (fun (x : eM) => Q (none) (em_L cn mo, eh_R, x))) hx hK ?_
  intro s x hx hK
  obtain ⟨s1, s2⟩ := s
  refine eg_k_iload rfl rfl ?_
  refine eg_k_aload rfl rfl ?_
  refine eg_k_gfr rfl rfl rfl eh_r38_0 ?_
  refine eg_k_gfi rfl rfl rfl ?_
  refine vk_icmp rfl hx Iff.rfl (fun c6 hx => ?_) (fun c6 hx => ?_)
  · refine eg_k_ci rfl ?_
    refine eg_k_istore (lv' := [some (.inr (.inr (some 38))), some (.inl 0)]) rfl rfl ?_
    obtain ⟨x, hy, e9⟩ := vb_map hx
    clear hx
    subst e9
    have hx := hy
    clear hy
    have hz := ft_133_30 (d := d) (sc := sc) hx hK
    exact hz
  · refine eg_k_aload rfl rfl ?_
    refine eg_k_aload rfl rfl ?_
    refine eg_k_gfa rfl rfl rfl eh_r38_4 ?_
    refine eg_k_iload rfl rfl ?_
    obtain ⟨b44, hx⟩ := vb_if hx
    refine eg_k_lald (k := 444) rfl rfl b44.1 b44.2 ?_
    obtain ⟨m47, h45, hx⟩ := vb_bind hx
    refine eg_k_call (c1 := 0) (z1 := 0) (as := [.inr (.inr (some 38)), .inr (.inl (s2 37 (s1).toNat))]) (rest := []) rfl eg_tj137 (Nat.le_of_ble_eq_true rfl) rfl rfl rfl (Nat.le_of_ble_eq_true rfl) (Nat.le_refl _) (Nat.le_refl _) ?_ (fun Q hQ => ft_137 h45 hQ)
    refine eg_k_iinc (lv' := [some (.inr (.inr (some 38))), some (.inl (eg_wi (s1 + 1)))]) rfl rfl rfl ?_
    refine eg_k_goto rfl ?_
    have hx := Option.some.inj hx
    subst hx
    exact hK
set_option maxRecDepth 100000 in
theorem ft_133 {cn mo : Nat} {sc : eg_Sc} {d : Nat} {M : eM} {Q : Option eg_V → eg_H → Prop} {x : eM} (hx : fn_133 cn mo M = some x) (hK : Q (none) (em_L cn mo, eh_R, x)) : eg_wp sc (d + 5) 133 [.inr (.inr (some 38))] (em_L cn mo, eh_R, M) 0 0 Q := by
  refine eg_in (lv := [some (.inr (.inr (some 38))), none]) eg_tj133 (Nat.le_of_ble_eq_true rfl) rfl ?_
  refine eg_k_aload rfl rfl ?_
  refine eg_k_gfa rfl rfl rfl eh_r38_6 ?_
  refine eg_k_ci rfl ?_
  obtain ⟨b1, hx⟩ := vb_if hx
  refine eg_k_call (c1 := 0) (z1 := 0) (as := [.inr (.inr (some 39)), .inl 0]) (rest := []) rfl eg_tj134 (Nat.le_of_ble_eq_true rfl) rfl rfl trivial (Nat.le_of_ble_eq_true rfl) (Nat.le_refl _) (Nat.le_refl _) ?_ (fun Q hQ => ef_134 (n := mo) rfl b1 hQ)
  refine eg_k_aload rfl rfl ?_
  refine eg_k_gfa rfl rfl rfl eh_r38_9 ?_
  refine eg_k_ci rfl ?_
  refine eg_k_call (c1 := 0) (z1 := 0) (as := [.inr (.inr (some 41)), .inl 0]) (rest := []) rfl eg_tj55 (Nat.le_of_ble_eq_true rfl) rfl rfl trivial (Nat.le_of_ble_eq_true rfl) (Nat.le_refl _) (Nat.le_refl _) ?_ (fun Q hQ => ef_55 (n := mo) rfl b1 hQ)
  refine eg_k_aload rfl rfl ?_
  refine eg_k_ci rfl ?_
  refine eg_k_pfi rfl rfl rfl ?_
  refine eg_k_aload rfl rfl ?_
  obtain ⟨m5, h3, hx⟩ := vb_bind hx
  refine eg_k_call (c1 := 0) (z1 := 0) (as := [.inr (.inr (some 38))]) (rest := []) rfl eg_tj135 (Nat.le_of_ble_eq_true rfl) rfl rfl rfl (Nat.le_of_ble_eq_true rfl) (Nat.le_refl _) (Nat.le_refl _) ?_ (fun Q hQ => ft_135 h3 hQ)
  refine eg_k_ci rfl ?_
  refine eg_k_istore (lv' := [some (.inr (.inr (some 38))), some (.inl 0)]) rfl rfl ?_
  have hz := ft_133_15 (d := d) (sc := sc) hx hK
  exact hz
theorem fw_133_87 {cn : Nat} {mo : Nat} {c j : Nat} {v : Int} {s : Int × eM} {x : eM} (hc : c ∉ ([38, 39, 40, 41, 42] : List Nat)) (hx : lp (fun z => fn_133_87 cn mo z.1 z.2) s = some x) (hK : (fun (x : eM) => x c j = v) x) : s.2 c j = v := by
  refine lp_sound (P := (fun (s : Int × eM) => s.2 c j = v)) (K := (fun (x : eM) => x c j = v)) hx hK ?_
  intro s x hx hK
  obtain ⟨s1, s2⟩ := s
  refine vb_ite hx (fun _ hx => ?_) (fun _ hx => ?_)
  · have hx := Option.some.inj hx
    subst hx
    exact (Eq.refl _).symm.trans hK
  · refine vb_ite hx (fun _ hx => ?_) (fun _ hx => ?_)
    · have hx := Option.some.inj hx
      subst hx
      exact (Eq.refl _).symm.trans hK
    · obtain ⟨_, hx⟩ := vb_if hx
      obtain ⟨m14, h12, hx⟩ := vb_bind hx
      obtain ⟨m18, h16, hx⟩ := vb_bind hx
      have hx := Option.some.inj hx
      subst hx
      exact ((fw_143 h16 (vsub hc (by decide)) j).trans ((fw_140 h12 (vsub hc (by decide)) j).trans rfl)).symm.trans hK
theorem fw_133_51 {cn : Nat} {mo : Nat} {c j : Nat} {v : Int} {s : Int × eM} {x : eM} (hc : c ∉ ([38, 39, 40, 41, 42] : List Nat)) (hx : lp (fun z => fn_133_51 cn mo z.1 z.2) s = some x) (hK : (fun (x : eM) => x c j = v) x) : s.2 c j = v := by
  refine lp_sound (P := (fun (s : Int × eM) => s.2 c j = v)) (K := (fun (x : eM) => x c j = v)) hx hK ?_
  intro s x hx hK
  obtain ⟨s1, s2⟩ := s
  refine vb_ite hx (fun _ hx => ?_) (fun _ hx => ?_)
  · obtain ⟨x, hy, e9⟩ := vb_map hx
    clear hx
    subst e9
    have hx := hy
    clear hy
    have hz := fw_133_87 hc hx hK
    exact (Eq.refl _).symm.trans hz
  · obtain ⟨_, hx⟩ := vb_if hx
    obtain ⟨r21, h20, hx⟩ := vb_bind hx
    refine vb_ite hx (fun _ hx => ?_) (fun _ hx => ?_)
    · obtain ⟨m27, h25, hx⟩ := vb_bind hx
      have hx := Option.some.inj hx
      subst hx
      exact ((fw_139 h25 (vsub hc (by decide)) j).trans rfl).symm.trans hK
    · obtain ⟨m31, h29, hx⟩ := vb_bind hx
      have hx := Option.some.inj hx
      subst hx
      exact ((fw_137 h29 (vsub hc (by decide)) j).trans rfl).symm.trans hK
theorem fw_133_30 {cn : Nat} {mo : Nat} {c j : Nat} {v : Int} {s : Int × eM} {x : eM} (hc : c ∉ ([38, 39, 40, 41, 42] : List Nat)) (hx : lp (fun z => fn_133_30 cn mo z.1 z.2) s = some x) (hK : (fun (x : eM) => x c j = v) x) : s.2 c j = v := by
  refine lp_sound (P := (fun (s : Int × eM) => s.2 c j = v)) (K := (fun (x : eM) => x c j = v)) hx hK ?_
  intro s x hx hK
  obtain ⟨s1, s2⟩ := s
  refine vb_ite hx (fun _ hx => ?_) (fun _ hx => ?_)
  · obtain ⟨x, hy, e9⟩ := vb_map hx
    clear hx
    subst e9
    have hx := hy
    clear hy
    have hz := fw_133_51 hc hx hK
    exact (Eq.refl _).symm.trans hz
  · obtain ⟨r33, h32, hx⟩ := vb_bind hx
    obtain ⟨m37, h35, hx⟩ := vb_bind hx
    obtain ⟨r39, h38, hx⟩ := vb_bind hx
    obtain ⟨m43, h41, hx⟩ := vb_bind hx
    have hx := Option.some.inj hx
    subst hx
    exact ((fw_137 h41 (vsub hc (by decide)) j).trans ((fw_137 h35 (vsub hc (by decide)) j).trans rfl)).symm.trans hK
theorem fw_133_15 {cn : Nat} {mo : Nat} {c j : Nat} {v : Int} {s : Int × eM} {x : eM} (hc : c ∉ ([38, 39, 40, 41, 42] : List Nat)) (hx : lp (fun z => fn_133_15 cn mo z.1 z.2) s = some x) (hK : (fun (x : eM) => x c j = v) x) : s.2 c j = v := by
  refine lp_sound (P := (fun (s : Int × eM) => s.2 c j = v)) (K := (fun (x : eM) => x c j = v)) hx hK ?_
  intro s x hx hK
  obtain ⟨s1, s2⟩ := s
  refine vb_ite hx (fun _ hx => ?_) (fun _ hx => ?_)
  · obtain ⟨x, hy, e9⟩ := vb_map hx
    clear hx
    subst e9
    have hx := hy
    clear hy
    have hz := fw_133_30 hc hx hK
    exact (Eq.refl _).symm.trans hz
  · obtain ⟨_, hx⟩ := vb_if hx
    obtain ⟨m47, h45, hx⟩ := vb_bind hx
    have hx := Option.some.inj hx
    subst hx
    exact ((fw_137 h45 (vsub hc (by decide)) j).trans rfl).symm.trans hK
theorem fw_133 {cn : Nat} {mo : Nat} {M : eM} {c : Nat} {x : eM} (hx : fn_133 cn mo M = some x) (hc : c ∉ ([38, 39, 40, 41, 42] : List Nat)) (j : Nat) : x c j = M c j := by
  obtain ⟨v, hK⟩ : ∃ v, x c j = v := ⟨_, rfl⟩
  rw [hK]
  refine Eq.symm ?_
  obtain ⟨_, hx⟩ := vb_if hx
  obtain ⟨m5, h3, hx⟩ := vb_bind hx
  have hz := fw_133_15 hc hx hK
  exact ((fw_135 h3 (vsub hc (by decide)) j).trans ((congrFun (eg_u_ne (vne hc (a := 38) (by decide))) j).trans ((congrFun (ev_fil_ne (vne hc (a := 41) (by decide))) j).trans ((congrFun (ev_fil_ne (vne hc (a := 39) (by decide))) j).trans rfl)))).symm.trans hz
noncomputable def fn_145_17 (cn : Nat) (mo : Nat) (x1 : Int) (s1 : Int) (s2 : Int) (s3 : Int) (s4 : eM) : Option ((Int × Int × Int × eM) ⊕ (eM)) :=
  if s3 = 0 then
    (fn_94 cn mo x1 2 s2 s4).bind fun m10 =>
    some (.inr m10)
  else
    (fn_78 cn mo s3 3 s4).bind fun r12 =>
    (fn_78 cn mo s3 1 s4).bind fun r15 =>
    (fn_138 mo r15 s4).bind fun r18 =>
    if r18 = 0 then
      some (.inl (s1, s2, eg_wi r12, s4))
    else
      if ¬ s1 = 0 then
        (fn_94 cn mo s1 3 s3 s4).bind fun m24 =>
        (fn_94 cn mo s3 3 0 m24).bind fun m27 =>
        some (.inl (s3, eg_wi (s2 + 1), eg_wi r12, m27))
      else
        (fn_94 cn mo x1 1 s3 s4).bind fun m30 =>
        (fn_94 cn mo s3 3 0 m30).bind fun m33 =>
        some (.inl (s3, eg_wi (s2 + 1), eg_wi r12, m33))
/-- 145: WeakScheme$Collector.dropEntries(I)V -/
noncomputable def fn_145 (cn : Nat) (mo : Nat) (a : Int) (M : eM) : Option (eM) :=
  (fn_78 cn mo a 1 M).bind fun r2 =>
  (fn_94 cn mo a 1 0 M).bind fun m6 =>
  lp (fun z => fn_145_17 cn mo a z.1 z.2.1 z.2.2.1 z.2.2.2) (0, 0, eg_wi r2, m6)
set_option maxRecDepth 100000 in
theorem ft_145_17 {cn mo : Nat} {sc : eg_Sc} {d : Nat} {Q : Option eg_V → eg_H → Prop} {x1 : Int} {s : Int × Int × Int × eM} {x : eM} (hx : lp (fun z => fn_145_17 cn mo x1 z.1 z.2.1 z.2.2.1 z.2.2.2) s = some x) (hK : (fun (x : eM) => Q (none) (em_L cn mo, eh_R, x)) x) : ∀ (w5 : Option eg_V), eg_X sc (eg_wp sc (d + 1)) eg_p145 none 0 0 Q 17 [some (.inr (.inr (some 38))), some (.inl x1), some (.inl s.1), some (.inl s.2.1), some (.inl s.2.2.1), w5] [] (em_L cn mo, eh_R, s.2.2.2) 0 0 := by
  refine lp_sound (P := (fun (s : Int × Int × Int × eM) => ∀ (w5 : Option eg_V), eg_X sc (eg_wp sc (d + 1)) eg_p145 none 0 0 Q 17 [some (.inr (.inr (some 38))), some (.inl x1), some (.inl s.1), some (.inl s.2.1), some (.inl s.2.2.1), w5] [] (em_L cn mo, eh_R, s.2.2.2) 0 0)) (K := (fun (x : eM) => Q (none) (em_L cn mo, eh_R, x))) hx hK ?_
  intro s x hx hK w5
  obtain ⟨s1, s2, s3, s4⟩ := s
  refine eg_k_iload rfl rfl ?_
  refine vk_if rfl hx Iff.rfl (fun c7 hx => ?_) (fun c7 hx => ?_)
  · refine eg_k_aload rfl rfl ?_
    refine eg_k_gfr rfl rfl rfl eh_r38_1 ?_
    refine eg_k_iload rfl rfl ?_
    refine eg_k_ci rfl ?_
    refine eg_k_iload rfl rfl ?_
    refine eg_k_i2l rfl ?_
    obtain ⟨m10, h8, hx⟩ := vb_bind hx
    refine eg_k_call (c1 := 0) (z1 := 0) (as := [.inr (.inr (some 15)), .inl x1, .inl 2, .inr (.inl s2)]) (rest := []) rfl eg_tj94 (Nat.le_of_ble_eq_true rfl) rfl rfl rfl (Nat.le_of_ble_eq_true rfl) (Nat.le_refl _) (Nat.le_refl _) ?_ (fun Q hQ => ft_94 h8 hQ)
    have hx := Option.some.inj hx
    subst hx
    exact eg_k_ret rfl rfl (Nat.le_refl _) (Nat.le_refl _) hK
  · refine eg_k_aload rfl rfl ?_
    refine eg_k_gfr rfl rfl rfl eh_r38_1 ?_
    refine eg_k_iload rfl rfl ?_
    refine eg_k_ci rfl ?_
    obtain ⟨r12, h11, hx⟩ := vb_bind hx
    refine eg_k_call (c1 := 0) (z1 := 0) (as := [.inr (.inr (some 15)), .inl s3, .inl 3]) (rest := []) rfl eg_tj78 (Nat.le_of_ble_eq_true rfl) rfl rfl rfl (Nat.le_of_ble_eq_true rfl) (Nat.le_refl _) (Nat.le_refl _) ?_ (fun Q hQ => ft_78 h11 hQ)
    refine eg_k_l2i rfl ?_
    refine eg_k_istore (lv' := [some (.inr (.inr (some 38))), some (.inl x1), some (.inl s1), some (.inl s2), some (.inl s3), some (.inl (eg_wi r12))]) rfl rfl ?_
    refine eg_k_aload rfl rfl ?_
    refine eg_k_aload rfl rfl ?_
    refine eg_k_gfr rfl rfl rfl eh_r38_1 ?_
    refine eg_k_iload rfl rfl ?_
    refine eg_k_ci rfl ?_
    obtain ⟨r15, h14, hx⟩ := vb_bind hx
    refine eg_k_call (c1 := 0) (z1 := 0) (as := [.inr (.inr (some 15)), .inl s3, .inl 1]) (rest := [.inr (.inr (some 38))]) rfl eg_tj78 (Nat.le_of_ble_eq_true rfl) rfl rfl rfl (Nat.le_of_ble_eq_true rfl) (Nat.le_refl _) (Nat.le_refl _) ?_ (fun Q hQ => ft_78 h14 hQ)
    obtain ⟨r18, h17, hx⟩ := vb_bind hx
    refine eg_k_call (c1 := 0) (z1 := 0) (as := [.inr (.inr (some 38)), .inr (.inl r15)]) (rest := []) rfl eg_tj138 (Nat.le_of_ble_eq_true rfl) rfl rfl rfl (Nat.le_of_ble_eq_true rfl) (Nat.le_refl _) (Nat.le_refl _) ?_ (fun Q hQ => ft_138 h17 hQ)
    refine vk_if rfl hx Iff.rfl (fun c20 hx => ?_) (fun c20 hx => ?_)
    · refine eg_k_iload rfl rfl ?_
      refine eg_k_istore (lv' := [some (.inr (.inr (some 38))), some (.inl x1), some (.inl s1), some (.inl s2), some (.inl (eg_wi r12)), some (.inl (eg_wi r12))]) rfl rfl ?_
      refine eg_k_goto rfl ?_
      have hx := Option.some.inj hx
      subst hx
      exact hK (some (.inl (eg_wi r12)))
    · refine eg_k_iload rfl rfl ?_
      refine vk_if rfl hx Iff.rfl (fun c21 hx => ?_) (fun c21 hx => ?_)
      · refine eg_k_aload rfl rfl ?_
        refine eg_k_gfr rfl rfl rfl eh_r38_1 ?_
        refine eg_k_iload rfl rfl ?_
        refine eg_k_ci rfl ?_
        refine eg_k_iload rfl rfl ?_
        refine eg_k_i2l rfl ?_
        obtain ⟨m24, h22, hx⟩ := vb_bind hx
        refine eg_k_call (c1 := 0) (z1 := 0) (as := [.inr (.inr (some 15)), .inl s1, .inl 3, .inr (.inl s3)]) (rest := []) rfl eg_tj94 (Nat.le_of_ble_eq_true rfl) rfl rfl rfl (Nat.le_of_ble_eq_true rfl) (Nat.le_refl _) (Nat.le_refl _) ?_ (fun Q hQ => ft_94 h22 hQ)
        refine eg_k_aload rfl rfl ?_
        refine eg_k_gfr rfl rfl rfl eh_r38_1 ?_
        refine eg_k_iload rfl rfl ?_
        refine eg_k_ci rfl ?_
        refine eg_k_cl rfl ?_
        obtain ⟨m27, h25, hx⟩ := vb_bind hx
        refine eg_k_call (c1 := 0) (z1 := 0) (as := [.inr (.inr (some 15)), .inl s3, .inl 3, .inr (.inl 0)]) (rest := []) rfl eg_tj94 (Nat.le_of_ble_eq_true rfl) rfl rfl rfl (Nat.le_of_ble_eq_true rfl) (Nat.le_refl _) (Nat.le_refl _) ?_ (fun Q hQ => ft_94 h25 hQ)
        refine eg_k_iload rfl rfl ?_
        refine eg_k_istore (lv' := [some (.inr (.inr (some 38))), some (.inl x1), some (.inl s3), some (.inl s2), some (.inl s3), some (.inl (eg_wi r12))]) rfl rfl ?_
        refine eg_k_iinc (lv' := [some (.inr (.inr (some 38))), some (.inl x1), some (.inl s3), some (.inl (eg_wi (s2 + 1))), some (.inl s3), some (.inl (eg_wi r12))]) rfl rfl rfl ?_
        refine eg_k_iload rfl rfl ?_
        refine eg_k_istore (lv' := [some (.inr (.inr (some 38))), some (.inl x1), some (.inl s3), some (.inl (eg_wi (s2 + 1))), some (.inl (eg_wi r12)), some (.inl (eg_wi r12))]) rfl rfl ?_
        refine eg_k_goto rfl ?_
        have hx := Option.some.inj hx
        subst hx
        exact hK (some (.inl (eg_wi r12)))
      · refine eg_k_aload rfl rfl ?_
        refine eg_k_gfr rfl rfl rfl eh_r38_1 ?_
        refine eg_k_iload rfl rfl ?_
        refine eg_k_ci rfl ?_
        refine eg_k_iload rfl rfl ?_
        refine eg_k_i2l rfl ?_
        obtain ⟨m30, h28, hx⟩ := vb_bind hx
        refine eg_k_call (c1 := 0) (z1 := 0) (as := [.inr (.inr (some 15)), .inl x1, .inl 1, .inr (.inl s3)]) (rest := []) rfl eg_tj94 (Nat.le_of_ble_eq_true rfl) rfl rfl rfl (Nat.le_of_ble_eq_true rfl) (Nat.le_refl _) (Nat.le_refl _) ?_ (fun Q hQ => ft_94 h28 hQ)
        refine eg_k_goto rfl ?_
        refine eg_k_aload rfl rfl ?_
        refine eg_k_gfr rfl rfl rfl eh_r38_1 ?_
        refine eg_k_iload rfl rfl ?_
        refine eg_k_ci rfl ?_
        refine eg_k_cl rfl ?_
        obtain ⟨m33, h31, hx⟩ := vb_bind hx
        refine eg_k_call (c1 := 0) (z1 := 0) (as := [.inr (.inr (some 15)), .inl s3, .inl 3, .inr (.inl 0)]) (rest := []) rfl eg_tj94 (Nat.le_of_ble_eq_true rfl) rfl rfl rfl (Nat.le_of_ble_eq_true rfl) (Nat.le_refl _) (Nat.le_refl _) ?_ (fun Q hQ => ft_94 h31 hQ)
        refine eg_k_iload rfl rfl ?_
        refine eg_k_istore (lv' := [some (.inr (.inr (some 38))), some (.inl x1), some (.inl s3), some (.inl s2), some (.inl s3), some (.inl (eg_wi r12))]) rfl rfl ?_
        refine eg_k_iinc (lv' := [some (.inr (.inr (some 38))), some (.inl x1), some (.inl s3), some (.inl (eg_wi (s2 + 1))), some (.inl s3), some (.inl (eg_wi r12))]) rfl rfl rfl ?_
        refine eg_k_iload rfl rfl ?_
        refine eg_k_istore (lv' := [some (.inr (.inr (some 38))), some (.inl x1), some (.inl s3), some (.inl (eg_wi (s2 + 1))), some (.inl (eg_wi r12)), some (.inl (eg_wi r12))]) rfl rfl ?_
        refine eg_k_goto rfl ?_
        have hx := Option.some.inj hx
        subst hx
        exact hK (some (.inl (eg_wi r12)))
set_option maxRecDepth 100000 in
theorem ft_145 {cn mo : Nat} {sc : eg_Sc} {d : Nat} {M : eM} {Q : Option eg_V → eg_H → Prop} {a : Int} {x : eM} (hx : fn_145 cn mo a M = some x) (hK : Q (none) (em_L cn mo, eh_R, x)) : eg_wp sc (d + 2) 145 [.inr (.inr (some 38)), .inl a] (em_L cn mo, eh_R, M) 0 0 Q := by
  refine eg_in (lv := [some (.inr (.inr (some 38))), some (.inl a), none, none, none, none]) eg_tj145 (Nat.le_of_ble_eq_true rfl) rfl ?_
  refine eg_k_ci rfl ?_
  refine eg_k_istore (lv' := [some (.inr (.inr (some 38))), some (.inl a), some (.inl 0), none, none, none]) rfl rfl ?_
  refine eg_k_ci rfl ?_
  refine eg_k_istore (lv' := [some (.inr (.inr (some 38))), some (.inl a), some (.inl 0), some (.inl 0), none, none]) rfl rfl ?_
  refine eg_k_aload rfl rfl ?_
  refine eg_k_gfr rfl rfl rfl eh_r38_1 ?_
  refine eg_k_iload rfl rfl ?_
  refine eg_k_ci rfl ?_
  obtain ⟨r2, h1, hx⟩ := vb_bind hx
  refine eg_k_call (c1 := 0) (z1 := 0) (as := [.inr (.inr (some 15)), .inl a, .inl 1]) (rest := []) rfl eg_tj78 (Nat.le_of_ble_eq_true rfl) rfl rfl rfl (Nat.le_of_ble_eq_true rfl) (Nat.le_refl _) (Nat.le_refl _) ?_ (fun Q hQ => ft_78 h1 hQ)
  refine eg_k_l2i rfl ?_
  refine eg_k_istore (lv' := [some (.inr (.inr (some 38))), some (.inl a), some (.inl 0), some (.inl 0), some (.inl (eg_wi r2)), none]) rfl rfl ?_
  refine eg_k_aload rfl rfl ?_
  refine eg_k_gfr rfl rfl rfl eh_r38_1 ?_
  refine eg_k_iload rfl rfl ?_
  refine eg_k_ci rfl ?_
  refine eg_k_cl rfl ?_
  obtain ⟨m6, h4, hx⟩ := vb_bind hx
  refine eg_k_call (c1 := 0) (z1 := 0) (as := [.inr (.inr (some 15)), .inl a, .inl 1, .inr (.inl 0)]) (rest := []) rfl eg_tj94 (Nat.le_of_ble_eq_true rfl) rfl rfl rfl (Nat.le_of_ble_eq_true rfl) (Nat.le_refl _) (Nat.le_refl _) ?_ (fun Q hQ => ft_94 h4 hQ)
  have hz := ft_145_17 (d := d) (sc := sc) hx hK
  exact hz none
theorem fw_145_17 {cn : Nat} {mo : Nat} {c j : Nat} {v : Int} {x1 : Int} {s : Int × Int × Int × eM} {x : eM} (hc : c ∉ ([16] : List Nat)) (hx : lp (fun z => fn_145_17 cn mo x1 z.1 z.2.1 z.2.2.1 z.2.2.2) s = some x) (hK : (fun (x : eM) => x c j = v) x) : s.2.2.2 c j = v := by
  refine lp_sound (P := (fun (s : Int × Int × Int × eM) => s.2.2.2 c j = v)) (K := (fun (x : eM) => x c j = v)) hx hK ?_
  intro s x hx hK
  obtain ⟨s1, s2, s3, s4⟩ := s
  refine vb_ite hx (fun _ hx => ?_) (fun _ hx => ?_)
  · obtain ⟨m10, h8, hx⟩ := vb_bind hx
    have hx := Option.some.inj hx
    subst hx
    exact ((fw_94 h8 (vsub hc (by decide)) j).trans rfl).symm.trans hK
  · obtain ⟨r12, h11, hx⟩ := vb_bind hx
    obtain ⟨r15, h14, hx⟩ := vb_bind hx
    obtain ⟨r18, h17, hx⟩ := vb_bind hx
    refine vb_ite hx (fun _ hx => ?_) (fun _ hx => ?_)
    · have hx := Option.some.inj hx
      subst hx
      exact (Eq.refl _).symm.trans hK
    · refine vb_ite hx (fun _ hx => ?_) (fun _ hx => ?_)
      · obtain ⟨m24, h22, hx⟩ := vb_bind hx
        obtain ⟨m27, h25, hx⟩ := vb_bind hx
        have hx := Option.some.inj hx
        subst hx
        exact ((fw_94 h25 (vsub hc (by decide)) j).trans ((fw_94 h22 (vsub hc (by decide)) j).trans rfl)).symm.trans hK
      · obtain ⟨m30, h28, hx⟩ := vb_bind hx
        obtain ⟨m33, h31, hx⟩ := vb_bind hx
        have hx := Option.some.inj hx
        subst hx
        exact ((fw_94 h31 (vsub hc (by decide)) j).trans ((fw_94 h28 (vsub hc (by decide)) j).trans rfl)).symm.trans hK
theorem fw_145 {cn : Nat} {mo : Nat} {M : eM} {c : Nat} {a : Int} {x : eM} (hx : fn_145 cn mo a M = some x) (hc : c ∉ ([16] : List Nat)) (j : Nat) : x c j = M c j := by
  obtain ⟨v, hK⟩ : ∃ v, x c j = v := ⟨_, rfl⟩
  rw [hK]
  refine Eq.symm ?_
  obtain ⟨r2, h1, hx⟩ := vb_bind hx
  obtain ⟨m6, h4, hx⟩ := vb_bind hx
  have hz := fw_145_17 hc hx hK
  exact ((fw_94 h4 (vsub hc (by decide)) j).trans rfl).symm.trans hz
noncomputable def fn_144_38 (cn : Nat) (mo : Nat) (x1 : Int) (x2 : Int) (M : eM) : Option ((Int × eM) ⊕ (eM)) :=
  if ¬ x2 = 6 then
    some (.inl (eg_wi (x1 + 1), M))
  else
    (fn_78 cn mo x1 1 M).bind fun r7 =>
    (fn_138 mo r7 M).bind fun r10 =>
    if ¬ r10 = 0 then
      some (.inl (eg_wi (x1 + 1), M))
    else
      (fn_94 cn mo x1 1 4294967296 M).bind fun m15 =>
      (fn_94 cn mo x1 2 4294967296 m15).bind fun m18 =>
      some (.inl (eg_wi (x1 + 1), m18))
noncomputable def fn_144_2 (cn : Nat) (mo : Nat) (s1 : Int) (s2 : eM) : Option ((Int × eM) ⊕ (eM)) :=
  if (s2 15 8) < s1 then
    some (.inr s2)
  else
    if 0 ≤ s1 ∧ s1 < (mo : Int) then
    if ¬ (s2 18 (s1).toNat) = 7 then
        if ¬ (s2 18 (s1).toNat) = 5 then
          fn_144_38 cn mo s1 (s2 18 (s1).toNat) s2
        else
          (fn_78 cn mo s1 1 s2).bind fun r20 =>
          (fn_138 mo r20 s2).bind fun r23 =>
          if ¬ r23 = 0 then
            fn_144_38 cn mo s1 (s2 18 (s1).toNat) s2
          else
            (fn_94 cn mo s1 1 4294967296 s2).bind fun m28 =>
            some (.inl (eg_wi (s1 + 1), m28))
      else
        (fn_145 cn mo s1 s2).bind fun m31 =>
        some (.inl (eg_wi (s1 + 1), m31))
    else none
/-- 144: WeakScheme$Collector.clearDead()V -/
noncomputable def fn_144 (cn : Nat) (mo : Nat) (M : eM) : Option (eM) :=
  lp (fun z => fn_144_2 cn mo z.1 z.2) (1, M)
set_option maxRecDepth 100000 in
theorem ft_144_38 {cn mo : Nat} {sc : eg_Sc} {d : Nat} {M : eM} {Q : Option eg_V → eg_H → Prop} {x1 : Int} {x2 : Int} {x : (Int × eM) ⊕ (eM)} (hx : fn_144_38 cn mo x1 x2 M = some x) (hK : (eK (fun (s : Int × eM) => ∀ (w2 : Option eg_V), eg_X sc (eg_wp sc (d + 2)) eg_p144 none 0 0 Q 2 [some (.inr (.inr (some 38))), some (.inl s.1), w2] [] (em_L cn mo, eh_R, s.2) 0 0) (fun (x : eM) => Q (none) (em_L cn mo, eh_R, x))) x) : eg_X sc (eg_wp sc (d + 2)) eg_p144 none 0 0 Q 38 [some (.inr (.inr (some 38))), some (.inl x1), some (.inl x2)] [] (em_L cn mo, eh_R, M) 0 0 := by
  refine eg_k_iload rfl rfl ?_
  refine eg_k_ci rfl ?_
  refine vk_icmp rfl hx Iff.rfl (fun c5 hx => ?_) (fun c5 hx => ?_)
  · refine eg_k_iinc (lv' := [some (.inr (.inr (some 38))), some (.inl (eg_wi (x1 + 1))), some (.inl x2)]) rfl rfl rfl ?_
    refine eg_k_goto rfl ?_
    have hx := Option.some.inj hx
    subst hx
    exact hK (some (.inl x2))
  · refine eg_k_aload rfl rfl ?_
    refine eg_k_aload rfl rfl ?_
    refine eg_k_gfr rfl rfl rfl eh_r38_1 ?_
    refine eg_k_iload rfl rfl ?_
    refine eg_k_ci rfl ?_
    obtain ⟨r7, h6, hx⟩ := vb_bind hx
    refine eg_k_call (c1 := 0) (z1 := 0) (as := [.inr (.inr (some 15)), .inl x1, .inl 1]) (rest := [.inr (.inr (some 38))]) rfl eg_tj78 (Nat.le_of_ble_eq_true rfl) rfl rfl rfl (Nat.le_of_ble_eq_true rfl) (Nat.le_refl _) (Nat.le_refl _) ?_ (fun Q hQ => ft_78 h6 hQ)
    obtain ⟨r10, h9, hx⟩ := vb_bind hx
    refine eg_k_call (c1 := 0) (z1 := 0) (as := [.inr (.inr (some 38)), .inr (.inl r7)]) (rest := []) rfl eg_tj138 (Nat.le_of_ble_eq_true rfl) rfl rfl rfl (Nat.le_of_ble_eq_true rfl) (Nat.le_refl _) (Nat.le_refl _) ?_ (fun Q hQ => ft_138 h9 hQ)
    refine vk_if rfl hx Iff.rfl (fun c12 hx => ?_) (fun c12 hx => ?_)
    · refine eg_k_iinc (lv' := [some (.inr (.inr (some 38))), some (.inl (eg_wi (x1 + 1))), some (.inl x2)]) rfl rfl rfl ?_
      refine eg_k_goto rfl ?_
      have hx := Option.some.inj hx
      subst hx
      exact hK (some (.inl x2))
    · refine eg_k_aload rfl rfl ?_
      refine eg_k_gfr rfl rfl rfl eh_r38_1 ?_
      refine eg_k_iload rfl rfl ?_
      refine eg_k_ci rfl ?_
      refine eg_k_cl rfl ?_
      obtain ⟨m15, h13, hx⟩ := vb_bind hx
      refine eg_k_call (c1 := 0) (z1 := 0) (as := [.inr (.inr (some 15)), .inl x1, .inl 1, .inr (.inl 4294967296)]) (rest := []) rfl eg_tj94 (Nat.le_of_ble_eq_true rfl) rfl rfl rfl (Nat.le_of_ble_eq_true rfl) (Nat.le_refl _) (Nat.le_refl _) ?_ (fun Q hQ => ft_94 h13 hQ)
      refine eg_k_aload rfl rfl ?_
      refine eg_k_gfr rfl rfl rfl eh_r38_1 ?_
      refine eg_k_iload rfl rfl ?_
      refine eg_k_ci rfl ?_
      refine eg_k_cl rfl ?_
      obtain ⟨m18, h16, hx⟩ := vb_bind hx
      refine eg_k_call (c1 := 0) (z1 := 0) (as := [.inr (.inr (some 15)), .inl x1, .inl 2, .inr (.inl 4294967296)]) (rest := []) rfl eg_tj94 (Nat.le_of_ble_eq_true rfl) rfl rfl rfl (Nat.le_of_ble_eq_true rfl) (Nat.le_refl _) (Nat.le_refl _) ?_ (fun Q hQ => ft_94 h16 hQ)
      refine eg_k_iinc (lv' := [some (.inr (.inr (some 38))), some (.inl (eg_wi (x1 + 1))), some (.inl x2)]) rfl rfl rfl ?_
      refine eg_k_goto rfl ?_
      have hx := Option.some.inj hx
      subst hx
      exact hK (some (.inl x2))
set_option maxRecDepth 100000 in
theorem ft_144_2 {cn mo : Nat} {sc : eg_Sc} {d : Nat} {Q : Option eg_V → eg_H → Prop} {s : Int × eM} {x : eM} (hx : lp (fun z => fn_144_2 cn mo z.1 z.2) s = some x) (hK : (fun (x : eM) => Q (none) (em_L cn mo, eh_R, x)) x) : ∀ (w2 : Option eg_V), eg_X sc (eg_wp sc (d + 2)) eg_p144 none 0 0 Q 2 [some (.inr (.inr (some 38))), some (.inl s.1), w2] [] (em_L cn mo, eh_R, s.2) 0 0 := by
  refine lp_sound (P := (fun (s : Int × eM) => ∀ (w2 : Option eg_V), eg_X sc (eg_wp sc (d + 2)) eg_p144 none 0 0 Q 2 [some (.inr (.inr (some 38))), some (.inl s.1), w2] [] (em_L cn mo, eh_R, s.2) 0 0)) (K := (fun (x : eM) => Q (none) (em_L cn mo, eh_R, x))) hx hK ?_
  intro s x hx hK w2
  obtain ⟨s1, s2⟩ := s
  refine eg_k_iload rfl rfl ?_
  refine eg_k_aload rfl rfl ?_
  refine eg_k_gfr rfl rfl rfl eh_r38_1 ?_
  refine eg_k_gfi rfl rfl rfl ?_
  refine vk_icmp rfl hx Iff.rfl (fun c1 hx => ?_) (fun c1 hx => ?_)
  · have hx := Option.some.inj hx
    subst hx
    exact eg_k_ret rfl rfl (Nat.le_refl _) (Nat.le_refl _) hK
  · refine eg_k_aload rfl rfl ?_
    refine eg_k_gfr rfl rfl rfl eh_r38_1 ?_
    refine eg_k_gfa rfl rfl rfl eh_r15_3 ?_
    refine eg_k_iload rfl rfl ?_
    obtain ⟨b2, hx⟩ := vb_if hx
    refine eg_k_iald (k := mo) rfl rfl b2.1 b2.2 ?_
    refine eg_k_istore (lv' := [some (.inr (.inr (some 38))), some (.inl s1), some (.inl (s2 18 (s1).toNat))]) rfl rfl ?_
    refine eg_k_iload rfl rfl ?_
    refine eg_k_ci rfl ?_
    refine vk_icmp rfl hx Iff.rfl (fun c3 hx => ?_) (fun c3 hx => ?_)
    · refine eg_k_iload rfl rfl ?_
      refine eg_k_ci rfl ?_
      refine vk_icmp rfl hx Iff.rfl (fun c4 hx => ?_) (fun c4 hx => ?_)
      · have hz := ft_144_38 (d := d) (sc := sc) hx hK
        exact hz
      · refine eg_k_aload rfl rfl ?_
        refine eg_k_aload rfl rfl ?_
        refine eg_k_gfr rfl rfl rfl eh_r38_1 ?_
        refine eg_k_iload rfl rfl ?_
        refine eg_k_ci rfl ?_
        obtain ⟨r20, h19, hx⟩ := vb_bind hx
        refine eg_k_call (c1 := 0) (z1 := 0) (as := [.inr (.inr (some 15)), .inl s1, .inl 1]) (rest := [.inr (.inr (some 38))]) rfl eg_tj78 (Nat.le_of_ble_eq_true rfl) rfl rfl rfl (Nat.le_of_ble_eq_true rfl) (Nat.le_refl _) (Nat.le_refl _) ?_ (fun Q hQ => ft_78 h19 hQ)
        obtain ⟨r23, h22, hx⟩ := vb_bind hx
        refine eg_k_call (c1 := 0) (z1 := 0) (as := [.inr (.inr (some 38)), .inr (.inl r20)]) (rest := []) rfl eg_tj138 (Nat.le_of_ble_eq_true rfl) rfl rfl rfl (Nat.le_of_ble_eq_true rfl) (Nat.le_refl _) (Nat.le_refl _) ?_ (fun Q hQ => ft_138 h22 hQ)
        refine vk_if rfl hx Iff.rfl (fun c25 hx => ?_) (fun c25 hx => ?_)
        · have hz := ft_144_38 (d := d) (sc := sc) hx hK
          exact hz
        · refine eg_k_aload rfl rfl ?_
          refine eg_k_gfr rfl rfl rfl eh_r38_1 ?_
          refine eg_k_iload rfl rfl ?_
          refine eg_k_ci rfl ?_
          refine eg_k_cl rfl ?_
          obtain ⟨m28, h26, hx⟩ := vb_bind hx
          refine eg_k_call (c1 := 0) (z1 := 0) (as := [.inr (.inr (some 15)), .inl s1, .inl 1, .inr (.inl 4294967296)]) (rest := []) rfl eg_tj94 (Nat.le_of_ble_eq_true rfl) rfl rfl rfl (Nat.le_of_ble_eq_true rfl) (Nat.le_refl _) (Nat.le_refl _) ?_ (fun Q hQ => ft_94 h26 hQ)
          refine eg_k_goto rfl ?_
          refine eg_k_iinc (lv' := [some (.inr (.inr (some 38))), some (.inl (eg_wi (s1 + 1))), some (.inl (s2 18 (s1).toNat))]) rfl rfl rfl ?_
          refine eg_k_goto rfl ?_
          have hx := Option.some.inj hx
          subst hx
          exact hK (some (.inl (s2 18 (s1).toNat)))
    · refine eg_k_aload rfl rfl ?_
      refine eg_k_iload rfl rfl ?_
      obtain ⟨m31, h29, hx⟩ := vb_bind hx
      refine eg_k_call (c1 := 0) (z1 := 0) (as := [.inr (.inr (some 38)), .inl s1]) (rest := []) rfl eg_tj145 (Nat.le_of_ble_eq_true rfl) rfl rfl rfl (Nat.le_of_ble_eq_true rfl) (Nat.le_refl _) (Nat.le_refl _) ?_ (fun Q hQ => ft_145 h29 hQ)
      refine eg_k_goto rfl ?_
      refine eg_k_iinc (lv' := [some (.inr (.inr (some 38))), some (.inl (eg_wi (s1 + 1))), some (.inl (s2 18 (s1).toNat))]) rfl rfl rfl ?_
      refine eg_k_goto rfl ?_
      have hx := Option.some.inj hx
      subst hx
      exact hK (some (.inl (s2 18 (s1).toNat)))
set_option maxRecDepth 100000 in
theorem ft_144 {cn mo : Nat} {sc : eg_Sc} {d : Nat} {M : eM} {Q : Option eg_V → eg_H → Prop} {x : eM} (hx : fn_144 cn mo M = some x) (hK : Q (none) (em_L cn mo, eh_R, x)) : eg_wp sc (d + 3) 144 [.inr (.inr (some 38))] (em_L cn mo, eh_R, M) 0 0 Q := by
  refine eg_in (lv := [some (.inr (.inr (some 38))), none, none]) eg_tj144 (Nat.le_of_ble_eq_true rfl) rfl ?_
  refine eg_k_ci rfl ?_
  refine eg_k_istore (lv' := [some (.inr (.inr (some 38))), some (.inl 1), none]) rfl rfl ?_
  have hz := ft_144_2 (d := d) (sc := sc) hx hK
  exact hz none
theorem fw_144_38 {cn : Nat} {mo : Nat} {M : eM} {c j : Nat} {v : Int} {x1 : Int} {x2 : Int} {x : (Int × eM) ⊕ (eM)} (hc : c ∉ ([16] : List Nat)) (hx : fn_144_38 cn mo x1 x2 M = some x) (hK : (eK (fun (s : Int × eM) => s.2 c j = v) (fun (x : eM) => x c j = v)) x) : M c j = v := by
  refine vb_ite hx (fun _ hx => ?_) (fun _ hx => ?_)
  · have hx := Option.some.inj hx
    subst hx
    exact (Eq.refl _).symm.trans hK
  · obtain ⟨r7, h6, hx⟩ := vb_bind hx
    obtain ⟨r10, h9, hx⟩ := vb_bind hx
    refine vb_ite hx (fun _ hx => ?_) (fun _ hx => ?_)
    · have hx := Option.some.inj hx
      subst hx
      exact (Eq.refl _).symm.trans hK
    · obtain ⟨m15, h13, hx⟩ := vb_bind hx
      obtain ⟨m18, h16, hx⟩ := vb_bind hx
      have hx := Option.some.inj hx
      subst hx
      exact ((fw_94 h16 (vsub hc (by decide)) j).trans ((fw_94 h13 (vsub hc (by decide)) j).trans rfl)).symm.trans hK
theorem fw_144_2 {cn : Nat} {mo : Nat} {c j : Nat} {v : Int} {s : Int × eM} {x : eM} (hc : c ∉ ([16] : List Nat)) (hx : lp (fun z => fn_144_2 cn mo z.1 z.2) s = some x) (hK : (fun (x : eM) => x c j = v) x) : s.2 c j = v := by
  refine lp_sound (P := (fun (s : Int × eM) => s.2 c j = v)) (K := (fun (x : eM) => x c j = v)) hx hK ?_
  intro s x hx hK
  obtain ⟨s1, s2⟩ := s
  refine vb_ite hx (fun _ hx => ?_) (fun _ hx => ?_)
  · have hx := Option.some.inj hx
    subst hx
    exact (Eq.refl _).symm.trans hK
  · obtain ⟨_, hx⟩ := vb_if hx
    refine vb_ite hx (fun _ hx => ?_) (fun _ hx => ?_)
    · refine vb_ite hx (fun _ hx => ?_) (fun _ hx => ?_)
      · have hz := fw_144_38 hc hx hK
        exact (Eq.refl _).symm.trans hz
      · obtain ⟨r20, h19, hx⟩ := vb_bind hx
        obtain ⟨r23, h22, hx⟩ := vb_bind hx
        refine vb_ite hx (fun _ hx => ?_) (fun _ hx => ?_)
        · have hz := fw_144_38 hc hx hK
          exact (Eq.refl _).symm.trans hz
        · obtain ⟨m28, h26, hx⟩ := vb_bind hx
          have hx := Option.some.inj hx
          subst hx
          exact ((fw_94 h26 (vsub hc (by decide)) j).trans rfl).symm.trans hK
    · obtain ⟨m31, h29, hx⟩ := vb_bind hx
      have hx := Option.some.inj hx
      subst hx
      exact ((fw_145 h29 (vsub hc (by decide)) j).trans rfl).symm.trans hK
theorem fw_144 {cn : Nat} {mo : Nat} {M : eM} {c : Nat} {x : eM} (hx : fn_144 cn mo M = some x) (hc : c ∉ ([16] : List Nat)) (j : Nat) : x c j = M c j := by
  obtain ⟨v, hK⟩ : ∃ v, x c j = v := ⟨_, rfl⟩
  rw [hK]
  refine Eq.symm ?_
  have hz := fw_144_2 hc hx hK
  exact (Eq.refl _).symm.trans hz
noncomputable def fn_146_4 (mo : Nat) (s1 : Int) (s2 : Int) (s3 : eM) : Option ((Int × Int × eM) ⊕ (eM)) :=
  if (s3 21 2) ≤ s2 then
    some (.inr (eg_u s3 21 2 s1))
  else
    if 0 ≤ s2 ∧ s2 < 500 then
    if 0 ≤ (eg_wi (s3 22 (s2).toNat)) ∧ (eg_wi (s3 22 (s2).toNat)) < (mo : Int) then
      if ¬ (s3 39 (eg_wi (s3 22 (s2).toNat)).toNat) = 0 then
          if 0 ≤ s1 ∧ s1 < 500 then
          some (.inl (eg_wi (s1 + 1), eg_wi (s2 + 1), eg_u (eg_u s3 22 (s1).toNat (s3 22 (s2).toNat)) 23 (s1).toNat (s3 23 (s2).toNat)))
          else none
        else
          if 0 ≤ (eg_wi ((eg_wi ((s3 21 5) + (s3 21 6))) - eg_wi (Int.tdiv (eg_wi ((s3 21 5) + (s3 21 6))) 500) * 500)) ∧ (eg_wi ((eg_wi ((s3 21 5) + (s3 21 6))) - eg_wi (Int.tdiv (eg_wi ((s3 21 5) + (s3 21 6))) 500) * 500)) < 500 then
          some (.inl (s1, eg_wi (s2 + 1), eg_u (eg_u (eg_u s3 24 (eg_wi ((eg_wi ((s3 21 5) + (s3 21 6))) - eg_wi (Int.tdiv (eg_wi ((s3 21 5) + (s3 21 6))) 500) * 500)).toNat (s3 22 (s2).toNat)) 25 (eg_wi ((eg_wi ((s3 21 5) + (s3 21 6))) - eg_wi (Int.tdiv (eg_wi ((s3 21 5) + (s3 21 6))) 500) * 500)).toNat (s3 23 (s2).toNat)) 21 6 (eg_wi ((s3 21 6) + 1))))
          else none
      else none
    else none
/-- 146: WeakScheme$Finalizers.release([B)V -/
noncomputable def fn_146 (mo : Nat) (M : eM) : Option (eM) :=
  lp (fun z => fn_146_4 mo z.1 z.2.1 z.2.2) (0, 0, M)
set_option maxRecDepth 100000 in
theorem ft_146_4 {cn mo : Nat} {sc : eg_Sc} {d : Nat} {Q : Option eg_V → eg_H → Prop} {s : Int × Int × eM} {x : eM} (hx : lp (fun z => fn_146_4 mo z.1 z.2.1 z.2.2) s = some x) (hK : (fun (x : eM) => Q (none) (em_L cn mo, eh_R, x)) x) : ∀ (w4 : Option eg_V), eg_X sc (eg_wp sc d) eg_p146 none 0 0 Q 4 [some (.inr (.inr (some 21))), some (.inr (.inr (some 39))), some (.inl s.1), some (.inl s.2.1), w4] [] (em_L cn mo, eh_R, s.2.2) 0 0 := by
  refine lp_sound (P := (fun (s : Int × Int × eM) => ∀ (w4 : Option eg_V), eg_X sc (eg_wp sc d) eg_p146 none 0 0 Q 4 [some (.inr (.inr (some 21))), some (.inr (.inr (some 39))), some (.inl s.1), some (.inl s.2.1), w4] [] (em_L cn mo, eh_R, s.2.2) 0 0)) (K := (fun (x : eM) => Q (none) (em_L cn mo, eh_R, x))) hx hK ?_
  intro s x hx hK w4
  obtain ⟨s1, s2, s3⟩ := s
  refine eg_k_iload rfl rfl ?_
  refine eg_k_aload rfl rfl ?_
  refine eg_k_gfi rfl rfl rfl ?_
  refine vk_icmp rfl hx Iff.rfl (fun c1 hx => ?_) (fun c1 hx => ?_)
  · refine eg_k_aload rfl rfl ?_
    refine eg_k_iload rfl rfl ?_
    refine eg_k_pfi rfl rfl rfl ?_
    have hx := Option.some.inj hx
    subst hx
    exact eg_k_ret rfl rfl (Nat.le_refl _) (Nat.le_refl _) hK
  · refine eg_k_aload rfl rfl ?_
    refine eg_k_aload rfl rfl ?_
    refine eg_k_gfa rfl rfl rfl eh_r21_0 ?_
    refine eg_k_iload rfl rfl ?_
    obtain ⟨b2, hx⟩ := vb_if hx
    refine eg_k_lald (k := 500) rfl rfl b2.1 b2.2 ?_
    refine eg_k_l2i rfl ?_
    obtain ⟨b3, hx⟩ := vb_if hx
    refine eg_k_bald (k := mo) rfl rfl b3.1 b3.2 ?_
    refine vk_if rfl hx Iff.rfl (fun c4 hx => ?_) (fun c4 hx => ?_)
    · refine eg_k_aload rfl rfl ?_
      refine eg_k_gfa rfl rfl rfl eh_r21_0 ?_
      refine eg_k_iload rfl rfl ?_
      refine eg_k_aload rfl rfl ?_
      refine eg_k_gfa rfl rfl rfl eh_r21_0 ?_
      refine eg_k_iload rfl rfl ?_
      refine eg_k_lald (k := 500) rfl rfl b2.1 b2.2 ?_
      obtain ⟨b6, hx⟩ := vb_if hx
      refine eg_k_last (k := 500) rfl rfl b6.1 b6.2 ?_
      refine eg_k_aload rfl rfl ?_
      refine eg_k_gfa rfl rfl rfl eh_r21_1 ?_
      refine eg_k_iload rfl rfl ?_
      refine eg_k_aload rfl rfl ?_
      refine eg_k_gfa rfl rfl rfl eh_r21_1 ?_
      refine eg_k_iload rfl rfl ?_
      refine vk_lald (k := 500) (y := s3 23 (s2).toNat) rfl rfl b2.1 b2.2 rfl ?_
      refine eg_k_last (k := 500) rfl rfl b6.1 b6.2 ?_
      refine eg_k_iinc (lv' := [some (.inr (.inr (some 21))), some (.inr (.inr (some 39))), some (.inl (eg_wi (s1 + 1))), some (.inl s2), w4]) rfl rfl rfl ?_
      refine eg_k_iinc (lv' := [some (.inr (.inr (some 21))), some (.inr (.inr (some 39))), some (.inl (eg_wi (s1 + 1))), some (.inl (eg_wi (s2 + 1))), w4]) rfl rfl rfl ?_
      refine eg_k_goto rfl ?_
      have hx := Option.some.inj hx
      subst hx
      exact hK w4
    · refine eg_k_aload rfl rfl ?_
      refine eg_k_gfi rfl rfl rfl ?_
      refine eg_k_aload rfl rfl ?_
      refine eg_k_gfi rfl rfl rfl ?_
      refine eg_k_iadd rfl ?_
      refine eg_k_ci rfl ?_
      refine eg_k_irem rfl (by decide) ?_
      refine eg_k_istore (lv' := [some (.inr (.inr (some 21))), some (.inr (.inr (some 39))), some (.inl s1), some (.inl s2), some (.inl (eg_wi ((eg_wi ((s3 21 5) + (s3 21 6))) - eg_wi (Int.tdiv (eg_wi ((s3 21 5) + (s3 21 6))) 500) * 500)))]) rfl rfl ?_
      refine eg_k_aload rfl rfl ?_
      refine eg_k_gfa rfl rfl rfl eh_r21_3 ?_
      refine eg_k_iload rfl rfl ?_
      refine eg_k_aload rfl rfl ?_
      refine eg_k_gfa rfl rfl rfl eh_r21_0 ?_
      refine eg_k_iload rfl rfl ?_
      refine eg_k_lald (k := 500) rfl rfl b2.1 b2.2 ?_
      obtain ⟨b10, hx⟩ := vb_if hx
      refine eg_k_last (k := 500) rfl rfl b10.1 b10.2 ?_
      refine eg_k_aload rfl rfl ?_
      refine eg_k_gfa rfl rfl rfl eh_r21_4 ?_
      refine eg_k_iload rfl rfl ?_
      refine eg_k_aload rfl rfl ?_
      refine eg_k_gfa rfl rfl rfl eh_r21_1 ?_
      refine eg_k_iload rfl rfl ?_
      refine vk_lald (k := 500) (y := s3 23 (s2).toNat) rfl rfl b2.1 b2.2 rfl ?_
      refine eg_k_last (k := 500) rfl rfl b10.1 b10.2 ?_
      refine eg_k_aload rfl rfl ?_
      refine eg_k_dupr rfl ?_
      refine eg_k_gfie (x := s3 21 6) rfl rfl rfl rfl ?_
      refine eg_k_ci rfl ?_
      refine eg_k_iadd rfl ?_
      refine eg_k_pfi rfl rfl rfl ?_
      refine eg_k_goto rfl ?_
      refine eg_k_iinc (lv' := [some (.inr (.inr (some 21))), some (.inr (.inr (some 39))), some (.inl s1), some (.inl (eg_wi (s2 + 1))), some (.inl (eg_wi ((eg_wi ((s3 21 5) + (s3 21 6))) - eg_wi (Int.tdiv (eg_wi ((s3 21 5) + (s3 21 6))) 500) * 500)))]) rfl rfl rfl ?_
      refine eg_k_goto rfl ?_
      have hx := Option.some.inj hx
      subst hx
      exact hK (some (.inl (eg_wi ((eg_wi ((s3 21 5) + (s3 21 6))) - eg_wi (Int.tdiv (eg_wi ((s3 21 5) + (s3 21 6))) 500) * 500))))
set_option maxRecDepth 100000 in
theorem ft_146 {cn mo : Nat} {sc : eg_Sc} {d : Nat} {M : eM} {Q : Option eg_V → eg_H → Prop} {x : eM} (hx : fn_146 mo M = some x) (hK : Q (none) (em_L cn mo, eh_R, x)) : eg_wp sc (d + 1) 146 [.inr (.inr (some 21)), .inr (.inr (some 39))] (em_L cn mo, eh_R, M) 0 0 Q := by
  refine eg_in (lv := [some (.inr (.inr (some 21))), some (.inr (.inr (some 39))), none, none, none]) eg_tj146 (Nat.le_of_ble_eq_true rfl) rfl ?_
  refine eg_k_ci rfl ?_
  refine eg_k_istore (lv' := [some (.inr (.inr (some 21))), some (.inr (.inr (some 39))), some (.inl 0), none, none]) rfl rfl ?_
  refine eg_k_ci rfl ?_
  refine eg_k_istore (lv' := [some (.inr (.inr (some 21))), some (.inr (.inr (some 39))), some (.inl 0), some (.inl 0), none]) rfl rfl ?_
  have hz := ft_146_4 (d := d) (sc := sc) hx hK
  exact hz none
theorem fw_146_4 {mo : Nat} {c j : Nat} {v : Int} {s : Int × Int × eM} {x : eM} (hc : c ∉ ([21, 22, 23, 24, 25] : List Nat)) (hx : lp (fun z => fn_146_4 mo z.1 z.2.1 z.2.2) s = some x) (hK : (fun (x : eM) => x c j = v) x) : s.2.2 c j = v := by
  refine lp_sound (P := (fun (s : Int × Int × eM) => s.2.2 c j = v)) (K := (fun (x : eM) => x c j = v)) hx hK ?_
  intro s x hx hK
  obtain ⟨s1, s2, s3⟩ := s
  refine vb_ite hx (fun _ hx => ?_) (fun _ hx => ?_)
  · have hx := Option.some.inj hx
    subst hx
    exact ((congrFun (eg_u_ne (vne hc (a := 21) (by decide))) j).trans rfl).symm.trans hK
  · obtain ⟨_, hx⟩ := vb_if hx
    obtain ⟨_, hx⟩ := vb_if hx
    refine vb_ite hx (fun _ hx => ?_) (fun _ hx => ?_)
    · obtain ⟨_, hx⟩ := vb_if hx
      have hx := Option.some.inj hx
      subst hx
      exact ((congrFun (eg_u_ne (vne hc (a := 23) (by decide))) j).trans ((congrFun (eg_u_ne (vne hc (a := 22) (by decide))) j).trans rfl)).symm.trans hK
    · obtain ⟨_, hx⟩ := vb_if hx
      have hx := Option.some.inj hx
      subst hx
      exact ((congrFun (eg_u_ne (vne hc (a := 21) (by decide))) j).trans ((congrFun (eg_u_ne (vne hc (a := 25) (by decide))) j).trans ((congrFun (eg_u_ne (vne hc (a := 24) (by decide))) j).trans rfl))).symm.trans hK
theorem fw_146 {mo : Nat} {M : eM} {c : Nat} {x : eM} (hx : fn_146 mo M = some x) (hc : c ∉ ([21, 22, 23, 24, 25] : List Nat)) (j : Nat) : x c j = M c j := by
  obtain ⟨v, hK⟩ : ∃ v, x c j = v := ⟨_, rfl⟩
  rw [hK]
  refine Eq.symm ?_
  have hz := fw_146_4 hc hx hK
  exact (Eq.refl _).symm.trans hz
noncomputable def fn_147_6 (cn : Nat) (mo : Nat) (s1 : Int) (s2 : Int) (s3 : eM) : Option ((Int × Int × eM) ⊕ (eM)) :=
  if (s3 15 6) ≤ s2 then
    some (.inr (eg_u s3 15 6 s1))
  else
    if 0 ≤ s2 ∧ s2 < (cn : Int) then
    if 0 ≤ (eg_wi (s3 16 (s2).toNat)) ∧ (eg_wi (s3 16 (s2).toNat)) < (mo : Int) then
      if ¬ (s3 39 (eg_wi (s3 16 (s2).toNat)).toNat) = 0 then
          if 0 ≤ s2 ∧ 0 ≤ s1 ∧ 0 ≤ (s3 19 (eg_wi (s3 16 (s2).toNat)).toNat) ∧ s2 + (s3 19 (eg_wi (s3 16 (s2).toNat)).toNat) ≤ (cn : Int) ∧ s1 + (s3 19 (eg_wi (s3 16 (s2).toNat)).toNat) ≤ (cn : Int) then
          some (.inl (eg_wi (s1 + (s3 19 (eg_wi (s3 16 (s2).toNat)).toNat)), eg_wi (s2 + (s3 19 (eg_wi (s3 16 (s2).toNat)).toNat)), eg_u (eg_cp s3 16 16 (s2).toNat (s1).toNat (s3 19 (eg_wi (s3 16 (s2).toNat)).toNat).toNat) 17 (eg_wi (s3 16 (s2).toNat)).toNat s1))
          else none
        else
          some (.inl (s1, eg_wi (s2 + (s3 19 (eg_wi (s3 16 (s2).toNat)).toNat)), eg_u (eg_u (eg_u (eg_u s3 18 (eg_wi (s3 16 (s2).toNat)).toNat 0) 17 (eg_wi (s3 16 (s2).toNat)).toNat (s3 15 9)) 15 9 (eg_wi (s3 16 (s2).toNat))) 15 7 (eg_wi ((s3 15 7) - 1))))
      else none
    else none
/-- 147: WeakScheme$Heap.keep([B)V -/
noncomputable def fn_147 (cn : Nat) (mo : Nat) (M : eM) : Option (eM) :=
  lp (fun z => fn_147_6 cn mo z.1 z.2.1 z.2.2) (0, 0, M)
set_option maxRecDepth 100000 in
theorem ft_147_6 {cn mo : Nat} {sc : eg_Sc} {d : Nat} {Q : Option eg_V → eg_H → Prop} {s : Int × Int × eM} {x : eM} (hx : lp (fun z => fn_147_6 cn mo z.1 z.2.1 z.2.2) s = some x) (hK : (fun (x : eM) => Q (none) (em_L cn mo, eh_R, x)) x) : ∀ (w3 w5 w6 : Option eg_V), eg_X sc (eg_wp sc d) eg_p147 none 0 0 Q 6 [some (.inr (.inr (some 15))), some (.inr (.inr (some 39))), some (.inl s.1), w3, some (.inl s.2.1), w5, w6] [] (em_L cn mo, eh_R, s.2.2) 0 0 := by
  refine lp_sound (P := (fun (s : Int × Int × eM) => ∀ (w3 w5 w6 : Option eg_V), eg_X sc (eg_wp sc d) eg_p147 none 0 0 Q 6 [some (.inr (.inr (some 15))), some (.inr (.inr (some 39))), some (.inl s.1), w3, some (.inl s.2.1), w5, w6] [] (em_L cn mo, eh_R, s.2.2) 0 0)) (K := (fun (x : eM) => Q (none) (em_L cn mo, eh_R, x))) hx hK ?_
  intro s x hx hK w3 w5 w6
  obtain ⟨s1, s2, s3⟩ := s
  refine eg_k_iload rfl rfl ?_
  refine eg_k_aload rfl rfl ?_
  refine eg_k_gfi rfl rfl rfl ?_
  refine vk_icmp rfl hx Iff.rfl (fun c1 hx => ?_) (fun c1 hx => ?_)
  · refine eg_k_aload rfl rfl ?_
    refine eg_k_iload rfl rfl ?_
    refine eg_k_pfi rfl rfl rfl ?_
    have hx := Option.some.inj hx
    subst hx
    exact eg_k_ret rfl rfl (Nat.le_refl _) (Nat.le_refl _) hK
  · refine eg_k_aload rfl rfl ?_
    refine eg_k_gfa rfl rfl rfl eh_r15_1 ?_
    refine eg_k_iload rfl rfl ?_
    obtain ⟨b2, hx⟩ := vb_if hx
    refine eg_k_lald (k := cn) rfl rfl b2.1 b2.2 ?_
    refine eg_k_l2i rfl ?_
    refine eg_k_istore (lv' := [some (.inr (.inr (some 15))), some (.inr (.inr (some 39))), some (.inl s1), w3, some (.inl s2), some (.inl (eg_wi (s3 16 (s2).toNat))), w6]) rfl rfl ?_
    refine eg_k_aload rfl rfl ?_
    refine eg_k_gfa rfl rfl rfl eh_r15_4 ?_
    refine eg_k_iload rfl rfl ?_
    obtain ⟨b3, hx⟩ := vb_if hx
    refine eg_k_iald (k := mo) rfl rfl b3.1 b3.2 ?_
    refine eg_k_istore (lv' := [some (.inr (.inr (some 15))), some (.inr (.inr (some 39))), some (.inl s1), w3, some (.inl s2), some (.inl (eg_wi (s3 16 (s2).toNat))), some (.inl (s3 19 (eg_wi (s3 16 (s2).toNat)).toNat))]) rfl rfl ?_
    refine eg_k_iload rfl rfl ?_
    refine eg_k_iload rfl rfl ?_
    refine eg_k_iadd rfl ?_
    refine eg_k_istore (lv' := [some (.inr (.inr (some 15))), some (.inr (.inr (some 39))), some (.inl s1), some (.inl (eg_wi (s2 + (s3 19 (eg_wi (s3 16 (s2).toNat)).toNat)))), some (.inl s2), some (.inl (eg_wi (s3 16 (s2).toNat))), some (.inl (s3 19 (eg_wi (s3 16 (s2).toNat)).toNat))]) rfl rfl ?_
    refine eg_k_aload rfl rfl ?_
    refine eg_k_iload rfl rfl ?_
    refine eg_k_bald (k := mo) rfl rfl b3.1 b3.2 ?_
    refine vk_if rfl hx Iff.rfl (fun c5 hx => ?_) (fun c5 hx => ?_)
    · refine eg_k_aload rfl rfl ?_
      refine eg_k_gfa rfl rfl rfl eh_r15_1 ?_
      refine eg_k_iload rfl rfl ?_
      refine eg_k_aload rfl rfl ?_
      refine eg_k_gfa rfl rfl rfl eh_r15_1 ?_
      refine eg_k_iload rfl rfl ?_
      refine eg_k_iload rfl rfl ?_
      obtain ⟨b6, hx⟩ := vb_if hx
      refine vk_copy (n0 := cn) (n1 := cn) (ty := .long) rfl rfl rfl (Or.inl rfl) (Nat.le_of_ble_eq_true rfl) b6 ?_
      refine eg_k_aload rfl rfl ?_
      refine eg_k_gfa rfl rfl rfl eh_r15_2 ?_
      refine eg_k_iload rfl rfl ?_
      refine eg_k_iload rfl rfl ?_
      refine eg_k_iast (k := mo) rfl rfl b3.1 b3.2 ?_
      refine eg_k_iload rfl rfl ?_
      refine eg_k_iload rfl rfl ?_
      refine eg_k_iadd rfl ?_
      refine eg_k_istore (lv' := [some (.inr (.inr (some 15))), some (.inr (.inr (some 39))), some (.inl (eg_wi (s1 + (s3 19 (eg_wi (s3 16 (s2).toNat)).toNat)))), some (.inl (eg_wi (s2 + (s3 19 (eg_wi (s3 16 (s2).toNat)).toNat)))), some (.inl s2), some (.inl (eg_wi (s3 16 (s2).toNat))), some (.inl (s3 19 (eg_wi (s3 16 (s2).toNat)).toNat))]) rfl rfl ?_
      refine eg_k_iload rfl rfl ?_
      refine eg_k_istore (lv' := [some (.inr (.inr (some 15))), some (.inr (.inr (some 39))), some (.inl (eg_wi (s1 + (s3 19 (eg_wi (s3 16 (s2).toNat)).toNat)))), some (.inl (eg_wi (s2 + (s3 19 (eg_wi (s3 16 (s2).toNat)).toNat)))), some (.inl (eg_wi (s2 + (s3 19 (eg_wi (s3 16 (s2).toNat)).toNat)))), some (.inl (eg_wi (s3 16 (s2).toNat))), some (.inl (s3 19 (eg_wi (s3 16 (s2).toNat)).toNat))]) rfl rfl ?_
      refine eg_k_goto rfl ?_
      have hx := Option.some.inj hx
      subst hx
      exact hK (some (.inl (eg_wi (s2 + (s3 19 (eg_wi (s3 16 (s2).toNat)).toNat))))) (some (.inl (eg_wi (s3 16 (s2).toNat)))) (some (.inl (s3 19 (eg_wi (s3 16 (s2).toNat)).toNat)))
    · refine eg_k_aload rfl rfl ?_
      refine eg_k_gfa rfl rfl rfl eh_r15_3 ?_
      refine eg_k_iload rfl rfl ?_
      refine eg_k_ci rfl ?_
      refine eg_k_iast (k := mo) rfl rfl b3.1 b3.2 ?_
      refine eg_k_aload rfl rfl ?_
      refine eg_k_gfa rfl rfl rfl eh_r15_2 ?_
      refine eg_k_iload rfl rfl ?_
      refine eg_k_aload rfl rfl ?_
      refine eg_k_gfie (x := s3 15 9) rfl rfl rfl rfl ?_
      refine eg_k_iast (k := mo) rfl rfl b3.1 b3.2 ?_
      refine eg_k_aload rfl rfl ?_
      refine eg_k_iload rfl rfl ?_
      refine eg_k_pfi rfl rfl rfl ?_
      refine eg_k_aload rfl rfl ?_
      refine eg_k_dupr rfl ?_
      refine eg_k_gfie (x := s3 15 7) rfl rfl rfl rfl ?_
      refine eg_k_ci rfl ?_
      refine eg_k_isub rfl ?_
      refine eg_k_pfi rfl rfl rfl ?_
      refine eg_k_goto rfl ?_
      refine eg_k_iload rfl rfl ?_
      refine eg_k_istore (lv' := [some (.inr (.inr (some 15))), some (.inr (.inr (some 39))), some (.inl s1), some (.inl (eg_wi (s2 + (s3 19 (eg_wi (s3 16 (s2).toNat)).toNat)))), some (.inl (eg_wi (s2 + (s3 19 (eg_wi (s3 16 (s2).toNat)).toNat)))), some (.inl (eg_wi (s3 16 (s2).toNat))), some (.inl (s3 19 (eg_wi (s3 16 (s2).toNat)).toNat))]) rfl rfl ?_
      refine eg_k_goto rfl ?_
      have hx := Option.some.inj hx
      subst hx
      exact hK (some (.inl (eg_wi (s2 + (s3 19 (eg_wi (s3 16 (s2).toNat)).toNat))))) (some (.inl (eg_wi (s3 16 (s2).toNat)))) (some (.inl (s3 19 (eg_wi (s3 16 (s2).toNat)).toNat)))
set_option maxRecDepth 100000 in
theorem ft_147 {cn mo : Nat} {sc : eg_Sc} {d : Nat} {M : eM} {Q : Option eg_V → eg_H → Prop} {x : eM} (hx : fn_147 cn mo M = some x) (hK : Q (none) (em_L cn mo, eh_R, x)) : eg_wp sc (d + 1) 147 [.inr (.inr (some 15)), .inr (.inr (some 39))] (em_L cn mo, eh_R, M) 0 0 Q := by
  refine eg_in (lv := [some (.inr (.inr (some 15))), some (.inr (.inr (some 39))), none, none, none, none, none]) eg_tj147 (Nat.le_of_ble_eq_true rfl) rfl ?_
  refine eg_k_ci rfl ?_
  refine eg_k_istore (lv' := [some (.inr (.inr (some 15))), some (.inr (.inr (some 39))), some (.inl 0), none, none, none, none]) rfl rfl ?_
  refine eg_k_ci rfl ?_
  refine eg_k_istore (lv' := [some (.inr (.inr (some 15))), some (.inr (.inr (some 39))), some (.inl 0), some (.inl 0), none, none, none]) rfl rfl ?_
  refine eg_k_ci rfl ?_
  refine eg_k_istore (lv' := [some (.inr (.inr (some 15))), some (.inr (.inr (some 39))), some (.inl 0), some (.inl 0), some (.inl 0), none, none]) rfl rfl ?_
  have hz := ft_147_6 (d := d) (sc := sc) hx hK
  exact hz (some (.inl 0)) none none
theorem fw_147_6 {cn : Nat} {mo : Nat} {c j : Nat} {v : Int} {s : Int × Int × eM} {x : eM} (hc : c ∉ ([15, 16, 17, 18] : List Nat)) (hx : lp (fun z => fn_147_6 cn mo z.1 z.2.1 z.2.2) s = some x) (hK : (fun (x : eM) => x c j = v) x) : s.2.2 c j = v := by
  refine lp_sound (P := (fun (s : Int × Int × eM) => s.2.2 c j = v)) (K := (fun (x : eM) => x c j = v)) hx hK ?_
  intro s x hx hK
  obtain ⟨s1, s2, s3⟩ := s
  refine vb_ite hx (fun _ hx => ?_) (fun _ hx => ?_)
  · have hx := Option.some.inj hx
    subst hx
    exact ((congrFun (eg_u_ne (vne hc (a := 15) (by decide))) j).trans rfl).symm.trans hK
  · obtain ⟨_, hx⟩ := vb_if hx
    obtain ⟨_, hx⟩ := vb_if hx
    refine vb_ite hx (fun _ hx => ?_) (fun _ hx => ?_)
    · obtain ⟨_, hx⟩ := vb_if hx
      have hx := Option.some.inj hx
      subst hx
      exact ((congrFun (eg_u_ne (vne hc (a := 17) (by decide))) j).trans ((congrFun (ev_cp_ne (vne hc (a := 16) (by decide))) j).trans rfl)).symm.trans hK
    · have hx := Option.some.inj hx
      subst hx
      exact ((congrFun (eg_u_ne (vne hc (a := 15) (by decide))) j).trans ((congrFun (eg_u_ne (vne hc (a := 15) (by decide))) j).trans ((congrFun (eg_u_ne (vne hc (a := 17) (by decide))) j).trans ((congrFun (eg_u_ne (vne hc (a := 18) (by decide))) j).trans rfl)))).symm.trans hK
theorem fw_147 {cn : Nat} {mo : Nat} {M : eM} {c : Nat} {x : eM} (hx : fn_147 cn mo M = some x) (hc : c ∉ ([15, 16, 17, 18] : List Nat)) (j : Nat) : x c j = M c j := by
  obtain ⟨v, hK⟩ : ∃ v, x c j = v := ⟨_, rfl⟩
  rw [hK]
  refine Eq.symm ?_
  have hz := fw_147_6 hc hx hK
  exact (Eq.refl _).symm.trans hz
/-- 132: WeakScheme$Collector.collect()V -/
noncomputable def fn_132 (cn : Nat) (mo : Nat) (M : eM) : Option (eM) :=
  (fn_133 cn mo (eg_u M 38 5 (eg_wi ((M 38 5) + 1)))).bind fun m3 =>
  (fn_144 cn mo m3).bind fun m6 =>
  (fn_146 mo m6).bind fun m9 =>
  if (m9 21 6) ≤ (m6 21 6) then
    (fn_147 cn mo m9).bind fun m13 =>
    some m13
  else
    (fn_133 cn mo m9).bind fun m16 =>
    (fn_147 cn mo m16).bind fun m19 =>
    some m19
set_option maxRecDepth 100000 in
theorem ft_132 {cn mo : Nat} {sc : eg_Sc} {d : Nat} {M : eM} {Q : Option eg_V → eg_H → Prop} {x : eM} (hx : fn_132 cn mo M = some x) (hK : Q (none) (em_L cn mo, eh_R, x)) : eg_wp sc (d + 6) 132 [.inr (.inr (some 38))] (em_L cn mo, eh_R, M) 0 0 Q := by
  refine eg_in (lv := [some (.inr (.inr (some 38))), none]) eg_tj132 (Nat.le_of_ble_eq_true rfl) rfl ?_
  refine eg_k_aload rfl rfl ?_
  refine eg_k_dupr rfl ?_
  refine eg_k_gfi rfl rfl rfl ?_
  refine eg_k_ci rfl ?_
  refine eg_k_iadd rfl ?_
  refine eg_k_pfi rfl rfl rfl ?_
  refine eg_k_aload rfl rfl ?_
  obtain ⟨m3, h1, hx⟩ := vb_bind hx
  refine eg_k_call (c1 := 0) (z1 := 0) (as := [.inr (.inr (some 38))]) (rest := []) rfl eg_tj133 (Nat.le_of_ble_eq_true rfl) rfl rfl rfl (Nat.le_of_ble_eq_true rfl) (Nat.le_refl _) (Nat.le_refl _) ?_ (fun Q hQ => ft_133 h1 hQ)
  refine eg_k_aload rfl rfl ?_
  obtain ⟨m6, h4, hx⟩ := vb_bind hx
  refine eg_k_call (c1 := 0) (z1 := 0) (as := [.inr (.inr (some 38))]) (rest := []) rfl eg_tj144 (Nat.le_of_ble_eq_true rfl) rfl rfl rfl (Nat.le_of_ble_eq_true rfl) (Nat.le_refl _) (Nat.le_refl _) ?_ (fun Q hQ => ft_144 h4 hQ)
  refine eg_k_aload rfl rfl ?_
  refine eg_k_gfr rfl rfl rfl eh_r38_2 ?_
  refine eg_k_gfi rfl rfl rfl ?_
  refine eg_k_istore (lv' := [some (.inr (.inr (some 38))), some (.inl (m6 21 6))]) rfl rfl ?_
  refine eg_k_aload rfl rfl ?_
  refine eg_k_gfr rfl rfl rfl eh_r38_2 ?_
  refine eg_k_aload rfl rfl ?_
  refine eg_k_gfa rfl rfl rfl eh_r38_6 ?_
  obtain ⟨m9, h7, hx⟩ := vb_bind hx
  refine eg_k_call (c1 := 0) (z1 := 0) (as := [.inr (.inr (some 21)), .inr (.inr (some 39))]) (rest := []) rfl eg_tj146 (Nat.le_of_ble_eq_true rfl) rfl rfl rfl (Nat.le_of_ble_eq_true rfl) (Nat.le_refl _) (Nat.le_refl _) ?_ (fun Q hQ => ft_146 h7 hQ)
  refine eg_k_aload rfl rfl ?_
  refine eg_k_gfr rfl rfl rfl eh_r38_2 ?_
  refine eg_k_gfi rfl rfl rfl ?_
  refine eg_k_iload rfl rfl ?_
  refine vk_icmp rfl hx Iff.rfl (fun c10 hx => ?_) (fun c10 hx => ?_)
  · refine eg_k_aload rfl rfl ?_
    refine eg_k_gfr rfl rfl rfl eh_r38_1 ?_
    refine eg_k_aload rfl rfl ?_
    refine eg_k_gfa rfl rfl rfl eh_r38_6 ?_
    obtain ⟨m13, h11, hx⟩ := vb_bind hx
    refine eg_k_call (c1 := 0) (z1 := 0) (as := [.inr (.inr (some 15)), .inr (.inr (some 39))]) (rest := []) rfl eg_tj147 (Nat.le_of_ble_eq_true rfl) rfl rfl rfl (Nat.le_of_ble_eq_true rfl) (Nat.le_refl _) (Nat.le_refl _) ?_ (fun Q hQ => ft_147 h11 hQ)
    have hx := Option.some.inj hx
    subst hx
    exact eg_k_ret rfl rfl (Nat.le_refl _) (Nat.le_refl _) hK
  · refine eg_k_aload rfl rfl ?_
    obtain ⟨m16, h14, hx⟩ := vb_bind hx
    refine eg_k_call (c1 := 0) (z1 := 0) (as := [.inr (.inr (some 38))]) (rest := []) rfl eg_tj133 (Nat.le_of_ble_eq_true rfl) rfl rfl rfl (Nat.le_of_ble_eq_true rfl) (Nat.le_refl _) (Nat.le_refl _) ?_ (fun Q hQ => ft_133 h14 hQ)
    refine eg_k_aload rfl rfl ?_
    refine eg_k_gfr rfl rfl rfl eh_r38_1 ?_
    refine eg_k_aload rfl rfl ?_
    refine eg_k_gfa rfl rfl rfl eh_r38_6 ?_
    obtain ⟨m19, h17, hx⟩ := vb_bind hx
    refine eg_k_call (c1 := 0) (z1 := 0) (as := [.inr (.inr (some 15)), .inr (.inr (some 39))]) (rest := []) rfl eg_tj147 (Nat.le_of_ble_eq_true rfl) rfl rfl rfl (Nat.le_of_ble_eq_true rfl) (Nat.le_refl _) (Nat.le_refl _) ?_ (fun Q hQ => ft_147 h17 hQ)
    have hx := Option.some.inj hx
    subst hx
    exact eg_k_ret rfl rfl (Nat.le_refl _) (Nat.le_refl _) hK
theorem fw_132 {cn : Nat} {mo : Nat} {M : eM} {c : Nat} {x : eM} (hx : fn_132 cn mo M = some x) (hc : c ∉ ([15, 16, 17, 18, 21, 22, 23, 24, 25, 38, 39, 40, 41, 42] : List Nat)) (j : Nat) : x c j = M c j := by
  obtain ⟨v, hK⟩ : ∃ v, x c j = v := ⟨_, rfl⟩
  rw [hK]
  refine Eq.symm ?_
  obtain ⟨m3, h1, hx⟩ := vb_bind hx
  obtain ⟨m6, h4, hx⟩ := vb_bind hx
  obtain ⟨m9, h7, hx⟩ := vb_bind hx
  refine vb_ite hx (fun _ hx => ?_) (fun _ hx => ?_)
  · obtain ⟨m13, h11, hx⟩ := vb_bind hx
    have hx := Option.some.inj hx
    subst hx
    exact ((fw_147 h11 (vsub hc (by decide)) j).trans ((fw_146 h7 (vsub hc (by decide)) j).trans ((fw_144 h4 (vsub hc (by decide)) j).trans ((fw_133 h1 (vsub hc (by decide)) j).trans ((congrFun (eg_u_ne (vne hc (a := 38) (by decide))) j).trans rfl))))).symm.trans hK
  · obtain ⟨m16, h14, hx⟩ := vb_bind hx
    obtain ⟨m19, h17, hx⟩ := vb_bind hx
    have hx := Option.some.inj hx
    subst hx
    exact ((fw_147 h17 (vsub hc (by decide)) j).trans ((fw_133 h14 (vsub hc (by decide)) j).trans ((fw_146 h7 (vsub hc (by decide)) j).trans ((fw_144 h4 (vsub hc (by decide)) j).trans ((fw_133 h1 (vsub hc (by decide)) j).trans ((congrFun (eg_u_ne (vne hc (a := 38) (by decide))) j).trans rfl)))))).symm.trans hK
