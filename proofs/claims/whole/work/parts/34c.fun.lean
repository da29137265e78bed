/-- 73: WeakScheme$Held.value(II)J -/
noncomputable def fn_73 (a : Int) (b : Int) (M : eM) : Option (Int) :=
  if 0 ≤ (eg_wi ((eg_wi (a * 9)) + b)) ∧ (eg_wi ((eg_wi (a * 9)) + b)) < 18000 then
  some (M 35 (eg_wi ((eg_wi (a * 9)) + b)).toNat)
  else none
set_option maxRecDepth 100000 in
theorem ft_73 {cn mo : Nat} {sc : eg_Sc} {d : Nat} {M : eM} {Q : Option eg_V → eg_H → Prop} {a : Int} {b : Int} {x : Int} (hx : fn_73 a b M = some x) (hK : Q (some (.inr (.inl x))) (em_L cn mo, eh_R, M)) : eg_wp sc (d + 1) 73 [.inr (.inr (some 29)), .inl a, .inl b] (em_L cn mo, eh_R, M) 0 0 Q := by
  refine eg_in (lv := [some (.inr (.inr (some 29))), some (.inl a), some (.inl b)]) eg_tj73 (Nat.le_of_ble_eq_true rfl) rfl ?_
  refine eg_k_aload rfl rfl ?_
  refine eg_k_gfa rfl rfl rfl eh_r29_6 ?_
  refine eg_k_iload rfl rfl ?_
  refine eg_k_ci rfl ?_
  refine eg_k_imul rfl ?_
  refine eg_k_iload rfl rfl ?_
  refine eg_k_iadd rfl ?_
  obtain ⟨b1, hx⟩ := vb_if hx
  refine eg_k_lald (k := 18000) rfl rfl b1.1 b1.2 ?_
  have hx := Option.some.inj hx
  subst hx
  exact eg_k_lret rfl rfl (Nat.le_refl _) (Nat.le_refl _) hK
/-- 76: WeakScheme$Heap.is(JI)Z -/
noncomputable def fn_76 (mo : Nat) (a : Int) (b : Int) (M : eM) : Option (Int) :=
  if ¬ (eb_lshr a 32) = 4 then
    some 0
  else
    if 0 ≤ (eg_wi a) ∧ (eg_wi a) < (mo : Int) then
    if ¬ (M 18 (eg_wi a).toNat) = b then
        some 0
      else
        some 1
    else none
set_option maxRecDepth 100000 in
theorem ft_76 {cn mo : Nat} {sc : eg_Sc} {d : Nat} {M : eM} {Q : Option eg_V → eg_H → Prop} {a : Int} {b : Int} {x : Int} (hx : fn_76 mo a b M = some x) (hK : Q (some (.inl x)) (em_L cn mo, eh_R, M)) : eg_wp sc (d + 1) 76 [.inr (.inr (some 15)), .inr (.inl a), .inl b] (em_L cn mo, eh_R, M) 0 0 Q := by
  refine eg_in (lv := [some (.inr (.inr (some 15))), some (.inr (.inl a)), none, some (.inl b)]) eg_tj76 (Nat.le_of_ble_eq_true rfl) rfl ?_
  refine eg_k_lload rfl rfl ?_
  refine eg_k_ci rfl ?_
  refine eg_k_lshr rfl ?_
  refine eg_k_cl rfl ?_
  refine vk_lcmp rfl rfl hx Iff.rfl (fun c1 hx => ?_) (fun c1 hx => ?_)
  · refine eg_k_ci rfl ?_
    have hx := Option.some.inj hx
    subst hx
    exact eg_k_iret rfl (Or.inl rfl) (Nat.le_refl _) (Nat.le_refl _) hK
  · refine eg_k_aload rfl rfl ?_
    refine eg_k_gfa rfl rfl rfl eh_r15_3 ?_
    refine eg_k_lload rfl rfl ?_
    refine eg_k_l2i rfl ?_
    obtain ⟨b2, hx⟩ := vb_if hx
    refine eg_k_iald (k := mo) rfl rfl b2.1 b2.2 ?_
    refine eg_k_iload rfl rfl ?_
    refine vk_icmp rfl hx Iff.rfl (fun c3 hx => ?_) (fun c3 hx => ?_)
    · refine eg_k_ci rfl ?_
      have hx := Option.some.inj hx
      subst hx
      exact eg_k_iret rfl (Or.inl rfl) (Nat.le_refl _) (Nat.le_refl _) hK
    · refine eg_k_ci rfl ?_
      refine eg_k_goto rfl ?_
      have hx := Option.some.inj hx
      subst hx
      exact eg_k_iret rfl (Or.inr rfl) (Nat.le_refl _) (Nat.le_refl _) hK
/-- 78: WeakScheme$Heap.get(II)J -/
noncomputable def fn_78 (cn : Nat) (mo : Nat) (a : Int) (b : Int) (M : eM) : Option (Int) :=
  if 0 ≤ a ∧ a < (mo : Int) then
  if 0 ≤ (eg_wi ((M 17 (a).toNat) + b)) ∧ (eg_wi ((M 17 (a).toNat) + b)) < (cn : Int) then
    some (M 16 (eg_wi ((M 17 (a).toNat) + b)).toNat)
    else none
  else none
set_option maxRecDepth 100000 in
theorem ft_78 {cn mo : Nat} {sc : eg_Sc} {d : Nat} {M : eM} {Q : Option eg_V → eg_H → Prop} {a : Int} {b : Int} {x : Int} (hx : fn_78 cn mo a b M = some x) (hK : Q (some (.inr (.inl x))) (em_L cn mo, eh_R, M)) : eg_wp sc (d + 1) 78 [.inr (.inr (some 15)), .inl a, .inl b] (em_L cn mo, eh_R, M) 0 0 Q := by
  refine eg_in (lv := [some (.inr (.inr (some 15))), some (.inl a), some (.inl b)]) eg_tj78 (Nat.le_of_ble_eq_true rfl) rfl ?_
  refine eg_k_aload rfl rfl ?_
  refine eg_k_gfa rfl rfl rfl eh_r15_1 ?_
  refine eg_k_aload rfl rfl ?_
  refine eg_k_gfa rfl rfl rfl eh_r15_2 ?_
  refine eg_k_iload rfl rfl ?_
  obtain ⟨b1, hx⟩ := vb_if hx
  refine eg_k_iald (k := mo) rfl rfl b1.1 b1.2 ?_
  refine eg_k_iload rfl rfl ?_
  refine eg_k_iadd rfl ?_
  obtain ⟨b2, hx⟩ := vb_if hx
  refine eg_k_lald (k := cn) rfl rfl b2.1 b2.2 ?_
  have hx := Option.some.inj hx
  subst hx
  exact eg_k_lret rfl rfl (Nat.le_refl _) (Nat.le_refl _) hK
/-- 77: WeakScheme$Operations.namesOf(I)I -/
noncomputable def fn_77 (cn : Nat) (mo : Nat) (a : Int) (M : eM) : Option (Int) :=
  (fn_78 cn mo a 1 M).bind fun r2 =>
  (fn_58 (eg_wi ((eg_wi r2) + 2)) M).bind fun r5 =>
  some r5
set_option maxRecDepth 100000 in
theorem ft_77 {cn mo : Nat} {sc : eg_Sc} {d : Nat} {M : eM} {Q : Option eg_V → eg_H → Prop} {a : Int} {x : Int} (hx : fn_77 cn mo a M = some x) (hK : Q (some (.inl x)) (em_L cn mo, eh_R, M)) : eg_wp sc (d + 2) 77 [.inr (.inr (some 43)), .inl a] (em_L cn mo, eh_R, M) 0 0 Q := by
  refine eg_in (lv := [some (.inr (.inr (some 43))), some (.inl a)]) eg_tj77 (Nat.le_of_ble_eq_true rfl) rfl ?_
  refine eg_k_aload rfl rfl ?_
  refine eg_k_gfr rfl rfl rfl eh_r43_0 ?_
  refine eg_k_aload rfl rfl ?_
  refine eg_k_gfr rfl rfl rfl eh_r43_1 ?_
  refine eg_k_iload rfl rfl ?_
  refine eg_k_ci rfl ?_
  obtain ⟨r2, h1, hx⟩ := vb_bind hx
  refine eg_k_call (c1 := 0) (z1 := 0) (as := [.inr (.inr (some 15)), .inl a, .inl 1]) (rest := [.inr (.inr (some 1))]) rfl eg_tj78 (Nat.le_of_ble_eq_true rfl) rfl rfl rfl (Nat.le_of_ble_eq_true rfl) (Nat.le_refl _) (Nat.le_refl _) ?_ (fun Q hQ => ft_78 h1 hQ)
  refine eg_k_l2i rfl ?_
  refine eg_k_ci rfl ?_
  refine eg_k_iadd rfl ?_
  obtain ⟨r5, h4, hx⟩ := vb_bind hx
  refine eg_k_call (c1 := 0) (z1 := 0) (as := [.inr (.inr (some 1)), .inl (eg_wi ((eg_wi r2) + 2))]) (rest := []) rfl eg_tj58 (Nat.le_of_ble_eq_true rfl) rfl rfl rfl (Nat.le_of_ble_eq_true rfl) (Nat.le_refl _) (Nat.le_refl _) ?_ (fun Q hQ => ft_58 h4 hQ)
  have hx := Option.some.inj hx
  subst hx
  exact eg_k_iret rfl True.intro (Nat.le_refl _) (Nat.le_refl _) hK
/-- 75: WeakScheme$Operations.isOfSort(JC)Z -/
noncomputable def fn_75 (cn : Nat) (mo : Nat) (a : Int) (b : Int) (M : eM) : Option (Int) :=
  if b = 101 then
    (fn_76 mo a 6 M).bind fun r2 =>
    if r2 = 0 ∨ r2 = 1 then some r2 else none
  else if b = 102 then
    (fn_76 mo a 3 M).bind fun r5 =>
    if r5 = 0 then
      some 0
    else
      (fn_77 cn mo (eg_wi a) M).bind fun r9 =>
      if ¬ r9 = 1 then
        some 0
      else
        some 1
  else if b = 103 then
    some 1
  else if b = 104 then
    some 1
  else if b = 105 then
    some 1
  else if b = 106 then
    some 1
  else if b = 107 then
    some 1
  else if b = 108 then
    some 1
  else if b = 109 then
    some 1
  else if b = 110 then
    if ¬ (eb_lshr a 32) = 0 then
      some 0
    else
      some 1
  else if b = 111 then
    if ¬ (eb_lshr a 32) = 4 then
      some 0
    else
      some 1
  else if b = 112 then
    (fn_76 mo a 1 M).bind fun r15 =>
    if r15 = 0 ∨ r15 = 1 then some r15 else none
  else if b = 113 then
    some 1
  else if b = 114 then
    some 1
  else if b = 115 then
    some 1
  else if b = 116 then
    (fn_76 mo a 7 M).bind fun r18 =>
    if r18 = 0 ∨ r18 = 1 then some r18 else none
  else if b = 117 then
    some 1
  else if b = 118 then
    (fn_76 mo a 2 M).bind fun r21 =>
    if r21 = 0 ∨ r21 = 1 then some r21 else none
  else if b = 119 then
    (fn_76 mo a 5 M).bind fun r24 =>
    if r24 = 0 ∨ r24 = 1 then some r24 else none
  else 
    some 1
set_option maxRecDepth 100000 in
theorem ft_75 {cn mo : Nat} {sc : eg_Sc} {d : Nat} {M : eM} {Q : Option eg_V → eg_H → Prop} {a : Int} {b : Int} {x : Int} (hx : fn_75 cn mo a b M = some x) (hK : Q (some (.inl x)) (em_L cn mo, eh_R, M)) : eg_wp sc (d + 3) 75 [.inr (.inr (some 43)), .inr (.inl a), .inl b] (em_L cn mo, eh_R, M) 0 0 Q := by
  refine eg_in (lv := [some (.inr (.inr (some 43))), some (.inr (.inl a)), none, some (.inl b)]) eg_tj75 (Nat.le_of_ble_eq_true rfl) rfl ?_
  refine eg_k_iload rfl rfl ?_
  refine vb_ite hx (fun e9 hx => ?_) (fun e9 hx => ?_)
  · refine eg_k_tsw (x := b) (t := 30) rfl (by rw [e9]; rfl) ?_
    refine eg_k_aload rfl rfl ?_
    refine eg_k_gfr rfl rfl rfl eh_r43_1 ?_
    refine eg_k_lload rfl rfl ?_
    refine eg_k_ci rfl ?_
    obtain ⟨r2, h1, hx⟩ := vb_bind hx
    refine eg_k_call (c1 := 0) (z1 := 0) (as := [.inr (.inr (some 15)), .inr (.inl a), .inl 6]) (rest := []) rfl eg_tj76 (Nat.le_of_ble_eq_true rfl) rfl rfl rfl (Nat.le_of_ble_eq_true rfl) (Nat.le_refl _) (Nat.le_refl _) ?_ (fun Q hQ => ft_76 h1 hQ)
    obtain ⟨b9, hx⟩ := vb_if hx
    have hx := Option.some.inj hx
    subst hx
    exact eg_k_iret rfl b9 (Nat.le_refl _) (Nat.le_refl _) hK
  have e101_ := e9
  refine vb_ite hx (fun e9 hx => ?_) (fun e9 hx => ?_)
  · refine eg_k_tsw (x := b) (t := 52) rfl (by rw [e9]; rfl) ?_
    refine eg_k_aload rfl rfl ?_
    refine eg_k_gfr rfl rfl rfl eh_r43_1 ?_
    refine eg_k_lload rfl rfl ?_
    refine eg_k_ci rfl ?_
    obtain ⟨r5, h4, hx⟩ := vb_bind hx
    refine eg_k_call (c1 := 0) (z1 := 0) (as := [.inr (.inr (some 15)), .inr (.inl a), .inl 3]) (rest := []) rfl eg_tj76 (Nat.le_of_ble_eq_true rfl) rfl rfl rfl (Nat.le_of_ble_eq_true rfl) (Nat.le_refl _) (Nat.le_refl _) ?_ (fun Q hQ => ft_76 h4 hQ)
    refine vk_if rfl hx Iff.rfl (fun c7 hx => ?_) (fun c7 hx => ?_)
    · refine eg_k_ci rfl ?_
      have hx := Option.some.inj hx
      subst hx
      exact eg_k_iret rfl (Or.inl rfl) (Nat.le_refl _) (Nat.le_refl _) hK
    · refine eg_k_aload rfl rfl ?_
      refine eg_k_lload rfl rfl ?_
      refine eg_k_l2i rfl ?_
      obtain ⟨r9, h8, hx⟩ := vb_bind hx
      refine eg_k_call (c1 := 0) (z1 := 0) (as := [.inr (.inr (some 43)), .inl (eg_wi a)]) (rest := []) rfl eg_tj77 (Nat.le_of_ble_eq_true rfl) rfl rfl rfl (Nat.le_of_ble_eq_true rfl) (Nat.le_refl _) (Nat.le_refl _) ?_ (fun Q hQ => ft_77 h8 hQ)
      refine eg_k_ci rfl ?_
      refine vk_icmp rfl hx Iff.rfl (fun c11 hx => ?_) (fun c11 hx => ?_)
      · refine eg_k_ci rfl ?_
        have hx := Option.some.inj hx
        subst hx
        exact eg_k_iret rfl (Or.inl rfl) (Nat.le_refl _) (Nat.le_refl _) hK
      · refine eg_k_ci rfl ?_
        refine eg_k_goto rfl ?_
        have hx := Option.some.inj hx
        subst hx
        exact eg_k_iret rfl (Or.inr rfl) (Nat.le_refl _) (Nat.le_refl _) hK
  have e102_ := e9
  refine vb_ite hx (fun e9 hx => ?_) (fun e9 hx => ?_)
  · refine eg_k_tsw (x := b) (t := 68) rfl (by rw [e9]; rfl) ?_
    refine eg_k_ci rfl ?_
    have hx := Option.some.inj hx
    subst hx
    exact eg_k_iret rfl (Or.inr rfl) (Nat.le_refl _) (Nat.le_refl _) hK
  have e103_ := e9
  refine vb_ite hx (fun e9 hx => ?_) (fun e9 hx => ?_)
  · refine eg_k_tsw (x := b) (t := 68) rfl (by rw [e9]; rfl) ?_
    refine eg_k_ci rfl ?_
    have hx := Option.some.inj hx
    subst hx
    exact eg_k_iret rfl (Or.inr rfl) (Nat.le_refl _) (Nat.le_refl _) hK
  have e104_ := e9
  refine vb_ite hx (fun e9 hx => ?_) (fun e9 hx => ?_)
  · refine eg_k_tsw (x := b) (t := 68) rfl (by rw [e9]; rfl) ?_
    refine eg_k_ci rfl ?_
    have hx := Option.some.inj hx
    subst hx
    exact eg_k_iret rfl (Or.inr rfl) (Nat.le_refl _) (Nat.le_refl _) hK
  have e105_ := e9
  refine vb_ite hx (fun e9 hx => ?_) (fun e9 hx => ?_)
  · refine eg_k_tsw (x := b) (t := 68) rfl (by rw [e9]; rfl) ?_
    refine eg_k_ci rfl ?_
    have hx := Option.some.inj hx
    subst hx
    exact eg_k_iret rfl (Or.inr rfl) (Nat.le_refl _) (Nat.le_refl _) hK
  have e106_ := e9
  refine vb_ite hx (fun e9 hx => ?_) (fun e9 hx => ?_)
  · refine eg_k_tsw (x := b) (t := 68) rfl (by rw [e9]; rfl) ?_
    refine eg_k_ci rfl ?_
    have hx := Option.some.inj hx
    subst hx
    exact eg_k_iret rfl (Or.inr rfl) (Nat.le_refl _) (Nat.le_refl _) hK
  have e107_ := e9
  refine vb_ite hx (fun e9 hx => ?_) (fun e9 hx => ?_)
  · refine eg_k_tsw (x := b) (t := 68) rfl (by rw [e9]; rfl) ?_
    refine eg_k_ci rfl ?_
    have hx := Option.some.inj hx
    subst hx
    exact eg_k_iret rfl (Or.inr rfl) (Nat.le_refl _) (Nat.le_refl _) hK
  have e108_ := e9
  refine vb_ite hx (fun e9 hx => ?_) (fun e9 hx => ?_)
  · refine eg_k_tsw (x := b) (t := 68) rfl (by rw [e9]; rfl) ?_
    refine eg_k_ci rfl ?_
    have hx := Option.some.inj hx
    subst hx
    exact eg_k_iret rfl (Or.inr rfl) (Nat.le_refl _) (Nat.le_refl _) hK
  have e109_ := e9
  refine vb_ite hx (fun e9 hx => ?_) (fun e9 hx => ?_)
  · refine eg_k_tsw (x := b) (t := 2) rfl (by rw [e9]; rfl) ?_
    refine eg_k_lload rfl rfl ?_
    refine eg_k_ci rfl ?_
    refine eg_k_lshr rfl ?_
    refine eg_k_cl rfl ?_
    refine vk_lcmp rfl rfl hx Iff.rfl (fun c12 hx => ?_) (fun c12 hx => ?_)
    · refine eg_k_ci rfl ?_
      have hx := Option.some.inj hx
      subst hx
      exact eg_k_iret rfl (Or.inl rfl) (Nat.le_refl _) (Nat.le_refl _) hK
    · refine eg_k_ci rfl ?_
      refine eg_k_goto rfl ?_
      have hx := Option.some.inj hx
      subst hx
      exact eg_k_iret rfl (Or.inr rfl) (Nat.le_refl _) (Nat.le_refl _) hK
  have e110_ := e9
  refine vb_ite hx (fun e9 hx => ?_) (fun e9 hx => ?_)
  · refine eg_k_tsw (x := b) (t := 42) rfl (by rw [e9]; rfl) ?_
    refine eg_k_lload rfl rfl ?_
    refine eg_k_ci rfl ?_
    refine eg_k_lshr rfl ?_
    refine eg_k_cl rfl ?_
    refine vk_lcmp rfl rfl hx Iff.rfl (fun c13 hx => ?_) (fun c13 hx => ?_)
    · refine eg_k_ci rfl ?_
      have hx := Option.some.inj hx
      subst hx
      exact eg_k_iret rfl (Or.inl rfl) (Nat.le_refl _) (Nat.le_refl _) hK
    · refine eg_k_ci rfl ?_
      refine eg_k_goto rfl ?_
      have hx := Option.some.inj hx
      subst hx
      exact eg_k_iret rfl (Or.inr rfl) (Nat.le_refl _) (Nat.le_refl _) hK
  have e111_ := e9
  refine vb_ite hx (fun e9 hx => ?_) (fun e9 hx => ?_)
  · refine eg_k_tsw (x := b) (t := 12) rfl (by rw [e9]; rfl) ?_
    refine eg_k_aload rfl rfl ?_
    refine eg_k_gfr rfl rfl rfl eh_r43_1 ?_
    refine eg_k_lload rfl rfl ?_
    refine eg_k_ci rfl ?_
    obtain ⟨r15, h14, hx⟩ := vb_bind hx
    refine eg_k_call (c1 := 0) (z1 := 0) (as := [.inr (.inr (some 15)), .inr (.inl a), .inl 1]) (rest := []) rfl eg_tj76 (Nat.le_of_ble_eq_true rfl) rfl rfl rfl (Nat.le_of_ble_eq_true rfl) (Nat.le_refl _) (Nat.le_refl _) ?_ (fun Q hQ => ft_76 h14 hQ)
    obtain ⟨b9, hx⟩ := vb_if hx
    have hx := Option.some.inj hx
    subst hx
    exact eg_k_iret rfl b9 (Nat.le_refl _) (Nat.le_refl _) hK
  have e112_ := e9
  refine vb_ite hx (fun e9 hx => ?_) (fun e9 hx => ?_)
  · refine eg_k_tsw (x := b) (t := 68) rfl (by rw [e9]; rfl) ?_
    refine eg_k_ci rfl ?_
    have hx := Option.some.inj hx
    subst hx
    exact eg_k_iret rfl (Or.inr rfl) (Nat.le_refl _) (Nat.le_refl _) hK
  have e113_ := e9
  refine vb_ite hx (fun e9 hx => ?_) (fun e9 hx => ?_)
  · refine eg_k_tsw (x := b) (t := 68) rfl (by rw [e9]; rfl) ?_
    refine eg_k_ci rfl ?_
    have hx := Option.some.inj hx
    subst hx
    exact eg_k_iret rfl (Or.inr rfl) (Nat.le_refl _) (Nat.le_refl _) hK
  have e114_ := e9
  refine vb_ite hx (fun e9 hx => ?_) (fun e9 hx => ?_)
  · refine eg_k_tsw (x := b) (t := 68) rfl (by rw [e9]; rfl) ?_
    refine eg_k_ci rfl ?_
    have hx := Option.some.inj hx
    subst hx
    exact eg_k_iret rfl (Or.inr rfl) (Nat.le_refl _) (Nat.le_refl _) hK
  have e115_ := e9
  refine vb_ite hx (fun e9 hx => ?_) (fun e9 hx => ?_)
  · refine eg_k_tsw (x := b) (t := 36) rfl (by rw [e9]; rfl) ?_
    refine eg_k_aload rfl rfl ?_
    refine eg_k_gfr rfl rfl rfl eh_r43_1 ?_
    refine eg_k_lload rfl rfl ?_
    refine eg_k_ci rfl ?_
    obtain ⟨r18, h17, hx⟩ := vb_bind hx
    refine eg_k_call (c1 := 0) (z1 := 0) (as := [.inr (.inr (some 15)), .inr (.inl a), .inl 7]) (rest := []) rfl eg_tj76 (Nat.le_of_ble_eq_true rfl) rfl rfl rfl (Nat.le_of_ble_eq_true rfl) (Nat.le_refl _) (Nat.le_refl _) ?_ (fun Q hQ => ft_76 h17 hQ)
    obtain ⟨b9, hx⟩ := vb_if hx
    have hx := Option.some.inj hx
    subst hx
    exact eg_k_iret rfl b9 (Nat.le_refl _) (Nat.le_refl _) hK
  have e116_ := e9
  refine vb_ite hx (fun e9 hx => ?_) (fun e9 hx => ?_)
  · refine eg_k_tsw (x := b) (t := 68) rfl (by rw [e9]; rfl) ?_
    refine eg_k_ci rfl ?_
    have hx := Option.some.inj hx
    subst hx
    exact eg_k_iret rfl (Or.inr rfl) (Nat.le_refl _) (Nat.le_refl _) hK
  have e117_ := e9
  refine vb_ite hx (fun e9 hx => ?_) (fun e9 hx => ?_)
  · refine eg_k_tsw (x := b) (t := 18) rfl (by rw [e9]; rfl) ?_
    refine eg_k_aload rfl rfl ?_
    refine eg_k_gfr rfl rfl rfl eh_r43_1 ?_
    refine eg_k_lload rfl rfl ?_
    refine eg_k_ci rfl ?_
    obtain ⟨r21, h20, hx⟩ := vb_bind hx
    refine eg_k_call (c1 := 0) (z1 := 0) (as := [.inr (.inr (some 15)), .inr (.inl a), .inl 2]) (rest := []) rfl eg_tj76 (Nat.le_of_ble_eq_true rfl) rfl rfl rfl (Nat.le_of_ble_eq_true rfl) (Nat.le_refl _) (Nat.le_refl _) ?_ (fun Q hQ => ft_76 h20 hQ)
    obtain ⟨b9, hx⟩ := vb_if hx
    have hx := Option.some.inj hx
    subst hx
    exact eg_k_iret rfl b9 (Nat.le_refl _) (Nat.le_refl _) hK
  have e118_ := e9
  refine vb_ite hx (fun e9 hx => ?_) (fun e9 hx => ?_)
  · refine eg_k_tsw (x := b) (t := 24) rfl (by rw [e9]; rfl) ?_
    refine eg_k_aload rfl rfl ?_
    refine eg_k_gfr rfl rfl rfl eh_r43_1 ?_
    refine eg_k_lload rfl rfl ?_
    refine eg_k_ci rfl ?_
    obtain ⟨r24, h23, hx⟩ := vb_bind hx
    refine eg_k_call (c1 := 0) (z1 := 0) (as := [.inr (.inr (some 15)), .inr (.inl a), .inl 5]) (rest := []) rfl eg_tj76 (Nat.le_of_ble_eq_true rfl) rfl rfl rfl (Nat.le_of_ble_eq_true rfl) (Nat.le_refl _) (Nat.le_refl _) ?_ (fun Q hQ => ft_76 h23 hQ)
    obtain ⟨b9, hx⟩ := vb_if hx
    have hx := Option.some.inj hx
    subst hx
    exact eg_k_iret rfl b9 (Nat.le_refl _) (Nat.le_refl _) hK
  have e119_ := e9
  refine eg_k_tsw (x := b) (t := 68) rfl (by unfold eg_tb; rw [if_pos (by omega)]; rfl) ?_
  refine eg_k_ci rfl ?_
  have hx := Option.some.inj hx
  subst hx
  exact eg_k_iret rfl (Or.inr rfl) (Nat.le_refl _) (Nat.le_refl _) hK
/-- 81: WeakScheme$Operations.divide(LWeakScheme$Primitive;II)J -/
noncomputable def fn_81 (a : Nat) (b : Int) (e : Int) (M : eM) : Option (Int × eM) :=
  if ¬ e = 0 then
    if a < 34 then
    if ¬ a = 3 then
        if ¬ e = 0 then
        (fn_49 (eg_wi (b - eg_wi (Int.tdiv b e) * e)) M).bind fun r5 =>
          some (r5, M)
        else none
      else
        if ¬ e = 0 then
        (fn_49 (eg_wi (Int.tdiv b e)) M).bind fun r9 =>
          some (r9, M)
        else none
    else none
  else
    some (4294967298, eg_u M 43 4 10)
set_option maxRecDepth 100000 in
theorem ft_81 {cn mo : Nat} {sc : eg_Sc} {d : Nat} {M : eM} {Q : Option eg_V → eg_H → Prop} {a : Nat} {b : Int} {e : Int} {x : Int × eM} (hx : fn_81 a b e M = some x) (hK : Q (some (.inr (.inl ((x).1)))) (em_L cn mo, eh_R, (x).2)) : eg_wp sc (d + 2) 81 [.inr (.inr (some 43)), .inr (.inr (some (1000100 + a))), .inl b, .inl e] (em_L cn mo, eh_R, M) 0 0 Q := by
  refine eg_in (lv := [some (.inr (.inr (some 43))), some (.inr (.inr (some (1000100 + a)))), some (.inl b), some (.inl e)]) eg_tj81 (Nat.le_of_ble_eq_true rfl) rfl ?_
  refine eg_k_iload rfl rfl ?_
  refine vk_if rfl hx Iff.rfl (fun c1 hx => ?_) (fun c1 hx => ?_)
  · refine eg_k_aload rfl rfl ?_
    refine eg_k_gets (v := .inr (.inr (some 1000103))) rfl rfl ?_
    obtain ⟨b2, hx⟩ := vb_if hx
    refine vk_acmpne rfl hx b2 (by decide) (fun _ hx => ?_) (fun _ hx => ?_)
    · refine eg_k_iload rfl rfl ?_
      refine eg_k_iload rfl rfl ?_
      obtain ⟨b3, hx⟩ := vb_if hx
      refine eg_k_irem rfl b3 ?_
      obtain ⟨r5, h4, hx⟩ := vb_bind hx
      refine eg_k_call (c1 := 0) (z1 := 0) (as := [.inl (eg_wi (b - eg_wi (Int.tdiv b e) * e))]) (rest := []) rfl eg_tj49 (Nat.le_of_ble_eq_true rfl) rfl rfl trivial (Nat.le_of_ble_eq_true rfl) (Nat.le_refl _) (Nat.le_refl _) ?_ (fun Q hQ => ft_49 h4 hQ)
      have hx := Option.some.inj hx
      subst hx
      exact eg_k_lret rfl rfl (Nat.le_refl _) (Nat.le_refl _) hK
    · refine eg_k_iload rfl rfl ?_
      refine eg_k_iload rfl rfl ?_
      obtain ⟨b7, hx⟩ := vb_if hx
      refine eg_k_idiv rfl b7 ?_
      refine eg_k_goto rfl ?_
      obtain ⟨r9, h8, hx⟩ := vb_bind hx
      refine eg_k_call (c1 := 0) (z1 := 0) (as := [.inl (eg_wi (Int.tdiv b e))]) (rest := []) rfl eg_tj49 (Nat.le_of_ble_eq_true rfl) rfl rfl trivial (Nat.le_of_ble_eq_true rfl) (Nat.le_refl _) (Nat.le_refl _) ?_ (fun Q hQ => ft_49 h8 hQ)
      have hx := Option.some.inj hx
      subst hx
      exact eg_k_lret rfl rfl (Nat.le_refl _) (Nat.le_refl _) hK
  · refine eg_k_aload rfl rfl ?_
    refine eg_k_ci rfl ?_
    refine eg_k_pfi rfl rfl rfl ?_
    refine eg_k_cl rfl ?_
    have hx := Option.some.inj hx
    subst hx
    exact eg_k_lret rfl rfl (Nat.le_refl _) (Nat.le_refl _) hK
theorem fw_81 {M : eM} {c : Nat} {a : Nat} {b : Int} {e : Int} {x : Int × eM} (hx : fn_81 a b e M = some x) (hc : c ∉ ([43] : List Nat)) (j : Nat) : ((x).2) c j = M c j := by
  obtain ⟨v, hK⟩ : ∃ v, ((x).2) c j = v := ⟨_, rfl⟩
  rw [hK]
  refine Eq.symm ?_
  refine vb_ite hx (fun _ hx => ?_) (fun _ hx => ?_)
  · obtain ⟨_, hx⟩ := vb_if hx
    refine vb_ite hx (fun _ hx => ?_) (fun _ hx => ?_)
    · obtain ⟨_, hx⟩ := vb_if hx
      obtain ⟨r5, h4, hx⟩ := vb_bind hx
      have hx := Option.some.inj hx
      subst hx
      exact (Eq.refl _).symm.trans hK
    · obtain ⟨_, hx⟩ := vb_if hx
      obtain ⟨r9, h8, hx⟩ := vb_bind hx
      have hx := Option.some.inj hx
      subst hx
      exact (Eq.refl _).symm.trans hK
  · have hx := Option.some.inj hx
    subst hx
    exact ((congrFun (eg_u_ne (vne hc (a := 43) (by decide))) j).trans rfl).symm.trans hK
/-- 82: WeakScheme$Heap.identityOf(I)I -/
noncomputable def fn_82 (mo : Nat) (a : Int) (M : eM) : Option (Int × eM) :=
  if 0 ≤ a ∧ a < (mo : Int) then
  if ¬ (M 20 (a).toNat) = 0 then
      some (M 20 (a).toNat, M)
    else
      some (eg_wi ((M 15 10) + 1), eg_u (eg_u M 15 10 (eg_wi ((M 15 10) + 1))) 20 (a).toNat (eg_wi ((M 15 10) + 1)))
  else none
set_option maxRecDepth 100000 in
theorem ft_82 {cn mo : Nat} {sc : eg_Sc} {d : Nat} {M : eM} {Q : Option eg_V → eg_H → Prop} {a : Int} {x : Int × eM} (hx : fn_82 mo a M = some x) (hK : Q (some (.inl ((x).1))) (em_L cn mo, eh_R, (x).2)) : eg_wp sc (d + 1) 82 [.inr (.inr (some 15)), .inl a] (em_L cn mo, eh_R, M) 0 0 Q := by
  refine eg_in (lv := [some (.inr (.inr (some 15))), some (.inl a)]) eg_tj82 (Nat.le_of_ble_eq_true rfl) rfl ?_
  refine eg_k_aload rfl rfl ?_
  refine eg_k_gfa rfl rfl rfl eh_r15_5 ?_
  refine eg_k_iload rfl rfl ?_
  obtain ⟨b1, hx⟩ := vb_if hx
  refine eg_k_iald (k := mo) rfl rfl b1.1 b1.2 ?_
  refine vk_if rfl hx Iff.rfl (fun c2 hx => ?_) (fun c2 hx => ?_)
  · refine eg_k_aload rfl rfl ?_
    refine eg_k_gfa rfl rfl rfl eh_r15_5 ?_
    refine eg_k_iload rfl rfl ?_
    refine eg_k_iald (k := mo) rfl rfl b1.1 b1.2 ?_
    have hx := Option.some.inj hx
    subst hx
    exact eg_k_iret rfl True.intro (Nat.le_refl _) (Nat.le_refl _) hK
  · refine eg_k_aload rfl rfl ?_
    refine eg_k_dupr rfl ?_
    refine eg_k_gfi rfl rfl rfl ?_
    refine eg_k_ci rfl ?_
    refine eg_k_iadd rfl ?_
    refine eg_k_pfi rfl rfl rfl ?_
    refine eg_k_aload rfl rfl ?_
    refine eg_k_gfa rfl rfl rfl eh_r15_5 ?_
    refine eg_k_iload rfl rfl ?_
    refine eg_k_aload rfl rfl ?_
    refine eg_k_gfie (x := eg_wi ((M 15 10) + 1)) rfl rfl rfl rfl ?_
    refine eg_k_iast (k := mo) rfl rfl b1.1 b1.2 ?_
    refine eg_k_aload rfl rfl ?_
    refine eg_k_gfa rfl rfl rfl eh_r15_5 ?_
    refine eg_k_iload rfl rfl ?_
    refine vk_iald (k := mo) (y := eg_wi ((M 15 10) + 1)) rfl rfl b1.1 b1.2 (show eg_u (eg_u M 15 10 (eg_wi ((M 15 10) + 1))) 20 (a).toNat (eg_wi ((M 15 10) + 1)) 20 (a).toNat = _ from eg_u_eq) ?_
    have hx := Option.some.inj hx
    subst hx
    exact eg_k_iret rfl True.intro (Nat.le_refl _) (Nat.le_refl _) hK
theorem fw_82 {mo : Nat} {M : eM} {c : Nat} {a : Int} {x : Int × eM} (hx : fn_82 mo a M = some x) (hc : c ∉ ([15, 20] : List Nat)) (j : Nat) : ((x).2) c j = M c j := by
  obtain ⟨v, hK⟩ : ∃ v, ((x).2) c j = v := ⟨_, rfl⟩
  rw [hK]
  refine Eq.symm ?_
  obtain ⟨_, hx⟩ := vb_if hx
  refine vb_ite hx (fun _ hx => ?_) (fun _ hx => ?_)
  · have hx := Option.some.inj hx
    subst hx
    exact (Eq.refl _).symm.trans hK
  · have hx := Option.some.inj hx
    subst hx
    exact ((congrFun (eg_u_ne (vne hc (a := 20) (by decide))) j).trans ((congrFun (eg_u_ne (vne hc (a := 15) (by decide))) j).trans rfl)).symm.trans hK
/-- 85: WeakScheme$Output.add(I)V -/
noncomputable def fn_85 (a : Int) (M : eM) : Option (eM) :=
  if 4000 ≤ (M 26 4) then
    some M
  else
    if 0 ≤ (eg_wi ((eg_wi ((M 26 3) + (M 26 4))) - eg_wi (Int.tdiv (eg_wi ((M 26 3) + (M 26 4))) 4000) * 4000)) ∧ (eg_wi ((eg_wi ((M 26 3) + (M 26 4))) - eg_wi (Int.tdiv (eg_wi ((M 26 3) + (M 26 4))) 4000) * 4000)) < 4000 then
    some (eg_u (eg_u M 27 (eg_wi ((eg_wi ((M 26 3) + (M 26 4))) - eg_wi (Int.tdiv (eg_wi ((M 26 3) + (M 26 4))) 4000) * 4000)).toNat (eg_wb (eg_wb a))) 26 4 (eg_wi ((M 26 4) + 1)))
    else none
set_option maxRecDepth 100000 in
theorem ft_85 {cn mo : Nat} {sc : eg_Sc} {d : Nat} {M : eM} {Q : Option eg_V → eg_H → Prop} {a : Int} {x : eM} (hx : fn_85 a M = some x) (hK : Q (none) (em_L cn mo, eh_R, x)) : eg_wp sc (d + 1) 85 [.inr (.inr (some 26)), .inl a] (em_L cn mo, eh_R, M) 0 0 Q := by
  refine eg_in (lv := [some (.inr (.inr (some 26))), some (.inl a)]) eg_tj85 (Nat.le_of_ble_eq_true rfl) rfl ?_
  refine eg_k_aload rfl rfl ?_
  refine eg_k_gfi rfl rfl rfl ?_
  refine eg_k_ci rfl ?_
  refine vk_icmp rfl hx Iff.rfl (fun c1 hx => ?_) (fun c1 hx => ?_)
  · have hx := Option.some.inj hx
    subst hx
    exact eg_k_ret rfl rfl (Nat.le_refl _) (Nat.le_refl _) hK
  · refine eg_k_aload rfl rfl ?_
    refine eg_k_gfa rfl rfl rfl eh_r26_2 ?_
    refine eg_k_aload rfl rfl ?_
    refine eg_k_gfi rfl rfl rfl ?_
    refine eg_k_aload rfl rfl ?_
    refine eg_k_gfi rfl rfl rfl ?_
    refine eg_k_iadd rfl ?_
    refine eg_k_ci rfl ?_
    refine eg_k_irem rfl (by decide) ?_
    refine eg_k_iload rfl rfl ?_
    refine eg_k_i2b rfl ?_
    obtain ⟨b2, hx⟩ := vb_if hx
    refine eg_k_bast (k := 4000) rfl rfl b2.1 b2.2 ?_
    refine eg_k_aload rfl rfl ?_
    refine eg_k_dupr rfl ?_
    refine eg_k_gfie (x := M 26 4) rfl rfl rfl rfl ?_
    refine eg_k_ci rfl ?_
    refine eg_k_iadd rfl ?_
    refine eg_k_pfi rfl rfl rfl ?_
    have hx := Option.some.inj hx
    subst hx
    exact eg_k_ret rfl rfl (Nat.le_refl _) (Nat.le_refl _) hK
theorem fw_85 {M : eM} {c : Nat} {a : Int} {x : eM} (hx : fn_85 a M = some x) (hc : c ∉ ([26, 27] : List Nat)) (j : Nat) : x c j = M c j := by
  obtain ⟨v, hK⟩ : ∃ v, x c j = v := ⟨_, rfl⟩
  rw [hK]
  refine Eq.symm ?_
  refine vb_ite hx (fun _ hx => ?_) (fun _ hx => ?_)
  · have hx := Option.some.inj hx
    subst hx
    exact (Eq.refl _).symm.trans hK
  · obtain ⟨_, hx⟩ := vb_if hx
    have hx := Option.some.inj hx
    subst hx
    exact ((congrFun (eg_u_ne (vne hc (a := 26) (by decide))) j).trans ((congrFun (eg_u_ne (vne hc (a := 27) (by decide))) j).trans rfl)).symm.trans hK
noncomputable def fn_86_2 (x1 : Nat) (s1 : Int) (s2 : eM) : Option ((Int × eM) ⊕ (eM)) :=
  if x1 < 62 then
  if ((eg_str.getD x1 []).length : Nat) ≤ s1 then
      some (.inr s2)
    else
      if x1 < 62 ∧ 0 ≤ s1 ∧ s1 < ((eg_str.getD x1 []).length : Nat) then
      (fn_85 ((eg_str.getD x1 []).getD (s1).toNat 0) s2).bind fun m6 =>
        some (.inl (eg_wi (s1 + 1), m6))
      else none
  else none
/-- 86: WeakScheme$Output.writeWord(Ljava/lang/String;)V -/
noncomputable def fn_86 (a : Nat) (M : eM) : Option (eM) :=
  lp (fun z => fn_86_2 a z.1 z.2) (0, M)
set_option maxRecDepth 100000 in
theorem ft_86_2 {cn mo : Nat} {sc : eg_Sc} {d : Nat} {Q : Option eg_V → eg_H → Prop} {x1 : Nat} {s : Int × eM} {x : eM} (hx : lp (fun z => fn_86_2 x1 z.1 z.2) s = some x) (hK : (fun (x : eM) => Q (none) (em_L cn mo, eh_R, x)) x) : eg_X sc (eg_wp sc (d + 4)) eg_p86 none 0 0 Q 2 [some (.inr (.inr (some 26))), some (.inr (.inr (some (1000200 + x1)))), some (.inl s.1)] [] (em_L cn mo, eh_R, s.2) 0 0 := by
  refine lp_sound (P := (fun (s : Int × eM) => eg_X sc (eg_wp sc (d + 4)) eg_p86 none 0 0 Q 2 [some (.inr (.inr (some 26))), some (.inr (.inr (some (1000200 + x1)))), some (.inl s.1)] [] (em_L cn mo, eh_R, s.2) 0 0)) (K := (fun (x : eM) => Q (none) (em_L cn mo, eh_R, x))) hx hK ?_
  intro s x hx hK
  obtain ⟨s1, s2⟩ := s
  refine eg_k_iload rfl rfl ?_
  refine eg_k_aload rfl rfl ?_
  obtain ⟨b1, hx⟩ := vb_if hx
  refine eg_k_call (c1 := 0) (z1 := 0) (as := [.inr (.inr (some (1000200 + x1)))]) (rest := [.inl s1]) rfl eg_tj3 (Nat.le_of_ble_eq_true rfl) rfl rfl (es_rc (Nat.le_of_ble_eq_true rfl) b1) (Nat.le_of_ble_eq_true rfl) (Nat.le_refl _) (Nat.le_refl _) ?_ (fun Q hQ => es_3 (Nat.le_of_ble_eq_true rfl) b1 hQ)
  refine vk_icmp rfl hx Iff.rfl (fun c2 hx => ?_) (fun c2 hx => ?_)
  · have hx := Option.some.inj hx
    subst hx
    exact eg_k_ret rfl rfl (Nat.le_refl _) (Nat.le_refl _) hK
  · refine eg_k_aload rfl rfl ?_
    refine eg_k_aload rfl rfl ?_
    refine eg_k_iload rfl rfl ?_
    obtain ⟨b3, hx⟩ := vb_if hx
    refine eg_k_call (c1 := 0) (z1 := 0) (as := [.inr (.inr (some (1000200 + x1))), .inl s1]) (rest := [.inr (.inr (some 26))]) rfl eg_tj5 (Nat.le_of_ble_eq_true rfl) rfl rfl (es_rc (Nat.le_of_ble_eq_true rfl) b3.1) (Nat.le_of_ble_eq_true rfl) (Nat.le_refl _) (Nat.le_refl _) ?_ (fun Q hQ => es_5 (Nat.le_of_ble_eq_true rfl) b3.1 b3.2.1 b3.2.2 hQ)
    obtain ⟨m6, h4, hx⟩ := vb_bind hx
    refine eg_k_call (c1 := 0) (z1 := 0) (as := [.inr (.inr (some 26)), .inl ((eg_str.getD x1 []).getD (s1).toNat 0)]) (rest := []) rfl eg_tj85 (Nat.le_of_ble_eq_true rfl) rfl rfl rfl (Nat.le_of_ble_eq_true rfl) (Nat.le_refl _) (Nat.le_refl _) ?_ (fun Q hQ => ft_85 h4 hQ)
    refine eg_k_iinc (lv' := [some (.inr (.inr (some 26))), some (.inr (.inr (some (1000200 + x1)))), some (.inl (eg_wi (s1 + 1)))]) rfl rfl rfl ?_
    refine eg_k_goto rfl ?_
    have hx := Option.some.inj hx
    subst hx
    exact hK
set_option maxRecDepth 100000 in
theorem ft_86 {cn mo : Nat} {sc : eg_Sc} {d : Nat} {M : eM} {Q : Option eg_V → eg_H → Prop} {a : Nat} {x : eM} (hx : fn_86 a M = some x) (hK : Q (none) (em_L cn mo, eh_R, x)) : eg_wp sc (d + 5) 86 [.inr (.inr (some 26)), .inr (.inr (some (1000200 + a)))] (em_L cn mo, eh_R, M) 0 0 Q := by
  refine eg_in (lv := [some (.inr (.inr (some 26))), some (.inr (.inr (some (1000200 + a)))), none]) eg_tj86 (Nat.le_of_ble_eq_true rfl) rfl ?_
  refine eg_k_ci rfl ?_
  refine eg_k_istore (lv' := [some (.inr (.inr (some 26))), some (.inr (.inr (some (1000200 + a)))), some (.inl 0)]) rfl rfl ?_
  have hz := ft_86_2 (d := d) (sc := sc) hx hK
  exact hz
theorem fw_86_2 {c j : Nat} {v : Int} {x1 : Nat} {s : Int × eM} {x : eM} (hc : c ∉ ([26, 27] : List Nat)) (hx : lp (fun z => fn_86_2 x1 z.1 z.2) s = some x) (hK : (fun (x : eM) => x c j = v) x) : s.2 c j = v := by
  refine lp_sound (P := (fun (s : Int × eM) => s.2 c j = v)) (K := (fun (x : eM) => x c j = v)) hx hK ?_
  intro s x hx hK
  obtain ⟨s1, s2⟩ := s
  obtain ⟨_, hx⟩ := vb_if hx
  refine vb_ite hx (fun _ hx => ?_) (fun _ hx => ?_)
  · have hx := Option.some.inj hx
    subst hx
    exact (Eq.refl _).symm.trans hK
  · obtain ⟨_, hx⟩ := vb_if hx
    obtain ⟨m6, h4, hx⟩ := vb_bind hx
    have hx := Option.some.inj hx
    subst hx
    exact ((fw_85 h4 (vsub hc (by decide)) j).trans rfl).symm.trans hK
theorem fw_86 {M : eM} {c : Nat} {a : Nat} {x : eM} (hx : fn_86 a M = some x) (hc : c ∉ ([26, 27] : List Nat)) (j : Nat) : x c j = M c j := by
  obtain ⟨v, hK⟩ : ∃ v, x c j = v := ⟨_, rfl⟩
  rw [hK]
  refine Eq.symm ?_
  have hz := fw_86_2 hc hx hK
  exact (Eq.refl _).symm.trans hz
noncomputable def fn_87_37 (x1 : Int) (x2 : Int) (x3 : Int) (s1 : Int) (s2 : eM) : Option ((Int × eM) ⊕ (eM)) :=
  if 10 ≤ s1 then
    some (.inr s2)
  else
    if 0 ≤ s1 ∧ s1 < 10 then
    (fn_85 (s2 28 (s1).toNat) s2).bind fun m9 =>
      some (.inl (eg_wi (s1 + 1), m9))
    else none
noncomputable def fn_87_9 (x1 : Int) (s1 : Int) (s2 : Int) (s3 : eM) : Option ((Int × Int × eM) ⊕ (eM)) :=
  if 0 ≤ (eg_wi (s2 - eg_wi (Int.tdiv s2 10) * 10)) then
    if 0 ≤ (eg_wi (s1 + (-1))) ∧ (eg_wi (s1 + (-1))) < 10 then
    if (eg_wi (Int.tdiv s2 10)) = 0 then
        (lp (fun z => fn_87_37 x1 (eg_wi (s1 + (-1))) (eg_wi (Int.tdiv s2 10)) z.1 z.2) (eg_wi (s1 + (-1)), eg_u s3 28 (eg_wi (s1 + (-1))).toNat (eg_wb (eg_wb (eg_wi (48 + (eg_wi (s2 - eg_wi (Int.tdiv s2 10) * 10)))))))).map Sum.inr
      else
        if 0 < (eg_wi (s1 + (-1))) then
          some (.inl (eg_wi (s1 + (-1)), eg_wi (Int.tdiv s2 10), eg_u s3 28 (eg_wi (s1 + (-1))).toNat (eg_wb (eg_wb (eg_wi (48 + (eg_wi (s2 - eg_wi (Int.tdiv s2 10) * 10))))))))
        else
          (lp (fun z => fn_87_37 x1 (eg_wi (s1 + (-1))) (eg_wi (Int.tdiv s2 10)) z.1 z.2) (eg_wi (s1 + (-1)), eg_u s3 28 (eg_wi (s1 + (-1))).toNat (eg_wb (eg_wb (eg_wi (48 + (eg_wi (s2 - eg_wi (Int.tdiv s2 10) * 10)))))))).map Sum.inr
    else none
  else
    if 0 ≤ (eg_wi (s1 + (-1))) ∧ (eg_wi (s1 + (-1))) < 10 then
    if (eg_wi (Int.tdiv s2 10)) = 0 then
        (lp (fun z => fn_87_37 x1 (eg_wi (s1 + (-1))) (eg_wi (Int.tdiv s2 10)) z.1 z.2) (eg_wi (s1 + (-1)), eg_u s3 28 (eg_wi (s1 + (-1))).toNat (eg_wb (eg_wb (eg_wi (48 + (eg_wi (-(eg_wi (s2 - eg_wi (Int.tdiv s2 10) * 10)))))))))).map Sum.inr
      else
        if 0 < (eg_wi (s1 + (-1))) then
          some (.inl (eg_wi (s1 + (-1)), eg_wi (Int.tdiv s2 10), eg_u s3 28 (eg_wi (s1 + (-1))).toNat (eg_wb (eg_wb (eg_wi (48 + (eg_wi (-(eg_wi (s2 - eg_wi (Int.tdiv s2 10) * 10))))))))))
        else
          (lp (fun z => fn_87_37 x1 (eg_wi (s1 + (-1))) (eg_wi (Int.tdiv s2 10)) z.1 z.2) (eg_wi (s1 + (-1)), eg_u s3 28 (eg_wi (s1 + (-1))).toNat (eg_wb (eg_wb (eg_wi (48 + (eg_wi (-(eg_wi (s2 - eg_wi (Int.tdiv s2 10) * 10)))))))))).map Sum.inr
    else none
/-- 87: WeakScheme$Output.writeNumber(I)V -/
noncomputable def fn_87 (a : Int) (M : eM) : Option (eM) :=
  if 0 ≤ a then
    lp (fun z => fn_87_9 a z.1 z.2.1 z.2.2) (10, a, M)
  else
    (fn_85 45 M).bind fun m16 =>
    lp (fun z => fn_87_9 a z.1 z.2.1 z.2.2) (10, a, m16)
set_option maxRecDepth 100000 in
theorem ft_87_37 {cn mo : Nat} {sc : eg_Sc} {d : Nat} {Q : Option eg_V → eg_H → Prop} {x1 : Int} {x2 : Int} {x3 : Int} {s : Int × eM} {x : eM} (hx : lp (fun z => fn_87_37 x1 x2 x3 z.1 z.2) s = some x) (hK : (fun (x : eM) => Q (none) (em_L cn mo, eh_R, x)) x) : eg_X sc (eg_wp sc (d + 1)) eg_p87 none 0 0 Q 37 [some (.inr (.inr (some 26))), some (.inl x1), some (.inl x2), some (.inl x3), some (.inl s.1)] [] (em_L cn mo, eh_R, s.2) 0 0 := by
  refine lp_sound (P := (fun (s : Int × eM) => eg_X sc (eg_wp sc (d + 1)) eg_p87 none 0 0 Q 37 [some (.inr (.inr (some 26))), some (.inl x1), some (.inl x2), some (.inl x3), some (.inl s.1)] [] (em_L cn mo, eh_R, s.2) 0 0)) (K := (fun (x : eM) => Q (none) (em_L cn mo, eh_R, x))) hx hK ?_
  intro s x hx hK
  obtain ⟨s1, s2⟩ := s
  refine eg_k_iload rfl rfl ?_
  refine eg_k_ci rfl ?_
  refine vk_icmp rfl hx Iff.rfl (fun c5 hx => ?_) (fun c5 hx => ?_)
  · have hx := Option.some.inj hx
    subst hx
    exact eg_k_ret rfl rfl (Nat.le_refl _) (Nat.le_refl _) hK
  · refine eg_k_aload rfl rfl ?_
    refine eg_k_aload rfl rfl ?_
    refine eg_k_gfa rfl rfl rfl eh_r26_7 ?_
    refine eg_k_iload rfl rfl ?_
    obtain ⟨b6, hx⟩ := vb_if hx
    refine eg_k_bald (k := 10) rfl rfl b6.1 b6.2 ?_
    obtain ⟨m9, h7, hx⟩ := vb_bind hx
    refine eg_k_call (c1 := 0) (z1 := 0) (as := [.inr (.inr (some 26)), .inl (s2 28 (s1).toNat)]) (rest := []) rfl eg_tj85 (Nat.le_of_ble_eq_true rfl) rfl rfl rfl (Nat.le_of_ble_eq_true rfl) (Nat.le_refl _) (Nat.le_refl _) ?_ (fun Q hQ => ft_85 h7 hQ)
    refine eg_k_iinc (lv' := [some (.inr (.inr (some 26))), some (.inl x1), some (.inl x2), some (.inl x3), some (.inl (eg_wi (s1 + 1)))]) rfl rfl rfl ?_
    refine eg_k_goto rfl ?_
    have hx := Option.some.inj hx
    subst hx
    exact hK
set_option maxRecDepth 100000 in
theorem ft_87_9 {cn mo : Nat} {sc : eg_Sc} {d : Nat} {Q : Option eg_V → eg_H → Prop} {x1 : Int} {s : Int × Int × eM} {x : eM} (hx : lp (fun z => fn_87_9 x1 z.1 z.2.1 z.2.2) s = some x) (hK : (fun (x : eM) => Q (none) (em_L cn mo, eh_R, x)) x) : ∀ (w4 : Option eg_V), eg_X sc (eg_wp sc (d + 1)) eg_p87 none 0 0 Q 9 [some (.inr (.inr (some 26))), some (.inl x1), some (.inl s.1), some (.inl s.2.1), w4] [] (em_L cn mo, eh_R, s.2.2) 0 0 := by
  refine lp_sound (P := (fun (s : Int × Int × eM) => ∀ (w4 : Option eg_V), eg_X sc (eg_wp sc (d + 1)) eg_p87 none 0 0 Q 9 [some (.inr (.inr (some 26))), some (.inl x1), some (.inl s.1), some (.inl s.2.1), w4] [] (em_L cn mo, eh_R, s.2.2) 0 0)) (K := (fun (x : eM) => Q (none) (em_L cn mo, eh_R, x))) hx hK ?_
  intro s x hx hK w4
  obtain ⟨s1, s2, s3⟩ := s
  refine eg_k_iinc (lv' := [some (.inr (.inr (some 26))), some (.inl x1), some (.inl (eg_wi (s1 + (-1)))), some (.inl s2), w4]) rfl rfl rfl ?_
  refine eg_k_iload rfl rfl ?_
  refine eg_k_ci rfl ?_
  refine eg_k_irem rfl (by decide) ?_
  refine eg_k_istore (lv' := [some (.inr (.inr (some 26))), some (.inl x1), some (.inl (eg_wi (s1 + (-1)))), some (.inl s2), some (.inl (eg_wi (s2 - eg_wi (Int.tdiv s2 10) * 10)))]) rfl rfl ?_
  refine eg_k_aload rfl rfl ?_
  refine eg_k_gfa rfl rfl rfl eh_r26_7 ?_
  refine eg_k_iload rfl rfl ?_
  refine eg_k_ci rfl ?_
  refine eg_k_iload rfl rfl ?_
  refine vk_if rfl hx Iff.rfl (fun c2 hx => ?_) (fun c2 hx => ?_)
  · refine eg_k_iload rfl rfl ?_
    refine eg_k_iadd rfl ?_
    refine eg_k_i2b rfl ?_
    obtain ⟨b3, hx⟩ := vb_if hx
    refine eg_k_bast (k := 10) rfl rfl b3.1 b3.2 ?_
    refine eg_k_iload rfl rfl ?_
    refine eg_k_ci rfl ?_
    refine eg_k_idiv rfl (by decide) ?_
    refine eg_k_istore (lv' := [some (.inr (.inr (some 26))), some (.inl x1), some (.inl (eg_wi (s1 + (-1)))), some (.inl (eg_wi (Int.tdiv s2 10))), some (.inl (eg_wi (s2 - eg_wi (Int.tdiv s2 10) * 10)))]) rfl rfl ?_
    refine eg_k_iload rfl rfl ?_
    refine vk_if rfl hx Iff.rfl (fun c4 hx => ?_) (fun c4 hx => ?_)
    · refine eg_k_iload rfl rfl ?_
      refine eg_k_istore (lv' := [some (.inr (.inr (some 26))), some (.inl x1), some (.inl (eg_wi (s1 + (-1)))), some (.inl (eg_wi (Int.tdiv s2 10))), some (.inl (eg_wi (s1 + (-1))))]) rfl rfl ?_
      obtain ⟨x, hy, e9⟩ := vb_map hx
      clear hx
      subst e9
      have hx := hy
      clear hy
      have hz := ft_87_37 (d := d) (sc := sc) hx hK
      exact hz
    · refine eg_k_iload rfl rfl ?_
      refine vk_if rfl hx Iff.rfl (fun c10 hx => ?_) (fun c10 hx => ?_)
      · have hx := Option.some.inj hx
        subst hx
        exact hK (some (.inl (eg_wi (s2 - eg_wi (Int.tdiv s2 10) * 10))))
      · refine eg_k_iload rfl rfl ?_
        refine eg_k_istore (lv' := [some (.inr (.inr (some 26))), some (.inl x1), some (.inl (eg_wi (s1 + (-1)))), some (.inl (eg_wi (Int.tdiv s2 10))), some (.inl (eg_wi (s1 + (-1))))]) rfl rfl ?_
        obtain ⟨x, hy, e9⟩ := vb_map hx
        clear hx
        subst e9
        have hx := hy
        clear hy
        have hz := ft_87_37 (d := d) (sc := sc) hx hK
        exact hz
  · refine eg_k_iload rfl rfl ?_
    refine eg_k_ineg rfl ?_
    refine eg_k_goto rfl ?_
    refine eg_k_iadd rfl ?_
    refine eg_k_i2b rfl ?_
    obtain ⟨b11, hx⟩ := vb_if hx
    refine eg_k_bast (k := 10) rfl rfl b11.1 b11.2 ?_
    refine eg_k_iload rfl rfl ?_
    refine eg_k_ci rfl ?_
    refine eg_k_idiv rfl (by decide) ?_
    refine eg_k_istore (lv' := [some (.inr (.inr (some 26))), some (.inl x1), some (.inl (eg_wi (s1 + (-1)))), some (.inl (eg_wi (Int.tdiv s2 10))), some (.inl (eg_wi (s2 - eg_wi (Int.tdiv s2 10) * 10)))]) rfl rfl ?_
    refine eg_k_iload rfl rfl ?_
    refine vk_if rfl hx Iff.rfl (fun c12 hx => ?_) (fun c12 hx => ?_)
    · refine eg_k_iload rfl rfl ?_
      refine eg_k_istore (lv' := [some (.inr (.inr (some 26))), some (.inl x1), some (.inl (eg_wi (s1 + (-1)))), some (.inl (eg_wi (Int.tdiv s2 10))), some (.inl (eg_wi (s1 + (-1))))]) rfl rfl ?_
      obtain ⟨x, hy, e9⟩ := vb_map hx
      clear hx
      subst e9
      have hx := hy
      clear hy
      have hz := ft_87_37 (d := d) (sc := sc) hx hK
      exact hz
    · refine eg_k_iload rfl rfl ?_
      refine vk_if rfl hx Iff.rfl (fun c13 hx => ?_) (fun c13 hx => ?_)
      · have hx := Option.some.inj hx
        subst hx
        exact hK (some (.inl (eg_wi (s2 - eg_wi (Int.tdiv s2 10) * 10))))
      · refine eg_k_iload rfl rfl ?_
        refine eg_k_istore (lv' := [some (.inr (.inr (some 26))), some (.inl x1), some (.inl (eg_wi (s1 + (-1)))), some (.inl (eg_wi (Int.tdiv s2 10))), some (.inl (eg_wi (s1 + (-1))))]) rfl rfl ?_
        obtain ⟨x, hy, e9⟩ := vb_map hx
        clear hx
        subst e9
        have hx := hy
        clear hy
        have hz := ft_87_37 (d := d) (sc := sc) hx hK
        exact hz
set_option maxRecDepth 100000 in
theorem ft_87 {cn mo : Nat} {sc : eg_Sc} {d : Nat} {M : eM} {Q : Option eg_V → eg_H → Prop} {a : Int} {x : eM} (hx : fn_87 a M = some x) (hK : Q (none) (em_L cn mo, eh_R, x)) : eg_wp sc (d + 2) 87 [.inr (.inr (some 26)), .inl a] (em_L cn mo, eh_R, M) 0 0 Q := by
  refine eg_in (lv := [some (.inr (.inr (some 26))), some (.inl a), none, none, none]) eg_tj87 (Nat.le_of_ble_eq_true rfl) rfl ?_
  refine eg_k_iload rfl rfl ?_
  refine vk_if rfl hx Iff.rfl (fun c1 hx => ?_) (fun c1 hx => ?_)
  · refine eg_k_ci rfl ?_
    refine eg_k_istore (lv' := [some (.inr (.inr (some 26))), some (.inl a), some (.inl 10), none, none]) rfl rfl ?_
    refine eg_k_iload rfl rfl ?_
    refine eg_k_istore (lv' := [some (.inr (.inr (some 26))), some (.inl a), some (.inl 10), some (.inl a), none]) rfl rfl ?_
    have hz := ft_87_9 (d := d) (sc := sc) hx hK
    exact hz none
  · refine eg_k_aload rfl rfl ?_
    refine eg_k_ci rfl ?_
    obtain ⟨m16, h14, hx⟩ := vb_bind hx
    refine eg_k_call (c1 := 0) (z1 := 0) (as := [.inr (.inr (some 26)), .inl 45]) (rest := []) rfl eg_tj85 (Nat.le_of_ble_eq_true rfl) rfl rfl rfl (Nat.le_of_ble_eq_true rfl) (Nat.le_refl _) (Nat.le_refl _) ?_ (fun Q hQ => ft_85 h14 hQ)
    refine eg_k_ci rfl ?_
    refine eg_k_istore (lv' := [some (.inr (.inr (some 26))), some (.inl a), some (.inl 10), none, none]) rfl rfl ?_
    refine eg_k_iload rfl rfl ?_
    refine eg_k_istore (lv' := [some (.inr (.inr (some 26))), some (.inl a), some (.inl 10), some (.inl a), none]) rfl rfl ?_
    have hz := ft_87_9 (d := d) (sc := sc) hx hK
    exact hz none
theorem fw_87_37 {c j : Nat} {v : Int} {x1 : Int} {x2 : Int} {x3 : Int} {s : Int × eM} {x : eM} (hc : c ∉ ([26, 27, 28] : List Nat)) (hx : lp (fun z => fn_87_37 x1 x2 x3 z.1 z.2) s = some x) (hK : (fun (x : eM) => x c j = v) x) : s.2 c j = v := by
  refine lp_sound (P := (fun (s : Int × eM) => s.2 c j = v)) (K := (fun (x : eM) => x c j = v)) hx hK ?_
  intro s x hx hK
  obtain ⟨s1, s2⟩ := s
  refine vb_ite hx (fun _ hx => ?_) (fun _ hx => ?_)
  · have hx := Option.some.inj hx
    subst hx
    exact (Eq.refl _).symm.trans hK
  · obtain ⟨_, hx⟩ := vb_if hx
    obtain ⟨m9, h7, hx⟩ := vb_bind hx
    have hx := Option.some.inj hx
    subst hx
    exact ((fw_85 h7 (vsub hc (by decide)) j).trans rfl).symm.trans hK
theorem fw_87_9 {c j : Nat} {v : Int} {x1 : Int} {s : Int × Int × eM} {x : eM} (hc : c ∉ ([26, 27, 28] : List Nat)) (hx : lp (fun z => fn_87_9 x1 z.1 z.2.1 z.2.2) s = some x) (hK : (fun (x : eM) => x c j = v) x) : s.2.2 c j = v := by
  refine lp_sound (P := (fun (s : Int × Int × eM) => s.2.2 c j = v)) (K := (fun (x : eM) => x c j = v)) hx hK ?_
  intro s x hx hK
  obtain ⟨s1, s2, s3⟩ := s
  refine vb_ite hx (fun _ hx => ?_) (fun _ hx => ?_)
  · obtain ⟨_, hx⟩ := vb_if hx
    refine vb_ite hx (fun _ hx => ?_) (fun _ hx => ?_)
    · obtain ⟨x, hy, e9⟩ := vb_map hx
      clear hx
      subst e9
      have hx := hy
      clear hy
      have hz := fw_87_37 hc hx hK
      exact ((congrFun (eg_u_ne (vne hc (a := 28) (by decide))) j).trans rfl).symm.trans hz
    · refine vb_ite hx (fun _ hx => ?_) (fun _ hx => ?_)
      · have hx := Option.some.inj hx
        subst hx
        exact ((congrFun (eg_u_ne (vne hc (a := 28) (by decide))) j).trans rfl).symm.trans hK
      · obtain ⟨x, hy, e9⟩ := vb_map hx
        clear hx
        subst e9
        have hx := hy
        clear hy
        have hz := fw_87_37 hc hx hK
        exact ((congrFun (eg_u_ne (vne hc (a := 28) (by decide))) j).trans rfl).symm.trans hz
  · obtain ⟨_, hx⟩ := vb_if hx
    refine vb_ite hx (fun _ hx => ?_) (fun _ hx => ?_)
    · obtain ⟨x, hy, e9⟩ := vb_map hx
      clear hx
      subst e9
      have hx := hy
      clear hy
      have hz := fw_87_37 hc hx hK
      exact ((congrFun (eg_u_ne (vne hc (a := 28) (by decide))) j).trans rfl).symm.trans hz
    · refine vb_ite hx (fun _ hx => ?_) (fun _ hx => ?_)
      · have hx := Option.some.inj hx
        subst hx
        exact ((congrFun (eg_u_ne (vne hc (a := 28) (by decide))) j).trans rfl).symm.trans hK
      · obtain ⟨x, hy, e9⟩ := vb_map hx
        clear hx
        subst e9
        have hx := hy
        clear hy
        have hz := fw_87_37 hc hx hK
        exact ((congrFun (eg_u_ne (vne hc (a := 28) (by decide))) j).trans rfl).symm.trans hz
theorem fw_87 {M : eM} {c : Nat} {a : Int} {x : eM} (hx : fn_87 a M = some x) (hc : c ∉ ([26, 27, 28] : List Nat)) (j : Nat) : x c j = M c j := by
  obtain ⟨v, hK⟩ : ∃ v, x c j = v := ⟨_, rfl⟩
  rw [hK]
  refine Eq.symm ?_
  refine vb_ite hx (fun _ hx => ?_) (fun _ hx => ?_)
  · have hz := fw_87_9 hc hx hK
    exact (Eq.refl _).symm.trans hz
  · obtain ⟨m16, h14, hx⟩ := vb_bind hx
    have hz := fw_87_9 hc hx hK
    exact ((fw_85 h14 (vsub hc (by decide)) j).trans rfl).symm.trans hz
noncomputable def fn_88_2 (x1 : Int) (s1 : Int) (s2 : eM) : Option ((Int × eM) ⊕ (eM)) :=
  if 0 ≤ x1 ∧ x1 < 444 then
  if (s2 3 (x1).toNat) ≤ s1 then
      some (.inr s2)
    else
      if 0 ≤ (eg_wi ((eg_wi (x1 * 20)) + s1)) ∧ (eg_wi ((eg_wi (x1 * 20)) + s1)) < 8880 then
      (fn_85 (s2 2 (eg_wi ((eg_wi (x1 * 20)) + s1)).toNat) s2).bind fun m6 =>
        some (.inl (eg_wi (s1 + 1), m6))
      else none
  else none
/-- 88: WeakScheme$Output.writeName(I)V -/
noncomputable def fn_88 (a : Int) (M : eM) : Option (eM) :=
  lp (fun z => fn_88_2 a z.1 z.2) (0, M)
set_option maxRecDepth 100000 in
theorem ft_88_2 {cn mo : Nat} {sc : eg_Sc} {d : Nat} {Q : Option eg_V → eg_H → Prop} {x1 : Int} {s : Int × eM} {x : eM} (hx : lp (fun z => fn_88_2 x1 z.1 z.2) s = some x) (hK : (fun (x : eM) => Q (none) (em_L cn mo, eh_R, x)) x) : eg_X sc (eg_wp sc (d + 1)) eg_p88 none 0 0 Q 2 [some (.inr (.inr (some 26))), some (.inl x1), some (.inl s.1)] [] (em_L cn mo, eh_R, s.2) 0 0 := by
  refine lp_sound (P := (fun (s : Int × eM) => eg_X sc (eg_wp sc (d + 1)) eg_p88 none 0 0 Q 2 [some (.inr (.inr (some 26))), some (.inl x1), some (.inl s.1)] [] (em_L cn mo, eh_R, s.2) 0 0)) (K := (fun (x : eM) => Q (none) (em_L cn mo, eh_R, x))) hx hK ?_
  intro s x hx hK
  obtain ⟨s1, s2⟩ := s
  refine eg_k_iload rfl rfl ?_
  refine eg_k_aload rfl rfl ?_
  refine eg_k_gfr rfl rfl rfl eh_r26_0 ?_
  refine eg_k_gfa rfl rfl rfl eh_r1_1 ?_
  refine eg_k_iload rfl rfl ?_
  obtain ⟨b1, hx⟩ := vb_if hx
  refine eg_k_iald (k := 444) rfl rfl b1.1 b1.2 ?_
  refine vk_icmp rfl hx Iff.rfl (fun c2 hx => ?_) (fun c2 hx => ?_)
  · have hx := Option.some.inj hx
    subst hx
    exact eg_k_ret rfl rfl (Nat.le_refl _) (Nat.le_refl _) hK
  · refine eg_k_aload rfl rfl ?_
    refine eg_k_aload rfl rfl ?_
    refine eg_k_gfr rfl rfl rfl eh_r26_0 ?_
    refine eg_k_gfa rfl rfl rfl eh_r1_0 ?_
    refine eg_k_iload rfl rfl ?_
    refine eg_k_ci rfl ?_
    refine eg_k_imul rfl ?_
    refine eg_k_iload rfl rfl ?_
    refine eg_k_iadd rfl ?_
    obtain ⟨b3, hx⟩ := vb_if hx
    refine eg_k_bald (k := 8880) rfl rfl b3.1 b3.2 ?_
    obtain ⟨m6, h4, hx⟩ := vb_bind hx
    refine eg_k_call (c1 := 0) (z1 := 0) (as := [.inr (.inr (some 26)), .inl (s2 2 (eg_wi ((eg_wi (x1 * 20)) + s1)).toNat)]) (rest := []) rfl eg_tj85 (Nat.le_of_ble_eq_true rfl) rfl rfl rfl (Nat.le_of_ble_eq_true rfl) (Nat.le_refl _) (Nat.le_refl _) ?_ (fun Q hQ => ft_85 h4 hQ)
    refine eg_k_iinc (lv' := [some (.inr (.inr (some 26))), some (.inl x1), some (.inl (eg_wi (s1 + 1)))]) rfl rfl rfl ?_
    refine eg_k_goto rfl ?_
    have hx := Option.some.inj hx
    subst hx
    exact hK
set_option maxRecDepth 100000 in
theorem ft_88 {cn mo : Nat} {sc : eg_Sc} {d : Nat} {M : eM} {Q : Option eg_V → eg_H → Prop} {a : Int} {x : eM} (hx : fn_88 a M = some x) (hK : Q (none) (em_L cn mo, eh_R, x)) : eg_wp sc (d + 2) 88 [.inr (.inr (some 26)), .inl a] (em_L cn mo, eh_R, M) 0 0 Q := by
  refine eg_in (lv := [some (.inr (.inr (some 26))), some (.inl a), none]) eg_tj88 (Nat.le_of_ble_eq_true rfl) rfl ?_
  refine eg_k_ci rfl ?_
  refine eg_k_istore (lv' := [some (.inr (.inr (some 26))), some (.inl a), some (.inl 0)]) rfl rfl ?_
  have hz := ft_88_2 (d := d) (sc := sc) hx hK
  exact hz
theorem fw_88_2 {c j : Nat} {v : Int} {x1 : Int} {s : Int × eM} {x : eM} (hc : c ∉ ([26, 27] : List Nat)) (hx : lp (fun z => fn_88_2 x1 z.1 z.2) s = some x) (hK : (fun (x : eM) => x c j = v) x) : s.2 c j = v := by
  refine lp_sound (P := (fun (s : Int × eM) => s.2 c j = v)) (K := (fun (x : eM) => x c j = v)) hx hK ?_
  intro s x hx hK
  obtain ⟨s1, s2⟩ := s
  obtain ⟨_, hx⟩ := vb_if hx
  refine vb_ite hx (fun _ hx => ?_) (fun _ hx => ?_)
  · have hx := Option.some.inj hx
    subst hx
    exact (Eq.refl _).symm.trans hK
  · obtain ⟨_, hx⟩ := vb_if hx
    obtain ⟨m6, h4, hx⟩ := vb_bind hx
    have hx := Option.some.inj hx
    subst hx
    exact ((fw_85 h4 (vsub hc (by decide)) j).trans rfl).symm.trans hK
theorem fw_88 {M : eM} {c : Nat} {a : Int} {x : eM} (hx : fn_88 a M = some x) (hc : c ∉ ([26, 27] : List Nat)) (j : Nat) : x c j = M c j := by
  obtain ⟨v, hK⟩ : ∃ v, x c j = v := ⟨_, rfl⟩
  rw [hK]
  refine Eq.symm ?_
  have hz := fw_88_2 hc hx hK
  exact (Eq.refl _).symm.trans hz
/-- 89: WeakScheme$Output.wordFor(J)Ljava/lang/String; -/
noncomputable def fn_89 (mo : Nat) (a : Int) (M : eM) : Option (Nat) :=
  if ¬ a = 4294967297 then
    if ¬ a = 4294967296 then
      if ¬ a = 4294967298 then
        if ¬ (eb_lshr a 32) = 4 then
          some 10
        else
          if 0 ≤ (eg_wi a) ∧ (eg_wi a) < (mo : Int) then
          if (M 18 (eg_wi a).toNat) = 2 then
              some 6
            else if (M 18 (eg_wi a).toNat) = 3 then
              some 10
            else if (M 18 (eg_wi a).toNat) = 4 then
              some 10
            else if (M 18 (eg_wi a).toNat) = 5 then
              some 7
            else if (M 18 (eg_wi a).toNat) = 6 then
              some 8
            else if (M 18 (eg_wi a).toNat) = 7 then
              some 9
            else 
              some 10
          else none
      else
        some 5
    else
      some 4
  else
    some 3
set_option maxRecDepth 100000 in
theorem ft_89 {cn mo : Nat} {sc : eg_Sc} {d : Nat} {M : eM} {Q : Option eg_V → eg_H → Prop} {a : Int} {x : Nat} (hx : fn_89 mo a M = some x) (hK : Q (some (.inr (.inr (some (1000200 + x))))) (em_L cn mo, eh_R, M)) : eg_wp sc (d + 1) 89 [.inr (.inr (some 26)), .inr (.inl a)] (em_L cn mo, eh_R, M) 0 0 Q := by
  refine eg_in (lv := [some (.inr (.inr (some 26))), some (.inr (.inl a)), none]) eg_tj89 (Nat.le_of_ble_eq_true rfl) rfl ?_
  refine eg_k_lload rfl rfl ?_
  refine eg_k_cl rfl ?_
  refine vk_lcmp rfl rfl hx Iff.rfl (fun c1 hx => ?_) (fun c1 hx => ?_)
  · refine eg_k_lload rfl rfl ?_
    refine eg_k_cl rfl ?_
    refine vk_lcmp rfl rfl hx Iff.rfl (fun c2 hx => ?_) (fun c2 hx => ?_)
    · refine eg_k_lload rfl rfl ?_
      refine eg_k_cl rfl ?_
      refine vk_lcmp rfl rfl hx Iff.rfl (fun c3 hx => ?_) (fun c3 hx => ?_)
      · refine eg_k_lload rfl rfl ?_
        refine eg_k_ci rfl ?_
        refine eg_k_lshr rfl ?_
        refine eg_k_cl rfl ?_
        refine vk_lcmp rfl rfl hx Iff.rfl (fun c4 hx => ?_) (fun c4 hx => ?_)
        · refine eg_k_ci rfl ?_
          refine eg_k_tsw (x := 3) (t := 41) rfl rfl ?_
          refine eg_k_cs rfl ?_
          have hx := Option.some.inj hx
          subst hx
          exact eg_k_aret rfl True.intro (Nat.le_refl _) (Nat.le_refl _) hK
        · refine eg_k_aload rfl rfl ?_
          refine eg_k_gfr rfl rfl rfl eh_r26_1 ?_
          refine eg_k_gfa rfl rfl rfl eh_r15_3 ?_
          refine eg_k_lload rfl rfl ?_
          refine eg_k_l2i rfl ?_
          obtain ⟨b5, hx⟩ := vb_if hx
          refine eg_k_iald (k := mo) rfl rfl b5.1 b5.2 ?_
          refine eg_k_goto rfl ?_
          refine vb_ite hx (fun e9 hx => ?_) (fun e9 hx => ?_)
          · refine eg_k_tsw (x := M 18 (eg_wi a).toNat) (t := 33) rfl (by rw [e9]; rfl) ?_
            refine eg_k_cs rfl ?_
            have hx := Option.some.inj hx
            subst hx
            exact eg_k_aret rfl True.intro (Nat.le_refl _) (Nat.le_refl _) hK
          have e2_ := e9
          refine vb_ite hx (fun e9 hx => ?_) (fun e9 hx => ?_)
          · refine eg_k_tsw (x := M 18 (eg_wi a).toNat) (t := 41) rfl (by rw [e9]; rfl) ?_
            refine eg_k_cs rfl ?_
            have hx := Option.some.inj hx
            subst hx
            exact eg_k_aret rfl True.intro (Nat.le_refl _) (Nat.le_refl _) hK
          have e3_ := e9
          refine vb_ite hx (fun e9 hx => ?_) (fun e9 hx => ?_)
          · refine eg_k_tsw (x := M 18 (eg_wi a).toNat) (t := 41) rfl (by rw [e9]; rfl) ?_
            refine eg_k_cs rfl ?_
            have hx := Option.some.inj hx
            subst hx
            exact eg_k_aret rfl True.intro (Nat.le_refl _) (Nat.le_refl _) hK
          have e4_ := e9
          refine vb_ite hx (fun e9 hx => ?_) (fun e9 hx => ?_)
          · refine eg_k_tsw (x := M 18 (eg_wi a).toNat) (t := 35) rfl (by rw [e9]; rfl) ?_
            refine eg_k_cs rfl ?_
            have hx := Option.some.inj hx
            subst hx
            exact eg_k_aret rfl True.intro (Nat.le_refl _) (Nat.le_refl _) hK
          have e5_ := e9
          refine vb_ite hx (fun e9 hx => ?_) (fun e9 hx => ?_)
          · refine eg_k_tsw (x := M 18 (eg_wi a).toNat) (t := 37) rfl (by rw [e9]; rfl) ?_
            refine eg_k_cs rfl ?_
            have hx := Option.some.inj hx
            subst hx
            exact eg_k_aret rfl True.intro (Nat.le_refl _) (Nat.le_refl _) hK
          have e6_ := e9
          refine vb_ite hx (fun e9 hx => ?_) (fun e9 hx => ?_)
          · refine eg_k_tsw (x := M 18 (eg_wi a).toNat) (t := 39) rfl (by rw [e9]; rfl) ?_
            refine eg_k_cs rfl ?_
            have hx := Option.some.inj hx
            subst hx
            exact eg_k_aret rfl True.intro (Nat.le_refl _) (Nat.le_refl _) hK
          have e7_ := e9
          refine eg_k_tsw (x := M 18 (eg_wi a).toNat) (t := 41) rfl (by unfold eg_tb; rw [if_pos (by omega)]; rfl) ?_
          refine eg_k_cs rfl ?_
          have hx := Option.some.inj hx
          subst hx
          exact eg_k_aret rfl True.intro (Nat.le_refl _) (Nat.le_refl _) hK
      · refine eg_k_cs rfl ?_
        have hx := Option.some.inj hx
        subst hx
        exact eg_k_aret rfl True.intro (Nat.le_refl _) (Nat.le_refl _) hK
    · refine eg_k_cs rfl ?_
      have hx := Option.some.inj hx
      subst hx
      exact eg_k_aret rfl True.intro (Nat.le_refl _) (Nat.le_refl _) hK
  · refine eg_k_cs rfl ?_
    have hx := Option.some.inj hx
    subst hx
    exact eg_k_aret rfl True.intro (Nat.le_refl _) (Nat.le_refl _) hK
noncomputable def fn_84_97 (cn : Nat) (mo : Nat) (rec : Int → Int → eM → Option (eM)) (x1 : Int) (x3 : Int) (x4 : Int) (y0 : Int) (M : eM) : Option (eM) :=
  if y0 = 0 ∨ y0 = 1 then
  if ¬ y0 = 0 then
      (fn_86 2 (eg_u (eg_u M 26 6 y0) 26 5 (eg_wi ((M 26 5) + 1)))).bind fun m10 =>
      some m10
    else
      if x4 = 0 then
        if ¬ (eb_lshr x1 32) = 0 then
          if ¬ (eb_lshr x1 32) = 2 then
            (fn_89 mo x1 (eg_u (eg_u M 26 6 y0) 26 5 (eg_wi ((M 26 5) + 1)))).bind fun r15 =>
            (fn_86 r15 (eg_u (eg_u M 26 6 y0) 26 5 (eg_wi ((M 26 5) + 1)))).bind fun m19 =>
            some m19
          else
            (fn_88 (eg_wi x1) (eg_u (eg_u M 26 6 y0) 26 5 (eg_wi ((M 26 5) + 1)))).bind fun m22 =>
            some m22
        else
          (fn_87 (eg_wi x1) (eg_u (eg_u M 26 6 y0) 26 5 (eg_wi ((M 26 5) + 1)))).bind fun m25 =>
          some m25
      else
        (fn_86 2 (eg_u (eg_u M 26 6 y0) 26 5 (eg_wi ((M 26 5) + 1)))).bind fun m28 =>
        some m28
  else none
noncomputable def fn_84_89 (cn : Nat) (mo : Nat) (rec : Int → Int → eM → Option (eM)) (x1 : Int) (x3 : Int) (x4 : Int) (M : eM) : Option (eM) :=
  if ¬ (M 26 5) = 40 then
    fn_84_97 cn mo rec x1 x3 x4 0 M
  else
    fn_84_97 cn mo rec x1 x3 x4 1 M
noncomputable def fn_84_69 (cn : Nat) (mo : Nat) (rec : Int → Int → eM → Option (eM)) (x1 : Int) (x3 : Int) (x5 : Int) (M : eM) : Option (eM) :=
  if ¬ (M 26 6) = 0 then
    (fn_85 41 M).bind fun m46 =>
    some m46
  else
    if x5 = 4294967298 then
      (fn_85 41 M).bind fun m50 =>
      some m50
    else
      (fn_86 1 M).bind fun m53 =>
      (rec x5 (eg_wi (x3 + 1)) m53).bind fun m56 =>
      (fn_85 41 m56).bind fun m59 =>
      some m59
noncomputable def fn_84_34 (cn : Nat) (mo : Nat) (rec : Int → Int → eM → Option (eM)) (x1 : Int) (x3 : Int) (x4 : Int) (s1 : Int) (s2 : Int) (s3 : eM) : Option ((Int × Int × eM) ⊕ (eM)) :=
  if 40 < s2 then
    (fn_84_69 cn mo rec x1 x3 s1 s3).map Sum.inr
  else
    if ¬ (s3 26 6) = 0 then
      (fn_84_69 cn mo rec x1 x3 s1 s3).map Sum.inr
    else
      (fn_76 mo s1 1 s3).bind fun r62 =>
      if r62 = 0 then
        (fn_84_69 cn mo rec x1 x3 s1 s3).map Sum.inr
      else
        (fn_85 32 s3).bind fun m67 =>
        (fn_78 cn mo (eg_wi s1) 1 m67).bind fun r69 =>
        (rec r69 (eg_wi (x3 + 1)) m67).bind fun m73 =>
        (fn_78 cn mo (eg_wi s1) 2 m73).bind fun r75 =>
        some (.inl (r75, eg_wi (s2 + 1), m73))
/-- 84: WeakScheme$Output.write(JI)V -/
noncomputable def fb_84 (cn : Nat) (mo : Nat) (rec : Int → Int → eM → Option (eM)) (a : Int) (b : Int) (M : eM) : Option (eM) :=
  (fn_76 mo a 1 M).bind fun r2 =>
  if r2 = 0 then
    fn_84_89 cn mo rec a b r2 M
  else
    if 10 ≤ b then
      fn_84_89 cn mo rec a b r2 M
    else
      (fn_85 40 M).bind fun m32 =>
      (fn_78 cn mo (eg_wi a) 1 m32).bind fun r34 =>
      (rec r34 (eg_wi (b + 1)) m32).bind fun m38 =>
      (fn_78 cn mo (eg_wi a) 2 m38).bind fun r40 =>
      lp (fun z => fn_84_34 cn mo rec a b r2 z.1 z.2.1 z.2.2) (r40, 0, m38)
noncomputable def fn_84 (cn : Nat) (mo : Nat) : Nat → Int → Int → eM → Option (eM)
  | 0 => fun _ _ _ => none
  | n + 1 => fb_84 cn mo (fn_84 cn mo n)
set_option maxRecDepth 100000 in
theorem ft_84_97 {cn mo : Nat} {sc : eg_Sc} {d : Nat} {M : eM} {Q : Option eg_V → eg_H → Prop} {rec : Int → Int → eM → Option (eM)} (hrec : ∀ {a : Int} { b : Int} {M : eM} {x : eM} {Q : Option eg_V → eg_H → Prop}, rec a b M = some x → Q (none) (em_L cn mo, eh_R, x) → eg_wp sc (d + 5) 84 [.inr (.inr (some 26)), .inr (.inl a), .inl b] (em_L cn mo, eh_R, M) 0 0 Q) {x1 : Int} {x3 : Int} {x4 : Int} {y0 : Int} {x : eM} (hx : fn_84_97 cn mo rec x1 x3 x4 y0 M = some x) (hK : (fun (x : eM) => Q (none) (em_L cn mo, eh_R, x)) x) : ∀ (w5 w6 w7 : Option eg_V), eg_X sc (eg_wp sc (d + 5)) eg_p84 none 0 0 Q 97 [some (.inr (.inr (some 26))), some (.inr (.inl x1)), none, some (.inl x3), some (.inl x4), w5, w6, w7] [.inl y0, .inr (.inr (some 26))] (em_L cn mo, eh_R, M) 0 0 := by
  intro w5 w6 w7
  obtain ⟨b6, hx⟩ := vb_if hx
  refine eg_k_pfz rfl rfl rfl b6 ?_
  refine eg_k_aload rfl rfl ?_
  refine eg_k_dupr rfl ?_
  refine eg_k_gfie (x := M 26 5) rfl rfl rfl rfl ?_
  refine eg_k_ci rfl ?_
  refine eg_k_iadd rfl ?_
  refine eg_k_pfi rfl rfl rfl ?_
  refine eg_k_aload rfl rfl ?_
  refine eg_k_gfze (x := y0) rfl rfl rfl rfl ?_
  refine vk_if rfl hx Iff.rfl (fun c7 hx => ?_) (fun c7 hx => ?_)
  · refine eg_k_aload rfl rfl ?_
    refine eg_k_cs rfl ?_
    obtain ⟨m10, h8, hx⟩ := vb_bind hx
    refine eg_k_call (c1 := 0) (z1 := 0) (as := [.inr (.inr (some 26)), .inr (.inr (some (1000200 + 2)))]) (rest := []) rfl eg_tj86 (Nat.le_of_ble_eq_true rfl) rfl rfl rfl (Nat.le_of_ble_eq_true rfl) (Nat.le_refl _) (Nat.le_refl _) ?_ (fun Q hQ => ft_86 h8 hQ)
    refine eg_k_goto rfl ?_
    have hx := Option.some.inj hx
    subst hx
    exact eg_k_ret rfl rfl (Nat.le_refl _) (Nat.le_refl _) hK
  · refine eg_k_iload rfl rfl ?_
    refine vk_if rfl hx Iff.rfl (fun c11 hx => ?_) (fun c11 hx => ?_)
    · refine eg_k_lload rfl rfl ?_
      refine eg_k_ci rfl ?_
      refine eg_k_lshr rfl ?_
      refine eg_k_cl rfl ?_
      refine vk_lcmp rfl rfl hx Iff.rfl (fun c12 hx => ?_) (fun c12 hx => ?_)
      · refine eg_k_lload rfl rfl ?_
        refine eg_k_ci rfl ?_
        refine eg_k_lshr rfl ?_
        refine eg_k_cl rfl ?_
        refine vk_lcmp rfl rfl hx Iff.rfl (fun c13 hx => ?_) (fun c13 hx => ?_)
        · refine eg_k_aload rfl rfl ?_
          refine eg_k_aload rfl rfl ?_
          refine eg_k_lload rfl rfl ?_
          obtain ⟨r15, h14, hx⟩ := vb_bind hx
          refine eg_k_call (c1 := 0) (z1 := 0) (as := [.inr (.inr (some 26)), .inr (.inl x1)]) (rest := [.inr (.inr (some 26))]) rfl eg_tj89 (Nat.le_of_ble_eq_true rfl) rfl rfl rfl (Nat.le_of_ble_eq_true rfl) (Nat.le_refl _) (Nat.le_refl _) ?_ (fun Q hQ => ft_89 h14 hQ)
          obtain ⟨m19, h17, hx⟩ := vb_bind hx
          refine eg_k_call (c1 := 0) (z1 := 0) (as := [.inr (.inr (some 26)), .inr (.inr (some (1000200 + r15)))]) (rest := []) rfl eg_tj86 (Nat.le_of_ble_eq_true rfl) rfl rfl rfl (Nat.le_of_ble_eq_true rfl) (Nat.le_refl _) (Nat.le_refl _) ?_ (fun Q hQ => ft_86 h17 hQ)
          have hx := Option.some.inj hx
          subst hx
          exact eg_k_ret rfl rfl (Nat.le_refl _) (Nat.le_refl _) hK
        · refine eg_k_aload rfl rfl ?_
          refine eg_k_lload rfl rfl ?_
          refine eg_k_l2i rfl ?_
          obtain ⟨m22, h20, hx⟩ := vb_bind hx
          refine eg_k_call (c1 := 0) (z1 := 0) (as := [.inr (.inr (some 26)), .inl (eg_wi x1)]) (rest := []) rfl eg_tj88 (Nat.le_of_ble_eq_true rfl) rfl rfl rfl (Nat.le_of_ble_eq_true rfl) (Nat.le_refl _) (Nat.le_refl _) ?_ (fun Q hQ => ft_88 h20 hQ)
          refine eg_k_goto rfl ?_
          have hx := Option.some.inj hx
          subst hx
          exact eg_k_ret rfl rfl (Nat.le_refl _) (Nat.le_refl _) hK
      · refine eg_k_aload rfl rfl ?_
        refine eg_k_lload rfl rfl ?_
        refine eg_k_l2i rfl ?_
        obtain ⟨m25, h23, hx⟩ := vb_bind hx
        refine eg_k_call (c1 := 0) (z1 := 0) (as := [.inr (.inr (some 26)), .inl (eg_wi x1)]) (rest := []) rfl eg_tj87 (Nat.le_of_ble_eq_true rfl) rfl rfl rfl (Nat.le_of_ble_eq_true rfl) (Nat.le_refl _) (Nat.le_refl _) ?_ (fun Q hQ => ft_87 h23 hQ)
        refine eg_k_goto rfl ?_
        have hx := Option.some.inj hx
        subst hx
        exact eg_k_ret rfl rfl (Nat.le_refl _) (Nat.le_refl _) hK
    · refine eg_k_aload rfl rfl ?_
      refine eg_k_cs rfl ?_
      obtain ⟨m28, h26, hx⟩ := vb_bind hx
      refine eg_k_call (c1 := 0) (z1 := 0) (as := [.inr (.inr (some 26)), .inr (.inr (some (1000200 + 2)))]) (rest := []) rfl eg_tj86 (Nat.le_of_ble_eq_true rfl) rfl rfl rfl (Nat.le_of_ble_eq_true rfl) (Nat.le_refl _) (Nat.le_refl _) ?_ (fun Q hQ => ft_86 h26 hQ)
      refine eg_k_goto rfl ?_
      have hx := Option.some.inj hx
      subst hx
      exact eg_k_ret rfl rfl (Nat.le_refl _) (Nat.le_refl _) hK
set_option maxRecDepth 100000 in
theorem ft_84_89 {cn mo : Nat} {sc : eg_Sc} {d : Nat} {M : eM} {Q : Option eg_V → eg_H → Prop} {rec : Int → Int → eM → Option (eM)} (hrec : ∀ {a : Int} { b : Int} {M : eM} {x : eM} {Q : Option eg_V → eg_H → Prop}, rec a b M = some x → Q (none) (em_L cn mo, eh_R, x) → eg_wp sc (d + 5) 84 [.inr (.inr (some 26)), .inr (.inl a), .inl b] (em_L cn mo, eh_R, M) 0 0 Q) {x1 : Int} {x3 : Int} {x4 : Int} {x : eM} (hx : fn_84_89 cn mo rec x1 x3 x4 M = some x) (hK : (fun (x : eM) => Q (none) (em_L cn mo, eh_R, x)) x) : ∀ (w5 w6 w7 : Option eg_V), eg_X sc (eg_wp sc (d + 5)) eg_p84 none 0 0 Q 89 [some (.inr (.inr (some 26))), some (.inr (.inl x1)), none, some (.inl x3), some (.inl x4), w5, w6, w7] [] (em_L cn mo, eh_R, M) 0 0 := by
  intro w5 w6 w7
  refine eg_k_aload rfl rfl ?_
  refine eg_k_aload rfl rfl ?_
  refine eg_k_gfi rfl rfl rfl ?_
  refine eg_k_ci rfl ?_
  refine vk_icmp rfl hx Iff.rfl (fun c5 hx => ?_) (fun c5 hx => ?_)
  · refine eg_k_ci rfl ?_
    have hz := ft_84_97 (d := d) (sc := sc) hrec hx hK
    exact hz w5 w6 w7
  · refine eg_k_ci rfl ?_
    refine eg_k_goto rfl ?_
    have hz := ft_84_97 (d := d) (sc := sc) hrec hx hK
    exact hz w5 w6 w7
set_option maxRecDepth 100000 in
theorem ft_84_69 {cn mo : Nat} {sc : eg_Sc} {d : Nat} {M : eM} {Q : Option eg_V → eg_H → Prop} {rec : Int → Int → eM → Option (eM)} (hrec : ∀ {a : Int} { b : Int} {M : eM} {x : eM} {Q : Option eg_V → eg_H → Prop}, rec a b M = some x → Q (none) (em_L cn mo, eh_R, x) → eg_wp sc (d + 5) 84 [.inr (.inr (some 26)), .inr (.inl a), .inl b] (em_L cn mo, eh_R, M) 0 0 Q) {x1 : Int} {x3 : Int} {x5 : Int} {x : eM} (hx : fn_84_69 cn mo rec x1 x3 x5 M = some x) (hK : (fun (x : eM) => Q (none) (em_L cn mo, eh_R, x)) x) : ∀ (w4 w7 : Option eg_V), eg_X sc (eg_wp sc (d + 5)) eg_p84 none 0 0 Q 69 [some (.inr (.inr (some 26))), some (.inr (.inl x1)), none, some (.inl x3), w4, some (.inr (.inl x5)), none, w7] [] (em_L cn mo, eh_R, M) 0 0 := by
  intro w4 w7
  refine eg_k_aload rfl rfl ?_
  refine eg_k_gfz rfl rfl rfl ?_
  refine vk_if rfl hx Iff.rfl (fun c43 hx => ?_) (fun c43 hx => ?_)
  · refine eg_k_aload rfl rfl ?_
    refine eg_k_ci rfl ?_
    obtain ⟨m46, h44, hx⟩ := vb_bind hx
    refine eg_k_call (c1 := 0) (z1 := 0) (as := [.inr (.inr (some 26)), .inl 41]) (rest := []) rfl eg_tj85 (Nat.le_of_ble_eq_true rfl) rfl rfl rfl (Nat.le_of_ble_eq_true rfl) (Nat.le_refl _) (Nat.le_refl _) ?_ (fun Q hQ => ft_85 h44 hQ)
    have hx := Option.some.inj hx
    subst hx
    exact eg_k_ret rfl rfl (Nat.le_refl _) (Nat.le_refl _) hK
  · refine eg_k_lload rfl rfl ?_
    refine eg_k_cl rfl ?_
    refine vk_lcmp rfl rfl hx Iff.rfl (fun c47 hx => ?_) (fun c47 hx => ?_)
    · refine eg_k_aload rfl rfl ?_
      refine eg_k_ci rfl ?_
      obtain ⟨m50, h48, hx⟩ := vb_bind hx
      refine eg_k_call (c1 := 0) (z1 := 0) (as := [.inr (.inr (some 26)), .inl 41]) (rest := []) rfl eg_tj85 (Nat.le_of_ble_eq_true rfl) rfl rfl rfl (Nat.le_of_ble_eq_true rfl) (Nat.le_refl _) (Nat.le_refl _) ?_ (fun Q hQ => ft_85 h48 hQ)
      have hx := Option.some.inj hx
      subst hx
      exact eg_k_ret rfl rfl (Nat.le_refl _) (Nat.le_refl _) hK
    · refine eg_k_aload rfl rfl ?_
      refine eg_k_cs rfl ?_
      obtain ⟨m53, h51, hx⟩ := vb_bind hx
      refine eg_k_call (c1 := 0) (z1 := 0) (as := [.inr (.inr (some 26)), .inr (.inr (some (1000200 + 1)))]) (rest := []) rfl eg_tj86 (Nat.le_of_ble_eq_true rfl) rfl rfl rfl (Nat.le_of_ble_eq_true rfl) (Nat.le_refl _) (Nat.le_refl _) ?_ (fun Q hQ => ft_86 h51 hQ)
      refine eg_k_aload rfl rfl ?_
      refine eg_k_lload rfl rfl ?_
      refine eg_k_iload rfl rfl ?_
      refine eg_k_ci rfl ?_
      refine eg_k_iadd rfl ?_
      obtain ⟨m56, h54, hx⟩ := vb_bind hx
      refine eg_k_call (c1 := 0) (z1 := 0) (as := [.inr (.inr (some 26)), .inr (.inl x5), .inl (eg_wi (x3 + 1))]) (rest := []) rfl eg_tj84 (Nat.le_of_ble_eq_true rfl) rfl rfl rfl (Nat.le_of_ble_eq_true rfl) (Nat.le_refl _) (Nat.le_refl _) ?_ (fun Q hQ => hrec h54 hQ)
      refine eg_k_aload rfl rfl ?_
      refine eg_k_ci rfl ?_
      obtain ⟨m59, h57, hx⟩ := vb_bind hx
      refine eg_k_call (c1 := 0) (z1 := 0) (as := [.inr (.inr (some 26)), .inl 41]) (rest := []) rfl eg_tj85 (Nat.le_of_ble_eq_true rfl) rfl rfl rfl (Nat.le_of_ble_eq_true rfl) (Nat.le_refl _) (Nat.le_refl _) ?_ (fun Q hQ => ft_85 h57 hQ)
      have hx := Option.some.inj hx
      subst hx
      exact eg_k_ret rfl rfl (Nat.le_refl _) (Nat.le_refl _) hK
set_option maxRecDepth 100000 in
theorem ft_84_34 {cn mo : Nat} {sc : eg_Sc} {d : Nat} {Q : Option eg_V → eg_H → Prop} {rec : Int → Int → eM → Option (eM)} (hrec : ∀ {a : Int} { b : Int} {M : eM} {x : eM} {Q : Option eg_V → eg_H → Prop}, rec a b M = some x → Q (none) (em_L cn mo, eh_R, x) → eg_wp sc (d + 5) 84 [.inr (.inr (some 26)), .inr (.inl a), .inl b] (em_L cn mo, eh_R, M) 0 0 Q) {x1 : Int} {x3 : Int} {x4 : Int} {s : Int × Int × eM} {x : eM} (hx : lp (fun z => fn_84_34 cn mo rec x1 x3 x4 z.1 z.2.1 z.2.2) s = some x) (hK : (fun (x : eM) => Q (none) (em_L cn mo, eh_R, x)) x) : eg_X sc (eg_wp sc (d + 5)) eg_p84 none 0 0 Q 34 [some (.inr (.inr (some 26))), some (.inr (.inl x1)), none, some (.inl x3), some (.inl x4), some (.inr (.inl s.1)), none, some (.inl s.2.1)] [] (em_L cn mo, eh_R, s.2.2) 0 0 := by
  refine lp_sound (P := (fun (s : Int × Int × eM) => eg_X sc (eg_wp sc (d + 5)) eg_p84 none 0 0 Q 34 [some (.inr (.inr (some 26))), some (.inr (.inl x1)), none, some (.inl x3), some (.inl x4), some (.inr (.inl s.1)), none, some (.inl s.2.1)] [] (em_L cn mo, eh_R, s.2.2) 0 0)) (K := (fun (x : eM) => Q (none) (em_L cn mo, eh_R, x))) hx hK ?_
  intro s x hx hK
  obtain ⟨s1, s2, s3⟩ := s
  refine eg_k_iload rfl rfl ?_
  refine eg_k_ci rfl ?_
  refine vk_icmp rfl hx Iff.rfl (fun c42 hx => ?_) (fun c42 hx => ?_)
  · obtain ⟨x, hy, e9⟩ := vb_map hx
    clear hx
    subst e9
    have hx := hy
    clear hy
    have hz := ft_84_69 (d := d) (sc := sc) hrec hx hK
    exact hz (some (.inl x4)) (some (.inl s2))
  · refine eg_k_aload rfl rfl ?_
    refine eg_k_gfz rfl rfl rfl ?_
    refine vk_if rfl hx Iff.rfl (fun c60 hx => ?_) (fun c60 hx => ?_)
    · obtain ⟨x, hy, e9⟩ := vb_map hx
      clear hx
      subst e9
      have hx := hy
      clear hy
      have hz := ft_84_69 (d := d) (sc := sc) hrec hx hK
      exact hz (some (.inl x4)) (some (.inl s2))
    · refine eg_k_aload rfl rfl ?_
      refine eg_k_gfr rfl rfl rfl eh_r26_1 ?_
      refine eg_k_lload rfl rfl ?_
      refine eg_k_ci rfl ?_
      obtain ⟨r62, h61, hx⟩ := vb_bind hx
      refine eg_k_call (c1 := 0) (z1 := 0) (as := [.inr (.inr (some 15)), .inr (.inl s1), .inl 1]) (rest := []) rfl eg_tj76 (Nat.le_of_ble_eq_true rfl) rfl rfl rfl (Nat.le_of_ble_eq_true rfl) (Nat.le_refl _) (Nat.le_refl _) ?_ (fun Q hQ => ft_76 h61 hQ)
      refine vk_if rfl hx Iff.rfl (fun c64 hx => ?_) (fun c64 hx => ?_)
      · obtain ⟨x, hy, e9⟩ := vb_map hx
        clear hx
        subst e9
        have hx := hy
        clear hy
        have hz := ft_84_69 (d := d) (sc := sc) hrec hx hK
        exact hz (some (.inl x4)) (some (.inl s2))
      · refine eg_k_aload rfl rfl ?_
        refine eg_k_ci rfl ?_
        obtain ⟨m67, h65, hx⟩ := vb_bind hx
        refine eg_k_call (c1 := 0) (z1 := 0) (as := [.inr (.inr (some 26)), .inl 32]) (rest := []) rfl eg_tj85 (Nat.le_of_ble_eq_true rfl) rfl rfl rfl (Nat.le_of_ble_eq_true rfl) (Nat.le_refl _) (Nat.le_refl _) ?_ (fun Q hQ => ft_85 h65 hQ)
        refine eg_k_aload rfl rfl ?_
        refine eg_k_aload rfl rfl ?_
        refine eg_k_gfr rfl rfl rfl eh_r26_1 ?_
        refine eg_k_lload rfl rfl ?_
        refine eg_k_l2i rfl ?_
        refine eg_k_ci rfl ?_
        obtain ⟨r69, h68, hx⟩ := vb_bind hx
        refine eg_k_call (c1 := 0) (z1 := 0) (as := [.inr (.inr (some 15)), .inl (eg_wi s1), .inl 1]) (rest := [.inr (.inr (some 26))]) rfl eg_tj78 (Nat.le_of_ble_eq_true rfl) rfl rfl rfl (Nat.le_of_ble_eq_true rfl) (Nat.le_refl _) (Nat.le_refl _) ?_ (fun Q hQ => ft_78 h68 hQ)
        refine eg_k_iload rfl rfl ?_
        refine eg_k_ci rfl ?_
        refine eg_k_iadd rfl ?_
        obtain ⟨m73, h71, hx⟩ := vb_bind hx
        refine eg_k_call (c1 := 0) (z1 := 0) (as := [.inr (.inr (some 26)), .inr (.inl r69), .inl (eg_wi (x3 + 1))]) (rest := []) rfl eg_tj84 (Nat.le_of_ble_eq_true rfl) rfl rfl rfl (Nat.le_of_ble_eq_true rfl) (Nat.le_refl _) (Nat.le_refl _) ?_ (fun Q hQ => hrec h71 hQ)
        refine eg_k_aload rfl rfl ?_
        refine eg_k_gfr rfl rfl rfl eh_r26_1 ?_
        refine eg_k_lload rfl rfl ?_
        refine eg_k_l2i rfl ?_
        refine eg_k_ci rfl ?_
        obtain ⟨r75, h74, hx⟩ := vb_bind hx
        refine eg_k_call (c1 := 0) (z1 := 0) (as := [.inr (.inr (some 15)), .inl (eg_wi s1), .inl 2]) (rest := []) rfl eg_tj78 (Nat.le_of_ble_eq_true rfl) rfl rfl rfl (Nat.le_of_ble_eq_true rfl) (Nat.le_refl _) (Nat.le_refl _) ?_ (fun Q hQ => ft_78 h74 hQ)
        refine eg_k_lstore (lv' := [some (.inr (.inr (some 26))), some (.inr (.inl x1)), none, some (.inl x3), some (.inl x4), some (.inr (.inl r75)), none, some (.inl s2)]) rfl rfl ?_
        refine eg_k_iinc (lv' := [some (.inr (.inr (some 26))), some (.inr (.inl x1)), none, some (.inl x3), some (.inl x4), some (.inr (.inl r75)), none, some (.inl (eg_wi (s2 + 1)))]) rfl rfl rfl ?_
        refine eg_k_goto rfl ?_
        have hx := Option.some.inj hx
        subst hx
        exact hK
set_option maxRecDepth 100000 in
theorem ftb_84 {cn mo : Nat} {sc : eg_Sc} {d : Nat} {M : eM} {Q : Option eg_V → eg_H → Prop} {rec : Int → Int → eM → Option (eM)} (hrec : ∀ {a : Int} { b : Int} {M : eM} {x : eM} {Q : Option eg_V → eg_H → Prop}, rec a b M = some x → Q (none) (em_L cn mo, eh_R, x) → eg_wp sc (d + 5) 84 [.inr (.inr (some 26)), .inr (.inl a), .inl b] (em_L cn mo, eh_R, M) 0 0 Q) {a : Int} {b : Int} {x : eM} (hx : fb_84 cn mo rec a b M = some x) (hK : Q (none) (em_L cn mo, eh_R, x)) : eg_wp sc (d + 6) 84 [.inr (.inr (some 26)), .inr (.inl a), .inl b] (em_L cn mo, eh_R, M) 0 0 Q := by
  refine eg_in (lv := [some (.inr (.inr (some 26))), some (.inr (.inl a)), none, some (.inl b), none, none, none, none]) eg_tj84 (Nat.le_of_ble_eq_true rfl) rfl ?_
  refine eg_k_aload rfl rfl ?_
  refine eg_k_gfr rfl rfl rfl eh_r26_1 ?_
  refine eg_k_lload rfl rfl ?_
  refine eg_k_ci rfl ?_
  obtain ⟨r2, h1, hx⟩ := vb_bind hx
  refine eg_k_call (c1 := 0) (z1 := 0) (as := [.inr (.inr (some 15)), .inr (.inl a), .inl 1]) (rest := []) rfl eg_tj76 (Nat.le_of_ble_eq_true rfl) rfl rfl rfl (Nat.le_of_ble_eq_true rfl) (Nat.le_refl _) (Nat.le_refl _) ?_ (fun Q hQ => ft_76 h1 hQ)
  refine eg_k_istore (lv' := [some (.inr (.inr (some 26))), some (.inr (.inl a)), none, some (.inl b), some (.inl r2), none, none, none]) rfl rfl ?_
  refine eg_k_iload rfl rfl ?_
  refine vk_if rfl hx Iff.rfl (fun c4 hx => ?_) (fun c4 hx => ?_)
  · have hz := ft_84_89 (d := d) (sc := sc) hrec hx hK
    exact hz none none none
  · refine eg_k_iload rfl rfl ?_
    refine eg_k_ci rfl ?_
    refine vk_icmp rfl hx Iff.rfl (fun c29 hx => ?_) (fun c29 hx => ?_)
    · have hz := ft_84_89 (d := d) (sc := sc) hrec hx hK
      exact hz none none none
    · refine eg_k_aload rfl rfl ?_
      refine eg_k_ci rfl ?_
      obtain ⟨m32, h30, hx⟩ := vb_bind hx
      refine eg_k_call (c1 := 0) (z1 := 0) (as := [.inr (.inr (some 26)), .inl 40]) (rest := []) rfl eg_tj85 (Nat.le_of_ble_eq_true rfl) rfl rfl rfl (Nat.le_of_ble_eq_true rfl) (Nat.le_refl _) (Nat.le_refl _) ?_ (fun Q hQ => ft_85 h30 hQ)
      refine eg_k_aload rfl rfl ?_
      refine eg_k_aload rfl rfl ?_
      refine eg_k_gfr rfl rfl rfl eh_r26_1 ?_
      refine eg_k_lload rfl rfl ?_
      refine eg_k_l2i rfl ?_
      refine eg_k_ci rfl ?_
      obtain ⟨r34, h33, hx⟩ := vb_bind hx
      refine eg_k_call (c1 := 0) (z1 := 0) (as := [.inr (.inr (some 15)), .inl (eg_wi a), .inl 1]) (rest := [.inr (.inr (some 26))]) rfl eg_tj78 (Nat.le_of_ble_eq_true rfl) rfl rfl rfl (Nat.le_of_ble_eq_true rfl) (Nat.le_refl _) (Nat.le_refl _) ?_ (fun Q hQ => ft_78 h33 hQ)
      refine eg_k_iload rfl rfl ?_
      refine eg_k_ci rfl ?_
      refine eg_k_iadd rfl ?_
      obtain ⟨m38, h36, hx⟩ := vb_bind hx
      refine eg_k_call (c1 := 0) (z1 := 0) (as := [.inr (.inr (some 26)), .inr (.inl r34), .inl (eg_wi (b + 1))]) (rest := []) rfl eg_tj84 (Nat.le_of_ble_eq_true rfl) rfl rfl rfl (Nat.le_of_ble_eq_true rfl) (Nat.le_refl _) (Nat.le_refl _) ?_ (fun Q hQ => hrec h36 hQ)
      refine eg_k_aload rfl rfl ?_
      refine eg_k_gfr rfl rfl rfl eh_r26_1 ?_
      refine eg_k_lload rfl rfl ?_
      refine eg_k_l2i rfl ?_
      refine eg_k_ci rfl ?_
      obtain ⟨r40, h39, hx⟩ := vb_bind hx
      refine eg_k_call (c1 := 0) (z1 := 0) (as := [.inr (.inr (some 15)), .inl (eg_wi a), .inl 2]) (rest := []) rfl eg_tj78 (Nat.le_of_ble_eq_true rfl) rfl rfl rfl (Nat.le_of_ble_eq_true rfl) (Nat.le_refl _) (Nat.le_refl _) ?_ (fun Q hQ => ft_78 h39 hQ)
      refine eg_k_lstore (lv' := [some (.inr (.inr (some 26))), some (.inr (.inl a)), none, some (.inl b), some (.inl r2), some (.inr (.inl r40)), none, none]) rfl rfl ?_
      refine eg_k_ci rfl ?_
      refine eg_k_istore (lv' := [some (.inr (.inr (some 26))), some (.inr (.inl a)), none, some (.inl b), some (.inl r2), some (.inr (.inl r40)), none, some (.inl 0)]) rfl rfl ?_
      have hz := ft_84_34 (d := d) (sc := sc) hrec hx hK
      exact hz
theorem fw_84_97 {cn : Nat} {mo : Nat} {M : eM} {c j : Nat} {v : Int} {rec : Int → Int → eM → Option (eM)} (hrec : ∀ {a : Int} {b : Int} {M : eM} {x : eM}, rec a b M = some x → x c j = M c j) {x1 : Int} {x3 : Int} {x4 : Int} {y0 : Int} {x : eM} (hc : c ∉ ([26, 27, 28] : List Nat)) (hx : fn_84_97 cn mo rec x1 x3 x4 y0 M = some x) (hK : (fun (x : eM) => x c j = v) x) : M c j = v := by
  obtain ⟨_, hx⟩ := vb_if hx
  refine vb_ite hx (fun _ hx => ?_) (fun _ hx => ?_)
  · obtain ⟨m10, h8, hx⟩ := vb_bind hx
    have hx := Option.some.inj hx
    subst hx
    exact ((fw_86 h8 (vsub hc (by decide)) j).trans ((congrFun (eg_u_ne (vne hc (a := 26) (by decide))) j).trans ((congrFun (eg_u_ne (vne hc (a := 26) (by decide))) j).trans rfl))).symm.trans hK
  · refine vb_ite hx (fun _ hx => ?_) (fun _ hx => ?_)
    · refine vb_ite hx (fun _ hx => ?_) (fun _ hx => ?_)
      · refine vb_ite hx (fun _ hx => ?_) (fun _ hx => ?_)
        · obtain ⟨r15, h14, hx⟩ := vb_bind hx
          obtain ⟨m19, h17, hx⟩ := vb_bind hx
          have hx := Option.some.inj hx
          subst hx
          exact ((fw_86 h17 (vsub hc (by decide)) j).trans ((congrFun (eg_u_ne (vne hc (a := 26) (by decide))) j).trans ((congrFun (eg_u_ne (vne hc (a := 26) (by decide))) j).trans rfl))).symm.trans hK
        · obtain ⟨m22, h20, hx⟩ := vb_bind hx
          have hx := Option.some.inj hx
          subst hx
          exact ((fw_88 h20 (vsub hc (by decide)) j).trans ((congrFun (eg_u_ne (vne hc (a := 26) (by decide))) j).trans ((congrFun (eg_u_ne (vne hc (a := 26) (by decide))) j).trans rfl))).symm.trans hK
      · obtain ⟨m25, h23, hx⟩ := vb_bind hx
        have hx := Option.some.inj hx
        subst hx
        exact ((fw_87 h23 (vsub hc (by decide)) j).trans ((congrFun (eg_u_ne (vne hc (a := 26) (by decide))) j).trans ((congrFun (eg_u_ne (vne hc (a := 26) (by decide))) j).trans rfl))).symm.trans hK
    · obtain ⟨m28, h26, hx⟩ := vb_bind hx
      have hx := Option.some.inj hx
      subst hx
      exact ((fw_86 h26 (vsub hc (by decide)) j).trans ((congrFun (eg_u_ne (vne hc (a := 26) (by decide))) j).trans ((congrFun (eg_u_ne (vne hc (a := 26) (by decide))) j).trans rfl))).symm.trans hK
theorem fw_84_89 {cn : Nat} {mo : Nat} {M : eM} {c j : Nat} {v : Int} {rec : Int → Int → eM → Option (eM)} (hrec : ∀ {a : Int} {b : Int} {M : eM} {x : eM}, rec a b M = some x → x c j = M c j) {x1 : Int} {x3 : Int} {x4 : Int} {x : eM} (hc : c ∉ ([26, 27, 28] : List Nat)) (hx : fn_84_89 cn mo rec x1 x3 x4 M = some x) (hK : (fun (x : eM) => x c j = v) x) : M c j = v := by
  refine vb_ite hx (fun _ hx => ?_) (fun _ hx => ?_)
  · have hz := fw_84_97 hrec hc hx hK
    exact (Eq.refl _).symm.trans hz
  · have hz := fw_84_97 hrec hc hx hK
    exact (Eq.refl _).symm.trans hz
theorem fw_84_69 {cn : Nat} {mo : Nat} {M : eM} {c j : Nat} {v : Int} {rec : Int → Int → eM → Option (eM)} (hrec : ∀ {a : Int} {b : Int} {M : eM} {x : eM}, rec a b M = some x → x c j = M c j) {x1 : Int} {x3 : Int} {x5 : Int} {x : eM} (hc : c ∉ ([26, 27, 28] : List Nat)) (hx : fn_84_69 cn mo rec x1 x3 x5 M = some x) (hK : (fun (x : eM) => x c j = v) x) : M c j = v := by
  refine vb_ite hx (fun _ hx => ?_) (fun _ hx => ?_)
  · obtain ⟨m46, h44, hx⟩ := vb_bind hx
    have hx := Option.some.inj hx
    subst hx
    exact ((fw_85 h44 (vsub hc (by decide)) j).trans rfl).symm.trans hK
  · refine vb_ite hx (fun _ hx => ?_) (fun _ hx => ?_)
    · obtain ⟨m50, h48, hx⟩ := vb_bind hx
      have hx := Option.some.inj hx
      subst hx
      exact ((fw_85 h48 (vsub hc (by decide)) j).trans rfl).symm.trans hK
    · obtain ⟨m53, h51, hx⟩ := vb_bind hx
      obtain ⟨m56, h54, hx⟩ := vb_bind hx
      obtain ⟨m59, h57, hx⟩ := vb_bind hx
      have hx := Option.some.inj hx
      subst hx
      exact ((fw_85 h57 (vsub hc (by decide)) j).trans ((hrec h54).trans ((fw_86 h51 (vsub hc (by decide)) j).trans rfl))).symm.trans hK
theorem fw_84_34 {cn : Nat} {mo : Nat} {c j : Nat} {v : Int} {rec : Int → Int → eM → Option (eM)} (hrec : ∀ {a : Int} {b : Int} {M : eM} {x : eM}, rec a b M = some x → x c j = M c j) {x1 : Int} {x3 : Int} {x4 : Int} {s : Int × Int × eM} {x : eM} (hc : c ∉ ([26, 27, 28] : List Nat)) (hx : lp (fun z => fn_84_34 cn mo rec x1 x3 x4 z.1 z.2.1 z.2.2) s = some x) (hK : (fun (x : eM) => x c j = v) x) : s.2.2 c j = v := by
  refine lp_sound (P := (fun (s : Int × Int × eM) => s.2.2 c j = v)) (K := (fun (x : eM) => x c j = v)) hx hK ?_
  intro s x hx hK
  obtain ⟨s1, s2, s3⟩ := s
  refine vb_ite hx (fun _ hx => ?_) (fun _ hx => ?_)
  · obtain ⟨x, hy, e9⟩ := vb_map hx
    clear hx
    subst e9
    have hx := hy
    clear hy
    have hz := fw_84_69 hrec hc hx hK
    exact (Eq.refl _).symm.trans hz
  · refine vb_ite hx (fun _ hx => ?_) (fun _ hx => ?_)
    · obtain ⟨x, hy, e9⟩ := vb_map hx
      clear hx
      subst e9
      have hx := hy
      clear hy
      have hz := fw_84_69 hrec hc hx hK
      exact (Eq.refl _).symm.trans hz
    · obtain ⟨r62, h61, hx⟩ := vb_bind hx
      refine vb_ite hx (fun _ hx => ?_) (fun _ hx => ?_)
      · obtain ⟨x, hy, e9⟩ := vb_map hx
        clear hx
        subst e9
        have hx := hy
        clear hy
        have hz := fw_84_69 hrec hc hx hK
        exact (Eq.refl _).symm.trans hz
      · obtain ⟨m67, h65, hx⟩ := vb_bind hx
        obtain ⟨r69, h68, hx⟩ := vb_bind hx
        obtain ⟨m73, h71, hx⟩ := vb_bind hx
        obtain ⟨r75, h74, hx⟩ := vb_bind hx
        have hx := Option.some.inj hx
        subst hx
        exact ((hrec h71).trans ((fw_85 h65 (vsub hc (by decide)) j).trans rfl)).symm.trans hK
theorem fwb_84 {cn : Nat} {mo : Nat} {M : eM} {c j : Nat} {rec : Int → Int → eM → Option (eM)} (hrec : ∀ {a : Int} {b : Int} {M : eM} {x : eM}, rec a b M = some x → x c j = M c j) {a : Int} {b : Int} {x : eM} (hx : fb_84 cn mo rec a b M = some x) (hc : c ∉ ([26, 27, 28] : List Nat)) : x c j = M c j := by
  obtain ⟨v, hK⟩ : ∃ v, x c j = v := ⟨_, rfl⟩
  rw [hK]
  refine Eq.symm ?_
  obtain ⟨r2, h1, hx⟩ := vb_bind hx
  refine vb_ite hx (fun _ hx => ?_) (fun _ hx => ?_)
  · have hz := fw_84_89 hrec hc hx hK
    exact (Eq.refl _).symm.trans hz
  · refine vb_ite hx (fun _ hx => ?_) (fun _ hx => ?_)
    · have hz := fw_84_89 hrec hc hx hK
      exact (Eq.refl _).symm.trans hz
    · obtain ⟨m32, h30, hx⟩ := vb_bind hx
      obtain ⟨r34, h33, hx⟩ := vb_bind hx
      obtain ⟨m38, h36, hx⟩ := vb_bind hx
      obtain ⟨r40, h39, hx⟩ := vb_bind hx
      have hz := fw_84_34 hrec hc hx hK
      exact ((hrec h36).trans ((fw_85 h30 (vsub hc (by decide)) j).trans rfl)).symm.trans hz
theorem ft_84 {cn mo : Nat} {sc : eg_Sc} {d : Nat} : ∀ (n : Nat) {a : Int} {b : Int} {M : eM} {Q : Option eg_V → eg_H → Prop} {x : eM}, fn_84 cn mo n a b M = some x → Q (none) (em_L cn mo, eh_R, x) → eg_wp sc (d + 5 + n) 84 [.inr (.inr (some 26)), .inr (.inl a), .inl b] (em_L cn mo, eh_R, M) 0 0 Q := by
  intro n
  induction n with
  | zero => intro a b M Q x hx; cases hx
  | succ n ih =>
    intro a b M Q x hx hK
    have e : d + 5 + (n + 1) = d + n + 6 := by omega
    rw [e]
    refine ftb_84 (d := d + n) (rec := fn_84 cn mo n) ?_ hx hK
    intro a b M x Q hx hK
    have e2 : d + n + 5 = d + 5 + n := by omega
    rw [e2]
    exact ih hx hK
theorem fw_84 {cn : Nat} {mo : Nat} {c : Nat} : ∀ {n : Nat} {a : Int} {b : Int} {M : eM} {x : eM}, fn_84 cn mo n a b M = some x → c ∉ ([26, 27, 28] : List Nat) → ∀ j : Nat, x c j = M c j := by
  intro n
  induction n with
  | zero => intro a b M x hx; cases hx
  | succ n ih =>
    intro a b M x hx hc j
    exact fwb_84 (rec := fn_84 cn mo n) (fun hx => ih hx hc j) hx hc
/-- 83: WeakScheme$Output.print(J)V -/
noncomputable def fn_83 (cn : Nat) (mo : Nat) (a : Int) (M : eM) : Option (eM) :=
  (fn_84 cn mo 12 a 0 (eg_u (eg_u M 26 5 0) 26 6 0)).bind fun m3 =>
  (fn_85 10 m3).bind fun m6 =>
  some m6
set_option maxRecDepth 100000 in
theorem ft_83 {cn mo : Nat} {sc : eg_Sc} {d : Nat} {M : eM} {Q : Option eg_V → eg_H → Prop} {a : Int} {x : eM} (hx : fn_83 cn mo a M = some x) (hK : Q (none) (em_L cn mo, eh_R, x)) : eg_wp sc (d + 18) 83 [.inr (.inr (some 26)), .inr (.inl a)] (em_L cn mo, eh_R, M) 0 0 Q := by
  refine eg_in (lv := [some (.inr (.inr (some 26))), some (.inr (.inl a)), none]) eg_tj83 (Nat.le_of_ble_eq_true rfl) rfl ?_
  refine eg_k_aload rfl rfl ?_
  refine eg_k_ci rfl ?_
  refine eg_k_pfi rfl rfl rfl ?_
  refine eg_k_aload rfl rfl ?_
  refine eg_k_ci rfl ?_
  refine eg_k_pfz rfl rfl rfl (by decide) ?_
  refine eg_k_aload rfl rfl ?_
  refine eg_k_lload rfl rfl ?_
  refine eg_k_ci rfl ?_
  obtain ⟨m3, h1, hx⟩ := vb_bind hx
  refine eg_k_call (c1 := 0) (z1 := 0) (as := [.inr (.inr (some 26)), .inr (.inl a), .inl 0]) (rest := []) rfl eg_tj84 (Nat.le_of_ble_eq_true rfl) rfl rfl rfl (Nat.le_of_ble_eq_true rfl) (Nat.le_refl _) (Nat.le_refl _) ?_ (fun Q hQ => ft_84 12 h1 hQ)
  refine eg_k_aload rfl rfl ?_
  refine eg_k_ci rfl ?_
  obtain ⟨m6, h4, hx⟩ := vb_bind hx
  refine eg_k_call (c1 := 0) (z1 := 0) (as := [.inr (.inr (some 26)), .inl 10]) (rest := []) rfl eg_tj85 (Nat.le_of_ble_eq_true rfl) rfl rfl rfl (Nat.le_of_ble_eq_true rfl) (Nat.le_refl _) (Nat.le_refl _) ?_ (fun Q hQ => ft_85 h4 hQ)
  have hx := Option.some.inj hx
  subst hx
  exact eg_k_ret rfl rfl (Nat.le_refl _) (Nat.le_refl _) hK
theorem fw_83 {cn : Nat} {mo : Nat} {M : eM} {c : Nat} {a : Int} {x : eM} (hx : fn_83 cn mo a M = some x) (hc : c ∉ ([26, 27, 28] : List Nat)) (j : Nat) : x c j = M c j := by
  obtain ⟨v, hK⟩ : ∃ v, x c j = v := ⟨_, rfl⟩
  rw [hK]
  refine Eq.symm ?_
  obtain ⟨m3, h1, hx⟩ := vb_bind hx
  obtain ⟨m6, h4, hx⟩ := vb_bind hx
  have hx := Option.some.inj hx
  subst hx
  exact ((fw_85 h4 (vsub hc (by decide)) j).trans ((fw_84 h1 (vsub hc (by decide)) j).trans ((congrFun (eg_u_ne (vne hc (a := 26) (by decide))) j).trans ((congrFun (eg_u_ne (vne hc (a := 26) (by decide))) j).trans rfl)))).symm.trans hK
/-- 90: WeakScheme$Finalizers.register(JJ)Z -/
noncomputable def fn_90 (a : Int) (b : Int) (M : eM) : Option (Int × eM) :=
  if (eg_wi ((M 21 2) + (M 21 6))) < 500 then
    if 0 ≤ (M 21 2) ∧ (M 21 2) < 500 then
    some (1, eg_u (eg_u (eg_u M 22 (M 21 2).toNat a) 23 (M 21 2).toNat b) 21 2 (eg_wi ((M 21 2) + 1)))
    else none
  else
    some (0, M)
set_option maxRecDepth 100000 in
theorem ft_90 {cn mo : Nat} {sc : eg_Sc} {d : Nat} {M : eM} {Q : Option eg_V → eg_H → Prop} {a : Int} {b : Int} {x : Int × eM} (hx : fn_90 a b M = some x) (hK : Q (some (.inl ((x).1))) (em_L cn mo, eh_R, (x).2)) : eg_wp sc (d + 1) 90 [.inr (.inr (some 21)), .inr (.inl a), .inr (.inl b)] (em_L cn mo, eh_R, M) 0 0 Q := by
  refine eg_in (lv := [some (.inr (.inr (some 21))), some (.inr (.inl a)), none, some (.inr (.inl b)), none]) eg_tj90 (Nat.le_of_ble_eq_true rfl) rfl ?_
  refine eg_k_aload rfl rfl ?_
  refine eg_k_gfi rfl rfl rfl ?_
  refine eg_k_aload rfl rfl ?_
  refine eg_k_gfi rfl rfl rfl ?_
  refine eg_k_iadd rfl ?_
  refine eg_k_ci rfl ?_
  refine vk_icmp rfl hx Iff.rfl (fun c1 hx => ?_) (fun c1 hx => ?_)
  · refine eg_k_aload rfl rfl ?_
    refine eg_k_gfa rfl rfl rfl eh_r21_0 ?_
    refine eg_k_aload rfl rfl ?_
    refine eg_k_gfi rfl rfl rfl ?_
    refine eg_k_lload rfl rfl ?_
    obtain ⟨b2, hx⟩ := vb_if hx
    refine eg_k_last (k := 500) rfl rfl b2.1 b2.2 ?_
    refine eg_k_aload rfl rfl ?_
    refine eg_k_gfa rfl rfl rfl eh_r21_1 ?_
    refine eg_k_aload rfl rfl ?_
    refine eg_k_gfie (x := M 21 2) rfl rfl rfl rfl ?_
    refine eg_k_lload rfl rfl ?_
    refine eg_k_last (k := 500) rfl rfl b2.1 b2.2 ?_
    refine eg_k_aload rfl rfl ?_
    refine eg_k_dupr rfl ?_
    refine eg_k_gfie (x := M 21 2) rfl rfl rfl rfl ?_
    refine eg_k_ci rfl ?_
    refine eg_k_iadd rfl ?_
    refine eg_k_pfi rfl rfl rfl ?_
    refine eg_k_ci rfl ?_
    have hx := Option.some.inj hx
    subst hx
    exact eg_k_iret rfl (Or.inr rfl) (Nat.le_refl _) (Nat.le_refl _) hK
  · refine eg_k_ci rfl ?_
    have hx := Option.some.inj hx
    subst hx
    exact eg_k_iret rfl (Or.inl rfl) (Nat.le_refl _) (Nat.le_refl _) hK
theorem fw_90 {M : eM} {c : Nat} {a : Int} {b : Int} {x : Int × eM} (hx : fn_90 a b M = some x) (hc : c ∉ ([21, 22, 23] : List Nat)) (j : Nat) : ((x).2) c j = M c j := by
  obtain ⟨v, hK⟩ : ∃ v, ((x).2) c j = v := ⟨_, rfl⟩
  rw [hK]
  refine Eq.symm ?_
  refine vb_ite hx (fun _ hx => ?_) (fun _ hx => ?_)
  · obtain ⟨_, hx⟩ := vb_if hx
    have hx := Option.some.inj hx
    subst hx
    exact ((congrFun (eg_u_ne (vne hc (a := 21) (by decide))) j).trans ((congrFun (eg_u_ne (vne hc (a := 23) (by decide))) j).trans ((congrFun (eg_u_ne (vne hc (a := 22) (by decide))) j).trans rfl))).symm.trans hK
  · have hx := Option.some.inj hx
    subst hx
    exact (Eq.refl _).symm.trans hK
noncomputable def fn_93_33 (cn : Nat) (mo : Nat) (x1 : Int) (x2 : Int) (x3 : Int) (M : eM) : Option (Int × eM) :=
  if 0 ≤ x3 ∧ x3 < (mo : Int) then
  if 0 ≤ (M 15 6) ∧ (M 15 6) < (cn : Int) then
    some (x3, eg_u (eg_u (eg_u (eg_u (eg_u (eg_u (eg_u (eg_u M 17 (x3).toNat (M 15 6)) 18 (x3).toNat x1) 19 (x3).toNat x2) 20 (x3).toNat 0) 16 (M 15 6).toNat x3) 15 6 (eg_wi ((M 15 6) + x2))) 15 7 (eg_wi ((M 15 7) + 1))) 15 12 0)
    else none
  else none
/-- 93: WeakScheme$Heap.make(II)I -/
noncomputable def fn_93 (cn : Nat) (mo : Nat) (a : Int) (b : Int) (M : eM) : Option (Int × eM) :=
  if b ≤ (eg_wi ((M 15 0) - (M 15 6))) then
    if ¬ (M 15 9) = 0 then
      if 0 ≤ (M 15 9) ∧ (M 15 9) < (mo : Int) then
      fn_93_33 cn mo a b (M 15 9) (eg_u M 15 9 (M 17 (M 15 9).toNat))
      else none
    else
      fn_93_33 cn mo a b (eg_wi ((M 15 8) + 1)) (eg_u M 15 8 (eg_wi ((M 15 8) + 1)))
  else
    some (0, eg_u M 15 11 1)
set_option maxRecDepth 100000 in
theorem ft_93_33 {cn mo : Nat} {sc : eg_Sc} {d : Nat} {M : eM} {Q : Option eg_V → eg_H → Prop} {x1 : Int} {x2 : Int} {x3 : Int} {x : Int × eM} (hx : fn_93_33 cn mo x1 x2 x3 M = some x) (hK : (fun (x : Int × eM) => Q (some (.inl ((x).1))) (em_L cn mo, eh_R, (x).2)) x) : eg_X sc (eg_wp sc d) eg_p93 (some .int) 0 0 Q 33 [some (.inr (.inr (some 15))), some (.inl x1), some (.inl x2), some (.inl x3)] [] (em_L cn mo, eh_R, M) 0 0 := by
  refine eg_k_aload rfl rfl ?_
  refine eg_k_gfa rfl rfl rfl eh_r15_2 ?_
  refine eg_k_iload rfl rfl ?_
  refine eg_k_aload rfl rfl ?_
  refine eg_k_gfi rfl rfl rfl ?_
  obtain ⟨b4, hx⟩ := vb_if hx
  refine eg_k_iast (k := mo) rfl rfl b4.1 b4.2 ?_
  refine eg_k_aload rfl rfl ?_
  refine eg_k_gfa rfl rfl rfl eh_r15_3 ?_
  refine eg_k_iload rfl rfl ?_
  refine eg_k_iload rfl rfl ?_
  refine eg_k_iast (k := mo) rfl rfl b4.1 b4.2 ?_
  refine eg_k_aload rfl rfl ?_
  refine eg_k_gfa rfl rfl rfl eh_r15_4 ?_
  refine eg_k_iload rfl rfl ?_
  refine eg_k_iload rfl rfl ?_
  refine eg_k_iast (k := mo) rfl rfl b4.1 b4.2 ?_
  refine eg_k_aload rfl rfl ?_
  refine eg_k_gfa rfl rfl rfl eh_r15_5 ?_
  refine eg_k_iload rfl rfl ?_
  refine eg_k_ci rfl ?_
  refine eg_k_iast (k := mo) rfl rfl b4.1 b4.2 ?_
  refine eg_k_aload rfl rfl ?_
  refine eg_k_gfa rfl rfl rfl eh_r15_1 ?_
  refine eg_k_aload rfl rfl ?_
  refine eg_k_gfie (x := M 15 6) rfl rfl rfl rfl ?_
  refine eg_k_iload rfl rfl ?_
  refine eg_k_i2l rfl ?_
  obtain ⟨b8, hx⟩ := vb_if hx
  refine eg_k_last (k := cn) rfl rfl b8.1 b8.2 ?_
  refine eg_k_aload rfl rfl ?_
  refine eg_k_dupr rfl ?_
  refine eg_k_gfie (x := M 15 6) rfl rfl rfl rfl ?_
  refine eg_k_iload rfl rfl ?_
  refine eg_k_iadd rfl ?_
  refine eg_k_pfi rfl rfl rfl ?_
  refine eg_k_aload rfl rfl ?_
  refine eg_k_dupr rfl ?_
  refine eg_k_gfie (x := M 15 7) rfl rfl rfl rfl ?_
  refine eg_k_ci rfl ?_
  refine eg_k_iadd rfl ?_
  refine eg_k_pfi rfl rfl rfl ?_
  refine eg_k_aload rfl rfl ?_
  refine eg_k_ci rfl ?_
  refine eg_k_pfz rfl rfl rfl (by decide) ?_
  refine eg_k_iload rfl rfl ?_
  have hx := Option.some.inj hx
  subst hx
  exact eg_k_iret rfl True.intro (Nat.le_refl _) (Nat.le_refl _) hK
set_option maxRecDepth 100000 in
theorem ft_93 {cn mo : Nat} {sc : eg_Sc} {d : Nat} {M : eM} {Q : Option eg_V → eg_H → Prop} {a : Int} {b : Int} {x : Int × eM} (hx : fn_93 cn mo a b M = some x) (hK : Q (some (.inl ((x).1))) (em_L cn mo, eh_R, (x).2)) : eg_wp sc (d + 1) 93 [.inr (.inr (some 15)), .inl a, .inl b] (em_L cn mo, eh_R, M) 0 0 Q := by
  refine eg_in (lv := [some (.inr (.inr (some 15))), some (.inl a), some (.inl b), none]) eg_tj93 (Nat.le_of_ble_eq_true rfl) rfl ?_
  refine eg_k_iload rfl rfl ?_
  refine eg_k_aload rfl rfl ?_
  refine eg_k_gfi rfl rfl rfl ?_
  refine eg_k_aload rfl rfl ?_
  refine eg_k_gfi rfl rfl rfl ?_
  refine eg_k_isub rfl ?_
  refine vk_icmp rfl hx Iff.rfl (fun c1 hx => ?_) (fun c1 hx => ?_)
  · refine eg_k_aload rfl rfl ?_
    refine eg_k_gfi rfl rfl rfl ?_
    refine eg_k_istore (lv' := [some (.inr (.inr (some 15))), some (.inl a), some (.inl b), some (.inl (M 15 9))]) rfl rfl ?_
    refine eg_k_iload rfl rfl ?_
    refine vk_if rfl hx Iff.rfl (fun c2 hx => ?_) (fun c2 hx => ?_)
    · refine eg_k_aload rfl rfl ?_
      refine eg_k_aload rfl rfl ?_
      refine eg_k_gfa rfl rfl rfl eh_r15_2 ?_
      refine eg_k_iload rfl rfl ?_
      obtain ⟨b3, hx⟩ := vb_if hx
      refine eg_k_iald (k := mo) rfl rfl b3.1 b3.2 ?_
      refine eg_k_pfi rfl rfl rfl ?_
      have hz := ft_93_33 (d := d) (sc := sc) hx hK
      exact hz
    · refine eg_k_aload rfl rfl ?_
      refine eg_k_dupr rfl ?_
      refine eg_k_gfi rfl rfl rfl ?_
      refine eg_k_ci rfl ?_
      refine eg_k_iadd rfl ?_
      refine eg_k_pfi rfl rfl rfl ?_
      refine eg_k_aload rfl rfl ?_
      refine eg_k_gfie (x := eg_wi ((M 15 8) + 1)) rfl rfl rfl rfl ?_
      refine eg_k_istore (lv' := [some (.inr (.inr (some 15))), some (.inl a), some (.inl b), some (.inl (eg_wi ((M 15 8) + 1)))]) rfl rfl ?_
      refine eg_k_goto rfl ?_
      have hz := ft_93_33 (d := d) (sc := sc) hx hK
      exact hz
  · refine eg_k_aload rfl rfl ?_
    refine eg_k_ci rfl ?_
    refine eg_k_pfz rfl rfl rfl (by decide) ?_
    refine eg_k_ci rfl ?_
    have hx := Option.some.inj hx
    subst hx
    exact eg_k_iret rfl True.intro (Nat.le_refl _) (Nat.le_refl _) hK
theorem fw_93_33 {cn : Nat} {mo : Nat} {M : eM} {c j : Nat} {v : Int} {x1 : Int} {x2 : Int} {x3 : Int} {x : Int × eM} (hc : c ∉ ([15, 16, 17, 18, 19, 20] : List Nat)) (hx : fn_93_33 cn mo x1 x2 x3 M = some x) (hK : (fun (x : Int × eM) => ((x).2) c j = v) x) : M c j = v := by
  obtain ⟨_, hx⟩ := vb_if hx
  obtain ⟨_, hx⟩ := vb_if hx
  have hx := Option.some.inj hx
  subst hx
  exact ((congrFun (eg_u_ne (vne hc (a := 15) (by decide))) j).trans ((congrFun (eg_u_ne (vne hc (a := 15) (by decide))) j).trans ((congrFun (eg_u_ne (vne hc (a := 15) (by decide))) j).trans ((congrFun (eg_u_ne (vne hc (a := 16) (by decide))) j).trans ((congrFun (eg_u_ne (vne hc (a := 20) (by decide))) j).trans ((congrFun (eg_u_ne (vne hc (a := 19) (by decide))) j).trans ((congrFun (eg_u_ne (vne hc (a := 18) (by decide))) j).trans ((congrFun (eg_u_ne (vne hc (a := 17) (by decide))) j).trans rfl)))))))).symm.trans hK
theorem fw_93 {cn : Nat} {mo : Nat} {M : eM} {c : Nat} {a : Int} {b : Int} {x : Int × eM} (hx : fn_93 cn mo a b M = some x) (hc : c ∉ ([15, 16, 17, 18, 19, 20] : List Nat)) (j : Nat) : ((x).2) c j = M c j := by
  obtain ⟨v, hK⟩ : ∃ v, ((x).2) c j = v := ⟨_, rfl⟩
  rw [hK]
  refine Eq.symm ?_
  refine vb_ite hx (fun _ hx => ?_) (fun _ hx => ?_)
  · refine vb_ite hx (fun _ hx => ?_) (fun _ hx => ?_)
    · obtain ⟨_, hx⟩ := vb_if hx
      have hz := fw_93_33 hc hx hK
      exact ((congrFun (eg_u_ne (vne hc (a := 15) (by decide))) j).trans rfl).symm.trans hz
    · have hz := fw_93_33 hc hx hK
      exact ((congrFun (eg_u_ne (vne hc (a := 15) (by decide))) j).trans rfl).symm.trans hz
  · have hx := Option.some.inj hx
    subst hx
    exact ((congrFun (eg_u_ne (vne hc (a := 15) (by decide))) j).trans rfl).symm.trans hK
/-- 94: WeakScheme$Heap.put(IIJ)V -/
noncomputable def fn_94 (cn : Nat) (mo : Nat) (a : Int) (b : Int) (e : Int) (M : eM) : Option (eM) :=
  if 0 ≤ a ∧ a < (mo : Int) then
  if 0 ≤ (eg_wi ((M 17 (a).toNat) + b)) ∧ (eg_wi ((M 17 (a).toNat) + b)) < (cn : Int) then
    some (eg_u M 16 (eg_wi ((M 17 (a).toNat) + b)).toNat e)
    else none
  else none
set_option maxRecDepth 100000 in
theorem ft_94 {cn mo : Nat} {sc : eg_Sc} {d : Nat} {M : eM} {Q : Option eg_V → eg_H → Prop} {a : Int} {b : Int} {e : Int} {x : eM} (hx : fn_94 cn mo a b e M = some x) (hK : Q (none) (em_L cn mo, eh_R, x)) : eg_wp sc (d + 1) 94 [.inr (.inr (some 15)), .inl a, .inl b, .inr (.inl e)] (em_L cn mo, eh_R, M) 0 0 Q := by
  refine eg_in (lv := [some (.inr (.inr (some 15))), some (.inl a), some (.inl b), some (.inr (.inl e)), none]) eg_tj94 (Nat.le_of_ble_eq_true rfl) rfl ?_
  refine eg_k_aload rfl rfl ?_
  refine eg_k_gfa rfl rfl rfl eh_r15_1 ?_
  refine eg_k_aload rfl rfl ?_
  refine eg_k_gfa rfl rfl rfl eh_r15_2 ?_
  refine eg_k_iload rfl rfl ?_
  obtain ⟨b1, hx⟩ := vb_if hx
  refine eg_k_iald (k := mo) rfl rfl b1.1 b1.2 ?_
  refine eg_k_iload rfl rfl ?_
  refine eg_k_iadd rfl ?_
  refine eg_k_lload rfl rfl ?_
  obtain ⟨b2, hx⟩ := vb_if hx
  refine eg_k_last (k := cn) rfl rfl b2.1 b2.2 ?_
  have hx := Option.some.inj hx
  subst hx
  exact eg_k_ret rfl rfl (Nat.le_refl _) (Nat.le_refl _) hK
theorem fw_94 {cn : Nat} {mo : Nat} {M : eM} {c : Nat} {a : Int} {b : Int} {e : Int} {x : eM} (hx : fn_94 cn mo a b e M = some x) (hc : c ∉ ([16] : List Nat)) (j : Nat) : x c j = M c j := by
  obtain ⟨v, hK⟩ : ∃ v, x c j = v := ⟨_, rfl⟩
  rw [hK]
  refine Eq.symm ?_
  obtain ⟨_, hx⟩ := vb_if hx
  obtain ⟨_, hx⟩ := vb_if hx
  have hx := Option.some.inj hx
  subst hx
  exact ((congrFun (eg_u_ne (vne hc (a := 16) (by decide))) j).trans rfl).symm.trans hK
/-- 95: WeakScheme.object(I)J -/
noncomputable def fn_95 (a : Int) (M : eM) : Option (Int) :=
  some (eb_lor 17179869184 a)
set_option maxRecDepth 100000 in
theorem ft_95 {cn mo : Nat} {sc : eg_Sc} {d : Nat} {M : eM} {Q : Option eg_V → eg_H → Prop} {a : Int} {x : Int} (hx : fn_95 a M = some x) (hK : Q (some (.inr (.inl x))) (em_L cn mo, eh_R, M)) : eg_wp sc (d + 1) 95 [.inl a] (em_L cn mo, eh_R, M) 0 0 Q := by
  refine eg_in (lv := [some (.inl a)]) eg_tj95 (Nat.le_of_ble_eq_true rfl) rfl ?_
  refine eg_k_cl rfl ?_
  refine eg_k_iload rfl rfl ?_
  refine eg_k_i2l rfl ?_
  refine eg_k_lor rfl ?_
  have hx := Option.some.inj hx
  subst hx
  exact eg_k_lret rfl rfl (Nat.le_refl _) (Nat.le_refl _) hK
/-- 92: WeakScheme$Operations.makeTwo(IIJJ)J -/
noncomputable def fn_92 (cn : Nat) (mo : Nat) (a : Int) (b : Int) (e : Int) (f : Int) (M : eM) : Option (Int × eM) :=
  (fn_93 cn mo a b M).bind fun r2 =>
  if r2.1 = 0 then
    (fn_95 r2.1 r2.2).bind fun r6 =>
    some (r6, r2.2)
  else
    (fn_94 cn mo r2.1 1 e r2.2).bind fun m10 =>
    (fn_94 cn mo r2.1 2 f m10).bind fun m13 =>
    (fn_95 r2.1 m13).bind fun r15 =>
    some (r15, m13)
set_option maxRecDepth 100000 in
theorem ft_92 {cn mo : Nat} {sc : eg_Sc} {d : Nat} {M : eM} {Q : Option eg_V → eg_H → Prop} {a : Int} {b : Int} {e : Int} {f : Int} {x : Int × eM} (hx : fn_92 cn mo a b e f M = some x) (hK : Q (some (.inr (.inl ((x).1)))) (em_L cn mo, eh_R, (x).2)) : eg_wp sc (d + 2) 92 [.inr (.inr (some 43)), .inl a, .inl b, .inr (.inl e), .inr (.inl f)] (em_L cn mo, eh_R, M) 0 0 Q := by
  refine eg_in (lv := [some (.inr (.inr (some 43))), some (.inl a), some (.inl b), some (.inr (.inl e)), none, some (.inr (.inl f)), none, none]) eg_tj92 (Nat.le_of_ble_eq_true rfl) rfl ?_
  refine eg_k_aload rfl rfl ?_
  refine eg_k_gfr rfl rfl rfl eh_r43_1 ?_
  refine eg_k_iload rfl rfl ?_
  refine eg_k_iload rfl rfl ?_
  obtain ⟨r2, h1, hx⟩ := vb_bind hx
  refine eg_k_call (c1 := 0) (z1 := 0) (as := [.inr (.inr (some 15)), .inl a, .inl b]) (rest := []) rfl eg_tj93 (Nat.le_of_ble_eq_true rfl) rfl rfl rfl (Nat.le_of_ble_eq_true rfl) (Nat.le_refl _) (Nat.le_refl _) ?_ (fun Q hQ => ft_93 h1 hQ)
  refine eg_k_istore (lv' := [some (.inr (.inr (some 43))), some (.inl a), some (.inl b), some (.inr (.inl e)), none, some (.inr (.inl f)), none, some (.inl r2.1)]) rfl rfl ?_
  refine eg_k_iload rfl rfl ?_
  refine vk_if rfl hx Iff.rfl (fun c4 hx => ?_) (fun c4 hx => ?_)
  · refine eg_k_iload rfl rfl ?_
    obtain ⟨r6, h5, hx⟩ := vb_bind hx
    refine eg_k_call (c1 := 0) (z1 := 0) (as := [.inl r2.1]) (rest := []) rfl eg_tj95 (Nat.le_of_ble_eq_true rfl) rfl rfl trivial (Nat.le_of_ble_eq_true rfl) (Nat.le_refl _) (Nat.le_refl _) ?_ (fun Q hQ => ft_95 h5 hQ)
    have hx := Option.some.inj hx
    subst hx
    exact eg_k_lret rfl rfl (Nat.le_refl _) (Nat.le_refl _) hK
  · refine eg_k_aload rfl rfl ?_
    refine eg_k_gfr rfl rfl rfl eh_r43_1 ?_
    refine eg_k_iload rfl rfl ?_
    refine eg_k_ci rfl ?_
    refine eg_k_lload rfl rfl ?_
    obtain ⟨m10, h8, hx⟩ := vb_bind hx
    refine eg_k_call (c1 := 0) (z1 := 0) (as := [.inr (.inr (some 15)), .inl r2.1, .inl 1, .inr (.inl e)]) (rest := []) rfl eg_tj94 (Nat.le_of_ble_eq_true rfl) rfl rfl rfl (Nat.le_of_ble_eq_true rfl) (Nat.le_refl _) (Nat.le_refl _) ?_ (fun Q hQ => ft_94 h8 hQ)
    refine eg_k_aload rfl rfl ?_
    refine eg_k_gfr rfl rfl rfl eh_r43_1 ?_
    refine eg_k_iload rfl rfl ?_
    refine eg_k_ci rfl ?_
    refine eg_k_lload rfl rfl ?_
    obtain ⟨m13, h11, hx⟩ := vb_bind hx
    refine eg_k_call (c1 := 0) (z1 := 0) (as := [.inr (.inr (some 15)), .inl r2.1, .inl 2, .inr (.inl f)]) (rest := []) rfl eg_tj94 (Nat.le_of_ble_eq_true rfl) rfl rfl rfl (Nat.le_of_ble_eq_true rfl) (Nat.le_refl _) (Nat.le_refl _) ?_ (fun Q hQ => ft_94 h11 hQ)
    refine eg_k_iload rfl rfl ?_
    obtain ⟨r15, h14, hx⟩ := vb_bind hx
    refine eg_k_call (c1 := 0) (z1 := 0) (as := [.inl r2.1]) (rest := []) rfl eg_tj95 (Nat.le_of_ble_eq_true rfl) rfl rfl trivial (Nat.le_of_ble_eq_true rfl) (Nat.le_refl _) (Nat.le_refl _) ?_ (fun Q hQ => ft_95 h14 hQ)
    have hx := Option.some.inj hx
    subst hx
    exact eg_k_lret rfl rfl (Nat.le_refl _) (Nat.le_refl _) hK
theorem fw_92 {cn : Nat} {mo : Nat} {M : eM} {c : Nat} {a : Int} {b : Int} {e : Int} {f : Int} {x : Int × eM} (hx : fn_92 cn mo a b e f M = some x) (hc : c ∉ ([15, 16, 17, 18, 19, 20] : List Nat)) (j : Nat) : ((x).2) c j = M c j := by
  obtain ⟨v, hK⟩ : ∃ v, ((x).2) c j = v := ⟨_, rfl⟩
  rw [hK]
  refine Eq.symm ?_
  obtain ⟨r2, h1, hx⟩ := vb_bind hx
  refine vb_ite hx (fun _ hx => ?_) (fun _ hx => ?_)
  · obtain ⟨r6, h5, hx⟩ := vb_bind hx
    have hx := Option.some.inj hx
    subst hx
    exact ((fw_93 h1 (vsub hc (by decide)) j).trans rfl).symm.trans hK
  · obtain ⟨m10, h8, hx⟩ := vb_bind hx
    obtain ⟨m13, h11, hx⟩ := vb_bind hx
    obtain ⟨r15, h14, hx⟩ := vb_bind hx
    have hx := Option.some.inj hx
    subst hx
    exact ((fw_94 h11 (vsub hc (by decide)) j).trans ((fw_94 h8 (vsub hc (by decide)) j).trans ((fw_93 h1 (vsub hc (by decide)) j).trans rfl))).symm.trans hK
noncomputable def fn_96_20 (cn : Nat) (mo : Nat) (x1 : Int) (x2 : Int) (x4 : Int) (s1 : Int) (s2 : eM) : Option ((Int × eM) ⊕ (Int × eM)) :=
  if x1 ≤ s1 then
    (fn_95 x4 s2).bind fun r8 =>
    some (.inr (r8, s2))
  else
    if x4 = 0 then
      (fn_95 x4 s2).bind fun r12 =>
      some (.inr (r12, s2))
    else
      (fn_94 cn mo x4 (eg_wi (1 + s1)) x2 s2).bind fun m16 =>
      some (.inl (eg_wi (s1 + 1), m16))
/-- 96: WeakScheme$Operations.makeVector(IJ)J -/
noncomputable def fn_96 (cn : Nat) (mo : Nat) (a : Int) (b : Int) (M : eM) : Option (Int × eM) :=
  if a < 0 then
    some (4294967298, eg_u M 43 4 11)
  else
    if a ≤ 100 then
      (fn_93 cn mo 2 (eg_wi (3 + a)) M).bind fun r4 =>
      lp (fun z => fn_96_20 cn mo a b r4.1 z.1 z.2) (0, r4.2)
    else
      some (4294967298, eg_u M 43 4 11)
set_option maxRecDepth 100000 in
theorem ft_96_20 {cn mo : Nat} {sc : eg_Sc} {d : Nat} {Q : Option eg_V → eg_H → Prop} {x1 : Int} {x2 : Int} {x4 : Int} {s : Int × eM} {x : Int × eM} (hx : lp (fun z => fn_96_20 cn mo x1 x2 x4 z.1 z.2) s = some x) (hK : (fun (x : Int × eM) => Q (some (.inr (.inl ((x).1)))) (em_L cn mo, eh_R, (x).2)) x) : eg_X sc (eg_wp sc (d + 1)) eg_p96 (some .long) 0 0 Q 20 [some (.inr (.inr (some 43))), some (.inl x1), some (.inr (.inl x2)), none, some (.inl x4), some (.inl s.1)] [] (em_L cn mo, eh_R, s.2) 0 0 := by
  refine lp_sound (P := (fun (s : Int × eM) => eg_X sc (eg_wp sc (d + 1)) eg_p96 (some .long) 0 0 Q 20 [some (.inr (.inr (some 43))), some (.inl x1), some (.inr (.inl x2)), none, some (.inl x4), some (.inl s.1)] [] (em_L cn mo, eh_R, s.2) 0 0)) (K := (fun (x : Int × eM) => Q (some (.inr (.inl ((x).1)))) (em_L cn mo, eh_R, (x).2))) hx hK ?_
  intro s x hx hK
  obtain ⟨s1, s2⟩ := s
  refine eg_k_iload rfl rfl ?_
  refine eg_k_iload rfl rfl ?_
  refine vk_icmp rfl hx Iff.rfl (fun c6 hx => ?_) (fun c6 hx => ?_)
  · refine eg_k_iload rfl rfl ?_
    obtain ⟨r8, h7, hx⟩ := vb_bind hx
    refine eg_k_call (c1 := 0) (z1 := 0) (as := [.inl x4]) (rest := []) rfl eg_tj95 (Nat.le_of_ble_eq_true rfl) rfl rfl trivial (Nat.le_of_ble_eq_true rfl) (Nat.le_refl _) (Nat.le_refl _) ?_ (fun Q hQ => ft_95 h7 hQ)
    have hx := Option.some.inj hx
    subst hx
    exact eg_k_lret rfl rfl (Nat.le_refl _) (Nat.le_refl _) hK
  · refine eg_k_iload rfl rfl ?_
    refine vk_if rfl hx Iff.rfl (fun c10 hx => ?_) (fun c10 hx => ?_)
    · refine eg_k_iload rfl rfl ?_
      obtain ⟨r12, h11, hx⟩ := vb_bind hx
      refine eg_k_call (c1 := 0) (z1 := 0) (as := [.inl x4]) (rest := []) rfl eg_tj95 (Nat.le_of_ble_eq_true rfl) rfl rfl trivial (Nat.le_of_ble_eq_true rfl) (Nat.le_refl _) (Nat.le_refl _) ?_ (fun Q hQ => ft_95 h11 hQ)
      have hx := Option.some.inj hx
      subst hx
      exact eg_k_lret rfl rfl (Nat.le_refl _) (Nat.le_refl _) hK
    · refine eg_k_aload rfl rfl ?_
      refine eg_k_gfr rfl rfl rfl eh_r43_1 ?_
      refine eg_k_iload rfl rfl ?_
      refine eg_k_ci rfl ?_
      refine eg_k_iload rfl rfl ?_
      refine eg_k_iadd rfl ?_
      refine eg_k_lload rfl rfl ?_
      obtain ⟨m16, h14, hx⟩ := vb_bind hx
      refine eg_k_call (c1 := 0) (z1 := 0) (as := [.inr (.inr (some 15)), .inl x4, .inl (eg_wi (1 + s1)), .inr (.inl x2)]) (rest := []) rfl eg_tj94 (Nat.le_of_ble_eq_true rfl) rfl rfl rfl (Nat.le_of_ble_eq_true rfl) (Nat.le_refl _) (Nat.le_refl _) ?_ (fun Q hQ => ft_94 h14 hQ)
      refine eg_k_iinc (lv' := [some (.inr (.inr (some 43))), some (.inl x1), some (.inr (.inl x2)), none, some (.inl x4), some (.inl (eg_wi (s1 + 1)))]) rfl rfl rfl ?_
      refine eg_k_goto rfl ?_
      have hx := Option.some.inj hx
      subst hx
      exact hK
set_option maxRecDepth 100000 in
theorem ft_96 {cn mo : Nat} {sc : eg_Sc} {d : Nat} {M : eM} {Q : Option eg_V → eg_H → Prop} {a : Int} {b : Int} {x : Int × eM} (hx : fn_96 cn mo a b M = some x) (hK : Q (some (.inr (.inl ((x).1)))) (em_L cn mo, eh_R, (x).2)) : eg_wp sc (d + 2) 96 [.inr (.inr (some 43)), .inl a, .inr (.inl b)] (em_L cn mo, eh_R, M) 0 0 Q := by
  refine eg_in (lv := [some (.inr (.inr (some 43))), some (.inl a), some (.inr (.inl b)), none, none, none]) eg_tj96 (Nat.le_of_ble_eq_true rfl) rfl ?_
  refine eg_k_iload rfl rfl ?_
  refine vk_if rfl hx Iff.rfl (fun c1 hx => ?_) (fun c1 hx => ?_)
  · refine eg_k_aload rfl rfl ?_
    refine eg_k_ci rfl ?_
    refine eg_k_pfi rfl rfl rfl ?_
    refine eg_k_cl rfl ?_
    have hx := Option.some.inj hx
    subst hx
    exact eg_k_lret rfl rfl (Nat.le_refl _) (Nat.le_refl _) hK
  · refine eg_k_iload rfl rfl ?_
    refine eg_k_ci rfl ?_
    refine vk_icmp rfl hx Iff.rfl (fun c2 hx => ?_) (fun c2 hx => ?_)
    · refine eg_k_aload rfl rfl ?_
      refine eg_k_gfr rfl rfl rfl eh_r43_1 ?_
      refine eg_k_ci rfl ?_
      refine eg_k_ci rfl ?_
      refine eg_k_iload rfl rfl ?_
      refine eg_k_iadd rfl ?_
      obtain ⟨r4, h3, hx⟩ := vb_bind hx
      refine eg_k_call (c1 := 0) (z1 := 0) (as := [.inr (.inr (some 15)), .inl 2, .inl (eg_wi (3 + a))]) (rest := []) rfl eg_tj93 (Nat.le_of_ble_eq_true rfl) rfl rfl rfl (Nat.le_of_ble_eq_true rfl) (Nat.le_refl _) (Nat.le_refl _) ?_ (fun Q hQ => ft_93 h3 hQ)
      refine eg_k_istore (lv' := [some (.inr (.inr (some 43))), some (.inl a), some (.inr (.inl b)), none, some (.inl r4.1), none]) rfl rfl ?_
      refine eg_k_ci rfl ?_
      refine eg_k_istore (lv' := [some (.inr (.inr (some 43))), some (.inl a), some (.inr (.inl b)), none, some (.inl r4.1), some (.inl 0)]) rfl rfl ?_
      have hz := ft_96_20 (d := d) (sc := sc) hx hK
      exact hz
    · refine eg_k_aload rfl rfl ?_
      refine eg_k_ci rfl ?_
      refine eg_k_pfi rfl rfl rfl ?_
      refine eg_k_cl rfl ?_
      have hx := Option.some.inj hx
      subst hx
      exact eg_k_lret rfl rfl (Nat.le_refl _) (Nat.le_refl _) hK
theorem fw_96_20 {cn : Nat} {mo : Nat} {c j : Nat} {v : Int} {x1 : Int} {x2 : Int} {x4 : Int} {s : Int × eM} {x : Int × eM} (hc : c ∉ ([15, 16, 17, 18, 19, 20, 43] : List Nat)) (hx : lp (fun z => fn_96_20 cn mo x1 x2 x4 z.1 z.2) s = some x) (hK : (fun (x : Int × eM) => ((x).2) c j = v) x) : s.2 c j = v := by
  refine lp_sound (P := (fun (s : Int × eM) => s.2 c j = v)) (K := (fun (x : Int × eM) => ((x).2) c j = v)) hx hK ?_
  intro s x hx hK
  obtain ⟨s1, s2⟩ := s
  refine vb_ite hx (fun _ hx => ?_) (fun _ hx => ?_)
  · obtain ⟨r8, h7, hx⟩ := vb_bind hx
    have hx := Option.some.inj hx
    subst hx
    exact (Eq.refl _).symm.trans hK
  · refine vb_ite hx (fun _ hx => ?_) (fun _ hx => ?_)
    · obtain ⟨r12, h11, hx⟩ := vb_bind hx
      have hx := Option.some.inj hx
      subst hx
      exact (Eq.refl _).symm.trans hK
    · obtain ⟨m16, h14, hx⟩ := vb_bind hx
      have hx := Option.some.inj hx
      subst hx
      exact ((fw_94 h14 (vsub hc (by decide)) j).trans rfl).symm.trans hK
theorem fw_96 {cn : Nat} {mo : Nat} {M : eM} {c : Nat} {a : Int} {b : Int} {x : Int × eM} (hx : fn_96 cn mo a b M = some x) (hc : c ∉ ([15, 16, 17, 18, 19, 20, 43] : List Nat)) (j : Nat) : ((x).2) c j = M c j := by
  obtain ⟨v, hK⟩ : ∃ v, ((x).2) c j = v := ⟨_, rfl⟩
  rw [hK]
  refine Eq.symm ?_
  refine vb_ite hx (fun _ hx => ?_) (fun _ hx => ?_)
  · have hx := Option.some.inj hx
    subst hx
    exact ((congrFun (eg_u_ne (vne hc (a := 43) (by decide))) j).trans rfl).symm.trans hK
  · refine vb_ite hx (fun _ hx => ?_) (fun _ hx => ?_)
    · obtain ⟨r4, h3, hx⟩ := vb_bind hx
      have hz := fw_96_20 hc hx hK
      exact ((fw_93 h3 (vsub hc (by decide)) j).trans rfl).symm.trans hz
    · have hx := Option.some.inj hx
      subst hx
      exact ((congrFun (eg_u_ne (vne hc (a := 43) (by decide))) j).trans rfl).symm.trans hK
/-- 98: WeakScheme$Heap.elements(I)I -/
noncomputable def fn_98 (mo : Nat) (a : Int) (M : eM) : Option (Int) :=
  if 0 ≤ a ∧ a < (mo : Int) then
  some (eg_wi ((M 19 (a).toNat) - 3))
  else none
set_option maxRecDepth 100000 in
theorem ft_98 {cn mo : Nat} {sc : eg_Sc} {d : Nat} {M : eM} {Q : Option eg_V → eg_H → Prop} {a : Int} {x : Int} (hx : fn_98 mo a M = some x) (hK : Q (some (.inl x)) (em_L cn mo, eh_R, M)) : eg_wp sc (d + 1) 98 [.inr (.inr (some 15)), .inl a] (em_L cn mo, eh_R, M) 0 0 Q := by
  refine eg_in (lv := [some (.inr (.inr (some 15))), some (.inl a)]) eg_tj98 (Nat.le_of_ble_eq_true rfl) rfl ?_
  refine eg_k_aload rfl rfl ?_
  refine eg_k_gfa rfl rfl rfl eh_r15_4 ?_
  refine eg_k_iload rfl rfl ?_
  obtain ⟨b1, hx⟩ := vb_if hx
  refine eg_k_iald (k := mo) rfl rfl b1.1 b1.2 ?_
  refine eg_k_ci rfl ?_
  refine eg_k_isub rfl ?_
  have hx := Option.some.inj hx
  subst hx
  exact eg_k_iret rfl True.intro (Nat.le_refl _) (Nat.le_refl _) hK
/-- 97: WeakScheme$Operations.isPlace(II)Z -/
noncomputable def fn_97 (mo : Nat) (a : Int) (b : Int) (M : eM) : Option (Int × eM) :=
  if b < 0 then
    some (0, eg_u M 43 4 11)
  else
    (fn_98 mo a M).bind fun r3 =>
    if r3 ≤ b then
      some (0, eg_u M 43 4 11)
    else
      some (1, eg_u M 43 4 0)
set_option maxRecDepth 100000 in
theorem ft_97 {cn mo : Nat} {sc : eg_Sc} {d : Nat} {M : eM} {Q : Option eg_V → eg_H → Prop} {a : Int} {b : Int} {x : Int × eM} (hx : fn_97 mo a b M = some x) (hK : Q (some (.inl ((x).1))) (em_L cn mo, eh_R, (x).2)) : eg_wp sc (d + 2) 97 [.inr (.inr (some 43)), .inl a, .inl b] (em_L cn mo, eh_R, M) 0 0 Q := by
  refine eg_in (lv := [some (.inr (.inr (some 43))), some (.inl a), some (.inl b), none]) eg_tj97 (Nat.le_of_ble_eq_true rfl) rfl ?_
  refine eg_k_iload rfl rfl ?_
  refine vk_if rfl hx Iff.rfl (fun c1 hx => ?_) (fun c1 hx => ?_)
  · refine eg_k_ci rfl ?_
    refine eg_k_istore (lv' := [some (.inr (.inr (some 43))), some (.inl a), some (.inl b), some (.inl 0)]) rfl rfl ?_
    refine eg_k_aload rfl rfl ?_
    refine eg_k_iload rfl rfl ?_
    refine eg_k_if rfl (fun _ => ?_) (fun z => absurd (show (0 : Int) = (0 : Int) by decide) z)
    refine eg_k_ci rfl ?_
    refine eg_k_pfi rfl rfl rfl ?_
    refine eg_k_iload rfl rfl ?_
    have hx := Option.some.inj hx
    subst hx
    exact eg_k_iret rfl (Or.inl rfl) (Nat.le_refl _) (Nat.le_refl _) hK
  · refine eg_k_iload rfl rfl ?_
    refine eg_k_aload rfl rfl ?_
    refine eg_k_gfr rfl rfl rfl eh_r43_1 ?_
    refine eg_k_iload rfl rfl ?_
    obtain ⟨r3, h2, hx⟩ := vb_bind hx
    refine eg_k_call (c1 := 0) (z1 := 0) (as := [.inr (.inr (some 15)), .inl a]) (rest := [.inl b]) rfl eg_tj98 (Nat.le_of_ble_eq_true rfl) rfl rfl rfl (Nat.le_of_ble_eq_true rfl) (Nat.le_refl _) (Nat.le_refl _) ?_ (fun Q hQ => ft_98 h2 hQ)
    refine vk_icmp rfl hx Iff.rfl (fun c5 hx => ?_) (fun c5 hx => ?_)
    · refine eg_k_ci rfl ?_
      refine eg_k_istore (lv' := [some (.inr (.inr (some 43))), some (.inl a), some (.inl b), some (.inl 0)]) rfl rfl ?_
      refine eg_k_aload rfl rfl ?_
      refine eg_k_iload rfl rfl ?_
      refine eg_k_if rfl (fun _ => ?_) (fun z => absurd (show (0 : Int) = (0 : Int) by decide) z)
      refine eg_k_ci rfl ?_
      refine eg_k_pfi rfl rfl rfl ?_
      refine eg_k_iload rfl rfl ?_
      have hx := Option.some.inj hx
      subst hx
      exact eg_k_iret rfl (Or.inl rfl) (Nat.le_refl _) (Nat.le_refl _) hK
    · refine eg_k_ci rfl ?_
      refine eg_k_goto rfl ?_
      refine eg_k_istore (lv' := [some (.inr (.inr (some 43))), some (.inl a), some (.inl b), some (.inl 1)]) rfl rfl ?_
      refine eg_k_aload rfl rfl ?_
      refine eg_k_iload rfl rfl ?_
      refine eg_k_if rfl (fun z => absurd z (show ¬ ((1 : Int) = (0 : Int)) by decide)) (fun _ => ?_)
      refine eg_k_ci rfl ?_
      refine eg_k_goto rfl ?_
      refine eg_k_pfi rfl rfl rfl ?_
      refine eg_k_iload rfl rfl ?_
      have hx := Option.some.inj hx
      subst hx
      exact eg_k_iret rfl (Or.inr rfl) (Nat.le_refl _) (Nat.le_refl _) hK
theorem fw_97 {mo : Nat} {M : eM} {c : Nat} {a : Int} {b : Int} {x : Int × eM} (hx : fn_97 mo a b M = some x) (hc : c ∉ ([43] : List Nat)) (j : Nat) : ((x).2) c j = M c j := by
  obtain ⟨v, hK⟩ : ∃ v, ((x).2) c j = v := ⟨_, rfl⟩
  rw [hK]
  refine Eq.symm ?_
  refine vb_ite hx (fun _ hx => ?_) (fun _ hx => ?_)
  · have hx := Option.some.inj hx
    subst hx
    exact ((congrFun (eg_u_ne (vne hc (a := 43) (by decide))) j).trans rfl).symm.trans hK
  · obtain ⟨r3, h2, hx⟩ := vb_bind hx
    refine vb_ite hx (fun _ hx => ?_) (fun _ hx => ?_)
    · have hx := Option.some.inj hx
      subst hx
      exact ((congrFun (eg_u_ne (vne hc (a := 43) (by decide))) j).trans rfl).symm.trans hK
    · have hx := Option.some.inj hx
      subst hx
      exact ((congrFun (eg_u_ne (vne hc (a := 43) (by decide))) j).trans rfl).symm.trans hK
/-- 99: WeakScheme$Operations.makeWeak(J)J -/
noncomputable def fn_99 (cn : Nat) (mo : Nat) (a : Int) (M : eM) : Option (Int × eM) :=
  (fn_93 cn mo 5 3 M).bind fun r2 =>
  if r2.1 = 0 then
    (fn_95 r2.1 r2.2).bind fun r6 =>
    some (r6, r2.2)
  else
    (fn_94 cn mo r2.1 1 a r2.2).bind fun m10 =>
    (fn_95 r2.1 m10).bind fun r12 =>
    some (r12, m10)
set_option maxRecDepth 100000 in
theorem ft_99 {cn mo : Nat} {sc : eg_Sc} {d : Nat} {M : eM} {Q : Option eg_V → eg_H → Prop} {a : Int} {x : Int × eM} (hx : fn_99 cn mo a M = some x) (hK : Q (some (.inr (.inl ((x).1)))) (em_L cn mo, eh_R, (x).2)) : eg_wp sc (d + 2) 99 [.inr (.inr (some 43)), .inr (.inl a)] (em_L cn mo, eh_R, M) 0 0 Q := by
  refine eg_in (lv := [some (.inr (.inr (some 43))), some (.inr (.inl a)), none, none]) eg_tj99 (Nat.le_of_ble_eq_true rfl) rfl ?_
  refine eg_k_aload rfl rfl ?_
  refine eg_k_gfr rfl rfl rfl eh_r43_1 ?_
  refine eg_k_ci rfl ?_
  refine eg_k_ci rfl ?_
  obtain ⟨r2, h1, hx⟩ := vb_bind hx
  refine eg_k_call (c1 := 0) (z1 := 0) (as := [.inr (.inr (some 15)), .inl 5, .inl 3]) (rest := []) rfl eg_tj93 (Nat.le_of_ble_eq_true rfl) rfl rfl rfl (Nat.le_of_ble_eq_true rfl) (Nat.le_refl _) (Nat.le_refl _) ?_ (fun Q hQ => ft_93 h1 hQ)
  refine eg_k_istore (lv' := [some (.inr (.inr (some 43))), some (.inr (.inl a)), none, some (.inl r2.1)]) rfl rfl ?_
  refine eg_k_iload rfl rfl ?_
  refine vk_if rfl hx Iff.rfl (fun c4 hx => ?_) (fun c4 hx => ?_)
  · refine eg_k_iload rfl rfl ?_
    obtain ⟨r6, h5, hx⟩ := vb_bind hx
    refine eg_k_call (c1 := 0) (z1 := 0) (as := [.inl r2.1]) (rest := []) rfl eg_tj95 (Nat.le_of_ble_eq_true rfl) rfl rfl trivial (Nat.le_of_ble_eq_true rfl) (Nat.le_refl _) (Nat.le_refl _) ?_ (fun Q hQ => ft_95 h5 hQ)
    have hx := Option.some.inj hx
    subst hx
    exact eg_k_lret rfl rfl (Nat.le_refl _) (Nat.le_refl _) hK
  · refine eg_k_aload rfl rfl ?_
    refine eg_k_gfr rfl rfl rfl eh_r43_1 ?_
    refine eg_k_iload rfl rfl ?_
    refine eg_k_ci rfl ?_
    refine eg_k_lload rfl rfl ?_
    obtain ⟨m10, h8, hx⟩ := vb_bind hx
    refine eg_k_call (c1 := 0) (z1 := 0) (as := [.inr (.inr (some 15)), .inl r2.1, .inl 1, .inr (.inl a)]) (rest := []) rfl eg_tj94 (Nat.le_of_ble_eq_true rfl) rfl rfl rfl (Nat.le_of_ble_eq_true rfl) (Nat.le_refl _) (Nat.le_refl _) ?_ (fun Q hQ => ft_94 h8 hQ)
    refine eg_k_iload rfl rfl ?_
    obtain ⟨r12, h11, hx⟩ := vb_bind hx
    refine eg_k_call (c1 := 0) (z1 := 0) (as := [.inl r2.1]) (rest := []) rfl eg_tj95 (Nat.le_of_ble_eq_true rfl) rfl rfl trivial (Nat.le_of_ble_eq_true rfl) (Nat.le_refl _) (Nat.le_refl _) ?_ (fun Q hQ => ft_95 h11 hQ)
    have hx := Option.some.inj hx
    subst hx
    exact eg_k_lret rfl rfl (Nat.le_refl _) (Nat.le_refl _) hK
theorem fw_99 {cn : Nat} {mo : Nat} {M : eM} {c : Nat} {a : Int} {x : Int × eM} (hx : fn_99 cn mo a M = some x) (hc : c ∉ ([15, 16, 17, 18, 19, 20] : List Nat)) (j : Nat) : ((x).2) c j = M c j := by
  obtain ⟨v, hK⟩ : ∃ v, ((x).2) c j = v := ⟨_, rfl⟩
  rw [hK]
  refine Eq.symm ?_
  obtain ⟨r2, h1, hx⟩ := vb_bind hx
  refine vb_ite hx (fun _ hx => ?_) (fun _ hx => ?_)
  · obtain ⟨r6, h5, hx⟩ := vb_bind hx
    have hx := Option.some.inj hx
    subst hx
    exact ((fw_93 h1 (vsub hc (by decide)) j).trans rfl).symm.trans hK
  · obtain ⟨m10, h8, hx⟩ := vb_bind hx
    obtain ⟨r12, h11, hx⟩ := vb_bind hx
    have hx := Option.some.inj hx
    subst hx
    exact ((fw_94 h8 (vsub hc (by decide)) j).trans ((fw_93 h1 (vsub hc (by decide)) j).trans rfl)).symm.trans hK
/-- 100: WeakScheme$Operations.makeTable()J -/
noncomputable def fn_100 (cn : Nat) (mo : Nat) (M : eM) : Option (Int × eM) :=
  (fn_93 cn mo 7 3 M).bind fun r2 =>
  if r2.1 = 0 then
    (fn_95 r2.1 r2.2).bind fun r6 =>
    some (r6, r2.2)
  else
    (fn_94 cn mo r2.1 1 0 r2.2).bind fun m10 =>
    (fn_94 cn mo r2.1 2 0 m10).bind fun m13 =>
    (fn_95 r2.1 m13).bind fun r15 =>
    some (r15, m13)
set_option maxRecDepth 100000 in
theorem ft_100 {cn mo : Nat} {sc : eg_Sc} {d : Nat} {M : eM} {Q : Option eg_V → eg_H → Prop} {x : Int × eM} (hx : fn_100 cn mo M = some x) (hK : Q (some (.inr (.inl ((x).1)))) (em_L cn mo, eh_R, (x).2)) : eg_wp sc (d + 2) 100 [.inr (.inr (some 43))] (em_L cn mo, eh_R, M) 0 0 Q := by
  refine eg_in (lv := [some (.inr (.inr (some 43))), none]) eg_tj100 (Nat.le_of_ble_eq_true rfl) rfl ?_
  refine eg_k_aload rfl rfl ?_
  refine eg_k_gfr rfl rfl rfl eh_r43_1 ?_
  refine eg_k_ci rfl ?_
  refine eg_k_ci rfl ?_
  obtain ⟨r2, h1, hx⟩ := vb_bind hx
  refine eg_k_call (c1 := 0) (z1 := 0) (as := [.inr (.inr (some 15)), .inl 7, .inl 3]) (rest := []) rfl eg_tj93 (Nat.le_of_ble_eq_true rfl) rfl rfl rfl (Nat.le_of_ble_eq_true rfl) (Nat.le_refl _) (Nat.le_refl _) ?_ (fun Q hQ => ft_93 h1 hQ)
  refine eg_k_istore (lv' := [some (.inr (.inr (some 43))), some (.inl r2.1)]) rfl rfl ?_
  refine eg_k_iload rfl rfl ?_
  refine vk_if rfl hx Iff.rfl (fun c4 hx => ?_) (fun c4 hx => ?_)
  · refine eg_k_iload rfl rfl ?_
    obtain ⟨r6, h5, hx⟩ := vb_bind hx
    refine eg_k_call (c1 := 0) (z1 := 0) (as := [.inl r2.1]) (rest := []) rfl eg_tj95 (Nat.le_of_ble_eq_true rfl) rfl rfl trivial (Nat.le_of_ble_eq_true rfl) (Nat.le_refl _) (Nat.le_refl _) ?_ (fun Q hQ => ft_95 h5 hQ)
    have hx := Option.some.inj hx
    subst hx
    exact eg_k_lret rfl rfl (Nat.le_refl _) (Nat.le_refl _) hK
  · refine eg_k_aload rfl rfl ?_
    refine eg_k_gfr rfl rfl rfl eh_r43_1 ?_
    refine eg_k_iload rfl rfl ?_
    refine eg_k_ci rfl ?_
    refine eg_k_cl rfl ?_
    obtain ⟨m10, h8, hx⟩ := vb_bind hx
    refine eg_k_call (c1 := 0) (z1 := 0) (as := [.inr (.inr (some 15)), .inl r2.1, .inl 1, .inr (.inl 0)]) (rest := []) rfl eg_tj94 (Nat.le_of_ble_eq_true rfl) rfl rfl rfl (Nat.le_of_ble_eq_true rfl) (Nat.le_refl _) (Nat.le_refl _) ?_ (fun Q hQ => ft_94 h8 hQ)
    refine eg_k_aload rfl rfl ?_
    refine eg_k_gfr rfl rfl rfl eh_r43_1 ?_
    refine eg_k_iload rfl rfl ?_
    refine eg_k_ci rfl ?_
    refine eg_k_cl rfl ?_
    obtain ⟨m13, h11, hx⟩ := vb_bind hx
    refine eg_k_call (c1 := 0) (z1 := 0) (as := [.inr (.inr (some 15)), .inl r2.1, .inl 2, .inr (.inl 0)]) (rest := []) rfl eg_tj94 (Nat.le_of_ble_eq_true rfl) rfl rfl rfl (Nat.le_of_ble_eq_true rfl) (Nat.le_refl _) (Nat.le_refl _) ?_ (fun Q hQ => ft_94 h11 hQ)
    refine eg_k_iload rfl rfl ?_
    obtain ⟨r15, h14, hx⟩ := vb_bind hx
    refine eg_k_call (c1 := 0) (z1 := 0) (as := [.inl r2.1]) (rest := []) rfl eg_tj95 (Nat.le_of_ble_eq_true rfl) rfl rfl trivial (Nat.le_of_ble_eq_true rfl) (Nat.le_refl _) (Nat.le_refl _) ?_ (fun Q hQ => ft_95 h14 hQ)
    have hx := Option.some.inj hx
    subst hx
    exact eg_k_lret rfl rfl (Nat.le_refl _) (Nat.le_refl _) hK
theorem fw_100 {cn : Nat} {mo : Nat} {M : eM} {c : Nat} {x : Int × eM} (hx : fn_100 cn mo M = some x) (hc : c ∉ ([15, 16, 17, 18, 19, 20] : List Nat)) (j : Nat) : ((x).2) c j = M c j := by
  obtain ⟨v, hK⟩ : ∃ v, ((x).2) c j = v := ⟨_, rfl⟩
  rw [hK]
  refine Eq.symm ?_
  obtain ⟨r2, h1, hx⟩ := vb_bind hx
  refine vb_ite hx (fun _ hx => ?_) (fun _ hx => ?_)
  · obtain ⟨r6, h5, hx⟩ := vb_bind hx
    have hx := Option.some.inj hx
    subst hx
    exact ((fw_93 h1 (vsub hc (by decide)) j).trans rfl).symm.trans hK
  · obtain ⟨m10, h8, hx⟩ := vb_bind hx
    obtain ⟨m13, h11, hx⟩ := vb_bind hx
    obtain ⟨r15, h14, hx⟩ := vb_bind hx
    have hx := Option.some.inj hx
    subst hx
    exact ((fw_94 h11 (vsub hc (by decide)) j).trans ((fw_94 h8 (vsub hc (by decide)) j).trans ((fw_93 h1 (vsub hc (by decide)) j).trans rfl))).symm.trans hK
noncomputable def fn_102_7 (cn : Nat) (mo : Nat) (x1 : Int) (x2 : Int) (M : eM) (s : Int) : Option ((Int) ⊕ (Int)) :=
  if s = 0 then
    some (.inr s)
  else
    (fn_78 cn mo s 1 M).bind fun r6 =>
    if r6 = x2 then
      some (.inr s)
    else
      (fn_78 cn mo s 3 M).bind fun r10 =>
      some (.inl (eg_wi r10))
/-- 102: WeakScheme$Operations.findEntry(IJ)I -/
noncomputable def fn_102 (cn : Nat) (mo : Nat) (a : Int) (b : Int) (M : eM) : Option (Int) :=
  (fn_78 cn mo a 1 M).bind fun r2 =>
  lp (fn_102_7 cn mo a b M) (eg_wi r2)
set_option maxRecDepth 100000 in
theorem ft_102_7 {cn mo : Nat} {sc : eg_Sc} {d : Nat} {M : eM} {Q : Option eg_V → eg_H → Prop} {x1 : Int} {x2 : Int} {s : Int} {x : Int} (hx : lp (fn_102_7 cn mo x1 x2 M) s = some x) (hK : (fun (x : Int) => Q (some (.inl x)) (em_L cn mo, eh_R, M)) x) : eg_X sc (eg_wp sc (d + 1)) eg_p102 (some .int) 0 0 Q 7 [some (.inr (.inr (some 43))), some (.inl x1), some (.inr (.inl x2)), none, some (.inl s)] [] (em_L cn mo, eh_R, M) 0 0 := by
  refine lp_sound (P := (fun (s : Int) => eg_X sc (eg_wp sc (d + 1)) eg_p102 (some .int) 0 0 Q 7 [some (.inr (.inr (some 43))), some (.inl x1), some (.inr (.inl x2)), none, some (.inl s)] [] (em_L cn mo, eh_R, M) 0 0)) (K := (fun (x : Int) => Q (some (.inl x)) (em_L cn mo, eh_R, M))) hx hK ?_
  intro s x hx hK
  refine eg_k_iload rfl rfl ?_
  refine vk_if rfl hx Iff.rfl (fun c4 hx => ?_) (fun c4 hx => ?_)
  · refine eg_k_iload rfl rfl ?_
    have hx := Option.some.inj hx
    subst hx
    exact eg_k_iret rfl True.intro (Nat.le_refl _) (Nat.le_refl _) hK
  · refine eg_k_aload rfl rfl ?_
    refine eg_k_gfr rfl rfl rfl eh_r43_1 ?_
    refine eg_k_iload rfl rfl ?_
    refine eg_k_ci rfl ?_
    obtain ⟨r6, h5, hx⟩ := vb_bind hx
    refine eg_k_call (c1 := 0) (z1 := 0) (as := [.inr (.inr (some 15)), .inl s, .inl 1]) (rest := []) rfl eg_tj78 (Nat.le_of_ble_eq_true rfl) rfl rfl rfl (Nat.le_of_ble_eq_true rfl) (Nat.le_refl _) (Nat.le_refl _) ?_ (fun Q hQ => ft_78 h5 hQ)
    refine eg_k_lload rfl rfl ?_
    refine vk_lcmp rfl rfl hx Iff.rfl (fun c8 hx => ?_) (fun c8 hx => ?_)
    · refine eg_k_iload rfl rfl ?_
      have hx := Option.some.inj hx
      subst hx
      exact eg_k_iret rfl True.intro (Nat.le_refl _) (Nat.le_refl _) hK
    · refine eg_k_aload rfl rfl ?_
      refine eg_k_gfr rfl rfl rfl eh_r43_1 ?_
      refine eg_k_iload rfl rfl ?_
      refine eg_k_ci rfl ?_
      obtain ⟨r10, h9, hx⟩ := vb_bind hx
      refine eg_k_call (c1 := 0) (z1 := 0) (as := [.inr (.inr (some 15)), .inl s, .inl 3]) (rest := []) rfl eg_tj78 (Nat.le_of_ble_eq_true rfl) rfl rfl rfl (Nat.le_of_ble_eq_true rfl) (Nat.le_refl _) (Nat.le_refl _) ?_ (fun Q hQ => ft_78 h9 hQ)
      refine eg_k_l2i rfl ?_
      refine eg_k_istore (lv' := [some (.inr (.inr (some 43))), some (.inl x1), some (.inr (.inl x2)), none, some (.inl (eg_wi r10))]) rfl rfl ?_
      refine eg_k_goto rfl ?_
      have hx := Option.some.inj hx
      subst hx
      exact hK
set_option maxRecDepth 100000 in
theorem ft_102 {cn mo : Nat} {sc : eg_Sc} {d : Nat} {M : eM} {Q : Option eg_V → eg_H → Prop} {a : Int} {b : Int} {x : Int} (hx : fn_102 cn mo a b M = some x) (hK : Q (some (.inl x)) (em_L cn mo, eh_R, M)) : eg_wp sc (d + 2) 102 [.inr (.inr (some 43)), .inl a, .inr (.inl b)] (em_L cn mo, eh_R, M) 0 0 Q := by
  refine eg_in (lv := [some (.inr (.inr (some 43))), some (.inl a), some (.inr (.inl b)), none, none]) eg_tj102 (Nat.le_of_ble_eq_true rfl) rfl ?_
  refine eg_k_aload rfl rfl ?_
  refine eg_k_gfr rfl rfl rfl eh_r43_1 ?_
  refine eg_k_iload rfl rfl ?_
  refine eg_k_ci rfl ?_
  obtain ⟨r2, h1, hx⟩ := vb_bind hx
  refine eg_k_call (c1 := 0) (z1 := 0) (as := [.inr (.inr (some 15)), .inl a, .inl 1]) (rest := []) rfl eg_tj78 (Nat.le_of_ble_eq_true rfl) rfl rfl rfl (Nat.le_of_ble_eq_true rfl) (Nat.le_refl _) (Nat.le_refl _) ?_ (fun Q hQ => ft_78 h1 hQ)
  refine eg_k_l2i rfl ?_
  refine eg_k_istore (lv' := [some (.inr (.inr (some 43))), some (.inl a), some (.inr (.inl b)), none, some (.inl (eg_wi r2))]) rfl rfl ?_
  have hz := ft_102_7 (d := d) (sc := sc) hx hK
  exact hz
/-- 101: WeakScheme$Operations.putInTable(IJJ)V -/
noncomputable def fn_101 (cn : Nat) (mo : Nat) (a : Int) (b : Int) (e : Int) (M : eM) : Option (eM) :=
  (fn_102 cn mo a b M).bind fun r2 =>
  if ¬ r2 = 0 then
    (fn_94 cn mo r2 2 e M).bind fun m7 =>
    some m7
  else
    (fn_93 cn mo 8 5 M).bind fun r9 =>
    if ¬ r9.1 = 0 then
      (fn_94 cn mo r9.1 1 b r9.2).bind fun m14 =>
      (fn_78 cn mo a 1 m14).bind fun r16 =>
      (fn_94 cn mo r9.1 3 r16 m14).bind fun m20 =>
      (fn_94 cn mo a 1 r9.1 m20).bind fun m23 =>
      (fn_78 cn mo a 2 m23).bind fun r25 =>
      (fn_94 cn mo a 2 (eg_wl (r25 + 1)) m23).bind fun m29 =>
      (fn_94 cn mo r9.1 2 e m29).bind fun m32 =>
      some m32
    else
      some r9.2
set_option maxRecDepth 100000 in
theorem ft_101 {cn mo : Nat} {sc : eg_Sc} {d : Nat} {M : eM} {Q : Option eg_V → eg_H → Prop} {a : Int} {b : Int} {e : Int} {x : eM} (hx : fn_101 cn mo a b e M = some x) (hK : Q (none) (em_L cn mo, eh_R, x)) : eg_wp sc (d + 3) 101 [.inr (.inr (some 43)), .inl a, .inr (.inl b), .inr (.inl e)] (em_L cn mo, eh_R, M) 0 0 Q := by
  refine eg_in (lv := [some (.inr (.inr (some 43))), some (.inl a), some (.inr (.inl b)), none, some (.inr (.inl e)), none, none]) eg_tj101 (Nat.le_of_ble_eq_true rfl) rfl ?_
  refine eg_k_aload rfl rfl ?_
  refine eg_k_iload rfl rfl ?_
  refine eg_k_lload rfl rfl ?_
  obtain ⟨r2, h1, hx⟩ := vb_bind hx
  refine eg_k_call (c1 := 0) (z1 := 0) (as := [.inr (.inr (some 43)), .inl a, .inr (.inl b)]) (rest := []) rfl eg_tj102 (Nat.le_of_ble_eq_true rfl) rfl rfl rfl (Nat.le_of_ble_eq_true rfl) (Nat.le_refl _) (Nat.le_refl _) ?_ (fun Q hQ => ft_102 h1 hQ)
  refine eg_k_istore (lv' := [some (.inr (.inr (some 43))), some (.inl a), some (.inr (.inl b)), none, some (.inr (.inl e)), none, some (.inl r2)]) rfl rfl ?_
  refine eg_k_iload rfl rfl ?_
  refine vk_if rfl hx Iff.rfl (fun c4 hx => ?_) (fun c4 hx => ?_)
  · refine eg_k_aload rfl rfl ?_
    refine eg_k_gfr rfl rfl rfl eh_r43_1 ?_
    refine eg_k_iload rfl rfl ?_
    refine eg_k_ci rfl ?_
    refine eg_k_lload rfl rfl ?_
    obtain ⟨m7, h5, hx⟩ := vb_bind hx
    refine eg_k_call (c1 := 0) (z1 := 0) (as := [.inr (.inr (some 15)), .inl r2, .inl 2, .inr (.inl e)]) (rest := []) rfl eg_tj94 (Nat.le_of_ble_eq_true rfl) rfl rfl rfl (Nat.le_of_ble_eq_true rfl) (Nat.le_refl _) (Nat.le_refl _) ?_ (fun Q hQ => ft_94 h5 hQ)
    have hx := Option.some.inj hx
    subst hx
    exact eg_k_ret rfl rfl (Nat.le_refl _) (Nat.le_refl _) hK
  · refine eg_k_aload rfl rfl ?_
    refine eg_k_gfr rfl rfl rfl eh_r43_1 ?_
    refine eg_k_ci rfl ?_
    refine eg_k_ci rfl ?_
    obtain ⟨r9, h8, hx⟩ := vb_bind hx
    refine eg_k_call (c1 := 0) (z1 := 0) (as := [.inr (.inr (some 15)), .inl 8, .inl 5]) (rest := []) rfl eg_tj93 (Nat.le_of_ble_eq_true rfl) rfl rfl rfl (Nat.le_of_ble_eq_true rfl) (Nat.le_refl _) (Nat.le_refl _) ?_ (fun Q hQ => ft_93 h8 hQ)
    refine eg_k_istore (lv' := [some (.inr (.inr (some 43))), some (.inl a), some (.inr (.inl b)), none, some (.inr (.inl e)), none, some (.inl r9.1)]) rfl rfl ?_
    refine eg_k_iload rfl rfl ?_
    refine vk_if rfl hx Iff.rfl (fun c11 hx => ?_) (fun c11 hx => ?_)
    · refine eg_k_aload rfl rfl ?_
      refine eg_k_gfr rfl rfl rfl eh_r43_1 ?_
      refine eg_k_iload rfl rfl ?_
      refine eg_k_ci rfl ?_
      refine eg_k_lload rfl rfl ?_
      obtain ⟨m14, h12, hx⟩ := vb_bind hx
      refine eg_k_call (c1 := 0) (z1 := 0) (as := [.inr (.inr (some 15)), .inl r9.1, .inl 1, .inr (.inl b)]) (rest := []) rfl eg_tj94 (Nat.le_of_ble_eq_true rfl) rfl rfl rfl (Nat.le_of_ble_eq_true rfl) (Nat.le_refl _) (Nat.le_refl _) ?_ (fun Q hQ => ft_94 h12 hQ)
      refine eg_k_aload rfl rfl ?_
      refine eg_k_gfr rfl rfl rfl eh_r43_1 ?_
      refine eg_k_iload rfl rfl ?_
      refine eg_k_ci rfl ?_
      refine eg_k_aload rfl rfl ?_
      refine eg_k_gfr rfl rfl rfl eh_r43_1 ?_
      refine eg_k_iload rfl rfl ?_
      refine eg_k_ci rfl ?_
      obtain ⟨r16, h15, hx⟩ := vb_bind hx
      refine eg_k_call (c1 := 0) (z1 := 0) (as := [.inr (.inr (some 15)), .inl a, .inl 1]) (rest := [.inl 3, .inl r9.1, .inr (.inr (some 15))]) rfl eg_tj78 (Nat.le_of_ble_eq_true rfl) rfl rfl rfl (Nat.le_of_ble_eq_true rfl) (Nat.le_refl _) (Nat.le_refl _) ?_ (fun Q hQ => ft_78 h15 hQ)
      obtain ⟨m20, h18, hx⟩ := vb_bind hx
      refine eg_k_call (c1 := 0) (z1 := 0) (as := [.inr (.inr (some 15)), .inl r9.1, .inl 3, .inr (.inl r16)]) (rest := []) rfl eg_tj94 (Nat.le_of_ble_eq_true rfl) rfl rfl rfl (Nat.le_of_ble_eq_true rfl) (Nat.le_refl _) (Nat.le_refl _) ?_ (fun Q hQ => ft_94 h18 hQ)
      refine eg_k_aload rfl rfl ?_
      refine eg_k_gfr rfl rfl rfl eh_r43_1 ?_
      refine eg_k_iload rfl rfl ?_
      refine eg_k_ci rfl ?_
      refine eg_k_iload rfl rfl ?_
      refine eg_k_i2l rfl ?_
      obtain ⟨m23, h21, hx⟩ := vb_bind hx
      refine eg_k_call (c1 := 0) (z1 := 0) (as := [.inr (.inr (some 15)), .inl a, .inl 1, .inr (.inl r9.1)]) (rest := []) rfl eg_tj94 (Nat.le_of_ble_eq_true rfl) rfl rfl rfl (Nat.le_of_ble_eq_true rfl) (Nat.le_refl _) (Nat.le_refl _) ?_ (fun Q hQ => ft_94 h21 hQ)
      refine eg_k_aload rfl rfl ?_
      refine eg_k_gfr rfl rfl rfl eh_r43_1 ?_
      refine eg_k_iload rfl rfl ?_
      refine eg_k_ci rfl ?_
      refine eg_k_aload rfl rfl ?_
      refine eg_k_gfr rfl rfl rfl eh_r43_1 ?_
      refine eg_k_iload rfl rfl ?_
      refine eg_k_ci rfl ?_
      obtain ⟨r25, h24, hx⟩ := vb_bind hx
      refine eg_k_call (c1 := 0) (z1 := 0) (as := [.inr (.inr (some 15)), .inl a, .inl 2]) (rest := [.inl 2, .inl a, .inr (.inr (some 15))]) rfl eg_tj78 (Nat.le_of_ble_eq_true rfl) rfl rfl rfl (Nat.le_of_ble_eq_true rfl) (Nat.le_refl _) (Nat.le_refl _) ?_ (fun Q hQ => ft_78 h24 hQ)
      refine eg_k_cl rfl ?_
      refine eg_k_ladd rfl ?_
      obtain ⟨m29, h27, hx⟩ := vb_bind hx
      refine eg_k_call (c1 := 0) (z1 := 0) (as := [.inr (.inr (some 15)), .inl a, .inl 2, .inr (.inl (eg_wl (r25 + 1)))]) (rest := []) rfl eg_tj94 (Nat.le_of_ble_eq_true rfl) rfl rfl rfl (Nat.le_of_ble_eq_true rfl) (Nat.le_refl _) (Nat.le_refl _) ?_ (fun Q hQ => ft_94 h27 hQ)
      refine eg_k_aload rfl rfl ?_
      refine eg_k_gfr rfl rfl rfl eh_r43_1 ?_
      refine eg_k_iload rfl rfl ?_
      refine eg_k_ci rfl ?_
      refine eg_k_lload rfl rfl ?_
      obtain ⟨m32, h30, hx⟩ := vb_bind hx
      refine eg_k_call (c1 := 0) (z1 := 0) (as := [.inr (.inr (some 15)), .inl r9.1, .inl 2, .inr (.inl e)]) (rest := []) rfl eg_tj94 (Nat.le_of_ble_eq_true rfl) rfl rfl rfl (Nat.le_of_ble_eq_true rfl) (Nat.le_refl _) (Nat.le_refl _) ?_ (fun Q hQ => ft_94 h30 hQ)
      have hx := Option.some.inj hx
      subst hx
      exact eg_k_ret rfl rfl (Nat.le_refl _) (Nat.le_refl _) hK
    · have hx := Option.some.inj hx
      subst hx
      exact eg_k_ret rfl rfl (Nat.le_refl _) (Nat.le_refl _) hK
theorem fw_101 {cn : Nat} {mo : Nat} {M : eM} {c : Nat} {a : Int} {b : Int} {e : Int} {x : eM} (hx : fn_101 cn mo a b e M = some x) (hc : c ∉ ([15, 16, 17, 18, 19, 20] : List Nat)) (j : Nat) : x c j = M c j := by
  obtain ⟨v, hK⟩ : ∃ v, x c j = v := ⟨_, rfl⟩
  rw [hK]
  refine Eq.symm ?_
  obtain ⟨r2, h1, hx⟩ := vb_bind hx
  refine vb_ite hx (fun _ hx => ?_) (fun _ hx => ?_)
  · obtain ⟨m7, h5, hx⟩ := vb_bind hx
    have hx := Option.some.inj hx
    subst hx
    exact ((fw_94 h5 (vsub hc (by decide)) j).trans rfl).symm.trans hK
  · obtain ⟨r9, h8, hx⟩ := vb_bind hx
    refine vb_ite hx (fun _ hx => ?_) (fun _ hx => ?_)
    · obtain ⟨m14, h12, hx⟩ := vb_bind hx
      obtain ⟨r16, h15, hx⟩ := vb_bind hx
      obtain ⟨m20, h18, hx⟩ := vb_bind hx
      obtain ⟨m23, h21, hx⟩ := vb_bind hx
      obtain ⟨r25, h24, hx⟩ := vb_bind hx
      obtain ⟨m29, h27, hx⟩ := vb_bind hx
      obtain ⟨m32, h30, hx⟩ := vb_bind hx
      have hx := Option.some.inj hx
      subst hx
      exact ((fw_94 h30 (vsub hc (by decide)) j).trans ((fw_94 h27 (vsub hc (by decide)) j).trans ((fw_94 h21 (vsub hc (by decide)) j).trans ((fw_94 h18 (vsub hc (by decide)) j).trans ((fw_94 h12 (vsub hc (by decide)) j).trans ((fw_93 h8 (vsub hc (by decide)) j).trans rfl)))))).symm.trans hK
    · have hx := Option.some.inj hx
      subst hx
      exact ((fw_93 h8 (vsub hc (by decide)) j).trans rfl).symm.trans hK
/-- 91: WeakScheme$Operations.operateOnObject(LWeakScheme$Primitive;JJJ)J -/
noncomputable def fn_91 (cn : Nat) (mo : Nat) (a : Nat) (b : Int) (e : Int) (f : Int) (M : eM) : Option (Int × eM) :=
  if a < 34 then
  if 0 ≤ ((a : Nat) : Int) ∧ ((a : Nat) : Int) < 34 then
    if (eg_swm.getD (((a : Nat) : Int)).toNat 0) = 17 then
        (fn_92 cn mo 1 4 b e M).bind fun r4 =>
        some (r4.1, r4.2)
      else if (eg_swm.getD (((a : Nat) : Int)).toNat 0) = 18 then
        (fn_78 cn mo (eg_wi b) 1 M).bind fun r7 =>
        some (r7, M)
      else if (eg_swm.getD (((a : Nat) : Int)).toNat 0) = 19 then
        (fn_78 cn mo (eg_wi b) 2 M).bind fun r10 =>
        some (r10, M)
      else if (eg_swm.getD (((a : Nat) : Int)).toNat 0) = 20 then
        (fn_94 cn mo (eg_wi b) 1 e M).bind fun m14 =>
        some (4294967298, m14)
      else if (eg_swm.getD (((a : Nat) : Int)).toNat 0) = 21 then
        (fn_94 cn mo (eg_wi b) 2 e M).bind fun m17 =>
        some (4294967298, m17)
      else if (eg_swm.getD (((a : Nat) : Int)).toNat 0) = 22 then
        (fn_96 cn mo (eg_wi b) e M).bind fun r19 =>
        some (r19.1, r19.2)
      else if (eg_swm.getD (((a : Nat) : Int)).toNat 0) = 23 then
        (fn_97 mo (eg_wi b) (eg_wi e) M).bind fun r22 =>
        if r22.1 = 0 then
          some (4294967298, r22.2)
        else
          (fn_78 cn mo (eg_wi b) (eg_wi (1 + (eg_wi e))) r22.2).bind fun r26 =>
          some (r26, r22.2)
      else if (eg_swm.getD (((a : Nat) : Int)).toNat 0) = 24 then
        (fn_97 mo (eg_wi b) (eg_wi e) M).bind fun r29 =>
        if r29.1 = 0 then
          some (4294967298, r29.2)
        else
          (fn_94 cn mo (eg_wi b) (eg_wi (1 + (eg_wi e))) f r29.2).bind fun m34 =>
          some (4294967298, m34)
      else if (eg_swm.getD (((a : Nat) : Int)).toNat 0) = 25 then
        (fn_98 mo (eg_wi b) M).bind fun r36 =>
        (fn_49 r36 M).bind fun r39 =>
        some (r39, M)
      else if (eg_swm.getD (((a : Nat) : Int)).toNat 0) = 26 then
        (fn_99 cn mo b M).bind fun r42 =>
        some (r42.1, r42.2)
      else if (eg_swm.getD (((a : Nat) : Int)).toNat 0) = 27 then
        (fn_78 cn mo (eg_wi b) 1 M).bind fun r45 =>
        some (r45, M)
      else if (eg_swm.getD (((a : Nat) : Int)).toNat 0) = 28 then
        (fn_92 cn mo 6 4 b e M).bind fun r48 =>
        some (r48.1, r48.2)
      else if (eg_swm.getD (((a : Nat) : Int)).toNat 0) = 29 then
        (fn_78 cn mo (eg_wi b) 1 M).bind fun r51 =>
        some (r51, M)
      else if (eg_swm.getD (((a : Nat) : Int)).toNat 0) = 30 then
        (fn_78 cn mo (eg_wi b) 2 M).bind fun r54 =>
        some (r54, M)
      else if (eg_swm.getD (((a : Nat) : Int)).toNat 0) = 31 then
        (fn_100 cn mo M).bind fun r57 =>
        some (r57.1, r57.2)
      else if (eg_swm.getD (((a : Nat) : Int)).toNat 0) = 32 then
        (fn_101 cn mo (eg_wi b) e f M).bind fun m61 =>
        some (4294967298, m61)
      else if (eg_swm.getD (((a : Nat) : Int)).toNat 0) = 33 then
        (fn_102 cn mo (eg_wi b) e M).bind fun r63 =>
        if ¬ r63 = 0 then
          (fn_78 cn mo r63 2 M).bind fun r67 =>
          some (r67, M)
        else
          some (4294967296, M)
      else if (eg_swm.getD (((a : Nat) : Int)).toNat 0) = 34 then
        (fn_78 cn mo (eg_wi b) 2 M).bind fun r70 =>
        (fn_49 (eg_wi r70) M).bind fun r73 =>
        some (r73, M)
      else 
        some (4294967298, M)
    else none
  else none
set_option maxRecDepth 100000 in
theorem ft_91 {cn mo : Nat} {sc : eg_Sc} {d : Nat} {M : eM} {Q : Option eg_V → eg_H → Prop} {a : Nat} {b : Int} {e : Int} {f : Int} {x : Int × eM} (hx : fn_91 cn mo a b e f M = some x) (hK : Q (some (.inr (.inl ((x).1)))) (em_L cn mo, eh_R, (x).2)) : eg_wp sc (d + 4) 91 [.inr (.inr (some 43)), .inr (.inr (some (1000100 + a))), .inr (.inl b), .inr (.inl e), .inr (.inl f)] (em_L cn mo, eh_R, M) 0 0 Q := by
  refine eg_in (lv := [some (.inr (.inr (some 43))), some (.inr (.inr (some (1000100 + a)))), some (.inr (.inl b)), none, some (.inr (.inl e)), none, some (.inr (.inl f)), none, none, none]) eg_tj91 (Nat.le_of_ble_eq_true rfl) rfl ?_
  refine eg_k_lload rfl rfl ?_
  refine eg_k_l2i rfl ?_
  refine eg_k_istore (lv' := [some (.inr (.inr (some 43))), some (.inr (.inr (some (1000100 + a)))), some (.inr (.inl b)), none, some (.inr (.inl e)), none, some (.inr (.inl f)), none, some (.inl (eg_wi b)), none]) rfl rfl ?_
  refine eg_k_gets (v := .inr (.inr (some 1000003))) rfl rfl ?_
  refine eg_k_aload rfl rfl ?_
  obtain ⟨b1, hx⟩ := vb_if hx
  refine eg_k_call (c1 := 0) (z1 := 0) (as := [.inr (.inr (some (1000100 + a)))]) (rest := [.inr (.inr (some 1000003))]) rfl eg_tj80 (Nat.le_of_ble_eq_true rfl) rfl rfl (vb_rcp b1) (Nat.le_of_ble_eq_true rfl) (Nat.le_refl _) (Nat.le_refl _) ?_ (fun Q hQ => vb_ord b1 hQ)
  obtain ⟨b2, hx⟩ := vb_if hx
  refine eg_k_tiald (k := 34) (f9 := fun j => .inl (eg_swm.getD j 0)) rfl (es_no (Nat.le_of_ble_eq_true rfl) (by decide)) rfl b2.1 b2.2 ?_
  refine vb_ite hx (fun e9 hx => ?_) (fun e9 hx => ?_)
  · refine eg_k_tsw (x := eg_swm.getD (((a : Nat) : Int)).toNat 0) (t := 8) rfl (by rw [e9]; rfl) ?_
    refine eg_k_aload rfl rfl ?_
    refine eg_k_ci rfl ?_
    refine eg_k_ci rfl ?_
    refine eg_k_lload rfl rfl ?_
    refine eg_k_lload rfl rfl ?_
    obtain ⟨r4, h3, hx⟩ := vb_bind hx
    refine eg_k_call (c1 := 0) (z1 := 0) (as := [.inr (.inr (some 43)), .inl 1, .inl 4, .inr (.inl b), .inr (.inl e)]) (rest := []) rfl eg_tj92 (Nat.le_of_ble_eq_true rfl) rfl rfl rfl (Nat.le_of_ble_eq_true rfl) (Nat.le_refl _) (Nat.le_refl _) ?_ (fun Q hQ => ft_92 h3 hQ)
    have hx := Option.some.inj hx
    subst hx
    exact eg_k_lret rfl rfl (Nat.le_refl _) (Nat.le_refl _) hK
  have e17_ := e9
  refine vb_ite hx (fun e9 hx => ?_) (fun e9 hx => ?_)
  · refine eg_k_tsw (x := eg_swm.getD (((a : Nat) : Int)).toNat 0) (t := 15) rfl (by rw [e9]; rfl) ?_
    refine eg_k_aload rfl rfl ?_
    refine eg_k_gfr rfl rfl rfl eh_r43_1 ?_
    refine eg_k_iload rfl rfl ?_
    refine eg_k_ci rfl ?_
    obtain ⟨r7, h6, hx⟩ := vb_bind hx
    refine eg_k_call (c1 := 0) (z1 := 0) (as := [.inr (.inr (some 15)), .inl (eg_wi b), .inl 1]) (rest := []) rfl eg_tj78 (Nat.le_of_ble_eq_true rfl) rfl rfl rfl (Nat.le_of_ble_eq_true rfl) (Nat.le_refl _) (Nat.le_refl _) ?_ (fun Q hQ => ft_78 h6 hQ)
    have hx := Option.some.inj hx
    subst hx
    exact eg_k_lret rfl rfl (Nat.le_refl _) (Nat.le_refl _) hK
  have e18_ := e9
  refine vb_ite hx (fun e9 hx => ?_) (fun e9 hx => ?_)
  · refine eg_k_tsw (x := eg_swm.getD (((a : Nat) : Int)).toNat 0) (t := 21) rfl (by rw [e9]; rfl) ?_
    refine eg_k_aload rfl rfl ?_
    refine eg_k_gfr rfl rfl rfl eh_r43_1 ?_
    refine eg_k_iload rfl rfl ?_
    refine eg_k_ci rfl ?_
    obtain ⟨r10, h9, hx⟩ := vb_bind hx
    refine eg_k_call (c1 := 0) (z1 := 0) (as := [.inr (.inr (some 15)), .inl (eg_wi b), .inl 2]) (rest := []) rfl eg_tj78 (Nat.le_of_ble_eq_true rfl) rfl rfl rfl (Nat.le_of_ble_eq_true rfl) (Nat.le_refl _) (Nat.le_refl _) ?_ (fun Q hQ => ft_78 h9 hQ)
    have hx := Option.some.inj hx
    subst hx
    exact eg_k_lret rfl rfl (Nat.le_refl _) (Nat.le_refl _) hK
  have e19_ := e9
  refine vb_ite hx (fun e9 hx => ?_) (fun e9 hx => ?_)
  · refine eg_k_tsw (x := eg_swm.getD (((a : Nat) : Int)).toNat 0) (t := 27) rfl (by rw [e9]; rfl) ?_
    refine eg_k_aload rfl rfl ?_
    refine eg_k_gfr rfl rfl rfl eh_r43_1 ?_
    refine eg_k_iload rfl rfl ?_
    refine eg_k_ci rfl ?_
    refine eg_k_lload rfl rfl ?_
    obtain ⟨m14, h12, hx⟩ := vb_bind hx
    refine eg_k_call (c1 := 0) (z1 := 0) (as := [.inr (.inr (some 15)), .inl (eg_wi b), .inl 1, .inr (.inl e)]) (rest := []) rfl eg_tj94 (Nat.le_of_ble_eq_true rfl) rfl rfl rfl (Nat.le_of_ble_eq_true rfl) (Nat.le_refl _) (Nat.le_refl _) ?_ (fun Q hQ => ft_94 h12 hQ)
    refine eg_k_cl rfl ?_
    have hx := Option.some.inj hx
    subst hx
    exact eg_k_lret rfl rfl (Nat.le_refl _) (Nat.le_refl _) hK
  have e20_ := e9
  refine vb_ite hx (fun e9 hx => ?_) (fun e9 hx => ?_)
  · refine eg_k_tsw (x := eg_swm.getD (((a : Nat) : Int)).toNat 0) (t := 35) rfl (by rw [e9]; rfl) ?_
    refine eg_k_aload rfl rfl ?_
    refine eg_k_gfr rfl rfl rfl eh_r43_1 ?_
    refine eg_k_iload rfl rfl ?_
    refine eg_k_ci rfl ?_
    refine eg_k_lload rfl rfl ?_
    obtain ⟨m17, h15, hx⟩ := vb_bind hx
    refine eg_k_call (c1 := 0) (z1 := 0) (as := [.inr (.inr (some 15)), .inl (eg_wi b), .inl 2, .inr (.inl e)]) (rest := []) rfl eg_tj94 (Nat.le_of_ble_eq_true rfl) rfl rfl rfl (Nat.le_of_ble_eq_true rfl) (Nat.le_refl _) (Nat.le_refl _) ?_ (fun Q hQ => ft_94 h15 hQ)
    refine eg_k_cl rfl ?_
    have hx := Option.some.inj hx
    subst hx
    exact eg_k_lret rfl rfl (Nat.le_refl _) (Nat.le_refl _) hK
  have e21_ := e9
  refine vb_ite hx (fun e9 hx => ?_) (fun e9 hx => ?_)
  · refine eg_k_tsw (x := eg_swm.getD (((a : Nat) : Int)).toNat 0) (t := 43) rfl (by rw [e9]; rfl) ?_
    refine eg_k_aload rfl rfl ?_
    refine eg_k_lload rfl rfl ?_
    refine eg_k_l2i rfl ?_
    refine eg_k_lload rfl rfl ?_
    obtain ⟨r19, h18, hx⟩ := vb_bind hx
    refine eg_k_call (c1 := 0) (z1 := 0) (as := [.inr (.inr (some 43)), .inl (eg_wi b), .inr (.inl e)]) (rest := []) rfl eg_tj96 (Nat.le_of_ble_eq_true rfl) rfl rfl rfl (Nat.le_of_ble_eq_true rfl) (Nat.le_refl _) (Nat.le_refl _) ?_ (fun Q hQ => ft_96 h18 hQ)
    have hx := Option.some.inj hx
    subst hx
    exact eg_k_lret rfl rfl (Nat.le_refl _) (Nat.le_refl _) hK
  have e22_ := e9
  refine vb_ite hx (fun e9 hx => ?_) (fun e9 hx => ?_)
  · refine eg_k_tsw (x := eg_swm.getD (((a : Nat) : Int)).toNat 0) (t := 49) rfl (by rw [e9]; rfl) ?_
    refine eg_k_aload rfl rfl ?_
    refine eg_k_iload rfl rfl ?_
    refine eg_k_lload rfl rfl ?_
    refine eg_k_l2i rfl ?_
    obtain ⟨r22, h21, hx⟩ := vb_bind hx
    refine eg_k_call (c1 := 0) (z1 := 0) (as := [.inr (.inr (some 43)), .inl (eg_wi b), .inl (eg_wi e)]) (rest := []) rfl eg_tj97 (Nat.le_of_ble_eq_true rfl) rfl rfl rfl (Nat.le_of_ble_eq_true rfl) (Nat.le_refl _) (Nat.le_refl _) ?_ (fun Q hQ => ft_97 h21 hQ)
    refine vk_if rfl hx Iff.rfl (fun c24 hx => ?_) (fun c24 hx => ?_)
    · refine eg_k_cl rfl ?_
      have hx := Option.some.inj hx
      subst hx
      exact eg_k_lret rfl rfl (Nat.le_refl _) (Nat.le_refl _) hK
    · refine eg_k_aload rfl rfl ?_
      refine eg_k_gfr rfl rfl rfl eh_r43_1 ?_
      refine eg_k_iload rfl rfl ?_
      refine eg_k_ci rfl ?_
      refine eg_k_lload rfl rfl ?_
      refine eg_k_l2i rfl ?_
      refine eg_k_iadd rfl ?_
      obtain ⟨r26, h25, hx⟩ := vb_bind hx
      refine eg_k_call (c1 := 0) (z1 := 0) (as := [.inr (.inr (some 15)), .inl (eg_wi b), .inl (eg_wi (1 + (eg_wi e)))]) (rest := []) rfl eg_tj78 (Nat.le_of_ble_eq_true rfl) rfl rfl rfl (Nat.le_of_ble_eq_true rfl) (Nat.le_refl _) (Nat.le_refl _) ?_ (fun Q hQ => ft_78 h25 hQ)
      refine eg_k_goto rfl ?_
      have hx := Option.some.inj hx
      subst hx
      exact eg_k_lret rfl rfl (Nat.le_refl _) (Nat.le_refl _) hK
  have e23_ := e9
  refine vb_ite hx (fun e9 hx => ?_) (fun e9 hx => ?_)
  · refine eg_k_tsw (x := eg_swm.getD (((a : Nat) : Int)).toNat 0) (t := 66) rfl (by rw [e9]; rfl) ?_
    refine eg_k_aload rfl rfl ?_
    refine eg_k_iload rfl rfl ?_
    refine eg_k_lload rfl rfl ?_
    refine eg_k_l2i rfl ?_
    obtain ⟨r29, h28, hx⟩ := vb_bind hx
    refine eg_k_call (c1 := 0) (z1 := 0) (as := [.inr (.inr (some 43)), .inl (eg_wi b), .inl (eg_wi e)]) (rest := []) rfl eg_tj97 (Nat.le_of_ble_eq_true rfl) rfl rfl rfl (Nat.le_of_ble_eq_true rfl) (Nat.le_refl _) (Nat.le_refl _) ?_ (fun Q hQ => ft_97 h28 hQ)
    refine vk_if rfl hx Iff.rfl (fun c31 hx => ?_) (fun c31 hx => ?_)
    · refine eg_k_cl rfl ?_
      have hx := Option.some.inj hx
      subst hx
      exact eg_k_lret rfl rfl (Nat.le_refl _) (Nat.le_refl _) hK
    · refine eg_k_aload rfl rfl ?_
      refine eg_k_gfr rfl rfl rfl eh_r43_1 ?_
      refine eg_k_iload rfl rfl ?_
      refine eg_k_ci rfl ?_
      refine eg_k_lload rfl rfl ?_
      refine eg_k_l2i rfl ?_
      refine eg_k_iadd rfl ?_
      refine eg_k_lload rfl rfl ?_
      obtain ⟨m34, h32, hx⟩ := vb_bind hx
      refine eg_k_call (c1 := 0) (z1 := 0) (as := [.inr (.inr (some 15)), .inl (eg_wi b), .inl (eg_wi (1 + (eg_wi e))), .inr (.inl f)]) (rest := []) rfl eg_tj94 (Nat.le_of_ble_eq_true rfl) rfl rfl rfl (Nat.le_of_ble_eq_true rfl) (Nat.le_refl _) (Nat.le_refl _) ?_ (fun Q hQ => ft_94 h32 hQ)
      refine eg_k_cl rfl ?_
      have hx := Option.some.inj hx
      subst hx
      exact eg_k_lret rfl rfl (Nat.le_refl _) (Nat.le_refl _) hK
  have e24_ := e9
  refine vb_ite hx (fun e9 hx => ?_) (fun e9 hx => ?_)
  · refine eg_k_tsw (x := eg_swm.getD (((a : Nat) : Int)).toNat 0) (t := 83) rfl (by rw [e9]; rfl) ?_
    refine eg_k_aload rfl rfl ?_
    refine eg_k_gfr rfl rfl rfl eh_r43_1 ?_
    refine eg_k_iload rfl rfl ?_
    obtain ⟨r36, h35, hx⟩ := vb_bind hx
    refine eg_k_call (c1 := 0) (z1 := 0) (as := [.inr (.inr (some 15)), .inl (eg_wi b)]) (rest := []) rfl eg_tj98 (Nat.le_of_ble_eq_true rfl) rfl rfl rfl (Nat.le_of_ble_eq_true rfl) (Nat.le_refl _) (Nat.le_refl _) ?_ (fun Q hQ => ft_98 h35 hQ)
    obtain ⟨r39, h38, hx⟩ := vb_bind hx
    refine eg_k_call (c1 := 0) (z1 := 0) (as := [.inl r36]) (rest := []) rfl eg_tj49 (Nat.le_of_ble_eq_true rfl) rfl rfl trivial (Nat.le_of_ble_eq_true rfl) (Nat.le_refl _) (Nat.le_refl _) ?_ (fun Q hQ => ft_49 h38 hQ)
    have hx := Option.some.inj hx
    subst hx
    exact eg_k_lret rfl rfl (Nat.le_refl _) (Nat.le_refl _) hK
  have e25_ := e9
  refine vb_ite hx (fun e9 hx => ?_) (fun e9 hx => ?_)
  · refine eg_k_tsw (x := eg_swm.getD (((a : Nat) : Int)).toNat 0) (t := 89) rfl (by rw [e9]; rfl) ?_
    refine eg_k_aload rfl rfl ?_
    refine eg_k_lload rfl rfl ?_
    obtain ⟨r42, h41, hx⟩ := vb_bind hx
    refine eg_k_call (c1 := 0) (z1 := 0) (as := [.inr (.inr (some 43)), .inr (.inl b)]) (rest := []) rfl eg_tj99 (Nat.le_of_ble_eq_true rfl) rfl rfl rfl (Nat.le_of_ble_eq_true rfl) (Nat.le_refl _) (Nat.le_refl _) ?_ (fun Q hQ => ft_99 h41 hQ)
    have hx := Option.some.inj hx
    subst hx
    exact eg_k_lret rfl rfl (Nat.le_refl _) (Nat.le_refl _) hK
  have e26_ := e9
  refine vb_ite hx (fun e9 hx => ?_) (fun e9 hx => ?_)
  · refine eg_k_tsw (x := eg_swm.getD (((a : Nat) : Int)).toNat 0) (t := 93) rfl (by rw [e9]; rfl) ?_
    refine eg_k_aload rfl rfl ?_
    refine eg_k_gfr rfl rfl rfl eh_r43_1 ?_
    refine eg_k_iload rfl rfl ?_
    refine eg_k_ci rfl ?_
    obtain ⟨r45, h44, hx⟩ := vb_bind hx
    refine eg_k_call (c1 := 0) (z1 := 0) (as := [.inr (.inr (some 15)), .inl (eg_wi b), .inl 1]) (rest := []) rfl eg_tj78 (Nat.le_of_ble_eq_true rfl) rfl rfl rfl (Nat.le_of_ble_eq_true rfl) (Nat.le_refl _) (Nat.le_refl _) ?_ (fun Q hQ => ft_78 h44 hQ)
    have hx := Option.some.inj hx
    subst hx
    exact eg_k_lret rfl rfl (Nat.le_refl _) (Nat.le_refl _) hK
  have e27_ := e9
  refine vb_ite hx (fun e9 hx => ?_) (fun e9 hx => ?_)
  · refine eg_k_tsw (x := eg_swm.getD (((a : Nat) : Int)).toNat 0) (t := 99) rfl (by rw [e9]; rfl) ?_
    refine eg_k_aload rfl rfl ?_
    refine eg_k_ci rfl ?_
    refine eg_k_ci rfl ?_
    refine eg_k_lload rfl rfl ?_
    refine eg_k_lload rfl rfl ?_
    obtain ⟨r48, h47, hx⟩ := vb_bind hx
    refine eg_k_call (c1 := 0) (z1 := 0) (as := [.inr (.inr (some 43)), .inl 6, .inl 4, .inr (.inl b), .inr (.inl e)]) (rest := []) rfl eg_tj92 (Nat.le_of_ble_eq_true rfl) rfl rfl rfl (Nat.le_of_ble_eq_true rfl) (Nat.le_refl _) (Nat.le_refl _) ?_ (fun Q hQ => ft_92 h47 hQ)
    have hx := Option.some.inj hx
    subst hx
    exact eg_k_lret rfl rfl (Nat.le_refl _) (Nat.le_refl _) hK
  have e28_ := e9
  refine vb_ite hx (fun e9 hx => ?_) (fun e9 hx => ?_)
  · refine eg_k_tsw (x := eg_swm.getD (((a : Nat) : Int)).toNat 0) (t := 106) rfl (by rw [e9]; rfl) ?_
    refine eg_k_aload rfl rfl ?_
    refine eg_k_gfr rfl rfl rfl eh_r43_1 ?_
    refine eg_k_iload rfl rfl ?_
    refine eg_k_ci rfl ?_
    obtain ⟨r51, h50, hx⟩ := vb_bind hx
    refine eg_k_call (c1 := 0) (z1 := 0) (as := [.inr (.inr (some 15)), .inl (eg_wi b), .inl 1]) (rest := []) rfl eg_tj78 (Nat.le_of_ble_eq_true rfl) rfl rfl rfl (Nat.le_of_ble_eq_true rfl) (Nat.le_refl _) (Nat.le_refl _) ?_ (fun Q hQ => ft_78 h50 hQ)
    have hx := Option.some.inj hx
    subst hx
    exact eg_k_lret rfl rfl (Nat.le_refl _) (Nat.le_refl _) hK
  have e29_ := e9
  refine vb_ite hx (fun e9 hx => ?_) (fun e9 hx => ?_)
  · refine eg_k_tsw (x := eg_swm.getD (((a : Nat) : Int)).toNat 0) (t := 112) rfl (by rw [e9]; rfl) ?_
    refine eg_k_aload rfl rfl ?_
    refine eg_k_gfr rfl rfl rfl eh_r43_1 ?_
    refine eg_k_iload rfl rfl ?_
    refine eg_k_ci rfl ?_
    obtain ⟨r54, h53, hx⟩ := vb_bind hx
    refine eg_k_call (c1 := 0) (z1 := 0) (as := [.inr (.inr (some 15)), .inl (eg_wi b), .inl 2]) (rest := []) rfl eg_tj78 (Nat.le_of_ble_eq_true rfl) rfl rfl rfl (Nat.le_of_ble_eq_true rfl) (Nat.le_refl _) (Nat.le_refl _) ?_ (fun Q hQ => ft_78 h53 hQ)
    have hx := Option.some.inj hx
    subst hx
    exact eg_k_lret rfl rfl (Nat.le_refl _) (Nat.le_refl _) hK
  have e30_ := e9
  refine vb_ite hx (fun e9 hx => ?_) (fun e9 hx => ?_)
  · refine eg_k_tsw (x := eg_swm.getD (((a : Nat) : Int)).toNat 0) (t := 118) rfl (by rw [e9]; rfl) ?_
    refine eg_k_aload rfl rfl ?_
    obtain ⟨r57, h56, hx⟩ := vb_bind hx
    refine eg_k_call (c1 := 0) (z1 := 0) (as := [.inr (.inr (some 43))]) (rest := []) rfl eg_tj100 (Nat.le_of_ble_eq_true rfl) rfl rfl rfl (Nat.le_of_ble_eq_true rfl) (Nat.le_refl _) (Nat.le_refl _) ?_ (fun Q hQ => ft_100 h56 hQ)
    have hx := Option.some.inj hx
    subst hx
    exact eg_k_lret rfl rfl (Nat.le_refl _) (Nat.le_refl _) hK
  have e31_ := e9
  refine vb_ite hx (fun e9 hx => ?_) (fun e9 hx => ?_)
  · refine eg_k_tsw (x := eg_swm.getD (((a : Nat) : Int)).toNat 0) (t := 121) rfl (by rw [e9]; rfl) ?_
    refine eg_k_aload rfl rfl ?_
    refine eg_k_iload rfl rfl ?_
    refine eg_k_lload rfl rfl ?_
    refine eg_k_lload rfl rfl ?_
    obtain ⟨m61, h59, hx⟩ := vb_bind hx
    refine eg_k_call (c1 := 0) (z1 := 0) (as := [.inr (.inr (some 43)), .inl (eg_wi b), .inr (.inl e), .inr (.inl f)]) (rest := []) rfl eg_tj101 (Nat.le_of_ble_eq_true rfl) rfl rfl rfl (Nat.le_of_ble_eq_true rfl) (Nat.le_refl _) (Nat.le_refl _) ?_ (fun Q hQ => ft_101 h59 hQ)
    refine eg_k_cl rfl ?_
    have hx := Option.some.inj hx
    subst hx
    exact eg_k_lret rfl rfl (Nat.le_refl _) (Nat.le_refl _) hK
  have e32_ := e9
  refine vb_ite hx (fun e9 hx => ?_) (fun e9 hx => ?_)
  · refine eg_k_tsw (x := eg_swm.getD (((a : Nat) : Int)).toNat 0) (t := 128) rfl (by rw [e9]; rfl) ?_
    refine eg_k_aload rfl rfl ?_
    refine eg_k_iload rfl rfl ?_
    refine eg_k_lload rfl rfl ?_
    obtain ⟨r63, h62, hx⟩ := vb_bind hx
    refine eg_k_call (c1 := 0) (z1 := 0) (as := [.inr (.inr (some 43)), .inl (eg_wi b), .inr (.inl e)]) (rest := []) rfl eg_tj102 (Nat.le_of_ble_eq_true rfl) rfl rfl rfl (Nat.le_of_ble_eq_true rfl) (Nat.le_refl _) (Nat.le_refl _) ?_ (fun Q hQ => ft_102 h62 hQ)
    refine eg_k_istore (lv' := [some (.inr (.inr (some 43))), some (.inr (.inr (some (1000100 + a)))), some (.inr (.inl b)), none, some (.inr (.inl e)), none, some (.inr (.inl f)), none, some (.inl (eg_wi b)), some (.inl r63)]) rfl rfl ?_
    refine eg_k_iload rfl rfl ?_
    refine vk_if rfl hx Iff.rfl (fun c65 hx => ?_) (fun c65 hx => ?_)
    · refine eg_k_aload rfl rfl ?_
      refine eg_k_gfr rfl rfl rfl eh_r43_1 ?_
      refine eg_k_iload rfl rfl ?_
      refine eg_k_ci rfl ?_
      obtain ⟨r67, h66, hx⟩ := vb_bind hx
      refine eg_k_call (c1 := 0) (z1 := 0) (as := [.inr (.inr (some 15)), .inl r63, .inl 2]) (rest := []) rfl eg_tj78 (Nat.le_of_ble_eq_true rfl) rfl rfl rfl (Nat.le_of_ble_eq_true rfl) (Nat.le_refl _) (Nat.le_refl _) ?_ (fun Q hQ => ft_78 h66 hQ)
      have hx := Option.some.inj hx
      subst hx
      exact eg_k_lret rfl rfl (Nat.le_refl _) (Nat.le_refl _) hK
    · refine eg_k_cl rfl ?_
      refine eg_k_goto rfl ?_
      have hx := Option.some.inj hx
      subst hx
      exact eg_k_lret rfl rfl (Nat.le_refl _) (Nat.le_refl _) hK
  have e33_ := e9
  refine vb_ite hx (fun e9 hx => ?_) (fun e9 hx => ?_)
  · refine eg_k_tsw (x := eg_swm.getD (((a : Nat) : Int)).toNat 0) (t := 143) rfl (by rw [e9]; rfl) ?_
    refine eg_k_aload rfl rfl ?_
    refine eg_k_gfr rfl rfl rfl eh_r43_1 ?_
    refine eg_k_iload rfl rfl ?_
    refine eg_k_ci rfl ?_
    obtain ⟨r70, h69, hx⟩ := vb_bind hx
    refine eg_k_call (c1 := 0) (z1 := 0) (as := [.inr (.inr (some 15)), .inl (eg_wi b), .inl 2]) (rest := []) rfl eg_tj78 (Nat.le_of_ble_eq_true rfl) rfl rfl rfl (Nat.le_of_ble_eq_true rfl) (Nat.le_refl _) (Nat.le_refl _) ?_ (fun Q hQ => ft_78 h69 hQ)
    refine eg_k_l2i rfl ?_
    obtain ⟨r73, h72, hx⟩ := vb_bind hx
    refine eg_k_call (c1 := 0) (z1 := 0) (as := [.inl (eg_wi r70)]) (rest := []) rfl eg_tj49 (Nat.le_of_ble_eq_true rfl) rfl rfl trivial (Nat.le_of_ble_eq_true rfl) (Nat.le_refl _) (Nat.le_refl _) ?_ (fun Q hQ => ft_49 h72 hQ)
    have hx := Option.some.inj hx
    subst hx
    exact eg_k_lret rfl rfl (Nat.le_refl _) (Nat.le_refl _) hK
  have e34_ := e9
  refine eg_k_tsw (x := eg_swm.getD (((a : Nat) : Int)).toNat 0) (t := 151) rfl (by unfold eg_tb; rw [if_pos (by omega)]; rfl) ?_
  refine eg_k_cl rfl ?_
  have hx := Option.some.inj hx
  subst hx
  exact eg_k_lret rfl rfl (Nat.le_refl _) (Nat.le_refl _) hK
theorem fw_91 {cn : Nat} {mo : Nat} {M : eM} {c : Nat} {a : Nat} {b : Int} {e : Int} {f : Int} {x : Int × eM} (hx : fn_91 cn mo a b e f M = some x) (hc : c ∉ ([15, 16, 17, 18, 19, 20, 43] : List Nat)) (j : Nat) : ((x).2) c j = M c j := by
  obtain ⟨v, hK⟩ : ∃ v, ((x).2) c j = v := ⟨_, rfl⟩
  rw [hK]
  refine Eq.symm ?_
  obtain ⟨_, hx⟩ := vb_if hx
  obtain ⟨_, hx⟩ := vb_if hx
  refine vb_ite hx (fun _ hx => ?_) (fun _ hx => ?_)
  · obtain ⟨r4, h3, hx⟩ := vb_bind hx
    have hx := Option.some.inj hx
    subst hx
    exact ((fw_92 h3 (vsub hc (by decide)) j).trans rfl).symm.trans hK
  refine vb_ite hx (fun _ hx => ?_) (fun _ hx => ?_)
  · obtain ⟨r7, h6, hx⟩ := vb_bind hx
    have hx := Option.some.inj hx
    subst hx
    exact (Eq.refl _).symm.trans hK
  refine vb_ite hx (fun _ hx => ?_) (fun _ hx => ?_)
  · obtain ⟨r10, h9, hx⟩ := vb_bind hx
    have hx := Option.some.inj hx
    subst hx
    exact (Eq.refl _).symm.trans hK
  refine vb_ite hx (fun _ hx => ?_) (fun _ hx => ?_)
  · obtain ⟨m14, h12, hx⟩ := vb_bind hx
    have hx := Option.some.inj hx
    subst hx
    exact ((fw_94 h12 (vsub hc (by decide)) j).trans rfl).symm.trans hK
  refine vb_ite hx (fun _ hx => ?_) (fun _ hx => ?_)
  · obtain ⟨m17, h15, hx⟩ := vb_bind hx
    have hx := Option.some.inj hx
    subst hx
    exact ((fw_94 h15 (vsub hc (by decide)) j).trans rfl).symm.trans hK
  refine vb_ite hx (fun _ hx => ?_) (fun _ hx => ?_)
  · obtain ⟨r19, h18, hx⟩ := vb_bind hx
    have hx := Option.some.inj hx
    subst hx
    exact ((fw_96 h18 (vsub hc (by decide)) j).trans rfl).symm.trans hK
  refine vb_ite hx (fun _ hx => ?_) (fun _ hx => ?_)
  · obtain ⟨r22, h21, hx⟩ := vb_bind hx
    refine vb_ite hx (fun _ hx => ?_) (fun _ hx => ?_)
    · have hx := Option.some.inj hx
      subst hx
      exact ((fw_97 h21 (vsub hc (by decide)) j).trans rfl).symm.trans hK
    · obtain ⟨r26, h25, hx⟩ := vb_bind hx
      have hx := Option.some.inj hx
      subst hx
      exact ((fw_97 h21 (vsub hc (by decide)) j).trans rfl).symm.trans hK
  refine vb_ite hx (fun _ hx => ?_) (fun _ hx => ?_)
  · obtain ⟨r29, h28, hx⟩ := vb_bind hx
    refine vb_ite hx (fun _ hx => ?_) (fun _ hx => ?_)
    · have hx := Option.some.inj hx
      subst hx
      exact ((fw_97 h28 (vsub hc (by decide)) j).trans rfl).symm.trans hK
    · obtain ⟨m34, h32, hx⟩ := vb_bind hx
      have hx := Option.some.inj hx
      subst hx
      exact ((fw_94 h32 (vsub hc (by decide)) j).trans ((fw_97 h28 (vsub hc (by decide)) j).trans rfl)).symm.trans hK
  refine vb_ite hx (fun _ hx => ?_) (fun _ hx => ?_)
  · obtain ⟨r36, h35, hx⟩ := vb_bind hx
    obtain ⟨r39, h38, hx⟩ := vb_bind hx
    have hx := Option.some.inj hx
    subst hx
    exact (Eq.refl _).symm.trans hK
  refine vb_ite hx (fun _ hx => ?_) (fun _ hx => ?_)
  · obtain ⟨r42, h41, hx⟩ := vb_bind hx
    have hx := Option.some.inj hx
    subst hx
    exact ((fw_99 h41 (vsub hc (by decide)) j).trans rfl).symm.trans hK
  refine vb_ite hx (fun _ hx => ?_) (fun _ hx => ?_)
  · obtain ⟨r45, h44, hx⟩ := vb_bind hx
    have hx := Option.some.inj hx
    subst hx
    exact (Eq.refl _).symm.trans hK
  refine vb_ite hx (fun _ hx => ?_) (fun _ hx => ?_)
  · obtain ⟨r48, h47, hx⟩ := vb_bind hx
    have hx := Option.some.inj hx
    subst hx
    exact ((fw_92 h47 (vsub hc (by decide)) j).trans rfl).symm.trans hK
  refine vb_ite hx (fun _ hx => ?_) (fun _ hx => ?_)
  · obtain ⟨r51, h50, hx⟩ := vb_bind hx
    have hx := Option.some.inj hx
    subst hx
    exact (Eq.refl _).symm.trans hK
  refine vb_ite hx (fun _ hx => ?_) (fun _ hx => ?_)
  · obtain ⟨r54, h53, hx⟩ := vb_bind hx
    have hx := Option.some.inj hx
    subst hx
    exact (Eq.refl _).symm.trans hK
  refine vb_ite hx (fun _ hx => ?_) (fun _ hx => ?_)
  · obtain ⟨r57, h56, hx⟩ := vb_bind hx
    have hx := Option.some.inj hx
    subst hx
    exact ((fw_100 h56 (vsub hc (by decide)) j).trans rfl).symm.trans hK
  refine vb_ite hx (fun _ hx => ?_) (fun _ hx => ?_)
  · obtain ⟨m61, h59, hx⟩ := vb_bind hx
    have hx := Option.some.inj hx
    subst hx
    exact ((fw_101 h59 (vsub hc (by decide)) j).trans rfl).symm.trans hK
  refine vb_ite hx (fun _ hx => ?_) (fun _ hx => ?_)
  · obtain ⟨r63, h62, hx⟩ := vb_bind hx
    refine vb_ite hx (fun _ hx => ?_) (fun _ hx => ?_)
    · obtain ⟨r67, h66, hx⟩ := vb_bind hx
      have hx := Option.some.inj hx
      subst hx
      exact (Eq.refl _).symm.trans hK
    · have hx := Option.some.inj hx
      subst hx
      exact (Eq.refl _).symm.trans hK
  refine vb_ite hx (fun _ hx => ?_) (fun _ hx => ?_)
  · obtain ⟨r70, h69, hx⟩ := vb_bind hx
    obtain ⟨r73, h72, hx⟩ := vb_bind hx
    have hx := Option.some.inj hx
    subst hx
    exact (Eq.refl _).symm.trans hK
  have hx := Option.some.inj hx
  subst hx
  exact (Eq.refl _).symm.trans hK
/-- 79: WeakScheme$Operations.operate(LWeakScheme$Primitive;JJJ)J -/
noncomputable def fn_79 (cn : Nat) (mo : Nat) (a : Nat) (b : Int) (e : Int) (f : Int) (M : eM) : Option (Int × eM) :=
  if a < 34 then
  if 0 ≤ ((a : Nat) : Int) ∧ ((a : Nat) : Int) < 34 then
    if (eg_swm.getD (((a : Nat) : Int)).toNat 0) = 1 then
        (fn_49 (eg_wi ((eg_wi b) + (eg_wi e))) M).bind fun r4 =>
        some (r4, M)
      else if (eg_swm.getD (((a : Nat) : Int)).toNat 0) = 2 then
        (fn_49 (eg_wi ((eg_wi b) - (eg_wi e))) M).bind fun r7 =>
        some (r7, M)
      else if (eg_swm.getD (((a : Nat) : Int)).toNat 0) = 3 then
        (fn_49 (eg_wi ((eg_wi b) * (eg_wi e))) M).bind fun r10 =>
        some (r10, M)
      else if (eg_swm.getD (((a : Nat) : Int)).toNat 0) = 4 then
        (fn_81 a (eg_wi b) (eg_wi e) M).bind fun r13 =>
        some (r13.1, r13.2)
      else if (eg_swm.getD (((a : Nat) : Int)).toNat 0) = 5 then
        (fn_81 a (eg_wi b) (eg_wi e) M).bind fun r16 =>
        some (r16.1, r16.2)
      else if (eg_swm.getD (((a : Nat) : Int)).toNat 0) = 6 then
        if ¬ b = e then
          (fn_44 0 M).bind fun r20 =>
          some (r20, M)
        else
          (fn_44 1 M).bind fun r23 =>
          some (r23, M)
      else if (eg_swm.getD (((a : Nat) : Int)).toNat 0) = 7 then
        if ¬ b = e then
          (fn_44 0 M).bind fun r27 =>
          some (r27, M)
        else
          (fn_44 1 M).bind fun r30 =>
          some (r30, M)
      else if (eg_swm.getD (((a : Nat) : Int)).toNat 0) = 8 then
        if (eg_wi e) ≤ (eg_wi b) then
          (fn_44 0 M).bind fun r34 =>
          some (r34, M)
        else
          (fn_44 1 M).bind fun r37 =>
          some (r37, M)
      else if (eg_swm.getD (((a : Nat) : Int)).toNat 0) = 9 then
        if ¬ b = 4294967296 then
          (fn_44 0 M).bind fun r41 =>
          some (r41, M)
        else
          (fn_44 1 M).bind fun r44 =>
          some (r44, M)
      else if (eg_swm.getD (((a : Nat) : Int)).toNat 0) = 10 then
        if ¬ b = 4294967298 then
          (fn_44 0 M).bind fun r48 =>
          some (r48, M)
        else
          (fn_44 1 M).bind fun r51 =>
          some (r51, M)
      else if (eg_swm.getD (((a : Nat) : Int)).toNat 0) = 11 then
        (fn_76 mo b 1 M).bind fun r54 =>
        (fn_44 r54 M).bind fun r57 =>
        some (r57, M)
      else if (eg_swm.getD (((a : Nat) : Int)).toNat 0) = 12 then
        if ¬ (eb_lshr b 32) = 4 then
          (fn_49 0 M).bind fun r61 =>
          some (r61, M)
        else
          (fn_82 mo (eg_wi b) M).bind fun r64 =>
          (fn_49 r64.1 r64.2).bind fun r67 =>
          some (r67, r64.2)
      else if (eg_swm.getD (((a : Nat) : Int)).toNat 0) = 13 then
        (fn_49 (M 15 6) M).bind fun r70 =>
        some (r70, M)
      else if (eg_swm.getD (((a : Nat) : Int)).toNat 0) = 14 then
        some (4294967298, eg_u M 43 5 1)
      else if (eg_swm.getD (((a : Nat) : Int)).toNat 0) = 15 then
        (fn_83 cn mo b M).bind fun m74 =>
        some (4294967298, m74)
      else if (eg_swm.getD (((a : Nat) : Int)).toNat 0) = 16 then
        (fn_90 b e M).bind fun r76 =>
        if r76.1 = 0 then
          some (4294967298, eg_u r76.2 43 4 11)
        else
          some (4294967298, eg_u r76.2 43 4 0)
      else 
        (fn_91 cn mo a b e f M).bind fun r80 =>
        some (r80.1, r80.2)
    else none
  else none
set_option maxRecDepth 100000 in
theorem ft_79 {cn mo : Nat} {sc : eg_Sc} {d : Nat} {M : eM} {Q : Option eg_V → eg_H → Prop} {a : Nat} {b : Int} {e : Int} {f : Int} {x : Int × eM} (hx : fn_79 cn mo a b e f M = some x) (hK : Q (some (.inr (.inl ((x).1)))) (em_L cn mo, eh_R, (x).2)) : eg_wp sc (d + 19) 79 [.inr (.inr (some 43)), .inr (.inr (some (1000100 + a))), .inr (.inl b), .inr (.inl e), .inr (.inl f)] (em_L cn mo, eh_R, M) 0 0 Q := by
  refine eg_in (lv := [some (.inr (.inr (some 43))), some (.inr (.inr (some (1000100 + a)))), some (.inr (.inl b)), none, some (.inr (.inl e)), none, some (.inr (.inl f)), none, none]) eg_tj79 (Nat.le_of_ble_eq_true rfl) rfl ?_
  refine eg_k_lload rfl rfl ?_
  refine eg_k_l2i rfl ?_
  refine eg_k_istore (lv' := [some (.inr (.inr (some 43))), some (.inr (.inr (some (1000100 + a)))), some (.inr (.inl b)), none, some (.inr (.inl e)), none, some (.inr (.inl f)), none, some (.inl (eg_wi b))]) rfl rfl ?_
  refine eg_k_gets (v := .inr (.inr (some 1000003))) rfl rfl ?_
  refine eg_k_aload rfl rfl ?_
  obtain ⟨b1, hx⟩ := vb_if hx
  refine eg_k_call (c1 := 0) (z1 := 0) (as := [.inr (.inr (some (1000100 + a)))]) (rest := [.inr (.inr (some 1000003))]) rfl eg_tj80 (Nat.le_of_ble_eq_true rfl) rfl rfl (vb_rcp b1) (Nat.le_of_ble_eq_true rfl) (Nat.le_refl _) (Nat.le_refl _) ?_ (fun Q hQ => vb_ord b1 hQ)
  obtain ⟨b2, hx⟩ := vb_if hx
  refine eg_k_tiald (k := 34) (f9 := fun j => .inl (eg_swm.getD j 0)) rfl (es_no (Nat.le_of_ble_eq_true rfl) (by decide)) rfl b2.1 b2.2 ?_
  refine vb_ite hx (fun e9 hx => ?_) (fun e9 hx => ?_)
  · refine eg_k_tsw (x := eg_swm.getD (((a : Nat) : Int)).toNat 0) (t := 8) rfl (by rw [e9]; rfl) ?_
    refine eg_k_lload rfl rfl ?_
    refine eg_k_l2i rfl ?_
    refine eg_k_lload rfl rfl ?_
    refine eg_k_l2i rfl ?_
    refine eg_k_iadd rfl ?_
    obtain ⟨r4, h3, hx⟩ := vb_bind hx
    refine eg_k_call (c1 := 0) (z1 := 0) (as := [.inl (eg_wi ((eg_wi b) + (eg_wi e)))]) (rest := []) rfl eg_tj49 (Nat.le_of_ble_eq_true rfl) rfl rfl trivial (Nat.le_of_ble_eq_true rfl) (Nat.le_refl _) (Nat.le_refl _) ?_ (fun Q hQ => ft_49 h3 hQ)
    have hx := Option.some.inj hx
    subst hx
    exact eg_k_lret rfl rfl (Nat.le_refl _) (Nat.le_refl _) hK
  have e1_ := e9
  refine vb_ite hx (fun e9 hx => ?_) (fun e9 hx => ?_)
  · refine eg_k_tsw (x := eg_swm.getD (((a : Nat) : Int)).toNat 0) (t := 15) rfl (by rw [e9]; rfl) ?_
    refine eg_k_lload rfl rfl ?_
    refine eg_k_l2i rfl ?_
    refine eg_k_lload rfl rfl ?_
    refine eg_k_l2i rfl ?_
    refine eg_k_isub rfl ?_
    obtain ⟨r7, h6, hx⟩ := vb_bind hx
    refine eg_k_call (c1 := 0) (z1 := 0) (as := [.inl (eg_wi ((eg_wi b) - (eg_wi e)))]) (rest := []) rfl eg_tj49 (Nat.le_of_ble_eq_true rfl) rfl rfl trivial (Nat.le_of_ble_eq_true rfl) (Nat.le_refl _) (Nat.le_refl _) ?_ (fun Q hQ => ft_49 h6 hQ)
    have hx := Option.some.inj hx
    subst hx
    exact eg_k_lret rfl rfl (Nat.le_refl _) (Nat.le_refl _) hK
  have e2_ := e9
  refine vb_ite hx (fun e9 hx => ?_) (fun e9 hx => ?_)
  · refine eg_k_tsw (x := eg_swm.getD (((a : Nat) : Int)).toNat 0) (t := 22) rfl (by rw [e9]; rfl) ?_
    refine eg_k_lload rfl rfl ?_
    refine eg_k_l2i rfl ?_
    refine eg_k_lload rfl rfl ?_
    refine eg_k_l2i rfl ?_
    refine eg_k_imul rfl ?_
    obtain ⟨r10, h9, hx⟩ := vb_bind hx
    refine eg_k_call (c1 := 0) (z1 := 0) (as := [.inl (eg_wi ((eg_wi b) * (eg_wi e)))]) (rest := []) rfl eg_tj49 (Nat.le_of_ble_eq_true rfl) rfl rfl trivial (Nat.le_of_ble_eq_true rfl) (Nat.le_refl _) (Nat.le_refl _) ?_ (fun Q hQ => ft_49 h9 hQ)
    have hx := Option.some.inj hx
    subst hx
    exact eg_k_lret rfl rfl (Nat.le_refl _) (Nat.le_refl _) hK
  have e3_ := e9
  refine vb_ite hx (fun e9 hx => ?_) (fun e9 hx => ?_)
  · refine eg_k_tsw (x := eg_swm.getD (((a : Nat) : Int)).toNat 0) (t := 29) rfl (by rw [e9]; rfl) ?_
    refine eg_k_aload rfl rfl ?_
    refine eg_k_aload rfl rfl ?_
    refine eg_k_lload rfl rfl ?_
    refine eg_k_l2i rfl ?_
    refine eg_k_lload rfl rfl ?_
    refine eg_k_l2i rfl ?_
    obtain ⟨r13, h12, hx⟩ := vb_bind hx
    refine eg_k_call (c1 := 0) (z1 := 0) (as := [.inr (.inr (some 43)), .inr (.inr (some (1000100 + a))), .inl (eg_wi b), .inl (eg_wi e)]) (rest := []) rfl eg_tj81 (Nat.le_of_ble_eq_true rfl) rfl rfl rfl (Nat.le_of_ble_eq_true rfl) (Nat.le_refl _) (Nat.le_refl _) ?_ (fun Q hQ => ft_81 h12 hQ)
    have hx := Option.some.inj hx
    subst hx
    exact eg_k_lret rfl rfl (Nat.le_refl _) (Nat.le_refl _) hK
  have e4_ := e9
  refine vb_ite hx (fun e9 hx => ?_) (fun e9 hx => ?_)
  · refine eg_k_tsw (x := eg_swm.getD (((a : Nat) : Int)).toNat 0) (t := 29) rfl (by rw [e9]; rfl) ?_
    refine eg_k_aload rfl rfl ?_
    refine eg_k_aload rfl rfl ?_
    refine eg_k_lload rfl rfl ?_
    refine eg_k_l2i rfl ?_
    refine eg_k_lload rfl rfl ?_
    refine eg_k_l2i rfl ?_
    obtain ⟨r16, h15, hx⟩ := vb_bind hx
    refine eg_k_call (c1 := 0) (z1 := 0) (as := [.inr (.inr (some 43)), .inr (.inr (some (1000100 + a))), .inl (eg_wi b), .inl (eg_wi e)]) (rest := []) rfl eg_tj81 (Nat.le_of_ble_eq_true rfl) rfl rfl rfl (Nat.le_of_ble_eq_true rfl) (Nat.le_refl _) (Nat.le_refl _) ?_ (fun Q hQ => ft_81 h15 hQ)
    have hx := Option.some.inj hx
    subst hx
    exact eg_k_lret rfl rfl (Nat.le_refl _) (Nat.le_refl _) hK
  have e5_ := e9
  refine vb_ite hx (fun e9 hx => ?_) (fun e9 hx => ?_)
  · refine eg_k_tsw (x := eg_swm.getD (((a : Nat) : Int)).toNat 0) (t := 37) rfl (by rw [e9]; rfl) ?_
    refine eg_k_lload rfl rfl ?_
    refine eg_k_lload rfl rfl ?_
    refine vk_lcmp rfl rfl hx Iff.rfl (fun c18 hx => ?_) (fun c18 hx => ?_)
    · refine eg_k_ci rfl ?_
      obtain ⟨r20, h19, hx⟩ := vb_bind hx
      refine eg_k_call (c1 := 0) (z1 := 0) (as := [.inl 0]) (rest := []) rfl eg_tj44 (Nat.le_of_ble_eq_true rfl) rfl rfl trivial (Nat.le_of_ble_eq_true rfl) (Nat.le_refl _) (Nat.le_refl _) ?_ (fun Q hQ => ft_44 h19 hQ)
      have hx := Option.some.inj hx
      subst hx
      exact eg_k_lret rfl rfl (Nat.le_refl _) (Nat.le_refl _) hK
    · refine eg_k_ci rfl ?_
      refine eg_k_goto rfl ?_
      obtain ⟨r23, h22, hx⟩ := vb_bind hx
      refine eg_k_call (c1 := 0) (z1 := 0) (as := [.inl 1]) (rest := []) rfl eg_tj44 (Nat.le_of_ble_eq_true rfl) rfl rfl trivial (Nat.le_of_ble_eq_true rfl) (Nat.le_refl _) (Nat.le_refl _) ?_ (fun Q hQ => ft_44 h22 hQ)
      have hx := Option.some.inj hx
      subst hx
      exact eg_k_lret rfl rfl (Nat.le_refl _) (Nat.le_refl _) hK
  have e6_ := e9
  refine vb_ite hx (fun e9 hx => ?_) (fun e9 hx => ?_)
  · refine eg_k_tsw (x := eg_swm.getD (((a : Nat) : Int)).toNat 0) (t := 37) rfl (by rw [e9]; rfl) ?_
    refine eg_k_lload rfl rfl ?_
    refine eg_k_lload rfl rfl ?_
    refine vk_lcmp rfl rfl hx Iff.rfl (fun c25 hx => ?_) (fun c25 hx => ?_)
    · refine eg_k_ci rfl ?_
      obtain ⟨r27, h26, hx⟩ := vb_bind hx
      refine eg_k_call (c1 := 0) (z1 := 0) (as := [.inl 0]) (rest := []) rfl eg_tj44 (Nat.le_of_ble_eq_true rfl) rfl rfl trivial (Nat.le_of_ble_eq_true rfl) (Nat.le_refl _) (Nat.le_refl _) ?_ (fun Q hQ => ft_44 h26 hQ)
      have hx := Option.some.inj hx
      subst hx
      exact eg_k_lret rfl rfl (Nat.le_refl _) (Nat.le_refl _) hK
    · refine eg_k_ci rfl ?_
      refine eg_k_goto rfl ?_
      obtain ⟨r30, h29, hx⟩ := vb_bind hx
      refine eg_k_call (c1 := 0) (z1 := 0) (as := [.inl 1]) (rest := []) rfl eg_tj44 (Nat.le_of_ble_eq_true rfl) rfl rfl trivial (Nat.le_of_ble_eq_true rfl) (Nat.le_refl _) (Nat.le_refl _) ?_ (fun Q hQ => ft_44 h29 hQ)
      have hx := Option.some.inj hx
      subst hx
      exact eg_k_lret rfl rfl (Nat.le_refl _) (Nat.le_refl _) hK
  have e7_ := e9
  refine vb_ite hx (fun e9 hx => ?_) (fun e9 hx => ?_)
  · refine eg_k_tsw (x := eg_swm.getD (((a : Nat) : Int)).toNat 0) (t := 46) rfl (by rw [e9]; rfl) ?_
    refine eg_k_lload rfl rfl ?_
    refine eg_k_l2i rfl ?_
    refine eg_k_lload rfl rfl ?_
    refine eg_k_l2i rfl ?_
    refine vk_icmp rfl hx Iff.rfl (fun c32 hx => ?_) (fun c32 hx => ?_)
    · refine eg_k_ci rfl ?_
      obtain ⟨r34, h33, hx⟩ := vb_bind hx
      refine eg_k_call (c1 := 0) (z1 := 0) (as := [.inl 0]) (rest := []) rfl eg_tj44 (Nat.le_of_ble_eq_true rfl) rfl rfl trivial (Nat.le_of_ble_eq_true rfl) (Nat.le_refl _) (Nat.le_refl _) ?_ (fun Q hQ => ft_44 h33 hQ)
      have hx := Option.some.inj hx
      subst hx
      exact eg_k_lret rfl rfl (Nat.le_refl _) (Nat.le_refl _) hK
    · refine eg_k_ci rfl ?_
      refine eg_k_goto rfl ?_
      obtain ⟨r37, h36, hx⟩ := vb_bind hx
      refine eg_k_call (c1 := 0) (z1 := 0) (as := [.inl 1]) (rest := []) rfl eg_tj44 (Nat.le_of_ble_eq_true rfl) rfl rfl trivial (Nat.le_of_ble_eq_true rfl) (Nat.le_refl _) (Nat.le_refl _) ?_ (fun Q hQ => ft_44 h36 hQ)
      have hx := Option.some.inj hx
      subst hx
      exact eg_k_lret rfl rfl (Nat.le_refl _) (Nat.le_refl _) hK
  have e8_ := e9
  refine vb_ite hx (fun e9 hx => ?_) (fun e9 hx => ?_)
  · refine eg_k_tsw (x := eg_swm.getD (((a : Nat) : Int)).toNat 0) (t := 56) rfl (by rw [e9]; rfl) ?_
    refine eg_k_lload rfl rfl ?_
    refine eg_k_cl rfl ?_
    refine vk_lcmp rfl rfl hx Iff.rfl (fun c39 hx => ?_) (fun c39 hx => ?_)
    · refine eg_k_ci rfl ?_
      obtain ⟨r41, h40, hx⟩ := vb_bind hx
      refine eg_k_call (c1 := 0) (z1 := 0) (as := [.inl 0]) (rest := []) rfl eg_tj44 (Nat.le_of_ble_eq_true rfl) rfl rfl trivial (Nat.le_of_ble_eq_true rfl) (Nat.le_refl _) (Nat.le_refl _) ?_ (fun Q hQ => ft_44 h40 hQ)
      have hx := Option.some.inj hx
      subst hx
      exact eg_k_lret rfl rfl (Nat.le_refl _) (Nat.le_refl _) hK
    · refine eg_k_ci rfl ?_
      refine eg_k_goto rfl ?_
      obtain ⟨r44, h43, hx⟩ := vb_bind hx
      refine eg_k_call (c1 := 0) (z1 := 0) (as := [.inl 1]) (rest := []) rfl eg_tj44 (Nat.le_of_ble_eq_true rfl) rfl rfl trivial (Nat.le_of_ble_eq_true rfl) (Nat.le_refl _) (Nat.le_refl _) ?_ (fun Q hQ => ft_44 h43 hQ)
      have hx := Option.some.inj hx
      subst hx
      exact eg_k_lret rfl rfl (Nat.le_refl _) (Nat.le_refl _) hK
  have e9_ := e9
  refine vb_ite hx (fun e9 hx => ?_) (fun e9 hx => ?_)
  · refine eg_k_tsw (x := eg_swm.getD (((a : Nat) : Int)).toNat 0) (t := 65) rfl (by rw [e9]; rfl) ?_
    refine eg_k_lload rfl rfl ?_
    refine eg_k_cl rfl ?_
    refine vk_lcmp rfl rfl hx Iff.rfl (fun c46 hx => ?_) (fun c46 hx => ?_)
    · refine eg_k_ci rfl ?_
      obtain ⟨r48, h47, hx⟩ := vb_bind hx
      refine eg_k_call (c1 := 0) (z1 := 0) (as := [.inl 0]) (rest := []) rfl eg_tj44 (Nat.le_of_ble_eq_true rfl) rfl rfl trivial (Nat.le_of_ble_eq_true rfl) (Nat.le_refl _) (Nat.le_refl _) ?_ (fun Q hQ => ft_44 h47 hQ)
      have hx := Option.some.inj hx
      subst hx
      exact eg_k_lret rfl rfl (Nat.le_refl _) (Nat.le_refl _) hK
    · refine eg_k_ci rfl ?_
      refine eg_k_goto rfl ?_
      obtain ⟨r51, h50, hx⟩ := vb_bind hx
      refine eg_k_call (c1 := 0) (z1 := 0) (as := [.inl 1]) (rest := []) rfl eg_tj44 (Nat.le_of_ble_eq_true rfl) rfl rfl trivial (Nat.le_of_ble_eq_true rfl) (Nat.le_refl _) (Nat.le_refl _) ?_ (fun Q hQ => ft_44 h50 hQ)
      have hx := Option.some.inj hx
      subst hx
      exact eg_k_lret rfl rfl (Nat.le_refl _) (Nat.le_refl _) hK
  have e10_ := e9
  refine vb_ite hx (fun e9 hx => ?_) (fun e9 hx => ?_)
  · refine eg_k_tsw (x := eg_swm.getD (((a : Nat) : Int)).toNat 0) (t := 74) rfl (by rw [e9]; rfl) ?_
    refine eg_k_aload rfl rfl ?_
    refine eg_k_gfr rfl rfl rfl eh_r43_1 ?_
    refine eg_k_lload rfl rfl ?_
    refine eg_k_ci rfl ?_
    obtain ⟨r54, h53, hx⟩ := vb_bind hx
    refine eg_k_call (c1 := 0) (z1 := 0) (as := [.inr (.inr (some 15)), .inr (.inl b), .inl 1]) (rest := []) rfl eg_tj76 (Nat.le_of_ble_eq_true rfl) rfl rfl rfl (Nat.le_of_ble_eq_true rfl) (Nat.le_refl _) (Nat.le_refl _) ?_ (fun Q hQ => ft_76 h53 hQ)
    obtain ⟨r57, h56, hx⟩ := vb_bind hx
    refine eg_k_call (c1 := 0) (z1 := 0) (as := [.inl r54]) (rest := []) rfl eg_tj44 (Nat.le_of_ble_eq_true rfl) rfl rfl trivial (Nat.le_of_ble_eq_true rfl) (Nat.le_refl _) (Nat.le_refl _) ?_ (fun Q hQ => ft_44 h56 hQ)
    have hx := Option.some.inj hx
    subst hx
    exact eg_k_lret rfl rfl (Nat.le_refl _) (Nat.le_refl _) hK
  have e11_ := e9
  refine vb_ite hx (fun e9 hx => ?_) (fun e9 hx => ?_)
  · refine eg_k_tsw (x := eg_swm.getD (((a : Nat) : Int)).toNat 0) (t := 81) rfl (by rw [e9]; rfl) ?_
    refine eg_k_lload rfl rfl ?_
    refine eg_k_ci rfl ?_
    refine eg_k_lshr rfl ?_
    refine eg_k_cl rfl ?_
    refine vk_lcmp rfl rfl hx Iff.rfl (fun c59 hx => ?_) (fun c59 hx => ?_)
    · refine eg_k_ci rfl ?_
      obtain ⟨r61, h60, hx⟩ := vb_bind hx
      refine eg_k_call (c1 := 0) (z1 := 0) (as := [.inl 0]) (rest := []) rfl eg_tj49 (Nat.le_of_ble_eq_true rfl) rfl rfl trivial (Nat.le_of_ble_eq_true rfl) (Nat.le_refl _) (Nat.le_refl _) ?_ (fun Q hQ => ft_49 h60 hQ)
      have hx := Option.some.inj hx
      subst hx
      exact eg_k_lret rfl rfl (Nat.le_refl _) (Nat.le_refl _) hK
    · refine eg_k_aload rfl rfl ?_
      refine eg_k_gfr rfl rfl rfl eh_r43_1 ?_
      refine eg_k_iload rfl rfl ?_
      obtain ⟨r64, h63, hx⟩ := vb_bind hx
      refine eg_k_call (c1 := 0) (z1 := 0) (as := [.inr (.inr (some 15)), .inl (eg_wi b)]) (rest := []) rfl eg_tj82 (Nat.le_of_ble_eq_true rfl) rfl rfl rfl (Nat.le_of_ble_eq_true rfl) (Nat.le_refl _) (Nat.le_refl _) ?_ (fun Q hQ => ft_82 h63 hQ)
      refine eg_k_goto rfl ?_
      obtain ⟨r67, h66, hx⟩ := vb_bind hx
      refine eg_k_call (c1 := 0) (z1 := 0) (as := [.inl r64.1]) (rest := []) rfl eg_tj49 (Nat.le_of_ble_eq_true rfl) rfl rfl trivial (Nat.le_of_ble_eq_true rfl) (Nat.le_refl _) (Nat.le_refl _) ?_ (fun Q hQ => ft_49 h66 hQ)
      have hx := Option.some.inj hx
      subst hx
      exact eg_k_lret rfl rfl (Nat.le_refl _) (Nat.le_refl _) hK
  have e12_ := e9
  refine vb_ite hx (fun e9 hx => ?_) (fun e9 hx => ?_)
  · refine eg_k_tsw (x := eg_swm.getD (((a : Nat) : Int)).toNat 0) (t := 95) rfl (by rw [e9]; rfl) ?_
    refine eg_k_aload rfl rfl ?_
    refine eg_k_gfr rfl rfl rfl eh_r43_1 ?_
    refine eg_k_gfi rfl rfl rfl ?_
    obtain ⟨r70, h69, hx⟩ := vb_bind hx
    refine eg_k_call (c1 := 0) (z1 := 0) (as := [.inl (M 15 6)]) (rest := []) rfl eg_tj49 (Nat.le_of_ble_eq_true rfl) rfl rfl trivial (Nat.le_of_ble_eq_true rfl) (Nat.le_refl _) (Nat.le_refl _) ?_ (fun Q hQ => ft_49 h69 hQ)
    have hx := Option.some.inj hx
    subst hx
    exact eg_k_lret rfl rfl (Nat.le_refl _) (Nat.le_refl _) hK
  have e13_ := e9
  refine vb_ite hx (fun e9 hx => ?_) (fun e9 hx => ?_)
  · refine eg_k_tsw (x := eg_swm.getD (((a : Nat) : Int)).toNat 0) (t := 100) rfl (by rw [e9]; rfl) ?_
    refine eg_k_aload rfl rfl ?_
    refine eg_k_ci rfl ?_
    refine eg_k_pfz rfl rfl rfl (by decide) ?_
    refine eg_k_cl rfl ?_
    have hx := Option.some.inj hx
    subst hx
    exact eg_k_lret rfl rfl (Nat.le_refl _) (Nat.le_refl _) hK
  have e14_ := e9
  refine vb_ite hx (fun e9 hx => ?_) (fun e9 hx => ?_)
  · refine eg_k_tsw (x := eg_swm.getD (((a : Nat) : Int)).toNat 0) (t := 105) rfl (by rw [e9]; rfl) ?_
    refine eg_k_aload rfl rfl ?_
    refine eg_k_gfr rfl rfl rfl eh_r43_3 ?_
    refine eg_k_lload rfl rfl ?_
    obtain ⟨m74, h72, hx⟩ := vb_bind hx
    refine eg_k_call (c1 := 0) (z1 := 0) (as := [.inr (.inr (some 26)), .inr (.inl b)]) (rest := []) rfl eg_tj83 (Nat.le_of_ble_eq_true rfl) rfl rfl rfl (Nat.le_of_ble_eq_true rfl) (Nat.le_refl _) (Nat.le_refl _) ?_ (fun Q hQ => ft_83 h72 hQ)
    refine eg_k_cl rfl ?_
    have hx := Option.some.inj hx
    subst hx
    exact eg_k_lret rfl rfl (Nat.le_refl _) (Nat.le_refl _) hK
  have e15_ := e9
  refine vb_ite hx (fun e9 hx => ?_) (fun e9 hx => ?_)
  · refine eg_k_tsw (x := eg_swm.getD (((a : Nat) : Int)).toNat 0) (t := 111) rfl (by rw [e9]; rfl) ?_
    refine eg_k_aload rfl rfl ?_
    refine eg_k_aload rfl rfl ?_
    refine eg_k_gfr rfl rfl rfl eh_r43_2 ?_
    refine eg_k_lload rfl rfl ?_
    refine eg_k_lload rfl rfl ?_
    obtain ⟨r76, h75, hx⟩ := vb_bind hx
    refine eg_k_call (c1 := 0) (z1 := 0) (as := [.inr (.inr (some 21)), .inr (.inl b), .inr (.inl e)]) (rest := [.inr (.inr (some 43))]) rfl eg_tj90 (Nat.le_of_ble_eq_true rfl) rfl rfl rfl (Nat.le_of_ble_eq_true rfl) (Nat.le_refl _) (Nat.le_refl _) ?_ (fun Q hQ => ft_90 h75 hQ)
    refine vk_if rfl hx Iff.rfl (fun c78 hx => ?_) (fun c78 hx => ?_)
    · refine eg_k_ci rfl ?_
      refine eg_k_pfi rfl rfl rfl ?_
      refine eg_k_cl rfl ?_
      have hx := Option.some.inj hx
      subst hx
      exact eg_k_lret rfl rfl (Nat.le_refl _) (Nat.le_refl _) hK
    · refine eg_k_ci rfl ?_
      refine eg_k_goto rfl ?_
      refine eg_k_pfi rfl rfl rfl ?_
      refine eg_k_cl rfl ?_
      have hx := Option.some.inj hx
      subst hx
      exact eg_k_lret rfl rfl (Nat.le_refl _) (Nat.le_refl _) hK
  have e16_ := e9
  refine eg_k_tsw (x := eg_swm.getD (((a : Nat) : Int)).toNat 0) (t := 124) rfl (by unfold eg_tb; rw [if_pos (by omega)]; rfl) ?_
  refine eg_k_aload rfl rfl ?_
  refine eg_k_aload rfl rfl ?_
  refine eg_k_lload rfl rfl ?_
  refine eg_k_lload rfl rfl ?_
  refine eg_k_lload rfl rfl ?_
  obtain ⟨r80, h79, hx⟩ := vb_bind hx
  refine eg_k_call (c1 := 0) (z1 := 0) (as := [.inr (.inr (some 43)), .inr (.inr (some (1000100 + a))), .inr (.inl b), .inr (.inl e), .inr (.inl f)]) (rest := []) rfl eg_tj91 (Nat.le_of_ble_eq_true rfl) rfl rfl rfl (Nat.le_of_ble_eq_true rfl) (Nat.le_refl _) (Nat.le_refl _) ?_ (fun Q hQ => ft_91 h79 hQ)
  have hx := Option.some.inj hx
  subst hx
  exact eg_k_lret rfl rfl (Nat.le_refl _) (Nat.le_refl _) hK
theorem fw_79 {cn : Nat} {mo : Nat} {M : eM} {c : Nat} {a : Nat} {b : Int} {e : Int} {f : Int} {x : Int × eM} (hx : fn_79 cn mo a b e f M = some x) (hc : c ∉ ([15, 16, 17, 18, 19, 20, 21, 22, 23, 26, 27, 28, 43] : List Nat)) (j : Nat) : ((x).2) c j = M c j := by
  obtain ⟨v, hK⟩ : ∃ v, ((x).2) c j = v := ⟨_, rfl⟩
  rw [hK]
  refine Eq.symm ?_
  obtain ⟨_, hx⟩ := vb_if hx
  obtain ⟨_, hx⟩ := vb_if hx
  refine vb_ite hx (fun _ hx => ?_) (fun _ hx => ?_)
  · obtain ⟨r4, h3, hx⟩ := vb_bind hx
    have hx := Option.some.inj hx
    subst hx
    exact (Eq.refl _).symm.trans hK
  refine vb_ite hx (fun _ hx => ?_) (fun _ hx => ?_)
  · obtain ⟨r7, h6, hx⟩ := vb_bind hx
    have hx := Option.some.inj hx
    subst hx
    exact (Eq.refl _).symm.trans hK
  refine vb_ite hx (fun _ hx => ?_) (fun _ hx => ?_)
  · obtain ⟨r10, h9, hx⟩ := vb_bind hx
    have hx := Option.some.inj hx
    subst hx
    exact (Eq.refl _).symm.trans hK
  refine vb_ite hx (fun _ hx => ?_) (fun _ hx => ?_)
  · obtain ⟨r13, h12, hx⟩ := vb_bind hx
    have hx := Option.some.inj hx
    subst hx
    exact ((fw_81 h12 (vsub hc (by decide)) j).trans rfl).symm.trans hK
  refine vb_ite hx (fun _ hx => ?_) (fun _ hx => ?_)
  · obtain ⟨r16, h15, hx⟩ := vb_bind hx
    have hx := Option.some.inj hx
    subst hx
    exact ((fw_81 h15 (vsub hc (by decide)) j).trans rfl).symm.trans hK
  refine vb_ite hx (fun _ hx => ?_) (fun _ hx => ?_)
  · refine vb_ite hx (fun _ hx => ?_) (fun _ hx => ?_)
    · obtain ⟨r20, h19, hx⟩ := vb_bind hx
      have hx := Option.some.inj hx
      subst hx
      exact (Eq.refl _).symm.trans hK
    · obtain ⟨r23, h22, hx⟩ := vb_bind hx
      have hx := Option.some.inj hx
      subst hx
      exact (Eq.refl _).symm.trans hK
  refine vb_ite hx (fun _ hx => ?_) (fun _ hx => ?_)
  · refine vb_ite hx (fun _ hx => ?_) (fun _ hx => ?_)
    · obtain ⟨r27, h26, hx⟩ := vb_bind hx
      have hx := Option.some.inj hx
      subst hx
      exact (Eq.refl _).symm.trans hK
    · obtain ⟨r30, h29, hx⟩ := vb_bind hx
      have hx := Option.some.inj hx
      subst hx
      exact (Eq.refl _).symm.trans hK
  refine vb_ite hx (fun _ hx => ?_) (fun _ hx => ?_)
  · refine vb_ite hx (fun _ hx => ?_) (fun _ hx => ?_)
    · obtain ⟨r34, h33, hx⟩ := vb_bind hx
      have hx := Option.some.inj hx
      subst hx
      exact (Eq.refl _).symm.trans hK
    · obtain ⟨r37, h36, hx⟩ := vb_bind hx
      have hx := Option.some.inj hx
      subst hx
      exact (Eq.refl _).symm.trans hK
  refine vb_ite hx (fun _ hx => ?_) (fun _ hx => ?_)
  · refine vb_ite hx (fun _ hx => ?_) (fun _ hx => ?_)
    · obtain ⟨r41, h40, hx⟩ := vb_bind hx
      have hx := Option.some.inj hx
      subst hx
      exact (Eq.refl _).symm.trans hK
    · obtain ⟨r44, h43, hx⟩ := vb_bind hx
      have hx := Option.some.inj hx
      subst hx
      exact (Eq.refl _).symm.trans hK
  refine vb_ite hx (fun _ hx => ?_) (fun _ hx => ?_)
  · refine vb_ite hx (fun _ hx => ?_) (fun _ hx => ?_)
    · obtain ⟨r48, h47, hx⟩ := vb_bind hx
      have hx := Option.some.inj hx
      subst hx
      exact (Eq.refl _).symm.trans hK
    · obtain ⟨r51, h50, hx⟩ := vb_bind hx
      have hx := Option.some.inj hx
      subst hx
      exact (Eq.refl _).symm.trans hK
  refine vb_ite hx (fun _ hx => ?_) (fun _ hx => ?_)
  · obtain ⟨r54, h53, hx⟩ := vb_bind hx
    obtain ⟨r57, h56, hx⟩ := vb_bind hx
    have hx := Option.some.inj hx
    subst hx
    exact (Eq.refl _).symm.trans hK
  refine vb_ite hx (fun _ hx => ?_) (fun _ hx => ?_)
  · refine vb_ite hx (fun _ hx => ?_) (fun _ hx => ?_)
    · obtain ⟨r61, h60, hx⟩ := vb_bind hx
      have hx := Option.some.inj hx
      subst hx
      exact (Eq.refl _).symm.trans hK
    · obtain ⟨r64, h63, hx⟩ := vb_bind hx
      obtain ⟨r67, h66, hx⟩ := vb_bind hx
      have hx := Option.some.inj hx
      subst hx
      exact ((fw_82 h63 (vsub hc (by decide)) j).trans rfl).symm.trans hK
  refine vb_ite hx (fun _ hx => ?_) (fun _ hx => ?_)
  · obtain ⟨r70, h69, hx⟩ := vb_bind hx
    have hx := Option.some.inj hx
    subst hx
    exact (Eq.refl _).symm.trans hK
  refine vb_ite hx (fun _ hx => ?_) (fun _ hx => ?_)
  · have hx := Option.some.inj hx
    subst hx
    exact ((congrFun (eg_u_ne (vne hc (a := 43) (by decide))) j).trans rfl).symm.trans hK
  refine vb_ite hx (fun _ hx => ?_) (fun _ hx => ?_)
  · obtain ⟨m74, h72, hx⟩ := vb_bind hx
    have hx := Option.some.inj hx
    subst hx
    exact ((fw_83 h72 (vsub hc (by decide)) j).trans rfl).symm.trans hK
  refine vb_ite hx (fun _ hx => ?_) (fun _ hx => ?_)
  · obtain ⟨r76, h75, hx⟩ := vb_bind hx
    refine vb_ite hx (fun _ hx => ?_) (fun _ hx => ?_)
    · have hx := Option.some.inj hx
      subst hx
      exact ((congrFun (eg_u_ne (vne hc (a := 43) (by decide))) j).trans ((fw_90 h75 (vsub hc (by decide)) j).trans rfl)).symm.trans hK
    · have hx := Option.some.inj hx
      subst hx
      exact ((congrFun (eg_u_ne (vne hc (a := 43) (by decide))) j).trans ((fw_90 h75 (vsub hc (by decide)) j).trans rfl)).symm.trans hK
  obtain ⟨r80, h79, hx⟩ := vb_bind hx
  have hx := Option.some.inj hx
  subst hx
  exact ((fw_91 h79 (vsub hc (by decide)) j).trans rfl).symm.trans hK
