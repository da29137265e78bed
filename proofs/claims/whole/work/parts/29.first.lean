/-! read(0) on an empty text -/
def eh_z30 (M : Nat → Nat → Int) : Nat → Nat → Int := eg_u (eg_u (eg_u (eg_u (eg_u (eg_u M 7 6 0) 7 7 0) 7 8 (M 1 6)) 7 9 0) 7 4 0) 7 5 (-1)
set_option maxRecDepth 100000 in
theorem eh_30z {cn mo : Nat} {sc : eg_Sc} {d : Nat} {M : Nat → Nat → Int} {Q : Option eg_V → eg_H → Prop} (h2 : M 7 2 = 0) (hQ : Q none (em_L cn mo, eh_R, eh_z30 M)) : eg_wp sc (d + 1) 30 [.inr (.inr (some 7)), .inl 0] (em_L cn mo, eh_R, M) 0 0 Q := by
  refine eg_in (lv := [some (.inr (.inr (some 7))), some (.inl 0), none]) eg_tj30 (Nat.le_of_ble_eq_true rfl) rfl ?_
  refine eg_k_aload rfl rfl ?_
  refine eg_k_iload rfl rfl ?_
  refine eg_k_aload rfl rfl ?_
  refine eg_k_gfie (x := 0) rfl rfl rfl h2 ?_
  refine eg_k_min rfl (Nat.le_of_ble_eq_true rfl) (Nat.le_refl _) (Nat.le_refl _) ?_
  rw [show (if (0 : Int) < 0 then (0 : Int) else 0) = 0 from rfl]
  refine eg_k_pfi rfl rfl rfl ?_
  refine eg_k_aload rfl rfl ?_
  refine eg_k_ci rfl ?_
  refine eg_k_pfi rfl rfl rfl ?_
  refine eg_k_aload rfl rfl ?_
  refine eg_k_aload rfl rfl ?_
  refine eg_k_gfr rfl rfl rfl eh_r7_0 ?_
  refine eg_k_gfi rfl rfl rfl ?_
  refine eg_k_pfi rfl rfl rfl ?_
  refine eg_k_aload rfl rfl ?_
  refine eg_k_ci rfl ?_
  refine eg_k_pfi rfl rfl rfl ?_
  refine eg_k_aload rfl rfl ?_
  refine eg_k_ci rfl ?_
  refine eg_k_pfi rfl rfl rfl ?_
  refine eg_k_aload rfl rfl ?_
  refine eg_k_ci rfl ?_
  refine eg_k_pfi rfl rfl rfl ?_
  refine eg_k_ci rfl ?_
  refine eg_k_istore (lv' := [some (.inr (.inr (some 7))), some (.inl 0), some (.inl 0)]) rfl rfl ?_
  refine eg_k_iload rfl rfl ?_
  refine eg_k_aload rfl rfl ?_
  refine eg_k_gfie (x := 0) rfl rfl rfl rfl ?_
  refine eg_k_icmp rfl (fun _ => ?_) (fun z => absurd (Int.le_refl _) z)
  refine eg_k_aload rfl rfl ?_
  refine eg_k_gfie (x := 0) rfl rfl rfl rfl ?_
  refine eg_k_if rfl (fun z => absurd z (show ¬ (¬ (0 : Int) = 0) by decide)) (fun _ => ?_)
  refine eg_k_aload rfl rfl ?_
  refine eg_k_gfie (x := 0) rfl rfl rfl rfl ?_
  refine eg_k_if rfl (fun _ => ?_) (fun z => absurd (show (0 : Int) ≤ 0 by decide) z)
  exact eg_k_ret rfl rfl (Nat.le_refl _) (Nat.le_refl _) hQ
/-! firstFault of no data -/
set_option maxRecDepth 100000 in
theorem eh_54z {cn mo : Nat} {sc : eg_Sc} {d : Nat} {M : Nat → Nat → Int} {Q : Option eg_V → eg_H → Prop} {f : Int} {p9 : Nat} (hf : M 1 6 = f) (hQ : Q (some (.inl (-1))) (em_L cn mo, eh_R, eg_fil (eg_u M 12 3 f) 13 0 2000 0)) : eg_wp sc (d + 2) 54 [.inr (.inr (some 12)), .inl f, .inr (.inr (some p9))] (em_L cn mo, eh_R, M) 0 0 Q := by
  refine eg_in (lv := [some (.inr (.inr (some 12))), some (.inl f), some (.inr (.inr (some p9))), none]) eg_tj54 (Nat.le_of_ble_eq_true rfl) rfl ?_
  have g3 : eg_fil (eg_u M 12 3 f) 13 0 2000 0 12 3 = f := rfl
  have g6 : eg_fil (eg_u M 12 3 f) 13 0 2000 0 1 6 = f := hf
  refine eg_k_aload rfl rfl ?_
  refine eg_k_iload rfl rfl ?_
  refine eg_k_pfi rfl rfl rfl ?_
  refine eg_k_aload rfl rfl ?_
  refine eg_k_gfa rfl rfl rfl eh_r12_1 ?_
  refine eg_k_ci rfl ?_
  refine eg_k_call (c1 := 0) (z1 := 0) (as := [.inr (.inr (some 13)), .inl 0]) (rest := []) rfl eg_tj55 (Nat.le_of_ble_eq_true rfl) rfl rfl trivial (Nat.le_of_ble_eq_true rfl) (Nat.le_refl _) (Nat.le_refl _) ?_ (fun Q hQ => ef_55 (n := 2000) rfl (by decide) hQ)
  refine eg_k_aload rfl rfl ?_
  refine eg_k_gfie (x := f) rfl rfl rfl g3 ?_
  refine eg_k_istore (lv' := [some (.inr (.inr (some 12))), some (.inl f), some (.inr (.inr (some p9))), some (.inl f)]) rfl rfl ?_
  refine eg_k_iload rfl rfl ?_
  refine eg_k_aload rfl rfl ?_
  refine eg_k_gfr rfl rfl rfl eh_r12_0 ?_
  refine eg_k_gfie (x := f) rfl rfl rfl g6 ?_
  refine eg_k_icmp rfl (fun _ => ?_) (fun z => absurd (Int.le_refl _) z)
  refine eg_k_aload rfl rfl ?_
  refine eg_k_gfie (x := f) rfl rfl rfl g3 ?_
  refine eg_k_istore (lv' := [some (.inr (.inr (some 12))), some (.inl f), some (.inr (.inr (some p9))), some (.inl f)]) rfl rfl ?_
  refine eg_k_iload rfl rfl ?_
  refine eg_k_aload rfl rfl ?_
  refine eg_k_gfr rfl rfl rfl eh_r12_0 ?_
  refine eg_k_gfie (x := f) rfl rfl rfl g6 ?_
  refine eg_k_icmp rfl (fun _ => ?_) (fun z => absurd (Int.le_refl _) z)
  refine eg_k_ci rfl ?_
  exact eg_k_iret rfl True.intro (Nat.le_refl _) (Nat.le_refl _) hQ
/-! the reference: read(0), shapes and program of nothing -/
def eh_z158 (M : Nat → Nat → Int) : Nat → Nat → Int := eg_u (eg_u (eg_u (eg_u (eg_u (eg_u M 45 3 0) 45 4 0) 45 18 0) 45 21 (-1)) 45 22 (-1)) 45 16 (M 45 17)
set_option maxRecDepth 100000 in
theorem eh_158z {cn mo : Nat} {sc : eg_Sc} {d : Nat} {M : Nat → Nat → Int} {Q : Option eg_V → eg_H → Prop} (hQ : Q (some (.inl 0)) (em_L cn mo, eh_R, eh_z158 M)) : eg_wp sc (d + 1) 158 [.inr (.inr (some 45)), .inl 0] (em_L cn mo, eh_R, M) 0 0 Q := by
  refine eg_in (lv := [some (.inr (.inr (some 45))), some (.inl 0), none]) eg_tj158 (Nat.le_of_ble_eq_true rfl) rfl ?_
  refine eg_k_aload rfl rfl ?_
  refine eg_k_ci rfl ?_
  refine eg_k_pfi rfl rfl rfl ?_
  refine eg_k_aload rfl rfl ?_
  refine eg_k_iload rfl rfl ?_
  refine eg_k_pfi rfl rfl rfl ?_
  refine eg_k_aload rfl rfl ?_
  refine eg_k_ci rfl ?_
  refine eg_k_pfi rfl rfl rfl ?_
  refine eg_k_aload rfl rfl ?_
  refine eg_k_ci rfl ?_
  refine eg_k_pfi rfl rfl rfl ?_
  refine eg_k_aload rfl rfl ?_
  refine eg_k_ci rfl ?_
  refine eg_k_pfi rfl rfl rfl ?_
  refine eg_k_aload rfl rfl ?_
  refine eg_k_aload rfl rfl ?_
  refine eg_k_gfi rfl rfl rfl ?_
  refine eg_k_pfi rfl rfl rfl ?_
  refine eg_k_ci rfl ?_
  refine eg_k_istore (lv' := [some (.inr (.inr (some 45))), some (.inl 0), some (.inl 0)]) rfl rfl ?_
  refine eg_k_iload rfl rfl ?_
  refine eg_k_if rfl (fun z => absurd z (show ¬ (¬ (0 : Int) = 0) by decide)) (fun _ => ?_)
  refine eg_k_aload rfl rfl ?_
  refine eg_k_gfie (x := 0) rfl rfl rfl rfl ?_
  refine eg_k_aload rfl rfl ?_
  refine eg_k_gfie (x := 0) rfl rfl rfl rfl ?_
  refine eg_k_icmp rfl (fun _ => ?_) (fun z => absurd (Int.le_refl _) z)
  refine eg_k_iload rfl rfl ?_
  refine eg_k_if rfl (fun z => absurd z (show ¬ (¬ (0 : Int) = 0) by decide)) (fun _ => ?_)
  refine eg_k_aload rfl rfl ?_
  refine eg_k_gfie (x := 0) rfl rfl rfl rfl ?_
  refine eg_k_if rfl (fun _ => ?_) (fun z => absurd (show (0 : Int) ≤ 0 by decide) z)
  refine eg_k_iload rfl rfl ?_
  exact eg_k_iret rfl True.intro (Nat.le_refl _) (Nat.le_refl _) hQ
set_option maxRecDepth 100000 in
theorem eh_170z {cn mo : Nat} {sc : eg_Sc} {d : Nat} {M : Nat → Nat → Int} {Q : Option eg_V → eg_H → Prop} (h : M 45 21 = -1) (hQ : Q (some (.inl 0)) (em_L cn mo, eh_R, M)) : eg_wp sc (d + 1) 170 [.inr (.inr (some 45))] (em_L cn mo, eh_R, M) 0 0 Q := by
  refine eg_in (lv := [some (.inr (.inr (some 45))), none, none, none]) eg_tj170 (Nat.le_of_ble_eq_true rfl) rfl ?_
  refine eg_k_aload rfl rfl ?_
  refine eg_k_gfie (x := (-1)) rfl rfl rfl h ?_
  refine eg_k_istore (lv' := [some (.inr (.inr (some 45))), some (.inl (-1)), none, none]) rfl rfl ?_
  refine eg_k_iload rfl rfl ?_
  refine eg_k_if rfl (fun _ => ?_) (fun z => absurd (show (-1 : Int) < 0 by decide) z)
  refine eg_k_ci rfl ?_
  exact eg_k_iret rfl True.intro (Nat.le_refl _) (Nat.le_refl _) hQ
set_option maxRecDepth 100000 in
theorem eh_183z {cn mo : Nat} {sc : eg_Sc} {d : Nat} {M : Nat → Nat → Int} {Q : Option eg_V → eg_H → Prop} (h : M 45 21 = -1) (hQ : Q (some (.inl 0)) (em_L cn mo, eh_R, M)) : eg_wp sc (d + 1) 183 [.inr (.inr (some 45))] (em_L cn mo, eh_R, M) 0 0 Q := by
  refine eg_in (lv := [some (.inr (.inr (some 45))), none, none]) eg_tj183 (Nat.le_of_ble_eq_true rfl) rfl ?_
  refine eg_k_aload rfl rfl ?_
  refine eg_k_gfie (x := (-1)) rfl rfl rfl h ?_
  refine eg_k_istore (lv' := [some (.inr (.inr (some 45))), some (.inl (-1)), none]) rfl rfl ?_
  refine eg_k_iload rfl rfl ?_
  refine eg_k_if rfl (fun _ => ?_) (fun z => absurd (show (-1 : Int) < 0 by decide) z)
  refine eg_k_ci rfl ?_
  exact eg_k_iret rfl True.intro (Nat.le_refl _) (Nat.le_refl _) hQ
