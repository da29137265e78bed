/-! read(0) on an empty text -/
def eh_z30 (M : Nat → Nat → Int) : Nat → Nat → Int := eg_u (eg_u (eg_u (eg_u (eg_u (eg_u M 7 6 0) 7 7 0) 7 8 (M 1 6)) 7 9 0) 7 4 0) 7 5 (-1)
set_option maxRecDepth 100000 in
theorem eh_30z {cn mo : Nat} {sc : eg_Sc} {d : Nat} {M : Nat → Nat → Int} {Q : Option eg_V → eg_H → Prop} (h2 : M 7 2 = 0) (hQ : Q none (em_L cn mo, eh_R, eh_z30 M)) : eg_wp sc (d + 1) 30 [.inr (.inr (some 7)), .inl 0] (em_L cn mo, eh_R, M) 0 0 Q := by
  refine eg_in (lv := [some (.inr (.inr (some 7))), some (.inl 0), none]) eg_tj30 (Nat.le_of_ble_eq_true rfl) rfl ?_
  refine eg_k_aload rfl rfl ?_
  refine eg_k_iload rfl rfl ?_
  refine eg_k_aload rfl rfl ?_
  refine eg_k_gfie (x := 0) rfl rfl rfl h2 ?_
  refine eg_k_min rfl (Nat.le_of_ble_eq_true rfl) (Nat.le_refl _) (Nat.le_refl _) ?_
  rw [show (if (0 : Int) < 0 then (0 : Int) else 0) = 0 from rfl]
  refine eg_k_pfi rfl rfl rfl ?_
  refine eg_k_aload rfl rfl ?_
  refine eg_k_ci rfl ?_
  refine eg_k_pfi rfl rfl rfl ?_
  refine eg_k_aload rfl rfl ?_
  refine eg_k_aload rfl rfl ?_
  refine eg_k_gfr rfl rfl rfl eh_r7_0 ?_
  refine eg_k_gfi rfl rfl rfl ?_
  refine eg_k_pfi rfl rfl rfl ?_
  refine eg_k_aload rfl rfl ?_
  refine eg_k_ci rfl ?_
  refine eg_k_pfi rfl rfl rfl ?_
  refine eg_k_aload rfl rfl ?_
  refine eg_k_ci rfl ?_
  refine eg_k_pfi rfl rfl rfl ?_
  refine eg_k_aload rfl rfl ?_
  refine eg_k_ci rfl ?_
  refine eg_k_pfi rfl rfl rfl ?_
  refine eg_k_ci rfl ?_
  refine eg_k_istore (lv' := [some (.inr (.inr (some 7))), some (.inl 0), some (.inl 0)]) rfl rfl ?_
  refine eg_k_iload rfl rfl ?_
  refine eg_k_aload rfl rfl ?_
  refine eg_k_gfie (x := 0) rfl rfl rfl rfl ?_
  refine eg_k_icmp rfl (fun _ => ?_) (fun z => absurd (Int.le_refl _) z)
  refine eg_k_aload rfl rfl ?_
  refine eg_k_gfie (x := 0) rfl rfl rfl rfl ?_
  refine eg_k_if rfl (fun z => absurd z (show ¬ (¬ (0 : Int) = 0) by decide)) (fun _ => ?_)
  refine eg_k_aload rfl rfl ?_
  refine eg_k_gfie (x := 0) rfl rfl rfl rfl ?_
  refine eg_k_if rfl (fun _ => ?_) (fun z => absurd (show (0 : Int) ≤ 0 by decide) z)
  exact eg_k_ret rfl rfl (Nat.le_refl _) (Nat.le_refl _) hQ
/-! firstFault of no data -/
set_option maxRecDepth 100000 in
theorem eh_54z {cn mo : Nat} {sc : eg_Sc} {d : Nat} {M : Nat → Nat → Int} {Q : Option eg_V → eg_H → Prop} {f : Int} {p9 : Nat} (hf : M 1 6 = f) (hQ : Q (some (.inl (-1))) (em_L cn mo, eh_R, eg_fil (eg_u M 12 3 f) 13 0 2000 0)) : eg_wp sc (d + 2) 54 [.inr (.inr (some 12)), .inl f, .inr (.inr (some p9))] (em_L cn mo, eh_R, M) 0 0 Q := by
  refine eg_in (lv := [some (.inr (.inr (some 12))), some (.inl f), some (.inr (.inr (some p9))), none]) eg_tj54 (Nat.le_of_ble_eq_true rfl) rfl ?_
  have g3 : eg_fil (eg_u M 12 3 f) 13 0 2000 0 12 3 = f := rfl
  have g6 : eg_fil (eg_u M 12 3 f) 13 0 2000 0 1 6 = f := hf
  refine eg_k_aload rfl rfl ?_
  refine eg_k_iload rfl rfl ?_
  refine eg_k_pfi rfl rfl rfl ?_
  refine eg_k_aload rfl rfl ?_
  refine eg_k_gfa rfl rfl rfl eh_r12_1 ?_
  refine eg_k_ci rfl ?_
  refine eg_k_call (c1 := 0) (z1 := 0) (as := [.inr (.inr (some 13)), .inl 0]) (rest := []) rfl eg_tj55 (Nat.le_of_ble_eq_true rfl) rfl rfl trivial (Nat.le_of_ble_eq_true rfl) (Nat.le_refl _) (Nat.le_refl _) ?_ (fun Q hQ => ef_55 (n := 2000) rfl (by decide) hQ)
  refine eg_k_aload rfl rfl ?_
  refine eg_k_gfie (x := f) rfl rfl rfl g3 ?_
  refine eg_k_istore (lv' := [some (.inr (.inr (some 12))), some (.inl f), some (.inr (.inr (some p9))), some (.inl f)]) rfl rfl ?_
  refine eg_k_iload rfl rfl ?_
  refine eg_k_aload rfl rfl ?_
  refine eg_k_gfr rfl rfl rfl eh_r12_0 ?_
  refine eg_k_gfie (x := f) rfl rfl rfl g6 ?_
  refine eg_k_icmp rfl (fun _ => ?_) (fun z => absurd (Int.le_refl _) z)
  refine eg_k_aload rfl rfl ?_
  refine eg_k_gfie (x := f) rfl rfl rfl g3 ?_
  refine eg_k_istore (lv' := [some (.inr (.inr (some 12))), some (.inl f), some (.inr (.inr (some p9))), some (.inl f)]) rfl rfl ?_
  refine eg_k_iload rfl rfl ?_
  refine eg_k_aload rfl rfl ?_
  refine eg_k_gfr rfl rfl rfl eh_r12_0 ?_
  refine eg_k_gfie (x := f) rfl rfl rfl g6 ?_
  refine eg_k_icmp rfl (fun _ => ?_) (fun z => absurd (Int.le_refl _) z)
  refine eg_k_ci rfl ?_
  exact eg_k_iret rfl True.intro (Nat.le_refl _) (Nat.le_refl _) hQ
/-! the reference: read(0), shapes and program of nothing -/
def eh_z158 (M : Nat → Nat → Int) : Nat → Nat → Int := eg_u (eg_u (eg_u (eg_u (eg_u (eg_u M 45 3 0) 45 4 0) 45 18 0) 45 21 (-1)) 45 22 (-1)) 45 16 (M 45 17)
set_option maxRecDepth 100000 in
theorem eh_158z {cn mo : Nat} {sc : eg_Sc} {d : Nat} {M : Nat → Nat → Int} {Q : Option eg_V → eg_H → Prop} (hQ : Q (some (.inl 0)) (em_L cn mo, eh_R, eh_z158 M)) : eg_wp sc (d + 1) 158 [.inr (.inr (some 45)), .inl 0] (em_L cn mo, eh_R, M) 0 0 Q := by
  refine eg_in (lv := [some (.inr (.inr (some 45))), some (.inl 0), none]) eg_tj158 (Nat.le_of_ble_eq_true rfl) rfl ?_
  refine eg_k_aload rfl rfl ?_
  refine eg_k_ci rfl ?_
  refine eg_k_pfi rfl rfl rfl ?_
  refine eg_k_aload rfl rfl ?_
  refine eg_k_iload rfl rfl ?_
  refine eg_k_pfi rfl rfl rfl ?_
  refine eg_k_aload rfl rfl ?_
  refine eg_k_ci rfl ?_
  refine eg_k_pfi rfl rfl rfl ?_
  refine eg_k_aload rfl rfl ?_
  refine eg_k_ci rfl ?_
  refine eg_k_pfi rfl rfl rfl ?_
  refine eg_k_aload rfl rfl ?_
  refine eg_k_ci rfl ?_
  refine eg_k_pfi rfl rfl rfl ?_
  refine eg_k_aload rfl rfl ?_
  refine eg_k_aload rfl rfl ?_
  refine eg_k_gfi rfl rfl rfl ?_
  refine eg_k_pfi rfl rfl rfl ?_
  refine eg_k_ci rfl ?_
  refine eg_k_istore (lv' := [some (.inr (.inr (some 45))), some (.inl 0), some (.inl 0)]) rfl rfl ?_
  refine eg_k_iload rfl rfl ?_
  refine eg_k_if rfl (fun z => absurd z (show ¬ (¬ (0 : Int) = 0) by decide)) (fun _ => ?_)
  refine eg_k_aload rfl rfl ?_
  refine eg_k_gfie (x := 0) rfl rfl rfl rfl ?_
  refine eg_k_aload rfl rfl ?_
  refine eg_k_gfie (x := 0) rfl rfl rfl rfl ?_
  refine eg_k_icmp rfl (fun _ => ?_) (fun z => absurd (Int.le_refl _) z)
  refine eg_k_iload rfl rfl ?_
  refine eg_k_if rfl (fun z => absurd z (show ¬ (¬ (0 : Int) = 0) by decide)) (fun _ => ?_)
  refine eg_k_aload rfl rfl ?_
  refine eg_k_gfie (x := 0) rfl rfl rfl rfl ?_
  refine eg_k_if rfl (fun _ => ?_) (fun z => absurd (show (0 : Int) ≤ 0 by decide) z)
  refine eg_k_iload rfl rfl ?_
  exact eg_k_iret rfl True.intro (Nat.le_refl _) (Nat.le_refl _) hQ
set_option maxRecDepth 100000 in
theorem eh_170z {cn mo : Nat} {sc : eg_Sc} {d : Nat} {M : Nat → Nat → Int} {Q : Option eg_V → eg_H → Prop} (h : M 45 21 = -1) (hQ : Q (some (.inl 0)) (em_L cn mo, eh_R, M)) : eg_wp sc (d + 1) 170 [.inr (.inr (some 45))] (em_L cn mo, eh_R, M) 0 0 Q := by
  refine eg_in (lv := [some (.inr (.inr (some 45))), none, none, none]) eg_tj170 (Nat.le_of_ble_eq_true rfl) rfl ?_
  refine eg_k_aload rfl rfl ?_
  refine eg_k_gfie (x := (-1)) rfl rfl rfl h ?_
  refine eg_k_istore (lv' := [some (.inr (.inr (some 45))), some (.inl (-1)), none, none]) rfl rfl ?_
  refine eg_k_iload rfl rfl ?_
  refine eg_k_if rfl (fun _ => ?_) (fun z => absurd (show (-1 : Int) < 0 by decide) z)
  refine eg_k_ci rfl ?_
  exact eg_k_iret rfl True.intro (Nat.le_refl _) (Nat.le_refl _) hQ
set_option maxRecDepth 100000 in
theorem eh_183z {cn mo : Nat} {sc : eg_Sc} {d : Nat} {M : Nat → Nat → Int} {Q : Option eg_V → eg_H → Prop} (h : M 45 21 = -1) (hQ : Q (some (.inl 0)) (em_L cn mo, eh_R, M)) : eg_wp sc (d + 1) 183 [.inr (.inr (some 45))] (em_L cn mo, eh_R, M) 0 0 Q := by
  refine eg_in (lv := [some (.inr (.inr (some 45))), none, none]) eg_tj183 (Nat.le_of_ble_eq_true rfl) rfl ?_
  refine eg_k_aload rfl rfl ?_
  refine eg_k_gfie (x := (-1)) rfl rfl rfl h ?_
  refine eg_k_istore (lv' := [some (.inr (.inr (some 45))), some (.inl (-1)), none]) rfl rfl ?_
  refine eg_k_iload rfl rfl ?_
  refine eg_k_if rfl (fun _ => ?_) (fun z => absurd (show (-1 : Int) < 0 by decide) z)
  refine eg_k_ci rfl ?_
  exact eg_k_iret rfl True.intro (Nat.le_refl _) (Nat.le_refl _) hQ
/-! execute of nothing -/
def eh_z71 (M : Nat → Nat → Int) : Nat → Nat → Int := eg_fil (eg_u M 29 0 0) 36 0 32 4294967298
def eh_z70 (M : Nat → Nat → Int) (f : Int) : Nat → Nat → Int := eg_u (eg_u (eg_u (eg_u (eh_z71 (eg_u (eg_u (eg_u M 44 7 f) 44 8 0) 44 10 0)) 15 11 0) 15 12 0) 43 4 0) 43 5 0
set_option maxRecDepth 100000 in
theorem eh_71 {cn mo : Nat} {sc : eg_Sc} {d : Nat} {M : Nat → Nat → Int} {Q : Option eg_V → eg_H → Prop} (hQ : Q none (em_L cn mo, eh_R, eh_z71 M)) : eg_wp sc (d + 2) 71 [.inr (.inr (some 29))] (em_L cn mo, eh_R, M) 0 0 Q := by
  refine eg_in (lv := [some (.inr (.inr (some 29)))]) eg_tj71 (Nat.le_of_ble_eq_true rfl) rfl ?_
  refine eg_k_aload rfl rfl ?_
  refine eg_k_ci rfl ?_
  refine eg_k_pfi rfl rfl rfl ?_
  refine eg_k_aload rfl rfl ?_
  refine eg_k_gfa rfl rfl rfl eh_r29_7 ?_
  refine eg_k_cl rfl ?_
  refine eg_k_call (c1 := 0) (z1 := 0) (as := [.inr (.inr (some 36)), .inr (.inl 4294967298)]) (rest := []) rfl eg_tj22 (Nat.le_of_ble_eq_true rfl) rfl rfl trivial (Nat.le_of_ble_eq_true rfl) (Nat.le_refl _) (Nat.le_refl _) ?_ (fun Q hQ => ef_22 (n := 32) rfl (by decide) hQ)
  exact eg_k_ret rfl rfl (Nat.le_refl _) (Nat.le_refl _) hQ
set_option maxRecDepth 100000 in
theorem eh_70 {cn mo : Nat} {sc : eg_Sc} {d : Nat} {M : Nat → Nat → Int} {Q : Option eg_V → eg_H → Prop} {f : Int} (hQ : Q none (em_L cn mo, eh_R, eh_z70 M f)) : eg_wp sc (d + 3) 70 [.inr (.inr (some 44)), .inl f] (em_L cn mo, eh_R, M) 0 0 Q := by
  refine eg_in (lv := [some (.inr (.inr (some 44))), some (.inl f)]) eg_tj70 (Nat.le_of_ble_eq_true rfl) rfl ?_
  refine eg_k_aload rfl rfl ?_
  refine eg_k_iload rfl rfl ?_
  refine eg_k_pfi rfl rfl rfl ?_
  refine eg_k_aload rfl rfl ?_
  refine eg_k_ci rfl ?_
  refine eg_k_pfi rfl rfl rfl ?_
  refine eg_k_aload rfl rfl ?_
  refine eg_k_ci rfl ?_
  refine eg_k_pfi rfl rfl rfl ?_
  refine eg_k_aload rfl rfl ?_
  refine eg_k_gfr rfl rfl rfl eh_r44_3 ?_
  refine eg_k_call (c1 := 0) (z1 := 0) (as := [.inr (.inr (some 29))]) (rest := []) rfl eg_tj71 (Nat.le_of_ble_eq_true rfl) rfl rfl rfl (Nat.le_of_ble_eq_true rfl) (Nat.le_refl _) (Nat.le_refl _) ?_ (fun Q hQ => eh_71 hQ)
  refine eg_k_aload rfl rfl ?_
  refine eg_k_gfr rfl rfl rfl eh_r44_1 ?_
  refine eg_k_ci rfl ?_
  refine eg_k_pfz rfl rfl rfl (Or.inl rfl) ?_
  refine eg_k_aload rfl rfl ?_
  refine eg_k_gfr rfl rfl rfl eh_r44_1 ?_
  refine eg_k_ci rfl ?_
  refine eg_k_pfz rfl rfl rfl (Or.inl rfl) ?_
  refine eg_k_aload rfl rfl ?_
  refine eg_k_gfr rfl rfl rfl eh_r44_5 ?_
  refine eg_k_ci rfl ?_
  refine eg_k_pfi rfl rfl rfl ?_
  refine eg_k_aload rfl rfl ?_
  refine eg_k_gfr rfl rfl rfl eh_r44_5 ?_
  refine eg_k_ci rfl ?_
  refine eg_k_pfz rfl rfl rfl (Or.inl rfl) ?_
  exact eg_k_ret rfl rfl (Nat.le_refl _) (Nat.le_refl _) hQ
set_option maxRecDepth 100000 in
theorem eh_69z {cn mo : Nat} {sc : eg_Sc} {d : Nat} {M : Nat → Nat → Int} {Q : Option eg_V → eg_H → Prop} {a f : Int} (hQ : Q none (em_L cn mo, eh_R, eh_z70 M f)) : eg_wp sc (d + 4) 69 [.inr (.inr (some 44)), .inl a, .inl a, .inl f] (em_L cn mo, eh_R, M) 0 0 Q := by
  refine eg_in (lv := [some (.inr (.inr (some 44))), some (.inl a), some (.inl a), some (.inl f), none, none, none]) eg_tj69 (Nat.le_of_ble_eq_true rfl) rfl ?_
  refine eg_k_aload rfl rfl ?_
  refine eg_k_iload rfl rfl ?_
  refine eg_k_call (c1 := 0) (z1 := 0) (as := [.inr (.inr (some 44)), .inl f]) (rest := []) rfl eg_tj70 (Nat.le_of_ble_eq_true rfl) rfl rfl rfl (Nat.le_of_ble_eq_true rfl) (Nat.le_refl _) (Nat.le_refl _) ?_ (fun Q hQ => eh_70 hQ)
  refine eg_k_iload rfl rfl ?_
  refine eg_k_istore (lv' := [some (.inr (.inr (some 44))), some (.inl a), some (.inl a), some (.inl f), some (.inl a), none, none]) rfl rfl ?_
  refine eg_k_ci rfl ?_
  refine eg_k_istore (lv' := [some (.inr (.inr (some 44))), some (.inl a), some (.inl a), some (.inl f), some (.inl a), some (.inl 0), none]) rfl rfl ?_
  refine eg_k_ci rfl ?_
  refine eg_k_istore (lv' := [some (.inr (.inr (some 44))), some (.inl a), some (.inl a), some (.inl f), some (.inl a), some (.inl 0), some (.inl 0)]) rfl rfl ?_
  refine eg_k_iload rfl rfl ?_
  refine eg_k_ci rfl ?_
  refine eg_k_icmp rfl (fun z => absurd z (show ¬ ((1000000 : Int) ≤ 0) by decide)) (fun _ => ?_)
  refine eg_k_aload rfl rfl ?_
  refine eg_k_gfie (x := 0) rfl rfl rfl rfl ?_
  refine eg_k_if rfl (fun z => absurd z (show ¬ (¬ (0 : Int) = 0) by decide)) (fun _ => ?_)
  refine eg_k_aload rfl rfl ?_
  refine eg_k_gfr rfl rfl rfl eh_r44_3 ?_
  refine eg_k_gfie (x := 0) rfl rfl rfl rfl ?_
  refine eg_k_if rfl (fun _ => ?_) (fun z => absurd (show (0 : Int) ≤ 0 by decide) z)
  refine eg_k_aload rfl rfl ?_
  refine eg_k_gfr rfl rfl rfl eh_r44_3 ?_
  refine eg_k_gfie (x := 0) rfl rfl rfl rfl ?_
  refine eg_k_if rfl (fun _ => ?_) (fun z => absurd (show (0 : Int) ≤ 0 by decide) z)
  refine eg_k_iload rfl rfl ?_
  refine eg_k_if rfl (fun _ => ?_) (fun z => absurd (show (0 : Int) = 0 by decide) z)
  refine eg_k_iload rfl rfl ?_
  refine eg_k_iload rfl rfl ?_
  refine eg_k_icmp rfl (fun _ => ?_) (fun z => absurd (Int.le_refl _) z)
  exact eg_k_ret rfl rfl (Nat.le_refl _) (Nat.le_refl _) hQ
/-! run on an empty text -/
def eh_z29 (M : Nat → Nat → Int) (f : Int) : Nat → Nat → Int := eg_u (eh_z70 (eg_u (eg_fil (eg_u (eg_u (eg_u (eh_z30 (eg_u M 0 9 f)) 7 2 0) 0 8 (-1)) 12 3 (M 1 6)) 13 0 2000 0) 0 8 (-1)) f) 0 9 f
def eh_z157a (M : Nat → Nat → Int) (f : Int) : Nat → Nat → Int := eh_z158 (eg_u (eg_u (eg_u M 45 1 0) 45 2 (-1)) 45 67 f)
def eh_z157 (M : Nat → Nat → Int) (f : Int) : Nat → Nat → Int := eg_u (eg_u (eg_u (eg_u (eg_u (eg_u (eg_u (eh_z157a M f) 45 17 (eh_z157a M f 45 16)) 45 53 0) 45 51 0) 45 59 0) 45 68 0) 45 62 (-1)) 45 63 (-1)
set_option maxRecDepth 100000 in
theorem eh_29z {cn mo : Nat} {sc : eg_Sc} {d : Nat} {M : Nat → Nat → Int} {Q : Option eg_V → eg_H → Prop} {n f : Int} (h2 : M 7 2 = 0) (hQr : ¬ (n = 0 ∧ 0 ≤ f ∧ f ≤ 20000) → Q (some (.inl (-1))) (em_L cn mo, eh_R, M)) (hQ0 : (n = 0 ∧ 0 ≤ f ∧ f ≤ 20000) → Q (some (.inl 0)) (em_L cn mo, eh_R, eh_z29 M f)) : eg_wp sc (d + 5) 29 [.inr (.inr (some 0)), .inl n, .inl f] (em_L cn mo, eh_R, M) 0 0 Q := by
  refine eg_in (lv := [some (.inr (.inr (some 0))), some (.inl n), some (.inl f), none]) eg_tj29 (Nat.le_of_ble_eq_true rfl) rfl ?_
  refine eg_k_iload rfl rfl ?_
  refine eg_k_if rfl (fun z => ?_) (fun z => ?_)
  · have z2 : n < 0 := z
    refine eg_k_ci rfl ?_
    exact eg_k_iret rfl True.intro (Nat.le_refl _) (Nat.le_refl _) (hQr (by omega))
  · have y1 : ¬ n < 0 := z
    refine eg_k_iload rfl rfl ?_
    refine eg_k_aload rfl rfl ?_
    refine eg_k_gfr rfl rfl rfl eh_r0_1 ?_
    refine eg_k_gfie (x := 0) rfl rfl rfl h2 ?_
    refine eg_k_icmp rfl (fun z => ?_) (fun z => ?_)
    · have z2 : 0 < n := z
      refine eg_k_ci rfl ?_
      exact eg_k_iret rfl True.intro (Nat.le_refl _) (Nat.le_refl _) (hQr (by omega))
    · have y2 : ¬ 0 < n := z
      refine eg_k_iload rfl rfl ?_
      refine eg_k_if rfl (fun z => ?_) (fun z => ?_)
      · have z2 : f < 0 := z
        refine eg_k_ci rfl ?_
        exact eg_k_iret rfl True.intro (Nat.le_refl _) (Nat.le_refl _) (hQr (by omega))
      · have y3 : ¬ f < 0 := z
        refine eg_k_iload rfl rfl ?_
        refine eg_k_ci rfl ?_
        refine eg_k_icmp rfl (fun z => ?_) (fun z => ?_)
        · have y4 : f ≤ 20000 := z
          have n0 : n = 0 := by omega
          subst n0
          refine eg_k_aload rfl rfl ?_
          refine eg_k_iload rfl rfl ?_
          refine eg_k_pfi rfl rfl rfl ?_
          refine eg_k_aload rfl rfl ?_
          refine eg_k_gfr rfl rfl rfl eh_r0_0 ?_
          refine eg_k_gfie (x := M 1 6) rfl rfl rfl rfl ?_
          refine eg_k_istore (lv' := [some (.inr (.inr (some 0))), some (.inl 0), some (.inl f), some (.inl (M 1 6))]) rfl rfl ?_
          refine eg_k_aload rfl rfl ?_
          refine eg_k_gfr rfl rfl rfl eh_r0_1 ?_
          refine eg_k_iload rfl rfl ?_
          refine eg_k_call (c1 := 0) (z1 := 0) (as := [.inr (.inr (some 7)), .inl 0]) (rest := []) rfl eg_tj30 (Nat.le_of_ble_eq_true rfl) rfl rfl rfl (Nat.le_of_ble_eq_true rfl) (Nat.le_refl _) (Nat.le_refl _) ?_ (fun Q hQ => eh_30z h2 hQ)
          refine eg_k_aload rfl rfl ?_
          refine eg_k_gfr rfl rfl rfl eh_r0_1 ?_
          refine eg_k_ci rfl ?_
          refine eg_k_pfi rfl rfl rfl ?_
          refine eg_k_aload rfl rfl ?_
          refine eg_k_aload rfl rfl ?_
          refine eg_k_gfr rfl rfl rfl eh_r0_1 ?_
          refine eg_k_gfie (x := (-1)) rfl rfl rfl rfl ?_
          refine eg_k_pfi rfl rfl rfl ?_
          refine eg_k_aload rfl rfl ?_
          refine eg_k_gfr rfl rfl rfl eh_r0_1 ?_
          refine eg_k_gfie (x := 0) rfl rfl rfl rfl ?_
          refine eg_k_if rfl (fun z => absurd z (show ¬ (¬ (0 : Int) = 0) by decide)) (fun _ => ?_)
          refine eg_k_aload rfl rfl ?_
          refine eg_k_aload rfl rfl ?_
          refine eg_k_gfr rfl rfl rfl eh_r0_2 ?_
          refine eg_k_iload rfl rfl ?_
          refine eg_k_aload rfl rfl ?_
          refine eg_k_gfr rfl rfl rfl eh_r0_1 ?_
          refine eg_k_gfa rfl rfl rfl eh_r7_3 ?_
          refine eg_k_call (c1 := 0) (z1 := 0) (as := [.inr (.inr (some 12)), .inl (M 1 6), .inr (.inr (some 9))]) (rest := [.inr (.inr (some 0))]) rfl eg_tj54 (Nat.le_of_ble_eq_true rfl) rfl rfl rfl (Nat.le_of_ble_eq_true rfl) (Nat.le_refl _) (Nat.le_refl _) ?_ (fun Q hQ => eh_54z rfl hQ)
          refine eg_k_pfi rfl rfl rfl ?_
          refine eg_k_aload rfl rfl ?_
          refine eg_k_gfie (x := (-1)) rfl rfl rfl rfl ?_
          refine eg_k_ci rfl ?_
          refine eg_k_icmp rfl (fun _ => ?_) (fun z => absurd (show (-1 : Int) = -1 by decide) z)
          refine eg_k_aload rfl rfl ?_
          refine eg_k_gfr rfl rfl rfl eh_r0_7 ?_
          refine eg_k_iload rfl rfl ?_
          refine eg_k_aload rfl rfl ?_
          refine eg_k_gfr rfl rfl rfl eh_r0_0 ?_
          refine eg_k_gfie (x := M 1 6) rfl rfl rfl rfl ?_
          refine eg_k_iload rfl rfl ?_
          refine eg_k_call (c1 := 0) (z1 := 0) (as := [.inr (.inr (some 44)), .inl (M 1 6), .inl (M 1 6), .inl f]) (rest := []) rfl eg_tj69 (Nat.le_of_ble_eq_true rfl) rfl rfl rfl (Nat.le_of_ble_eq_true rfl) (Nat.le_refl _) (Nat.le_refl _) ?_ (fun Q hQ => eh_69z hQ)
          refine eg_k_aload rfl rfl ?_
          refine eg_k_aload rfl rfl ?_
          refine eg_k_gfr rfl rfl rfl eh_r0_7 ?_
          refine eg_k_gfie (x := f) rfl rfl rfl rfl ?_
          refine eg_k_pfi rfl rfl rfl ?_
          refine eg_k_aload rfl rfl ?_
          refine eg_k_gfr rfl rfl rfl eh_r0_7 ?_
          refine eg_k_gfie (x := 0) rfl rfl rfl rfl ?_
          exact eg_k_iret rfl True.intro (Nat.le_refl _) (Nat.le_refl _) (hQ0 (by omega))
        · have z2 : ¬ f ≤ 20000 := z
          refine eg_k_ci rfl ?_
          exact eg_k_iret rfl True.intro (Nat.le_refl _) (Nat.le_refl _) (hQr (by omega))
set_option maxRecDepth 100000 in
theorem eh_157z {cn mo : Nat} {sc : eg_Sc} {d : Nat} {M : Nat → Nat → Int} {Q : Option eg_V → eg_H → Prop} {n f : Int} (h2 : M 45 1 = 0) (hQr : ¬ (n = 0 ∧ 0 ≤ f ∧ f ≤ 20000) → Q (some (.inl (-1))) (em_L cn mo, eh_R, M)) (hQ0 : (n = 0 ∧ 0 ≤ f ∧ f ≤ 20000) → Q (some (.inl 0)) (em_L cn mo, eh_R, eh_z157 M f)) : eg_wp sc (d + 5) 157 [.inr (.inr (some 45)), .inl n, .inl f] (em_L cn mo, eh_R, M) 0 0 Q := by
  refine eg_in (lv := [some (.inr (.inr (some 45))), some (.inl n), some (.inl f), none]) eg_tj157 (Nat.le_of_ble_eq_true rfl) rfl ?_
  refine eg_k_iload rfl rfl ?_
  refine eg_k_if rfl (fun z => ?_) (fun z => ?_)
  · have z2 : n < 0 := z
    refine eg_k_ci rfl ?_
    exact eg_k_iret rfl True.intro (Nat.le_refl _) (Nat.le_refl _) (hQr (by omega))
  · have y1 : ¬ n < 0 := z
    refine eg_k_iload rfl rfl ?_
    refine eg_k_aload rfl rfl ?_
    refine eg_k_gfie (x := 0) rfl rfl rfl h2 ?_
    refine eg_k_icmp rfl (fun z => ?_) (fun z => ?_)
    · have z2 : 0 < n := z
      refine eg_k_ci rfl ?_
      exact eg_k_iret rfl True.intro (Nat.le_refl _) (Nat.le_refl _) (hQr (by omega))
    · have y2 : ¬ 0 < n := z
      refine eg_k_iload rfl rfl ?_
      refine eg_k_if rfl (fun z => ?_) (fun z => ?_)
      · have z2 : f < 0 := z
        refine eg_k_ci rfl ?_
        exact eg_k_iret rfl True.intro (Nat.le_refl _) (Nat.le_refl _) (hQr (by omega))
      · have y3 : ¬ f < 0 := z
        refine eg_k_iload rfl rfl ?_
        refine eg_k_ci rfl ?_
        refine eg_k_icmp rfl (fun z => ?_) (fun z => ?_)
        · have y4 : f ≤ 20000 := z
          have n0 : n = 0 := by omega
          subst n0
          refine eg_k_aload rfl rfl ?_
          refine eg_k_ci rfl ?_
          refine eg_k_pfi rfl rfl rfl ?_
          refine eg_k_aload rfl rfl ?_
          refine eg_k_ci rfl ?_
          refine eg_k_pfi rfl rfl rfl ?_
          refine eg_k_aload rfl rfl ?_
          refine eg_k_iload rfl rfl ?_
          refine eg_k_pfi rfl rfl rfl ?_
          refine eg_k_aload rfl rfl ?_
          refine eg_k_iload rfl rfl ?_
          refine eg_k_call (c1 := 0) (z1 := 0) (as := [.inr (.inr (some 45)), .inl 0]) (rest := []) rfl eg_tj158 (Nat.le_of_ble_eq_true rfl) rfl rfl rfl (Nat.le_of_ble_eq_true rfl) (Nat.le_refl _) (Nat.le_refl _) ?_ (fun Q hQ => eh_158z hQ)
          refine eg_k_istore (lv' := [some (.inr (.inr (some 45))), some (.inl 0), some (.inl f), some (.inl 0)]) rfl rfl ?_
          refine eg_k_iload rfl rfl ?_
          refine eg_k_if rfl (fun z => absurd z (show ¬ (¬ (0 : Int) = 0) by decide)) (fun _ => ?_)
          refine eg_k_aload rfl rfl ?_
          refine eg_k_call (c1 := 0) (z1 := 0) (as := [.inr (.inr (some 45))]) (rest := []) rfl eg_tj170 (Nat.le_of_ble_eq_true rfl) rfl rfl rfl (Nat.le_of_ble_eq_true rfl) (Nat.le_refl _) (Nat.le_refl _) ?_ (fun Q hQ => eh_170z rfl hQ)
          refine eg_k_istore (lv' := [some (.inr (.inr (some 45))), some (.inl 0), some (.inl f), some (.inl 0)]) rfl rfl ?_
          refine eg_k_iload rfl rfl ?_
          refine eg_k_if rfl (fun _ => ?_) (fun z => absurd (show (0 : Int) ≤ 0 by decide) z)
          refine eg_k_aload rfl rfl ?_
          refine eg_k_aload rfl rfl ?_
          refine eg_k_gfi rfl rfl rfl ?_
          refine eg_k_pfi rfl rfl rfl ?_
          refine eg_k_aload rfl rfl ?_
          refine eg_k_call (c1 := 0) (z1 := 0) (as := [.inr (.inr (some 45))]) (rest := []) rfl eg_tj183 (Nat.le_of_ble_eq_true rfl) rfl rfl rfl (Nat.le_of_ble_eq_true rfl) (Nat.le_refl _) (Nat.le_refl _) ?_ (fun Q hQ => eh_183z rfl hQ)
          refine eg_k_istore (lv' := [some (.inr (.inr (some 45))), some (.inl 0), some (.inl f), some (.inl 0)]) rfl rfl ?_
          refine eg_k_aload rfl rfl ?_
          refine eg_k_ci rfl ?_
          refine eg_k_pfi rfl rfl rfl ?_
          refine eg_k_aload rfl rfl ?_
          refine eg_k_ci rfl ?_
          refine eg_k_pfi rfl rfl rfl ?_
          refine eg_k_aload rfl rfl ?_
          refine eg_k_ci rfl ?_
          refine eg_k_pfi rfl rfl rfl ?_
          refine eg_k_aload rfl rfl ?_
          refine eg_k_ci rfl ?_
          refine eg_k_pfi rfl rfl rfl ?_
          refine eg_k_aload rfl rfl ?_
          refine eg_k_cl rfl ?_
          refine eg_k_pfl rfl rfl rfl ?_
          refine eg_k_aload rfl rfl ?_
          refine eg_k_cl rfl ?_
          refine eg_k_pfl rfl rfl rfl ?_
          refine eg_k_iload rfl rfl ?_
          exact eg_k_iret rfl True.intro (Nat.le_refl _) (Nat.le_refl _) (hQ0 (by omega))
        · have z2 : ¬ f ≤ 20000 := z
          refine eg_k_ci rfl ?_
          exact eg_k_iret rfl True.intro (Nat.le_refl _) (Nat.le_refl _) (hQr (by omega))
