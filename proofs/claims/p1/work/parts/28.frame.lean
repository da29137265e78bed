/-! THE FRAME OF ALL LATER CALLS: shapes and references stay -/
def eh_R : Nat → Nat → Option Nat := em_R (eg_z (ec_R (eg_z (fun _ _ => none) 0 none)) 45 none)
theorem eh_r0_0 : eh_R 0 0 = some 1 := by decide +kernel
theorem eh_r0_1 : eh_R 0 1 = some 7 := by decide +kernel
theorem eh_r0_2 : eh_R 0 2 = some 12 := by decide +kernel
theorem eh_r0_3 : eh_R 0 3 = some 15 := by decide +kernel
theorem eh_r0_4 : eh_R 0 4 = some 21 := by decide +kernel
theorem eh_r0_5 : eh_R 0 5 = some 26 := by decide +kernel
theorem eh_r0_6 : eh_R 0 6 = some 38 := by decide +kernel
theorem eh_r0_7 : eh_R 0 7 = some 44 := by decide +kernel
theorem eh_r1_0 : eh_R 1 0 = some 2 := by decide +kernel
theorem eh_r1_1 : eh_R 1 1 = some 3 := by decide +kernel
theorem eh_r1_3 : eh_R 1 3 = some 4 := by decide +kernel
theorem eh_r1_4 : eh_R 1 4 = some 5 := by decide +kernel
theorem eh_r1_5 : eh_R 1 5 = some 6 := by decide +kernel
theorem eh_r7_0 : eh_R 7 0 = some 1 := by decide +kernel
theorem eh_r7_1 : eh_R 7 1 = some 8 := by decide +kernel
theorem eh_r7_3 : eh_R 7 3 = some 9 := by decide +kernel
theorem eh_r7_10 : eh_R 7 10 = some 10 := by decide +kernel
theorem eh_r7_11 : eh_R 7 11 = some 11 := by decide +kernel
theorem eh_r12_0 : eh_R 12 0 = some 1 := by decide +kernel
theorem eh_r12_1 : eh_R 12 1 = some 13 := by decide +kernel
theorem eh_r12_2 : eh_R 12 2 = some 14 := by decide +kernel
theorem eh_r15_1 : eh_R 15 1 = some 16 := by decide +kernel
theorem eh_r15_2 : eh_R 15 2 = some 17 := by decide +kernel
theorem eh_r15_3 : eh_R 15 3 = some 18 := by decide +kernel
theorem eh_r15_4 : eh_R 15 4 = some 19 := by decide +kernel
theorem eh_r15_5 : eh_R 15 5 = some 20 := by decide +kernel
theorem eh_r21_0 : eh_R 21 0 = some 22 := by decide +kernel
theorem eh_r21_1 : eh_R 21 1 = some 23 := by decide +kernel
theorem eh_r21_3 : eh_R 21 3 = some 24 := by decide +kernel
theorem eh_r21_4 : eh_R 21 4 = some 25 := by decide +kernel
theorem eh_r26_0 : eh_R 26 0 = some 1 := by decide +kernel
theorem eh_r26_1 : eh_R 26 1 = some 15 := by decide +kernel
theorem eh_r26_2 : eh_R 26 2 = some 27 := by decide +kernel
theorem eh_r26_7 : eh_R 26 7 = some 28 := by decide +kernel
theorem eh_r29_1 : eh_R 29 1 = some 30 := by decide +kernel
theorem eh_r29_2 : eh_R 29 2 = some 31 := by decide +kernel
theorem eh_r29_3 : eh_R 29 3 = some 32 := by decide +kernel
theorem eh_r29_4 : eh_R 29 4 = some 33 := by decide +kernel
theorem eh_r29_5 : eh_R 29 5 = some 34 := by decide +kernel
theorem eh_r29_6 : eh_R 29 6 = some 35 := by decide +kernel
theorem eh_r29_7 : eh_R 29 7 = some 36 := by decide +kernel
theorem eh_r38_0 : eh_R 38 0 = some 1 := by decide +kernel
theorem eh_r38_1 : eh_R 38 1 = some 15 := by decide +kernel
theorem eh_r38_2 : eh_R 38 2 = some 21 := by decide +kernel
theorem eh_r38_3 : eh_R 38 3 = some 29 := by decide +kernel
theorem eh_r38_4 : eh_R 38 4 = some 37 := by decide +kernel
theorem eh_r38_6 : eh_R 38 6 = some 39 := by decide +kernel
theorem eh_r38_7 : eh_R 38 7 = some 40 := by decide +kernel
theorem eh_r38_9 : eh_R 38 9 = some 41 := by decide +kernel
theorem eh_r38_10 : eh_R 38 10 = some 42 := by decide +kernel
theorem eh_r43_0 : eh_R 43 0 = some 1 := by decide +kernel
theorem eh_r43_1 : eh_R 43 1 = some 15 := by decide +kernel
theorem eh_r43_2 : eh_R 43 2 = some 21 := by decide +kernel
theorem eh_r43_3 : eh_R 43 3 = some 26 := by decide +kernel
theorem eh_r44_0 : eh_R 44 0 = some 1 := by decide +kernel
theorem eh_r44_1 : eh_R 44 1 = some 15 := by decide +kernel
theorem eh_r44_2 : eh_R 44 2 = some 21 := by decide +kernel
theorem eh_r44_3 : eh_R 44 3 = some 29 := by decide +kernel
theorem eh_r44_4 : eh_R 44 4 = some 37 := by decide +kernel
theorem eh_r44_5 : eh_R 44 5 = some 43 := by decide +kernel
theorem eh_r44_6 : eh_R 44 6 = some 38 := by decide +kernel
theorem eh_r45_0 : eh_R 45 0 = some 46 := by decide +kernel
theorem eh_r45_5 : eh_R 45 5 = some 47 := by decide +kernel
theorem eh_r45_6 : eh_R 45 6 = some 48 := by decide +kernel
theorem eh_r45_8 : eh_R 45 8 = some 49 := by decide +kernel
theorem eh_r45_9 : eh_R 45 9 = some 50 := by decide +kernel
theorem eh_r45_10 : eh_R 45 10 = some 51 := by decide +kernel
theorem eh_r45_11 : eh_R 45 11 = some 52 := by decide +kernel
theorem eh_r45_12 : eh_R 45 12 = some 53 := by decide +kernel
theorem eh_r45_13 : eh_R 45 13 = some 54 := by decide +kernel
theorem eh_r45_14 : eh_R 45 14 = some 55 := by decide +kernel
theorem eh_r45_15 : eh_R 45 15 = some 56 := by decide +kernel
theorem eh_r45_19 : eh_R 45 19 = some 57 := by decide +kernel
theorem eh_r45_20 : eh_R 45 20 = some 58 := by decide +kernel
theorem eh_r45_24 : eh_R 45 24 = some 59 := by decide +kernel
theorem eh_r45_25 : eh_R 45 25 = some 60 := by decide +kernel
theorem eh_r45_26 : eh_R 45 26 = some 61 := by decide +kernel
theorem eh_r45_30 : eh_R 45 30 = some 62 := by decide +kernel
theorem eh_r45_31 : eh_R 45 31 = some 63 := by decide +kernel
theorem eh_r45_32 : eh_R 45 32 = some 64 := by decide +kernel
theorem eh_r45_33 : eh_R 45 33 = some 65 := by decide +kernel
theorem eh_r45_34 : eh_R 45 34 = some 66 := by decide +kernel
theorem eh_r45_35 : eh_R 45 35 = some 67 := by decide +kernel
theorem eh_r45_36 : eh_R 45 36 = some 68 := by decide +kernel
theorem eh_r45_37 : eh_R 45 37 = some 69 := by decide +kernel
theorem eh_r45_39 : eh_R 45 39 = some 70 := by decide +kernel
theorem eh_r45_40 : eh_R 45 40 = some 71 := by decide +kernel
theorem eh_r45_44 : eh_R 45 44 = some 72 := by decide +kernel
theorem eh_r45_46 : eh_R 45 46 = some 73 := by decide +kernel
theorem eh_r45_47 : eh_R 45 47 = some 74 := by decide +kernel
theorem eh_r45_49 : eh_R 45 49 = some 75 := by decide +kernel
theorem eh_r45_50 : eh_R 45 50 = some 76 := by decide +kernel
theorem eh_r45_52 : eh_R 45 52 = some 77 := by decide +kernel
theorem eh_r45_54 : eh_R 45 54 = some 78 := by decide +kernel
theorem eh_r45_55 : eh_R 45 55 = some 79 := by decide +kernel
theorem eh_r45_56 : eh_R 45 56 = some 80 := by decide +kernel
theorem eh_r45_57 : eh_R 45 57 = some 81 := by decide +kernel
theorem eh_r45_58 : eh_R 45 58 = some 82 := by decide +kernel
theorem eh_r45_60 : eh_R 45 60 = some 83 := by decide +kernel
theorem eh_r45_61 : eh_R 45 61 = some 84 := by decide +kernel
theorem eh_r45_65 : eh_R 45 65 = some 85 := by decide +kernel
theorem eh_r45_71 : eh_R 45 71 = some 86 := by decide +kernel
theorem eh_r45_75 : eh_R 45 75 = some 87 := by decide +kernel
theorem eg_k_tsw {sc : eg_Sc} {call : Nat → List eg_V → eg_H → Nat → Nat → (Option eg_V → eg_H → Prop) → Prop} {cd : List (Nat × Instr)} {ret : Option FieldType} {mc ms : Nat} {Qr : Option eg_V → eg_H → Prop} {i pc t : Nat} {lv : eg_L} {st : List eg_V} {h : eg_H} {c z : Nat} {x : Int} {d9 lo hi : Int} {ts : Array Int} (hq : cd[i]? = some (pc, .tableswitch d9 lo hi ts)) (ht : eg_tb d9 lo hi ts x = t) (hk : eg_X sc call cd ret mc ms Qr t lv st h c z) : eg_X sc call cd ret mc ms Qr i lv (.inl x :: st) h c z := by
  subst ht
  exact hk.elim fun n hn => eg_st1 hq ⟨n, hn⟩
set_option maxRecDepth 100000 in
theorem eh_148 {cn mo : Nat} {sc : eg_Sc} {d : Nat} {M : Nat → Nat → Int} {Q : Option eg_V → eg_H → Prop} (hQ : Q (some (.inl (M 0 8))) (em_L cn mo, eh_R, M)) : eg_wp sc (d + 1) 148 [.inr (.inr (some 0))] (em_L cn mo, eh_R, M) 0 0 Q := by
  refine eg_in (lv := [some (.inr (.inr (some 0)))]) eg_tj148 (Nat.le_of_ble_eq_true rfl) rfl ?_
  refine eg_k_aload rfl rfl ?_
  refine eg_k_gfi rfl rfl rfl ?_
  exact eg_k_iret rfl True.intro (Nat.le_refl _) (Nat.le_refl _) hQ
set_option maxRecDepth 100000 in
theorem eh_247 {cn mo : Nat} {sc : eg_Sc} {d : Nat} {M : Nat → Nat → Int} {Q : Option eg_V → eg_H → Prop} (hQ : Q (some (.inl (M 45 2))) (em_L cn mo, eh_R, M)) : eg_wp sc (d + 1) 247 [.inr (.inr (some 45))] (em_L cn mo, eh_R, M) 0 0 Q := by
  refine eg_in (lv := [some (.inr (.inr (some 45)))]) eg_tj247 (Nat.le_of_ble_eq_true rfl) rfl ?_
  refine eg_k_aload rfl rfl ?_
  refine eg_k_gfi rfl rfl rfl ?_
  exact eg_k_iret rfl True.intro (Nat.le_refl _) (Nat.le_refl _) hQ
def eh_151_v (M : Nat → Nat → Int) (x : Int) : Int := if x = 0 then M 15 6 else if x = 1 then M 15 7 else if x = 2 then M 38 5 else if x = 3 then M 21 6 else if x = 4 then M 21 2 else if x = 5 then M 7 2 else if x = 6 then M 26 4 else if x = 7 then M 0 9 else if x = 8 then M 15 10 else ((-1))
set_option maxRecDepth 100000 in
theorem eh_151 {cn mo : Nat} {sc : eg_Sc} {d : Nat} {M : Nat → Nat → Int} {Q : Option eg_V → eg_H → Prop} {x : Int} (hQ : Q (some (.inl (eh_151_v M x))) (em_L cn mo, eh_R, M)) : eg_wp sc (d + 1) 151 [.inr (.inr (some 0)), .inl x] (em_L cn mo, eh_R, M) 0 0 Q := by
  refine eg_in (lv := [some (.inr (.inr (some 0))), some (.inl (x))]) eg_tj151 (Nat.le_of_ble_eq_true rfl) rfl ?_
  refine eg_k_iload rfl rfl ?_
  unfold eh_151_v at hQ
  by_cases h0 : x = 0
  · subst h0
    rw [if_pos rfl] at hQ
    refine eg_k_tsw (t := 2) rfl (by decide +kernel) ?_
    refine eg_k_aload rfl rfl ?_
    refine eg_k_gfr (b := 15) rfl rfl rfl eh_r0_3 ?_
    refine eg_k_gfi rfl rfl rfl ?_
    exact eg_k_iret rfl True.intro (Nat.le_refl _) (Nat.le_refl _) hQ
  by_cases h1 : x = 1
  · subst h1
    rw [if_neg (by decide)] at hQ
    rw [if_pos rfl] at hQ
    refine eg_k_tsw (t := 6) rfl (by decide +kernel) ?_
    refine eg_k_aload rfl rfl ?_
    refine eg_k_gfr (b := 15) rfl rfl rfl eh_r0_3 ?_
    refine eg_k_gfi rfl rfl rfl ?_
    exact eg_k_iret rfl True.intro (Nat.le_refl _) (Nat.le_refl _) hQ
  by_cases h2 : x = 2
  · subst h2
    rw [if_neg (by decide)] at hQ
    rw [if_neg (by decide)] at hQ
    rw [if_pos rfl] at hQ
    refine eg_k_tsw (t := 10) rfl (by decide +kernel) ?_
    refine eg_k_aload rfl rfl ?_
    refine eg_k_gfr (b := 38) rfl rfl rfl eh_r0_6 ?_
    refine eg_k_gfi rfl rfl rfl ?_
    exact eg_k_iret rfl True.intro (Nat.le_refl _) (Nat.le_refl _) hQ
  by_cases h3 : x = 3
  · subst h3
    rw [if_neg (by decide)] at hQ
    rw [if_neg (by decide)] at hQ
    rw [if_neg (by decide)] at hQ
    rw [if_pos rfl] at hQ
    refine eg_k_tsw (t := 14) rfl (by decide +kernel) ?_
    refine eg_k_aload rfl rfl ?_
    refine eg_k_gfr (b := 21) rfl rfl rfl eh_r0_4 ?_
    refine eg_k_gfi rfl rfl rfl ?_
    exact eg_k_iret rfl True.intro (Nat.le_refl _) (Nat.le_refl _) hQ
  by_cases h4 : x = 4
  · subst h4
    rw [if_neg (by decide)] at hQ
    rw [if_neg (by decide)] at hQ
    rw [if_neg (by decide)] at hQ
    rw [if_neg (by decide)] at hQ
    rw [if_pos rfl] at hQ
    refine eg_k_tsw (t := 18) rfl (by decide +kernel) ?_
    refine eg_k_aload rfl rfl ?_
    refine eg_k_gfr (b := 21) rfl rfl rfl eh_r0_4 ?_
    refine eg_k_gfi rfl rfl rfl ?_
    exact eg_k_iret rfl True.intro (Nat.le_refl _) (Nat.le_refl _) hQ
  by_cases h5 : x = 5
  · subst h5
    rw [if_neg (by decide)] at hQ
    rw [if_neg (by decide)] at hQ
    rw [if_neg (by decide)] at hQ
    rw [if_neg (by decide)] at hQ
    rw [if_neg (by decide)] at hQ
    rw [if_pos rfl] at hQ
    refine eg_k_tsw (t := 22) rfl (by decide +kernel) ?_
    refine eg_k_aload rfl rfl ?_
    refine eg_k_gfr (b := 7) rfl rfl rfl eh_r0_1 ?_
    refine eg_k_gfi rfl rfl rfl ?_
    exact eg_k_iret rfl True.intro (Nat.le_refl _) (Nat.le_refl _) hQ
  by_cases h6 : x = 6
  · subst h6
    rw [if_neg (by decide)] at hQ
    rw [if_neg (by decide)] at hQ
    rw [if_neg (by decide)] at hQ
    rw [if_neg (by decide)] at hQ
    rw [if_neg (by decide)] at hQ
    rw [if_neg (by decide)] at hQ
    rw [if_pos rfl] at hQ
    refine eg_k_tsw (t := 26) rfl (by decide +kernel) ?_
    refine eg_k_aload rfl rfl ?_
    refine eg_k_gfr (b := 26) rfl rfl rfl eh_r0_5 ?_
    refine eg_k_gfi rfl rfl rfl ?_
    exact eg_k_iret rfl True.intro (Nat.le_refl _) (Nat.le_refl _) hQ
  by_cases h7 : x = 7
  · subst h7
    rw [if_neg (by decide)] at hQ
    rw [if_neg (by decide)] at hQ
    rw [if_neg (by decide)] at hQ
    rw [if_neg (by decide)] at hQ
    rw [if_neg (by decide)] at hQ
    rw [if_neg (by decide)] at hQ
    rw [if_neg (by decide)] at hQ
    rw [if_pos rfl] at hQ
    refine eg_k_tsw (t := 30) rfl (by decide +kernel) ?_
    refine eg_k_aload rfl rfl ?_
    refine eg_k_gfi rfl rfl rfl ?_
    exact eg_k_iret rfl True.intro (Nat.le_refl _) (Nat.le_refl _) hQ
  by_cases h8 : x = 8
  · subst h8
    rw [if_neg (by decide)] at hQ
    rw [if_neg (by decide)] at hQ
    rw [if_neg (by decide)] at hQ
    rw [if_neg (by decide)] at hQ
    rw [if_neg (by decide)] at hQ
    rw [if_neg (by decide)] at hQ
    rw [if_neg (by decide)] at hQ
    rw [if_neg (by decide)] at hQ
    rw [if_pos rfl] at hQ
    refine eg_k_tsw (t := 33) rfl (by decide +kernel) ?_
    refine eg_k_aload rfl rfl ?_
    refine eg_k_gfr (b := 15) rfl rfl rfl eh_r0_3 ?_
    refine eg_k_gfi rfl rfl rfl ?_
    exact eg_k_iret rfl True.intro (Nat.le_refl _) (Nat.le_refl _) hQ
  · rw [if_neg h0, if_neg h1, if_neg h2, if_neg h3, if_neg h4, if_neg h5, if_neg h6, if_neg h7, if_neg h8] at hQ
    refine eg_k_tsw (t := 37) rfl ?_ ?_
    · unfold eg_tb
      rw [if_pos (by omega)]; rfl
    refine eg_k_ci rfl ?_
    exact eg_k_iret rfl True.intro (Nat.le_refl _) (Nat.le_refl _) hQ
def eh_249_v (M : Nat → Nat → Int) (x : Int) : Int := if x = 0 then M 45 28 else if x = 1 then M 45 29 else if x = 2 then M 45 43 else if x = 3 then M 45 48 else if x = 4 then M 45 45 else if x = 5 then M 45 1 else if x = 6 then M 45 72 else if x = 7 then M 45 67 else if x = 8 then M 45 42 else ((-1))
set_option maxRecDepth 100000 in
theorem eh_249 {cn mo : Nat} {sc : eg_Sc} {d : Nat} {M : Nat → Nat → Int} {Q : Option eg_V → eg_H → Prop} {x : Int} (hQ : Q (some (.inl (eh_249_v M x))) (em_L cn mo, eh_R, M)) : eg_wp sc (d + 1) 249 [.inr (.inr (some 45)), .inl x] (em_L cn mo, eh_R, M) 0 0 Q := by
  refine eg_in (lv := [some (.inr (.inr (some 45))), some (.inl (x))]) eg_tj249 (Nat.le_of_ble_eq_true rfl) rfl ?_
  refine eg_k_iload rfl rfl ?_
  unfold eh_249_v at hQ
  by_cases h0 : x = 0
  · subst h0
    rw [if_pos rfl] at hQ
    refine eg_k_tsw (t := 2) rfl (by decide +kernel) ?_
    refine eg_k_aload rfl rfl ?_
    refine eg_k_gfi rfl rfl rfl ?_
    exact eg_k_iret rfl True.intro (Nat.le_refl _) (Nat.le_refl _) hQ
  by_cases h1 : x = 1
  · subst h1
    rw [if_neg (by decide)] at hQ
    rw [if_pos rfl] at hQ
    refine eg_k_tsw (t := 5) rfl (by decide +kernel) ?_
    refine eg_k_aload rfl rfl ?_
    refine eg_k_gfi rfl rfl rfl ?_
    exact eg_k_iret rfl True.intro (Nat.le_refl _) (Nat.le_refl _) hQ
  by_cases h2 : x = 2
  · subst h2
    rw [if_neg (by decide)] at hQ
    rw [if_neg (by decide)] at hQ
    rw [if_pos rfl] at hQ
    refine eg_k_tsw (t := 8) rfl (by decide +kernel) ?_
    refine eg_k_aload rfl rfl ?_
    refine eg_k_gfi rfl rfl rfl ?_
    exact eg_k_iret rfl True.intro (Nat.le_refl _) (Nat.le_refl _) hQ
  by_cases h3 : x = 3
  · subst h3
    rw [if_neg (by decide)] at hQ
    rw [if_neg (by decide)] at hQ
    rw [if_neg (by decide)] at hQ
    rw [if_pos rfl] at hQ
    refine eg_k_tsw (t := 11) rfl (by decide +kernel) ?_
    refine eg_k_aload rfl rfl ?_
    refine eg_k_gfi rfl rfl rfl ?_
    exact eg_k_iret rfl True.intro (Nat.le_refl _) (Nat.le_refl _) hQ
  by_cases h4 : x = 4
  · subst h4
    rw [if_neg (by decide)] at hQ
    rw [if_neg (by decide)] at hQ
    rw [if_neg (by decide)] at hQ
    rw [if_neg (by decide)] at hQ
    rw [if_pos rfl] at hQ
    refine eg_k_tsw (t := 14) rfl (by decide +kernel) ?_
    refine eg_k_aload rfl rfl ?_
    refine eg_k_gfi rfl rfl rfl ?_
    exact eg_k_iret rfl True.intro (Nat.le_refl _) (Nat.le_refl _) hQ
  by_cases h5 : x = 5
  · subst h5
    rw [if_neg (by decide)] at hQ
    rw [if_neg (by decide)] at hQ
    rw [if_neg (by decide)] at hQ
    rw [if_neg (by decide)] at hQ
    rw [if_neg (by decide)] at hQ
    rw [if_pos rfl] at hQ
    refine eg_k_tsw (t := 17) rfl (by decide +kernel) ?_
    refine eg_k_aload rfl rfl ?_
    refine eg_k_gfi rfl rfl rfl ?_
    exact eg_k_iret rfl True.intro (Nat.le_refl _) (Nat.le_refl _) hQ
  by_cases h6 : x = 6
  · subst h6
    rw [if_neg (by decide)] at hQ
    rw [if_neg (by decide)] at hQ
    rw [if_neg (by decide)] at hQ
    rw [if_neg (by decide)] at hQ
    rw [if_neg (by decide)] at hQ
    rw [if_neg (by decide)] at hQ
    rw [if_pos rfl] at hQ
    refine eg_k_tsw (t := 20) rfl (by decide +kernel) ?_
    refine eg_k_aload rfl rfl ?_
    refine eg_k_gfi rfl rfl rfl ?_
    exact eg_k_iret rfl True.intro (Nat.le_refl _) (Nat.le_refl _) hQ
  by_cases h7 : x = 7
  · subst h7
    rw [if_neg (by decide)] at hQ
    rw [if_neg (by decide)] at hQ
    rw [if_neg (by decide)] at hQ
    rw [if_neg (by decide)] at hQ
    rw [if_neg (by decide)] at hQ
    rw [if_neg (by decide)] at hQ
    rw [if_neg (by decide)] at hQ
    rw [if_pos rfl] at hQ
    refine eg_k_tsw (t := 23) rfl (by decide +kernel) ?_
    refine eg_k_aload rfl rfl ?_
    refine eg_k_gfi rfl rfl rfl ?_
    exact eg_k_iret rfl True.intro (Nat.le_refl _) (Nat.le_refl _) hQ
  by_cases h8 : x = 8
  · subst h8
    rw [if_neg (by decide)] at hQ
    rw [if_neg (by decide)] at hQ
    rw [if_neg (by decide)] at hQ
    rw [if_neg (by decide)] at hQ
    rw [if_neg (by decide)] at hQ
    rw [if_neg (by decide)] at hQ
    rw [if_neg (by decide)] at hQ
    rw [if_neg (by decide)] at hQ
    rw [if_pos rfl] at hQ
    refine eg_k_tsw (t := 26) rfl (by decide +kernel) ?_
    refine eg_k_aload rfl rfl ?_
    refine eg_k_gfi rfl rfl rfl ?_
    exact eg_k_iret rfl True.intro (Nat.le_refl _) (Nat.le_refl _) hQ
  · rw [if_neg h0, if_neg h1, if_neg h2, if_neg h3, if_neg h4, if_neg h5, if_neg h6, if_neg h7, if_neg h8] at hQ
    refine eg_k_tsw (t := 29) rfl ?_ ?_
    · unfold eg_tb
      rw [if_pos (by omega)]; rfl
    refine eg_k_ci rfl ?_
    exact eg_k_iret rfl True.intro (Nat.le_refl _) (Nat.le_refl _) hQ
/-! feed, the class -/
def eh_a1 (M : Nat → Nat → Int) (x s : Int) (n : Nat) : Nat → Nat → Int := eg_u (eg_u M 8 n (eg_wb (eg_wb (Int32.ofInt x >>> (Int32.ofInt s &&& 31)).toInt))) 7 2 (((n + 1 : Nat)) : Int)
def eh_ap (M : Nat → Nat → Int) (x : Int) (n : Nat) : Nat → Nat → Int := eh_a1 (eh_a1 (eh_a1 (eh_a1 M x 24 n) x 16 (n + 1)) x 8 (n + 2)) x 0 (n + 3)
theorem eh_a1_n {M : Nat → Nat → Int} {x s : Int} {n : Nat} : eh_a1 M x s n 7 2 = ((n + 1 : Nat) : Int) := by
  unfold eh_a1; rw [eg_u_at, if_pos rfl]
theorem eh_ap_n {M : Nat → Nat → Int} {x : Int} {n : Nat} : eh_ap M x n 7 2 = ((n + 4 : Nat) : Int) := eh_a1_n
set_option maxRecDepth 100000 in
theorem eh_28t {cn mo : Nat} {sc : eg_Sc} {d : Nat} {M : Nat → Nat → Int} {Q : Option eg_V → eg_H → Prop} {x s s' : Int} {n : Nat} (hn : M 7 2 = (n : Int)) (h : n < 3000) (hs : 0 ≤ s) (h8 : eg_wi (s + -8) = s') (hk : eg_X sc (eg_wp sc d) eg_p28 none 0 0 Q 2 [some (.inr (.inr (some 7))), some (.inl x), some (.inl s')] [] (em_L cn mo, eh_R, eh_a1 M x s n) 0 0) : eg_X sc (eg_wp sc d) eg_p28 none 0 0 Q 2 [some (.inr (.inr (some 7))), some (.inl x), some (.inl s)] [] (em_L cn mo, eh_R, M) 0 0 := by
  refine eg_k_iload rfl rfl ?_
  refine eg_k_if rfl (fun z => by have z2 : s < 0 := z; omega) (fun _ => ?_)
  refine eg_k_aload rfl rfl ?_
  refine eg_k_gfie (x := (n : Int)) rfl rfl rfl hn ?_
  refine eg_k_ci rfl ?_
  refine eg_k_icmp rfl (fun z => by have z2 : (3000 : Int) ≤ (n : Int) := z; omega) (fun _ => ?_)
  refine eg_k_aload rfl rfl ?_
  refine eg_k_gfa rfl rfl rfl eh_r7_1 ?_
  refine eg_k_aload rfl rfl ?_
  refine eg_k_gfie (x := (n : Int)) rfl rfl rfl hn ?_
  refine eg_k_iload rfl rfl ?_
  refine eg_k_iload rfl rfl ?_
  refine eg_k_ishr rfl ?_
  refine eg_k_i2b rfl ?_
  refine eg_k_bast (k := 3000) rfl rfl (by omega) (by omega) ?_
  rw [show ((n : Nat) : Int).toNat = n by omega]
  refine eg_k_aload rfl rfl ?_
  refine eg_k_dupr rfl ?_
  refine eg_k_gfie (x := (n : Int)) rfl rfl rfl (by show eg_u _ 8 _ _ 7 2 = _; rw [eg_u_ne (by decide)]; exact hn) ?_
  refine eg_k_ci rfl ?_
  refine eg_k_iadd rfl ?_
  rw [eg_wi_1 (by omega)]
  refine eg_k_pfi rfl rfl rfl ?_
  refine eg_k_iinc (lv' := [some (.inr (.inr (some 7))), some (.inl x), some (.inl s')]) rfl rfl (by rw [h8]; rfl) ?_
  refine eg_k_goto rfl ?_
  exact hk
set_option maxRecDepth 100000 in
/-- append -/
theorem eh_28 {cn mo : Nat} {sc : eg_Sc} {d : Nat} {M : Nat → Nat → Int} {Q : Option eg_V → eg_H → Prop} {x : Int} {n : Nat} (hn : M 7 2 = (n : Int)) (h : n + 4 ≤ 3000) (hQ : Q none (em_L cn mo, eh_R, eh_ap M x n)) : eg_wp sc (d + 1) 28 [.inr (.inr (some 7)), .inl x] (em_L cn mo, eh_R, M) 0 0 Q := by
  refine eg_in (lv := [some (.inr (.inr (some 7))), some (.inl x), none]) eg_tj28 (Nat.le_of_ble_eq_true rfl) rfl ?_
  refine eg_k_ci rfl ?_
  refine eg_k_istore (lv' := [some (.inr (.inr (some 7))), some (.inl x), some (.inl 24)]) rfl rfl ?_
  refine eh_28t (s' := 16) hn (by omega) (by decide) (by decide) ?_
  refine eh_28t (s' := 8) eh_a1_n (by omega) (by decide) (by decide) ?_
  refine eh_28t (s' := 0) eh_a1_n (by omega) (by decide) (by decide) ?_
  refine eh_28t (s' := -8) eh_a1_n (by omega) (by decide) (by decide) ?_
  refine eg_k_iload rfl rfl ?_
  refine eg_k_if rfl (fun _ => ?_) (fun z => absurd (show (-8 : Int) < 0 by decide) z)
  exact eg_k_ret rfl rfl (Nat.le_refl _) (Nat.le_refl _) hQ
set_option maxRecDepth 100000 in
theorem eh_27 {cn mo : Nat} {sc : eg_Sc} {d : Nat} {M : Nat → Nat → Int} {Q : Option eg_V → eg_H → Prop} {n : Nat} (hn : M 7 2 = (n : Int)) (h : n ≤ 3000) (hQ : Q (some (.inl (if n + 20 ≤ 3000 then 1 else 0))) (em_L cn mo, eh_R, M)) : eg_wp sc (d + 1) 27 [.inr (.inr (some 7))] (em_L cn mo, eh_R, M) 0 0 Q := by
  refine eg_in (lv := [some (.inr (.inr (some 7)))]) eg_tj27 (Nat.le_of_ble_eq_true rfl) rfl ?_
  refine eg_k_aload rfl rfl ?_
  refine eg_k_gfie (x := (n : Int)) rfl rfl rfl hn ?_
  refine eg_k_ci rfl ?_
  refine eg_k_iadd rfl ?_
  rw [show eg_wi ((n : Int) + 20) = (n : Int) + 20 from eg_wi_id (by omega) (by omega)]
  refine eg_k_ci rfl ?_
  refine eg_k_icmp rfl (fun z => ?_) (fun z => ?_)
  · have z2 : (3000 : Int) < (n : Int) + 20 := z
    rw [if_neg (by omega)] at hQ
    refine eg_k_ci rfl ?_
    exact eg_k_iret rfl (Or.inl rfl) (Nat.le_refl _) (Nat.le_refl _) hQ
  · have z2 : ¬ (3000 : Int) < (n : Int) + 20 := z
    rw [if_pos (by omega)] at hQ
    refine eg_k_ci rfl ?_
    refine eg_k_goto rfl ?_
    exact eg_k_iret rfl (Or.inr rfl) (Nat.le_refl _) (Nat.le_refl _) hQ
def eh_fd (M : Nat → Nat → Int) (n : Nat) (a b c e f : Int) : Nat → Nat → Int := eh_ap (eh_ap (eh_ap (eh_ap (eh_ap M a n) b (n + 4)) c (n + 8)) e (n + 12)) f (n + 16)
set_option maxRecDepth 100000 in
/-- feed -/
theorem eh_26 {cn mo : Nat} {sc : eg_Sc} {d : Nat} {M : Nat → Nat → Int} {Q : Option eg_V → eg_H → Prop} {n : Nat} {a b c e f : Int} (hn : M 7 2 = (n : Int)) (h : n ≤ 3000) (hQ1 : n + 20 ≤ 3000 → Q (some (.inl 1)) (em_L cn mo, eh_R, eh_fd M n a b c e f)) (hQ0 : ¬ n + 20 ≤ 3000 → Q (some (.inl 0)) (em_L cn mo, eh_R, M)) : eg_wp sc (d + 2) 26 [.inr (.inr (some 0)), .inl a, .inl b, .inl c, .inl e, .inl f] (em_L cn mo, eh_R, M) 0 0 Q := by
  refine eg_in (lv := [some (.inr (.inr (some 0))), some (.inl a), some (.inl b), some (.inl c), some (.inl e), some (.inl f)]) eg_tj26 (Nat.le_of_ble_eq_true rfl) rfl ?_
  refine eg_k_aload rfl rfl ?_
  refine eg_k_gfr rfl rfl rfl eh_r0_1 ?_
  refine eg_k_call (c1 := 0) (z1 := 0) (as := [.inr (.inr (some 7))]) (rest := []) rfl eg_tj27 (Nat.le_of_ble_eq_true rfl) rfl rfl rfl (Nat.le_of_ble_eq_true rfl) (Nat.le_refl _) (Nat.le_refl _) ?_ (fun Q hQ => eh_27 hn h hQ)
  by_cases h20 : n + 20 ≤ 3000
  · rw [if_pos h20]
    refine eg_k_if rfl (fun _ => ?_) (fun z => absurd (show ¬ (1 : Int) = 0 by decide) z)
    refine eg_k_aload rfl rfl ?_
    refine eg_k_gfr rfl rfl rfl eh_r0_1 ?_
    refine eg_k_iload rfl rfl ?_
    refine eg_k_call (c1 := 0) (z1 := 0) (as := [.inr (.inr (some 7)), .inl a]) (rest := []) rfl eg_tj28 (Nat.le_of_ble_eq_true rfl) rfl rfl rfl (Nat.le_of_ble_eq_true rfl) (Nat.le_refl _) (Nat.le_refl _) ?_ (fun Q hQ => eh_28 hn (by omega) hQ)
    refine eg_k_aload rfl rfl ?_
    refine eg_k_gfr rfl rfl rfl eh_r0_1 ?_
    refine eg_k_iload rfl rfl ?_
    refine eg_k_call (c1 := 0) (z1 := 0) (as := [.inr (.inr (some 7)), .inl b]) (rest := []) rfl eg_tj28 (Nat.le_of_ble_eq_true rfl) rfl rfl rfl (Nat.le_of_ble_eq_true rfl) (Nat.le_refl _) (Nat.le_refl _) ?_ (fun Q hQ => eh_28 eh_ap_n (by omega) hQ)
    refine eg_k_aload rfl rfl ?_
    refine eg_k_gfr rfl rfl rfl eh_r0_1 ?_
    refine eg_k_iload rfl rfl ?_
    refine eg_k_call (c1 := 0) (z1 := 0) (as := [.inr (.inr (some 7)), .inl c]) (rest := []) rfl eg_tj28 (Nat.le_of_ble_eq_true rfl) rfl rfl rfl (Nat.le_of_ble_eq_true rfl) (Nat.le_refl _) (Nat.le_refl _) ?_ (fun Q hQ => eh_28 eh_ap_n (by omega) hQ)
    refine eg_k_aload rfl rfl ?_
    refine eg_k_gfr rfl rfl rfl eh_r0_1 ?_
    refine eg_k_iload rfl rfl ?_
    refine eg_k_call (c1 := 0) (z1 := 0) (as := [.inr (.inr (some 7)), .inl e]) (rest := []) rfl eg_tj28 (Nat.le_of_ble_eq_true rfl) rfl rfl rfl (Nat.le_of_ble_eq_true rfl) (Nat.le_refl _) (Nat.le_refl _) ?_ (fun Q hQ => eh_28 eh_ap_n (by omega) hQ)
    refine eg_k_aload rfl rfl ?_
    refine eg_k_gfr rfl rfl rfl eh_r0_1 ?_
    refine eg_k_iload rfl rfl ?_
    refine eg_k_call (c1 := 0) (z1 := 0) (as := [.inr (.inr (some 7)), .inl f]) (rest := []) rfl eg_tj28 (Nat.le_of_ble_eq_true rfl) rfl rfl rfl (Nat.le_of_ble_eq_true rfl) (Nat.le_refl _) (Nat.le_refl _) ?_ (fun Q hQ => eh_28 eh_ap_n (by omega) hQ)
    refine eg_k_ci rfl ?_
    exact eg_k_iret rfl (Or.inr rfl) (Nat.le_refl _) (Nat.le_refl _) (hQ1 h20)
  · rw [if_neg h20]
    refine eg_k_if rfl (fun z => absurd rfl z) (fun _ => ?_)
    refine eg_k_ci rfl ?_
    exact eg_k_iret rfl (Or.inl rfl) (Nat.le_refl _) (Nat.le_refl _) (hQ0 h20)
/-! feed, the reference -/
def eh_lb (x : Int) (k : Nat) : Int := (Int32.ofInt (Int32.ofInt x >>> (Int32.ofInt (24 - 8 * (k : Int)) &&& 31)).toInt &&& Int32.ofInt 255).toInt
def eh_ly (M : Nat → Nat → Int) (x : Int) (n : Nat) : Nat → Nat → Int := eg_u (eg_u (eg_u (eg_u (eg_u M 46 n (eh_lb x 0)) 46 (n + 1) (eh_lb x 1)) 46 (n + 2) (eh_lb x 2)) 46 (n + 3) (eh_lb x 3)) 45 1 ((n + 4 : Nat) : Int)
theorem eh_ly_n {M : Nat → Nat → Int} {x : Int} {n : Nat} : eh_ly M x n 45 1 = ((n + 4 : Nat) : Int) := by
  unfold eh_ly; rw [eg_u_at, if_pos rfl]
set_option maxRecDepth 100000 in
theorem eh_156t {cn mo : Nat} {sc : eg_Sc} {d : Nat} {M : Nat → Nat → Int} {Q : Option eg_V → eg_H → Prop} {x : Int} {n k : Nat} (hn : M 45 1 = (n : Int)) (h : n ≤ 3000) (h4 : k < 4) (hk : eg_X sc (eg_wp sc d) eg_p156 none 0 0 Q 2 [some (.inr (.inr (some 45))), some (.inl x), some (.inl (k + 1 : Nat))] [] (em_L cn mo, eh_R, eg_u M 46 (n + k) (eh_lb x k)) 0 0) : eg_X sc (eg_wp sc d) eg_p156 none 0 0 Q 2 [some (.inr (.inr (some 45))), some (.inl x), some (.inl (k : Nat))] [] (em_L cn mo, eh_R, M) 0 0 := by
  refine eg_k_iload rfl rfl ?_
  refine eg_k_ci rfl ?_
  refine eg_k_icmp rfl (fun z => by have z2 : (4 : Int) ≤ (k : Int) := z; omega) (fun _ => ?_)
  refine eg_k_aload rfl rfl ?_
  refine eg_k_gfa rfl rfl rfl eh_r45_0 ?_
  refine eg_k_aload rfl rfl ?_
  refine eg_k_gfie (x := (n : Int)) rfl rfl rfl hn ?_
  refine eg_k_iload rfl rfl ?_
  refine eg_k_iadd rfl ?_
  rw [show eg_wi ((n : Int) + (k : Int)) = (n : Int) + (k : Int) from eg_wi_id (by omega) (by omega)]
  refine eg_k_iload rfl rfl ?_
  refine eg_k_ci rfl ?_
  refine eg_k_ci rfl ?_
  refine eg_k_iload rfl rfl ?_
  refine eg_k_imul rfl ?_
  rw [show eg_wi (8 * (k : Int)) = 8 * (k : Int) from eg_wi_id (by omega) (by omega)]
  refine eg_k_isub rfl ?_
  rw [show eg_wi (24 - 8 * (k : Int)) = 24 - 8 * (k : Int) from eg_wi_id (by omega) (by omega)]
  refine eg_k_ishr rfl ?_
  refine eg_k_ci rfl ?_
  refine eg_k_iand rfl ?_
  refine eg_k_iast (k := 3020) rfl rfl (by omega) (by omega) ?_
  rw [show ((n : Int) + (k : Int)).toNat = n + k by omega]
  refine eg_k_iinc (lv' := [some (.inr (.inr (some 45))), some (.inl x), some (.inl (k + 1 : Nat))]) rfl rfl (by rw [eg_wi_1 (by omega)]; rfl) ?_
  refine eg_k_goto rfl ?_
  exact hk
set_option maxRecDepth 100000 in
theorem eh_156 {cn mo : Nat} {sc : eg_Sc} {d : Nat} {M : Nat → Nat → Int} {Q : Option eg_V → eg_H → Prop} {x : Int} {n : Nat} (hn : M 45 1 = (n : Int)) (h : n ≤ 3000) (hQ : Q none (em_L cn mo, eh_R, eh_ly M x n)) : eg_wp sc (d + 1) 156 [.inr (.inr (some 45)), .inl x] (em_L cn mo, eh_R, M) 0 0 Q := by
  refine eg_in (lv := [some (.inr (.inr (some 45))), some (.inl x), none]) eg_tj156 (Nat.le_of_ble_eq_true rfl) rfl ?_
  refine eg_k_ci rfl ?_
  refine eg_k_istore (lv' := [some (.inr (.inr (some 45))), some (.inl x), some (.inl ((0 : Nat) : Int))]) rfl rfl ?_
  refine eh_156t hn h (by decide) ?_
  refine eh_156t (n := n) (by rw [eg_u_ne (by decide)]; exact hn) h (by decide) ?_
  refine eh_156t (n := n) (by rw [eg_u_ne (by decide), eg_u_ne (by decide)]; exact hn) h (by decide) ?_
  refine eh_156t (n := n) (by rw [eg_u_ne (by decide), eg_u_ne (by decide), eg_u_ne (by decide)]; exact hn) h (by decide) ?_
  refine eg_k_iload rfl rfl ?_
  refine eg_k_ci rfl ?_
  refine eg_k_icmp rfl (fun _ => ?_) (fun z => absurd (show (4 : Int) ≤ ((0 + 1 + 1 + 1 + 1 : Nat) : Int) by decide) z)
  refine eg_k_aload rfl rfl ?_
  refine eg_k_aload rfl rfl ?_
  refine eg_k_gfie (x := (n : Int)) rfl rfl rfl (by show eg_u _ 46 _ _ 45 1 = _; rw [eg_u_ne (by decide), eg_u_ne (by decide), eg_u_ne (by decide), eg_u_ne (by decide)]; exact hn) ?_
  refine eg_k_ci rfl ?_
  refine eg_k_iadd rfl ?_
  rw [show eg_wi ((n : Int) + 4) = ((n + 4 : Nat) : Int) from (eg_wi_id (by omega) (by omega)).trans (by omega)]
  refine eg_k_pfi rfl rfl rfl ?_
  exact eg_k_ret rfl rfl (Nat.le_refl _) (Nat.le_refl _) hQ
def eh_fm (M : Nat → Nat → Int) (n : Nat) (a b c e f : Int) : Nat → Nat → Int := eh_ly (eh_ly (eh_ly (eh_ly (eh_ly M a n) b (n + 4)) c (n + 8)) e (n + 12)) f (n + 16)
set_option maxRecDepth 100000 in
/-- the reference's feed -/
theorem eh_155 {cn mo : Nat} {sc : eg_Sc} {d : Nat} {M : Nat → Nat → Int} {Q : Option eg_V → eg_H → Prop} {n : Nat} {a b c e f : Int} (hn : M 45 1 = (n : Int)) (h : n ≤ 3000) (hQ1 : n + 20 ≤ 3000 → Q (some (.inl 1)) (em_L cn mo, eh_R, eh_fm M n a b c e f)) (hQ0 : ¬ n + 20 ≤ 3000 → Q (some (.inl 0)) (em_L cn mo, eh_R, M)) : eg_wp sc (d + 2) 155 [.inr (.inr (some 45)), .inl a, .inl b, .inl c, .inl e, .inl f] (em_L cn mo, eh_R, M) 0 0 Q := by
  refine eg_in (lv := [some (.inr (.inr (some 45))), some (.inl a), some (.inl b), some (.inl c), some (.inl e), some (.inl f)]) eg_tj155 (Nat.le_of_ble_eq_true rfl) rfl ?_
  refine eg_k_aload rfl rfl ?_
  refine eg_k_gfie (x := (n : Int)) rfl rfl rfl hn ?_
  refine eg_k_ci rfl ?_
  refine eg_k_iadd rfl ?_
  rw [show eg_wi ((n : Int) + 20) = (n : Int) + 20 from eg_wi_id (by omega) (by omega)]
  refine eg_k_ci rfl ?_
  refine eg_k_icmp rfl (fun z => ?_) (fun z => ?_)
  · have z2 : (n : Int) + 20 ≤ 3000 := z
    refine eg_k_aload rfl rfl ?_
    refine eg_k_iload rfl rfl ?_
    refine eg_k_call (c1 := 0) (z1 := 0) (as := [.inr (.inr (some 45)), .inl a]) (rest := []) rfl eg_tj156 (Nat.le_of_ble_eq_true rfl) rfl rfl rfl (Nat.le_of_ble_eq_true rfl) (Nat.le_refl _) (Nat.le_refl _) ?_ (fun Q hQ => eh_156 hn (by omega) hQ)
    refine eg_k_aload rfl rfl ?_
    refine eg_k_iload rfl rfl ?_
    refine eg_k_call (c1 := 0) (z1 := 0) (as := [.inr (.inr (some 45)), .inl b]) (rest := []) rfl eg_tj156 (Nat.le_of_ble_eq_true rfl) rfl rfl rfl (Nat.le_of_ble_eq_true rfl) (Nat.le_refl _) (Nat.le_refl _) ?_ (fun Q hQ => eh_156 eh_ly_n (by omega) hQ)
    refine eg_k_aload rfl rfl ?_
    refine eg_k_iload rfl rfl ?_
    refine eg_k_call (c1 := 0) (z1 := 0) (as := [.inr (.inr (some 45)), .inl c]) (rest := []) rfl eg_tj156 (Nat.le_of_ble_eq_true rfl) rfl rfl rfl (Nat.le_of_ble_eq_true rfl) (Nat.le_refl _) (Nat.le_refl _) ?_ (fun Q hQ => eh_156 eh_ly_n (by omega) hQ)
    refine eg_k_aload rfl rfl ?_
    refine eg_k_iload rfl rfl ?_
    refine eg_k_call (c1 := 0) (z1 := 0) (as := [.inr (.inr (some 45)), .inl e]) (rest := []) rfl eg_tj156 (Nat.le_of_ble_eq_true rfl) rfl rfl rfl (Nat.le_of_ble_eq_true rfl) (Nat.le_refl _) (Nat.le_refl _) ?_ (fun Q hQ => eh_156 eh_ly_n (by omega) hQ)
    refine eg_k_aload rfl rfl ?_
    refine eg_k_iload rfl rfl ?_
    refine eg_k_call (c1 := 0) (z1 := 0) (as := [.inr (.inr (some 45)), .inl f]) (rest := []) rfl eg_tj156 (Nat.le_of_ble_eq_true rfl) rfl rfl rfl (Nat.le_of_ble_eq_true rfl) (Nat.le_refl _) (Nat.le_refl _) ?_ (fun Q hQ => eh_156 eh_ly_n (by omega) hQ)
    refine eg_k_ci rfl ?_
    exact eg_k_iret rfl (Or.inr rfl) (Nat.le_refl _) (Nat.le_refl _) (hQ1 (by omega))
  · have z2 : ¬ (n : Int) + 20 ≤ 3000 := z
    refine eg_k_ci rfl ?_
    exact eg_k_iret rfl (Or.inl rfl) (Nat.le_refl _) (Nat.le_refl _) (hQ0 (by omega))
/-! the law's cell -/
theorem eh_152 {sc : eg_Sc} {d : Nat} {l : List eg_C} {r : Nat → Nat → Option Nat} {M : Nat → Nat → Int} {Q : Option eg_V → eg_H → Prop} (hl : l.length < 1000000) (hQ : Q (some (.inl (if 0 < sc.1 then sc.2 0 else 0))) (l, r, M)) : eg_wp sc (d + 1) 152 [.inr (.inr (some 1000000)), .inl 0] (l, r, M) 0 0 Q := by
  refine eg_in (lv := [some (.inr (.inr (some 1000000))), some (.inl 0)]) eg_tj152 (Nat.le_of_ble_eq_true rfl) rfl ?_
  refine eg_k_iload rfl rfl ?_
  refine eg_k_aload rfl rfl ?_
  refine eg_k_tlen (k := sc.1) rfl (es_no hl (by decide)) rfl ?_
  refine eg_k_icmp rfl (fun z => ?_) (fun z => ?_)
  · have z2 : (sc.1 : Int) ≤ 0 := z
    rw [if_neg (by omega)] at hQ
    refine eg_k_ci rfl ?_
    exact eg_k_iret rfl True.intro (Nat.le_refl _) (Nat.le_refl _) hQ
  · have z2 : ¬ (sc.1 : Int) ≤ 0 := z
    rw [if_pos (by omega)] at hQ
    refine eg_k_aload rfl rfl ?_
    refine eg_k_iload rfl rfl ?_
    refine eg_k_tiald (k := sc.1) (f9 := fun j => .inl (sc.2 j)) rfl (es_no hl (by decide)) rfl (by omega) (by omega) ?_
    refine eg_k_goto rfl ?_
    exact eg_k_iret rfl True.intro (Nat.le_refl _) (Nat.le_refl _) hQ
/-! fetch, the class -/
theorem eg_rem_n {n k : Nat} (hn : n < 2147483648) : eg_wi ((n : Int) - eg_wi ((n : Int).tdiv (k : Int)) * (k : Int)) = ((n % k : Nat) : Int) := by
  have e : (n : Int).tdiv (k : Int) = ((n / k : Nat) : Int) := (Int.ofNat_tdiv n k).symm
  have h1 : n / k ≤ n := Nat.div_le_self n k
  have h2 : n % k ≤ n := Nat.mod_le n k
  have h0 : (0 : Int) ≤ ((n / k : Nat) : Int) := Int.natCast_nonneg _
  rw [e, eg_wi_id (n := ((n / k : Nat) : Int)) (by omega) (by omega)]
  have h3 := Nat.div_add_mod n k
  have h4 : (n : Int) - ((n / k : Nat) : Int) * (k : Int) = ((n % k : Nat) : Int) := by
    have h5 : ((k * (n / k) + n % k : Nat) : Int) = (n : Int) := by rw [h3]
    rw [Int.natCast_add, Int.natCast_mul, Int.mul_comm] at h5
    omega
  rw [h4, eg_wi_id (by omega) (by omega)]
def eh_tk (M : Nat → Nat → Int) (fb n : Nat) : Nat → Int
  | 0 => (n : Int)
  | i + 1 => if i < n then (Int64.ofInt (Int64.ofInt (eh_tk M fb n i) <<< ((Int32.ofInt 8).toInt64 &&& 63)).toInt ||| Int64.ofInt (M 27 ((fb + i) % 4000))).toInt else (Int64.ofInt (eh_tk M fb n i) <<< ((Int32.ofInt 8).toInt64 &&& 63)).toInt
set_option maxRecDepth 100000 in
theorem eh_150 {cn mo : Nat} {sc : eg_Sc} {d : Nat} {M : Nat → Nat → Int} {Q : Option eg_V → eg_H → Prop} {fb w n : Nat} (hf : M 26 3 = (fb : Int)) (hf4 : fb < 4000) (hw : M 26 4 = (w : Int)) (hw4 : w ≤ 4000) (hn : n = min w 7) (hQ : Q (some (.inr (.inl (eh_tk M fb n 7)))) (em_L cn mo, eh_R, eg_u (eg_u M 26 3 (((fb + n) % 4000 : Nat) : Int)) 26 4 ((w - n : Nat) : Int))) : eg_wp sc (d + 1) 150 [.inr (.inr (some 26))] (em_L cn mo, eh_R, M) 0 0 Q := by
  refine eg_in (lv := [some (.inr (.inr (some 26))), none, none, none, none]) eg_tj150 (Nat.le_of_ble_eq_true rfl) rfl ?_
  refine eg_k_aload rfl rfl ?_
  refine eg_k_gfie (x := (w : Int)) rfl rfl rfl hw ?_
  refine eg_k_ci rfl ?_
  refine eg_k_min rfl (Nat.le_of_ble_eq_true rfl) (Nat.le_refl _) (Nat.le_refl _) ?_
  rw [show (if (7 : Int) < (w : Int) then (7 : Int) else (w : Int)) = ((n : Nat) : Int) by split <;> omega]
  refine eg_k_istore (lv' := [some (.inr (.inr (some 26))), some (.inl (n : Nat)), none, none, none]) rfl rfl ?_
  refine eg_k_iload rfl rfl ?_
  refine eg_k_i2l rfl ?_
  refine eg_k_lstore (lv' := [some (.inr (.inr (some 26))), some (.inl (n : Nat)), some (.inr (.inl (n : Nat))), none, none]) rfl rfl ?_
  refine eg_k_ci rfl ?_
  refine eg_k_istore (lv' := [some (.inr (.inr (some 26))), some (.inl (n : Nat)), some (.inr (.inl (n : Nat))), none, some (.inl ((0 : Nat) : Int))]) rfl rfl ?_
  have loop : ∀ (j i : Nat), i + j = 7 → eg_X sc (eg_wp sc d) eg_p150 (some .long) 0 0 Q 10 [some (.inr (.inr (some 26))), some (.inl (n : Nat)), some (.inr (.inl (eh_tk M fb n i))), none, some (.inl (i : Nat))] [] (em_L cn mo, eh_R, M) 0 0 := by
    intro j
    induction j with
    | zero =>
      intro i hi
      have hin : i = 7 := by omega
      subst hin
      refine eg_k_iload rfl rfl ?_
      refine eg_k_ci rfl ?_
      refine eg_k_icmp rfl (fun _ => ?_) (fun z => absurd (show (7 : Int) ≤ ((7 : Nat) : Int) by omega) z)
      refine eg_k_aload rfl rfl ?_
      refine eg_k_aload rfl rfl ?_
      refine eg_k_gfie (x := (fb : Int)) rfl rfl rfl hf ?_
      refine eg_k_iload rfl rfl ?_
      refine eg_k_iadd rfl ?_
      rw [show eg_wi ((fb : Int) + (n : Int)) = ((fb + n : Nat) : Int) from (eg_wi_id (by omega) (by omega)).trans (by omega)]
      refine eg_k_ci rfl ?_
      refine eg_k_irem rfl (by decide) ?_
      rw [show eg_wi (((fb + n : Nat) : Int) - eg_wi (((fb + n : Nat) : Int).tdiv 4000) * 4000) = (((fb + n) % 4000 : Nat) : Int) from eg_rem_n (k := 4000) (by omega)]
      refine eg_k_pfi rfl rfl rfl ?_
      refine eg_k_aload rfl rfl ?_
      refine eg_k_dupr rfl ?_
      refine eg_k_gfie (x := (w : Int)) rfl rfl rfl (by show eg_u _ 26 3 _ 26 4 = _; rw [eg_u_at, if_neg (by decide)]; exact hw) ?_
      refine eg_k_iload rfl rfl ?_
      refine eg_k_isub rfl ?_
      rw [show eg_wi ((w : Int) - (n : Int)) = ((w - n : Nat) : Int) from (eg_wi_id (by omega) (by omega)).trans (by omega)]
      refine eg_k_pfi rfl rfl rfl ?_
      refine eg_k_lload rfl rfl ?_
      exact eg_k_lret rfl rfl (Nat.le_refl _) (Nat.le_refl _) hQ
    | succ j ih =>
      intro i hi
      refine eg_k_iload rfl rfl ?_
      refine eg_k_ci rfl ?_
      refine eg_k_icmp rfl (fun z => by have z2 : (7 : Int) ≤ (i : Int) := z; omega) (fun _ => ?_)
      refine eg_k_lload rfl rfl ?_
      refine eg_k_ci rfl ?_
      refine eg_k_lshl rfl ?_
      refine eg_k_lstore (lv' := [some (.inr (.inr (some 26))), some (.inl (n : Nat)), some (.inr (.inl (Int64.ofInt (eh_tk M fb n i) <<< ((Int32.ofInt 8).toInt64 &&& 63)).toInt)), none, some (.inl (i : Nat))]) rfl rfl ?_
      have nxt : eg_X sc (eg_wp sc d) eg_p150 (some .long) 0 0 Q 33 [some (.inr (.inr (some 26))), some (.inl (n : Nat)), some (.inr (.inl (eh_tk M fb n (i + 1)))), none, some (.inl (i : Nat))] [] (em_L cn mo, eh_R, M) 0 0 := by
        refine eg_k_iinc (lv' := [some (.inr (.inr (some 26))), some (.inl (n : Nat)), some (.inr (.inl (eh_tk M fb n (i + 1)))), none, some (.inl (i + 1 : Nat))]) rfl rfl (by rw [eg_wi_1 (by omega)]; rfl) ?_
        refine eg_k_goto rfl ?_
        exact ih (i + 1) (by omega)
      refine eg_k_iload rfl rfl ?_
      refine eg_k_iload rfl rfl ?_
      refine eg_k_icmp rfl (fun z => ?_) (fun z => ?_)
      · have z2 : (n : Int) ≤ (i : Int) := z
        rw [show eh_tk M fb n (i + 1) = (Int64.ofInt (eh_tk M fb n i) <<< ((Int32.ofInt 8).toInt64 &&& 63)).toInt from if_neg (by omega)] at nxt
        exact nxt
      · have z2 : ¬ (n : Int) ≤ (i : Int) := z
        rw [show eh_tk M fb n (i + 1) = (Int64.ofInt (Int64.ofInt (eh_tk M fb n i) <<< ((Int32.ofInt 8).toInt64 &&& 63)).toInt ||| Int64.ofInt (M 27 ((fb + i) % 4000))).toInt from if_pos (by omega)] at nxt
        refine eg_k_lload rfl rfl ?_
        refine eg_k_aload rfl rfl ?_
        refine eg_k_gfa rfl rfl rfl eh_r26_2 ?_
        refine eg_k_aload rfl rfl ?_
        refine eg_k_gfie (x := (fb : Int)) rfl rfl rfl hf ?_
        refine eg_k_iload rfl rfl ?_
        refine eg_k_iadd rfl ?_
        rw [show eg_wi ((fb : Int) + (i : Int)) = ((fb + i : Nat) : Int) from (eg_wi_id (by omega) (by omega)).trans (by omega)]
        refine eg_k_ci rfl ?_
        refine eg_k_irem rfl (by decide) ?_
        rw [show eg_wi (((fb + i : Nat) : Int) - eg_wi (((fb + i : Nat) : Int).tdiv 4000) * 4000) = (((fb + i) % 4000 : Nat) : Int) from eg_rem_n (k := 4000) (by omega)]
        refine eg_k_bald (k := 4000) rfl rfl (by omega) (by omega) ?_
        rw [show ((((fb + i) % 4000 : Nat)) : Int).toNat = (fb + i) % 4000 by omega]
        refine eg_k_i2l rfl ?_
        refine eg_k_lor rfl ?_
        refine eg_k_lstore (lv' := [some (.inr (.inr (some 26))), some (.inl (n : Nat)), some (.inr (.inl (Int64.ofInt (Int64.ofInt (eh_tk M fb n i) <<< ((Int32.ofInt 8).toInt64 &&& 63)).toInt ||| Int64.ofInt (M 27 ((fb + i) % 4000))).toInt)), none, some (.inl (i : Nat))]) rfl rfl ?_
        exact nxt
  exact loop 7 0 (by omega)
set_option maxRecDepth 100000 in
theorem eh_149 {cn mo : Nat} {sc : eg_Sc} {d : Nat} {M : Nat → Nat → Int} {Q : Option eg_V → eg_H → Prop} {fb w n : Nat} (hf : M 26 3 = (fb : Int)) (hf4 : fb < 4000) (hw : M 26 4 = (w : Int)) (hw4 : w ≤ 4000) (hn : n = min w 7) (hQ : Q (some (.inr (.inl (eh_tk M fb n 7)))) (em_L cn mo, eh_R, eg_u (eg_u M 26 3 (((fb + n) % 4000 : Nat) : Int)) 26 4 ((w - n : Nat) : Int))) : eg_wp sc (d + 2) 149 [.inr (.inr (some 0))] (em_L cn mo, eh_R, M) 0 0 Q := by
  refine eg_in (lv := [some (.inr (.inr (some 0)))]) eg_tj149 (Nat.le_of_ble_eq_true rfl) rfl ?_
  refine eg_k_aload rfl rfl ?_
  refine eg_k_gfr rfl rfl rfl eh_r0_5 ?_
  refine eg_k_call (c1 := 0) (z1 := 0) (as := [.inr (.inr (some 26))]) (rest := []) rfl eg_tj150 (Nat.le_of_ble_eq_true rfl) rfl rfl rfl (Nat.le_of_ble_eq_true rfl) (Nat.le_refl _) (Nat.le_refl _) ?_ (fun Q hQ => eh_150 hf hf4 hw hw4 hn hQ)
  exact eg_k_lret rfl rfl (Nat.le_refl _) (Nat.le_refl _) hQ
/-! fetch, the reference -/
def eh_mk (M : Nat → Nat → Int) (n : Nat) : Nat → Int
  | 0 => (Int64.ofInt (n : Int) <<< ((Int32.ofInt 56).toInt64 &&& 63)).toInt
  | k + 1 => (Int64.ofInt (eh_mk M n k) ||| Int64.ofInt (Int64.ofInt (M 86 k) <<< ((Int32.ofInt (48 - 8 * (k : Int))).toInt64 &&& 63)).toInt).toInt
def eh_sh (M : Nat → Nat → Int) (n k : Nat) : Nat → Nat → Int := fun b j => if b = 86 ∧ j + n < k then M 86 (j + n) else M b j
theorem eh_sh_0 {M : Nat → Nat → Int} {n : Nat} : eh_sh M n n = M := by
  funext b j
  unfold eh_sh
  rw [if_neg (by omega)]
theorem eh_sh_k {M : Nat → Nat → Int} {n k : Nat} : eh_sh M n k 86 k = M 86 k := by
  unfold eh_sh
  rw [if_neg (by omega)]
theorem eh_sh_ne {M : Nat → Nat → Int} {n k b j : Nat} (h : b ≠ 86) : eh_sh M n k b j = M b j := by
  unfold eh_sh
  rw [if_neg (fun z => h z.1)]
theorem eh_sh_step {M : Nat → Nat → Int} {n k : Nat} (h : n ≤ k) : eg_u (eh_sh M n k) 86 (k - n) (M 86 k) = eh_sh M n (k + 1) := by
  funext b j
  unfold eg_u eh_sh
  by_cases hb : b = 86
  · subst hb
    by_cases hj : j = k - n
    · subst hj
      rw [if_pos ⟨rfl, rfl⟩, if_pos ⟨rfl, by omega⟩, show k - n + n = k by omega]
    · rw [if_neg (fun z => hj z.2)]
      by_cases hk : j + n < k
      · rw [if_pos ⟨rfl, hk⟩, if_pos ⟨rfl, by omega⟩]
      · rw [if_neg (fun z => hk z.2), if_neg (fun z => by have := z.2; omega)]
  · rw [if_neg (fun z => hb z.1), if_neg (fun z => hb z.1), if_neg (fun z => hb z.1)]
set_option maxRecDepth 100000 in
theorem eh_248 {cn mo : Nat} {sc : eg_Sc} {d : Nat} {M : Nat → Nat → Int} {Q : Option eg_V → eg_H → Prop} {w n : Nat} (hw : M 45 72 = (w : Int)) (hw4 : w ≤ 4000) (hn : n = min w 7) (hQ0 : w = 0 → Q (some (.inr (.inl 0))) (em_L cn mo, eh_R, M)) (hQ : 0 < w → Q (some (.inr (.inl (eh_mk M n n)))) (em_L cn mo, eh_R, eg_u (eh_sh M n w) 45 72 ((w - n : Nat) : Int))) : eg_wp sc (d + 1) 248 [.inr (.inr (some 45))] (em_L cn mo, eh_R, M) 0 0 Q := by
  refine eg_in (lv := [some (.inr (.inr (some 45))), none, none, none, none]) eg_tj248 (Nat.le_of_ble_eq_true rfl) rfl ?_
  have loop2 : ∀ (j k : Nat), k + j = w → n ≤ k → 0 < w → eg_X sc (eg_wp sc d) eg_p248 (some .long) 0 0 Q 41 [some (.inr (.inr (some 45))), some (.inl (n : Nat)), some (.inr (.inl (eh_mk M n n))), none, some (.inl (k : Nat))] [] (em_L cn mo, eh_R, eh_sh M n k) 0 0 := by
    intro j
    induction j with
    | zero =>
      intro k hk hnk h0
      have hkw : k = w := by omega
      subst hkw
      refine eg_k_iload rfl rfl ?_
      refine eg_k_aload rfl rfl ?_
      refine eg_k_gfie (x := (k : Int)) rfl rfl rfl ((eh_sh_ne (by decide)).trans hw) ?_
      refine eg_k_icmp rfl (fun _ => ?_) (fun z => absurd (Int.le_refl _) z)
      refine eg_k_aload rfl rfl ?_
      refine eg_k_aload rfl rfl ?_
      refine eg_k_gfie (x := (k : Int)) rfl rfl rfl ((eh_sh_ne (by decide)).trans hw) ?_
      refine eg_k_iload rfl rfl ?_
      refine eg_k_isub rfl ?_
      rw [show eg_wi ((k : Int) - (n : Int)) = ((k - n : Nat) : Int) from (eg_wi_id (by omega) (by omega)).trans (by omega)]
      refine eg_k_pfi rfl rfl rfl ?_
      refine eg_k_lload rfl rfl ?_
      exact eg_k_lret rfl rfl (Nat.le_refl _) (Nat.le_refl _) (hQ h0)
    | succ j ih =>
      intro k hk hnk h0
      refine eg_k_iload rfl rfl ?_
      refine eg_k_aload rfl rfl ?_
      refine eg_k_gfie (x := (w : Int)) rfl rfl rfl ((eh_sh_ne (by decide)).trans hw) ?_
      refine eg_k_icmp rfl (fun z => by have z2 : (w : Int) ≤ (k : Int) := z; omega) (fun _ => ?_)
      refine eg_k_aload rfl rfl ?_
      refine eg_k_gfa rfl rfl rfl eh_r45_71 ?_
      refine eg_k_iload rfl rfl ?_
      refine eg_k_iload rfl rfl ?_
      refine eg_k_isub rfl ?_
      rw [show eg_wi ((k : Int) - (n : Int)) = ((k - n : Nat) : Int) from (eg_wi_id (by omega) (by omega)).trans (by omega)]
      refine eg_k_aload rfl rfl ?_
      refine eg_k_gfa rfl rfl rfl eh_r45_71 ?_
      refine eg_k_iload rfl rfl ?_
      refine eg_k_iald (k := 4000) rfl rfl (by omega) (by omega) ?_
      refine eg_k_iast (k := 4000) rfl rfl (by omega) (by omega) ?_
      rw [show ((k - n : Nat) : Int).toNat = k - n by omega, show ((k : Nat) : Int).toNat = k by omega, eh_sh_k, eh_sh_step hnk]
      refine eg_k_iinc (lv' := [some (.inr (.inr (some 45))), some (.inl (n : Nat)), some (.inr (.inl (eh_mk M n n))), none, some (.inl (k + 1 : Nat))]) rfl rfl (by rw [eg_wi_1 (by omega)]; rfl) ?_
      refine eg_k_goto rfl ?_
      exact ih (k + 1) (by omega) (by omega) h0
  have loop1 : ∀ (j k : Nat), k + j = n → 0 < w → eg_X sc (eg_wp sc d) eg_p248 (some .long) 0 0 Q 20 [some (.inr (.inr (some 45))), some (.inl (n : Nat)), some (.inr (.inl (eh_mk M n k))), none, some (.inl (k : Nat))] [] (em_L cn mo, eh_R, M) 0 0 := by
    intro j
    induction j with
    | zero =>
      intro k hk h0
      have hkn : k = n := by omega
      subst hkn
      refine eg_k_iload rfl rfl ?_
      refine eg_k_iload rfl rfl ?_
      refine eg_k_icmp rfl (fun _ => ?_) (fun z => absurd (Int.le_refl _) z)
      refine eg_k_iload rfl rfl ?_
      refine eg_k_istore rfl rfl ?_
      have h9 := loop2 (w - k) k (by omega) (Nat.le_refl _) h0
      rw [eh_sh_0] at h9
      exact h9
    | succ j ih =>
      intro k hk h0
      refine eg_k_iload rfl rfl ?_
      refine eg_k_iload rfl rfl ?_
      refine eg_k_icmp rfl (fun z => by have z2 : (n : Int) ≤ (k : Int) := z; omega) (fun _ => ?_)
      refine eg_k_lload rfl rfl ?_
      refine eg_k_aload rfl rfl ?_
      refine eg_k_gfa rfl rfl rfl eh_r45_71 ?_
      refine eg_k_iload rfl rfl ?_
      refine eg_k_iald (k := 4000) rfl rfl (by omega) (by omega) ?_
      rw [show ((k : Nat) : Int).toNat = k by omega]
      refine eg_k_i2l rfl ?_
      refine eg_k_ci rfl ?_
      refine eg_k_ci rfl ?_
      refine eg_k_iload rfl rfl ?_
      refine eg_k_imul rfl ?_
      rw [show eg_wi (8 * (k : Int)) = 8 * (k : Int) from eg_wi_id (by omega) (by omega)]
      refine eg_k_isub rfl ?_
      rw [show eg_wi (48 - 8 * (k : Int)) = 48 - 8 * (k : Int) from eg_wi_id (by omega) (by omega)]
      refine eg_k_lshl rfl ?_
      refine eg_k_lor rfl ?_
      refine eg_k_lstore (lv' := [some (.inr (.inr (some 45))), some (.inl (n : Nat)), some (.inr (.inl (eh_mk M n (k + 1)))), none, some (.inl (k : Nat))]) rfl rfl ?_
      refine eg_k_iinc (lv' := [some (.inr (.inr (some 45))), some (.inl (n : Nat)), some (.inr (.inl (eh_mk M n (k + 1)))), none, some (.inl (k + 1 : Nat))]) rfl rfl (by rw [eg_wi_1 (by omega)]; rfl) ?_
      refine eg_k_goto rfl ?_
      exact ih (k + 1) (by omega) h0
  have body : eg_X sc (eg_wp sc d) eg_p248 (some .long) 0 0 Q 8 [some (.inr (.inr (some 45))), none, none, none, none] [.inl (n : Nat)] (em_L cn mo, eh_R, M) 0 0 := by
    refine eg_k_istore (lv' := [some (.inr (.inr (some 45))), some (.inl (n : Nat)), none, none, none]) rfl rfl ?_
    refine eg_k_iload rfl rfl ?_
    refine eg_k_if rfl (fun z => ?_) (fun z => ?_)
    · have z2 : ¬ ((n : Nat) : Int) = 0 := z
      refine eg_k_iload rfl rfl ?_
      refine eg_k_i2l rfl ?_
      refine eg_k_ci rfl ?_
      refine eg_k_lshl rfl ?_
      refine eg_k_lstore (lv' := [some (.inr (.inr (some 45))), some (.inl (n : Nat)), some (.inr (.inl (eh_mk M n 0))), none, none]) rfl rfl ?_
      refine eg_k_ci rfl ?_
      refine eg_k_istore (lv' := [some (.inr (.inr (some 45))), some (.inl (n : Nat)), some (.inr (.inl (eh_mk M n 0))), none, some (.inl ((0 : Nat) : Int))]) rfl rfl ?_
      exact loop1 n 0 (by omega) (by omega)
    · have z2 : ¬ ¬ ((n : Nat) : Int) = 0 := z
      refine eg_k_cl rfl ?_
      exact eg_k_lret rfl rfl (Nat.le_refl _) (Nat.le_refl _) (hQ0 (by omega))
  refine eg_k_aload rfl rfl ?_
  refine eg_k_gfie (x := (w : Int)) rfl rfl rfl hw ?_
  refine eg_k_ci rfl ?_
  refine eg_k_icmp rfl (fun z => ?_) (fun z => ?_)
  · have z2 : (7 : Int) ≤ (w : Int) := z
    refine eg_k_ci rfl ?_
    have b2 := body
    rw [show ((n : Nat) : Int) = 7 by omega] at b2
    exact b2
  · have z2 : ¬ (7 : Int) ≤ (w : Int) := z
    refine eg_k_aload rfl rfl ?_
    refine eg_k_gfie (x := (n : Int)) rfl rfl rfl (hw.trans (by omega)) ?_
    refine eg_k_goto rfl ?_
    exact body
