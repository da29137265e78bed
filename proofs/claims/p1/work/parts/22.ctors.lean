/-! THE CONSTRUCTORS, straight ones (by program) -/
set_option maxRecDepth 100000 in
theorem ec_15 {sc : eg_Sc} {d : Nat} {r : Nat → Nat → Option Nat} {M : Nat → Nat → Int} {Q : Option eg_V → eg_H → Prop}   (hQ : Q none ([.inr 0, .inr 1, .inl (.byte, 8880), .inl (.int, 444), .inl (.long, 20000), .inl (.int, 20000), .inl (.byte, 20000), .inr 2, .inl (.byte, 3000), .inl (.int, 2000), .inl (.int, 30), .inl (.boolean, 30)], (eg_u (eg_u (eg_z (eg_u (eg_z (eg_u (eg_z (eg_u (eg_z r 8 none) 7 1 (some 8)) 9 none) 7 3 (some 9)) 10 none) 7 10 (some 10)) 11 none) 7 11 (some 11)) 7 0 (some 1)), (eg_z (eg_z (eg_z (eg_z M 8 0) 9 0) 10 0) 11 0))) : eg_wp sc (d + 1) 15 [.inr (.inr (some 7)), .inr (.inr (some 1))] ([.inr 0, .inr 1, .inl (.byte, 8880), .inl (.int, 444), .inl (.long, 20000), .inl (.int, 20000), .inl (.byte, 20000), .inr 2], r, M) 20 200000 Q := by
  refine eg_in (lv := [some (.inr (.inr (some 7))), some (.inr (.inr (some 1)))]) eg_tj15 (Nat.le_of_ble_eq_true rfl) rfl ?_
  refine eg_k_aload rfl rfl ?_
  refine eg_k_oi rfl (Nat.le_of_ble_eq_true rfl) ?_
  refine eg_k_aload rfl rfl ?_
  refine eg_k_ci rfl ?_
  refine eg_k_newa (a := 8) (l' := [.inr 0, .inr 1, .inl (.byte, 8880), .inl (.int, 444), .inl (.long, 20000), .inl (.int, 20000), .inl (.byte, 20000), .inr 2, .inl (.byte, 3000)]) (c' := 1) (z' := 3000) rfl rfl rfl (by decide) (by omega) (by omega) rfl (by omega) (by decide) (by omega) ?_
  refine eg_k_pfa rfl rfl rfl ?_
  refine eg_k_aload rfl rfl ?_
  refine eg_k_ci rfl ?_
  refine eg_k_newa (a := 9) (l' := [.inr 0, .inr 1, .inl (.byte, 8880), .inl (.int, 444), .inl (.long, 20000), .inl (.int, 20000), .inl (.byte, 20000), .inr 2, .inl (.byte, 3000), .inl (.int, 2000)]) (c' := 2) (z' := 5000) rfl rfl rfl (by decide) (by omega) (by omega) rfl (by omega) (by decide) (by omega) ?_
  refine eg_k_pfa rfl rfl rfl ?_
  refine eg_k_aload rfl rfl ?_
  refine eg_k_ci rfl ?_
  refine eg_k_newa (a := 10) (l' := [.inr 0, .inr 1, .inl (.byte, 8880), .inl (.int, 444), .inl (.long, 20000), .inl (.int, 20000), .inl (.byte, 20000), .inr 2, .inl (.byte, 3000), .inl (.int, 2000), .inl (.int, 30)]) (c' := 3) (z' := 5030) rfl rfl rfl (by decide) (by omega) (by omega) rfl (by omega) (by decide) (by omega) ?_
  refine eg_k_pfa rfl rfl rfl ?_
  refine eg_k_aload rfl rfl ?_
  refine eg_k_ci rfl ?_
  refine eg_k_newa (a := 11) (l' := [.inr 0, .inr 1, .inl (.byte, 8880), .inl (.int, 444), .inl (.long, 20000), .inl (.int, 20000), .inl (.byte, 20000), .inr 2, .inl (.byte, 3000), .inl (.int, 2000), .inl (.int, 30), .inl (.boolean, 30)]) (c' := 4) (z' := 5060) rfl rfl rfl (by decide) (by omega) (by omega) rfl (by omega) (by decide) (by omega) ?_
  refine eg_k_pfa rfl rfl rfl ?_
  refine eg_k_aload rfl rfl ?_
  refine eg_k_aload rfl rfl ?_
  refine eg_k_pfr rfl rfl rfl ?_
  exact eg_k_ret rfl rfl (by decide) (by omega) hQ
set_option maxRecDepth 100000 in
theorem ec_16 {sc : eg_Sc} {d : Nat} {r : Nat → Nat → Option Nat} {M : Nat → Nat → Int} {Q : Option eg_V → eg_H → Prop}   (hQ : Q none ([.inr 0, .inr 1, .inl (.byte, 8880), .inl (.int, 444), .inl (.long, 20000), .inl (.int, 20000), .inl (.byte, 20000), .inr 2, .inl (.byte, 3000), .inl (.int, 2000), .inl (.int, 30), .inl (.boolean, 30), .inr 3, .inl (.int, 2000), .inl (.int, 2000)], (eg_u (eg_u (eg_z (eg_u (eg_z r 13 none) 12 1 (some 13)) 14 none) 12 2 (some 14)) 12 0 (some 1)), (eg_z (eg_z M 13 0) 14 0))) : eg_wp sc (d + 1) 16 [.inr (.inr (some 12)), .inr (.inr (some 1))] ([.inr 0, .inr 1, .inl (.byte, 8880), .inl (.int, 444), .inl (.long, 20000), .inl (.int, 20000), .inl (.byte, 20000), .inr 2, .inl (.byte, 3000), .inl (.int, 2000), .inl (.int, 30), .inl (.boolean, 30), .inr 3], r, M) 20 200000 Q := by
  refine eg_in (lv := [some (.inr (.inr (some 12))), some (.inr (.inr (some 1)))]) eg_tj16 (Nat.le_of_ble_eq_true rfl) rfl ?_
  refine eg_k_aload rfl rfl ?_
  refine eg_k_oi rfl (Nat.le_of_ble_eq_true rfl) ?_
  refine eg_k_aload rfl rfl ?_
  refine eg_k_ci rfl ?_
  refine eg_k_newa (a := 13) (l' := [.inr 0, .inr 1, .inl (.byte, 8880), .inl (.int, 444), .inl (.long, 20000), .inl (.int, 20000), .inl (.byte, 20000), .inr 2, .inl (.byte, 3000), .inl (.int, 2000), .inl (.int, 30), .inl (.boolean, 30), .inr 3, .inl (.int, 2000)]) (c' := 1) (z' := 2000) rfl rfl rfl (by decide) (by omega) (by omega) rfl (by omega) (by decide) (by omega) ?_
  refine eg_k_pfa rfl rfl rfl ?_
  refine eg_k_aload rfl rfl ?_
  refine eg_k_ci rfl ?_
  refine eg_k_newa (a := 14) (l' := [.inr 0, .inr 1, .inl (.byte, 8880), .inl (.int, 444), .inl (.long, 20000), .inl (.int, 20000), .inl (.byte, 20000), .inr 2, .inl (.byte, 3000), .inl (.int, 2000), .inl (.int, 30), .inl (.boolean, 30), .inr 3, .inl (.int, 2000), .inl (.int, 2000)]) (c' := 2) (z' := 4000) rfl rfl rfl (by decide) (by omega) (by omega) rfl (by omega) (by decide) (by omega) ?_
  refine eg_k_pfa rfl rfl rfl ?_
  refine eg_k_aload rfl rfl ?_
  refine eg_k_aload rfl rfl ?_
  refine eg_k_pfr rfl rfl rfl ?_
  exact eg_k_ret rfl rfl (by decide) (by omega) hQ
set_option maxRecDepth 100000 in
theorem ec_17 {sc : eg_Sc} {d : Nat} {r : Nat → Nat → Option Nat} {M : Nat → Nat → Int} {Q : Option eg_V → eg_H → Prop} {cn mo : Nat} (h100 : 100 ≤ cn) (h20 : cn ≤ 20000) (hmo : cn / 3 + 1 = mo) (hQ : Q none ([.inr 0, .inr 1, .inl (.byte, 8880), .inl (.int, 444), .inl (.long, 20000), .inl (.int, 20000), .inl (.byte, 20000), .inr 2, .inl (.byte, 3000), .inl (.int, 2000), .inl (.int, 30), .inl (.boolean, 30), .inr 3, .inl (.int, 2000), .inl (.int, 2000), .inr 4, .inl (.long, cn), .inl (.int, mo), .inl (.int, mo), .inl (.int, mo), .inl (.int, mo)], (eg_u (eg_z (eg_u (eg_z (eg_u (eg_z (eg_u (eg_z (eg_u (eg_z r 16 none) 15 1 (some 16)) 17 none) 15 2 (some 17)) 18 none) 15 3 (some 18)) 19 none) 15 4 (some 19)) 20 none) 15 5 (some 20)), (eg_z (eg_z (eg_z (eg_z (eg_z (eg_u M 15 0 (((cn : Nat) : Int))) 16 0) 17 0) 18 0) 19 0) 20 0))) : eg_wp sc (d + 1) 17 [.inr (.inr (some 15)), .inl ((cn : Nat) : Int)] ([.inr 0, .inr 1, .inl (.byte, 8880), .inl (.int, 444), .inl (.long, 20000), .inl (.int, 20000), .inl (.byte, 20000), .inr 2, .inl (.byte, 3000), .inl (.int, 2000), .inl (.int, 30), .inl (.boolean, 30), .inr 3, .inl (.int, 2000), .inl (.int, 2000), .inr 4], r, M) 20 200000 Q := by
  refine eg_in (lv := [some (.inr (.inr (some 15))), some (.inl (((cn : Nat) : Int))), none]) eg_tj17 (Nat.le_of_ble_eq_true rfl) rfl ?_
  have hd3 : eg_wi (eg_wi (Int.tdiv ((cn : Nat) : Int) 3) + 1) = ((mo : Nat) : Int) := by unfold eg_wi; rw [Int.tdiv_eq_ediv_of_nonneg (by omega)]; omega
  refine eg_k_aload rfl rfl ?_
  refine eg_k_oi rfl (Nat.le_of_ble_eq_true rfl) ?_
  refine eg_k_aload rfl rfl ?_
  refine eg_k_iload rfl rfl ?_
  refine eg_k_pfi rfl rfl rfl ?_
  refine eg_k_iload rfl rfl ?_
  refine eg_k_ci rfl ?_
  refine eg_k_idiv rfl (by decide) ?_
  refine eg_k_ci rfl ?_
  refine eg_k_iadd rfl ?_
  rw [hd3]
  refine eg_k_istore (lv' := [some (.inr (.inr (some 15))), some (.inl (((cn : Nat) : Int))), some (.inl (((mo : Nat) : Int)))]) rfl rfl ?_
  refine eg_k_aload rfl rfl ?_
  refine eg_k_iload rfl rfl ?_
  refine eg_k_newa (a := 16) (l' := [.inr 0, .inr 1, .inl (.byte, 8880), .inl (.int, 444), .inl (.long, 20000), .inl (.int, 20000), .inl (.byte, 20000), .inr 2, .inl (.byte, 3000), .inl (.int, 2000), .inl (.int, 30), .inl (.boolean, 30), .inr 3, .inl (.int, 2000), .inl (.int, 2000), .inr 4, .inl (.long, cn)]) (c' := 1) (z' := (0 + cn)) rfl rfl rfl (by decide) (by omega) (by omega) rfl (by omega) (by decide) (by omega) ?_
  refine eg_k_pfa rfl rfl rfl ?_
  refine eg_k_aload rfl rfl ?_
  refine eg_k_iload rfl rfl ?_
  refine eg_k_newa (a := 17) (l' := [.inr 0, .inr 1, .inl (.byte, 8880), .inl (.int, 444), .inl (.long, 20000), .inl (.int, 20000), .inl (.byte, 20000), .inr 2, .inl (.byte, 3000), .inl (.int, 2000), .inl (.int, 30), .inl (.boolean, 30), .inr 3, .inl (.int, 2000), .inl (.int, 2000), .inr 4, .inl (.long, cn), .inl (.int, mo)]) (c' := 2) (z' := ((0 + cn) + mo)) rfl rfl rfl (by decide) (by omega) (by omega) rfl (by omega) (by decide) (by omega) ?_
  refine eg_k_pfa rfl rfl rfl ?_
  refine eg_k_aload rfl rfl ?_
  refine eg_k_iload rfl rfl ?_
  refine eg_k_newa (a := 18) (l' := [.inr 0, .inr 1, .inl (.byte, 8880), .inl (.int, 444), .inl (.long, 20000), .inl (.int, 20000), .inl (.byte, 20000), .inr 2, .inl (.byte, 3000), .inl (.int, 2000), .inl (.int, 30), .inl (.boolean, 30), .inr 3, .inl (.int, 2000), .inl (.int, 2000), .inr 4, .inl (.long, cn), .inl (.int, mo), .inl (.int, mo)]) (c' := 3) (z' := (((0 + cn) + mo) + mo)) rfl rfl rfl (by decide) (by omega) (by omega) rfl (by omega) (by decide) (by omega) ?_
  refine eg_k_pfa rfl rfl rfl ?_
  refine eg_k_aload rfl rfl ?_
  refine eg_k_iload rfl rfl ?_
  refine eg_k_newa (a := 19) (l' := [.inr 0, .inr 1, .inl (.byte, 8880), .inl (.int, 444), .inl (.long, 20000), .inl (.int, 20000), .inl (.byte, 20000), .inr 2, .inl (.byte, 3000), .inl (.int, 2000), .inl (.int, 30), .inl (.boolean, 30), .inr 3, .inl (.int, 2000), .inl (.int, 2000), .inr 4, .inl (.long, cn), .inl (.int, mo), .inl (.int, mo), .inl (.int, mo)]) (c' := 4) (z' := ((((0 + cn) + mo) + mo) + mo)) rfl rfl rfl (by decide) (by omega) (by omega) rfl (by omega) (by decide) (by omega) ?_
  refine eg_k_pfa rfl rfl rfl ?_
  refine eg_k_aload rfl rfl ?_
  refine eg_k_iload rfl rfl ?_
  refine eg_k_newa (a := 20) (l' := [.inr 0, .inr 1, .inl (.byte, 8880), .inl (.int, 444), .inl (.long, 20000), .inl (.int, 20000), .inl (.byte, 20000), .inr 2, .inl (.byte, 3000), .inl (.int, 2000), .inl (.int, 30), .inl (.boolean, 30), .inr 3, .inl (.int, 2000), .inl (.int, 2000), .inr 4, .inl (.long, cn), .inl (.int, mo), .inl (.int, mo), .inl (.int, mo), .inl (.int, mo)]) (c' := 5) (z' := (((((0 + cn) + mo) + mo) + mo) + mo)) rfl rfl rfl (by decide) (by omega) (by omega) rfl (by omega) (by decide) (by omega) ?_
  refine eg_k_pfa rfl rfl rfl ?_
  exact eg_k_ret rfl rfl (by decide) (by omega) hQ
set_option maxRecDepth 100000 in
theorem ec_18 {sc : eg_Sc} {d : Nat} {r : Nat → Nat → Option Nat} {M : Nat → Nat → Int} {Q : Option eg_V → eg_H → Prop} {cn mo : Nat}  (hQ : Q none ([.inr 0, .inr 1, .inl (.byte, 8880), .inl (.int, 444), .inl (.long, 20000), .inl (.int, 20000), .inl (.byte, 20000), .inr 2, .inl (.byte, 3000), .inl (.int, 2000), .inl (.int, 30), .inl (.boolean, 30), .inr 3, .inl (.int, 2000), .inl (.int, 2000), .inr 4, .inl (.long, cn), .inl (.int, mo), .inl (.int, mo), .inl (.int, mo), .inl (.int, mo), .inr 5, .inl (.long, 500), .inl (.long, 500), .inl (.long, 500), .inl (.long, 500)], (eg_u (eg_z (eg_u (eg_z (eg_u (eg_z (eg_u (eg_z r 22 none) 21 0 (some 22)) 23 none) 21 1 (some 23)) 24 none) 21 3 (some 24)) 25 none) 21 4 (some 25)), (eg_z (eg_z (eg_z (eg_z M 22 0) 23 0) 24 0) 25 0))) : eg_wp sc (d + 1) 18 [.inr (.inr (some 21))] ([.inr 0, .inr 1, .inl (.byte, 8880), .inl (.int, 444), .inl (.long, 20000), .inl (.int, 20000), .inl (.byte, 20000), .inr 2, .inl (.byte, 3000), .inl (.int, 2000), .inl (.int, 30), .inl (.boolean, 30), .inr 3, .inl (.int, 2000), .inl (.int, 2000), .inr 4, .inl (.long, cn), .inl (.int, mo), .inl (.int, mo), .inl (.int, mo), .inl (.int, mo), .inr 5], r, M) 20 200000 Q := by
  refine eg_in (lv := [some (.inr (.inr (some 21)))]) eg_tj18 (Nat.le_of_ble_eq_true rfl) rfl ?_
  refine eg_k_aload rfl rfl ?_
  refine eg_k_oi rfl (Nat.le_of_ble_eq_true rfl) ?_
  refine eg_k_aload rfl rfl ?_
  refine eg_k_ci rfl ?_
  refine eg_k_newa (a := 22) (l' := [.inr 0, .inr 1, .inl (.byte, 8880), .inl (.int, 444), .inl (.long, 20000), .inl (.int, 20000), .inl (.byte, 20000), .inr 2, .inl (.byte, 3000), .inl (.int, 2000), .inl (.int, 30), .inl (.boolean, 30), .inr 3, .inl (.int, 2000), .inl (.int, 2000), .inr 4, .inl (.long, cn), .inl (.int, mo), .inl (.int, mo), .inl (.int, mo), .inl (.int, mo), .inr 5, .inl (.long, 500)]) (c' := 1) (z' := 500) rfl rfl rfl (by decide) (by omega) (by omega) rfl (by omega) (by decide) (by omega) ?_
  refine eg_k_pfa rfl rfl rfl ?_
  refine eg_k_aload rfl rfl ?_
  refine eg_k_ci rfl ?_
  refine eg_k_newa (a := 23) (l' := [.inr 0, .inr 1, .inl (.byte, 8880), .inl (.int, 444), .inl (.long, 20000), .inl (.int, 20000), .inl (.byte, 20000), .inr 2, .inl (.byte, 3000), .inl (.int, 2000), .inl (.int, 30), .inl (.boolean, 30), .inr 3, .inl (.int, 2000), .inl (.int, 2000), .inr 4, .inl (.long, cn), .inl (.int, mo), .inl (.int, mo), .inl (.int, mo), .inl (.int, mo), .inr 5, .inl (.long, 500), .inl (.long, 500)]) (c' := 2) (z' := 1000) rfl rfl rfl (by decide) (by omega) (by omega) rfl (by omega) (by decide) (by omega) ?_
  refine eg_k_pfa rfl rfl rfl ?_
  refine eg_k_aload rfl rfl ?_
  refine eg_k_ci rfl ?_
  refine eg_k_newa (a := 24) (l' := [.inr 0, .inr 1, .inl (.byte, 8880), .inl (.int, 444), .inl (.long, 20000), .inl (.int, 20000), .inl (.byte, 20000), .inr 2, .inl (.byte, 3000), .inl (.int, 2000), .inl (.int, 30), .inl (.boolean, 30), .inr 3, .inl (.int, 2000), .inl (.int, 2000), .inr 4, .inl (.long, cn), .inl (.int, mo), .inl (.int, mo), .inl (.int, mo), .inl (.int, mo), .inr 5, .inl (.long, 500), .inl (.long, 500), .inl (.long, 500)]) (c' := 3) (z' := 1500) rfl rfl rfl (by decide) (by omega) (by omega) rfl (by omega) (by decide) (by omega) ?_
  refine eg_k_pfa rfl rfl rfl ?_
  refine eg_k_aload rfl rfl ?_
  refine eg_k_ci rfl ?_
  refine eg_k_newa (a := 25) (l' := [.inr 0, .inr 1, .inl (.byte, 8880), .inl (.int, 444), .inl (.long, 20000), .inl (.int, 20000), .inl (.byte, 20000), .inr 2, .inl (.byte, 3000), .inl (.int, 2000), .inl (.int, 30), .inl (.boolean, 30), .inr 3, .inl (.int, 2000), .inl (.int, 2000), .inr 4, .inl (.long, cn), .inl (.int, mo), .inl (.int, mo), .inl (.int, mo), .inl (.int, mo), .inr 5, .inl (.long, 500), .inl (.long, 500), .inl (.long, 500), .inl (.long, 500)]) (c' := 4) (z' := 2000) rfl rfl rfl (by decide) (by omega) (by omega) rfl (by omega) (by decide) (by omega) ?_
  refine eg_k_pfa rfl rfl rfl ?_
  exact eg_k_ret rfl rfl (by decide) (by omega) hQ
set_option maxRecDepth 100000 in
theorem ec_19 {sc : eg_Sc} {d : Nat} {r : Nat → Nat → Option Nat} {M : Nat → Nat → Int} {Q : Option eg_V → eg_H → Prop} {cn mo : Nat}  (hQ : Q none ([.inr 0, .inr 1, .inl (.byte, 8880), .inl (.int, 444), .inl (.long, 20000), .inl (.int, 20000), .inl (.byte, 20000), .inr 2, .inl (.byte, 3000), .inl (.int, 2000), .inl (.int, 30), .inl (.boolean, 30), .inr 3, .inl (.int, 2000), .inl (.int, 2000), .inr 4, .inl (.long, cn), .inl (.int, mo), .inl (.int, mo), .inl (.int, mo), .inl (.int, mo), .inr 5, .inl (.long, 500), .inl (.long, 500), .inl (.long, 500), .inl (.long, 500), .inr 6, .inl (.byte, 4000), .inl (.byte, 10)], (eg_u (eg_u (eg_u (eg_z (eg_u (eg_z r 27 none) 26 2 (some 27)) 28 none) 26 7 (some 28)) 26 0 (some 1)) 26 1 (some 15)), (eg_z (eg_z M 27 0) 28 0))) : eg_wp sc (d + 1) 19 [.inr (.inr (some 26)), .inr (.inr (some 1)), .inr (.inr (some 15))] ([.inr 0, .inr 1, .inl (.byte, 8880), .inl (.int, 444), .inl (.long, 20000), .inl (.int, 20000), .inl (.byte, 20000), .inr 2, .inl (.byte, 3000), .inl (.int, 2000), .inl (.int, 30), .inl (.boolean, 30), .inr 3, .inl (.int, 2000), .inl (.int, 2000), .inr 4, .inl (.long, cn), .inl (.int, mo), .inl (.int, mo), .inl (.int, mo), .inl (.int, mo), .inr 5, .inl (.long, 500), .inl (.long, 500), .inl (.long, 500), .inl (.long, 500), .inr 6], r, M) 20 200000 Q := by
  refine eg_in (lv := [some (.inr (.inr (some 26))), some (.inr (.inr (some 1))), some (.inr (.inr (some 15)))]) eg_tj19 (Nat.le_of_ble_eq_true rfl) rfl ?_
  refine eg_k_aload rfl rfl ?_
  refine eg_k_oi rfl (Nat.le_of_ble_eq_true rfl) ?_
  refine eg_k_aload rfl rfl ?_
  refine eg_k_ci rfl ?_
  refine eg_k_newa (a := 27) (l' := [.inr 0, .inr 1, .inl (.byte, 8880), .inl (.int, 444), .inl (.long, 20000), .inl (.int, 20000), .inl (.byte, 20000), .inr 2, .inl (.byte, 3000), .inl (.int, 2000), .inl (.int, 30), .inl (.boolean, 30), .inr 3, .inl (.int, 2000), .inl (.int, 2000), .inr 4, .inl (.long, cn), .inl (.int, mo), .inl (.int, mo), .inl (.int, mo), .inl (.int, mo), .inr 5, .inl (.long, 500), .inl (.long, 500), .inl (.long, 500), .inl (.long, 500), .inr 6, .inl (.byte, 4000)]) (c' := 1) (z' := 4000) rfl rfl rfl (by decide) (by omega) (by omega) rfl (by omega) (by decide) (by omega) ?_
  refine eg_k_pfa rfl rfl rfl ?_
  refine eg_k_aload rfl rfl ?_
  refine eg_k_ci rfl ?_
  refine eg_k_newa (a := 28) (l' := [.inr 0, .inr 1, .inl (.byte, 8880), .inl (.int, 444), .inl (.long, 20000), .inl (.int, 20000), .inl (.byte, 20000), .inr 2, .inl (.byte, 3000), .inl (.int, 2000), .inl (.int, 30), .inl (.boolean, 30), .inr 3, .inl (.int, 2000), .inl (.int, 2000), .inr 4, .inl (.long, cn), .inl (.int, mo), .inl (.int, mo), .inl (.int, mo), .inl (.int, mo), .inr 5, .inl (.long, 500), .inl (.long, 500), .inl (.long, 500), .inl (.long, 500), .inr 6, .inl (.byte, 4000), .inl (.byte, 10)]) (c' := 2) (z' := 4010) rfl rfl rfl (by decide) (by omega) (by omega) rfl (by omega) (by decide) (by omega) ?_
  refine eg_k_pfa rfl rfl rfl ?_
  refine eg_k_aload rfl rfl ?_
  refine eg_k_aload rfl rfl ?_
  refine eg_k_pfr rfl rfl rfl ?_
  refine eg_k_aload rfl rfl ?_
  refine eg_k_aload rfl rfl ?_
  refine eg_k_pfr rfl rfl rfl ?_
  exact eg_k_ret rfl rfl (by decide) (by omega) hQ
set_option maxRecDepth 100000 in
theorem ec_20 {sc : eg_Sc} {d : Nat} {r : Nat → Nat → Option Nat} {M : Nat → Nat → Int} {Q : Option eg_V → eg_H → Prop} {cn mo : Nat}  (hQ : Q none ([.inr 0, .inr 1, .inl (.byte, 8880), .inl (.int, 444), .inl (.long, 20000), .inl (.int, 20000), .inl (.byte, 20000), .inr 2, .inl (.byte, 3000), .inl (.int, 2000), .inl (.int, 30), .inl (.boolean, 30), .inr 3, .inl (.int, 2000), .inl (.int, 2000), .inr 4, .inl (.long, cn), .inl (.int, mo), .inl (.int, mo), .inl (.int, mo), .inl (.int, mo), .inr 5, .inl (.long, 500), .inl (.long, 500), .inl (.long, 500), .inl (.long, 500), .inr 6, .inl (.byte, 4000), .inl (.byte, 10), .inr 7, .inl (.int, 2000), .inl (.int, 2000), .inl (.int, 2000), .inl (.int, 2000), .inl (.int, 2000), .inl (.long, 18000), .inl (.long, 32)], (eg_u (eg_z (eg_u (eg_z (eg_u (eg_z (eg_u (eg_z (eg_u (eg_z (eg_u (eg_z (eg_u (eg_z r 30 none) 29 1 (some 30)) 31 none) 29 2 (some 31)) 32 none) 29 3 (some 32)) 33 none) 29 4 (some 33)) 34 none) 29 5 (some 34)) 35 none) 29 6 (some 35)) 36 none) 29 7 (some 36)), (eg_z (eg_z (eg_z (eg_z (eg_z (eg_z (eg_z M 30 0) 31 0) 32 0) 33 0) 34 0) 35 0) 36 0))) : eg_wp sc (d + 1) 20 [.inr (.inr (some 29))] ([.inr 0, .inr 1, .inl (.byte, 8880), .inl (.int, 444), .inl (.long, 20000), .inl (.int, 20000), .inl (.byte, 20000), .inr 2, .inl (.byte, 3000), .inl (.int, 2000), .inl (.int, 30), .inl (.boolean, 30), .inr 3, .inl (.int, 2000), .inl (.int, 2000), .inr 4, .inl (.long, cn), .inl (.int, mo), .inl (.int, mo), .inl (.int, mo), .inl (.int, mo), .inr 5, .inl (.long, 500), .inl (.long, 500), .inl (.long, 500), .inl (.long, 500), .inr 6, .inl (.byte, 4000), .inl (.byte, 10), .inr 7], r, M) 20 200000 Q := by
  refine eg_in (lv := [some (.inr (.inr (some 29)))]) eg_tj20 (Nat.le_of_ble_eq_true rfl) rfl ?_
  refine eg_k_aload rfl rfl ?_
  refine eg_k_oi rfl (Nat.le_of_ble_eq_true rfl) ?_
  refine eg_k_aload rfl rfl ?_
  refine eg_k_ci rfl ?_
  refine eg_k_newa (a := 30) (l' := [.inr 0, .inr 1, .inl (.byte, 8880), .inl (.int, 444), .inl (.long, 20000), .inl (.int, 20000), .inl (.byte, 20000), .inr 2, .inl (.byte, 3000), .inl (.int, 2000), .inl (.int, 30), .inl (.boolean, 30), .inr 3, .inl (.int, 2000), .inl (.int, 2000), .inr 4, .inl (.long, cn), .inl (.int, mo), .inl (.int, mo), .inl (.int, mo), .inl (.int, mo), .inr 5, .inl (.long, 500), .inl (.long, 500), .inl (.long, 500), .inl (.long, 500), .inr 6, .inl (.byte, 4000), .inl (.byte, 10), .inr 7, .inl (.int, 2000)]) (c' := 1) (z' := 2000) rfl rfl rfl (by decide) (by omega) (by omega) rfl (by omega) (by decide) (by omega) ?_
  refine eg_k_pfa rfl rfl rfl ?_
  refine eg_k_aload rfl rfl ?_
  refine eg_k_ci rfl ?_
  refine eg_k_newa (a := 31) (l' := [.inr 0, .inr 1, .inl (.byte, 8880), .inl (.int, 444), .inl (.long, 20000), .inl (.int, 20000), .inl (.byte, 20000), .inr 2, .inl (.byte, 3000), .inl (.int, 2000), .inl (.int, 30), .inl (.boolean, 30), .inr 3, .inl (.int, 2000), .inl (.int, 2000), .inr 4, .inl (.long, cn), .inl (.int, mo), .inl (.int, mo), .inl (.int, mo), .inl (.int, mo), .inr 5, .inl (.long, 500), .inl (.long, 500), .inl (.long, 500), .inl (.long, 500), .inr 6, .inl (.byte, 4000), .inl (.byte, 10), .inr 7, .inl (.int, 2000), .inl (.int, 2000)]) (c' := 2) (z' := 4000) rfl rfl rfl (by decide) (by omega) (by omega) rfl (by omega) (by decide) (by omega) ?_
  refine eg_k_pfa rfl rfl rfl ?_
  refine eg_k_aload rfl rfl ?_
  refine eg_k_ci rfl ?_
  refine eg_k_newa (a := 32) (l' := [.inr 0, .inr 1, .inl (.byte, 8880), .inl (.int, 444), .inl (.long, 20000), .inl (.int, 20000), .inl (.byte, 20000), .inr 2, .inl (.byte, 3000), .inl (.int, 2000), .inl (.int, 30), .inl (.boolean, 30), .inr 3, .inl (.int, 2000), .inl (.int, 2000), .inr 4, .inl (.long, cn), .inl (.int, mo), .inl (.int, mo), .inl (.int, mo), .inl (.int, mo), .inr 5, .inl (.long, 500), .inl (.long, 500), .inl (.long, 500), .inl (.long, 500), .inr 6, .inl (.byte, 4000), .inl (.byte, 10), .inr 7, .inl (.int, 2000), .inl (.int, 2000), .inl (.int, 2000)]) (c' := 3) (z' := 6000) rfl rfl rfl (by decide) (by omega) (by omega) rfl (by omega) (by decide) (by omega) ?_
  refine eg_k_pfa rfl rfl rfl ?_
  refine eg_k_aload rfl rfl ?_
  refine eg_k_ci rfl ?_
  refine eg_k_newa (a := 33) (l' := [.inr 0, .inr 1, .inl (.byte, 8880), .inl (.int, 444), .inl (.long, 20000), .inl (.int, 20000), .inl (.byte, 20000), .inr 2, .inl (.byte, 3000), .inl (.int, 2000), .inl (.int, 30), .inl (.boolean, 30), .inr 3, .inl (.int, 2000), .inl (.int, 2000), .inr 4, .inl (.long, cn), .inl (.int, mo), .inl (.int, mo), .inl (.int, mo), .inl (.int, mo), .inr 5, .inl (.long, 500), .inl (.long, 500), .inl (.long, 500), .inl (.long, 500), .inr 6, .inl (.byte, 4000), .inl (.byte, 10), .inr 7, .inl (.int, 2000), .inl (.int, 2000), .inl (.int, 2000), .inl (.int, 2000)]) (c' := 4) (z' := 8000) rfl rfl rfl (by decide) (by omega) (by omega) rfl (by omega) (by decide) (by omega) ?_
  refine eg_k_pfa rfl rfl rfl ?_
  refine eg_k_aload rfl rfl ?_
  refine eg_k_ci rfl ?_
  refine eg_k_newa (a := 34) (l' := [.inr 0, .inr 1, .inl (.byte, 8880), .inl (.int, 444), .inl (.long, 20000), .inl (.int, 20000), .inl (.byte, 20000), .inr 2, .inl (.byte, 3000), .inl (.int, 2000), .inl (.int, 30), .inl (.boolean, 30), .inr 3, .inl (.int, 2000), .inl (.int, 2000), .inr 4, .inl (.long, cn), .inl (.int, mo), .inl (.int, mo), .inl (.int, mo), .inl (.int, mo), .inr 5, .inl (.long, 500), .inl (.long, 500), .inl (.long, 500), .inl (.long, 500), .inr 6, .inl (.byte, 4000), .inl (.byte, 10), .inr 7, .inl (.int, 2000), .inl (.int, 2000), .inl (.int, 2000), .inl (.int, 2000), .inl (.int, 2000)]) (c' := 5) (z' := 10000) rfl rfl rfl (by decide) (by omega) (by omega) rfl (by omega) (by decide) (by omega) ?_
  refine eg_k_pfa rfl rfl rfl ?_
  refine eg_k_aload rfl rfl ?_
  refine eg_k_ci rfl ?_
  refine eg_k_newa (a := 35) (l' := [.inr 0, .inr 1, .inl (.byte, 8880), .inl (.int, 444), .inl (.long, 20000), .inl (.int, 20000), .inl (.byte, 20000), .inr 2, .inl (.byte, 3000), .inl (.int, 2000), .inl (.int, 30), .inl (.boolean, 30), .inr 3, .inl (.int, 2000), .inl (.int, 2000), .inr 4, .inl (.long, cn), .inl (.int, mo), .inl (.int, mo), .inl (.int, mo), .inl (.int, mo), .inr 5, .inl (.long, 500), .inl (.long, 500), .inl (.long, 500), .inl (.long, 500), .inr 6, .inl (.byte, 4000), .inl (.byte, 10), .inr 7, .inl (.int, 2000), .inl (.int, 2000), .inl (.int, 2000), .inl (.int, 2000), .inl (.int, 2000), .inl (.long, 18000)]) (c' := 6) (z' := 28000) rfl rfl rfl (by decide) (by omega) (by omega) rfl (by omega) (by decide) (by omega) ?_
  refine eg_k_pfa rfl rfl rfl ?_
  refine eg_k_aload rfl rfl ?_
  refine eg_k_ci rfl ?_
  refine eg_k_newa (a := 36) (l' := [.inr 0, .inr 1, .inl (.byte, 8880), .inl (.int, 444), .inl (.long, 20000), .inl (.int, 20000), .inl (.byte, 20000), .inr 2, .inl (.byte, 3000), .inl (.int, 2000), .inl (.int, 30), .inl (.boolean, 30), .inr 3, .inl (.int, 2000), .inl (.int, 2000), .inr 4, .inl (.long, cn), .inl (.int, mo), .inl (.int, mo), .inl (.int, mo), .inl (.int, mo), .inr 5, .inl (.long, 500), .inl (.long, 500), .inl (.long, 500), .inl (.long, 500), .inr 6, .inl (.byte, 4000), .inl (.byte, 10), .inr 7, .inl (.int, 2000), .inl (.int, 2000), .inl (.int, 2000), .inl (.int, 2000), .inl (.int, 2000), .inl (.long, 18000), .inl (.long, 32)]) (c' := 7) (z' := 28032) rfl rfl rfl (by decide) (by omega) (by omega) rfl (by omega) (by decide) (by omega) ?_
  refine eg_k_pfa rfl rfl rfl ?_
  exact eg_k_ret rfl rfl (by decide) (by omega) hQ
set_option maxRecDepth 100000 in
theorem ec_23 {sc : eg_Sc} {d : Nat} {r : Nat → Nat → Option Nat} {M : Nat → Nat → Int} {Q : Option eg_V → eg_H → Prop} {cn mo : Nat} (h100 : 100 ≤ cn) (h20 : cn ≤ 20000) (hmo : cn / 3 + 1 = mo) (hr : r 15 3 = some 18) (hQ : ∀ mo5, mo + 500 = mo5 → Q none ([.inr 0, .inr 1, .inl (.byte, 8880), .inl (.int, 444), .inl (.long, 20000), .inl (.int, 20000), .inl (.byte, 20000), .inr 2, .inl (.byte, 3000), .inl (.int, 2000), .inl (.int, 30), .inl (.boolean, 30), .inr 3, .inl (.int, 2000), .inl (.int, 2000), .inr 4, .inl (.long, cn), .inl (.int, mo), .inl (.int, mo), .inl (.int, mo), .inl (.int, mo), .inr 5, .inl (.long, 500), .inl (.long, 500), .inl (.long, 500), .inl (.long, 500), .inr 6, .inl (.byte, 4000), .inl (.byte, 10), .inr 7, .inl (.int, 2000), .inl (.int, 2000), .inl (.int, 2000), .inl (.int, 2000), .inl (.int, 2000), .inl (.long, 18000), .inl (.long, 32), .inl (.long, 444), .inr 8, .inl (.byte, mo), .inl (.int, mo), .inl (.int, mo), .inl (.int, mo5)], (eg_u (eg_z (eg_u (eg_z (eg_u (eg_z (eg_u (eg_z (eg_u (eg_u (eg_u (eg_u (eg_u r 38 0 (some 1)) 38 1 (some 15)) 38 2 (some 21)) 38 3 (some 29)) 38 4 (some 37)) 39 none) 38 6 (some 39)) 40 none) 38 7 (some 40)) 41 none) 38 9 (some 41)) 42 none) 38 10 (some 42)), (eg_z (eg_z (eg_z (eg_z (eg_u M 38 11 (((mo : Nat) : Int))) 39 0) 40 0) 41 0) 42 0))) : eg_wp sc (d + 1) 23 [.inr (.inr (some 38)), .inr (.inr (some 1)), .inr (.inr (some 15)), .inr (.inr (some 21)), .inr (.inr (some 29)), .inr (.inr (some 37))] ([.inr 0, .inr 1, .inl (.byte, 8880), .inl (.int, 444), .inl (.long, 20000), .inl (.int, 20000), .inl (.byte, 20000), .inr 2, .inl (.byte, 3000), .inl (.int, 2000), .inl (.int, 30), .inl (.boolean, 30), .inr 3, .inl (.int, 2000), .inl (.int, 2000), .inr 4, .inl (.long, cn), .inl (.int, mo), .inl (.int, mo), .inl (.int, mo), .inl (.int, mo), .inr 5, .inl (.long, 500), .inl (.long, 500), .inl (.long, 500), .inl (.long, 500), .inr 6, .inl (.byte, 4000), .inl (.byte, 10), .inr 7, .inl (.int, 2000), .inl (.int, 2000), .inl (.int, 2000), .inl (.int, 2000), .inl (.int, 2000), .inl (.long, 18000), .inl (.long, 32), .inl (.long, 444), .inr 8], r, M) 20 200000 Q := by
  refine eg_in (lv := [some (.inr (.inr (some 38))), some (.inr (.inr (some 1))), some (.inr (.inr (some 15))), some (.inr (.inr (some 21))), some (.inr (.inr (some 29))), some (.inr (.inr (some 37)))]) eg_tj23 (Nat.le_of_ble_eq_true rfl) rfl ?_
  refine eg_k_aload rfl rfl ?_
  refine eg_k_oi rfl (Nat.le_of_ble_eq_true rfl) ?_
  refine eg_k_aload rfl rfl ?_
  refine eg_k_aload rfl rfl ?_
  refine eg_k_pfr rfl rfl rfl ?_
  refine eg_k_aload rfl rfl ?_
  refine eg_k_aload rfl rfl ?_
  refine eg_k_pfr rfl rfl rfl ?_
  refine eg_k_aload rfl rfl ?_
  refine eg_k_aload rfl rfl ?_
  refine eg_k_pfr rfl rfl rfl ?_
  refine eg_k_aload rfl rfl ?_
  refine eg_k_aload rfl rfl ?_
  refine eg_k_pfr rfl rfl rfl ?_
  refine eg_k_aload rfl rfl ?_
  refine eg_k_aload rfl rfl ?_
  refine eg_k_pfa rfl rfl rfl ?_
  refine eg_k_aload rfl rfl ?_
  refine eg_k_aload rfl rfl ?_
  refine eg_k_gfa (b := 18) rfl rfl rfl hr ?_
  refine eg_k_alen (k := mo) rfl rfl ?_
  refine eg_k_pfi rfl rfl rfl ?_
  refine eg_k_aload rfl rfl ?_
  refine eg_k_aload rfl rfl ?_
  refine eg_k_gfie (x := ((mo : Nat) : Int)) rfl rfl rfl rfl ?_
  refine eg_k_newa (a := 39) (l' := [.inr 0, .inr 1, .inl (.byte, 8880), .inl (.int, 444), .inl (.long, 20000), .inl (.int, 20000), .inl (.byte, 20000), .inr 2, .inl (.byte, 3000), .inl (.int, 2000), .inl (.int, 30), .inl (.boolean, 30), .inr 3, .inl (.int, 2000), .inl (.int, 2000), .inr 4, .inl (.long, cn), .inl (.int, mo), .inl (.int, mo), .inl (.int, mo), .inl (.int, mo), .inr 5, .inl (.long, 500), .inl (.long, 500), .inl (.long, 500), .inl (.long, 500), .inr 6, .inl (.byte, 4000), .inl (.byte, 10), .inr 7, .inl (.int, 2000), .inl (.int, 2000), .inl (.int, 2000), .inl (.int, 2000), .inl (.int, 2000), .inl (.long, 18000), .inl (.long, 32), .inl (.long, 444), .inr 8, .inl (.byte, mo)]) (c' := 1) (z' := (0 + mo)) rfl rfl rfl (by decide) (by omega) (by omega) rfl (by omega) (by decide) (by omega) ?_
  refine eg_k_pfa rfl rfl rfl ?_
  refine eg_k_aload rfl rfl ?_
  refine eg_k_aload rfl rfl ?_
  refine eg_k_gfie (x := ((mo : Nat) : Int)) rfl rfl rfl rfl ?_
  refine eg_k_newa (a := 40) (l' := [.inr 0, .inr 1, .inl (.byte, 8880), .inl (.int, 444), .inl (.long, 20000), .inl (.int, 20000), .inl (.byte, 20000), .inr 2, .inl (.byte, 3000), .inl (.int, 2000), .inl (.int, 30), .inl (.boolean, 30), .inr 3, .inl (.int, 2000), .inl (.int, 2000), .inr 4, .inl (.long, cn), .inl (.int, mo), .inl (.int, mo), .inl (.int, mo), .inl (.int, mo), .inr 5, .inl (.long, 500), .inl (.long, 500), .inl (.long, 500), .inl (.long, 500), .inr 6, .inl (.byte, 4000), .inl (.byte, 10), .inr 7, .inl (.int, 2000), .inl (.int, 2000), .inl (.int, 2000), .inl (.int, 2000), .inl (.int, 2000), .inl (.long, 18000), .inl (.long, 32), .inl (.long, 444), .inr 8, .inl (.byte, mo), .inl (.int, mo)]) (c' := 2) (z' := ((0 + mo) + mo)) rfl rfl rfl (by decide) (by omega) (by omega) rfl (by omega) (by decide) (by omega) ?_
  refine eg_k_pfa rfl rfl rfl ?_
  refine eg_k_aload rfl rfl ?_
  refine eg_k_aload rfl rfl ?_
  refine eg_k_gfie (x := ((mo : Nat) : Int)) rfl rfl rfl rfl ?_
  refine eg_k_newa (a := 41) (l' := [.inr 0, .inr 1, .inl (.byte, 8880), .inl (.int, 444), .inl (.long, 20000), .inl (.int, 20000), .inl (.byte, 20000), .inr 2, .inl (.byte, 3000), .inl (.int, 2000), .inl (.int, 30), .inl (.boolean, 30), .inr 3, .inl (.int, 2000), .inl (.int, 2000), .inr 4, .inl (.long, cn), .inl (.int, mo), .inl (.int, mo), .inl (.int, mo), .inl (.int, mo), .inr 5, .inl (.long, 500), .inl (.long, 500), .inl (.long, 500), .inl (.long, 500), .inr 6, .inl (.byte, 4000), .inl (.byte, 10), .inr 7, .inl (.int, 2000), .inl (.int, 2000), .inl (.int, 2000), .inl (.int, 2000), .inl (.int, 2000), .inl (.long, 18000), .inl (.long, 32), .inl (.long, 444), .inr 8, .inl (.byte, mo), .inl (.int, mo), .inl (.int, mo)]) (c' := 3) (z' := (((0 + mo) + mo) + mo)) rfl rfl rfl (by decide) (by omega) (by omega) rfl (by omega) (by decide) (by omega) ?_
  refine eg_k_pfa rfl rfl rfl ?_
  refine eg_k_aload rfl rfl ?_
  refine eg_k_aload rfl rfl ?_
  refine eg_k_gfie (x := ((mo : Nat) : Int)) rfl rfl rfl rfl ?_
  refine eg_k_ci rfl ?_
  refine eg_k_iadd rfl ?_
  have hw5 : eg_wi (((mo : Nat) : Int) + 500) = ((mo + 500 : Nat) : Int) := by unfold eg_wi; omega
  rw [hw5]
  generalize hm5 : mo + 500 = mo5
  refine eg_k_newa (a := 42) (l' := [.inr 0, .inr 1, .inl (.byte, 8880), .inl (.int, 444), .inl (.long, 20000), .inl (.int, 20000), .inl (.byte, 20000), .inr 2, .inl (.byte, 3000), .inl (.int, 2000), .inl (.int, 30), .inl (.boolean, 30), .inr 3, .inl (.int, 2000), .inl (.int, 2000), .inr 4, .inl (.long, cn), .inl (.int, mo), .inl (.int, mo), .inl (.int, mo), .inl (.int, mo), .inr 5, .inl (.long, 500), .inl (.long, 500), .inl (.long, 500), .inl (.long, 500), .inr 6, .inl (.byte, 4000), .inl (.byte, 10), .inr 7, .inl (.int, 2000), .inl (.int, 2000), .inl (.int, 2000), .inl (.int, 2000), .inl (.int, 2000), .inl (.long, 18000), .inl (.long, 32), .inl (.long, 444), .inr 8, .inl (.byte, mo), .inl (.int, mo), .inl (.int, mo), .inl (.int, mo5)]) (c' := 4) (z' := ((((0 + mo) + mo) + mo) + mo5)) rfl rfl rfl (by decide) (by omega) (by omega) rfl (by omega) (by decide) (by omega) ?_
  refine eg_k_pfa rfl rfl rfl ?_
  exact eg_k_ret rfl rfl (by decide) (by omega) (hQ _ hm5)
set_option maxRecDepth 100000 in
theorem ec_24 {sc : eg_Sc} {d : Nat} {r : Nat → Nat → Option Nat} {M : Nat → Nat → Int} {Q : Option eg_V → eg_H → Prop} {cn mo mo5 : Nat}  (hQ : Q none ([.inr 0, .inr 1, .inl (.byte, 8880), .inl (.int, 444), .inl (.long, 20000), .inl (.int, 20000), .inl (.byte, 20000), .inr 2, .inl (.byte, 3000), .inl (.int, 2000), .inl (.int, 30), .inl (.boolean, 30), .inr 3, .inl (.int, 2000), .inl (.int, 2000), .inr 4, .inl (.long, cn), .inl (.int, mo), .inl (.int, mo), .inl (.int, mo), .inl (.int, mo), .inr 5, .inl (.long, 500), .inl (.long, 500), .inl (.long, 500), .inl (.long, 500), .inr 6, .inl (.byte, 4000), .inl (.byte, 10), .inr 7, .inl (.int, 2000), .inl (.int, 2000), .inl (.int, 2000), .inl (.int, 2000), .inl (.int, 2000), .inl (.long, 18000), .inl (.long, 32), .inl (.long, 444), .inr 8, .inl (.byte, mo), .inl (.int, mo), .inl (.int, mo), .inl (.int, mo5), .inr 9], (eg_u (eg_u (eg_u (eg_u r 43 0 (some 1)) 43 1 (some 15)) 43 2 (some 21)) 43 3 (some 26)), M)) : eg_wp sc (d + 1) 24 [.inr (.inr (some 43)), .inr (.inr (some 1)), .inr (.inr (some 15)), .inr (.inr (some 21)), .inr (.inr (some 26))] ([.inr 0, .inr 1, .inl (.byte, 8880), .inl (.int, 444), .inl (.long, 20000), .inl (.int, 20000), .inl (.byte, 20000), .inr 2, .inl (.byte, 3000), .inl (.int, 2000), .inl (.int, 30), .inl (.boolean, 30), .inr 3, .inl (.int, 2000), .inl (.int, 2000), .inr 4, .inl (.long, cn), .inl (.int, mo), .inl (.int, mo), .inl (.int, mo), .inl (.int, mo), .inr 5, .inl (.long, 500), .inl (.long, 500), .inl (.long, 500), .inl (.long, 500), .inr 6, .inl (.byte, 4000), .inl (.byte, 10), .inr 7, .inl (.int, 2000), .inl (.int, 2000), .inl (.int, 2000), .inl (.int, 2000), .inl (.int, 2000), .inl (.long, 18000), .inl (.long, 32), .inl (.long, 444), .inr 8, .inl (.byte, mo), .inl (.int, mo), .inl (.int, mo), .inl (.int, mo5), .inr 9], r, M) 20 200000 Q := by
  refine eg_in (lv := [some (.inr (.inr (some 43))), some (.inr (.inr (some 1))), some (.inr (.inr (some 15))), some (.inr (.inr (some 21))), some (.inr (.inr (some 26)))]) eg_tj24 (Nat.le_of_ble_eq_true rfl) rfl ?_
  refine eg_k_aload rfl rfl ?_
  refine eg_k_oi rfl (Nat.le_of_ble_eq_true rfl) ?_
  refine eg_k_aload rfl rfl ?_
  refine eg_k_aload rfl rfl ?_
  refine eg_k_pfr rfl rfl rfl ?_
  refine eg_k_aload rfl rfl ?_
  refine eg_k_aload rfl rfl ?_
  refine eg_k_pfr rfl rfl rfl ?_
  refine eg_k_aload rfl rfl ?_
  refine eg_k_aload rfl rfl ?_
  refine eg_k_pfr rfl rfl rfl ?_
  refine eg_k_aload rfl rfl ?_
  refine eg_k_aload rfl rfl ?_
  refine eg_k_pfr rfl rfl rfl ?_
  exact eg_k_ret rfl rfl (by decide) (by omega) hQ
set_option maxRecDepth 100000 in
theorem ec_25 {sc : eg_Sc} {d : Nat} {r : Nat → Nat → Option Nat} {M : Nat → Nat → Int} {Q : Option eg_V → eg_H → Prop} {cn mo mo5 : Nat}  (hQ : Q none ([.inr 0, .inr 1, .inl (.byte, 8880), .inl (.int, 444), .inl (.long, 20000), .inl (.int, 20000), .inl (.byte, 20000), .inr 2, .inl (.byte, 3000), .inl (.int, 2000), .inl (.int, 30), .inl (.boolean, 30), .inr 3, .inl (.int, 2000), .inl (.int, 2000), .inr 4, .inl (.long, cn), .inl (.int, mo), .inl (.int, mo), .inl (.int, mo), .inl (.int, mo), .inr 5, .inl (.long, 500), .inl (.long, 500), .inl (.long, 500), .inl (.long, 500), .inr 6, .inl (.byte, 4000), .inl (.byte, 10), .inr 7, .inl (.int, 2000), .inl (.int, 2000), .inl (.int, 2000), .inl (.int, 2000), .inl (.int, 2000), .inl (.long, 18000), .inl (.long, 32), .inl (.long, 444), .inr 8, .inl (.byte, mo), .inl (.int, mo), .inl (.int, mo), .inl (.int, mo5), .inr 9, .inr 10], (eg_u (eg_u (eg_u (eg_u (eg_u (eg_u (eg_u r 44 0 (some 1)) 44 1 (some 15)) 44 2 (some 21)) 44 3 (some 29)) 44 4 (some 37)) 44 5 (some 43)) 44 6 (some 38)), M)) : eg_wp sc (d + 1) 25 [.inr (.inr (some 44)), .inr (.inr (some 1)), .inr (.inr (some 15)), .inr (.inr (some 21)), .inr (.inr (some 29)), .inr (.inr (some 37)), .inr (.inr (some 43)), .inr (.inr (some 38))] ([.inr 0, .inr 1, .inl (.byte, 8880), .inl (.int, 444), .inl (.long, 20000), .inl (.int, 20000), .inl (.byte, 20000), .inr 2, .inl (.byte, 3000), .inl (.int, 2000), .inl (.int, 30), .inl (.boolean, 30), .inr 3, .inl (.int, 2000), .inl (.int, 2000), .inr 4, .inl (.long, cn), .inl (.int, mo), .inl (.int, mo), .inl (.int, mo), .inl (.int, mo), .inr 5, .inl (.long, 500), .inl (.long, 500), .inl (.long, 500), .inl (.long, 500), .inr 6, .inl (.byte, 4000), .inl (.byte, 10), .inr 7, .inl (.int, 2000), .inl (.int, 2000), .inl (.int, 2000), .inl (.int, 2000), .inl (.int, 2000), .inl (.long, 18000), .inl (.long, 32), .inl (.long, 444), .inr 8, .inl (.byte, mo), .inl (.int, mo), .inl (.int, mo), .inl (.int, mo5), .inr 9, .inr 10], r, M) 20 200000 Q := by
  refine eg_in (lv := [some (.inr (.inr (some 44))), some (.inr (.inr (some 1))), some (.inr (.inr (some 15))), some (.inr (.inr (some 21))), some (.inr (.inr (some 29))), some (.inr (.inr (some 37))), some (.inr (.inr (some 43))), some (.inr (.inr (some 38)))]) eg_tj25 (Nat.le_of_ble_eq_true rfl) rfl ?_
  refine eg_k_aload rfl rfl ?_
  refine eg_k_oi rfl (Nat.le_of_ble_eq_true rfl) ?_
  refine eg_k_aload rfl rfl ?_
  refine eg_k_aload rfl rfl ?_
  refine eg_k_pfr rfl rfl rfl ?_
  refine eg_k_aload rfl rfl ?_
  refine eg_k_aload rfl rfl ?_
  refine eg_k_pfr rfl rfl rfl ?_
  refine eg_k_aload rfl rfl ?_
  refine eg_k_aload rfl rfl ?_
  refine eg_k_pfr rfl rfl rfl ?_
  refine eg_k_aload rfl rfl ?_
  refine eg_k_aload rfl rfl ?_
  refine eg_k_pfr rfl rfl rfl ?_
  refine eg_k_aload rfl rfl ?_
  refine eg_k_aload rfl rfl ?_
  refine eg_k_pfa rfl rfl rfl ?_
  refine eg_k_aload rfl rfl ?_
  refine eg_k_aload rfl rfl ?_
  refine eg_k_pfr rfl rfl rfl ?_
  refine eg_k_aload rfl rfl ?_
  refine eg_k_aload rfl rfl ?_
  refine eg_k_pfr rfl rfl rfl ?_
  exact eg_k_ret rfl rfl (by decide) (by omega) hQ
