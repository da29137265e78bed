/-! THE CONSTRUCTORS, straight ones (by program) -/
set_option maxRecDepth 100000 in
theorem ec_15 {sc : eg_Sc} {d : Nat} {r : Nat → Nat → Option Nat} {M : Nat → Nat → Int} {Q : Option eg_V → eg_H → Prop}   (hQ : Q none ([.inr 0, .inr 1, .inl (.byte, 8880), .inl (.int, 444), .inl (.long, 20000), .inl (.int, 20000), .inl (.byte, 20000), .inr 2, .inl (.byte, 3000), .inl (.int, 2000), .inl (.int, 30), .inl (.boolean, 30)], (eg_u (eg_u (eg_z (eg_u (eg_z (eg_u (eg_z (eg_u (eg_z r 8 none) 7 1 (some 8)) 9 none) 7 3 (some 9)) 10 none) 7 10 (some 10)) 11 none) 7 11 (some 11)) 7 0 (some 1)), (eg_z (eg_z (eg_z (eg_z M 8 0) 9 0) 10 0) 11 0))) : eg_wp sc (d + 1) 15 [.inr (.inr (some 7)), .inr (.inr (some 1))] ([.inr 0, .inr 1, .inl (.byte, 8880), .inl (.int, 444), .inl (.long, 20000), .inl (.int, 20000), .inl (.byte, 20000), .inr 2], r, M) 20 200000 Q := by
  refine eg_in (lv := [some (.inr (.inr (some 7))), some (.inr (.inr (some 1)))]) eg_tj15 (Nat.le_of_ble_eq_true rfl) rfl ?_
  refine eg_k_aload rfl rfl ?_
  refine eg_k_oi rfl (Nat.le_of_ble_eq_true rfl) ?_
  refine eg_k_aload rfl rfl ?_
  refine eg_k_ci rfl ?_
  refine eg_k_newa (a := 8) (l' := [.inr 0, .inr 1, .inl (.byte, 8880), .inl (.int, 444), .inl (.long, 20000), .inl (.int, 20000), .inl (.byte, 20000), .inr 2, .inl (.byte, 3000)]) (c' := 1) (z' := 3000) rfl rfl rfl (by decide) (by omega) (by omega) rfl (by omega) (by decide) (by omega) ?_
  refine eg_k_pfa rfl rfl rfl ?_
  refine eg_k_aload rfl rfl ?_
  refine eg_k_ci rfl ?_
  refine eg_k_newa (a := 9) (l' := [.inr 0, .inr 1, .inl (.byte, 8880), .inl (.int, 444), .inl (.long, 20000), .inl (.int, 20000), .inl (.byte, 20000), .inr 2, .inl (.byte, 3000), .inl (.int, 2000)]) (c' := 2) (z' := 5000) rfl rfl rfl (by decide) (by omega) (by omega) rfl (by omega) (by decide) (by omega) ?_
  refine eg_k_pfa rfl rfl rfl ?_
  refine eg_k_aload rfl rfl ?_
  refine eg_k_ci rfl ?_
  refine eg_k_newa (a := 10) (l' := [.inr 0, .inr 1, .inl (.byte, 8880), .inl (.int, 444), .inl (.long, 20000), .inl (.int, 20000), .inl (.byte, 20000), .inr 2, .inl (.byte, 3000), .inl (.int, 2000), .inl (.int, 30)]) (c' := 3) (z' := 5030) rfl rfl rfl (by decide) (by omega) (by omega) rfl (by omega) (by decide) (by omega) ?_
  refine eg_k_pfa rfl rfl rfl ?_
  refine eg_k_aload rfl rfl ?_
  refine eg_k_ci rfl ?_
  refine eg_k_newa (a := 11) (l' := [.inr 0, .inr 1, .inl (.byte, 8880), .inl (.int, 444), .inl (.long, 20000), .inl (.int, 20000), .inl (.byte, 20000), .inr 2, .inl (.byte, 3000), .inl (.int, 2000), .inl (.int, 30), .inl (.boolean, 30)]) (c' := 4) (z' := 5060) rfl rfl rfl (by decide) (by omega) (by omega) rfl (by omega) (by decide) (by omega) ?_
  refine eg_k_pfa rfl rfl rfl ?_
  refine eg_k_aload rfl rfl ?_
  refine eg_k_aload rfl rfl ?_
  refine eg_k_pfr rfl rfl rfl ?_
  exact eg_k_ret rfl rfl (by decide) (by omega) hQ
set_option maxRecDepth 100000 in
theorem ec_16 {sc : eg_Sc} {d : Nat} {r : Nat → Nat → Option Nat} {M : Nat → Nat → Int} {Q : Option eg_V → eg_H → Prop}   (hQ : Q none ([.inr 0, .inr 1, .inl (.byte, 8880), .inl (.int, 444), .inl (.long, 20000), .inl (.int, 20000), .inl (.byte, 20000), .inr 2, .inl (.byte, 3000), .inl (.int, 2000), .inl (.int, 30), .inl (.boolean, 30), .inr 3, .inl (.int, 2000), .inl (.int, 2000)], (eg_u (eg_u (eg_z (eg_u (eg_z r 13 none) 12 1 (some 13)) 14 none) 12 2 (some 14)) 12 0 (some 1)), (eg_z (eg_z M 13 0) 14 0))) : eg_wp sc (d + 1) 16 [.inr (.inr (some 12)), .inr (.inr (some 1))] ([.inr 0, .inr 1, .inl (.byte, 8880), .inl (.int, 444), .inl (.long, 20000), .inl (.int, 20000), .inl (.byte, 20000), .inr 2, .inl (.byte, 3000), .inl (.int, 2000), .inl (.int, 30), .inl (.boolean, 30), .inr 3], r, M) 20 200000 Q := by
  refine eg_in (lv := [some (.inr (.inr (some 12))), some (.inr (.inr (some 1)))]) eg_tj16 (Nat.le_of_ble_eq_true rfl) rfl ?_
  refine eg_k_aload rfl rfl ?_
  refine eg_k_oi rfl (Nat.le_of_ble_eq_true rfl) ?_
  refine eg_k_aload rfl rfl ?_
  refine eg_k_ci rfl ?_
  refine eg_k_newa (a := 13) (l' := [.inr 0, .inr 1, .inl (.byte, 8880), .inl (.int, 444), .inl (.long, 20000), .inl (.int, 20000), .inl (.byte, 20000), .inr 2, .inl (.byte, 3000), .inl (.int, 2000), .inl (.int, 30), .inl (.boolean, 30), .inr 3, .inl (.int, 2000)]) (c' := 1) (z' := 2000) rfl rfl rfl (by decide) (by omega) (by omega) rfl (by omega) (by decide) (by omega) ?_
  refine eg_k_pfa rfl rfl rfl ?_
  refine eg_k_aload rfl rfl ?_
  refine eg_k_ci rfl ?_
  refine eg_k_newa (a := 14) (l' := [.inr 0, .inr 1, .inl (.byte, 8880), .inl (.int, 444), .inl (.long, 20000), .inl (.int, 20000), .inl (.byte, 20000), .inr 2, .inl (.byte, 3000), .inl (.int, 2000), .inl (.int, 30), .inl (.boolean, 30), .inr 3, .inl (.int, 2000), .inl (.int, 2000)]) (c' := 2) (z' := 4000) rfl rfl rfl (by decide) (by omega) (by omega) rfl (by omega) (by decide) (by omega) ?_
  refine eg_k_pfa rfl rfl rfl ?_
  refine eg_k_aload rfl rfl ?_
  refine eg_k_aload rfl rfl ?_
  refine eg_k_pfr rfl rfl rfl ?_
  exact eg_k_ret rfl rfl (by decide) (by omega) hQ
set_option maxRecDepth 100000 in
theorem ec_17 {sc : eg_Sc} {d : Nat} {r : Nat → Nat → Option Nat} {M : Nat → Nat → Int} {Q : Option eg_V → eg_H → Prop} {cs : Int} (h100 : 100 ≤ cs) (h20 : cs ≤ 20000) (hQ : Q none ([.inr 0, .inr 1, .inl (.byte, 8880), .inl (.int, 444), .inl (.long, 20000), .inl (.int, 20000), .inl (.byte, 20000), .inr 2, .inl (.byte, 3000), .inl (.int, 2000), .inl (.int, 30), .inl (.boolean, 30), .inr 3, .inl (.int, 2000), .inl (.int, 2000), .inr 4, .inl (.long, (cs).toNat), .inl (.int, (eg_wi (eg_wi (Int.tdiv (cs) (3)) + 1)).toNat), .inl (.int, (eg_wi (eg_wi (Int.tdiv (cs) (3)) + 1)).toNat), .inl (.int, (eg_wi (eg_wi (Int.tdiv (cs) (3)) + 1)).toNat), .inl (.int, (eg_wi (eg_wi (Int.tdiv (cs) (3)) + 1)).toNat)], (eg_u (eg_z (eg_u (eg_z (eg_u (eg_z (eg_u (eg_z (eg_u (eg_z r 16 none) 15 1 (some 16)) 17 none) 15 2 (some 17)) 18 none) 15 3 (some 18)) 19 none) 15 4 (some 19)) 20 none) 15 5 (some 20)), (eg_z (eg_z (eg_z (eg_z (eg_z (eg_u M 15 0 (cs)) 16 0) 17 0) 18 0) 19 0) 20 0))) : eg_wp sc (d + 1) 17 [.inr (.inr (some 15)), .inl (cs)] ([.inr 0, .inr 1, .inl (.byte, 8880), .inl (.int, 444), .inl (.long, 20000), .inl (.int, 20000), .inl (.byte, 20000), .inr 2, .inl (.byte, 3000), .inl (.int, 2000), .inl (.int, 30), .inl (.boolean, 30), .inr 3, .inl (.int, 2000), .inl (.int, 2000), .inr 4], r, M) 20 200000 Q := by
  refine eg_in (lv := [some (.inr (.inr (some 15))), some (.inl (cs)), none]) eg_tj17 (Nat.le_of_ble_eq_true rfl) rfl ?_
  have hd3 : eg_wi (eg_wi (Int.tdiv cs 3) + 1) = cs / 3 + 1 := by unfold eg_wi; rw [Int.tdiv_eq_ediv_of_nonneg (by omega)]; omega
  refine eg_k_aload rfl rfl ?_
  refine eg_k_oi rfl (Nat.le_of_ble_eq_true rfl) ?_
  refine eg_k_aload rfl rfl ?_
  refine eg_k_iload rfl rfl ?_
  refine eg_k_pfi rfl rfl rfl ?_
  refine eg_k_iload rfl rfl ?_
  refine eg_k_ci rfl ?_
  refine eg_k_idiv rfl (by decide) ?_
  refine eg_k_ci rfl ?_
  refine eg_k_iadd rfl ?_
  refine eg_k_istore (lv' := [some (.inr (.inr (some 15))), some (.inl (cs)), some (.inl (eg_wi (eg_wi (Int.tdiv (cs) (3)) + 1)))]) rfl rfl ?_
  refine eg_k_aload rfl rfl ?_
  refine eg_k_iload rfl rfl ?_
  refine eg_k_newa (a := 16) (l' := [.inr 0, .inr 1, .inl (.byte, 8880), .inl (.int, 444), .inl (.long, 20000), .inl (.int, 20000), .inl (.byte, 20000), .inr 2, .inl (.byte, 3000), .inl (.int, 2000), .inl (.int, 30), .inl (.boolean, 30), .inr 3, .inl (.int, 2000), .inl (.int, 2000), .inr 4, .inl (.long, (cs).toNat)]) (c' := 1) (z' := (0 + (cs).toNat)) rfl rfl rfl (by decide) (by omega) (by omega) rfl (by omega) (by decide) (by omega) ?_
  refine eg_k_pfa rfl rfl rfl ?_
  refine eg_k_aload rfl rfl ?_
  refine eg_k_iload rfl rfl ?_
  refine eg_k_newa (a := 17) (l' := [.inr 0, .inr 1, .inl (.byte, 8880), .inl (.int, 444), .inl (.long, 20000), .inl (.int, 20000), .inl (.byte, 20000), .inr 2, .inl (.byte, 3000), .inl (.int, 2000), .inl (.int, 30), .inl (.boolean, 30), .inr 3, .inl (.int, 2000), .inl (.int, 2000), .inr 4, .inl (.long, (cs).toNat), .inl (.int, (eg_wi (eg_wi (Int.tdiv (cs) (3)) + 1)).toNat)]) (c' := 2) (z' := ((0 + (cs).toNat) + (eg_wi (eg_wi (Int.tdiv (cs) (3)) + 1)).toNat)) rfl rfl rfl (by decide) (by omega) (by omega) rfl (by omega) (by decide) (by omega) ?_
  refine eg_k_pfa rfl rfl rfl ?_
  refine eg_k_aload rfl rfl ?_
  refine eg_k_iload rfl rfl ?_
  refine eg_k_newa (a := 18) (l' := [.inr 0, .inr 1, .inl (.byte, 8880), .inl (.int, 444), .inl (.long, 20000), .inl (.int, 20000), .inl (.byte, 20000), .inr 2, .inl (.byte, 3000), .inl (.int, 2000), .inl (.int, 30), .inl (.boolean, 30), .inr 3, .inl (.int, 2000), .inl (.int, 2000), .inr 4, .inl (.long, (cs).toNat), .inl (.int, (eg_wi (eg_wi (Int.tdiv (cs) (3)) + 1)).toNat), .inl (.int, (eg_wi (eg_wi (Int.tdiv (cs) (3)) + 1)).toNat)]) (c' := 3) (z' := (((0 + (cs).toNat) + (eg_wi (eg_wi (Int.tdiv (cs) (3)) + 1)).toNat) + (eg_wi (eg_wi (Int.tdiv (cs) (3)) + 1)).toNat)) rfl rfl rfl (by decide) (by omega) (by omega) rfl (by omega) (by decide) (by omega) ?_
  refine eg_k_pfa rfl rfl rfl ?_
  refine eg_k_aload rfl rfl ?_
  refine eg_k_iload rfl rfl ?_
  refine eg_k_newa (a := 19) (l' := [.inr 0, .inr 1, .inl (.byte, 8880), .inl (.int, 444), .inl (.long, 20000), .inl (.int, 20000), .inl (.byte, 20000), .inr 2, .inl (.byte, 3000), .inl (.int, 2000), .inl (.int, 30), .inl (.boolean, 30), .inr 3, .inl (.int, 2000), .inl (.int, 2000), .inr 4, .inl (.long, (cs).toNat), .inl (.int, (eg_wi (eg_wi (Int.tdiv (cs) (3)) + 1)).toNat), .inl (.int, (eg_wi (eg_wi (Int.tdiv (cs) (3)) + 1)).toNat), .inl (.int, (eg_wi (eg_wi (Int.tdiv (cs) (3)) + 1)).toNat)]) (c' := 4) (z' := ((((0 + (cs).toNat) + (eg_wi (eg_wi (Int.tdiv (cs) (3)) + 1)).toNat) + (eg_wi (eg_wi (Int.tdiv (cs) (3)) + 1)).toNat) + (eg_wi (eg_wi (Int.tdiv (cs) (3)) + 1)).toNat)) rfl rfl rfl (by decide) (by omega) (by omega) rfl (by omega) (by decide) (by omega) ?_
  refine eg_k_pfa rfl rfl rfl ?_
  refine eg_k_aload rfl rfl ?_
  refine eg_k_iload rfl rfl ?_
  refine eg_k_newa (a := 20) (l' := [.inr 0, .inr 1, .inl (.byte, 8880), .inl (.int, 444), .inl (.long, 20000), .inl (.int, 20000), .inl (.byte, 20000), .inr 2, .inl (.byte, 3000), .inl (.int, 2000), .inl (.int, 30), .inl (.boolean, 30), .inr 3, .inl (.int, 2000), .inl (.int, 2000), .inr 4, .inl (.long, (cs).toNat), .inl (.int, (eg_wi (eg_wi (Int.tdiv (cs) (3)) + 1)).toNat), .inl (.int, (eg_wi (eg_wi (Int.tdiv (cs) (3)) + 1)).toNat), .inl (.int, (eg_wi (eg_wi (Int.tdiv (cs) (3)) + 1)).toNat), .inl (.int, (eg_wi (eg_wi (Int.tdiv (cs) (3)) + 1)).toNat)]) (c' := 5) (z' := (((((0 + (cs).toNat) + (eg_wi (eg_wi (Int.tdiv (cs) (3)) + 1)).toNat) + (eg_wi (eg_wi (Int.tdiv (cs) (3)) + 1)).toNat) + (eg_wi (eg_wi (Int.tdiv (cs) (3)) + 1)).toNat) + (eg_wi (eg_wi (Int.tdiv (cs) (3)) + 1)).toNat)) rfl rfl rfl (by decide) (by omega) (by omega) rfl (by omega) (by decide) (by omega) ?_
  refine eg_k_pfa rfl rfl rfl ?_
  exact eg_k_ret rfl rfl (by decide) (by omega) hQ
