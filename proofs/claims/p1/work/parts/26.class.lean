/-! THE GLOBALS, and the class's constructor -/
set_option maxRecDepth 100000 in
theorem ec_21 {sc : eg_Sc} {d : Nat} {r : Nat → Nat → Option Nat} {M : Nat → Nat → Int} {Q : Option eg_V → eg_H → Prop} {cn mo : Nat} (hQ : Q (some (.inr (.inr (some 37)))) ([.inr 0, .inr 1, .inl (.byte, 8880), .inl (.int, 444), .inl (.long, 20000), .inl (.int, 20000), .inl (.byte, 20000), .inr 2, .inl (.byte, 3000), .inl (.int, 2000), .inl (.int, 30), .inl (.boolean, 30), .inr 3, .inl (.int, 2000), .inl (.int, 2000), .inr 4, .inl (.long, cn), .inl (.int, mo), .inl (.int, mo), .inl (.int, mo), .inl (.int, mo), .inr 5, .inl (.long, 500), .inl (.long, 500), .inl (.long, 500), .inl (.long, 500), .inr 6, .inl (.byte, 4000), .inl (.byte, 10), .inr 7, .inl (.int, 2000), .inl (.int, 2000), .inl (.int, 2000), .inl (.int, 2000), .inl (.int, 2000), .inl (.long, 18000), .inl (.long, 32), .inl (.long, 444)], eg_z r 37 none, (eg_lay9 (eg_fil (eg_z M 37 0) 37 0 444 21474836480) 37 10 (fun j => (Int64.ofInt 12884901888 ||| Int64.ofInt ((j : Nat) : Int)).toInt) 34))) : eg_wp sc (d + 2) 21 [] ([.inr 0, .inr 1, .inl (.byte, 8880), .inl (.int, 444), .inl (.long, 20000), .inl (.int, 20000), .inl (.byte, 20000), .inr 2, .inl (.byte, 3000), .inl (.int, 2000), .inl (.int, 30), .inl (.boolean, 30), .inr 3, .inl (.int, 2000), .inl (.int, 2000), .inr 4, .inl (.long, cn), .inl (.int, mo), .inl (.int, mo), .inl (.int, mo), .inl (.int, mo), .inr 5, .inl (.long, 500), .inl (.long, 500), .inl (.long, 500), .inl (.long, 500), .inr 6, .inl (.byte, 4000), .inl (.byte, 10), .inr 7, .inl (.int, 2000), .inl (.int, 2000), .inl (.int, 2000), .inl (.int, 2000), .inl (.int, 2000), .inl (.long, 18000), .inl (.long, 32)], r, M) 1 444 Q := by
  refine eg_in (lv := [none, none]) eg_tj21 (Nat.le_of_ble_eq_true rfl) rfl ?_
  refine eg_k_ci rfl ?_
  refine eg_k_newa (a := 37) (l' := [.inr 0, .inr 1, .inl (.byte, 8880), .inl (.int, 444), .inl (.long, 20000), .inl (.int, 20000), .inl (.byte, 20000), .inr 2, .inl (.byte, 3000), .inl (.int, 2000), .inl (.int, 30), .inl (.boolean, 30), .inr 3, .inl (.int, 2000), .inl (.int, 2000), .inr 4, .inl (.long, cn), .inl (.int, mo), .inl (.int, mo), .inl (.int, mo), .inl (.int, mo), .inr 5, .inl (.long, 500), .inl (.long, 500), .inl (.long, 500), .inl (.long, 500), .inr 6, .inl (.byte, 4000), .inl (.byte, 10), .inr 7, .inl (.int, 2000), .inl (.int, 2000), .inl (.int, 2000), .inl (.int, 2000), .inl (.int, 2000), .inl (.long, 18000), .inl (.long, 32), .inl (.long, 444)]) (c' := 1) (z' := 444) rfl rfl rfl (by decide) (by omega) (by omega) rfl (by omega) (by decide) (by omega) ?_
  refine eg_k_astore (lv' := [some (.inr (.inr (some 37))), none]) rfl rfl ?_
  refine eg_k_aload rfl rfl ?_
  refine eg_k_cl rfl ?_
  refine eg_k_call (c1 := 0) (z1 := 0) (as := [.inr (.inr (some 37)), .inr (.inl 21474836480)]) (rest := []) rfl eg_tj22 (Nat.le_of_ble_eq_true rfl) rfl rfl True.intro (Nat.le_of_ble_eq_true rfl) (by decide) (by decide) ?_ (fun Q hQ => ef_22 (n := 444) rfl (by decide) hQ)
  refine eg_k_ci rfl ?_
  refine eg_k_istore (lv' := [some (.inr (.inr (some 37))), some (.inl ((0 : Nat) : Int))]) rfl rfl ?_
  have hl : ([.inr 0, .inr 1, .inl (.byte, 8880), .inl (.int, 444), .inl (.long, 20000), .inl (.int, 20000), .inl (.byte, 20000), .inr 2, .inl (.byte, 3000), .inl (.int, 2000), .inl (.int, 30), .inl (.boolean, 30), .inr 3, .inl (.int, 2000), .inl (.int, 2000), .inr 4, .inl (.long, cn), .inl (.int, mo), .inl (.int, mo), .inl (.int, mo), .inl (.int, mo), .inr 5, .inl (.long, 500), .inl (.long, 500), .inl (.long, 500), .inl (.long, 500), .inr 6, .inl (.byte, 4000), .inl (.byte, 10), .inr 7, .inl (.int, 2000), .inl (.int, 2000), .inl (.int, 2000), .inl (.int, 2000), .inl (.int, 2000), .inl (.long, 18000), .inl (.long, 32), .inl (.long, 444)] : List eg_C).length < 1000000 := by show (38 : Nat) < 1000000; decide
  have loop : ∀ (k i : Nat), i + k = 34 → eg_X sc (eg_wp sc (d + 1)) eg_p21 (some (.array .long)) 1 444 Q 8 [some (.inr (.inr (some 37))), some (.inl (i : Nat))] [] ([.inr 0, .inr 1, .inl (.byte, 8880), .inl (.int, 444), .inl (.long, 20000), .inl (.int, 20000), .inl (.byte, 20000), .inr 2, .inl (.byte, 3000), .inl (.int, 2000), .inl (.int, 30), .inl (.boolean, 30), .inr 3, .inl (.int, 2000), .inl (.int, 2000), .inr 4, .inl (.long, cn), .inl (.int, mo), .inl (.int, mo), .inl (.int, mo), .inl (.int, mo), .inr 5, .inl (.long, 500), .inl (.long, 500), .inl (.long, 500), .inl (.long, 500), .inr 6, .inl (.byte, 4000), .inl (.byte, 10), .inr 7, .inl (.int, 2000), .inl (.int, 2000), .inl (.int, 2000), .inl (.int, 2000), .inl (.int, 2000), .inl (.long, 18000), .inl (.long, 32), .inl (.long, 444)], eg_z r 37 none, (eg_lay9 (eg_fil (eg_z M 37 0) 37 0 444 21474836480) 37 10 (fun j => (Int64.ofInt 12884901888 ||| Int64.ofInt ((j : Nat) : Int)).toInt) i)) 1 444 := by
    intro k
    induction k with
    | zero =>
      intro i hi
      have hin : i = 34 := by omega
      subst hin
      refine eg_k_iload rfl rfl ?_
      refine eg_k_gets (v := .inr (.inr (some 1000004))) rfl rfl ?_
      refine eg_k_tlen (k := 34) rfl (es_no hl (by decide)) rfl ?_
      refine eg_k_icmp rfl (fun _ => ?_) (fun z => absurd (Int.le_refl _) z)
      refine eg_k_aload rfl rfl ?_
      exact eg_k_aret rfl True.intro (by decide) (by decide) hQ
    | succ k ih =>
      intro i hi
      refine eg_k_iload rfl rfl ?_
      refine eg_k_gets (v := .inr (.inr (some 1000004))) rfl rfl ?_
      refine eg_k_tlen (k := 34) rfl (es_no hl (by decide)) rfl ?_
      refine eg_k_icmp rfl (fun z => by have z2 : (34 : Int) ≤ (i : Int) := z; omega) (fun _ => ?_)
      refine eg_k_aload rfl rfl ?_
      refine eg_k_ci rfl ?_
      refine eg_k_iload rfl rfl ?_
      refine eg_k_iadd rfl ?_
      rw [show eg_wi (10 + ((i : Nat) : Int)) = ((10 + i : Nat) : Int) from (eg_wi_id (by omega) (by omega)).trans (by omega)]
      refine eg_k_cl rfl ?_
      refine eg_k_iload rfl rfl ?_
      refine eg_k_i2l rfl ?_
      refine eg_k_lor rfl ?_
      refine eg_k_last (k := 444) rfl rfl (by omega) (by omega) ?_
      have hst := eg_lay9_step (M := eg_fil (eg_z M 37 0) 37 0 444 21474836480) (a := 37) (D := 10) (n := i) (f := fun j => (Int64.ofInt 12884901888 ||| Int64.ofInt ((j : Nat) : Int)).toInt)
      try dsimp only at hst
      rw [show ((10 + i : Nat) : Int).toNat = 10 + i by omega, hst]
      refine eg_k_iinc (lv' := [some (.inr (.inr (some 37))), some (.inl (i + 1 : Nat))]) rfl rfl (by rw [eg_wi_1 (by omega)]; rfl) ?_
      refine eg_k_goto rfl ?_
      exact ih (i + 1) (by omega)
  have h9 := loop 34 0 (by omega)
  rw [eg_lay9_0] at h9
  exact h9
def ec_R (r : Nat → Nat → Option Nat) : Nat → Nat → Option Nat := (eg_u (eg_u (eg_u (eg_u (eg_u (eg_u (eg_u (eg_u (eg_z (eg_u (eg_u (eg_u (eg_u (eg_z (eg_u (eg_u (eg_z (eg_u (eg_z (eg_u (eg_z (eg_u (eg_z (eg_u (eg_u (eg_u (eg_u (eg_u (eg_z (eg_z (eg_u (eg_z (eg_u (eg_z (eg_u (eg_z (eg_u (eg_z (eg_u (eg_z (eg_u (eg_z (eg_u (eg_z (eg_z (eg_u (eg_u (eg_u (eg_u (eg_z (eg_u (eg_z (eg_z (eg_u (eg_u (eg_z (eg_u (eg_z (eg_u (eg_z (eg_u (eg_z (eg_z (eg_u (eg_u (eg_z (eg_u (eg_z (eg_u (eg_z (eg_u (eg_z (eg_u (eg_z (eg_z (eg_u (eg_u (eg_u (eg_z (eg_u (eg_z (eg_z (eg_u (eg_u (eg_u (eg_z (eg_u (eg_z (eg_u (eg_z (eg_u (eg_z (eg_z (eg_u (eg_u (eg_z (eg_u (eg_z (eg_u (eg_z (eg_u (eg_z (eg_u (eg_z (eg_z r 1 none) 2 none) 1 0 (some 2)) 3 none) 1 1 (some 3)) 4 none) 1 3 (some 4)) 5 none) 1 4 (some 5)) 6 none) 1 5 (some 6)) 0 0 (some 1)) 7 none) 8 none) 7 1 (some 8)) 9 none) 7 3 (some 9)) 10 none) 7 10 (some 10)) 11 none) 7 11 (some 11)) 7 0 (some 1)) 0 1 (some 7)) 12 none) 13 none) 12 1 (some 13)) 14 none) 12 2 (some 14)) 12 0 (some 1)) 0 2 (some 12)) 15 none) 16 none) 15 1 (some 16)) 17 none) 15 2 (some 17)) 18 none) 15 3 (some 18)) 19 none) 15 4 (some 19)) 20 none) 15 5 (some 20)) 0 3 (some 15)) 21 none) 22 none) 21 0 (some 22)) 23 none) 21 1 (some 23)) 24 none) 21 3 (some 24)) 25 none) 21 4 (some 25)) 0 4 (some 21)) 26 none) 27 none) 26 2 (some 27)) 28 none) 26 7 (some 28)) 26 0 (some 1)) 26 1 (some 15)) 0 5 (some 26)) 29 none) 30 none) 29 1 (some 30)) 31 none) 29 2 (some 31)) 32 none) 29 3 (some 32)) 33 none) 29 4 (some 33)) 34 none) 29 5 (some 34)) 35 none) 29 6 (some 35)) 36 none) 29 7 (some 36)) 37 none) 38 none) 38 0 (some 1)) 38 1 (some 15)) 38 2 (some 21)) 38 3 (some 29)) 38 4 (some 37)) 39 none) 38 6 (some 39)) 40 none) 38 7 (some 40)) 41 none) 38 9 (some 41)) 42 none) 38 10 (some 42)) 0 6 (some 38)) 43 none) 43 0 (some 1)) 43 1 (some 15)) 43 2 (some 21)) 43 3 (some 26)) 44 none) 44 0 (some 1)) 44 1 (some 15)) 44 2 (some 21)) 44 3 (some 29)) 44 4 (some 37)) 44 5 (some 43)) 44 6 (some 38)) 0 7 (some 44))
def ec_M (M : Nat → Nat → Int) (cn mo : Nat) : Nat → Nat → Int := (eg_u (eg_z (eg_z (eg_z (eg_z (eg_z (eg_z (eg_u (eg_z (eg_lay9 (eg_fil (eg_z (eg_z (eg_z (eg_z (eg_z (eg_z (eg_z (eg_z (eg_z (eg_z (eg_z (eg_z (eg_z (eg_z (eg_z (eg_z (eg_z (eg_z (eg_z (eg_z (eg_z (eg_z (eg_u (eg_z (eg_z (eg_z (eg_z (eg_z (eg_z (eg_z (eg_z (eg_z (ek_s2 (ek_s1 (eg_z (eg_z (eg_z (eg_z (eg_z (eg_z M 1 0) 2 0) 3 0) 4 0) 5 0) 6 0) 51).2 34) 7 0) 8 0) 9 0) 10 0) 11 0) 12 0) 13 0) 14 0) 15 0) 15 0 (((cn : Nat) : Int))) 16 0) 17 0) 18 0) 19 0) 20 0) 21 0) 22 0) 23 0) 24 0) 25 0) 26 0) 27 0) 28 0) 29 0) 30 0) 31 0) 32 0) 33 0) 34 0) 35 0) 36 0) 37 0) 37 0 444 21474836480) 37 10 (fun j => (Int64.ofInt 12884901888 ||| Int64.ofInt ((j : Nat) : Int)).toInt) 34) 38 0) 38 11 (((mo : Nat) : Int))) 39 0) 40 0) 41 0) 42 0) 43 0) 44 0) 0 8 ((-1)))
abbrev ec_L (cn mo : Nat) : List eg_C := [.inr 0, .inr 1, .inl (.byte, 8880), .inl (.int, 444), .inl (.long, 20000), .inl (.int, 20000), .inl (.byte, 20000), .inr 2, .inl (.byte, 3000), .inl (.int, 2000), .inl (.int, 30), .inl (.boolean, 30), .inr 3, .inl (.int, 2000), .inl (.int, 2000), .inr 4, .inl (.long, cn), .inl (.int, mo), .inl (.int, mo), .inl (.int, mo), .inl (.int, mo), .inr 5, .inl (.long, 500), .inl (.long, 500), .inl (.long, 500), .inl (.long, 500), .inr 6, .inl (.byte, 4000), .inl (.byte, 10), .inr 7, .inl (.int, 2000), .inl (.int, 2000), .inl (.int, 2000), .inl (.int, 2000), .inl (.int, 2000), .inl (.long, 18000), .inl (.long, 32), .inl (.long, 444), .inr 8, .inl (.byte, mo), .inl (.int, mo), .inl (.int, mo), .inl (.int, (mo + 500)), .inr 9, .inr 10]
set_option maxRecDepth 100000 in
set_option maxHeartbeats 4000000 in
theorem ec_0c {sc : eg_Sc} {d : Nat} {r : Nat → Nat → Option Nat} {M : Nat → Nat → Int} {Q : Option eg_V → eg_H → Prop} {cn mo : Nat} (h100 : 100 ≤ cn) (h20 : cn ≤ 20000) (hmo : cn / 3 + 1 = mo) {c f : Int} (hQ : Q none (ec_L cn mo, ec_R r, ec_M M cn mo)) : eg_X sc (eg_wp sc (d + 6)) eg_p0 none 300 2000000 Q 39 [some (.inr (.inr (some 0))), some (.inl (c)), some (.inl (f)), none, none, none] [.inl (((cn : Nat) : Int)), .inr (.inr (some 15)), .inr (.inr (some 15)), .inr (.inr (some 0))] ([.inr 0, .inr 1, .inl (.byte, 8880), .inl (.int, 444), .inl (.long, 20000), .inl (.int, 20000), .inl (.byte, 20000), .inr 2, .inl (.byte, 3000), .inl (.int, 2000), .inl (.int, 30), .inl (.boolean, 30), .inr 3, .inl (.int, 2000), .inl (.int, 2000), .inr 4], (eg_z (eg_u (eg_u (eg_u (eg_z (eg_u (eg_z (eg_z (eg_u (eg_u (eg_u (eg_z (eg_u (eg_z (eg_u (eg_z (eg_u (eg_z (eg_z (eg_u (eg_u (eg_z (eg_u (eg_z (eg_u (eg_z (eg_u (eg_z (eg_u (eg_z (eg_z r 1 none) 2 none) 1 0 (some 2)) 3 none) 1 1 (some 3)) 4 none) 1 3 (some 4)) 5 none) 1 4 (some 5)) 6 none) 1 5 (some 6)) 0 0 (some 1)) 7 none) 8 none) 7 1 (some 8)) 9 none) 7 3 (some 9)) 10 none) 7 10 (some 10)) 11 none) 7 11 (some 11)) 7 0 (some 1)) 0 1 (some 7)) 12 none) 13 none) 12 1 (some 13)) 14 none) 12 2 (some 14)) 12 0 (some 1)) 0 2 (some 12)) 15 none), (eg_z (eg_z (eg_z (eg_z (eg_z (eg_z (eg_z (eg_z (eg_z (ek_s2 (ek_s1 (eg_z (eg_z (eg_z (eg_z (eg_z (eg_z M 1 0) 2 0) 3 0) 4 0) 5 0) 6 0) 51).2 34) 7 0) 8 0) 9 0) 10 0) 11 0) 12 0) 13 0) 14 0) 15 0)) 54 480036 := by
  refine eg_k_call (c1 := 20) (z1 := 200000) (as := [.inr (.inr (some 15)), .inl (((cn : Nat) : Int))]) (rest := [.inr (.inr (some 15)), .inr (.inr (some 0))]) rfl eg_tj17 (Nat.le_of_ble_eq_true rfl) rfl rfl (True.intro) (Nat.le_of_ble_eq_true rfl) (by omega) (by omega) ?_ (fun Q hQ => ec_17 h100 h20 hmo hQ)
  refine eg_k_pfr rfl rfl rfl ?_
  refine eg_k_aload rfl rfl ?_
  refine eg_k_new (a := 21) (l' := [.inr 0, .inr 1, .inl (.byte, 8880), .inl (.int, 444), .inl (.long, 20000), .inl (.int, 20000), .inl (.byte, 20000), .inr 2, .inl (.byte, 3000), .inl (.int, 2000), .inl (.int, 30), .inl (.boolean, 30), .inr 3, .inl (.int, 2000), .inl (.int, 2000), .inr 4, .inl (.long, cn), .inl (.int, mo), .inl (.int, mo), .inl (.int, mo), .inl (.int, mo), .inr 5]) (c' := 75) (z' := 680043) rfl rfl rfl (by decide) rfl (by show _ + 7 = _; omega) (by decide) (by omega) ?_
  refine eg_k_dupr rfl ?_
  refine eg_k_call (c1 := 20) (z1 := 200000) (as := [.inr (.inr (some 21))]) (rest := [.inr (.inr (some 21)), .inr (.inr (some 0))]) rfl eg_tj18 (Nat.le_of_ble_eq_true rfl) rfl rfl (True.intro) (Nat.le_of_ble_eq_true rfl) (by omega) (by omega) ?_ (fun Q hQ => ec_18 hQ)
  refine eg_k_pfr rfl rfl rfl ?_
  refine eg_k_aload rfl rfl ?_
  refine eg_k_new (a := 26) (l' := [.inr 0, .inr 1, .inl (.byte, 8880), .inl (.int, 444), .inl (.long, 20000), .inl (.int, 20000), .inl (.byte, 20000), .inr 2, .inl (.byte, 3000), .inl (.int, 2000), .inl (.int, 30), .inl (.boolean, 30), .inr 3, .inl (.int, 2000), .inl (.int, 2000), .inr 4, .inl (.long, cn), .inl (.int, mo), .inl (.int, mo), .inl (.int, mo), .inl (.int, mo), .inr 5, .inl (.long, 500), .inl (.long, 500), .inl (.long, 500), .inl (.long, 500), .inr 6]) (c' := 96) (z' := 880051) rfl rfl rfl (by decide) rfl (by show _ + 8 = _; omega) (by decide) (by omega) ?_
  refine eg_k_dupr rfl ?_
  refine eg_k_aload rfl rfl ?_
  refine eg_k_gfr (b := 1) rfl rfl rfl rfl ?_
  refine eg_k_aload rfl rfl ?_
  refine eg_k_gfr (b := 15) rfl rfl rfl rfl ?_
  refine eg_k_call (c1 := 20) (z1 := 200000) (as := [.inr (.inr (some 26)), .inr (.inr (some 1)), .inr (.inr (some 15))]) (rest := [.inr (.inr (some 26)), .inr (.inr (some 0))]) rfl eg_tj19 (Nat.le_of_ble_eq_true rfl) rfl rfl (True.intro) (Nat.le_of_ble_eq_true rfl) (by omega) (by omega) ?_ (fun Q hQ => ec_19 hQ)
  refine eg_k_pfr rfl rfl rfl ?_
  refine eg_k_new (a := 29) (l' := [.inr 0, .inr 1, .inl (.byte, 8880), .inl (.int, 444), .inl (.long, 20000), .inl (.int, 20000), .inl (.byte, 20000), .inr 2, .inl (.byte, 3000), .inl (.int, 2000), .inl (.int, 30), .inl (.boolean, 30), .inr 3, .inl (.int, 2000), .inl (.int, 2000), .inr 4, .inl (.long, cn), .inl (.int, mo), .inl (.int, mo), .inl (.int, mo), .inl (.int, mo), .inr 5, .inl (.long, 500), .inl (.long, 500), .inl (.long, 500), .inl (.long, 500), .inr 6, .inl (.byte, 4000), .inl (.byte, 10), .inr 7]) (c' := 117) (z' := 1080059) rfl rfl rfl (by decide) rfl (by show _ + 8 = _; omega) (by decide) (by omega) ?_
  refine eg_k_dupr rfl ?_
  refine eg_k_call (c1 := 20) (z1 := 200000) (as := [.inr (.inr (some 29))]) (rest := [.inr (.inr (some 29))]) rfl eg_tj20 (Nat.le_of_ble_eq_true rfl) rfl rfl (True.intro) (Nat.le_of_ble_eq_true rfl) (by omega) (by omega) ?_ (fun Q hQ => ec_20 hQ)
  refine eg_k_astore (lv' := [some (.inr (.inr (some 0))), some (.inl (c)), some (.inl (f)), some (.inr (.inr (some 29))), none, none]) rfl rfl ?_
  refine eg_k_call (c1 := 1) (z1 := 444) (as := []) (rest := []) rfl eg_tj21 (Nat.le_of_ble_eq_true rfl) rfl rfl (True.intro) (Nat.le_of_ble_eq_true rfl) (by omega) (by omega) ?_ (fun Q hQ => ec_21 hQ)
  refine eg_k_astore (lv' := [some (.inr (.inr (some 0))), some (.inl (c)), some (.inl (f)), some (.inr (.inr (some 29))), some (.inr (.inr (some 37))), none]) rfl rfl ?_
  refine eg_k_aload rfl rfl ?_
  refine eg_k_new (a := 38) (l' := [.inr 0, .inr 1, .inl (.byte, 8880), .inl (.int, 444), .inl (.long, 20000), .inl (.int, 20000), .inl (.byte, 20000), .inr 2, .inl (.byte, 3000), .inl (.int, 2000), .inl (.int, 30), .inl (.boolean, 30), .inr 3, .inl (.int, 2000), .inl (.int, 2000), .inr 4, .inl (.long, cn), .inl (.int, mo), .inl (.int, mo), .inl (.int, mo), .inl (.int, mo), .inr 5, .inl (.long, 500), .inl (.long, 500), .inl (.long, 500), .inl (.long, 500), .inr 6, .inl (.byte, 4000), .inl (.byte, 10), .inr 7, .inl (.int, 2000), .inl (.int, 2000), .inl (.int, 2000), .inl (.int, 2000), .inl (.int, 2000), .inl (.long, 18000), .inl (.long, 32), .inl (.long, 444), .inr 8]) (c' := 139) (z' := 1280515) rfl rfl rfl (by decide) rfl (by show _ + 12 = _; omega) (by decide) (by omega) ?_
  refine eg_k_dupr rfl ?_
  refine eg_k_aload rfl rfl ?_
  refine eg_k_gfr (b := 1) rfl rfl rfl rfl ?_
  refine eg_k_aload rfl rfl ?_
  refine eg_k_gfr (b := 15) rfl rfl rfl rfl ?_
  refine eg_k_aload rfl rfl ?_
  refine eg_k_gfr (b := 21) rfl rfl rfl rfl ?_
  refine eg_k_aload rfl rfl ?_
  refine eg_k_aload rfl rfl ?_
  refine eg_k_call (c1 := 20) (z1 := 200000) (as := [.inr (.inr (some 38)), .inr (.inr (some 1)), .inr (.inr (some 15)), .inr (.inr (some 21)), .inr (.inr (some 29)), .inr (.inr (some 37))]) (rest := [.inr (.inr (some 38)), .inr (.inr (some 0))]) rfl eg_tj23 (Nat.le_of_ble_eq_true rfl) rfl rfl (True.intro) (Nat.le_of_ble_eq_true rfl) (by omega) (by omega) ?_ (fun Q hQ => ec_23 h100 h20 hmo rfl (fun mo5 h5 => h5 ▸ hQ))
  refine eg_k_pfr rfl rfl rfl ?_
  refine eg_k_new (a := 43) (l' := [.inr 0, .inr 1, .inl (.byte, 8880), .inl (.int, 444), .inl (.long, 20000), .inl (.int, 20000), .inl (.byte, 20000), .inr 2, .inl (.byte, 3000), .inl (.int, 2000), .inl (.int, 30), .inl (.boolean, 30), .inr 3, .inl (.int, 2000), .inl (.int, 2000), .inr 4, .inl (.long, cn), .inl (.int, mo), .inl (.int, mo), .inl (.int, mo), .inl (.int, mo), .inr 5, .inl (.long, 500), .inl (.long, 500), .inl (.long, 500), .inl (.long, 500), .inr 6, .inl (.byte, 4000), .inl (.byte, 10), .inr 7, .inl (.int, 2000), .inl (.int, 2000), .inl (.int, 2000), .inl (.int, 2000), .inl (.int, 2000), .inl (.long, 18000), .inl (.long, 32), .inl (.long, 444), .inr 8, .inl (.byte, mo), .inl (.int, mo), .inl (.int, mo), .inl (.int, (mo + 500)), .inr 9]) (c' := 160) (z' := 1480521) rfl rfl rfl (by decide) rfl (by show _ + 6 = _; omega) (by decide) (by omega) ?_
  refine eg_k_dupr rfl ?_
  refine eg_k_aload rfl rfl ?_
  refine eg_k_gfr (b := 1) rfl rfl rfl rfl ?_
  refine eg_k_aload rfl rfl ?_
  refine eg_k_gfr (b := 15) rfl rfl rfl rfl ?_
  refine eg_k_aload rfl rfl ?_
  refine eg_k_gfr (b := 21) rfl rfl rfl rfl ?_
  refine eg_k_aload rfl rfl ?_
  refine eg_k_gfr (b := 26) rfl rfl rfl rfl ?_
  refine eg_k_call (c1 := 20) (z1 := 200000) (as := [.inr (.inr (some 43)), .inr (.inr (some 1)), .inr (.inr (some 15)), .inr (.inr (some 21)), .inr (.inr (some 26))]) (rest := [.inr (.inr (some 43))]) rfl eg_tj24 (Nat.le_of_ble_eq_true rfl) rfl rfl (True.intro) (Nat.le_of_ble_eq_true rfl) (by omega) (by omega) ?_ (fun Q hQ => ec_24 hQ)
  refine eg_k_astore (lv' := [some (.inr (.inr (some 0))), some (.inl (c)), some (.inl (f)), some (.inr (.inr (some 29))), some (.inr (.inr (some 37))), some (.inr (.inr (some 43)))]) rfl rfl ?_
  refine eg_k_aload rfl rfl ?_
  refine eg_k_new (a := 44) (l' := [.inr 0, .inr 1, .inl (.byte, 8880), .inl (.int, 444), .inl (.long, 20000), .inl (.int, 20000), .inl (.byte, 20000), .inr 2, .inl (.byte, 3000), .inl (.int, 2000), .inl (.int, 30), .inl (.boolean, 30), .inr 3, .inl (.int, 2000), .inl (.int, 2000), .inr 4, .inl (.long, cn), .inl (.int, mo), .inl (.int, mo), .inl (.int, mo), .inl (.int, mo), .inr 5, .inl (.long, 500), .inl (.long, 500), .inl (.long, 500), .inl (.long, 500), .inr 6, .inl (.byte, 4000), .inl (.byte, 10), .inr 7, .inl (.int, 2000), .inl (.int, 2000), .inl (.int, 2000), .inl (.int, 2000), .inl (.int, 2000), .inl (.long, 18000), .inl (.long, 32), .inl (.long, 444), .inr 8, .inl (.byte, mo), .inl (.int, mo), .inl (.int, mo), .inl (.int, (mo + 500)), .inr 9, .inr 10]) (c' := 181) (z' := 1680532) rfl rfl rfl (by decide) rfl (by show _ + 11 = _; omega) (by decide) (by omega) ?_
  refine eg_k_dupr rfl ?_
  refine eg_k_aload rfl rfl ?_
  refine eg_k_gfr (b := 1) rfl rfl rfl rfl ?_
  refine eg_k_aload rfl rfl ?_
  refine eg_k_gfr (b := 15) rfl rfl rfl rfl ?_
  refine eg_k_aload rfl rfl ?_
  refine eg_k_gfr (b := 21) rfl rfl rfl rfl ?_
  refine eg_k_aload rfl rfl ?_
  refine eg_k_aload rfl rfl ?_
  refine eg_k_aload rfl rfl ?_
  refine eg_k_aload rfl rfl ?_
  refine eg_k_gfr (b := 38) rfl rfl rfl rfl ?_
  refine eg_k_call (c1 := 20) (z1 := 200000) (as := [.inr (.inr (some 44)), .inr (.inr (some 1)), .inr (.inr (some 15)), .inr (.inr (some 21)), .inr (.inr (some 29)), .inr (.inr (some 37)), .inr (.inr (some 43)), .inr (.inr (some 38))]) (rest := [.inr (.inr (some 44)), .inr (.inr (some 0))]) rfl eg_tj25 (Nat.le_of_ble_eq_true rfl) rfl rfl (True.intro) (Nat.le_of_ble_eq_true rfl) (by omega) (by omega) ?_ (fun Q hQ => ec_25 hQ)
  refine eg_k_pfr rfl rfl rfl ?_
  refine eg_k_aload rfl rfl ?_
  refine eg_k_ci rfl ?_
  refine eg_k_pfi rfl rfl rfl ?_
  exact eg_k_ret rfl rfl (by decide) (by decide) hQ
set_option maxRecDepth 100000 in
set_option maxHeartbeats 4000000 in
theorem ec_0b {sc : eg_Sc} {d : Nat} {r : Nat → Nat → Option Nat} {M : Nat → Nat → Int} {Q : Option eg_V → eg_H → Prop} {cn mo : Nat} (h100 : 100 ≤ cn) (h20 : cn ≤ 20000) (hmo : cn / 3 + 1 = mo) {c f : Int} (hf : (f = 0 ∧ cn = 2000) ∨ (f = 1 ∧ c = ((cn : Nat) : Int))) (hQ : Q none (ec_L cn mo, ec_R r, ec_M M cn mo)) : eg_X sc (eg_wp sc (d + 6)) eg_p0 none 300 2000000 Q 12 [some (.inr (.inr (some 0))), some (.inl c), some (.inl f), none, none, none] [] ([.inr 0], r, M) 0 0 := by
  refine eg_k_aload rfl rfl ?_
  refine eg_k_new (a := 1) (l' := [.inr 0, .inr 1]) (c' := 1) (z' := 7) rfl rfl rfl (by decide) rfl (by show _ + 7 = _; omega) (by decide) (by omega) ?_
  refine eg_k_dupr rfl ?_
  refine eg_k_call (c1 := 10) (z1 := 80000) (as := [.inr (.inr (some 1))]) (rest := [.inr (.inr (some 1)), .inr (.inr (some 0))]) rfl eg_tj2 (Nat.le_of_ble_eq_true rfl) rfl rfl (True.intro) (Nat.le_of_ble_eq_true rfl) (by omega) (by omega) ?_ (fun Q hQ => ec_2 rfl hQ)
  refine eg_k_pfr rfl rfl rfl ?_
  refine eg_k_aload rfl rfl ?_
  refine eg_k_new (a := 7) (l' := [.inr 0, .inr 1, .inl (.byte, 8880), .inl (.int, 444), .inl (.long, 20000), .inl (.int, 20000), .inl (.byte, 20000), .inr 2]) (c' := 12) (z' := 80019) rfl rfl rfl (by decide) rfl (by show _ + 12 = _; omega) (by decide) (by omega) ?_
  refine eg_k_dupr rfl ?_
  refine eg_k_aload rfl rfl ?_
  refine eg_k_gfr (b := 1) rfl rfl rfl rfl ?_
  refine eg_k_call (c1 := 20) (z1 := 200000) (as := [.inr (.inr (some 7)), .inr (.inr (some 1))]) (rest := [.inr (.inr (some 7)), .inr (.inr (some 0))]) rfl eg_tj15 (Nat.le_of_ble_eq_true rfl) rfl rfl (True.intro) (Nat.le_of_ble_eq_true rfl) (by omega) (by omega) ?_ (fun Q hQ => ec_15 hQ)
  refine eg_k_pfr rfl rfl rfl ?_
  refine eg_k_aload rfl rfl ?_
  refine eg_k_new (a := 12) (l' := [.inr 0, .inr 1, .inl (.byte, 8880), .inl (.int, 444), .inl (.long, 20000), .inl (.int, 20000), .inl (.byte, 20000), .inr 2, .inl (.byte, 3000), .inl (.int, 2000), .inl (.int, 30), .inl (.boolean, 30), .inr 3]) (c' := 33) (z' := 280023) rfl rfl rfl (by decide) rfl (by show _ + 4 = _; omega) (by decide) (by omega) ?_
  refine eg_k_dupr rfl ?_
  refine eg_k_aload rfl rfl ?_
  refine eg_k_gfr (b := 1) rfl rfl rfl rfl ?_
  refine eg_k_call (c1 := 20) (z1 := 200000) (as := [.inr (.inr (some 12)), .inr (.inr (some 1))]) (rest := [.inr (.inr (some 12)), .inr (.inr (some 0))]) rfl eg_tj16 (Nat.le_of_ble_eq_true rfl) rfl rfl (True.intro) (Nat.le_of_ble_eq_true rfl) (by omega) (by omega) ?_ (fun Q hQ => ec_16 hQ)
  refine eg_k_pfr rfl rfl rfl ?_
  refine eg_k_aload rfl rfl ?_
  refine eg_k_new (a := 15) (l' := [.inr 0, .inr 1, .inl (.byte, 8880), .inl (.int, 444), .inl (.long, 20000), .inl (.int, 20000), .inl (.byte, 20000), .inr 2, .inl (.byte, 3000), .inl (.int, 2000), .inl (.int, 30), .inl (.boolean, 30), .inr 3, .inl (.int, 2000), .inl (.int, 2000), .inr 4]) (c' := 54) (z' := 480036) rfl rfl rfl (by decide) rfl (by show _ + 13 = _; omega) (by decide) (by omega) ?_
  refine eg_k_dupr rfl ?_
  refine eg_k_iload rfl rfl ?_
  refine eg_k_if rfl (fun z => ?_) (fun z => ?_)
  · have z2 : f = 0 := z
    have h2 : cn = 2000 := by omega
    subst h2
    refine eg_k_ci rfl ?_
    exact ec_0c h100 h20 hmo hQ
  · have z2 : ¬ f = 0 := z
    have h2 : c = ((cn : Nat) : Int) := by omega
    subst h2
    refine eg_k_iload rfl rfl ?_
    refine eg_k_goto rfl ?_
    exact ec_0c h100 h20 hmo hQ
/-- how many cells there are -/
def ec_cn (c : Int) : Nat := if 100 ≤ c ∧ c ≤ 20000 then c.toNat else 2000
set_option maxRecDepth 100000 in
/-- WeakScheme(c) -/
theorem ec_0 {sc : eg_Sc} {d : Nat} {r : Nat → Nat → Option Nat} {M : Nat → Nat → Int} {Q : Option eg_V → eg_H → Prop} {c : Int} (hQ : Q none (ec_L (ec_cn c) (ec_cn c / 3 + 1), ec_R r, ec_M M (ec_cn c) (ec_cn c / 3 + 1))) : eg_wp sc (d + 7) 0 [.inr (.inr (some 0)), .inl c] ([.inr 0], r, M) 300 2000000 Q := by
  have hb : 100 ≤ ec_cn c ∧ ec_cn c ≤ 20000 := by unfold ec_cn; split <;> omega
  refine eg_in (lv := [some (.inr (.inr (some 0))), some (.inl c), none, none, none, none]) eg_tj0 (Nat.le_of_ble_eq_true rfl) rfl ?_
  refine eg_k_aload rfl rfl ?_
  refine eg_k_oi rfl (Nat.le_of_ble_eq_true rfl) ?_
  refine eg_k_iload rfl rfl ?_
  refine eg_k_ci rfl ?_
  refine eg_k_icmp rfl (fun z => ?_) (fun z => ?_)
  · have z2 : c < 100 := z
    refine eg_k_ci rfl ?_
    refine eg_k_istore (lv' := [some (.inr (.inr (some 0))), some (.inl c), some (.inl 0), none, none, none]) rfl rfl ?_
    exact ec_0b hb.1 hb.2 rfl (Or.inl ⟨rfl, by unfold ec_cn; rw [if_neg (by omega)]⟩) hQ
  · have z2 : ¬ c < 100 := z
    refine eg_k_iload rfl rfl ?_
    refine eg_k_ci rfl ?_
    refine eg_k_icmp rfl (fun y => ?_) (fun y => ?_)
    · have y2 : 20000 < c := y
      refine eg_k_ci rfl ?_
      refine eg_k_istore (lv' := [some (.inr (.inr (some 0))), some (.inl c), some (.inl 0), none, none, none]) rfl rfl ?_
      exact ec_0b hb.1 hb.2 rfl (Or.inl ⟨rfl, by unfold ec_cn; rw [if_neg (by omega)]⟩) hQ
    · have y2 : ¬ 20000 < c := y
      refine eg_k_ci rfl ?_
      refine eg_k_goto rfl ?_
      refine eg_k_istore (lv' := [some (.inr (.inr (some 0))), some (.inl c), some (.inl 1), none, none, none]) rfl rfl ?_
      exact ec_0b hb.1 hb.2 rfl (Or.inr ⟨rfl, by unfold ec_cn; rw [if_pos (by omega)]; omega⟩) hQ
