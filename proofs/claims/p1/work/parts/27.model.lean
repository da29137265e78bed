/-! THE REFERENCE'S CONSTRUCTOR -/
abbrev em_L (cn mo : Nat) : List eg_C := [.inr 0, .inr 1, .inl (.byte, 8880), .inl (.int, 444), .inl (.long, 20000), .inl (.int, 20000), .inl (.byte, 20000), .inr 2, .inl (.byte, 3000), .inl (.int, 2000), .inl (.int, 30), .inl (.boolean, 30), .inr 3, .inl (.int, 2000), .inl (.int, 2000), .inr 4, .inl (.long, cn), .inl (.int, mo), .inl (.int, mo), .inl (.int, mo), .inl (.int, mo), .inr 5, .inl (.long, 500), .inl (.long, 500), .inl (.long, 500), .inl (.long, 500), .inr 6, .inl (.byte, 4000), .inl (.byte, 10), .inr 7, .inl (.int, 2000), .inl (.int, 2000), .inl (.int, 2000), .inl (.int, 2000), .inl (.int, 2000), .inl (.long, 18000), .inl (.long, 32), .inl (.long, 444), .inr 8, .inl (.byte, mo), .inl (.int, mo), .inl (.int, mo), .inl (.int, (mo + 500)), .inr 9, .inr 10, .inr 11, .inl (.int, 3020), .inl (.int, 9200), .inl (.int, 460), .inl (.byte, 20100), .inl (.int, 20100), .inl (.int, 20100), .inl (.int, 20100), .inl (.int, 20100), .inl (.int, 20100), .inl (.short, 20100), .inl (.short, 20100), .inl (.int, 31), .inl (.boolean, 31), .inl (.int, 4100), .inl (.int, 4100), .inl (.int, 4100), .inl (.byte, 6700), .inl (.short, 6700), .inl (.int, 6700), .inl (.int, 6700), .inl (.int, 6700), .inl (.boolean, 6700), .inl (.boolean, 6700), .inl (.int, 6700), .inl (.long, 20000), .inl (.int, 20000), .inl (.long, 460), .inl (.long, 500), .inl (.long, 500), .inl (.long, 501), .inl (.long, 501), .inl (.long, 19000), .inl (.byte, 4400), .inl (.int, 4400), .inl (.int, 4400), .inl (.int, 4400), .inl (.long, 4400), .inl (.int, 31), .inl (.long, 31), .inl (.int, 6700), .inl (.int, 4000), .inl (.long, 10)]
def em_R (r : Nat → Nat → Option Nat) : Nat → Nat → Option Nat := (eg_u (eg_z (eg_u (eg_z (eg_u (eg_z (eg_u (eg_z (eg_u (eg_z (eg_u (eg_z (eg_u (eg_z (eg_u (eg_z (eg_u (eg_z (eg_u (eg_z (eg_u (eg_z (eg_u (eg_z (eg_u (eg_z (eg_u (eg_z (eg_u (eg_z (eg_u (eg_z (eg_u (eg_z (eg_u (eg_z (eg_u (eg_z (eg_u (eg_z (eg_u (eg_z (eg_u (eg_z (eg_u (eg_z (eg_u (eg_z (eg_u (eg_z (eg_u (eg_z (eg_u (eg_z (eg_u (eg_z (eg_u (eg_z (eg_u (eg_z (eg_u (eg_z (eg_u (eg_z (eg_u (eg_z (eg_u (eg_z (eg_u (eg_z (eg_u (eg_z (eg_u (eg_z (eg_u (eg_z (eg_u (eg_z (eg_u (eg_z (eg_u (eg_z (eg_u (eg_z r 46 none) 45 0 (some 46)) 47 none) 45 5 (some 47)) 48 none) 45 6 (some 48)) 49 none) 45 8 (some 49)) 50 none) 45 9 (some 50)) 51 none) 45 10 (some 51)) 52 none) 45 11 (some 52)) 53 none) 45 12 (some 53)) 54 none) 45 13 (some 54)) 55 none) 45 14 (some 55)) 56 none) 45 15 (some 56)) 57 none) 45 19 (some 57)) 58 none) 45 20 (some 58)) 59 none) 45 24 (some 59)) 60 none) 45 25 (some 60)) 61 none) 45 26 (some 61)) 62 none) 45 30 (some 62)) 63 none) 45 31 (some 63)) 64 none) 45 32 (some 64)) 65 none) 45 33 (some 65)) 66 none) 45 34 (some 66)) 67 none) 45 35 (some 67)) 68 none) 45 36 (some 68)) 69 none) 45 37 (some 69)) 70 none) 45 39 (some 70)) 71 none) 45 40 (some 71)) 72 none) 45 44 (some 72)) 73 none) 45 46 (some 73)) 74 none) 45 47 (some 74)) 75 none) 45 49 (some 75)) 76 none) 45 50 (some 76)) 77 none) 45 52 (some 77)) 78 none) 45 54 (some 78)) 79 none) 45 55 (some 79)) 80 none) 45 56 (some 80)) 81 none) 45 57 (some 81)) 82 none) 45 58 (some 82)) 83 none) 45 60 (some 83)) 84 none) 45 61 (some 84)) 85 none) 45 65 (some 85)) 86 none) 45 71 (some 86)) 87 none) 45 75 (some 87))
def em_M0 (M : Nat → Nat → Int) : Nat → Nat → Int := (eg_z (eg_z (eg_z (eg_u (eg_u (eg_z (eg_z (eg_z (eg_z (eg_z (eg_z (eg_z (eg_z (eg_z (eg_z (eg_z (eg_z (eg_z (eg_z (eg_z (eg_z (eg_z (eg_z (eg_z (eg_z (eg_z (eg_z (eg_z (eg_z (eg_z (eg_z (eg_z (eg_z (eg_z (eg_z (eg_z (eg_z (eg_z (eg_z (eg_z (eg_z (eg_z (eg_z (eg_u (eg_z M 46 0) 45 2 ((-1))) 47 0) 48 0) 49 0) 50 0) 51 0) 52 0) 53 0) 54 0) 55 0) 56 0) 57 0) 58 0) 59 0) 60 0) 61 0) 62 0) 63 0) 64 0) 65 0) 66 0) 67 0) 68 0) 69 0) 70 0) 71 0) 72 0) 73 0) 74 0) 75 0) 76 0) 77 0) 78 0) 79 0) 80 0) 81 0) 82 0) 83 0) 84 0) 45 62 ((-1))) 45 63 ((-1))) 85 0) 86 0) 87 0)
/-- the words: letters, begins, names behind k signs -/
def em_s1 (M : Nat → Nat → Int) : Nat → Nat × (Nat → Nat → Int)
  | 0 => (0, M)
  | k + 1 => if (eg_str.getD 11 []).getD k 0 = 32 then ((em_s1 M k).1, eg_u (eg_u (em_s1 M k).2 45 7 ((em_s1 M k).2 45 7 + 1)) 48 ((em_s1 M k).2 45 7 + 1).toNat (((em_s1 M k).1 : Nat) : Int)) else ((em_s1 M k).1 + 1, eg_u (em_s1 M k).2 47 (em_s1 M k).1 ((eg_str.getD 11 []).getD k 0))
theorem em_s1_inv (M : Nat → Nat → Int) (h : M 45 7 = 0) : ∀ k, (em_s1 M k).1 ≤ k ∧ 0 ≤ (em_s1 M k).2 45 7 ∧ (em_s1 M k).2 45 7 ≤ (k : Int)
  | 0 => ⟨Nat.le_refl _, by show 0 ≤ M 45 7; omega, by show M 45 7 ≤ 0; omega⟩
  | k + 1 => by
    have ih := em_s1_inv M h k
    unfold em_s1
    split
    · refine ⟨by show (em_s1 M k).1 ≤ k + 1; omega, ?_, ?_⟩
      · dsimp only
        rw [eg_u_ne (by decide), eg_u_at, if_pos rfl]; omega
      · dsimp only
        rw [eg_u_ne (by decide), eg_u_at, if_pos rfl]; omega
    · refine ⟨by show (em_s1 M k).1 + 1 ≤ k + 1; omega, ?_, ?_⟩
      · dsimp only
        rw [eg_u_ne (by decide)]; omega
      · dsimp only
        rw [eg_u_ne (by decide)]; omega
theorem es_l11 : (eg_str.getD 11 []).length = 295 := by decide +kernel
def em_E (M : Nat → Nat → Int) : Nat → Nat → Int := eg_u (eg_lay9 (eg_u (eg_lay9 M 69 0 (fun k => 6699 - ((k : Nat) : Int)) 6700) 45 38 6700) 71 0 (fun k => if ((k : Nat) : Int) + 1 < 20000 then ((k : Nat) : Int) + 1 else -1) 20000) 45 41 0
set_option maxRecDepth 100000 in
theorem em_empty {cn mo : Nat} {sc : eg_Sc} {d : Nat} {r : Nat → Nat → Option Nat} {M : Nat → Nat → Int} {Q : Option eg_V → eg_H → Prop} (hf : r 45 37 = some 69) (hb : r 45 40 = some 71) (hQ : Q none (em_L cn mo, r, em_E M)) : eg_wp sc (d + 1) 154 [.inr (.inr (some 45))] (em_L cn mo, r, M) 0 0 Q := by
  refine eg_in (lv := [some (.inr (.inr (some 45))), none]) eg_tj154 (Nat.le_of_ble_eq_true rfl) rfl ?_
  refine eg_k_ci rfl ?_
  refine eg_k_istore (lv' := [some (.inr (.inr (some 45))), some (.inl ((0 : Nat) : Int))]) rfl rfl ?_
  have loop2 : ∀ (k i : Nat), i + k = 20000 → eg_X sc (eg_wp sc d) eg_p154 none 0 0 Q 19 [some (.inr (.inr (some 45))), some (.inl (i : Nat))] [] (em_L cn mo, r, (eg_lay9 (eg_u (eg_lay9 M 69 0 (fun k => 6699 - ((k : Nat) : Int)) 6700) 45 38 6700) 71 0 (fun k => if ((k : Nat) : Int) + 1 < 20000 then ((k : Nat) : Int) + 1 else -1) i)) 0 0 := by
    intro k
    induction k with
    | zero =>
      intro i hi
      have hin : i = 20000 := by omega
      subst hin
      refine eg_k_iload rfl rfl ?_
      refine eg_k_ci rfl ?_
      refine eg_k_icmp rfl (fun _ => ?_) (fun z => absurd (show (20000 : Int) ≤ ((20000 : Nat) : Int) by omega) z)
      refine eg_k_aload rfl rfl ?_
      refine eg_k_ci rfl ?_
      refine eg_k_pfi rfl rfl rfl ?_
      exact eg_k_ret rfl rfl (Nat.le_refl _) (Nat.le_refl _) hQ
    | succ k ih =>
      intro i hi
      have fin : eg_X sc (eg_wp sc d) eg_p154 none 0 0 Q 35 [some (.inr (.inr (some 45))), some (.inl (i : Nat))] [.inl ((fun k => if ((k : Nat) : Int) + 1 < 20000 then ((k : Nat) : Int) + 1 else -1) i), .inl (i : Nat), .inr (.inr (some 71))] (em_L cn mo, r, (eg_lay9 (eg_u (eg_lay9 M 69 0 (fun k => 6699 - ((k : Nat) : Int)) 6700) 45 38 6700) 71 0 (fun k => if ((k : Nat) : Int) + 1 < 20000 then ((k : Nat) : Int) + 1 else -1) i)) 0 0 := by
        refine eg_k_iast (k := 20000) rfl rfl (by omega) (by omega) ?_
        rw [show ((i : Nat) : Int).toNat = 0 + i by omega, eg_lay9_step]
        refine eg_k_iinc (lv' := [some (.inr (.inr (some 45))), some (.inl (i + 1 : Nat))]) rfl rfl (by rw [eg_wi_1 (by omega)]; rfl) ?_
        refine eg_k_goto rfl ?_
        exact ih (i + 1) (by omega)
      refine eg_k_iload rfl rfl ?_
      refine eg_k_ci rfl ?_
      refine eg_k_icmp rfl (fun z => by have z2 : (20000 : Int) ≤ (i : Int) := z; omega) (fun _ => ?_)
      refine eg_k_aload rfl rfl ?_
      refine eg_k_gfa rfl rfl rfl hb ?_
      refine eg_k_iload rfl rfl ?_
      refine eg_k_iload rfl rfl ?_
      refine eg_k_ci rfl ?_
      refine eg_k_iadd rfl ?_
      refine eg_k_ci rfl ?_
      rw [show eg_wi ((i : Int) + 1) = (i : Int) + 1 from eg_wi_id (by omega) (by omega)]
      refine eg_k_icmp rfl (fun z => ?_) (fun z => ?_)
      · have z2 : (20000 : Int) ≤ (i : Int) + 1 := z
        refine eg_k_ci rfl ?_
        have fin2 := fin
        dsimp only at fin2
        rw [if_neg (by omega)] at fin2
        exact fin2
      · have z2 : ¬ (20000 : Int) ≤ (i : Int) + 1 := z
        refine eg_k_iload rfl rfl ?_
        refine eg_k_ci rfl ?_
        refine eg_k_iadd rfl ?_
        rw [show eg_wi ((i : Int) + 1) = (i : Int) + 1 from eg_wi_id (by omega) (by omega)]
        refine eg_k_goto rfl ?_
        have fin2 := fin
        dsimp only at fin2
        rw [if_pos (by omega)] at fin2
        exact fin2
  have loop1 : ∀ (k i : Nat), i + k = 6700 → eg_X sc (eg_wp sc d) eg_p154 none 0 0 Q 2 [some (.inr (.inr (some 45))), some (.inl (i : Nat))] [] (em_L cn mo, r, (eg_lay9 M 69 0 (fun k => 6699 - ((k : Nat) : Int)) i)) 0 0 := by
    intro k
    induction k with
    | zero =>
      intro i hi
      have hin : i = 6700 := by omega
      subst hin
      refine eg_k_iload rfl rfl ?_
      refine eg_k_ci rfl ?_
      refine eg_k_icmp rfl (fun _ => ?_) (fun z => absurd (show (6700 : Int) ≤ ((6700 : Nat) : Int) by omega) z)
      refine eg_k_aload rfl rfl ?_
      refine eg_k_ci rfl ?_
      refine eg_k_pfi rfl rfl rfl ?_
      refine eg_k_ci rfl ?_
      refine eg_k_istore (lv' := [some (.inr (.inr (some 45))), some (.inl ((0 : Nat) : Int))]) rfl rfl ?_
      have h9 := loop2 20000 0 (by omega)
      rw [eg_lay9_0] at h9
      exact h9
    | succ k ih =>
      intro i hi
      refine eg_k_iload rfl rfl ?_
      refine eg_k_ci rfl ?_
      refine eg_k_icmp rfl (fun z => by have z2 : (6700 : Int) ≤ (i : Int) := z; omega) (fun _ => ?_)
      refine eg_k_aload rfl rfl ?_
      refine eg_k_gfa rfl rfl rfl hf ?_
      refine eg_k_iload rfl rfl ?_
      refine eg_k_ci rfl ?_
      refine eg_k_iload rfl rfl ?_
      refine eg_k_isub rfl ?_
      rw [show eg_wi (6699 - (i : Int)) = 6699 - (i : Int) from eg_wi_id (by omega) (by omega)]
      refine eg_k_iast (k := 6700) rfl rfl (by omega) (by omega) ?_
      have hst := eg_lay9_step (M := M) (a := 69) (D := 0) (n := i) (f := fun k => 6699 - ((k : Nat) : Int))
      try dsimp only at hst
      rw [show ((i : Nat) : Int).toNat = 0 + i by omega, hst]
      refine eg_k_iinc (lv' := [some (.inr (.inr (some 45))), some (.inl (i + 1 : Nat))]) rfl rfl (by rw [eg_wi_1 (by omega)]; rfl) ?_
      refine eg_k_goto rfl ?_
      exact ih (i + 1) (by omega)
  have h9 := loop1 6700 0 (by omega)
  rw [eg_lay9_0] at h9
  exact h9
def em_G (M : Nat → Nat → Int) : Nat → Nat → Int := (eg_lay9 (eg_fil M 72 0 460 (-1)) 72 10 (fun j => (Int64.ofInt 21474836480 ||| Int64.ofInt (((10 + j : Nat) : Nat) : Int)).toInt) 34)
/-- the globals, from 229 on -/
theorem em_glob {cn mo : Nat} {sc : eg_Sc} {d : Nat} {r : Nat → Nat → Option Nat} {M : Nat → Nat → Int} {Q : Option eg_V → eg_H → Prop} {mc ms c9 z9 : Nat} {c : Int} {x2 x3 x4 : Option eg_V} (hG : r 45 44 = some 72) (hf : r 45 37 = some 69) (hb : r 45 40 = some 71) (hx : ∀ y, x2 ≠ some (.inr (.inl y))) (hc : c9 ≤ mc) (hz : z9 ≤ ms) (hQ : Q none (em_L cn mo, r, em_E (em_G M))) : eg_X sc (eg_wp sc (d + 1)) eg_p153 none mc ms Q 229 [some (.inr (.inr (some 45))), some (.inl c), x2, x3, x4] [] (em_L cn mo, r, M) c9 z9 := by
  have hs : ∀ (y : Option eg_V) (v : eg_V), eg_s1 [some (.inr (.inr (some 45))), some (.inl c), x2, y, x4] 3 v = [some (.inr (.inr (some 45))), some (.inl c), x2, some v, x4] := by
    intro y v
    match x2, hx with
    | none, _ => rfl
    | some (.inl q), _ => rfl
    | some (.inr (.inl q)), hx => exact absurd rfl (hx q)
    | some (.inr (.inr q)), _ => rfl
  have loop3 : ∀ (k i : Nat), i + k = 34 → eg_X sc (eg_wp sc (d + 1)) eg_p153 none mc ms Q 243 [some (.inr (.inr (some 45))), some (.inl c), x2, some (.inl ((10 + i : Nat) : Int)), x4] [] (em_L cn mo, r, (eg_lay9 (eg_fil M 72 0 460 (-1)) 72 10 (fun j => (Int64.ofInt 21474836480 ||| Int64.ofInt (((10 + j : Nat) : Nat) : Int)).toInt) i)) c9 z9 := by
    intro k
    induction k with
    | zero =>
      intro i hi
      have hin : i = 34 := by omega
      subst hin
      refine eg_k_iload rfl rfl ?_
      refine eg_k_ci rfl ?_
      refine eg_k_icmp rfl (fun _ => ?_) (fun z => absurd (show (44 : Int) ≤ ((10 + 34 : Nat) : Int) by omega) z)
      refine eg_k_aload rfl rfl ?_
      refine eg_k_call (c1 := 0) (z1 := 0) (as := [.inr (.inr (some 45))]) (rest := []) rfl eg_tj154 (Nat.le_of_ble_eq_true rfl) rfl rfl rfl (Nat.le_of_ble_eq_true rfl) hc hz ?_ (fun Q hQ => em_empty hf hb hQ)
      exact eg_k_ret rfl rfl hc hz hQ
    | succ k ih =>
      intro i hi
      refine eg_k_iload rfl rfl ?_
      refine eg_k_ci rfl ?_
      refine eg_k_icmp rfl (fun z => by have z2 : (44 : Int) ≤ ((10 + i : Nat) : Int) := z; omega) (fun _ => ?_)
      refine eg_k_aload rfl rfl ?_
      refine eg_k_gfa rfl rfl rfl hG ?_
      refine eg_k_iload rfl rfl ?_
      refine eg_k_cl rfl ?_
      refine eg_k_iload rfl rfl ?_
      refine eg_k_i2l rfl ?_
      refine eg_k_lor rfl ?_
      refine eg_k_last (k := 460) rfl rfl (by omega) (by omega) ?_
      have hst := eg_lay9_step (M := (eg_fil M 72 0 460 (-1))) (a := 72) (D := 10) (n := i) (f := fun j => (Int64.ofInt 21474836480 ||| Int64.ofInt (((10 + j : Nat) : Nat) : Int)).toInt)
      try dsimp only at hst
      rw [show ((10 + i : Nat) : Int).toNat = 10 + i by omega, hst]
      refine eg_k_iinc (lv' := [some (.inr (.inr (some 45))), some (.inl c), x2, some (.inl ((10 + (i + 1) : Nat) : Int)), x4]) rfl rfl (by rw [hs, show eg_wi (((10 + i : Nat) : Int) + 1) = ((10 + (i + 1) : Nat) : Int) from (eg_wi_id (by omega) (by omega)).trans (by omega)]) ?_
      refine eg_k_goto rfl ?_
      exact ih (i + 1) (by omega)
  have loop2 : ∀ (k i : Nat) (M9 : Nat → Nat → Int), i + k = 460 → eg_fil M9 72 i 460 (-1) = eg_fil M 72 0 460 (-1) → eg_X sc (eg_wp sc (d + 1)) eg_p153 none mc ms Q 231 [some (.inr (.inr (some 45))), some (.inl c), x2, some (.inl (i : Nat)), x4] [] (em_L cn mo, r, M9) c9 z9 := by
    intro k
    induction k with
    | zero =>
      intro i M9 hi he
      have hin : i = 460 := by omega
      subst hin
      rw [eg_fil_end] at he
      subst he
      refine eg_k_iload rfl rfl ?_
      refine eg_k_ci rfl ?_
      refine eg_k_icmp rfl (fun _ => ?_) (fun z => absurd (show (460 : Int) ≤ ((460 : Nat) : Int) by omega) z)
      refine eg_k_ci rfl ?_
      refine eg_k_istore (lv' := [some (.inr (.inr (some 45))), some (.inl c), x2, some (.inl ((10 + 0 : Nat) : Int)), x4]) rfl (hs _ _) ?_
      have h9 := loop3 34 0 (by omega)
      rw [eg_lay9_0] at h9
      exact h9
    | succ k ih =>
      intro i M9 hi he
      refine eg_k_iload rfl rfl ?_
      refine eg_k_ci rfl ?_
      refine eg_k_icmp rfl (fun z => by have z2 : (460 : Int) ≤ ((i : Nat) : Int) := z; omega) (fun _ => ?_)
      refine eg_k_aload rfl rfl ?_
      refine eg_k_gfa rfl rfl rfl hG ?_
      refine eg_k_iload rfl rfl ?_
      refine eg_k_cl rfl ?_
      refine eg_k_last (k := 460) rfl rfl (by omega) (by omega) ?_
      refine eg_k_iinc (lv' := [some (.inr (.inr (some 45))), some (.inl c), x2, some (.inl (i + 1 : Nat)), x4]) rfl rfl (by rw [hs, eg_wi_1 (by omega)]) ?_
      refine eg_k_goto rfl ?_
      exact ih (i + 1) _ (by omega) (by rw [show ((i : Nat) : Int).toNat = i by omega, eg_fil_step (by omega)]; exact he)
  refine eg_k_ci rfl ?_
  refine eg_k_istore (lv' := [some (.inr (.inr (some 45))), some (.inl c), x2, some (.inl ((0 : Nat) : Int)), x4]) rfl (hs _ _) ?_
  exact loop2 460 0 M (by omega) rfl
set_option maxRecDepth 100000 in
/-- the words, from 194 on -/
theorem em_words {cn mo : Nat} {sc : eg_Sc} {d : Nat} {r : Nat → Nat → Option Nat} {M : Nat → Nat → Int} {Q : Option eg_V → eg_H → Prop} {mc ms c9 z9 : Nat} {c : Int} {w : Option eg_V} (hG : r 45 44 = some 72) (hf : r 45 37 = some 69) (hb : r 45 40 = some 71) (hB : r 45 6 = some 48) (hL : r 45 5 = some 47) (hm : M 45 7 = 0) (hc : c9 ≤ mc) (hz : z9 ≤ ms) (hQ : Q none (em_L cn mo, r, em_E (em_G (em_s1 M 295).2))) : eg_X sc (eg_wp sc (d + 4)) eg_p153 none mc ms Q 194 [some (.inr (.inr (some 45))), some (.inl c), some (.inl ((0 : Nat) : Int)), some (.inl ((0 : Nat) : Int)), w] [] (em_L cn mo, r, M) c9 z9 := by
  have hl : (em_L cn mo).length < 1000000 := Nat.le_of_ble_eq_true rfl
  have h11 := es_l11
  have inv := em_s1_inv M hm
  have loop : ∀ (j k : Nat) (w : Option eg_V), k + j = 295 → eg_X sc (eg_wp sc (d + 4)) eg_p153 none mc ms Q 194 [some (.inr (.inr (some 45))), some (.inl c), some (.inl ((em_s1 M k).1 : Nat)), some (.inl (k : Nat)), w] [] (em_L cn mo, r, (em_s1 M k).2) c9 z9 := by
    intro j
    induction j with
    | zero =>
      intro k w hi
      have hin : k = 295 := by omega
      subst hin
      refine eg_k_iload rfl rfl ?_
      refine eg_k_cs rfl ?_
      refine eg_k_call (c1 := 0) (z1 := 0) (as := [.inr (.inr (some (1000200 + 11)))]) (rest := [.inl ((295 : Nat) : Int)]) rfl eg_tj3 (Nat.le_of_ble_eq_true rfl) rfl rfl (es_rc hl (by decide)) (Nat.le_of_ble_eq_true rfl) hc hz ?_ (fun Q hQ => es_3 hl (by decide) hQ)
      rw [h11]
      refine eg_k_icmp rfl (fun _ => ?_) (fun z => absurd (Int.le_refl _) z)
      exact em_glob (d := d + 3) hG hf hb (fun y => by intro z; cases z) hc hz hQ
    | succ j ih =>
      intro k w hi
      have i1 := inv k
      refine eg_k_iload rfl rfl ?_
      refine eg_k_cs rfl ?_
      refine eg_k_call (c1 := 0) (z1 := 0) (as := [.inr (.inr (some (1000200 + 11)))]) (rest := [.inl (k : Nat)]) rfl eg_tj3 (Nat.le_of_ble_eq_true rfl) rfl rfl (es_rc hl (by decide)) (Nat.le_of_ble_eq_true rfl) hc hz ?_ (fun Q hQ => es_3 hl (by decide) hQ)
      rw [h11]
      refine eg_k_icmp rfl (fun z => by have z2 : ((295 : Nat) : Int) ≤ (k : Int) := z; omega) (fun _ => ?_)
      refine eg_k_cs rfl ?_
      refine eg_k_iload rfl rfl ?_
      refine eg_k_call (c1 := 0) (z1 := 0) (as := [.inr (.inr (some (1000200 + 11))), .inl (k : Nat)]) (rest := []) rfl eg_tj5 (Nat.le_of_ble_eq_true rfl) rfl rfl (es_rc hl (by decide)) (Nat.le_of_ble_eq_true rfl) hc hz ?_ (fun Q hQ => es_5 hl (by decide) (by omega) (by rw [h11]; omega) hQ)
      rw [show ((k : Nat) : Int).toNat = k by omega]
      refine eg_k_istore (lv' := [some (.inr (.inr (some 45))), some (.inl c), some (.inl ((em_s1 M k).1 : Nat)), some (.inl (k : Nat)), some (.inl ((eg_str.getD 11 []).getD k 0))]) rfl rfl ?_
      refine eg_k_iload rfl rfl ?_
      refine eg_k_ci rfl ?_
      have nxt : eg_X sc (eg_wp sc (d + 4)) eg_p153 none mc ms Q 227 [some (.inr (.inr (some 45))), some (.inl c), some (.inl ((em_s1 M (k + 1)).1 : Nat)), some (.inl (k : Nat)), some (.inl ((eg_str.getD 11 []).getD k 0))] [] (em_L cn mo, r, (em_s1 M (k + 1)).2) c9 z9 := by
        refine eg_k_iinc (lv' := [some (.inr (.inr (some 45))), some (.inl c), some (.inl ((em_s1 M (k + 1)).1 : Nat)), some (.inl (k + 1 : Nat)), some (.inl ((eg_str.getD 11 []).getD k 0))]) rfl rfl (by rw [eg_wi_1 (by omega)]; rfl) ?_
        refine eg_k_goto rfl ?_
        exact ih (k + 1) _ (by omega)
      refine eg_k_icmp rfl (fun hne => ?_) (fun he => ?_)
      · have e : em_s1 M (k + 1) = ((em_s1 M k).1 + 1, eg_u (em_s1 M k).2 47 (em_s1 M k).1 ((eg_str.getD 11 []).getD k 0)) := by
          show (if (eg_str.getD 11 []).getD k 0 = 32 then _ else _) = _
          exact if_neg hne
        rw [e] at nxt
        refine eg_k_aload rfl rfl ?_
        refine eg_k_gfa rfl rfl rfl hL ?_
        refine eg_k_iload rfl rfl ?_
        refine eg_k_iload rfl rfl ?_
        refine eg_k_iast (k := 9200) rfl rfl (by omega) (by omega) ?_
        rw [show (((em_s1 M k).1 : Nat) : Int).toNat = (em_s1 M k).1 by omega]
        refine eg_k_iload rfl rfl ?_
        refine eg_k_ci rfl ?_
        refine eg_k_iadd rfl ?_
        rw [eg_wi_1 (by omega)]
        refine eg_k_istore (lv' := [some (.inr (.inr (some 45))), some (.inl c), some (.inl ((em_s1 M k).1 + 1 : Nat)), some (.inl (k : Nat)), some (.inl ((eg_str.getD 11 []).getD k 0))]) rfl rfl ?_
        exact nxt
      · have he2 : (eg_str.getD 11 []).getD k 0 = 32 := Classical.byContradiction he
        have e : em_s1 M (k + 1) = ((em_s1 M k).1, eg_u (eg_u (em_s1 M k).2 45 7 ((em_s1 M k).2 45 7 + 1)) 48 ((em_s1 M k).2 45 7 + 1).toNat (((em_s1 M k).1 : Nat) : Int)) := by
          show (if (eg_str.getD 11 []).getD k 0 = 32 then _ else _) = _
          exact if_pos he2
        rw [e] at nxt
        refine eg_k_aload rfl rfl ?_
        refine eg_k_aload rfl rfl ?_
        refine eg_k_gfie (x := (em_s1 M k).2 45 7) rfl rfl rfl rfl ?_
        refine eg_k_ci rfl ?_
        refine eg_k_iadd rfl ?_
        rw [show eg_wi ((em_s1 M k).2 45 7 + 1) = (em_s1 M k).2 45 7 + 1 from eg_wi_id (by omega) (by omega)]
        refine eg_k_pfi rfl rfl rfl ?_
        refine eg_k_aload rfl rfl ?_
        refine eg_k_gfa rfl rfl rfl hB ?_
        refine eg_k_aload rfl rfl ?_
        refine eg_k_gfie (x := (em_s1 M k).2 45 7 + 1) rfl rfl rfl (by show eg_u _ 45 7 _ 45 7 = _; rw [eg_u_at, if_pos rfl]) ?_
        refine eg_k_iload rfl rfl ?_
        refine eg_k_iast (k := 460) rfl rfl (by omega) (by omega) ?_
        refine eg_k_goto rfl ?_
        exact nxt
  exact loop 295 0 w (by omega)
/-- the memory behind the reference's constructor -/
def em_M (M : Nat → Nat → Int) (cn : Nat) : Nat → Nat → Int := em_E (em_G (em_s1 (eg_u (em_M0 M) 45 27 (cn : Int)) 295).2)
set_option maxRecDepth 100000 in
theorem em_put {cn mo : Nat} {sc : eg_Sc} {d : Nat} {r : Nat → Nat → Option Nat} {M : Nat → Nat → Int} {Q : Option eg_V → eg_H → Prop} {mc ms c9 z9 : Nat} {c x : Int} (hx : x = (ec_cn c : Nat)) (hm : M 45 7 = 0) (hc : c9 ≤ mc) (hz : z9 ≤ ms) (hQ : Q none (em_L cn mo, em_R r, em_M M (ec_cn c))) : eg_X sc (eg_wp sc (d + 4)) eg_p153 none mc ms Q 189 [some (.inr (.inr (some 45))), some (.inl c), none, none, none] [.inl x, .inr (.inr (some 45))] (em_L cn mo, em_R r, em_M0 M) c9 z9 := by
  subst hx
  refine eg_k_pfi rfl rfl rfl ?_
  refine eg_k_ci rfl ?_
  refine eg_k_istore (lv' := [some (.inr (.inr (some 45))), some (.inl c), some (.inl ((0 : Nat) : Int)), none, none]) rfl rfl ?_
  refine eg_k_ci rfl ?_
  refine eg_k_istore (lv' := [some (.inr (.inr (some 45))), some (.inl c), some (.inl ((0 : Nat) : Int)), some (.inl ((0 : Nat) : Int)), none]) rfl rfl ?_
  exact em_words rfl rfl rfl rfl rfl hm hc hz hQ
set_option maxRecDepth 100000 in
/-- the reference's constructor -/
theorem em_153 {cn mo : Nat} {sc : eg_Sc} {d : Nat} {r : Nat → Nat → Option Nat} {M : Nat → Nat → Int} {Q : Option eg_V → eg_H → Prop} {c : Int} (hm : M 45 7 = 0) (hQ : Q none (em_L cn mo, em_R r, em_M M (ec_cn c))) : eg_wp sc (d + 5) 153 [.inr (.inr (some 45)), .inl c] ([.inr 0, .inr 1, .inl (.byte, 8880), .inl (.int, 444), .inl (.long, 20000), .inl (.int, 20000), .inl (.byte, 20000), .inr 2, .inl (.byte, 3000), .inl (.int, 2000), .inl (.int, 30), .inl (.boolean, 30), .inr 3, .inl (.int, 2000), .inl (.int, 2000), .inr 4, .inl (.long, cn), .inl (.int, mo), .inl (.int, mo), .inl (.int, mo), .inl (.int, mo), .inr 5, .inl (.long, 500), .inl (.long, 500), .inl (.long, 500), .inl (.long, 500), .inr 6, .inl (.byte, 4000), .inl (.byte, 10), .inr 7, .inl (.int, 2000), .inl (.int, 2000), .inl (.int, 2000), .inl (.int, 2000), .inl (.int, 2000), .inl (.long, 18000), .inl (.long, 32), .inl (.long, 444), .inr 8, .inl (.byte, mo), .inl (.int, mo), .inl (.int, mo), .inl (.int, (mo + 500)), .inr 9, .inr 10, .inr 11], r, M) 42 333676 Q := by
  refine eg_in (lv := [some (.inr (.inr (some 45))), some (.inl c), none, none, none]) eg_tj153 (Nat.le_of_ble_eq_true rfl) rfl ?_
  refine eg_k_aload rfl rfl ?_
  refine eg_k_oi rfl (Nat.le_of_ble_eq_true rfl) ?_
  refine eg_k_aload rfl rfl ?_
  refine eg_k_ci rfl ?_
  refine eg_k_newa (a := 46) (l' := [.inr 0, .inr 1, .inl (.byte, 8880), .inl (.int, 444), .inl (.long, 20000), .inl (.int, 20000), .inl (.byte, 20000), .inr 2, .inl (.byte, 3000), .inl (.int, 2000), .inl (.int, 30), .inl (.boolean, 30), .inr 3, .inl (.int, 2000), .inl (.int, 2000), .inr 4, .inl (.long, cn), .inl (.int, mo), .inl (.int, mo), .inl (.int, mo), .inl (.int, mo), .inr 5, .inl (.long, 500), .inl (.long, 500), .inl (.long, 500), .inl (.long, 500), .inr 6, .inl (.byte, 4000), .inl (.byte, 10), .inr 7, .inl (.int, 2000), .inl (.int, 2000), .inl (.int, 2000), .inl (.int, 2000), .inl (.int, 2000), .inl (.long, 18000), .inl (.long, 32), .inl (.long, 444), .inr 8, .inl (.byte, mo), .inl (.int, mo), .inl (.int, mo), .inl (.int, (mo + 500)), .inr 9, .inr 10, .inr 11, .inl (.int, 3020)]) (c' := 1) (z' := 3020) rfl rfl rfl (by decide) (by omega) (by omega) rfl (by omega) (by decide) (by omega) ?_
  refine eg_k_pfa rfl rfl rfl ?_
  refine eg_k_aload rfl rfl ?_
  refine eg_k_ci rfl ?_
  refine eg_k_pfi rfl rfl rfl ?_
  refine eg_k_aload rfl rfl ?_
  refine eg_k_ci rfl ?_
  refine eg_k_newa (a := 47) (l' := [.inr 0, .inr 1, .inl (.byte, 8880), .inl (.int, 444), .inl (.long, 20000), .inl (.int, 20000), .inl (.byte, 20000), .inr 2, .inl (.byte, 3000), .inl (.int, 2000), .inl (.int, 30), .inl (.boolean, 30), .inr 3, .inl (.int, 2000), .inl (.int, 2000), .inr 4, .inl (.long, cn), .inl (.int, mo), .inl (.int, mo), .inl (.int, mo), .inl (.int, mo), .inr 5, .inl (.long, 500), .inl (.long, 500), .inl (.long, 500), .inl (.long, 500), .inr 6, .inl (.byte, 4000), .inl (.byte, 10), .inr 7, .inl (.int, 2000), .inl (.int, 2000), .inl (.int, 2000), .inl (.int, 2000), .inl (.int, 2000), .inl (.long, 18000), .inl (.long, 32), .inl (.long, 444), .inr 8, .inl (.byte, mo), .inl (.int, mo), .inl (.int, mo), .inl (.int, (mo + 500)), .inr 9, .inr 10, .inr 11, .inl (.int, 3020), .inl (.int, 9200)]) (c' := 2) (z' := 12220) rfl rfl rfl (by decide) (by omega) (by omega) rfl (by omega) (by decide) (by omega) ?_
  refine eg_k_pfa rfl rfl rfl ?_
  refine eg_k_aload rfl rfl ?_
  refine eg_k_ci rfl ?_
  refine eg_k_newa (a := 48) (l' := [.inr 0, .inr 1, .inl (.byte, 8880), .inl (.int, 444), .inl (.long, 20000), .inl (.int, 20000), .inl (.byte, 20000), .inr 2, .inl (.byte, 3000), .inl (.int, 2000), .inl (.int, 30), .inl (.boolean, 30), .inr 3, .inl (.int, 2000), .inl (.int, 2000), .inr 4, .inl (.long, cn), .inl (.int, mo), .inl (.int, mo), .inl (.int, mo), .inl (.int, mo), .inr 5, .inl (.long, 500), .inl (.long, 500), .inl (.long, 500), .inl (.long, 500), .inr 6, .inl (.byte, 4000), .inl (.byte, 10), .inr 7, .inl (.int, 2000), .inl (.int, 2000), .inl (.int, 2000), .inl (.int, 2000), .inl (.int, 2000), .inl (.long, 18000), .inl (.long, 32), .inl (.long, 444), .inr 8, .inl (.byte, mo), .inl (.int, mo), .inl (.int, mo), .inl (.int, (mo + 500)), .inr 9, .inr 10, .inr 11, .inl (.int, 3020), .inl (.int, 9200), .inl (.int, 460)]) (c' := 3) (z' := 12680) rfl rfl rfl (by decide) (by omega) (by omega) rfl (by omega) (by decide) (by omega) ?_
  refine eg_k_pfa rfl rfl rfl ?_
  refine eg_k_aload rfl rfl ?_
  refine eg_k_ci rfl ?_
  refine eg_k_newa (a := 49) (l' := [.inr 0, .inr 1, .inl (.byte, 8880), .inl (.int, 444), .inl (.long, 20000), .inl (.int, 20000), .inl (.byte, 20000), .inr 2, .inl (.byte, 3000), .inl (.int, 2000), .inl (.int, 30), .inl (.boolean, 30), .inr 3, .inl (.int, 2000), .inl (.int, 2000), .inr 4, .inl (.long, cn), .inl (.int, mo), .inl (.int, mo), .inl (.int, mo), .inl (.int, mo), .inr 5, .inl (.long, 500), .inl (.long, 500), .inl (.long, 500), .inl (.long, 500), .inr 6, .inl (.byte, 4000), .inl (.byte, 10), .inr 7, .inl (.int, 2000), .inl (.int, 2000), .inl (.int, 2000), .inl (.int, 2000), .inl (.int, 2000), .inl (.long, 18000), .inl (.long, 32), .inl (.long, 444), .inr 8, .inl (.byte, mo), .inl (.int, mo), .inl (.int, mo), .inl (.int, (mo + 500)), .inr 9, .inr 10, .inr 11, .inl (.int, 3020), .inl (.int, 9200), .inl (.int, 460), .inl (.byte, 20100)]) (c' := 4) (z' := 32780) rfl rfl rfl (by decide) (by omega) (by omega) rfl (by omega) (by decide) (by omega) ?_
  refine eg_k_pfa rfl rfl rfl ?_
  refine eg_k_aload rfl rfl ?_
  refine eg_k_ci rfl ?_
  refine eg_k_newa (a := 50) (l' := [.inr 0, .inr 1, .inl (.byte, 8880), .inl (.int, 444), .inl (.long, 20000), .inl (.int, 20000), .inl (.byte, 20000), .inr 2, .inl (.byte, 3000), .inl (.int, 2000), .inl (.int, 30), .inl (.boolean, 30), .inr 3, .inl (.int, 2000), .inl (.int, 2000), .inr 4, .inl (.long, cn), .inl (.int, mo), .inl (.int, mo), .inl (.int, mo), .inl (.int, mo), .inr 5, .inl (.long, 500), .inl (.long, 500), .inl (.long, 500), .inl (.long, 500), .inr 6, .inl (.byte, 4000), .inl (.byte, 10), .inr 7, .inl (.int, 2000), .inl (.int, 2000), .inl (.int, 2000), .inl (.int, 2000), .inl (.int, 2000), .inl (.long, 18000), .inl (.long, 32), .inl (.long, 444), .inr 8, .inl (.byte, mo), .inl (.int, mo), .inl (.int, mo), .inl (.int, (mo + 500)), .inr 9, .inr 10, .inr 11, .inl (.int, 3020), .inl (.int, 9200), .inl (.int, 460), .inl (.byte, 20100), .inl (.int, 20100)]) (c' := 5) (z' := 52880) rfl rfl rfl (by decide) (by omega) (by omega) rfl (by omega) (by decide) (by omega) ?_
  refine eg_k_pfa rfl rfl rfl ?_
  refine eg_k_aload rfl rfl ?_
  refine eg_k_ci rfl ?_
  refine eg_k_newa (a := 51) (l' := [.inr 0, .inr 1, .inl (.byte, 8880), .inl (.int, 444), .inl (.long, 20000), .inl (.int, 20000), .inl (.byte, 20000), .inr 2, .inl (.byte, 3000), .inl (.int, 2000), .inl (.int, 30), .inl (.boolean, 30), .inr 3, .inl (.int, 2000), .inl (.int, 2000), .inr 4, .inl (.long, cn), .inl (.int, mo), .inl (.int, mo), .inl (.int, mo), .inl (.int, mo), .inr 5, .inl (.long, 500), .inl (.long, 500), .inl (.long, 500), .inl (.long, 500), .inr 6, .inl (.byte, 4000), .inl (.byte, 10), .inr 7, .inl (.int, 2000), .inl (.int, 2000), .inl (.int, 2000), .inl (.int, 2000), .inl (.int, 2000), .inl (.long, 18000), .inl (.long, 32), .inl (.long, 444), .inr 8, .inl (.byte, mo), .inl (.int, mo), .inl (.int, mo), .inl (.int, (mo + 500)), .inr 9, .inr 10, .inr 11, .inl (.int, 3020), .inl (.int, 9200), .inl (.int, 460), .inl (.byte, 20100), .inl (.int, 20100), .inl (.int, 20100)]) (c' := 6) (z' := 72980) rfl rfl rfl (by decide) (by omega) (by omega) rfl (by omega) (by decide) (by omega) ?_
  refine eg_k_pfa rfl rfl rfl ?_
  refine eg_k_aload rfl rfl ?_
  refine eg_k_ci rfl ?_
  refine eg_k_newa (a := 52) (l' := [.inr 0, .inr 1, .inl (.byte, 8880), .inl (.int, 444), .inl (.long, 20000), .inl (.int, 20000), .inl (.byte, 20000), .inr 2, .inl (.byte, 3000), .inl (.int, 2000), .inl (.int, 30), .inl (.boolean, 30), .inr 3, .inl (.int, 2000), .inl (.int, 2000), .inr 4, .inl (.long, cn), .inl (.int, mo), .inl (.int, mo), .inl (.int, mo), .inl (.int, mo), .inr 5, .inl (.long, 500), .inl (.long, 500), .inl (.long, 500), .inl (.long, 500), .inr 6, .inl (.byte, 4000), .inl (.byte, 10), .inr 7, .inl (.int, 2000), .inl (.int, 2000), .inl (.int, 2000), .inl (.int, 2000), .inl (.int, 2000), .inl (.long, 18000), .inl (.long, 32), .inl (.long, 444), .inr 8, .inl (.byte, mo), .inl (.int, mo), .inl (.int, mo), .inl (.int, (mo + 500)), .inr 9, .inr 10, .inr 11, .inl (.int, 3020), .inl (.int, 9200), .inl (.int, 460), .inl (.byte, 20100), .inl (.int, 20100), .inl (.int, 20100), .inl (.int, 20100)]) (c' := 7) (z' := 93080) rfl rfl rfl (by decide) (by omega) (by omega) rfl (by omega) (by decide) (by omega) ?_
  refine eg_k_pfa rfl rfl rfl ?_
  refine eg_k_aload rfl rfl ?_
  refine eg_k_ci rfl ?_
  refine eg_k_newa (a := 53) (l' := [.inr 0, .inr 1, .inl (.byte, 8880), .inl (.int, 444), .inl (.long, 20000), .inl (.int, 20000), .inl (.byte, 20000), .inr 2, .inl (.byte, 3000), .inl (.int, 2000), .inl (.int, 30), .inl (.boolean, 30), .inr 3, .inl (.int, 2000), .inl (.int, 2000), .inr 4, .inl (.long, cn), .inl (.int, mo), .inl (.int, mo), .inl (.int, mo), .inl (.int, mo), .inr 5, .inl (.long, 500), .inl (.long, 500), .inl (.long, 500), .inl (.long, 500), .inr 6, .inl (.byte, 4000), .inl (.byte, 10), .inr 7, .inl (.int, 2000), .inl (.int, 2000), .inl (.int, 2000), .inl (.int, 2000), .inl (.int, 2000), .inl (.long, 18000), .inl (.long, 32), .inl (.long, 444), .inr 8, .inl (.byte, mo), .inl (.int, mo), .inl (.int, mo), .inl (.int, (mo + 500)), .inr 9, .inr 10, .inr 11, .inl (.int, 3020), .inl (.int, 9200), .inl (.int, 460), .inl (.byte, 20100), .inl (.int, 20100), .inl (.int, 20100), .inl (.int, 20100), .inl (.int, 20100)]) (c' := 8) (z' := 113180) rfl rfl rfl (by decide) (by omega) (by omega) rfl (by omega) (by decide) (by omega) ?_
  refine eg_k_pfa rfl rfl rfl ?_
  refine eg_k_aload rfl rfl ?_
  refine eg_k_ci rfl ?_
  refine eg_k_newa (a := 54) (l' := [.inr 0, .inr 1, .inl (.byte, 8880), .inl (.int, 444), .inl (.long, 20000), .inl (.int, 20000), .inl (.byte, 20000), .inr 2, .inl (.byte, 3000), .inl (.int, 2000), .inl (.int, 30), .inl (.boolean, 30), .inr 3, .inl (.int, 2000), .inl (.int, 2000), .inr 4, .inl (.long, cn), .inl (.int, mo), .inl (.int, mo), .inl (.int, mo), .inl (.int, mo), .inr 5, .inl (.long, 500), .inl (.long, 500), .inl (.long, 500), .inl (.long, 500), .inr 6, .inl (.byte, 4000), .inl (.byte, 10), .inr 7, .inl (.int, 2000), .inl (.int, 2000), .inl (.int, 2000), .inl (.int, 2000), .inl (.int, 2000), .inl (.long, 18000), .inl (.long, 32), .inl (.long, 444), .inr 8, .inl (.byte, mo), .inl (.int, mo), .inl (.int, mo), .inl (.int, (mo + 500)), .inr 9, .inr 10, .inr 11, .inl (.int, 3020), .inl (.int, 9200), .inl (.int, 460), .inl (.byte, 20100), .inl (.int, 20100), .inl (.int, 20100), .inl (.int, 20100), .inl (.int, 20100), .inl (.int, 20100)]) (c' := 9) (z' := 133280) rfl rfl rfl (by decide) (by omega) (by omega) rfl (by omega) (by decide) (by omega) ?_
  refine eg_k_pfa rfl rfl rfl ?_
  refine eg_k_aload rfl rfl ?_
  refine eg_k_ci rfl ?_
  refine eg_k_newa (a := 55) (l' := [.inr 0, .inr 1, .inl (.byte, 8880), .inl (.int, 444), .inl (.long, 20000), .inl (.int, 20000), .inl (.byte, 20000), .inr 2, .inl (.byte, 3000), .inl (.int, 2000), .inl (.int, 30), .inl (.boolean, 30), .inr 3, .inl (.int, 2000), .inl (.int, 2000), .inr 4, .inl (.long, cn), .inl (.int, mo), .inl (.int, mo), .inl (.int, mo), .inl (.int, mo), .inr 5, .inl (.long, 500), .inl (.long, 500), .inl (.long, 500), .inl (.long, 500), .inr 6, .inl (.byte, 4000), .inl (.byte, 10), .inr 7, .inl (.int, 2000), .inl (.int, 2000), .inl (.int, 2000), .inl (.int, 2000), .inl (.int, 2000), .inl (.long, 18000), .inl (.long, 32), .inl (.long, 444), .inr 8, .inl (.byte, mo), .inl (.int, mo), .inl (.int, mo), .inl (.int, (mo + 500)), .inr 9, .inr 10, .inr 11, .inl (.int, 3020), .inl (.int, 9200), .inl (.int, 460), .inl (.byte, 20100), .inl (.int, 20100), .inl (.int, 20100), .inl (.int, 20100), .inl (.int, 20100), .inl (.int, 20100), .inl (.short, 20100)]) (c' := 10) (z' := 153380) rfl rfl rfl (by decide) (by omega) (by omega) rfl (by omega) (by decide) (by omega) ?_
  refine eg_k_pfa rfl rfl rfl ?_
  refine eg_k_aload rfl rfl ?_
  refine eg_k_ci rfl ?_
  refine eg_k_newa (a := 56) (l' := [.inr 0, .inr 1, .inl (.byte, 8880), .inl (.int, 444), .inl (.long, 20000), .inl (.int, 20000), .inl (.byte, 20000), .inr 2, .inl (.byte, 3000), .inl (.int, 2000), .inl (.int, 30), .inl (.boolean, 30), .inr 3, .inl (.int, 2000), .inl (.int, 2000), .inr 4, .inl (.long, cn), .inl (.int, mo), .inl (.int, mo), .inl (.int, mo), .inl (.int, mo), .inr 5, .inl (.long, 500), .inl (.long, 500), .inl (.long, 500), .inl (.long, 500), .inr 6, .inl (.byte, 4000), .inl (.byte, 10), .inr 7, .inl (.int, 2000), .inl (.int, 2000), .inl (.int, 2000), .inl (.int, 2000), .inl (.int, 2000), .inl (.long, 18000), .inl (.long, 32), .inl (.long, 444), .inr 8, .inl (.byte, mo), .inl (.int, mo), .inl (.int, mo), .inl (.int, (mo + 500)), .inr 9, .inr 10, .inr 11, .inl (.int, 3020), .inl (.int, 9200), .inl (.int, 460), .inl (.byte, 20100), .inl (.int, 20100), .inl (.int, 20100), .inl (.int, 20100), .inl (.int, 20100), .inl (.int, 20100), .inl (.short, 20100), .inl (.short, 20100)]) (c' := 11) (z' := 173480) rfl rfl rfl (by decide) (by omega) (by omega) rfl (by omega) (by decide) (by omega) ?_
  refine eg_k_pfa rfl rfl rfl ?_
  refine eg_k_aload rfl rfl ?_
  refine eg_k_ci rfl ?_
  refine eg_k_newa (a := 57) (l' := [.inr 0, .inr 1, .inl (.byte, 8880), .inl (.int, 444), .inl (.long, 20000), .inl (.int, 20000), .inl (.byte, 20000), .inr 2, .inl (.byte, 3000), .inl (.int, 2000), .inl (.int, 30), .inl (.boolean, 30), .inr 3, .inl (.int, 2000), .inl (.int, 2000), .inr 4, .inl (.long, cn), .inl (.int, mo), .inl (.int, mo), .inl (.int, mo), .inl (.int, mo), .inr 5, .inl (.long, 500), .inl (.long, 500), .inl (.long, 500), .inl (.long, 500), .inr 6, .inl (.byte, 4000), .inl (.byte, 10), .inr 7, .inl (.int, 2000), .inl (.int, 2000), .inl (.int, 2000), .inl (.int, 2000), .inl (.int, 2000), .inl (.long, 18000), .inl (.long, 32), .inl (.long, 444), .inr 8, .inl (.byte, mo), .inl (.int, mo), .inl (.int, mo), .inl (.int, (mo + 500)), .inr 9, .inr 10, .inr 11, .inl (.int, 3020), .inl (.int, 9200), .inl (.int, 460), .inl (.byte, 20100), .inl (.int, 20100), .inl (.int, 20100), .inl (.int, 20100), .inl (.int, 20100), .inl (.int, 20100), .inl (.short, 20100), .inl (.short, 20100), .inl (.int, 31)]) (c' := 12) (z' := 173511) rfl rfl rfl (by decide) (by omega) (by omega) rfl (by omega) (by decide) (by omega) ?_
  refine eg_k_pfa rfl rfl rfl ?_
  refine eg_k_aload rfl rfl ?_
  refine eg_k_ci rfl ?_
  refine eg_k_newa (a := 58) (l' := [.inr 0, .inr 1, .inl (.byte, 8880), .inl (.int, 444), .inl (.long, 20000), .inl (.int, 20000), .inl (.byte, 20000), .inr 2, .inl (.byte, 3000), .inl (.int, 2000), .inl (.int, 30), .inl (.boolean, 30), .inr 3, .inl (.int, 2000), .inl (.int, 2000), .inr 4, .inl (.long, cn), .inl (.int, mo), .inl (.int, mo), .inl (.int, mo), .inl (.int, mo), .inr 5, .inl (.long, 500), .inl (.long, 500), .inl (.long, 500), .inl (.long, 500), .inr 6, .inl (.byte, 4000), .inl (.byte, 10), .inr 7, .inl (.int, 2000), .inl (.int, 2000), .inl (.int, 2000), .inl (.int, 2000), .inl (.int, 2000), .inl (.long, 18000), .inl (.long, 32), .inl (.long, 444), .inr 8, .inl (.byte, mo), .inl (.int, mo), .inl (.int, mo), .inl (.int, (mo + 500)), .inr 9, .inr 10, .inr 11, .inl (.int, 3020), .inl (.int, 9200), .inl (.int, 460), .inl (.byte, 20100), .inl (.int, 20100), .inl (.int, 20100), .inl (.int, 20100), .inl (.int, 20100), .inl (.int, 20100), .inl (.short, 20100), .inl (.short, 20100), .inl (.int, 31), .inl (.boolean, 31)]) (c' := 13) (z' := 173542) rfl rfl rfl (by decide) (by omega) (by omega) rfl (by omega) (by decide) (by omega) ?_
  refine eg_k_pfa rfl rfl rfl ?_
  refine eg_k_aload rfl rfl ?_
  refine eg_k_ci rfl ?_
  refine eg_k_newa (a := 59) (l' := [.inr 0, .inr 1, .inl (.byte, 8880), .inl (.int, 444), .inl (.long, 20000), .inl (.int, 20000), .inl (.byte, 20000), .inr 2, .inl (.byte, 3000), .inl (.int, 2000), .inl (.int, 30), .inl (.boolean, 30), .inr 3, .inl (.int, 2000), .inl (.int, 2000), .inr 4, .inl (.long, cn), .inl (.int, mo), .inl (.int, mo), .inl (.int, mo), .inl (.int, mo), .inr 5, .inl (.long, 500), .inl (.long, 500), .inl (.long, 500), .inl (.long, 500), .inr 6, .inl (.byte, 4000), .inl (.byte, 10), .inr 7, .inl (.int, 2000), .inl (.int, 2000), .inl (.int, 2000), .inl (.int, 2000), .inl (.int, 2000), .inl (.long, 18000), .inl (.long, 32), .inl (.long, 444), .inr 8, .inl (.byte, mo), .inl (.int, mo), .inl (.int, mo), .inl (.int, (mo + 500)), .inr 9, .inr 10, .inr 11, .inl (.int, 3020), .inl (.int, 9200), .inl (.int, 460), .inl (.byte, 20100), .inl (.int, 20100), .inl (.int, 20100), .inl (.int, 20100), .inl (.int, 20100), .inl (.int, 20100), .inl (.short, 20100), .inl (.short, 20100), .inl (.int, 31), .inl (.boolean, 31), .inl (.int, 4100)]) (c' := 14) (z' := 177642) rfl rfl rfl (by decide) (by omega) (by omega) rfl (by omega) (by decide) (by omega) ?_
  refine eg_k_pfa rfl rfl rfl ?_
  refine eg_k_aload rfl rfl ?_
  refine eg_k_ci rfl ?_
  refine eg_k_newa (a := 60) (l' := [.inr 0, .inr 1, .inl (.byte, 8880), .inl (.int, 444), .inl (.long, 20000), .inl (.int, 20000), .inl (.byte, 20000), .inr 2, .inl (.byte, 3000), .inl (.int, 2000), .inl (.int, 30), .inl (.boolean, 30), .inr 3, .inl (.int, 2000), .inl (.int, 2000), .inr 4, .inl (.long, cn), .inl (.int, mo), .inl (.int, mo), .inl (.int, mo), .inl (.int, mo), .inr 5, .inl (.long, 500), .inl (.long, 500), .inl (.long, 500), .inl (.long, 500), .inr 6, .inl (.byte, 4000), .inl (.byte, 10), .inr 7, .inl (.int, 2000), .inl (.int, 2000), .inl (.int, 2000), .inl (.int, 2000), .inl (.int, 2000), .inl (.long, 18000), .inl (.long, 32), .inl (.long, 444), .inr 8, .inl (.byte, mo), .inl (.int, mo), .inl (.int, mo), .inl (.int, (mo + 500)), .inr 9, .inr 10, .inr 11, .inl (.int, 3020), .inl (.int, 9200), .inl (.int, 460), .inl (.byte, 20100), .inl (.int, 20100), .inl (.int, 20100), .inl (.int, 20100), .inl (.int, 20100), .inl (.int, 20100), .inl (.short, 20100), .inl (.short, 20100), .inl (.int, 31), .inl (.boolean, 31), .inl (.int, 4100), .inl (.int, 4100)]) (c' := 15) (z' := 181742) rfl rfl rfl (by decide) (by omega) (by omega) rfl (by omega) (by decide) (by omega) ?_
  refine eg_k_pfa rfl rfl rfl ?_
  refine eg_k_aload rfl rfl ?_
  refine eg_k_ci rfl ?_
  refine eg_k_newa (a := 61) (l' := [.inr 0, .inr 1, .inl (.byte, 8880), .inl (.int, 444), .inl (.long, 20000), .inl (.int, 20000), .inl (.byte, 20000), .inr 2, .inl (.byte, 3000), .inl (.int, 2000), .inl (.int, 30), .inl (.boolean, 30), .inr 3, .inl (.int, 2000), .inl (.int, 2000), .inr 4, .inl (.long, cn), .inl (.int, mo), .inl (.int, mo), .inl (.int, mo), .inl (.int, mo), .inr 5, .inl (.long, 500), .inl (.long, 500), .inl (.long, 500), .inl (.long, 500), .inr 6, .inl (.byte, 4000), .inl (.byte, 10), .inr 7, .inl (.int, 2000), .inl (.int, 2000), .inl (.int, 2000), .inl (.int, 2000), .inl (.int, 2000), .inl (.long, 18000), .inl (.long, 32), .inl (.long, 444), .inr 8, .inl (.byte, mo), .inl (.int, mo), .inl (.int, mo), .inl (.int, (mo + 500)), .inr 9, .inr 10, .inr 11, .inl (.int, 3020), .inl (.int, 9200), .inl (.int, 460), .inl (.byte, 20100), .inl (.int, 20100), .inl (.int, 20100), .inl (.int, 20100), .inl (.int, 20100), .inl (.int, 20100), .inl (.short, 20100), .inl (.short, 20100), .inl (.int, 31), .inl (.boolean, 31), .inl (.int, 4100), .inl (.int, 4100), .inl (.int, 4100)]) (c' := 16) (z' := 185842) rfl rfl rfl (by decide) (by omega) (by omega) rfl (by omega) (by decide) (by omega) ?_
  refine eg_k_pfa rfl rfl rfl ?_
  refine eg_k_aload rfl rfl ?_
  refine eg_k_ci rfl ?_
  refine eg_k_newa (a := 62) (l' := [.inr 0, .inr 1, .inl (.byte, 8880), .inl (.int, 444), .inl (.long, 20000), .inl (.int, 20000), .inl (.byte, 20000), .inr 2, .inl (.byte, 3000), .inl (.int, 2000), .inl (.int, 30), .inl (.boolean, 30), .inr 3, .inl (.int, 2000), .inl (.int, 2000), .inr 4, .inl (.long, cn), .inl (.int, mo), .inl (.int, mo), .inl (.int, mo), .inl (.int, mo), .inr 5, .inl (.long, 500), .inl (.long, 500), .inl (.long, 500), .inl (.long, 500), .inr 6, .inl (.byte, 4000), .inl (.byte, 10), .inr 7, .inl (.int, 2000), .inl (.int, 2000), .inl (.int, 2000), .inl (.int, 2000), .inl (.int, 2000), .inl (.long, 18000), .inl (.long, 32), .inl (.long, 444), .inr 8, .inl (.byte, mo), .inl (.int, mo), .inl (.int, mo), .inl (.int, (mo + 500)), .inr 9, .inr 10, .inr 11, .inl (.int, 3020), .inl (.int, 9200), .inl (.int, 460), .inl (.byte, 20100), .inl (.int, 20100), .inl (.int, 20100), .inl (.int, 20100), .inl (.int, 20100), .inl (.int, 20100), .inl (.short, 20100), .inl (.short, 20100), .inl (.int, 31), .inl (.boolean, 31), .inl (.int, 4100), .inl (.int, 4100), .inl (.int, 4100), .inl (.byte, 6700)]) (c' := 17) (z' := 192542) rfl rfl rfl (by decide) (by omega) (by omega) rfl (by omega) (by decide) (by omega) ?_
  refine eg_k_pfa rfl rfl rfl ?_
  refine eg_k_aload rfl rfl ?_
  refine eg_k_ci rfl ?_
  refine eg_k_newa (a := 63) (l' := [.inr 0, .inr 1, .inl (.byte, 8880), .inl (.int, 444), .inl (.long, 20000), .inl (.int, 20000), .inl (.byte, 20000), .inr 2, .inl (.byte, 3000), .inl (.int, 2000), .inl (.int, 30), .inl (.boolean, 30), .inr 3, .inl (.int, 2000), .inl (.int, 2000), .inr 4, .inl (.long, cn), .inl (.int, mo), .inl (.int, mo), .inl (.int, mo), .inl (.int, mo), .inr 5, .inl (.long, 500), .inl (.long, 500), .inl (.long, 500), .inl (.long, 500), .inr 6, .inl (.byte, 4000), .inl (.byte, 10), .inr 7, .inl (.int, 2000), .inl (.int, 2000), .inl (.int, 2000), .inl (.int, 2000), .inl (.int, 2000), .inl (.long, 18000), .inl (.long, 32), .inl (.long, 444), .inr 8, .inl (.byte, mo), .inl (.int, mo), .inl (.int, mo), .inl (.int, (mo + 500)), .inr 9, .inr 10, .inr 11, .inl (.int, 3020), .inl (.int, 9200), .inl (.int, 460), .inl (.byte, 20100), .inl (.int, 20100), .inl (.int, 20100), .inl (.int, 20100), .inl (.int, 20100), .inl (.int, 20100), .inl (.short, 20100), .inl (.short, 20100), .inl (.int, 31), .inl (.boolean, 31), .inl (.int, 4100), .inl (.int, 4100), .inl (.int, 4100), .inl (.byte, 6700), .inl (.short, 6700)]) (c' := 18) (z' := 199242) rfl rfl rfl (by decide) (by omega) (by omega) rfl (by omega) (by decide) (by omega) ?_
  refine eg_k_pfa rfl rfl rfl ?_
  refine eg_k_aload rfl rfl ?_
  refine eg_k_ci rfl ?_
  refine eg_k_newa (a := 64) (l' := [.inr 0, .inr 1, .inl (.byte, 8880), .inl (.int, 444), .inl (.long, 20000), .inl (.int, 20000), .inl (.byte, 20000), .inr 2, .inl (.byte, 3000), .inl (.int, 2000), .inl (.int, 30), .inl (.boolean, 30), .inr 3, .inl (.int, 2000), .inl (.int, 2000), .inr 4, .inl (.long, cn), .inl (.int, mo), .inl (.int, mo), .inl (.int, mo), .inl (.int, mo), .inr 5, .inl (.long, 500), .inl (.long, 500), .inl (.long, 500), .inl (.long, 500), .inr 6, .inl (.byte, 4000), .inl (.byte, 10), .inr 7, .inl (.int, 2000), .inl (.int, 2000), .inl (.int, 2000), .inl (.int, 2000), .inl (.int, 2000), .inl (.long, 18000), .inl (.long, 32), .inl (.long, 444), .inr 8, .inl (.byte, mo), .inl (.int, mo), .inl (.int, mo), .inl (.int, (mo + 500)), .inr 9, .inr 10, .inr 11, .inl (.int, 3020), .inl (.int, 9200), .inl (.int, 460), .inl (.byte, 20100), .inl (.int, 20100), .inl (.int, 20100), .inl (.int, 20100), .inl (.int, 20100), .inl (.int, 20100), .inl (.short, 20100), .inl (.short, 20100), .inl (.int, 31), .inl (.boolean, 31), .inl (.int, 4100), .inl (.int, 4100), .inl (.int, 4100), .inl (.byte, 6700), .inl (.short, 6700), .inl (.int, 6700)]) (c' := 19) (z' := 205942) rfl rfl rfl (by decide) (by omega) (by omega) rfl (by omega) (by decide) (by omega) ?_
  refine eg_k_pfa rfl rfl rfl ?_
  refine eg_k_aload rfl rfl ?_
  refine eg_k_ci rfl ?_
  refine eg_k_newa (a := 65) (l' := [.inr 0, .inr 1, .inl (.byte, 8880), .inl (.int, 444), .inl (.long, 20000), .inl (.int, 20000), .inl (.byte, 20000), .inr 2, .inl (.byte, 3000), .inl (.int, 2000), .inl (.int, 30), .inl (.boolean, 30), .inr 3, .inl (.int, 2000), .inl (.int, 2000), .inr 4, .inl (.long, cn), .inl (.int, mo), .inl (.int, mo), .inl (.int, mo), .inl (.int, mo), .inr 5, .inl (.long, 500), .inl (.long, 500), .inl (.long, 500), .inl (.long, 500), .inr 6, .inl (.byte, 4000), .inl (.byte, 10), .inr 7, .inl (.int, 2000), .inl (.int, 2000), .inl (.int, 2000), .inl (.int, 2000), .inl (.int, 2000), .inl (.long, 18000), .inl (.long, 32), .inl (.long, 444), .inr 8, .inl (.byte, mo), .inl (.int, mo), .inl (.int, mo), .inl (.int, (mo + 500)), .inr 9, .inr 10, .inr 11, .inl (.int, 3020), .inl (.int, 9200), .inl (.int, 460), .inl (.byte, 20100), .inl (.int, 20100), .inl (.int, 20100), .inl (.int, 20100), .inl (.int, 20100), .inl (.int, 20100), .inl (.short, 20100), .inl (.short, 20100), .inl (.int, 31), .inl (.boolean, 31), .inl (.int, 4100), .inl (.int, 4100), .inl (.int, 4100), .inl (.byte, 6700), .inl (.short, 6700), .inl (.int, 6700), .inl (.int, 6700)]) (c' := 20) (z' := 212642) rfl rfl rfl (by decide) (by omega) (by omega) rfl (by omega) (by decide) (by omega) ?_
  refine eg_k_pfa rfl rfl rfl ?_
  refine eg_k_aload rfl rfl ?_
  refine eg_k_ci rfl ?_
  refine eg_k_newa (a := 66) (l' := [.inr 0, .inr 1, .inl (.byte, 8880), .inl (.int, 444), .inl (.long, 20000), .inl (.int, 20000), .inl (.byte, 20000), .inr 2, .inl (.byte, 3000), .inl (.int, 2000), .inl (.int, 30), .inl (.boolean, 30), .inr 3, .inl (.int, 2000), .inl (.int, 2000), .inr 4, .inl (.long, cn), .inl (.int, mo), .inl (.int, mo), .inl (.int, mo), .inl (.int, mo), .inr 5, .inl (.long, 500), .inl (.long, 500), .inl (.long, 500), .inl (.long, 500), .inr 6, .inl (.byte, 4000), .inl (.byte, 10), .inr 7, .inl (.int, 2000), .inl (.int, 2000), .inl (.int, 2000), .inl (.int, 2000), .inl (.int, 2000), .inl (.long, 18000), .inl (.long, 32), .inl (.long, 444), .inr 8, .inl (.byte, mo), .inl (.int, mo), .inl (.int, mo), .inl (.int, (mo + 500)), .inr 9, .inr 10, .inr 11, .inl (.int, 3020), .inl (.int, 9200), .inl (.int, 460), .inl (.byte, 20100), .inl (.int, 20100), .inl (.int, 20100), .inl (.int, 20100), .inl (.int, 20100), .inl (.int, 20100), .inl (.short, 20100), .inl (.short, 20100), .inl (.int, 31), .inl (.boolean, 31), .inl (.int, 4100), .inl (.int, 4100), .inl (.int, 4100), .inl (.byte, 6700), .inl (.short, 6700), .inl (.int, 6700), .inl (.int, 6700), .inl (.int, 6700)]) (c' := 21) (z' := 219342) rfl rfl rfl (by decide) (by omega) (by omega) rfl (by omega) (by decide) (by omega) ?_
  refine eg_k_pfa rfl rfl rfl ?_
  refine eg_k_aload rfl rfl ?_
  refine eg_k_ci rfl ?_
  refine eg_k_newa (a := 67) (l' := [.inr 0, .inr 1, .inl (.byte, 8880), .inl (.int, 444), .inl (.long, 20000), .inl (.int, 20000), .inl (.byte, 20000), .inr 2, .inl (.byte, 3000), .inl (.int, 2000), .inl (.int, 30), .inl (.boolean, 30), .inr 3, .inl (.int, 2000), .inl (.int, 2000), .inr 4, .inl (.long, cn), .inl (.int, mo), .inl (.int, mo), .inl (.int, mo), .inl (.int, mo), .inr 5, .inl (.long, 500), .inl (.long, 500), .inl (.long, 500), .inl (.long, 500), .inr 6, .inl (.byte, 4000), .inl (.byte, 10), .inr 7, .inl (.int, 2000), .inl (.int, 2000), .inl (.int, 2000), .inl (.int, 2000), .inl (.int, 2000), .inl (.long, 18000), .inl (.long, 32), .inl (.long, 444), .inr 8, .inl (.byte, mo), .inl (.int, mo), .inl (.int, mo), .inl (.int, (mo + 500)), .inr 9, .inr 10, .inr 11, .inl (.int, 3020), .inl (.int, 9200), .inl (.int, 460), .inl (.byte, 20100), .inl (.int, 20100), .inl (.int, 20100), .inl (.int, 20100), .inl (.int, 20100), .inl (.int, 20100), .inl (.short, 20100), .inl (.short, 20100), .inl (.int, 31), .inl (.boolean, 31), .inl (.int, 4100), .inl (.int, 4100), .inl (.int, 4100), .inl (.byte, 6700), .inl (.short, 6700), .inl (.int, 6700), .inl (.int, 6700), .inl (.int, 6700), .inl (.boolean, 6700)]) (c' := 22) (z' := 226042) rfl rfl rfl (by decide) (by omega) (by omega) rfl (by omega) (by decide) (by omega) ?_
  refine eg_k_pfa rfl rfl rfl ?_
  refine eg_k_aload rfl rfl ?_
  refine eg_k_ci rfl ?_
  refine eg_k_newa (a := 68) (l' := [.inr 0, .inr 1, .inl (.byte, 8880), .inl (.int, 444), .inl (.long, 20000), .inl (.int, 20000), .inl (.byte, 20000), .inr 2, .inl (.byte, 3000), .inl (.int, 2000), .inl (.int, 30), .inl (.boolean, 30), .inr 3, .inl (.int, 2000), .inl (.int, 2000), .inr 4, .inl (.long, cn), .inl (.int, mo), .inl (.int, mo), .inl (.int, mo), .inl (.int, mo), .inr 5, .inl (.long, 500), .inl (.long, 500), .inl (.long, 500), .inl (.long, 500), .inr 6, .inl (.byte, 4000), .inl (.byte, 10), .inr 7, .inl (.int, 2000), .inl (.int, 2000), .inl (.int, 2000), .inl (.int, 2000), .inl (.int, 2000), .inl (.long, 18000), .inl (.long, 32), .inl (.long, 444), .inr 8, .inl (.byte, mo), .inl (.int, mo), .inl (.int, mo), .inl (.int, (mo + 500)), .inr 9, .inr 10, .inr 11, .inl (.int, 3020), .inl (.int, 9200), .inl (.int, 460), .inl (.byte, 20100), .inl (.int, 20100), .inl (.int, 20100), .inl (.int, 20100), .inl (.int, 20100), .inl (.int, 20100), .inl (.short, 20100), .inl (.short, 20100), .inl (.int, 31), .inl (.boolean, 31), .inl (.int, 4100), .inl (.int, 4100), .inl (.int, 4100), .inl (.byte, 6700), .inl (.short, 6700), .inl (.int, 6700), .inl (.int, 6700), .inl (.int, 6700), .inl (.boolean, 6700), .inl (.boolean, 6700)]) (c' := 23) (z' := 232742) rfl rfl rfl (by decide) (by omega) (by omega) rfl (by omega) (by decide) (by omega) ?_
  refine eg_k_pfa rfl rfl rfl ?_
  refine eg_k_aload rfl rfl ?_
  refine eg_k_ci rfl ?_
  refine eg_k_newa (a := 69) (l' := [.inr 0, .inr 1, .inl (.byte, 8880), .inl (.int, 444), .inl (.long, 20000), .inl (.int, 20000), .inl (.byte, 20000), .inr 2, .inl (.byte, 3000), .inl (.int, 2000), .inl (.int, 30), .inl (.boolean, 30), .inr 3, .inl (.int, 2000), .inl (.int, 2000), .inr 4, .inl (.long, cn), .inl (.int, mo), .inl (.int, mo), .inl (.int, mo), .inl (.int, mo), .inr 5, .inl (.long, 500), .inl (.long, 500), .inl (.long, 500), .inl (.long, 500), .inr 6, .inl (.byte, 4000), .inl (.byte, 10), .inr 7, .inl (.int, 2000), .inl (.int, 2000), .inl (.int, 2000), .inl (.int, 2000), .inl (.int, 2000), .inl (.long, 18000), .inl (.long, 32), .inl (.long, 444), .inr 8, .inl (.byte, mo), .inl (.int, mo), .inl (.int, mo), .inl (.int, (mo + 500)), .inr 9, .inr 10, .inr 11, .inl (.int, 3020), .inl (.int, 9200), .inl (.int, 460), .inl (.byte, 20100), .inl (.int, 20100), .inl (.int, 20100), .inl (.int, 20100), .inl (.int, 20100), .inl (.int, 20100), .inl (.short, 20100), .inl (.short, 20100), .inl (.int, 31), .inl (.boolean, 31), .inl (.int, 4100), .inl (.int, 4100), .inl (.int, 4100), .inl (.byte, 6700), .inl (.short, 6700), .inl (.int, 6700), .inl (.int, 6700), .inl (.int, 6700), .inl (.boolean, 6700), .inl (.boolean, 6700), .inl (.int, 6700)]) (c' := 24) (z' := 239442) rfl rfl rfl (by decide) (by omega) (by omega) rfl (by omega) (by decide) (by omega) ?_
  refine eg_k_pfa rfl rfl rfl ?_
  refine eg_k_aload rfl rfl ?_
  refine eg_k_ci rfl ?_
  refine eg_k_newa (a := 70) (l' := [.inr 0, .inr 1, .inl (.byte, 8880), .inl (.int, 444), .inl (.long, 20000), .inl (.int, 20000), .inl (.byte, 20000), .inr 2, .inl (.byte, 3000), .inl (.int, 2000), .inl (.int, 30), .inl (.boolean, 30), .inr 3, .inl (.int, 2000), .inl (.int, 2000), .inr 4, .inl (.long, cn), .inl (.int, mo), .inl (.int, mo), .inl (.int, mo), .inl (.int, mo), .inr 5, .inl (.long, 500), .inl (.long, 500), .inl (.long, 500), .inl (.long, 500), .inr 6, .inl (.byte, 4000), .inl (.byte, 10), .inr 7, .inl (.int, 2000), .inl (.int, 2000), .inl (.int, 2000), .inl (.int, 2000), .inl (.int, 2000), .inl (.long, 18000), .inl (.long, 32), .inl (.long, 444), .inr 8, .inl (.byte, mo), .inl (.int, mo), .inl (.int, mo), .inl (.int, (mo + 500)), .inr 9, .inr 10, .inr 11, .inl (.int, 3020), .inl (.int, 9200), .inl (.int, 460), .inl (.byte, 20100), .inl (.int, 20100), .inl (.int, 20100), .inl (.int, 20100), .inl (.int, 20100), .inl (.int, 20100), .inl (.short, 20100), .inl (.short, 20100), .inl (.int, 31), .inl (.boolean, 31), .inl (.int, 4100), .inl (.int, 4100), .inl (.int, 4100), .inl (.byte, 6700), .inl (.short, 6700), .inl (.int, 6700), .inl (.int, 6700), .inl (.int, 6700), .inl (.boolean, 6700), .inl (.boolean, 6700), .inl (.int, 6700), .inl (.long, 20000)]) (c' := 25) (z' := 259442) rfl rfl rfl (by decide) (by omega) (by omega) rfl (by omega) (by decide) (by omega) ?_
  refine eg_k_pfa rfl rfl rfl ?_
  refine eg_k_aload rfl rfl ?_
  refine eg_k_ci rfl ?_
  refine eg_k_newa (a := 71) (l' := [.inr 0, .inr 1, .inl (.byte, 8880), .inl (.int, 444), .inl (.long, 20000), .inl (.int, 20000), .inl (.byte, 20000), .inr 2, .inl (.byte, 3000), .inl (.int, 2000), .inl (.int, 30), .inl (.boolean, 30), .inr 3, .inl (.int, 2000), .inl (.int, 2000), .inr 4, .inl (.long, cn), .inl (.int, mo), .inl (.int, mo), .inl (.int, mo), .inl (.int, mo), .inr 5, .inl (.long, 500), .inl (.long, 500), .inl (.long, 500), .inl (.long, 500), .inr 6, .inl (.byte, 4000), .inl (.byte, 10), .inr 7, .inl (.int, 2000), .inl (.int, 2000), .inl (.int, 2000), .inl (.int, 2000), .inl (.int, 2000), .inl (.long, 18000), .inl (.long, 32), .inl (.long, 444), .inr 8, .inl (.byte, mo), .inl (.int, mo), .inl (.int, mo), .inl (.int, (mo + 500)), .inr 9, .inr 10, .inr 11, .inl (.int, 3020), .inl (.int, 9200), .inl (.int, 460), .inl (.byte, 20100), .inl (.int, 20100), .inl (.int, 20100), .inl (.int, 20100), .inl (.int, 20100), .inl (.int, 20100), .inl (.short, 20100), .inl (.short, 20100), .inl (.int, 31), .inl (.boolean, 31), .inl (.int, 4100), .inl (.int, 4100), .inl (.int, 4100), .inl (.byte, 6700), .inl (.short, 6700), .inl (.int, 6700), .inl (.int, 6700), .inl (.int, 6700), .inl (.boolean, 6700), .inl (.boolean, 6700), .inl (.int, 6700), .inl (.long, 20000), .inl (.int, 20000)]) (c' := 26) (z' := 279442) rfl rfl rfl (by decide) (by omega) (by omega) rfl (by omega) (by decide) (by omega) ?_
  refine eg_k_pfa rfl rfl rfl ?_
  refine eg_k_aload rfl rfl ?_
  refine eg_k_ci rfl ?_
  refine eg_k_newa (a := 72) (l' := [.inr 0, .inr 1, .inl (.byte, 8880), .inl (.int, 444), .inl (.long, 20000), .inl (.int, 20000), .inl (.byte, 20000), .inr 2, .inl (.byte, 3000), .inl (.int, 2000), .inl (.int, 30), .inl (.boolean, 30), .inr 3, .inl (.int, 2000), .inl (.int, 2000), .inr 4, .inl (.long, cn), .inl (.int, mo), .inl (.int, mo), .inl (.int, mo), .inl (.int, mo), .inr 5, .inl (.long, 500), .inl (.long, 500), .inl (.long, 500), .inl (.long, 500), .inr 6, .inl (.byte, 4000), .inl (.byte, 10), .inr 7, .inl (.int, 2000), .inl (.int, 2000), .inl (.int, 2000), .inl (.int, 2000), .inl (.int, 2000), .inl (.long, 18000), .inl (.long, 32), .inl (.long, 444), .inr 8, .inl (.byte, mo), .inl (.int, mo), .inl (.int, mo), .inl (.int, (mo + 500)), .inr 9, .inr 10, .inr 11, .inl (.int, 3020), .inl (.int, 9200), .inl (.int, 460), .inl (.byte, 20100), .inl (.int, 20100), .inl (.int, 20100), .inl (.int, 20100), .inl (.int, 20100), .inl (.int, 20100), .inl (.short, 20100), .inl (.short, 20100), .inl (.int, 31), .inl (.boolean, 31), .inl (.int, 4100), .inl (.int, 4100), .inl (.int, 4100), .inl (.byte, 6700), .inl (.short, 6700), .inl (.int, 6700), .inl (.int, 6700), .inl (.int, 6700), .inl (.boolean, 6700), .inl (.boolean, 6700), .inl (.int, 6700), .inl (.long, 20000), .inl (.int, 20000), .inl (.long, 460)]) (c' := 27) (z' := 279902) rfl rfl rfl (by decide) (by omega) (by omega) rfl (by omega) (by decide) (by omega) ?_
  refine eg_k_pfa rfl rfl rfl ?_
  refine eg_k_aload rfl rfl ?_
  refine eg_k_ci rfl ?_
  refine eg_k_newa (a := 73) (l' := [.inr 0, .inr 1, .inl (.byte, 8880), .inl (.int, 444), .inl (.long, 20000), .inl (.int, 20000), .inl (.byte, 20000), .inr 2, .inl (.byte, 3000), .inl (.int, 2000), .inl (.int, 30), .inl (.boolean, 30), .inr 3, .inl (.int, 2000), .inl (.int, 2000), .inr 4, .inl (.long, cn), .inl (.int, mo), .inl (.int, mo), .inl (.int, mo), .inl (.int, mo), .inr 5, .inl (.long, 500), .inl (.long, 500), .inl (.long, 500), .inl (.long, 500), .inr 6, .inl (.byte, 4000), .inl (.byte, 10), .inr 7, .inl (.int, 2000), .inl (.int, 2000), .inl (.int, 2000), .inl (.int, 2000), .inl (.int, 2000), .inl (.long, 18000), .inl (.long, 32), .inl (.long, 444), .inr 8, .inl (.byte, mo), .inl (.int, mo), .inl (.int, mo), .inl (.int, (mo + 500)), .inr 9, .inr 10, .inr 11, .inl (.int, 3020), .inl (.int, 9200), .inl (.int, 460), .inl (.byte, 20100), .inl (.int, 20100), .inl (.int, 20100), .inl (.int, 20100), .inl (.int, 20100), .inl (.int, 20100), .inl (.short, 20100), .inl (.short, 20100), .inl (.int, 31), .inl (.boolean, 31), .inl (.int, 4100), .inl (.int, 4100), .inl (.int, 4100), .inl (.byte, 6700), .inl (.short, 6700), .inl (.int, 6700), .inl (.int, 6700), .inl (.int, 6700), .inl (.boolean, 6700), .inl (.boolean, 6700), .inl (.int, 6700), .inl (.long, 20000), .inl (.int, 20000), .inl (.long, 460), .inl (.long, 500)]) (c' := 28) (z' := 280402) rfl rfl rfl (by decide) (by omega) (by omega) rfl (by omega) (by decide) (by omega) ?_
  refine eg_k_pfa rfl rfl rfl ?_
  refine eg_k_aload rfl rfl ?_
  refine eg_k_ci rfl ?_
  refine eg_k_newa (a := 74) (l' := [.inr 0, .inr 1, .inl (.byte, 8880), .inl (.int, 444), .inl (.long, 20000), .inl (.int, 20000), .inl (.byte, 20000), .inr 2, .inl (.byte, 3000), .inl (.int, 2000), .inl (.int, 30), .inl (.boolean, 30), .inr 3, .inl (.int, 2000), .inl (.int, 2000), .inr 4, .inl (.long, cn), .inl (.int, mo), .inl (.int, mo), .inl (.int, mo), .inl (.int, mo), .inr 5, .inl (.long, 500), .inl (.long, 500), .inl (.long, 500), .inl (.long, 500), .inr 6, .inl (.byte, 4000), .inl (.byte, 10), .inr 7, .inl (.int, 2000), .inl (.int, 2000), .inl (.int, 2000), .inl (.int, 2000), .inl (.int, 2000), .inl (.long, 18000), .inl (.long, 32), .inl (.long, 444), .inr 8, .inl (.byte, mo), .inl (.int, mo), .inl (.int, mo), .inl (.int, (mo + 500)), .inr 9, .inr 10, .inr 11, .inl (.int, 3020), .inl (.int, 9200), .inl (.int, 460), .inl (.byte, 20100), .inl (.int, 20100), .inl (.int, 20100), .inl (.int, 20100), .inl (.int, 20100), .inl (.int, 20100), .inl (.short, 20100), .inl (.short, 20100), .inl (.int, 31), .inl (.boolean, 31), .inl (.int, 4100), .inl (.int, 4100), .inl (.int, 4100), .inl (.byte, 6700), .inl (.short, 6700), .inl (.int, 6700), .inl (.int, 6700), .inl (.int, 6700), .inl (.boolean, 6700), .inl (.boolean, 6700), .inl (.int, 6700), .inl (.long, 20000), .inl (.int, 20000), .inl (.long, 460), .inl (.long, 500), .inl (.long, 500)]) (c' := 29) (z' := 280902) rfl rfl rfl (by decide) (by omega) (by omega) rfl (by omega) (by decide) (by omega) ?_
  refine eg_k_pfa rfl rfl rfl ?_
  refine eg_k_aload rfl rfl ?_
  refine eg_k_ci rfl ?_
  refine eg_k_newa (a := 75) (l' := [.inr 0, .inr 1, .inl (.byte, 8880), .inl (.int, 444), .inl (.long, 20000), .inl (.int, 20000), .inl (.byte, 20000), .inr 2, .inl (.byte, 3000), .inl (.int, 2000), .inl (.int, 30), .inl (.boolean, 30), .inr 3, .inl (.int, 2000), .inl (.int, 2000), .inr 4, .inl (.long, cn), .inl (.int, mo), .inl (.int, mo), .inl (.int, mo), .inl (.int, mo), .inr 5, .inl (.long, 500), .inl (.long, 500), .inl (.long, 500), .inl (.long, 500), .inr 6, .inl (.byte, 4000), .inl (.byte, 10), .inr 7, .inl (.int, 2000), .inl (.int, 2000), .inl (.int, 2000), .inl (.int, 2000), .inl (.int, 2000), .inl (.long, 18000), .inl (.long, 32), .inl (.long, 444), .inr 8, .inl (.byte, mo), .inl (.int, mo), .inl (.int, mo), .inl (.int, (mo + 500)), .inr 9, .inr 10, .inr 11, .inl (.int, 3020), .inl (.int, 9200), .inl (.int, 460), .inl (.byte, 20100), .inl (.int, 20100), .inl (.int, 20100), .inl (.int, 20100), .inl (.int, 20100), .inl (.int, 20100), .inl (.short, 20100), .inl (.short, 20100), .inl (.int, 31), .inl (.boolean, 31), .inl (.int, 4100), .inl (.int, 4100), .inl (.int, 4100), .inl (.byte, 6700), .inl (.short, 6700), .inl (.int, 6700), .inl (.int, 6700), .inl (.int, 6700), .inl (.boolean, 6700), .inl (.boolean, 6700), .inl (.int, 6700), .inl (.long, 20000), .inl (.int, 20000), .inl (.long, 460), .inl (.long, 500), .inl (.long, 500), .inl (.long, 501)]) (c' := 30) (z' := 281403) rfl rfl rfl (by decide) (by omega) (by omega) rfl (by omega) (by decide) (by omega) ?_
  refine eg_k_pfa rfl rfl rfl ?_
  refine eg_k_aload rfl rfl ?_
  refine eg_k_ci rfl ?_
  refine eg_k_newa (a := 76) (l' := [.inr 0, .inr 1, .inl (.byte, 8880), .inl (.int, 444), .inl (.long, 20000), .inl (.int, 20000), .inl (.byte, 20000), .inr 2, .inl (.byte, 3000), .inl (.int, 2000), .inl (.int, 30), .inl (.boolean, 30), .inr 3, .inl (.int, 2000), .inl (.int, 2000), .inr 4, .inl (.long, cn), .inl (.int, mo), .inl (.int, mo), .inl (.int, mo), .inl (.int, mo), .inr 5, .inl (.long, 500), .inl (.long, 500), .inl (.long, 500), .inl (.long, 500), .inr 6, .inl (.byte, 4000), .inl (.byte, 10), .inr 7, .inl (.int, 2000), .inl (.int, 2000), .inl (.int, 2000), .inl (.int, 2000), .inl (.int, 2000), .inl (.long, 18000), .inl (.long, 32), .inl (.long, 444), .inr 8, .inl (.byte, mo), .inl (.int, mo), .inl (.int, mo), .inl (.int, (mo + 500)), .inr 9, .inr 10, .inr 11, .inl (.int, 3020), .inl (.int, 9200), .inl (.int, 460), .inl (.byte, 20100), .inl (.int, 20100), .inl (.int, 20100), .inl (.int, 20100), .inl (.int, 20100), .inl (.int, 20100), .inl (.short, 20100), .inl (.short, 20100), .inl (.int, 31), .inl (.boolean, 31), .inl (.int, 4100), .inl (.int, 4100), .inl (.int, 4100), .inl (.byte, 6700), .inl (.short, 6700), .inl (.int, 6700), .inl (.int, 6700), .inl (.int, 6700), .inl (.boolean, 6700), .inl (.boolean, 6700), .inl (.int, 6700), .inl (.long, 20000), .inl (.int, 20000), .inl (.long, 460), .inl (.long, 500), .inl (.long, 500), .inl (.long, 501), .inl (.long, 501)]) (c' := 31) (z' := 281904) rfl rfl rfl (by decide) (by omega) (by omega) rfl (by omega) (by decide) (by omega) ?_
  refine eg_k_pfa rfl rfl rfl ?_
  refine eg_k_aload rfl rfl ?_
  refine eg_k_ci rfl ?_
  refine eg_k_newa (a := 77) (l' := [.inr 0, .inr 1, .inl (.byte, 8880), .inl (.int, 444), .inl (.long, 20000), .inl (.int, 20000), .inl (.byte, 20000), .inr 2, .inl (.byte, 3000), .inl (.int, 2000), .inl (.int, 30), .inl (.boolean, 30), .inr 3, .inl (.int, 2000), .inl (.int, 2000), .inr 4, .inl (.long, cn), .inl (.int, mo), .inl (.int, mo), .inl (.int, mo), .inl (.int, mo), .inr 5, .inl (.long, 500), .inl (.long, 500), .inl (.long, 500), .inl (.long, 500), .inr 6, .inl (.byte, 4000), .inl (.byte, 10), .inr 7, .inl (.int, 2000), .inl (.int, 2000), .inl (.int, 2000), .inl (.int, 2000), .inl (.int, 2000), .inl (.long, 18000), .inl (.long, 32), .inl (.long, 444), .inr 8, .inl (.byte, mo), .inl (.int, mo), .inl (.int, mo), .inl (.int, (mo + 500)), .inr 9, .inr 10, .inr 11, .inl (.int, 3020), .inl (.int, 9200), .inl (.int, 460), .inl (.byte, 20100), .inl (.int, 20100), .inl (.int, 20100), .inl (.int, 20100), .inl (.int, 20100), .inl (.int, 20100), .inl (.short, 20100), .inl (.short, 20100), .inl (.int, 31), .inl (.boolean, 31), .inl (.int, 4100), .inl (.int, 4100), .inl (.int, 4100), .inl (.byte, 6700), .inl (.short, 6700), .inl (.int, 6700), .inl (.int, 6700), .inl (.int, 6700), .inl (.boolean, 6700), .inl (.boolean, 6700), .inl (.int, 6700), .inl (.long, 20000), .inl (.int, 20000), .inl (.long, 460), .inl (.long, 500), .inl (.long, 500), .inl (.long, 501), .inl (.long, 501), .inl (.long, 19000)]) (c' := 32) (z' := 300904) rfl rfl rfl (by decide) (by omega) (by omega) rfl (by omega) (by decide) (by omega) ?_
  refine eg_k_pfa rfl rfl rfl ?_
  refine eg_k_aload rfl rfl ?_
  refine eg_k_ci rfl ?_
  refine eg_k_newa (a := 78) (l' := [.inr 0, .inr 1, .inl (.byte, 8880), .inl (.int, 444), .inl (.long, 20000), .inl (.int, 20000), .inl (.byte, 20000), .inr 2, .inl (.byte, 3000), .inl (.int, 2000), .inl (.int, 30), .inl (.boolean, 30), .inr 3, .inl (.int, 2000), .inl (.int, 2000), .inr 4, .inl (.long, cn), .inl (.int, mo), .inl (.int, mo), .inl (.int, mo), .inl (.int, mo), .inr 5, .inl (.long, 500), .inl (.long, 500), .inl (.long, 500), .inl (.long, 500), .inr 6, .inl (.byte, 4000), .inl (.byte, 10), .inr 7, .inl (.int, 2000), .inl (.int, 2000), .inl (.int, 2000), .inl (.int, 2000), .inl (.int, 2000), .inl (.long, 18000), .inl (.long, 32), .inl (.long, 444), .inr 8, .inl (.byte, mo), .inl (.int, mo), .inl (.int, mo), .inl (.int, (mo + 500)), .inr 9, .inr 10, .inr 11, .inl (.int, 3020), .inl (.int, 9200), .inl (.int, 460), .inl (.byte, 20100), .inl (.int, 20100), .inl (.int, 20100), .inl (.int, 20100), .inl (.int, 20100), .inl (.int, 20100), .inl (.short, 20100), .inl (.short, 20100), .inl (.int, 31), .inl (.boolean, 31), .inl (.int, 4100), .inl (.int, 4100), .inl (.int, 4100), .inl (.byte, 6700), .inl (.short, 6700), .inl (.int, 6700), .inl (.int, 6700), .inl (.int, 6700), .inl (.boolean, 6700), .inl (.boolean, 6700), .inl (.int, 6700), .inl (.long, 20000), .inl (.int, 20000), .inl (.long, 460), .inl (.long, 500), .inl (.long, 500), .inl (.long, 501), .inl (.long, 501), .inl (.long, 19000), .inl (.byte, 4400)]) (c' := 33) (z' := 305304) rfl rfl rfl (by decide) (by omega) (by omega) rfl (by omega) (by decide) (by omega) ?_
  refine eg_k_pfa rfl rfl rfl ?_
  refine eg_k_aload rfl rfl ?_
  refine eg_k_ci rfl ?_
  refine eg_k_newa (a := 79) (l' := [.inr 0, .inr 1, .inl (.byte, 8880), .inl (.int, 444), .inl (.long, 20000), .inl (.int, 20000), .inl (.byte, 20000), .inr 2, .inl (.byte, 3000), .inl (.int, 2000), .inl (.int, 30), .inl (.boolean, 30), .inr 3, .inl (.int, 2000), .inl (.int, 2000), .inr 4, .inl (.long, cn), .inl (.int, mo), .inl (.int, mo), .inl (.int, mo), .inl (.int, mo), .inr 5, .inl (.long, 500), .inl (.long, 500), .inl (.long, 500), .inl (.long, 500), .inr 6, .inl (.byte, 4000), .inl (.byte, 10), .inr 7, .inl (.int, 2000), .inl (.int, 2000), .inl (.int, 2000), .inl (.int, 2000), .inl (.int, 2000), .inl (.long, 18000), .inl (.long, 32), .inl (.long, 444), .inr 8, .inl (.byte, mo), .inl (.int, mo), .inl (.int, mo), .inl (.int, (mo + 500)), .inr 9, .inr 10, .inr 11, .inl (.int, 3020), .inl (.int, 9200), .inl (.int, 460), .inl (.byte, 20100), .inl (.int, 20100), .inl (.int, 20100), .inl (.int, 20100), .inl (.int, 20100), .inl (.int, 20100), .inl (.short, 20100), .inl (.short, 20100), .inl (.int, 31), .inl (.boolean, 31), .inl (.int, 4100), .inl (.int, 4100), .inl (.int, 4100), .inl (.byte, 6700), .inl (.short, 6700), .inl (.int, 6700), .inl (.int, 6700), .inl (.int, 6700), .inl (.boolean, 6700), .inl (.boolean, 6700), .inl (.int, 6700), .inl (.long, 20000), .inl (.int, 20000), .inl (.long, 460), .inl (.long, 500), .inl (.long, 500), .inl (.long, 501), .inl (.long, 501), .inl (.long, 19000), .inl (.byte, 4400), .inl (.int, 4400)]) (c' := 34) (z' := 309704) rfl rfl rfl (by decide) (by omega) (by omega) rfl (by omega) (by decide) (by omega) ?_
  refine eg_k_pfa rfl rfl rfl ?_
  refine eg_k_aload rfl rfl ?_
  refine eg_k_ci rfl ?_
  refine eg_k_newa (a := 80) (l' := [.inr 0, .inr 1, .inl (.byte, 8880), .inl (.int, 444), .inl (.long, 20000), .inl (.int, 20000), .inl (.byte, 20000), .inr 2, .inl (.byte, 3000), .inl (.int, 2000), .inl (.int, 30), .inl (.boolean, 30), .inr 3, .inl (.int, 2000), .inl (.int, 2000), .inr 4, .inl (.long, cn), .inl (.int, mo), .inl (.int, mo), .inl (.int, mo), .inl (.int, mo), .inr 5, .inl (.long, 500), .inl (.long, 500), .inl (.long, 500), .inl (.long, 500), .inr 6, .inl (.byte, 4000), .inl (.byte, 10), .inr 7, .inl (.int, 2000), .inl (.int, 2000), .inl (.int, 2000), .inl (.int, 2000), .inl (.int, 2000), .inl (.long, 18000), .inl (.long, 32), .inl (.long, 444), .inr 8, .inl (.byte, mo), .inl (.int, mo), .inl (.int, mo), .inl (.int, (mo + 500)), .inr 9, .inr 10, .inr 11, .inl (.int, 3020), .inl (.int, 9200), .inl (.int, 460), .inl (.byte, 20100), .inl (.int, 20100), .inl (.int, 20100), .inl (.int, 20100), .inl (.int, 20100), .inl (.int, 20100), .inl (.short, 20100), .inl (.short, 20100), .inl (.int, 31), .inl (.boolean, 31), .inl (.int, 4100), .inl (.int, 4100), .inl (.int, 4100), .inl (.byte, 6700), .inl (.short, 6700), .inl (.int, 6700), .inl (.int, 6700), .inl (.int, 6700), .inl (.boolean, 6700), .inl (.boolean, 6700), .inl (.int, 6700), .inl (.long, 20000), .inl (.int, 20000), .inl (.long, 460), .inl (.long, 500), .inl (.long, 500), .inl (.long, 501), .inl (.long, 501), .inl (.long, 19000), .inl (.byte, 4400), .inl (.int, 4400), .inl (.int, 4400)]) (c' := 35) (z' := 314104) rfl rfl rfl (by decide) (by omega) (by omega) rfl (by omega) (by decide) (by omega) ?_
  refine eg_k_pfa rfl rfl rfl ?_
  refine eg_k_aload rfl rfl ?_
  refine eg_k_ci rfl ?_
  refine eg_k_newa (a := 81) (l' := [.inr 0, .inr 1, .inl (.byte, 8880), .inl (.int, 444), .inl (.long, 20000), .inl (.int, 20000), .inl (.byte, 20000), .inr 2, .inl (.byte, 3000), .inl (.int, 2000), .inl (.int, 30), .inl (.boolean, 30), .inr 3, .inl (.int, 2000), .inl (.int, 2000), .inr 4, .inl (.long, cn), .inl (.int, mo), .inl (.int, mo), .inl (.int, mo), .inl (.int, mo), .inr 5, .inl (.long, 500), .inl (.long, 500), .inl (.long, 500), .inl (.long, 500), .inr 6, .inl (.byte, 4000), .inl (.byte, 10), .inr 7, .inl (.int, 2000), .inl (.int, 2000), .inl (.int, 2000), .inl (.int, 2000), .inl (.int, 2000), .inl (.long, 18000), .inl (.long, 32), .inl (.long, 444), .inr 8, .inl (.byte, mo), .inl (.int, mo), .inl (.int, mo), .inl (.int, (mo + 500)), .inr 9, .inr 10, .inr 11, .inl (.int, 3020), .inl (.int, 9200), .inl (.int, 460), .inl (.byte, 20100), .inl (.int, 20100), .inl (.int, 20100), .inl (.int, 20100), .inl (.int, 20100), .inl (.int, 20100), .inl (.short, 20100), .inl (.short, 20100), .inl (.int, 31), .inl (.boolean, 31), .inl (.int, 4100), .inl (.int, 4100), .inl (.int, 4100), .inl (.byte, 6700), .inl (.short, 6700), .inl (.int, 6700), .inl (.int, 6700), .inl (.int, 6700), .inl (.boolean, 6700), .inl (.boolean, 6700), .inl (.int, 6700), .inl (.long, 20000), .inl (.int, 20000), .inl (.long, 460), .inl (.long, 500), .inl (.long, 500), .inl (.long, 501), .inl (.long, 501), .inl (.long, 19000), .inl (.byte, 4400), .inl (.int, 4400), .inl (.int, 4400), .inl (.int, 4400)]) (c' := 36) (z' := 318504) rfl rfl rfl (by decide) (by omega) (by omega) rfl (by omega) (by decide) (by omega) ?_
  refine eg_k_pfa rfl rfl rfl ?_
  refine eg_k_aload rfl rfl ?_
  refine eg_k_ci rfl ?_
  refine eg_k_newa (a := 82) (l' := [.inr 0, .inr 1, .inl (.byte, 8880), .inl (.int, 444), .inl (.long, 20000), .inl (.int, 20000), .inl (.byte, 20000), .inr 2, .inl (.byte, 3000), .inl (.int, 2000), .inl (.int, 30), .inl (.boolean, 30), .inr 3, .inl (.int, 2000), .inl (.int, 2000), .inr 4, .inl (.long, cn), .inl (.int, mo), .inl (.int, mo), .inl (.int, mo), .inl (.int, mo), .inr 5, .inl (.long, 500), .inl (.long, 500), .inl (.long, 500), .inl (.long, 500), .inr 6, .inl (.byte, 4000), .inl (.byte, 10), .inr 7, .inl (.int, 2000), .inl (.int, 2000), .inl (.int, 2000), .inl (.int, 2000), .inl (.int, 2000), .inl (.long, 18000), .inl (.long, 32), .inl (.long, 444), .inr 8, .inl (.byte, mo), .inl (.int, mo), .inl (.int, mo), .inl (.int, (mo + 500)), .inr 9, .inr 10, .inr 11, .inl (.int, 3020), .inl (.int, 9200), .inl (.int, 460), .inl (.byte, 20100), .inl (.int, 20100), .inl (.int, 20100), .inl (.int, 20100), .inl (.int, 20100), .inl (.int, 20100), .inl (.short, 20100), .inl (.short, 20100), .inl (.int, 31), .inl (.boolean, 31), .inl (.int, 4100), .inl (.int, 4100), .inl (.int, 4100), .inl (.byte, 6700), .inl (.short, 6700), .inl (.int, 6700), .inl (.int, 6700), .inl (.int, 6700), .inl (.boolean, 6700), .inl (.boolean, 6700), .inl (.int, 6700), .inl (.long, 20000), .inl (.int, 20000), .inl (.long, 460), .inl (.long, 500), .inl (.long, 500), .inl (.long, 501), .inl (.long, 501), .inl (.long, 19000), .inl (.byte, 4400), .inl (.int, 4400), .inl (.int, 4400), .inl (.int, 4400), .inl (.long, 4400)]) (c' := 37) (z' := 322904) rfl rfl rfl (by decide) (by omega) (by omega) rfl (by omega) (by decide) (by omega) ?_
  refine eg_k_pfa rfl rfl rfl ?_
  refine eg_k_aload rfl rfl ?_
  refine eg_k_ci rfl ?_
  refine eg_k_newa (a := 83) (l' := [.inr 0, .inr 1, .inl (.byte, 8880), .inl (.int, 444), .inl (.long, 20000), .inl (.int, 20000), .inl (.byte, 20000), .inr 2, .inl (.byte, 3000), .inl (.int, 2000), .inl (.int, 30), .inl (.boolean, 30), .inr 3, .inl (.int, 2000), .inl (.int, 2000), .inr 4, .inl (.long, cn), .inl (.int, mo), .inl (.int, mo), .inl (.int, mo), .inl (.int, mo), .inr 5, .inl (.long, 500), .inl (.long, 500), .inl (.long, 500), .inl (.long, 500), .inr 6, .inl (.byte, 4000), .inl (.byte, 10), .inr 7, .inl (.int, 2000), .inl (.int, 2000), .inl (.int, 2000), .inl (.int, 2000), .inl (.int, 2000), .inl (.long, 18000), .inl (.long, 32), .inl (.long, 444), .inr 8, .inl (.byte, mo), .inl (.int, mo), .inl (.int, mo), .inl (.int, (mo + 500)), .inr 9, .inr 10, .inr 11, .inl (.int, 3020), .inl (.int, 9200), .inl (.int, 460), .inl (.byte, 20100), .inl (.int, 20100), .inl (.int, 20100), .inl (.int, 20100), .inl (.int, 20100), .inl (.int, 20100), .inl (.short, 20100), .inl (.short, 20100), .inl (.int, 31), .inl (.boolean, 31), .inl (.int, 4100), .inl (.int, 4100), .inl (.int, 4100), .inl (.byte, 6700), .inl (.short, 6700), .inl (.int, 6700), .inl (.int, 6700), .inl (.int, 6700), .inl (.boolean, 6700), .inl (.boolean, 6700), .inl (.int, 6700), .inl (.long, 20000), .inl (.int, 20000), .inl (.long, 460), .inl (.long, 500), .inl (.long, 500), .inl (.long, 501), .inl (.long, 501), .inl (.long, 19000), .inl (.byte, 4400), .inl (.int, 4400), .inl (.int, 4400), .inl (.int, 4400), .inl (.long, 4400), .inl (.int, 31)]) (c' := 38) (z' := 322935) rfl rfl rfl (by decide) (by omega) (by omega) rfl (by omega) (by decide) (by omega) ?_
  refine eg_k_pfa rfl rfl rfl ?_
  refine eg_k_aload rfl rfl ?_
  refine eg_k_ci rfl ?_
  refine eg_k_newa (a := 84) (l' := [.inr 0, .inr 1, .inl (.byte, 8880), .inl (.int, 444), .inl (.long, 20000), .inl (.int, 20000), .inl (.byte, 20000), .inr 2, .inl (.byte, 3000), .inl (.int, 2000), .inl (.int, 30), .inl (.boolean, 30), .inr 3, .inl (.int, 2000), .inl (.int, 2000), .inr 4, .inl (.long, cn), .inl (.int, mo), .inl (.int, mo), .inl (.int, mo), .inl (.int, mo), .inr 5, .inl (.long, 500), .inl (.long, 500), .inl (.long, 500), .inl (.long, 500), .inr 6, .inl (.byte, 4000), .inl (.byte, 10), .inr 7, .inl (.int, 2000), .inl (.int, 2000), .inl (.int, 2000), .inl (.int, 2000), .inl (.int, 2000), .inl (.long, 18000), .inl (.long, 32), .inl (.long, 444), .inr 8, .inl (.byte, mo), .inl (.int, mo), .inl (.int, mo), .inl (.int, (mo + 500)), .inr 9, .inr 10, .inr 11, .inl (.int, 3020), .inl (.int, 9200), .inl (.int, 460), .inl (.byte, 20100), .inl (.int, 20100), .inl (.int, 20100), .inl (.int, 20100), .inl (.int, 20100), .inl (.int, 20100), .inl (.short, 20100), .inl (.short, 20100), .inl (.int, 31), .inl (.boolean, 31), .inl (.int, 4100), .inl (.int, 4100), .inl (.int, 4100), .inl (.byte, 6700), .inl (.short, 6700), .inl (.int, 6700), .inl (.int, 6700), .inl (.int, 6700), .inl (.boolean, 6700), .inl (.boolean, 6700), .inl (.int, 6700), .inl (.long, 20000), .inl (.int, 20000), .inl (.long, 460), .inl (.long, 500), .inl (.long, 500), .inl (.long, 501), .inl (.long, 501), .inl (.long, 19000), .inl (.byte, 4400), .inl (.int, 4400), .inl (.int, 4400), .inl (.int, 4400), .inl (.long, 4400), .inl (.int, 31), .inl (.long, 31)]) (c' := 39) (z' := 322966) rfl rfl rfl (by decide) (by omega) (by omega) rfl (by omega) (by decide) (by omega) ?_
  refine eg_k_pfa rfl rfl rfl ?_
  refine eg_k_aload rfl rfl ?_
  refine eg_k_cl rfl ?_
  refine eg_k_pfl rfl rfl rfl ?_
  refine eg_k_aload rfl rfl ?_
  refine eg_k_cl rfl ?_
  refine eg_k_pfl rfl rfl rfl ?_
  refine eg_k_aload rfl rfl ?_
  refine eg_k_ci rfl ?_
  refine eg_k_newa (a := 85) (l' := [.inr 0, .inr 1, .inl (.byte, 8880), .inl (.int, 444), .inl (.long, 20000), .inl (.int, 20000), .inl (.byte, 20000), .inr 2, .inl (.byte, 3000), .inl (.int, 2000), .inl (.int, 30), .inl (.boolean, 30), .inr 3, .inl (.int, 2000), .inl (.int, 2000), .inr 4, .inl (.long, cn), .inl (.int, mo), .inl (.int, mo), .inl (.int, mo), .inl (.int, mo), .inr 5, .inl (.long, 500), .inl (.long, 500), .inl (.long, 500), .inl (.long, 500), .inr 6, .inl (.byte, 4000), .inl (.byte, 10), .inr 7, .inl (.int, 2000), .inl (.int, 2000), .inl (.int, 2000), .inl (.int, 2000), .inl (.int, 2000), .inl (.long, 18000), .inl (.long, 32), .inl (.long, 444), .inr 8, .inl (.byte, mo), .inl (.int, mo), .inl (.int, mo), .inl (.int, (mo + 500)), .inr 9, .inr 10, .inr 11, .inl (.int, 3020), .inl (.int, 9200), .inl (.int, 460), .inl (.byte, 20100), .inl (.int, 20100), .inl (.int, 20100), .inl (.int, 20100), .inl (.int, 20100), .inl (.int, 20100), .inl (.short, 20100), .inl (.short, 20100), .inl (.int, 31), .inl (.boolean, 31), .inl (.int, 4100), .inl (.int, 4100), .inl (.int, 4100), .inl (.byte, 6700), .inl (.short, 6700), .inl (.int, 6700), .inl (.int, 6700), .inl (.int, 6700), .inl (.boolean, 6700), .inl (.boolean, 6700), .inl (.int, 6700), .inl (.long, 20000), .inl (.int, 20000), .inl (.long, 460), .inl (.long, 500), .inl (.long, 500), .inl (.long, 501), .inl (.long, 501), .inl (.long, 19000), .inl (.byte, 4400), .inl (.int, 4400), .inl (.int, 4400), .inl (.int, 4400), .inl (.long, 4400), .inl (.int, 31), .inl (.long, 31), .inl (.int, 6700)]) (c' := 40) (z' := 329666) rfl rfl rfl (by decide) (by omega) (by omega) rfl (by omega) (by decide) (by omega) ?_
  refine eg_k_pfa rfl rfl rfl ?_
  refine eg_k_aload rfl rfl ?_
  refine eg_k_ci rfl ?_
  refine eg_k_newa (a := 86) (l' := [.inr 0, .inr 1, .inl (.byte, 8880), .inl (.int, 444), .inl (.long, 20000), .inl (.int, 20000), .inl (.byte, 20000), .inr 2, .inl (.byte, 3000), .inl (.int, 2000), .inl (.int, 30), .inl (.boolean, 30), .inr 3, .inl (.int, 2000), .inl (.int, 2000), .inr 4, .inl (.long, cn), .inl (.int, mo), .inl (.int, mo), .inl (.int, mo), .inl (.int, mo), .inr 5, .inl (.long, 500), .inl (.long, 500), .inl (.long, 500), .inl (.long, 500), .inr 6, .inl (.byte, 4000), .inl (.byte, 10), .inr 7, .inl (.int, 2000), .inl (.int, 2000), .inl (.int, 2000), .inl (.int, 2000), .inl (.int, 2000), .inl (.long, 18000), .inl (.long, 32), .inl (.long, 444), .inr 8, .inl (.byte, mo), .inl (.int, mo), .inl (.int, mo), .inl (.int, (mo + 500)), .inr 9, .inr 10, .inr 11, .inl (.int, 3020), .inl (.int, 9200), .inl (.int, 460), .inl (.byte, 20100), .inl (.int, 20100), .inl (.int, 20100), .inl (.int, 20100), .inl (.int, 20100), .inl (.int, 20100), .inl (.short, 20100), .inl (.short, 20100), .inl (.int, 31), .inl (.boolean, 31), .inl (.int, 4100), .inl (.int, 4100), .inl (.int, 4100), .inl (.byte, 6700), .inl (.short, 6700), .inl (.int, 6700), .inl (.int, 6700), .inl (.int, 6700), .inl (.boolean, 6700), .inl (.boolean, 6700), .inl (.int, 6700), .inl (.long, 20000), .inl (.int, 20000), .inl (.long, 460), .inl (.long, 500), .inl (.long, 500), .inl (.long, 501), .inl (.long, 501), .inl (.long, 19000), .inl (.byte, 4400), .inl (.int, 4400), .inl (.int, 4400), .inl (.int, 4400), .inl (.long, 4400), .inl (.int, 31), .inl (.long, 31), .inl (.int, 6700), .inl (.int, 4000)]) (c' := 41) (z' := 333666) rfl rfl rfl (by decide) (by omega) (by omega) rfl (by omega) (by decide) (by omega) ?_
  refine eg_k_pfa rfl rfl rfl ?_
  refine eg_k_aload rfl rfl ?_
  refine eg_k_ci rfl ?_
  refine eg_k_newa (a := 87) (l' := [.inr 0, .inr 1, .inl (.byte, 8880), .inl (.int, 444), .inl (.long, 20000), .inl (.int, 20000), .inl (.byte, 20000), .inr 2, .inl (.byte, 3000), .inl (.int, 2000), .inl (.int, 30), .inl (.boolean, 30), .inr 3, .inl (.int, 2000), .inl (.int, 2000), .inr 4, .inl (.long, cn), .inl (.int, mo), .inl (.int, mo), .inl (.int, mo), .inl (.int, mo), .inr 5, .inl (.long, 500), .inl (.long, 500), .inl (.long, 500), .inl (.long, 500), .inr 6, .inl (.byte, 4000), .inl (.byte, 10), .inr 7, .inl (.int, 2000), .inl (.int, 2000), .inl (.int, 2000), .inl (.int, 2000), .inl (.int, 2000), .inl (.long, 18000), .inl (.long, 32), .inl (.long, 444), .inr 8, .inl (.byte, mo), .inl (.int, mo), .inl (.int, mo), .inl (.int, (mo + 500)), .inr 9, .inr 10, .inr 11, .inl (.int, 3020), .inl (.int, 9200), .inl (.int, 460), .inl (.byte, 20100), .inl (.int, 20100), .inl (.int, 20100), .inl (.int, 20100), .inl (.int, 20100), .inl (.int, 20100), .inl (.short, 20100), .inl (.short, 20100), .inl (.int, 31), .inl (.boolean, 31), .inl (.int, 4100), .inl (.int, 4100), .inl (.int, 4100), .inl (.byte, 6700), .inl (.short, 6700), .inl (.int, 6700), .inl (.int, 6700), .inl (.int, 6700), .inl (.boolean, 6700), .inl (.boolean, 6700), .inl (.int, 6700), .inl (.long, 20000), .inl (.int, 20000), .inl (.long, 460), .inl (.long, 500), .inl (.long, 500), .inl (.long, 501), .inl (.long, 501), .inl (.long, 19000), .inl (.byte, 4400), .inl (.int, 4400), .inl (.int, 4400), .inl (.int, 4400), .inl (.long, 4400), .inl (.int, 31), .inl (.long, 31), .inl (.int, 6700), .inl (.int, 4000), .inl (.long, 10)]) (c' := 42) (z' := 333676) rfl rfl rfl (by decide) (by omega) (by omega) rfl (by omega) (by decide) (by omega) ?_
  refine eg_k_pfa rfl rfl rfl ?_
  refine eg_k_aload rfl rfl ?_
  refine eg_k_iload rfl rfl ?_
  refine eg_k_ci rfl ?_
  refine eg_k_icmp rfl (fun z => ?_) (fun z => ?_)
  · have z2 : c < 100 := z
    refine eg_k_ci rfl ?_
    exact em_put (by unfold ec_cn; rw [if_neg (by omega)]; rfl) hm (Nat.le_refl _) (Nat.le_refl _) hQ
  · have z2 : ¬ c < 100 := z
    refine eg_k_iload rfl rfl ?_
    refine eg_k_ci rfl ?_
    refine eg_k_icmp rfl (fun y => ?_) (fun y => ?_)
    · have y2 : 20000 < c := y
      refine eg_k_ci rfl ?_
      exact em_put (by unfold ec_cn; rw [if_neg (by omega)]; rfl) hm (Nat.le_refl _) (Nat.le_refl _) hQ
    · have y2 : ¬ 20000 < c := y
      refine eg_k_iload rfl rfl ?_
      refine eg_k_goto rfl ?_
      exact em_put (by unfold ec_cn; rw [if_pos (by omega)]; omega) hm (Nat.le_refl _) (Nat.le_refl _) hQ
