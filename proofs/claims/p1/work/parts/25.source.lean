/-! SOURCE'S CONSTRUCTOR: the special names and the primitives' become known -/
def ek_s1 (M : Nat → Nat → Int) : Nat → Nat × (Nat → Nat → Int)
  | 0 => (0, M)
  | i + 1 => if (eg_str.getD 0 []).getD i 0 = 32 then (i + 1, ek_kn (ek_s1 M i).2 0 (ek_s1 M i).1 i) else ek_s1 M i
abbrev ek_w (i : Nat) : Nat := (eg_enm.getD i ("", 0, 0)).2.1
def ek_s2 (M : Nat → Nat → Int) : Nat → Nat → Nat → Int
  | 0 => M
  | i + 1 => ek_kn (ek_s2 M i) (ek_w i) 0 (eg_str.getD (ek_w i) []).length
theorem ek_kn_n (M : Nat → Nat → Int) (s fr to : Nat) : ek_kn M s fr to 1 2 = M 1 2 + 1 := by unfold ek_kn; rw [eg_u_at, if_pos rfl]
theorem ek_s1_inv (M : Nat → Nat → Int) (h : M 1 2 = 0) : ∀ i, (ek_s1 M i).1 ≤ i ∧ 0 ≤ (ek_s1 M i).2 1 2 ∧ (ek_s1 M i).2 1 2 ≤ (i : Int)
  | 0 => ⟨Nat.le_refl _, by show 0 ≤ M 1 2; omega, by show M 1 2 ≤ 0; omega⟩
  | i + 1 => by
    have ih := ek_s1_inv M h i
    unfold ek_s1
    split
    · refine ⟨Nat.le_refl _, ?_, ?_⟩
      · show 0 ≤ ek_kn (ek_s1 M i).2 0 (ek_s1 M i).1 i 1 2
        rw [ek_kn_n]; omega
      · show ek_kn (ek_s1 M i).2 0 (ek_s1 M i).1 i 1 2 ≤ _
        rw [ek_kn_n]; omega
    · exact ⟨by omega, ih.2.1, by omega⟩
theorem ek_s2_inv (M : Nat → Nat → Int) : ∀ i, ek_s2 M i 1 2 = M 1 2 + (i : Int)
  | 0 => by show M 1 2 = M 1 2 + 0; omega
  | i + 1 => by
    show ek_kn (ek_s2 M i) (ek_w i) 0 (eg_str.getD (ek_w i) []).length 1 2 = _
    rw [ek_kn_n, ek_s2_inv M i]; omega
set_option maxRecDepth 100000 in
theorem es_l4 : (List.range 62).all (fun s => decide ((eg_str.getD s []).length < 400)) = true := by decide +kernel
theorem es_l51 : (eg_str.getD 0 []).length = 51 := by decide +kernel
theorem es_en {i : Nat} (hi : i < 34) : eg_sf (1000100 + i) 0 = some (.inr (.inr (some (1000200 + ek_w i)))) ∧ eg_sf (1000100 + i) 1 = some (.inr (.inr (some (1000200 + (eg_enm.getD i ("", 0, 0)).2.2)))) ∧ eg_sf (1000100 + i) 4 = some (.inl ((i : Nat) : Int)) := by
  refine ⟨?_, ?_, ?_⟩ <;> (unfold eg_sf; rw [if_pos (by omega), show 1000100 + i - 1000100 = i by omega]) <;> rfl
theorem ec_2b {sc : eg_Sc} {d : Nat} {r : Nat → Nat → Option Nat} {M : Nat → Nat → Int} {Q : Option eg_V → eg_H → Prop} {mc ms c z : Nat} (r0 : r 1 0 = some 2) (r1 : r 1 1 = some 3) (hm : M 1 2 = 0) (hc : c ≤ mc) (hz : z ≤ ms) (hQ : Q none ([.inr 0, .inr 1, .inl (.byte, 8880), .inl (.int, 444), .inl (.long, 20000), .inl (.int, 20000), .inl (.byte, 20000)], r, ek_s2 (ek_s1 M 51).2 34)) : eg_X sc (eg_wp sc (d + 5)) eg_p2 none mc ms Q 26 [some (.inr (.inr (some 1))), some (.inl 0), some (.inl 0)] [] ([.inr 0, .inr 1, .inl (.byte, 8880), .inl (.int, 444), .inl (.long, 20000), .inl (.int, 20000), .inl (.byte, 20000)], r, M) c z := by
  have hl : ([.inr 0, .inr 1, .inl (.byte, 8880), .inl (.int, 444), .inl (.long, 20000), .inl (.int, 20000), .inl (.byte, 20000)] : List eg_C).length < 1000000 := by decide
  have h51 := es_l51
  have h4 : ∀ {s : Nat}, s < 62 → (eg_str.getD s []).length < 400 := fun hs => eg_dd (List.all_eq_true.mp es_l4 _ (List.mem_range.mpr hs))
  have inv := ek_s1_inv M hm
  have loop2 : ∀ (k i : Nat), i + k = 34 → eg_X sc (eg_wp sc (d + 5)) eg_p2 none mc ms Q 48 [some (.inr (.inr (some 1))), some (.inl ((ek_s1 M 51).1 : Nat)), some (.inl (i : Nat))] [] ([.inr 0, .inr 1, .inl (.byte, 8880), .inl (.int, 444), .inl (.long, 20000), .inl (.int, 20000), .inl (.byte, 20000)], r, ek_s2 (ek_s1 M 51).2 i) c z := by
    intro k
    induction k with
    | zero =>
      intro i hi
      have hin : i = 34 := by omega
      subst hin
      refine eg_k_iload rfl rfl ?_
      refine eg_k_gets (v := .inr (.inr (some 1000004))) rfl rfl ?_
      refine eg_k_tlen (k := 34) rfl (es_no hl (by decide)) rfl ?_
      refine eg_k_icmp rfl (fun _ => ?_) (fun z => absurd (Int.le_refl _) z)
      exact eg_k_ret rfl rfl hc hz hQ
    | succ k ih =>
      intro i hi
      have hw := eg_dd (List.all_eq_true.mp eg_enm_lt i (List.mem_range.mpr (by omega)))
      have i2 := ek_s2_inv (ek_s1 M 51).2 i
      have i1 := inv 51
      refine eg_k_iload rfl rfl ?_
      refine eg_k_gets (v := .inr (.inr (some 1000004))) rfl rfl ?_
      refine eg_k_tlen (k := 34) rfl (es_no hl (by decide)) rfl ?_
      refine eg_k_icmp rfl (fun z => by have z2 : (34 : Int) ≤ (i : Int) := z; omega) (fun _ => ?_)
      refine eg_k_aload rfl rfl ?_
      refine eg_k_gets (v := .inr (.inr (some 1000004))) rfl rfl ?_
      refine eg_k_iload rfl rfl ?_
      refine eg_k_taald (k := 34) (f9 := fun j => .inr (.inr (some (1000100 + j)))) rfl (es_no hl (by decide)) rfl (by omega) (by omega) ?_
      try dsimp only
      rw [show ((i : Nat) : Int).toNat = i by omega]
      refine eg_k_getx rfl (es_en (by omega)).1 ?_
      refine eg_k_ci rfl ?_
      refine eg_k_gets (v := .inr (.inr (some 1000004))) rfl rfl ?_
      refine eg_k_iload rfl rfl ?_
      refine eg_k_taald (k := 34) (f9 := fun j => .inr (.inr (some (1000100 + j)))) rfl (es_no hl (by decide)) rfl (by omega) (by omega) ?_
      try dsimp only
      rw [show ((i : Nat) : Int).toNat = i by omega]
      refine eg_k_getx rfl (es_en (by omega)).1 ?_
      refine eg_k_call (c1 := 0) (z1 := 0) (as := [.inr (.inr (some (1000200 + ek_w i)))]) (rest := [.inl 0, .inr (.inr (some (1000200 + ek_w i))), .inr (.inr (some 1))]) rfl eg_tj3 (Nat.le_of_ble_eq_true rfl) rfl rfl (es_rc hl hw.1) (Nat.le_of_ble_eq_true rfl) hc hz ?_ (fun Q hQ => es_3 hl hw.1 hQ)
      refine eg_k_call (c1 := 0) (z1 := 0) (as := [.inr (.inr (some 1)), .inr (.inr (some (1000200 + ek_w i))), .inl ((0 : Nat) : Int), .inl ((eg_str.getD (ek_w i) []).length : Nat)]) (rest := []) rfl eg_tj14 (Nat.le_of_ble_eq_true rfl) rfl rfl rfl (Nat.le_of_ble_eq_true rfl) hc hz ?_ (fun Q hQ => ek_14 hl rfl rfl rfl r0 r1 hw.1 (Nat.zero_le _) (Nat.le_refl _) (h4 hw.1) (by omega) (by omega) hQ)
      refine eg_k_iinc (lv' := [some (.inr (.inr (some 1))), some (.inl ((ek_s1 M 51).1 : Nat)), some (.inl (i + 1 : Nat))]) rfl rfl (by rw [eg_wi_1 (by omega)]; rfl) ?_
      refine eg_k_goto rfl ?_
      exact ih (i + 1) (by omega)
  have loop1 : ∀ (k i : Nat), i + k = 51 → eg_X sc (eg_wp sc (d + 5)) eg_p2 none mc ms Q 26 [some (.inr (.inr (some 1))), some (.inl ((ek_s1 M i).1 : Nat)), some (.inl (i : Nat))] [] ([.inr 0, .inr 1, .inl (.byte, 8880), .inl (.int, 444), .inl (.long, 20000), .inl (.int, 20000), .inl (.byte, 20000)], r, (ek_s1 M i).2) c z := by
    intro k
    induction k with
    | zero =>
      intro i hi
      have hin : i = 51 := by omega
      subst hin
      refine eg_k_iload rfl rfl ?_
      refine eg_k_cs rfl ?_
      refine eg_k_call (c1 := 0) (z1 := 0) (as := [.inr (.inr (some (1000200 + 0)))]) (rest := [.inl ((51 : Nat) : Int)]) rfl eg_tj3 (Nat.le_of_ble_eq_true rfl) rfl rfl (es_rc hl (by decide)) (Nat.le_of_ble_eq_true rfl) hc hz ?_ (fun Q hQ => es_3 hl (by decide) hQ)
      rw [h51]
      refine eg_k_icmp rfl (fun _ => ?_) (fun z => absurd (Int.le_refl _) z)
      refine eg_k_ci rfl ?_
      refine eg_k_istore (lv' := [some (.inr (.inr (some 1))), some (.inl ((ek_s1 M 51).1 : Nat)), some (.inl ((0 : Nat) : Int))]) rfl rfl ?_
      exact loop2 34 0 (by omega)
    | succ k ih =>
      intro i hi
      have i1 := inv i
      refine eg_k_iload rfl rfl ?_
      refine eg_k_cs rfl ?_
      refine eg_k_call (c1 := 0) (z1 := 0) (as := [.inr (.inr (some (1000200 + 0)))]) (rest := [.inl (i : Nat)]) rfl eg_tj3 (Nat.le_of_ble_eq_true rfl) rfl rfl (es_rc hl (by decide)) (Nat.le_of_ble_eq_true rfl) hc hz ?_ (fun Q hQ => es_3 hl (by decide) hQ)
      rw [h51]
      refine eg_k_icmp rfl (fun z => by have z2 : ((51 : Nat) : Int) ≤ (i : Int) := z; omega) (fun _ => ?_)
      refine eg_k_cs rfl ?_
      refine eg_k_iload rfl rfl ?_
      refine eg_k_call (c1 := 0) (z1 := 0) (as := [.inr (.inr (some (1000200 + 0))), .inl (i : Nat)]) (rest := []) rfl eg_tj5 (Nat.le_of_ble_eq_true rfl) rfl rfl (es_rc hl (by decide)) (Nat.le_of_ble_eq_true rfl) hc hz ?_ (fun Q hQ => es_5 hl (by decide) (by omega) (by rw [h51]; omega) hQ)
      rw [show ((i : Nat) : Int).toNat = i by omega]
      refine eg_k_ci rfl ?_
      have nxt : eg_X sc (eg_wp sc (d + 5)) eg_p2 none mc ms Q 44 [some (.inr (.inr (some 1))), some (.inl ((ek_s1 M (i + 1)).1 : Nat)), some (.inl (i : Nat))] [] ([.inr 0, .inr 1, .inl (.byte, 8880), .inl (.int, 444), .inl (.long, 20000), .inl (.int, 20000), .inl (.byte, 20000)], r, (ek_s1 M (i + 1)).2) c z := by
        refine eg_k_iinc (lv' := [some (.inr (.inr (some 1))), some (.inl ((ek_s1 M (i + 1)).1 : Nat)), some (.inl (i + 1 : Nat))]) rfl rfl (by rw [eg_wi_1 (by omega)]; rfl) ?_
        refine eg_k_goto rfl ?_
        exact ih (i + 1) (by omega)
      refine eg_k_icmp rfl (fun hne => ?_) (fun he => ?_)
      · have e : ek_s1 M (i + 1) = ek_s1 M i := by
          show (if (eg_str.getD 0 []).getD i 0 = 32 then _ else _) = _
          exact if_neg hne
        rw [e] at nxt
        exact nxt
      · have he2 : (eg_str.getD 0 []).getD i 0 = 32 := Classical.byContradiction he
        have e : ek_s1 M (i + 1) = (i + 1, ek_kn (ek_s1 M i).2 0 (ek_s1 M i).1 i) := by
          show (if (eg_str.getD 0 []).getD i 0 = 32 then _ else _) = _
          exact if_pos he2
        rw [e] at nxt
        refine eg_k_aload rfl rfl ?_
        refine eg_k_cs rfl ?_
        refine eg_k_iload rfl rfl ?_
        refine eg_k_iload rfl rfl ?_
        refine eg_k_call (c1 := 0) (z1 := 0) (as := [.inr (.inr (some 1)), .inr (.inr (some (1000200 + 0))), .inl ((ek_s1 M i).1 : Nat), .inl (i : Nat)]) (rest := []) rfl eg_tj14 (Nat.le_of_ble_eq_true rfl) rfl rfl rfl (Nat.le_of_ble_eq_true rfl) hc hz ?_ (fun Q hQ => ek_14 hl rfl rfl rfl r0 r1 (by decide) i1.1 (by rw [h51]; omega) (h4 (by decide)) (by omega) (by omega) hQ)
        refine eg_k_iload rfl rfl ?_
        refine eg_k_ci rfl ?_
        refine eg_k_iadd rfl ?_
        rw [eg_wi_1 (by omega)]
        refine eg_k_istore (lv' := [some (.inr (.inr (some 1))), some (.inl (i + 1 : Nat)), some (.inl (i : Nat))]) rfl rfl ?_
        exact nxt
  exact loop1 51 0 (by omega)
set_option maxRecDepth 100000 in
theorem ec_2 {sc : eg_Sc} {d : Nat} {r : Nat → Nat → Option Nat} {M : Nat → Nat → Int} {Q : Option eg_V → eg_H → Prop} (hm : M 1 2 = 0) (hQ : Q none ([.inr 0, .inr 1, .inl (.byte, 8880), .inl (.int, 444), .inl (.long, 20000), .inl (.int, 20000), .inl (.byte, 20000)], (eg_u (eg_z (eg_u (eg_z (eg_u (eg_z (eg_u (eg_z (eg_u (eg_z r 2 none) 1 0 (some 2)) 3 none) 1 1 (some 3)) 4 none) 1 3 (some 4)) 5 none) 1 4 (some 5)) 6 none) 1 5 (some 6)), ek_s2 (ek_s1 (eg_z (eg_z (eg_z (eg_z (eg_z M 2 0) 3 0) 4 0) 5 0) 6 0) 51).2 34)) : eg_wp sc (d + 6) 2 [.inr (.inr (some 1))] ([.inr 0, .inr 1], r, M) 10 80000 Q := by
  refine eg_in (lv := [some (.inr (.inr (some 1))), none, none]) eg_tj2 (Nat.le_of_ble_eq_true rfl) rfl ?_
  refine eg_k_aload rfl rfl ?_
  refine eg_k_oi rfl (Nat.le_of_ble_eq_true rfl) ?_
  refine eg_k_aload rfl rfl ?_
  refine eg_k_ci rfl ?_
  refine eg_k_newa (a := 2) (l' := [.inr 0, .inr 1, .inl (.byte, 8880)]) (c' := 1) (z' := 8880) rfl rfl rfl (by decide) (by omega) (by omega) rfl (by omega) (by decide) (by omega) ?_
  refine eg_k_pfa rfl rfl rfl ?_
  refine eg_k_aload rfl rfl ?_
  refine eg_k_ci rfl ?_
  refine eg_k_newa (a := 3) (l' := [.inr 0, .inr 1, .inl (.byte, 8880), .inl (.int, 444)]) (c' := 2) (z' := 9324) rfl rfl rfl (by decide) (by omega) (by omega) rfl (by omega) (by decide) (by omega) ?_
  refine eg_k_pfa rfl rfl rfl ?_
  refine eg_k_aload rfl rfl ?_
  refine eg_k_ci rfl ?_
  refine eg_k_newa (a := 4) (l' := [.inr 0, .inr 1, .inl (.byte, 8880), .inl (.int, 444), .inl (.long, 20000)]) (c' := 3) (z' := 29324) rfl rfl rfl (by decide) (by omega) (by omega) rfl (by omega) (by decide) (by omega) ?_
  refine eg_k_pfa rfl rfl rfl ?_
  refine eg_k_aload rfl rfl ?_
  refine eg_k_ci rfl ?_
  refine eg_k_newa (a := 5) (l' := [.inr 0, .inr 1, .inl (.byte, 8880), .inl (.int, 444), .inl (.long, 20000), .inl (.int, 20000)]) (c' := 4) (z' := 49324) rfl rfl rfl (by decide) (by omega) (by omega) rfl (by omega) (by decide) (by omega) ?_
  refine eg_k_pfa rfl rfl rfl ?_
  refine eg_k_aload rfl rfl ?_
  refine eg_k_ci rfl ?_
  refine eg_k_newa (a := 6) (l' := [.inr 0, .inr 1, .inl (.byte, 8880), .inl (.int, 444), .inl (.long, 20000), .inl (.int, 20000), .inl (.byte, 20000)]) (c' := 5) (z' := 69324) rfl rfl rfl (by decide) (by omega) (by omega) rfl (by omega) (by decide) (by omega) ?_
  refine eg_k_pfa rfl rfl rfl ?_
  refine eg_k_ci rfl ?_
  refine eg_k_istore (lv' := [some (.inr (.inr (some 1))), some (.inl (0)), none]) rfl rfl ?_
  refine eg_k_ci rfl ?_
  refine eg_k_istore (lv' := [some (.inr (.inr (some 1))), some (.inl (0)), some (.inl (0))]) rfl rfl ?_
  exact ec_2b rfl rfl hm (by decide) (by decide) hQ
