/-! STRINGS: length and charAt of the constants; filling -/
theorem es_sf {s : Nat} (hs : s < 62) : eg_sf (1000200 + s) 2 = some (.inr (.inr (some (1000300 + s)))) ∧ eg_sf (1000200 + s) 3 = some (.inl 0) ∧ eg_sc (1000200 + s) = some 16 := by
  refine ⟨?_, ?_, ?_⟩
  · unfold eg_sf
    rw [if_neg (by omega), if_pos (by omega)]
    show some (Sum.inr (Sum.inr (some (1000200 + s + 100)))) = _
    rw [show 1000200 + s + 100 = 1000300 + s by omega]
  · unfold eg_sf
    rw [if_neg (by omega), if_pos (by omega)]
    rfl
  · unfold eg_sc
    rw [if_neg (by omega), if_pos (by omega)]
theorem es_sa {sc : eg_Sc} {s : Nat} (hs : s < 62) : eg_sa sc (1000300 + s) = some (.byte, (eg_str.getD s []).length, fun j => .inl ((eg_str.getD s []).getD j 0)) := by
  unfold eg_sa
  rw [if_neg (by omega), if_pos (by omega), if_pos (by omega), show 1000300 + s - 1000300 = s by omega]
theorem es_no {l : List eg_C} {k : Nat} (hl : l.length < 1000000) (hk : 1000000 ≤ k) : l[k]? = none := List.getElem?_eq_none (by omega)
theorem es_rc {l : List eg_C} {r : Nat → Nat → Option Nat} {M : Nat → Nat → Int} {s : Nat} (hl : l.length < 1000000) (hs : s < 62) : eg_rc (l, r, M) (1000200 + s) = some 16 := by
  unfold eg_rc
  dsimp only
  rw [es_no hl (by omega)]
  exact (es_sf hs).2.2
section ESS
variable {sc : eg_Sc} {d : Nat} {l : List eg_C} {r : Nat → Nat → Option Nat} {M : Nat → Nat → Int} {Q : Option eg_V → eg_H → Prop} {s : Nat}
theorem es_4 (hs : s < 62) (hQ : Q (some (.inl 0)) (l, r, M)) : eg_wp sc (d + 1) 4 [.inr (.inr (some (1000200 + s)))] (l, r, M) 0 0 Q := by
  refine eg_in (lv := [some (.inr (.inr (some (1000200 + s))))]) eg_tj4 (Nat.le_refl _) rfl ?_
  refine eg_k_gets (v := .inl 1) rfl rfl ?_
  refine eg_k_if rfl (fun z => by cases z) (fun _ => ?_)
  refine eg_k_aload rfl rfl ?_
  refine eg_k_getx rfl (es_sf hs).2.1 ?_
  refine eg_k_goto rfl ?_
  exact eg_k_iret rfl ⟨by decide, by decide⟩ (Nat.le_refl _) (Nat.le_refl _) hQ
theorem es_6 (hs : s < 62) (hQ : Q (some (.inl 1)) (l, r, M)) : eg_wp sc (d + 1) 6 [.inr (.inr (some (1000200 + s)))] (l, r, M) 0 0 Q := by
  refine eg_in (lv := [some (.inr (.inr (some (1000200 + s))))]) eg_tj6 (Nat.le_refl _) rfl ?_
  refine eg_k_gets (v := .inl 1) rfl rfl ?_
  refine eg_k_if rfl (fun z => by cases z) (fun _ => ?_)
  refine eg_k_aload rfl rfl ?_
  refine eg_k_getx rfl (es_sf hs).2.1 ?_
  refine eg_k_if rfl (fun z => absurd rfl z) (fun _ => ?_)
  refine eg_k_ci rfl ?_
  refine eg_k_goto rfl ?_
  exact eg_k_iret rfl (Or.inr rfl) (Nat.le_refl _) (Nat.le_refl _) hQ
theorem es_shr (x : Int) (h : -2147483648 ≤ x ∧ x < 2147483648) : (Int32.ofInt x >>> (Int32.ofInt 0 &&& 31)).toInt = x := by
  have e : (Int32.ofInt 0 &&& 31 : Int32) = 0 := by decide
  rw [e, Int32.shiftRight_zero, eg_t32c h]
theorem es_len {s : Nat} (hs : s < 62) : (eg_str.getD s []).length < 2147483648 := eg_dd (eg_an2 (List.all_eq_true.mp eg_str_rg s (List.mem_range.mpr hs))).1
/-- String.length() -/
theorem es_3 (hl : l.length < 1000000) (hs : s < 62) (hQ : Q (some (.inl ((eg_str.getD s []).length : Nat))) (l, r, M)) : eg_wp sc (d + 2) 3 [.inr (.inr (some (1000200 + s)))] (l, r, M) 0 0 Q := by
  refine eg_in (lv := [some (.inr (.inr (some (1000200 + s))))]) eg_tj3 (Nat.le_refl _) rfl ?_
  refine eg_k_aload rfl rfl ?_
  refine eg_k_getx rfl (es_sf hs).1 ?_
  refine eg_k_tlen rfl (es_no hl (by omega)) (es_sa hs) ?_
  refine eg_k_aload rfl rfl ?_
  refine eg_k_call (c1 := 0) (z1 := 0) (as := [.inr (.inr (some (1000200 + s)))]) (rest := [.inl ((eg_str.getD s []).length : Nat)]) rfl eg_tj4 (Nat.le_of_ble_eq_true rfl) rfl rfl (es_rc hl hs) (Nat.le_of_ble_eq_true rfl) (Nat.le_refl _) (Nat.le_refl _) ?_ (fun Q hQ => es_4 hs hQ)
  refine eg_k_ishr rfl ?_
  rw [es_shr _ ⟨by omega, by have := es_len hs; omega⟩]
  exact eg_k_iret rfl True.intro (Nat.le_refl _) (Nat.le_refl _) hQ
theorem es_9 {i n : Int} (h0 : 0 ≤ i) (h1 : i < n) (hQ : Q (some (.inl i)) (l, r, M)) : eg_wp sc (d + 1) 9 [.inl i, .inl n, .inr (.inr none)] (l, r, M) 0 0 Q := by
  refine eg_in (lv := [some (.inl i), some (.inl n), some (.inr (.inr none))]) eg_tj9 (Nat.le_refl _) rfl ?_
  refine eg_k_iload rfl rfl ?_
  refine eg_k_if rfl (fun z => by have z2 : i < 0 := z; omega) (fun _ => ?_)
  refine eg_k_iload rfl rfl ?_
  refine eg_k_iload rfl rfl ?_
  refine eg_k_icmp rfl (fun _ => ?_) (fun z => absurd h1 z)
  refine eg_k_iload rfl rfl ?_
  exact eg_k_iret rfl True.intro (Nat.le_refl _) (Nat.le_refl _) hQ
theorem es_8 {i n : Int} (h0 : 0 ≤ i) (h1 : i < n) (hQ : Q none (l, r, M)) : eg_wp sc (d + 2) 8 [.inl i, .inl n] (l, r, M) 0 0 Q := by
  refine eg_in (lv := [some (.inl i), some (.inl n)]) eg_tj8 (Nat.le_refl _) rfl ?_
  refine eg_k_iload rfl rfl ?_
  refine eg_k_iload rfl rfl ?_
  refine eg_k_gets (v := .inr (.inr none)) rfl rfl ?_
  refine eg_k_call (c1 := 0) (z1 := 0) (as := [.inl i, .inl n, .inr (.inr none)]) (rest := []) rfl eg_tj9 (Nat.le_of_ble_eq_true rfl) rfl rfl True.intro (Nat.le_of_ble_eq_true rfl) (Nat.le_refl _) (Nat.le_refl _) ?_ (fun Q hQ => es_9 h0 h1 hQ)
  refine eg_k_popi rfl ?_
  exact eg_k_ret rfl rfl (Nat.le_refl _) (Nat.le_refl _) hQ
theorem es_chr : ∀ b, b < 128 → (Int32.ofInt ((b : Nat) : Int) &&& Int32.ofInt 255).toInt % 65536 = (b : Int) := by decide +kernel
set_option maxRecDepth 100000 in
theorem es_asc : (List.range 62).all (fun s => (eg_str.getD s []).all (fun x => decide (0 ≤ x ∧ x < 128))) = true := by decide +kernel
theorem es_b {s : Nat} (hs : s < 62) (j : Nat) : 0 ≤ (eg_str.getD s []).getD j 0 ∧ (eg_str.getD s []).getD j 0 < 128 := eg_gd0 (P := fun x => 0 ≤ x ∧ x < 128) (fun x hx => eg_dd (List.all_eq_true.mp (List.all_eq_true.mp es_asc s (List.mem_range.mpr hs)) x hx)) ⟨by decide, by decide⟩ j
theorem es_7 {i : Int} (hl : l.length < 1000000) (hs : s < 62) (h0 : 0 ≤ i) (h1 : i < ((eg_str.getD s []).length : Nat)) (hQ : Q (some (.inl ((eg_str.getD s []).getD i.toNat 0))) (l, r, M)) : eg_wp sc (d + 3) 7 [.inr (.inr (some (1000300 + s))), .inl i] (l, r, M) 0 0 Q := by
  refine eg_in (lv := [some (.inr (.inr (some (1000300 + s)))), some (.inl i)]) eg_tj7 (Nat.le_refl _) rfl ?_
  refine eg_k_iload rfl rfl ?_
  refine eg_k_aload rfl rfl ?_
  refine eg_k_tlen rfl (es_no hl (by omega)) (es_sa hs) ?_
  refine eg_k_call (c1 := 0) (z1 := 0) (as := [.inl i, .inl ((eg_str.getD s []).length : Nat)]) (rest := []) rfl eg_tj8 (Nat.le_of_ble_eq_true rfl) rfl rfl True.intro (Nat.le_of_ble_eq_true rfl) (Nat.le_refl _) (Nat.le_refl _) ?_ (fun Q hQ => es_8 h0 h1 hQ)
  refine eg_k_aload rfl rfl ?_
  refine eg_k_iload rfl rfl ?_
  refine eg_k_tbald rfl (es_no hl (by omega)) (es_sa hs) h0 h1 ?_
  refine eg_k_ci rfl ?_
  refine eg_k_iand rfl ?_
  refine eg_k_i2c rfl ?_
  have hb := es_b hs i.toNat
  obtain ⟨b, hb2⟩ : ∃ b : Nat, (eg_str.getD s []).getD i.toNat 0 = (b : Int) := ⟨((eg_str.getD s []).getD i.toNat 0).toNat, by omega⟩
  rw [hb2, es_chr b (by omega)]
  rw [hb2] at hQ
  exact eg_k_iret rfl ⟨by omega, by omega⟩ (Nat.le_refl _) (Nat.le_refl _) hQ
/-- String.charAt(i) -/
theorem es_5 {i : Int} (hl : l.length < 1000000) (hs : s < 62) (h0 : 0 ≤ i) (h1 : i < ((eg_str.getD s []).length : Nat)) (hQ : Q (some (.inl ((eg_str.getD s []).getD i.toNat 0))) (l, r, M)) : eg_wp sc (d + 4) 5 [.inr (.inr (some (1000200 + s))), .inl i] (l, r, M) 0 0 Q := by
  refine eg_in (lv := [some (.inr (.inr (some (1000200 + s)))), some (.inl i)]) eg_tj5 (Nat.le_refl _) rfl ?_
  refine eg_k_aload rfl rfl ?_
  refine eg_k_call (c1 := 0) (z1 := 0) (as := [.inr (.inr (some (1000200 + s)))]) (rest := []) rfl eg_tj6 (Nat.le_of_ble_eq_true rfl) rfl rfl (es_rc hl hs) (Nat.le_of_ble_eq_true rfl) (Nat.le_refl _) (Nat.le_refl _) ?_ (fun Q hQ => es_6 hs hQ)
  refine eg_k_if rfl (fun z => by cases z) (fun _ => ?_)
  refine eg_k_aload rfl rfl ?_
  refine eg_k_getx rfl (es_sf hs).1 ?_
  refine eg_k_iload rfl rfl ?_
  refine eg_k_call (c1 := 0) (z1 := 0) (as := [.inr (.inr (some (1000300 + s))), .inl i]) (rest := []) rfl eg_tj7 (Nat.le_of_ble_eq_true rfl) rfl rfl True.intro (Nat.le_of_ble_eq_true rfl) (Nat.le_refl _) (Nat.le_refl _) ?_ (fun Q hQ => es_7 hl hs h0 h1 hQ)
  have hb := es_b hs i.toNat
  exact eg_k_iret rfl ⟨by omega, by omega⟩ (Nat.le_refl _) (Nat.le_refl _) hQ
/-- a row filled from place i on -/
def eg_fil (M : Nat → Nat → Int) (a i n : Nat) (v : Int) : Nat → Nat → Int := fun b j => if b = a ∧ i ≤ j ∧ j < n then v else M b j
theorem eg_fil_step {a i n : Nat} {v : Int} (hi : i < n) : eg_fil (eg_u M a i v) a (i + 1) n v = eg_fil M a i n v := by
  funext b j
  unfold eg_fil eg_u
  by_cases hb : b = a
  · subst hb
    by_cases hj : j = i
    · subst hj
      rw [if_neg (by omega), if_pos ⟨rfl, rfl⟩, if_pos ⟨rfl, Nat.le_refl _, hi⟩]
    · by_cases hc : i + 1 ≤ j ∧ j < n
      · rw [if_pos ⟨rfl, hc⟩, if_pos ⟨rfl, by omega, hc.2⟩]
      · rw [if_neg (fun z => hc z.2), if_neg (fun z => hj z.2), if_neg (fun z => hc ⟨by omega, z.2.2⟩)]
  · rw [if_neg (fun z => hb z.1), if_neg (fun z => hb z.1), if_neg (fun z => hb z.1)]
theorem eg_fil_end {a n : Nat} {v : Int} : eg_fil M a n n v = M := by
  funext b j
  unfold eg_fil
  rw [if_neg (by omega)]
end ESS
