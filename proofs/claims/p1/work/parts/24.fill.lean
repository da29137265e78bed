/-! FILLING, and the class's names -/
section EFI
variable {sc : eg_Sc} {d : Nat} {l : List eg_C} {r : Nat → Nat → Option Nat} {M : Nat → Nat → Int} {Q : Option eg_V → eg_H → Prop}
theorem eg_wb_id {x : Int} (h : -128 ≤ x) (h2 : x < 128) : eg_wb x = x := by unfold eg_wb; omega
theorem eg_wi_1 {i : Nat} (h : i < 2147483647) : eg_wi ((i : Int) + 1) = ((i + 1 : Nat) : Int) := by unfold eg_wi; omega
/-- Arrays.fill, method 22 -/
theorem ef_22 {a n : Nat} {v : Int} (ha : l[a]? = some (.inl (.long, n))) (hn : n < 2147483647) (hQ : Q none (l, r, eg_fil M a 0 n v)) : eg_wp sc (d + 1) 22 [.inr (.inr (some a)), .inr (.inl v)] (l, r, M) 0 0 Q := by
  refine eg_in (lv := [some (.inr (.inr (some a))), some (.inr (.inl v)), none, none, none]) eg_tj22 (Nat.le_of_ble_eq_true rfl) rfl ?_
  refine eg_k_ci rfl ?_
  refine eg_k_istore (lv' := [some (.inr (.inr (some a))), some (.inr (.inl v)), none, some (.inl 0), none]) rfl rfl ?_
  refine eg_k_aload rfl rfl ?_
  refine eg_k_alen rfl ha ?_
  refine eg_k_istore (lv' := [some (.inr (.inr (some a))), some (.inr (.inl v)), none, some (.inl 0), some (.inl (n : Nat))]) rfl rfl ?_
  have loop : ∀ (k i : Nat) (M : Nat → Nat → Int), i + k = n → Q none (l, r, eg_fil M a i n v) → eg_X sc (eg_wp sc d) eg_p22 none 0 0 Q 5 [some (.inr (.inr (some a))), some (.inr (.inl v)), none, some (.inl (i : Nat)), some (.inl (n : Nat))] [] (l, r, M) 0 0 := by
    intro k
    induction k with
    | zero =>
      intro i M hi hQ
      have hin : i = n := by omega
      subst hin
      rw [eg_fil_end] at hQ
      refine eg_k_iload rfl rfl ?_
      refine eg_k_iload rfl rfl ?_
      refine eg_k_icmp rfl (fun _ => ?_) (fun z => absurd (Int.le_refl _) z)
      exact eg_k_ret rfl rfl (Nat.le_refl _) (Nat.le_refl _) hQ
    | succ k ih =>
      intro i M hi hQ
      refine eg_k_iload rfl rfl ?_
      refine eg_k_iload rfl rfl ?_
      refine eg_k_icmp rfl (fun z => by have z2 : (n : Int) ≤ (i : Int) := z; omega) (fun _ => ?_)
      refine eg_k_aload rfl rfl ?_
      refine eg_k_iload rfl rfl ?_
      refine eg_k_lload rfl rfl ?_
      refine eg_k_last rfl ha (by omega) (by omega) ?_
      refine eg_k_iinc (lv' := [some (.inr (.inr (some a))), some (.inr (.inl v)), none, some (.inl (i + 1 : Nat)), some (.inl (n : Nat))]) rfl rfl (by rw [eg_wi_1 (by omega)]; rfl) ?_
      refine eg_k_goto rfl ?_
      exact ih (i + 1) _ (by omega) (by rw [show ((i : Nat) : Int).toNat = i by omega, eg_fil_step (by omega)]; exact hQ)
  exact loop n 0 M (by omega) hQ
/-- Arrays.fill, method 55 -/
theorem ef_55 {a n : Nat} {v : Int} (ha : l[a]? = some (.inl (.int, n))) (hn : n < 2147483647) (hQ : Q none (l, r, eg_fil M a 0 n v)) : eg_wp sc (d + 1) 55 [.inr (.inr (some a)), .inl v] (l, r, M) 0 0 Q := by
  refine eg_in (lv := [some (.inr (.inr (some a))), some (.inl v), none, none]) eg_tj55 (Nat.le_of_ble_eq_true rfl) rfl ?_
  refine eg_k_ci rfl ?_
  refine eg_k_istore (lv' := [some (.inr (.inr (some a))), some (.inl v), some (.inl 0), none]) rfl rfl ?_
  refine eg_k_aload rfl rfl ?_
  refine eg_k_alen rfl ha ?_
  refine eg_k_istore (lv' := [some (.inr (.inr (some a))), some (.inl v), some (.inl 0), some (.inl (n : Nat))]) rfl rfl ?_
  have loop : ∀ (k i : Nat) (M : Nat → Nat → Int), i + k = n → Q none (l, r, eg_fil M a i n v) → eg_X sc (eg_wp sc d) eg_p55 none 0 0 Q 5 [some (.inr (.inr (some a))), some (.inl v), some (.inl (i : Nat)), some (.inl (n : Nat))] [] (l, r, M) 0 0 := by
    intro k
    induction k with
    | zero =>
      intro i M hi hQ
      have hin : i = n := by omega
      subst hin
      rw [eg_fil_end] at hQ
      refine eg_k_iload rfl rfl ?_
      refine eg_k_iload rfl rfl ?_
      refine eg_k_icmp rfl (fun _ => ?_) (fun z => absurd (Int.le_refl _) z)
      exact eg_k_ret rfl rfl (Nat.le_refl _) (Nat.le_refl _) hQ
    | succ k ih =>
      intro i M hi hQ
      refine eg_k_iload rfl rfl ?_
      refine eg_k_iload rfl rfl ?_
      refine eg_k_icmp rfl (fun z => by have z2 : (n : Int) ≤ (i : Int) := z; omega) (fun _ => ?_)
      refine eg_k_aload rfl rfl ?_
      refine eg_k_iload rfl rfl ?_
      refine eg_k_iload rfl rfl ?_
      refine eg_k_iast rfl ha (by omega) (by omega) ?_
      refine eg_k_iinc (lv' := [some (.inr (.inr (some a))), some (.inl v), some (.inl (i + 1 : Nat)), some (.inl (n : Nat))]) rfl rfl (by rw [eg_wi_1 (by omega)]; rfl) ?_
      refine eg_k_goto rfl ?_
      exact ih (i + 1) _ (by omega) (by rw [show ((i : Nat) : Int).toNat = i by omega, eg_fil_step (by omega)]; exact hQ)
  exact loop n 0 M (by omega) hQ
/-- Arrays.fill, method 134 -/
theorem ef_134 {a n : Nat} {v : Int} (ha : l[a]? = some (.inl (.byte, n))) (hn : n < 2147483647) (hQ : Q none (l, r, eg_fil M a 0 n (eg_wb v))) : eg_wp sc (d + 1) 134 [.inr (.inr (some a)), .inl v] (l, r, M) 0 0 Q := by
  refine eg_in (lv := [some (.inr (.inr (some a))), some (.inl v), none, none]) eg_tj134 (Nat.le_of_ble_eq_true rfl) rfl ?_
  refine eg_k_ci rfl ?_
  refine eg_k_istore (lv' := [some (.inr (.inr (some a))), some (.inl v), some (.inl 0), none]) rfl rfl ?_
  refine eg_k_aload rfl rfl ?_
  refine eg_k_alen rfl ha ?_
  refine eg_k_istore (lv' := [some (.inr (.inr (some a))), some (.inl v), some (.inl 0), some (.inl (n : Nat))]) rfl rfl ?_
  have loop : ∀ (k i : Nat) (M : Nat → Nat → Int), i + k = n → Q none (l, r, eg_fil M a i n (eg_wb v)) → eg_X sc (eg_wp sc d) eg_p134 none 0 0 Q 5 [some (.inr (.inr (some a))), some (.inl v), some (.inl (i : Nat)), some (.inl (n : Nat))] [] (l, r, M) 0 0 := by
    intro k
    induction k with
    | zero =>
      intro i M hi hQ
      have hin : i = n := by omega
      subst hin
      rw [eg_fil_end] at hQ
      refine eg_k_iload rfl rfl ?_
      refine eg_k_iload rfl rfl ?_
      refine eg_k_icmp rfl (fun _ => ?_) (fun z => absurd (Int.le_refl _) z)
      exact eg_k_ret rfl rfl (Nat.le_refl _) (Nat.le_refl _) hQ
    | succ k ih =>
      intro i M hi hQ
      refine eg_k_iload rfl rfl ?_
      refine eg_k_iload rfl rfl ?_
      refine eg_k_icmp rfl (fun z => by have z2 : (n : Int) ≤ (i : Int) := z; omega) (fun _ => ?_)
      refine eg_k_aload rfl rfl ?_
      refine eg_k_iload rfl rfl ?_
      refine eg_k_iload rfl rfl ?_
      refine eg_k_bast rfl ha (by omega) (by omega) ?_
      refine eg_k_iinc (lv' := [some (.inr (.inr (some a))), some (.inl v), some (.inl (i + 1 : Nat)), some (.inl (n : Nat))]) rfl rfl (by rw [eg_wi_1 (by omega)]; rfl) ?_
      refine eg_k_goto rfl ?_
      exact ih (i + 1) _ (by omega) (by rw [show ((i : Nat) : Int).toNat = i by omega, eg_fil_step (by omega)]; exact hQ)
  exact loop n 0 M (by omega) hQ
/-- a row with n numbers laid from place D on -/
def eg_lay9 (M : Nat → Nat → Int) (a D : Nat) (f : Nat → Int) (n : Nat) : Nat → Nat → Int := fun b j => if b = a ∧ D ≤ j ∧ j < D + n then f (j - D) else M b j
theorem eg_lay9_0 {a D : Nat} {f : Nat → Int} : eg_lay9 M a D f 0 = M := by
  funext b j
  unfold eg_lay9
  rw [if_neg (by omega)]
theorem eg_lay9_step {a D n : Nat} {f : Nat → Int} : eg_u (eg_lay9 M a D f n) a (D + n) (f n) = eg_lay9 M a D f (n + 1) := by
  funext b j
  unfold eg_u eg_lay9
  by_cases hb : b = a
  · subst hb
    by_cases hj : j = D + n
    · subst hj
      rw [if_pos ⟨rfl, rfl⟩, if_pos ⟨rfl, by omega, by omega⟩, show D + n - D = n by omega]
    · by_cases hc : D ≤ j ∧ j < D + n
      · rw [if_neg (fun z => hj z.2), if_pos ⟨rfl, hc⟩, if_pos ⟨rfl, hc.1, by omega⟩]
      · rw [if_neg (fun z => hj z.2), if_neg (fun z => hc z.2), if_neg (fun z => hc ⟨z.2.1, by omega⟩)]
  · rw [if_neg (fun z => hb z.1), if_neg (fun z => hb z.1), if_neg (fun z => hb z.1)]
/-- Source.know: the memory behind it -/
def ek_kn (M : Nat → Nat → Int) (s fr to : Nat) : Nat → Nat → Int := eg_u (eg_u (eg_lay9 M 2 ((M 1 2).toNat * 20) (fun j => (eg_str.getD s []).getD (fr + j) 0) (to - fr)) 3 (M 1 2).toNat ((to - fr : Nat) : Int)) 1 2 (M 1 2 + 1)
theorem ek_14 {s fr to : Nat} (hl : l.length < 1000000) (h1 : l[1]? = some (.inr 1)) (h2 : l[2]? = some (.inl (.byte, 8880))) (h3 : l[3]? = some (.inl (.int, 444))) (r0 : r 1 0 = some 2) (r1 : r 1 1 = some 3) (hs : s < 62) (hft : fr ≤ to) (hto : to ≤ (eg_str.getD s []).length) (hlen : (eg_str.getD s []).length < 400) (hm0 : 0 ≤ M 1 2) (hm1 : M 1 2 ≤ 400) (hQ : Q none (l, r, ek_kn M s fr to)) : eg_wp sc (d + 5) 14 [.inr (.inr (some 1)), .inr (.inr (some (1000200 + s))), .inl (fr : Nat), .inl (to : Nat)] (l, r, M) 0 0 Q := by
  obtain ⟨nm, hnm⟩ : ∃ nm : Nat, M 1 2 = (nm : Int) := ⟨(M 1 2).toNat, by omega⟩
  refine eg_in (lv := [some (.inr (.inr (some 1))), some (.inr (.inr (some (1000200 + s)))), some (.inl (fr : Nat)), some (.inl (to : Nat)), none]) eg_tj14 (Nat.le_of_ble_eq_true rfl) rfl ?_
  refine eg_k_iload rfl rfl ?_
  refine eg_k_istore (lv' := [some (.inr (.inr (some 1))), some (.inr (.inr (some (1000200 + s)))), some (.inl (fr : Nat)), some (.inl (to : Nat)), some (.inl (fr + 0 : Nat))]) rfl rfl ?_
  have loop : ∀ (k i : Nat), i + k = to - fr → eg_X sc (eg_wp sc (d + 4)) eg_p14 none 0 0 Q 2 [some (.inr (.inr (some 1))), some (.inr (.inr (some (1000200 + s)))), some (.inl (fr : Nat)), some (.inl (to : Nat)), some (.inl (fr + i : Nat))] [] (l, r, eg_lay9 M 2 (nm * 20) (fun j => (eg_str.getD s []).getD (fr + j) 0) i) 0 0 := by
    intro k
    induction k with
    | zero =>
      intro i hi
      have hin : i = to - fr := by omega
      subst hin
      have hM : eg_lay9 M 2 (nm * 20) (fun j => (eg_str.getD s []).getD (fr + j) 0) (to - fr) 1 2 = (nm : Int) := by unfold eg_lay9; rw [if_neg (by omega)]; exact hnm
      refine eg_k_iload rfl rfl ?_
      refine eg_k_iload rfl rfl ?_
      refine eg_k_icmp rfl (fun _ => ?_) (fun z => absurd (show (to : Int) ≤ ((fr + (to - fr) : Nat) : Int) by omega) z)
      refine eg_k_aload rfl rfl ?_
      refine eg_k_gfa (b := 3) rfl h1 rfl r1 ?_
      refine eg_k_aload rfl rfl ?_
      refine eg_k_gfie (x := (nm : Int)) rfl h1 rfl hM ?_
      refine eg_k_iload rfl rfl ?_
      refine eg_k_iload rfl rfl ?_
      refine eg_k_isub rfl ?_
      rw [show eg_wi ((to : Int) - (fr : Int)) = ((to - fr : Nat) : Int) by unfold eg_wi; omega]
      refine eg_k_iast rfl h3 (by omega) (by omega) ?_
      refine eg_k_aload rfl rfl ?_
      refine eg_k_dupr rfl ?_
      refine eg_k_gfie (x := (nm : Int)) rfl h1 rfl (by rw [show (1002 % 1000 : Nat) = 2 from rfl, eg_u_ne (by decide)]; exact hM) ?_
      refine eg_k_ci rfl ?_
      refine eg_k_iadd rfl ?_
      rw [show eg_wi ((nm : Int) + 1) = (nm : Int) + 1 by unfold eg_wi; omega]
      refine eg_k_pfi rfl h1 rfl ?_
      refine eg_k_ret rfl rfl (Nat.le_refl _) (Nat.le_refl _) ?_
      unfold ek_kn at hQ
      rw [hnm] at hQ
      exact hQ
    | succ k ih =>
      intro i hi
      have hM : eg_lay9 M 2 (nm * 20) (fun j => (eg_str.getD s []).getD (fr + j) 0) i 1 2 = (nm : Int) := by unfold eg_lay9; rw [if_neg (by omega)]; exact hnm
      have hb := es_b hs (fr + i)
      refine eg_k_iload rfl rfl ?_
      refine eg_k_iload rfl rfl ?_
      refine eg_k_icmp rfl (fun z => by have z2 : (to : Int) ≤ ((fr + i : Nat) : Int) := z; omega) (fun _ => ?_)
      refine eg_k_aload rfl rfl ?_
      refine eg_k_gfa (b := 2) rfl h1 rfl r0 ?_
      refine eg_k_aload rfl rfl ?_
      refine eg_k_gfie (x := (nm : Int)) rfl h1 rfl hM ?_
      refine eg_k_ci rfl ?_
      refine eg_k_imul rfl ?_
      refine eg_k_iload rfl rfl ?_
      refine eg_k_iadd rfl ?_
      refine eg_k_iload rfl rfl ?_
      refine eg_k_isub rfl ?_
      have hnm4 : nm ≤ 400 := by omega
      have hfi : fr + i < 400 := by omega
      rw [show eg_wi ((nm : Int) * 20) = (nm : Int) * 20 from eg_wi_id (by omega) (by omega), show eg_wi ((nm : Int) * 20 + ((fr + i : Nat) : Int)) = (nm : Int) * 20 + ((fr + i : Nat) : Int) from eg_wi_id (by omega) (by omega), show eg_wi ((nm : Int) * 20 + ((fr + i : Nat) : Int) - (fr : Int)) = ((nm * 20 + i : Nat) : Int) from (eg_wi_id (by omega) (by omega)).trans (by omega)]
      refine eg_k_aload rfl rfl ?_
      refine eg_k_iload rfl rfl ?_
      refine eg_k_call (c1 := 0) (z1 := 0) (as := [.inr (.inr (some (1000200 + s))), .inl (fr + i : Nat)]) (rest := [.inl (nm * 20 + i : Nat), .inr (.inr (some 2))]) rfl eg_tj5 (Nat.le_of_ble_eq_true rfl) rfl rfl (es_rc hl hs) (Nat.le_of_ble_eq_true rfl) (Nat.le_refl _) (Nat.le_refl _) ?_ (fun Q hQ => es_5 hl hs (by omega) (by omega) hQ)
      rw [show (((fr + i : Nat) : Int)).toNat = fr + i by omega]
      refine eg_k_i2b rfl ?_
      refine eg_k_bast rfl h2 (by omega) (by omega) ?_
      rw [show (((nm * 20 + i : Nat) : Int)).toNat = nm * 20 + i by omega, show eg_wb (eg_wb ((eg_str.getD s []).getD (fr + i) 0)) = (fun j => (eg_str.getD s []).getD (fr + j) 0) i from (congrArg eg_wb (eg_wb_id (by omega) (by omega))).trans (eg_wb_id (by omega) (by omega)), eg_lay9_step]
      refine eg_k_iinc (lv' := [some (.inr (.inr (some 1))), some (.inr (.inr (some (1000200 + s)))), some (.inl (fr : Nat)), some (.inl (to : Nat)), some (.inl (fr + (i + 1) : Nat))]) rfl rfl (by rw [eg_wi_1 (by omega)]; rfl) ?_
      refine eg_k_goto rfl ?_
      exact ih (i + 1) (by omega)
  have h9 := loop (to - fr) 0 (by omega)
  rw [eg_lay9_0] at h9
  exact h9
end EFI
