/-! THE LAW, ITS BEGINNING -/
def el_c (sc : eg_Sc) : Int := if 0 < sc.1 then sc.2 0 else 0
set_option maxRecDepth 100000 in
theorem el_start {sc : eg_Sc} {Q : Option eg_V → eg_H → Prop} {cn mo : Nat} (hcn : cn = ec_cn (el_c sc)) (hmo : mo = cn / 3 + 1) (hk : ∀ c9 z9 : Nat, c9 ≤ 500 → z9 ≤ 2400000 → eg_X sc (eg_wp sc 1000) eg_p250 (some .boolean) 600000 7302250 Q 16 [some (.inr (.inr (some 1000000))), some (.inr (.inr (some 0))), some (.inr (.inr (some 45))), some (.inl ((1 : Nat) : Int))] [] (em_L cn mo, eh_R, eh_M0 cn mo) c9 z9) : eg_X sc (eg_wp sc 1000) eg_p250 (some .boolean) 600000 7302250 Q 0 [some (.inr (.inr (some 1000000))), none, none, none] [] ([], fun _ _ => none, fun _ _ => 0) 0 0 := by
  subst hmo
  subst hcn
  refine eg_k_new (a := 0) (l' := [.inr 0]) (c' := 1) (z' := 10) rfl rfl rfl (by decide) rfl rfl (by decide) (by decide) ?_
  refine eg_k_dupr rfl ?_
  refine eg_k_aload rfl rfl ?_
  refine eg_k_ci rfl ?_
  refine eg_k_call (c1 := 0) (z1 := 0) (as := [.inr (.inr (some 1000000)), .inl 0]) (rest := [.inr (.inr (some 0)), .inr (.inr (some 0))]) (r9 := some (.inl (el_c sc))) rfl eg_tj152 (Nat.le_of_ble_eq_true rfl) rfl rfl trivial (Nat.le_of_ble_eq_true rfl) (Nat.le_of_ble_eq_true rfl) (Nat.le_of_ble_eq_true rfl) ?_ (fun Q hQ => eh_152 (d := 999) (Nat.le_of_ble_eq_true rfl) hQ)
  refine eg_k_call (c1 := 300) (z1 := 2000000) (as := [.inr (.inr (some 0)), .inl (el_c sc)]) (rest := [.inr (.inr (some 0))]) (r9 := none) rfl eg_tj0 (Nat.le_of_ble_eq_true rfl) rfl rfl True.intro (Nat.le_of_ble_eq_true rfl) (Nat.le_of_ble_eq_true rfl) (Nat.le_of_ble_eq_true rfl) ?_ (fun Q hQ => ec_0 (d := 993) hQ)
  refine eg_k_astore (lv' := [some (.inr (.inr (some 1000000))), some (.inr (.inr (some 0))), none, none]) rfl rfl ?_
  refine eg_k_new (a := 45) (l' := ec_L (ec_cn (el_c sc)) (ec_cn (el_c sc) / 3 + 1) ++ [.inr 11]) (c' := 302) (z' := 2000086) rfl rfl rfl (by decide) rfl rfl (by decide) (by decide) ?_
  refine eg_k_dupr rfl ?_
  refine eg_k_aload rfl rfl ?_
  refine eg_k_ci rfl ?_
  refine eg_k_call (c1 := 0) (z1 := 0) (as := [.inr (.inr (some 1000000)), .inl 0]) (rest := [.inr (.inr (some 45)), .inr (.inr (some 45))]) (r9 := some (.inl (el_c sc))) rfl eg_tj152 (Nat.le_of_ble_eq_true rfl) rfl rfl trivial (Nat.le_of_ble_eq_true rfl) (Nat.le_of_ble_eq_true rfl) (Nat.le_of_ble_eq_true rfl) ?_ (fun Q hQ => eh_152 (d := 999) (Nat.le_of_ble_eq_true rfl) hQ)
  refine eg_k_call (c1 := 42) (z1 := 333676) (as := [.inr (.inr (some 45)), .inl (el_c sc)]) (rest := [.inr (.inr (some 45))]) (r9 := none) rfl eg_tj153 (Nat.le_of_ble_eq_true rfl) rfl rfl True.intro (Nat.le_of_ble_eq_true rfl) (Nat.le_of_ble_eq_true rfl) (Nat.le_of_ble_eq_true rfl) ?_ (fun Q hQ => em_153 (d := 995) rfl hQ)
  refine eg_k_astore (lv' := [some (.inr (.inr (some 1000000))), some (.inr (.inr (some 0))), some (.inr (.inr (some 45))), none]) rfl rfl ?_
  refine eg_k_ci rfl ?_
  refine eg_k_istore (lv' := [some (.inr (.inr (some 1000000))), some (.inr (.inr (some 0))), some (.inr (.inr (some 45))), some (.inl ((1 : Nat) : Int))]) rfl rfl ?_
  exact hk _ _ (Nat.le_of_ble_eq_true rfl) (Nat.le_of_ble_eq_true rfl)
/-- an int of the script, laid on the stack -/
theorem el_arg {sc : eg_Sc} {call : eg_Ca} {mc ms : Nat} {Q : Option eg_V → eg_H → Prop} {l : List eg_C} {r : Nat → Nat → Option Nat} {M : Nat → Nat → Int} {c z : Nat} {st : List eg_V} {x1 x2 : Option eg_V} {i k p p0 p1 p2 p3 p4 : Nat} (hl : l.length < 1000000) (hi : i + k < sc.1) (hs : sc.1 ≤ 3073) (q0 : eg_p250[p]? = some (p0, .aload 0)) (q1 : eg_p250[p + 1]? = some (p1, .iload 3)) (q2 : eg_p250[p + 1 + 1]? = some (p2, .sipush (k : Int))) (q3 : eg_p250[p + 1 + 1 + 1]? = some (p3, .iadd)) (q4 : eg_p250[p + 1 + 1 + 1 + 1]? = some (p4, .iaload)) (hk : eg_X sc call eg_p250 (some .boolean) mc ms Q (p + 1 + 1 + 1 + 1 + 1) [some (.inr (.inr (some 1000000))), x1, x2, some (.inl (i : Nat))] (.inl (sc.2 (i + k)) :: st) (l, r, M) c z) : eg_X sc call eg_p250 (some .boolean) mc ms Q p [some (.inr (.inr (some 1000000))), x1, x2, some (.inl (i : Nat))] st (l, r, M) c z := by
  refine eg_k_aload q0 rfl ?_
  refine eg_k_iload q1 rfl ?_
  refine eg_k_ci q2 ?_
  refine eg_k_iadd q3 ?_
  rw [show eg_wi (((i : Nat) : Int) + (k : Int)) = ((i + k : Nat) : Int) from (eg_wi_id (by omega) (by omega)).trans (by omega)]
  refine eg_k_tiald (k := sc.1) (f9 := fun j => .inl (sc.2 j)) q4 (es_no hl (by decide)) rfl (by omega) (by omega) ?_
  rw [show ((i + k : Nat) : Int).toNat = i + k by omega]
  exact hk
/-- one call on both sides: the same answer, and P of the memory behind -/
def el_pi (sc : eg_Sc) (cn mo j1 j2 : Nat) (as : List eg_V) (M : Nat → Nat → Int) (P : (Nat → Nat → Int) → Prop) : Prop := ∃ (v : Int) (M1 M2 : Nat → Nat → Int), (∀ Q : Option eg_V → eg_H → Prop, Q (some (.inl v)) (em_L cn mo, eh_R, M1) → eg_wp sc 1000 j1 (.inr (.inr (some 0)) :: as) (em_L cn mo, eh_R, M) 0 0 Q) ∧ (∀ Q : Option eg_V → eg_H → Prop, Q (some (.inl v)) (em_L cn mo, eh_R, M2) → eg_wp sc 1000 j2 (.inr (.inr (some 45)) :: as) (em_L cn mo, eh_R, M1) 0 0 Q) ∧ P M2
def el_pl (sc : eg_Sc) (cn mo j1 j2 : Nat) (as : List eg_V) (M : Nat → Nat → Int) (P : (Nat → Nat → Int) → Prop) : Prop := ∃ (v : Int) (M1 M2 : Nat → Nat → Int), (∀ Q : Option eg_V → eg_H → Prop, Q (some (.inr (.inl v))) (em_L cn mo, eh_R, M1) → eg_wp sc 1000 j1 (.inr (.inr (some 0)) :: as) (em_L cn mo, eh_R, M) 0 0 Q) ∧ (∀ Q : Option eg_V → eg_H → Prop, Q (some (.inr (.inl v))) (em_L cn mo, eh_R, M2) → eg_wp sc 1000 j2 (.inr (.inr (some 45)) :: as) (em_L cn mo, eh_R, M1) 0 0 Q) ∧ P M2
/-- what is owed of the calls -/
def el_ok (sc : eg_Sc) (cn mo k : Nat) (M : Nat → Nat → Int) (P : (Nat → Nat → Int) → Prop) : Prop :=
  el_pi sc cn mo 26 155 [.inl (sc.2 (6 * k + 1 + 1)), .inl (sc.2 (6 * k + 1 + 2)), .inl (sc.2 (6 * k + 1 + 3)), .inl (sc.2 (6 * k + 1 + 4)), .inl (sc.2 (6 * k + 1 + 5))] M P ∧ el_pi sc cn mo 29 157 [.inl (sc.2 (6 * k + 1 + 1)), .inl (sc.2 (6 * k + 1 + 2))] M P ∧ el_pi sc cn mo 148 247 [] M P ∧ el_pl sc cn mo 149 248 [] M P ∧ el_pi sc cn mo 151 249 [.inl (sc.2 (6 * k + 1 + 1))] M P ∧ P M
set_option maxRecDepth 100000 in
theorem el_law {sc : eg_Sc} {cn mo c z : Nat} {Inv : Nat → (Nat → Nat → Int) → Prop} (hc : c ≤ 600000) (hz : z ≤ 7302250) (hL : sc.1 ≤ 3073) (hok : ∀ (k : Nat) (M : Nat → Nat → Int), 6 * k + 7 ≤ sc.1 → Inv k M → el_ok sc cn mo k M (Inv (k + 1))) : ∀ (j k : Nat) (M : Nat → Nat → Int), sc.1 < 6 * (k + j) + 7 → k ≤ 1000 → Inv k M → eg_X sc (eg_wp sc 1000) eg_p250 (some .boolean) 600000 7302250 (fun r _ => r = some (.inl 1)) 16 [some (.inr (.inr (some 1000000))), some (.inr (.inr (some 0))), some (.inr (.inr (some 45))), some (.inl (6 * k + 1 : Nat))] [] (em_L cn mo, eh_R, M) c z := by
  have hl : (em_L cn mo).length < 1000000 := Nat.le_of_ble_eq_true rfl
  intro j
  induction j with
  | zero =>
    intro k M hk hk1 hI
    refine eg_k_iload rfl rfl ?_
    refine eg_k_aload rfl rfl ?_
    refine eg_k_tlen (k := sc.1) rfl (es_no hl (by decide)) rfl ?_
    refine eg_k_ci rfl ?_
    refine eg_k_isub rfl ?_
    rw [show eg_wi (((sc.1 : Nat) : Int) - 6) = ((sc.1 : Nat) : Int) - 6 from eg_wi_id (by omega) (by omega)]
    refine eg_k_icmp rfl (fun _ => ?_) (fun z => absurd (show ((sc.1 : Nat) : Int) - 6 < ((6 * k + 1 : Nat) : Int) by omega) z)
    refine eg_k_ci rfl ?_
    exact eg_k_iret rfl (Or.inr rfl) hc hz rfl
  | succ j ih =>
    intro k M hk hk1 hI
    refine eg_k_iload rfl rfl ?_
    refine eg_k_aload rfl rfl ?_
    refine eg_k_tlen (k := sc.1) rfl (es_no hl (by decide)) rfl ?_
    refine eg_k_ci rfl ?_
    refine eg_k_isub rfl ?_
    rw [show eg_wi (((sc.1 : Nat) : Int) - 6) = ((sc.1 : Nat) : Int) - 6 from eg_wi_id (by omega) (by omega)]
    refine eg_k_icmp rfl (fun _ => ?_) (fun zz => ?_)
    · refine eg_k_ci rfl ?_
      exact eg_k_iret rfl (Or.inr rfl) hc hz rfl
    have z2 : ¬ ((sc.1 : Nat) : Int) - 6 < ((6 * k + 1 : Nat) : Int) := zz
    have h7 : 6 * k + 7 ≤ sc.1 := by omega
    obtain ⟨o0, o1, o2, o3, o4, o5⟩ := hok k M h7 hI
    have nxt : ∀ M2, Inv (k + 1) M2 → eg_X sc (eg_wp sc 1000) eg_p250 (some .boolean) 600000 7302250 (fun r _ => r = some (.inl 1)) 144 [some (.inr (.inr (some 1000000))), some (.inr (.inr (some 0))), some (.inr (.inr (some 45))), some (.inl (6 * k + 1 : Nat))] [] (em_L cn mo, eh_R, M2) c z := by
      intro M2 hI2
      refine eg_k_iinc (lv' := [some (.inr (.inr (some 1000000))), some (.inr (.inr (some 0))), some (.inr (.inr (some 45))), some (.inl (6 * (k + 1) + 1 : Nat))]) rfl rfl (by rw [show eg_wi (((6 * k + 1 : Nat) : Int) + 6) = ((6 * (k + 1) + 1 : Nat) : Int) from (eg_wi_id (by omega) (by omega)).trans (by omega)]; rfl) ?_
      refine eg_k_goto rfl ?_
      exact ih (k + 1) M2 (by omega) (by omega) hI2
    refine eg_k_aload rfl rfl ?_
    refine eg_k_iload rfl rfl ?_
    refine eg_k_tiald (k := sc.1) (f9 := fun j => .inl (sc.2 j)) rfl (es_no hl (by decide)) rfl (by omega) (by omega) ?_
    try dsimp only
    refine eg_k_ci rfl ?_
    refine eg_k_iand rfl ?_
    generalize (Int32.ofInt (sc.2 ((6 * k + 1 : Nat) : Int).toNat) &&& Int32.ofInt 7).toInt = y
    by_cases h0 : y = 0
    · subst h0
      refine eg_k_tsw (t := 28) rfl (by decide +kernel) ?_
      obtain ⟨v, M1, M2, hx, hm, hP⟩ := o0
      refine eg_k_aload rfl rfl ?_
      refine el_arg (k := 1) hl (by omega) hL rfl rfl rfl rfl rfl ?_
      refine el_arg (k := 2) hl (by omega) hL rfl rfl rfl rfl rfl ?_
      refine el_arg (k := 3) hl (by omega) hL rfl rfl rfl rfl rfl ?_
      refine el_arg (k := 4) hl (by omega) hL rfl rfl rfl rfl rfl ?_
      refine el_arg (k := 5) hl (by omega) hL rfl rfl rfl rfl rfl ?_
      refine eg_k_call (c1 := 0) (z1 := 0) (as := [.inr (.inr (some 0)), .inl (sc.2 (6 * k + 1 + 1)), .inl (sc.2 (6 * k + 1 + 2)), .inl (sc.2 (6 * k + 1 + 3)), .inl (sc.2 (6 * k + 1 + 4)), .inl (sc.2 (6 * k + 1 + 5))]) (rest := []) rfl eg_tj26 (Nat.le_of_ble_eq_true rfl) rfl rfl rfl (Nat.le_of_ble_eq_true rfl) hc hz ?_ hx
      refine eg_k_aload rfl rfl ?_
      refine el_arg (k := 1) hl (by omega) hL rfl rfl rfl rfl rfl ?_
      refine el_arg (k := 2) hl (by omega) hL rfl rfl rfl rfl rfl ?_
      refine el_arg (k := 3) hl (by omega) hL rfl rfl rfl rfl rfl ?_
      refine el_arg (k := 4) hl (by omega) hL rfl rfl rfl rfl rfl ?_
      refine el_arg (k := 5) hl (by omega) hL rfl rfl rfl rfl rfl ?_
      refine eg_k_call (c1 := 0) (z1 := 0) (as := [.inr (.inr (some 45)), .inl (sc.2 (6 * k + 1 + 1)), .inl (sc.2 (6 * k + 1 + 2)), .inl (sc.2 (6 * k + 1 + 3)), .inl (sc.2 (6 * k + 1 + 4)), .inl (sc.2 (6 * k + 1 + 5))]) (rest := [.inl v]) rfl eg_tj155 (Nat.le_of_ble_eq_true rfl) rfl rfl rfl (Nat.le_of_ble_eq_true rfl) hc hz ?_ hm
      refine eg_k_icmp rfl (fun _ => ?_) (fun z => absurd rfl z)
      exact nxt M2 hP
    by_cases h1 : y = 1
    · subst h1
      refine eg_k_tsw (t := 85) rfl (by decide +kernel) ?_
      obtain ⟨v, M1, M2, hx, hm, hP⟩ := o1
      refine eg_k_aload rfl rfl ?_
      refine el_arg (k := 1) hl (by omega) hL rfl rfl rfl rfl rfl ?_
      refine el_arg (k := 2) hl (by omega) hL rfl rfl rfl rfl rfl ?_
      refine eg_k_call (c1 := 0) (z1 := 0) (as := [.inr (.inr (some 0)), .inl (sc.2 (6 * k + 1 + 1)), .inl (sc.2 (6 * k + 1 + 2))]) (rest := []) rfl eg_tj29 (Nat.le_of_ble_eq_true rfl) rfl rfl rfl (Nat.le_of_ble_eq_true rfl) hc hz ?_ hx
      refine eg_k_aload rfl rfl ?_
      refine el_arg (k := 1) hl (by omega) hL rfl rfl rfl rfl rfl ?_
      refine el_arg (k := 2) hl (by omega) hL rfl rfl rfl rfl rfl ?_
      refine eg_k_call (c1 := 0) (z1 := 0) (as := [.inr (.inr (some 45)), .inl (sc.2 (6 * k + 1 + 1)), .inl (sc.2 (6 * k + 1 + 2))]) (rest := [.inl v]) rfl eg_tj157 (Nat.le_of_ble_eq_true rfl) rfl rfl rfl (Nat.le_of_ble_eq_true rfl) hc hz ?_ hm
      refine eg_k_icmp rfl (fun _ => ?_) (fun z => absurd rfl z)
      exact nxt M2 hP
    by_cases h2 : y = 2
    · subst h2
      refine eg_k_tsw (t := 112) rfl (by decide +kernel) ?_
      obtain ⟨v, M1, M2, hx, hm, hP⟩ := o2
      refine eg_k_aload rfl rfl ?_
      refine eg_k_call (c1 := 0) (z1 := 0) (as := [.inr (.inr (some 0))]) (rest := []) rfl eg_tj148 (Nat.le_of_ble_eq_true rfl) rfl rfl rfl (Nat.le_of_ble_eq_true rfl) hc hz ?_ hx
      refine eg_k_aload rfl rfl ?_
      refine eg_k_call (c1 := 0) (z1 := 0) (as := [.inr (.inr (some 45))]) (rest := [.inl v]) rfl eg_tj247 (Nat.le_of_ble_eq_true rfl) rfl rfl rfl (Nat.le_of_ble_eq_true rfl) hc hz ?_ hm
      refine eg_k_icmp rfl (fun _ => ?_) (fun z => absurd rfl z)
      exact nxt M2 hP
    by_cases h3 : y = 3
    · subst h3
      refine eg_k_tsw (t := 119) rfl (by decide +kernel) ?_
      obtain ⟨v, M1, M2, hx, hm, hP⟩ := o3
      refine eg_k_aload rfl rfl ?_
      refine eg_k_call (c1 := 0) (z1 := 0) (as := [.inr (.inr (some 0))]) (rest := []) rfl eg_tj149 (Nat.le_of_ble_eq_true rfl) rfl rfl rfl (Nat.le_of_ble_eq_true rfl) hc hz ?_ hx
      refine eg_k_aload rfl rfl ?_
      refine eg_k_call (c1 := 0) (z1 := 0) (as := [.inr (.inr (some 45))]) (rest := [.inr (.inl v)]) rfl eg_tj248 (Nat.le_of_ble_eq_true rfl) rfl rfl rfl (Nat.le_of_ble_eq_true rfl) hc hz ?_ hm
      refine eg_k_lcmp rfl ?_
      rw [if_neg (Int.lt_irrefl v), if_pos rfl]
      refine eg_k_if rfl (fun _ => ?_) (fun z => absurd rfl z)
      exact nxt M2 hP
    by_cases h4 : y = 4
    · subst h4
      refine eg_k_tsw (t := 127) rfl (by decide +kernel) ?_
      obtain ⟨v, M1, M2, hx, hm, hP⟩ := o4
      refine eg_k_aload rfl rfl ?_
      refine el_arg (k := 1) hl (by omega) hL rfl rfl rfl rfl rfl ?_
      refine eg_k_call (c1 := 0) (z1 := 0) (as := [.inr (.inr (some 0)), .inl (sc.2 (6 * k + 1 + 1))]) (rest := []) rfl eg_tj151 (Nat.le_of_ble_eq_true rfl) rfl rfl rfl (Nat.le_of_ble_eq_true rfl) hc hz ?_ hx
      refine eg_k_aload rfl rfl ?_
      refine el_arg (k := 1) hl (by omega) hL rfl rfl rfl rfl rfl ?_
      refine eg_k_call (c1 := 0) (z1 := 0) (as := [.inr (.inr (some 45)), .inl (sc.2 (6 * k + 1 + 1))]) (rest := [.inl v]) rfl eg_tj249 (Nat.le_of_ble_eq_true rfl) rfl rfl rfl (Nat.le_of_ble_eq_true rfl) hc hz ?_ hm
      refine eg_k_icmp rfl (fun _ => ?_) (fun z => absurd rfl z)
      exact nxt M2 hP
    refine eg_k_tsw (t := 144) rfl ?_ (nxt M o5)
    unfold eg_tb
    rw [if_pos (by omega)]
    rfl
