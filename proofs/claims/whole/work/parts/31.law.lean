/-! THE LAW, ITS BEGINNING -/
def el_c (sc : eg_Sc) : Int := if 0 < sc.1 then sc.2 0 else 0
set_option maxRecDepth 100000 in
theorem el_start {sc : eg_Sc} {Q : Option eg_V → eg_H → Prop} {cn mo : Nat} (hcn : cn = ec_cn (el_c sc)) (hmo : mo = cn / 3 + 1) (hk : ∀ c9 z9 : Nat, c9 ≤ 500 → z9 ≤ 2400000 → eg_X sc (eg_wp sc 1000) eg_p250 (some .boolean) 600000 7302250 Q 16 [some (.inr (.inr (some 1000000))), some (.inr (.inr (some 0))), some (.inr (.inr (some 45))), some (.inl ((1 : Nat) : Int))] [] (em_L cn mo, eh_R, eh_M0 cn mo) c9 z9) : eg_X sc (eg_wp sc 1000) eg_p250 (some .boolean) 600000 7302250 Q 0 [some (.inr (.inr (some 1000000))), none, none, none] [] ([], fun _ _ => none, fun _ _ => 0) 0 0 := by
  subst hmo
  subst hcn
  refine eg_k_new (a := 0) (l' := [.inr 0]) (c' := 1) (z' := 10) rfl rfl rfl (by decide) rfl rfl (by decide) (by decide) ?_
  refine eg_k_dupr rfl ?_
  refine eg_k_aload rfl rfl ?_
  refine eg_k_ci rfl ?_
  refine eg_k_call (c1 := 0) (z1 := 0) (as := [.inr (.inr (some 1000000)), .inl 0]) (rest := [.inr (.inr (some 0)), .inr (.inr (some 0))]) (r9 := some (.inl (el_c sc))) rfl eg_tj152 (Nat.le_of_ble_eq_true rfl) rfl rfl trivial (Nat.le_of_ble_eq_true rfl) (Nat.le_of_ble_eq_true rfl) (Nat.le_of_ble_eq_true rfl) ?_ (fun Q hQ => eh_152 (d := 999) (Nat.le_of_ble_eq_true rfl) hQ)
  refine eg_k_call (c1 := 300) (z1 := 2000000) (as := [.inr (.inr (some 0)), .inl (el_c sc)]) (rest := [.inr (.inr (some 0))]) (r9 := none) rfl eg_tj0 (Nat.le_of_ble_eq_true rfl) rfl rfl True.intro (Nat.le_of_ble_eq_true rfl) (Nat.le_of_ble_eq_true rfl) (Nat.le_of_ble_eq_true rfl) ?_ (fun Q hQ => ec_0 (d := 993) hQ)
  refine eg_k_astore (lv' := [some (.inr (.inr (some 1000000))), some (.inr (.inr (some 0))), none, none]) rfl rfl ?_
  refine eg_k_new (a := 45) (l' := ec_L (ec_cn (el_c sc)) (ec_cn (el_c sc) / 3 + 1) ++ [.inr 11]) (c' := 302) (z' := 2000086) rfl rfl rfl (by decide) rfl rfl (by decide) (by decide) ?_
  refine eg_k_dupr rfl ?_
  refine eg_k_aload rfl rfl ?_
  refine eg_k_ci rfl ?_
  refine eg_k_call (c1 := 0) (z1 := 0) (as := [.inr (.inr (some 1000000)), .inl 0]) (rest := [.inr (.inr (some 45)), .inr (.inr (some 45))]) (r9 := some (.inl (el_c sc))) rfl eg_tj152 (Nat.le_of_ble_eq_true rfl) rfl rfl trivial (Nat.le_of_ble_eq_true rfl) (Nat.le_of_ble_eq_true rfl) (Nat.le_of_ble_eq_true rfl) ?_ (fun Q hQ => eh_152 (d := 999) (Nat.le_of_ble_eq_true rfl) hQ)
  refine eg_k_call (c1 := 42) (z1 := 333676) (as := [.inr (.inr (some 45)), .inl (el_c sc)]) (rest := [.inr (.inr (some 45))]) (r9 := none) rfl eg_tj153 (Nat.le_of_ble_eq_true rfl) rfl rfl True.intro (Nat.le_of_ble_eq_true rfl) (Nat.le_of_ble_eq_true rfl) (Nat.le_of_ble_eq_true rfl) ?_ (fun Q hQ => em_153 (d := 995) rfl hQ)
  refine eg_k_astore (lv' := [some (.inr (.inr (some 1000000))), some (.inr (.inr (some 0))), some (.inr (.inr (some 45))), none]) rfl rfl ?_
  refine eg_k_ci rfl ?_
  refine eg_k_istore (lv' := [some (.inr (.inr (some 1000000))), some (.inr (.inr (some 0))), some (.inr (.inr (some 45))), some (.inl ((1 : Nat) : Int))]) rfl rfl ?_
  exact hk _ _ (Nat.le_of_ble_eq_true rfl) (Nat.le_of_ble_eq_true rfl)
/-- an int of the script, laid on the stack -/
theorem el_arg {sc : eg_Sc} {call : eg_Ca} {mc ms : Nat} {Q : Option eg_V → eg_H → Prop} {l : List eg_C} {r : Nat → Nat → Option Nat} {M : Nat → Nat → Int} {c z : Nat} {st : List eg_V} {x1 x2 : Option eg_V} {i k p p0 p1 p2 p3 p4 : Nat} (hl : l.length < 1000000) (hi : i + k < sc.1) (hs : sc.1 ≤ 3073) (q0 : eg_p250[p]? = some (p0, .aload 0)) (q1 : eg_p250[p + 1]? = some (p1, .iload 3)) (q2 : eg_p250[p + 1 + 1]? = some (p2, .sipush (k : Int))) (q3 : eg_p250[p + 1 + 1 + 1]? = some (p3, .iadd)) (q4 : eg_p250[p + 1 + 1 + 1 + 1]? = some (p4, .iaload)) (hk : eg_X sc call eg_p250 (some .boolean) mc ms Q (p + 1 + 1 + 1 + 1 + 1) [some (.inr (.inr (some 1000000))), x1, x2, some (.inl (i : Nat))] (.inl (sc.2 (i + k)) :: st) (l, r, M) c z) : eg_X sc call eg_p250 (some .boolean) mc ms Q p [some (.inr (.inr (some 1000000))), x1, x2, some (.inl (i : Nat))] st (l, r, M) c z := by
  refine eg_k_aload q0 rfl ?_
  refine eg_k_iload q1 rfl ?_
  refine eg_k_ci q2 ?_
  refine eg_k_iadd q3 ?_
  rw [show eg_wi (((i : Nat) : Int) + (k : Int)) = ((i + k : Nat) : Int) from (eg_wi_id (by omega) (by omega)).trans (by omega)]
  refine eg_k_tiald (k := sc.1) (f9 := fun j => .inl (sc.2 j)) q4 (es_no hl (by decide)) rfl (by omega) (by omega) ?_
  rw [show ((i + k : Nat) : Int).toNat = i + k by omega]
  exact hk
