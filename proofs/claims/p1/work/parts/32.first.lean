/-! THE FIRST CALL -/
theorem ep_c {cn mo : Nat} {x : Int} : eh_151_v (eh_M0 cn mo) x = eh_249_v (eh_M0 cn mo) x := by
  unfold eh_151_v eh_249_v
  simp only [eh_f15_6, eh_f15_7, eh_f38_5, eh_f21_6, eh_f21_2, eh_f7_2, eh_f26_4, eh_f0_9, eh_f15_10, eh_f45_28, eh_f45_29, eh_f45_43, eh_f45_48, eh_f45_45, eh_f45_1, eh_f45_72, eh_f45_67, eh_f45_42]
theorem ep_tk {M : Nat → Nat → Int} {fb : Nat} : ∀ i, eh_tk M fb 0 i = 0 := by
  intro i
  induction i with
  | zero => rfl
  | succ i ih =>
    unfold eh_tk
    rw [if_neg (by omega), ih]
    decide
theorem ep_fd {M : Nat → Nat → Int} {n j : Nat} {a b c e f : Int} : eh_fd M n a b c e f 45 j = M 45 j := rfl
theorem ep_z29 {M : Nat → Nat → Int} {j : Nat} {f : Int} : eh_z29 M f 45 j = M 45 j := rfl
theorem ep_26 {M : Nat → Nat → Int} {j : Nat} {x y : Int} : eg_u (eg_u M 26 3 x) 26 4 y 45 j = M 45 j := rfl
set_option maxRecDepth 100000 in
theorem ep_ok {sc : eg_Sc} {cn mo : Nat} : el_ok sc cn mo 0 (eh_M0 cn mo) (fun _ => True) := by
  refine ⟨?_, ?_, ?_, ?_, ?_, trivial⟩
  · exact ⟨1, _, _, fun Q hQ => eh_26 (d := 998) (n := 0) eh_f7_2 (by decide) (fun _ => hQ) (fun z => absurd (by decide) z), fun Q hQ => eh_155 (d := 998) (n := 0) (ep_fd.trans eh_f45_1) (by decide) (fun _ => hQ) (fun z => absurd (by decide) z), trivial⟩
  · by_cases h : sc.2 (6 * 0 + 1 + 1) = 0 ∧ 0 ≤ sc.2 (6 * 0 + 1 + 2) ∧ sc.2 (6 * 0 + 1 + 2) ≤ 20000
    · exact ⟨0, _, _, fun Q hQ => eh_29z (d := 995) eh_f7_2 (fun z => absurd h z) (fun _ => hQ), fun Q hQ => eh_157z (d := 995) (ep_z29.trans eh_f45_1) (fun z => absurd h z) (fun _ => hQ), trivial⟩
    · exact ⟨-1, _, _, fun Q hQ => eh_29z (d := 995) eh_f7_2 (fun _ => hQ) (fun z => absurd z h), fun Q hQ => eh_157z (d := 995) eh_f45_1 (fun _ => hQ) (fun z => absurd z h), trivial⟩
  · exact ⟨-1, _, _, fun Q hQ => eh_148 (d := 999) (by rw [eh_f0_8]; exact hQ), fun Q hQ => eh_247 (d := 999) (by rw [eh_f45_2]; exact hQ), trivial⟩
  · exact ⟨0, eg_u (eg_u (eh_M0 cn mo) 26 3 (((0 + 0) % 4000 : Nat) : Int)) 26 4 ((0 - 0 : Nat) : Int), _, fun Q hQ => eh_149 (d := 998) (fb := 0) (w := 0) (n := 0) eh_f26_3 (by decide) eh_f26_4 (by decide) (by decide) (by rw [ep_tk]; exact hQ), fun Q hQ => eh_248 (d := 999) (w := 0) (n := 0) (ep_26.trans eh_f45_72) (by decide) (by decide) (fun _ => hQ) (fun z => absurd z (by decide)), trivial⟩
  · exact ⟨_, _, _, fun Q hQ => eh_151 (d := 999) hQ, fun Q hQ => eh_249 (d := 999) (by rw [← ep_c]; exact hQ), trivial⟩
theorem eg_pure7 (L : Nat) (xs : Nat → Int) (hL : L ≤ 7) : ∃ n, eg_x (L, xs) (eg_wp (L, xs) 1000) eg_p250 (some .boolean) 600000 7302250 (fun r _ => r = some (.inl 1)) n 0 [some (.inr (.inr (some 1000000))), none, none, none] [] ([], fun _ _ => none, fun _ _ => 0) 0 0 := by
  refine el_start (sc := (L, xs)) rfl rfl (fun c9 z9 hc hz => ?_)
  exact el_law (Inv := fun k M => k = 0 → M = eh_M0 _ _) (by omega) (by omega) (Nat.le_trans hL (by decide)) (fun k M h7 hI => by
    have k0 : k = 0 := by
      have h8 : 6 * k + 7 ≤ L := h7
      omega
    subst k0
    rw [hI rfl]
    have e : (fun _ : Nat → Nat → Int => True) = (fun M => 0 + 1 = 0 → M = eh_M0 (ec_cn (el_c (L, xs))) (ec_cn (el_c (L, xs)) / 3 + 1)) := by
      funext M
      exact propext ⟨fun _ z => absurd z (by decide), fun _ => trivial⟩
    have h9 := ep_ok (sc := (L, xs)) (cn := ec_cn (el_c (L, xs))) (mo := ec_cn (el_c (L, xs)) / 3 + 1)
    rw [e] at h9
    exact h9) 2 0 _ (by show L < _; omega) (by decide) (fun _ => rfl)
