/-! THE LAW: every call answers alike on both sides -/
section LAWW
variable {sc : eg_Sc} {cn k : Nat} {M : Nat → Nat → Int}
theorem zl_fdc {n c : Nat} {a b d e f : Int} (h8 : c ≠ 8) (h7 : c ≠ 7) : eh_fd M n a b d e f c = M c := by
  unfold eh_fd
  rw [zb_ap_ne h8 h7, zb_ap_ne h8 h7, zb_ap_ne h8 h7, zb_ap_ne h8 h7, zb_ap_ne h8 h7]
theorem zl_fmc {n c : Nat} {a b d e f : Int} (h8 : c ≠ 46) (h7 : c ≠ 45) : eh_fm M n a b d e f c = M c := by
  unfold eh_fm
  rw [zb_ly_ne h8 h7, zb_ly_ne h8 h7, zb_ly_ne h8 h7, zb_ly_ne h8 h7, zb_ly_ne h8 h7]
theorem zl_feed {a b c e f : Int} (h : zb_RI cn k M M) : el_pi sc cn (cn / 3 + 1) 26 155 [.inl a, .inl b, .inl c, .inl e, .inl f] M (fun M => zb_RI cn (k + 1) M M) := by
  have h0 := h
  obtain ⟨N, F, n, H, rl, ql, fd, g, ⟨f1, f2, f3⟩, ⟨t1, t2, t3, t4⟩, hp, hz, h42⟩ := h0
  by_cases hr : n + 20 ≤ 3000
  · obtain ⟨M1, hM1⟩ : ∃ M1, M1 = eh_fd M n a b c e f := ⟨_, rfl⟩
    obtain ⟨M2, hM2⟩ : ∃ M2, M2 = eh_fm M1 n a b c e f := ⟨_, rfl⟩
    have hI1 : zb_RI cn k M M1 := zb_ri_congr h (fun _ _ => rfl) (fun c hc => by rw [hM1]; exact zl_fdc (by omega) (by omega))
    have hI2 : zb_RI cn (k + 1) M1 M2 := by rw [hM2]; have := zb_ri_feed (a := a) (b := b) (c := c) (e := e) (f := f) hI1 t1 hr; rw [← hM1] at this; exact this
    have h45 : M1 45 1 = (n : Int) := by rw [hM1, zl_fdc (by decide) (by decide)]; exact t2
    refine ⟨1, M1, M2, fun Q hQ => ?_, fun Q hQ => ?_, zb_ri_congr hI2 (fun c hc => by rw [hM2]; exact zl_fmc (by omega) (by omega)) (fun _ _ => rfl)⟩
    · exact eh_26 (d := 998) t1 t3 (fun _ => by rw [← hM1]; exact hQ) (fun z => absurd hr z)
    · exact eh_155 (d := 998) h45 t3 (fun _ => by rw [← hM2]; exact hQ) (fun z => absurd hr z)
  · exact ⟨0, M, M, fun Q hQ => eh_26 (d := 998) t1 t3 (fun z => absurd z hr) (fun _ => hQ), fun Q hQ => eh_155 (d := 998) t2 t3 (fun z => absurd z hr) (fun _ => hQ), zb_ri_step h⟩
theorem zl_run {a b : Int} (hk : k ≤ 1000) (h : zb_RI cn k M M) : el_pi sc cn (cn / 3 + 1) 29 157 [.inl a, .inl b] M (fun M => zb_RI cn (k + 1) M M) := by
  obtain ⟨v, M1, X, e1, _, _⟩ := zb_run_ok hk h a b
  have hI1 : zb_RI cn k M M1 := zb_ri_congr h (fun _ _ => rfl) (fun c hc => funext fun j => fw_29 e1 (by simp; omega) j)
  obtain ⟨v', M1', M2, e1', e2, hI2⟩ := zb_run_ok hk hI1 a b
  rw [e1] at e1'
  have e3 := Option.some.inj e1'
  have ev : v = v' := congrArg Prod.fst e3
  have em : M1 = M1' := congrArg Prod.snd e3
  subst ev
  subst em
  refine ⟨v, M1, M2, fun Q hQ => ft_29 (d := 978) e1 hQ, fun Q hQ => ft_157 (d := 983) e2 hQ, zb_ri_congr hI2 (fun c hc => funext fun j => fw_157 e2 (by simp; omega) j) (fun _ _ => rfl)⟩
theorem zl_place (h : zb_RI cn k M M) : el_pi sc cn (cn / 3 + 1) 148 247 [] M (fun M => zb_RI cn (k + 1) M M) := by
  have h0 := h
  obtain ⟨N, F, n, H, rl, ql, fd, g, hF, hT, ⟨p1, p2⟩, hz, h42⟩ := h0
  exact ⟨M 0 8, M, M, fun Q hQ => eh_148 (d := 999) hQ, fun Q hQ => eh_247 (d := 999) (by rw [← p1]; exact hQ), zb_ri_step h⟩
theorem zl_fetch (h : zb_RI cn k M M) : el_pl sc cn (cn / 3 + 1) 149 248 [] M (fun M => zb_RI cn (k + 1) M M) := by
  have h0 := h
  obtain ⟨N, F, n', H, rl, ql, fd, g, hF, hT, hp, hz, h42⟩ := h0
  obtain ⟨w, fb, ⟨o1, o2, o3, o4, o5⟩, o6⟩ := g.2.2.2.2.2.2.1
  obtain ⟨n, hn⟩ : ∃ n, n = min w 7 := ⟨_, rfl⟩
  obtain ⟨M1, hM1⟩ : ∃ M1, M1 = eg_u (eg_u M 26 3 (((fb + n) % 4000 : Nat) : Int)) 26 4 ((w - n : Nat) : Int) := ⟨_, rfl⟩
  have m1 : ∀ c, c ≠ 26 → M1 c = M c := fun c hc => by rw [hM1, eg_u_ne hc, eg_u_ne hc]
  have hI1 : zb_RI cn k M M1 := zb_ri_congr h (fun _ _ => rfl) (fun c hc => m1 c (by omega))
  have w72 : M1 45 72 = (w : Int) := by rw [m1 45 (by decide)]; exact o2
  by_cases hw : w = 0
  · have hn0 : n = 0 := by omega
    have hI2 := zb_ri_fetch (R' := M1) hI1 o1 o4 o5 hn (fun i hi => by omega) (by rw [w72, hw, hn0]) (fun _ _ _ => rfl) (fun _ _ => rfl)
    rw [← hM1] at hI2
    refine ⟨0, M1, M1, fun Q hQ => eh_149 (d := 998) o4 o5 o1 o3 hn ?_, fun Q hQ => eh_248 (d := 999) w72 o3 hn (fun _ => hQ) (fun z => absurd z (by omega)), hI2⟩
    rw [← hM1, hn0, ep_tk]; exact hQ
  · obtain ⟨M2, hM2⟩ : ∃ M2, M2 = eg_u (eh_sh M1 n w) 45 72 ((w - n : Nat) : Int) := ⟨_, rfl⟩
    have m2 : ∀ c, c ≠ 86 → c ≠ 45 → M2 c = M1 c := fun c h86 h45 => by
      rw [hM2, eg_u_ne h45]
      funext j
      exact eh_sh_ne h86
    have m2f : ∀ f, f ≠ 72 → M2 45 f = M1 45 f := fun f hf => by
      rw [hM2, eg_u_nj (fun z => hf z.2)]
      exact eh_sh_ne (by decide)
    have hI2 := zb_ri_fetch (R' := M2) hI1 o1 o4 o5 hn (fun i hi => by
      rw [hM2, eg_u_ne (by decide)]
      unfold eh_sh
      rw [if_pos ⟨rfl, by omega⟩]) (by rw [hM2, eg_u_at, if_pos rfl]) m2 m2f
    rw [← hM1] at hI2
    have hv : eh_tk M fb n 7 = eh_mk M1 n n := zb_tk_mk (by omega) (fun i hi => by rw [m1 86 (by decide)]; exact o6 i (by omega))
    refine ⟨eh_tk M fb n 7, M1, M2, fun Q hQ => eh_149 (d := 998) o4 o5 o1 o3 hn (by rw [← hM1]; exact hQ), fun Q hQ => eh_248 (d := 999) w72 o3 hn (fun z => absurd z hw) (fun _ => ?_), zb_ri_congr hI2 (fun c hc => m2 c (by omega) (by omega)) (fun _ _ => rfl)⟩
    rw [← hv, ← hM2]; exact hQ
theorem zl_count {x : Int} (h : zb_RI cn k M M) : el_pi sc cn (cn / 3 + 1) 151 249 [.inl x] M (fun M => zb_RI cn (k + 1) M M) :=
  ⟨eh_151_v M x, M, M, fun Q hQ => eh_151 (d := 999) hQ, fun Q hQ => eh_249 (d := 999) (by rw [← zb_ri_count h]; exact hQ), zb_ri_step h⟩
theorem zl_ok (hk : k ≤ 1000) (h : zb_RI cn k M M) : el_ok sc cn (cn / 3 + 1) k M (fun M => zb_RI cn (k + 1) M M) :=
  ⟨zl_feed h, zl_run hk h, zl_place h, zl_fetch h, zl_count h, zb_ri_step h⟩
end LAWW
theorem zl_cn {c : Int} : ec_cn c ≤ 20000 := by
  unfold ec_cn
  split
  · omega
  · decide
theorem eg_pure (L : Nat) (xs : Nat → Int) (hL : L ≤ 3073) (hr : ∀ j, -2147483648 ≤ xs j ∧ xs j < 2147483648) : ∃ n, eg_x (L, xs) (eg_wp (L, xs) 1000) eg_p250 (some .boolean) 600000 7302250 (fun r _ => r = some (.inl 1)) n 0 [some (.inr (.inr (some 1000000))), none, none, none] [] ([], fun _ _ => none, fun _ _ => 0) 0 0 := by
  refine el_start (sc := (L, xs)) rfl rfl (fun c9 z9 hc hz => ?_)
  exact el_law (Inv := fun k M => zb_RI (ec_cn (el_c (L, xs))) k M M) (by omega) (by omega) hL (fun k M h7 hI => by
    have h8 : 6 * k + 7 ≤ L := h7
    exact zl_ok (by omega) hI) 600 0 _ (by show L < _; omega) (by decide) (zb_ri_fresh zl_cn)
