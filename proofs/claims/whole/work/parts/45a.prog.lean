def zb_PGO (B : zb_Bs) (zb_cl : Option eM) (zb_rf : Option (Int × eM)) : Prop :=
  (∃ (C' R' : eM) (H' : zb_Hp) (rl' ql' : List (Nat × Nat)) (fd' fu' : Nat), zb_cl = some C' ∧ zb_rf = some (0, R') ∧ zb_SX B C' R' H' rl' ql' fd' [] fu') ∨ (∃ (C' R' : eM) (k : Int), zb_cl = some C' ∧ zb_rf = some (k, R') ∧ zb_END B C' R' k)
def zb_TOPD (B : zb_Bs) (S : Nat) (top : Nat → Prop) : Prop := ∀ d, top d → d < S → zb_eX B d 2 ∧ ∃ d' : Nat, B.1 5 d = (d' : Int) ∧ d < d' ∧ d' ≤ S ∧ ((d' < S ∧ top d' ∧ B.2.1 53 d = (d' : Int)) ∨ (d' = S ∧ B.2.1 53 d = -1))
section PRG
variable {B : zb_Bs} {a e : Int} {S : Nat} {top : Nat → Prop}
set_option maxHeartbeats 2000000 in
theorem zb_prog_ok (zb_hS : S ≤ 20000) (hT : zb_TOPD B S top) : ∀ (m d zb_sp : Nat) (C R : eM) (H : zb_Hp) (rl ql : List (Nat × Nat)) (fd fu : Nat), S - d ≤ m → d < S → top d → zb_SX B C R H rl ql fd [] fu → zb_sp + 20 * fu + 6 * (S - d) ≤ 999990 → zb_PGO B (zb_CL B.2.2.1 (a, (S : Int), e, (d : Int), 0) (zb_sp : Int) C) (lp (fun z => fn_183_3 z.1 z.2) ((d : Int), R)) := by
  intro m
  induction m with
  | zero => intro d zb_sp C R H rl ql fd fu hm hd; omega
  | succ m ih =>
    intro d zb_sp C R H rl ql fd fu hm hd htop sx hsp
    obtain ⟨hex, d', h5, hdd, hdS, hnext⟩ := hT d htop hd
    have fl := sx.1.2.2.2.1
    have t1 : C 29 0 = 0 := sx.1.2.2.2.2.1
    have rw9 := sx.1.1.2.2.1
    have hCL : zb_CL B.2.2.1 (a, (S : Int), e, (d : Int), 0) (zb_sp : Int) C = (fn_111 B.2.2.1 (B.2.2.1 / 3 + 1) (d : Int) 0 C).bind (zb_AF B.2.2.1 (a, (S : Int), e, (d' : Int), 1) (zb_sp : Int)) := by
      cases h : fn_111 B.2.2.1 (B.2.2.1 / 3 + 1) (d : Int) 0 C with
      | none =>
        unfold zb_CL
        refine lp_none ?_
        show fn_69_9 B.2.2.1 (B.2.2.1 / 3 + 1) a (S : Int) e (d : Int) 0 (zb_sp : Int) C = none
        unfold fn_69_9 fn_69_31
        rw [if_neg (by omega), if_neg (fun z => z fl.1.1), if_pos (by rw [t1]; decide), if_pos (by rw [t1]; decide), if_pos rfl, if_neg (by omega), h]; rfl
      | some q =>
        have e5 : q 5 d = (d' : Int) := by
          rw [fw_111 h (by decide) d, rw9.1.2.1]; exact h5
        rw [zb_cl_ev fl.1.1 (by omega) t1 (by omega) (by omega) (by omega) h, Int.toNat_natCast, e5, Option.bind_some]
    have hZ1 : 999990 - 6 * (S - d) ≤ 999990 := Nat.sub_le _ _
    have hev := zb_evok (B := B) (Q := (a, (S : Int), e, (d' : Int), 1)) hZ1 zb_sp zb_sp C R H rl ql fd fu [] d 0 2 sx (fun r hr => by cases hr) hex (Or.inl rfl) (fun _ => rfl) (fun dp _ => by simp) (Nat.le_refl _) (by simp only [List.length_nil]; omega)
    rw [hCL]
    have hRf : fn_183_3 (d : Int) R = (fn_184 (d : Int) (-1) R).bind fun r3 => (fn_210 r3.1 r3.2).bind fun r6 => if r6.1 ≤ 0 then (fn_209 12 0 (-1) 0 r6.2).bind fun m11 => (fn_210 1 m11).bind fun r13 => if r13.1 ≤ 0 then (if 0 ≤ (d : Int) ∧ (d : Int) < 20100 then some (.inl (r13.2 53 ((d : Int)).toNat, r13.2)) else none) else some (.inr (r13.1, r13.2)) else some (.inr (r6.1, r6.2)) := by
      unfold fn_183_3; rw [if_neg (by omega)]
    have hfin : ∀ (C' R' : eM) (k : Int), zb_END B C' R' k → 1 ≤ k := fun C' R' k h => by obtain ⟨_, _, _, _, _, _, _, _, _, h1, _⟩ := h; exact h1
    rcases hev with ⟨C1, R1, H1, rl1, ql1, fd1, st1, fu1, sp1, g, e1, e2, sx1, nx1, hs1, hp1⟩ | ⟨C1, R1, k, e1, e2, en⟩
    rotate_left
    · have e2' : fn_184 (d : Int) (-1) R = some (-1, R1) := e2
      have h69 : R1 45 69 = k := by obtain ⟨_, _, _, _, _, _, _, _, h9, _⟩ := en; exact h9
      have e210 : fn_210 (-1) R1 = some (k, R1) := zb_fl_neg (x0 := -1) h69
      rw [e2', Option.bind_some, e210, Option.bind_some, if_neg (by have := hfin _ _ _ en; show ¬ k ≤ 0; omega)] at hRf
      exact Or.inr ⟨C1, R1, k, e1, lp2_inr hRf, en⟩
    have e2' : fn_184 (d : Int) (-1) R = some (g, R1) := e2
    rw [e2', Option.bind_some] at hRf
    rcases zb_loop_ok (zb_evok hZ1) (zb_prok hZ1) hZ1 (x0 := g) _ sp1 C1 R1 H1 rl1 ql1 fd1 fu1 st1 g rfl sx1 nx1 hp1 with ⟨C2, R2, H2, rl2, ql2, fd2, fu2, sp2, f1, f2, sx2, hs2, hp2⟩ | ⟨C2, R2, k, f1, f2, en⟩
    rotate_left
    · have e210 : fn_210 g R1 = some (k, R2) := f2
      rw [e210, Option.bind_some, if_neg (by have := hfin _ _ _ en; show ¬ k ≤ 0; omega)] at hRf
      exact Or.inr ⟨C2, R2, k, e1.trans f1, lp2_inr hRf, en⟩
    have e210 : fn_210 g R1 = some (0, R2) := f2
    rw [e210, Option.bind_some, if_pos (show (0 : Int) ≤ 0 from Int.le_refl _)] at hRf
    have fl2 := sx2.1.2.2.2.1
    have t12 : C2 29 0 = 0 := sx2.1.2.2.2.2.1
    have hpc := zb_push_c (C := C2) (n := 0) (k := 15) (d := (d' : Int)) (a := (d' : Int)) (f := 0) t12 (by decide)
    have hpr := zb_push_r (R := R2) (t := 0) (k := 12) (d := 0) (w := -1) (y := 0) sx2.1.2.2.2.2.2.1 (by decide) (by decide)
    obtain ⟨r5, hr5⟩ : ∃ r5 : zb_Rec, r5 = (15, d', d', 0, 0, 0) := ⟨_, rfl⟩
    have sc5 := zb_sc_push (r := r5) (d' := 0) sx2.1 (by rw [hr5]; rfl) (by rw [hr5]; exact (by decide : (15 : Nat) ≠ 16)) (by rw [hr5]; exact Or.inl rfl) (fun z => absurd (by rw [hr5]; rfl) z)
    obtain ⟨C3, hC3⟩ : ∃ X, X = zb_pushC C2 (0 + 1) 15 (d' : Int) (d' : Int) 0 := ⟨_, rfl⟩
    obtain ⟨R3, hR3⟩ : ∃ X, X = zb_pushR R2 0 12 0 (-1) 0 := ⟨_, rfl⟩
    have sc6 : zb_SC B C3 R3 H2 rl2 ql2 fd2 [r5] := by rw [hC3, hR3]; rw [hr5] at sc5 ⊢; exact sc5
    have c3o : ∀ c, c ∉ ([29, 30, 31, 32, 33, 34] : List Nat) → C3 c = C2 c := fun c hc => by
      have : c ≠ 29 ∧ c ≠ 30 ∧ c ≠ 31 ∧ c ≠ 32 ∧ c ≠ 33 ∧ c ≠ 34 := by revert hc; simp
      obtain ⟨a1, a2, a3, a4, a5, a6⟩ := this
      rw [hC3]; unfold zb_pushC
      rw [eg_u_ne a6, eg_u_ne a5, eg_u_ne a4, eg_u_ne a3, eg_u_ne a2, eg_u_ne a1]
    have r3f : ∀ f, f ≠ 53 → R3 45 f = R2 45 f := fun f hf => by
      rw [hR3]; unfold zb_pushR
      rw [eg_u_nj (by omega), eg_u_ne (by decide), eg_u_ne (by decide), eg_u_ne (by decide), eg_u_ne (by decide), eg_u_ne (by decide)]
    have sx5 : zb_SX B C3 R3 H2 rl2 ql2 fd2 [r5] fu2 := by
      obtain ⟨_, q1, q2, q3⟩ := sx2
      refine ⟨sc6, ⟨by rw [c3o 44 (by decide)]; exact q1.1, by rw [r3f 67 (by decide)]; exact q1.2.1, q1.2.2⟩, ⟨?_, ?_, ?_, ?_⟩, ?_⟩
      · rw [c3o 44 (by decide), hr5]; exact q2.1
      · rw [r3f 68 (by decide), hr5]; exact q2.2.1
      · rw [hr5]; exact (by decide : 0 ≤ 60)
      · refine zb_bud_le q2.2.2.2 (r3f 42 (by decide)) ?_
        rw [r3f 67 (by decide), hr5]; exact Int.le_refl _
      · rw [hr5]; exact ⟨⟨(by decide : 0 + 1 ≤ 31 * 0 + 0 + 1), (by decide : 0 ≤ 30)⟩, trivial⟩
    have hq : zb_CL B.2.2.1 (a, (S : Int), e, (d' : Int), 1) (sp2 : Int) C2 = zb_CL B.2.2.1 (a, (S : Int), e, (d' : Int), 0) ((sp2 + 1 : Nat) : Int) C3 := by
      rw [zb_cl_q fl2.1.1 (by omega) t12 hpc, ← hC3, zb_af_go (by omega) (by rw [c3o 44 (by decide)]; exact fl2.1.1) (by rw [c3o 15 (by decide)]; exact fl2.1.2.2.2.1) (by rw [c3o 43 (by decide)]; exact fl2.1.2.2.1)]
    rw [hpr, Option.bind_some, ← hR3] at hRf
    have hZ2 : 999990 - 6 * (S - d) + 6 ≤ 999990 := by omega
    rcases zb_loop_ok (zb_evok hZ2) (zb_prok hZ2) hZ2 (x0 := 1) (Q := (a, (S : Int), e, (d' : Int), 0)) _ (sp2 + 1) C3 R3 H2 rl2 ql2 fd2 fu2 [r5] 1 rfl sx5 (Or.inr ⟨rfl, r5, [], rfl, ⟨by rw [hr5]; rfl, Or.inl (Or.inl (by rw [hr5]; rfl))⟩, fun r hr => by cases hr⟩) (by simp only [List.length_cons, List.length_nil]; omega) with ⟨C4, R4, H4, rl4, ql4, fd4, fu4, sp4, g1, g2, sx4, hs4, hp4⟩ | ⟨C4, R4, k, g1, g2, en⟩
    rotate_left
    · have e210b : fn_210 1 R3 = some (k, R4) := g2
      rw [e210b, Option.bind_some, if_neg (by have := hfin _ _ _ en; show ¬ k ≤ 0; omega)] at hRf
      exact Or.inr ⟨C4, R4, k, e1.trans (f1.trans (hq.trans g1)), lp2_inr hRf, en⟩
    have e210b : fn_210 1 R3 = some (0, R4) := g2
    rw [e210b, Option.bind_some, if_pos (show (0 : Int) ≤ 0 from Int.le_refl _), if_pos (by omega), Int.toNat_natCast] at hRf
    have zb_r53 : R4 53 = B.2.1 53 := sx4.1.1.2.2.1.2.2.2.2.2.1
    have hcl4 : (fn_111 B.2.2.1 (B.2.2.1 / 3 + 1) (d : Int) 0 C).bind (zb_AF B.2.2.1 (a, (S : Int), e, (d' : Int), 1) (zb_sp : Int)) = _ := e1.trans (f1.trans (hq.trans g1))
    rcases hnext with ⟨n1, n2, n3⟩ | ⟨n1, n2⟩
    · have hRf2 : fn_183_3 (d : Int) R = some (.inl ((d' : Int), R4)) := by rw [hRf]; show some (Sum.inl (R4 53 d, R4)) = _; rw [zb_r53, n3]
      have := ih d' sp4 C4 R4 H4 rl4 ql4 fd4 fu4 (by omega) n1 n2 sx4 (by omega)
      rw [hcl4, lp2_inl hRf2]; exact this
    · have hRf2 : fn_183_3 (d : Int) R = some (.inl (-1, R4)) := by rw [hRf]; show some (Sum.inl (R4 53 d, R4)) = _; rw [zb_r53, n2]
      have fl4 := sx4.1.2.2.2.1
      rw [hcl4, lp2_inl hRf2]
      refine Or.inl ⟨C4, R4, H4, rl4, ql4, fd4, fu4, zb_cl_fin fl4.1.1 (by omega) sx4.1.2.2.2.2.1 (by omega), lp2_inr ?_, sx4⟩
      unfold fn_183_3; rw [if_pos (by decide)]
end PRG
