abbrev zb_Pq := Int × Int × Int × Int × Int
noncomputable def zb_CL (cn : Nat) (Q : zb_Pq) (zb_sp : Int) (C : eM) : Option eM := lp (fun z => fn_69_9 cn (cn / 3 + 1) Q.1 Q.2.1 Q.2.2.1 z.1 z.2.1 z.2.2.1 z.2.2.2) (Q.2.2.2.1, Q.2.2.2.2, zb_sp, C)
noncomputable def zb_AF (cn : Nat) (Q : zb_Pq) (zb_sp : Int) (m : eM) : Option eM := (fn_131 m).bind fun r => if r.1 = 0 then zb_CL cn Q (eg_wi (zb_sp + 1)) r.2 else (fn_132 cn (cn / 3 + 1) r.2).bind fun m2 => zb_CL cn Q (eg_wi (zb_sp + 1)) m2
section CLP
variable {cn : Nat} {Q : zb_Pq} {zb_sp : Nat} {C m : eM}
theorem zb_cl_any {a b e nx due nx' due' zb_sp : Int} {C m : eM} (h : fn_69_9 cn (cn / 3 + 1) a b e nx due zb_sp C = (fn_131 m).bind fun r => if r.1 = 0 then some (.inl (nx', due', eg_wi (zb_sp + 1), r.2)) else (fn_132 cn (cn / 3 + 1) r.2).bind fun m2 => some (.inl (nx', due', eg_wi (zb_sp + 1), m2))) : zb_CL cn (a, b, e, nx, due) zb_sp C = zb_AF cn (a, b, e, nx', due') zb_sp m := by
  unfold zb_CL zb_AF
  cases h1 : fn_131 m with
  | none =>
    rw [h1] at h
    exact lp_none h
  | some r =>
    rw [h1, Option.bind_some] at h
    rw [Option.bind_some]
    by_cases hr : r.1 = 0
    · rw [if_pos hr] at h ⊢
      exact lp_inl h
    · rw [if_neg hr] at h ⊢
      cases h2 : fn_132 cn (cn / 3 + 1) r.2 with
      | none =>
        rw [h2] at h
        exact lp_none h
      | some m2 =>
        rw [h2, Option.bind_some] at h
        rw [Option.bind_some]
        exact lp_inl h
theorem zb_cl_res {top : Nat} (h8 : C 44 8 = 0) (hs : zb_sp < 1000000) (ht : C 29 0 = (top : Int)) (h0 : 0 < top) (h72 : fn_72 (top : Int) C = some 0) (h : fn_104 cn (cn / 3 + 1) (top : Int) C = some m) : zb_CL cn Q (zb_sp : Int) C = zb_AF cn Q (zb_sp : Int) m := by
  obtain ⟨a, b, e, nx, due⟩ := Q
  refine zb_cl_any ?_
  unfold fn_69_9
  rw [if_neg (by omega), if_neg (fun z => z h8), ht, if_neg (by omega), h72, Option.bind_some, if_pos rfl]
  unfold fn_69_31
  rw [ht, if_neg (by omega), h, Option.bind_some]
theorem zb_cl_op {top : Nat} (h8 : C 44 8 = 0) (hs : zb_sp < 1000000) (ht : C 29 0 = (top : Int)) (h0 : 0 < top) (h72 : fn_72 (top : Int) C = some 1) (h : fn_74 cn (cn / 3 + 1) (top : Int) C = some m) : zb_CL cn Q (zb_sp : Int) C = zb_AF cn Q (zb_sp : Int) m := by
  obtain ⟨a, b, e, nx, due⟩ := Q
  refine zb_cl_any ?_
  unfold fn_69_9
  rw [if_neg (by omega), if_neg (fun z => z h8), ht, if_neg (by omega), h72, Option.bind_some, if_neg (by decide), h, Option.bind_some]
theorem zb_cl_q {a b e nx : Int} (h8 : C 44 8 = 0) (hs : zb_sp < 1000000) (ht : C 29 0 = 0) (h : fn_113 15 nx nx 0 C = some m) : zb_CL cn (a, b, e, nx, 1) (zb_sp : Int) C = zb_AF cn (a, b, e, nx, 0) (zb_sp : Int) m := by
  refine zb_cl_any ?_
  unfold fn_69_9
  rw [if_neg (by omega), if_neg (fun z => z h8), ht, if_pos (by decide)]
  unfold fn_69_31
  rw [ht, if_pos (by decide), if_neg (by decide), h, Option.bind_some]
theorem zb_cl_ev {a b e nx : Int} (h8 : C 44 8 = 0) (hs : zb_sp < 1000000) (ht : C 29 0 = 0) (hn : nx < b) (h1 : 0 ≤ nx) (h2 : nx < 20000) (h : fn_111 cn (cn / 3 + 1) nx 0 C = some m) : zb_CL cn (a, b, e, nx, 0) (zb_sp : Int) C = zb_AF cn (a, b, e, m 5 nx.toNat, 1) (zb_sp : Int) m := by
  refine zb_cl_any ?_
  unfold fn_69_9
  rw [if_neg (by omega), if_neg (fun z => z h8), ht, if_pos (by decide)]
  unfold fn_69_31
  rw [ht, if_pos (by decide), if_pos rfl, if_neg (by omega), h, Option.bind_some, if_pos ⟨h1, h2⟩]
theorem zb_cl_fin {a b e nx : Int} (h8 : C 44 8 = 0) (hs : zb_sp < 1000000) (ht : C 29 0 = 0) (hn : b ≤ nx) : zb_CL cn (a, b, e, nx, 0) (zb_sp : Int) C = some C := by
  refine lp_inr ?_
  show fn_69_9 _ _ _ _ _ nx 0 (zb_sp : Int) C = _
  unfold fn_69_9
  rw [if_neg (by omega), if_neg (fun z => z h8), ht, if_pos (by decide)]
  unfold fn_69_31
  rw [ht, if_pos (by decide), if_pos rfl, if_pos hn]
theorem zb_cl_fault {zb_sp : Int} (h8 : C 44 8 ≠ 0) : zb_CL cn Q zb_sp C = some C := by
  obtain ⟨a, b, e, nx, due⟩ := Q
  refine lp_inr ?_
  show fn_69_9 _ _ _ _ _ nx due zb_sp C = _
  unfold fn_69_9
  by_cases hs : 1000000 ≤ zb_sp
  · rw [if_pos hs]
  · rw [if_neg hs, if_pos h8]
theorem zb_af_go (hs : zb_sp < 1000000) (h8 : m 44 8 = 0) (h11 : m 15 11 = 0) (h5 : m 43 5 = 0) : zb_AF cn Q (zb_sp : Int) m = zb_CL cn Q ((zb_sp + 1 : Nat) : Int) m := by
  unfold zb_AF fn_131
  rw [if_neg (fun z => z h8), if_neg (fun z => z h11), if_neg (fun z => z h5), Option.bind_some, if_pos rfl, zb_wi_1 (by omega)]
theorem zb_af_fault {zb_sp : Int} (h8 : m 44 8 ≠ 0) : zb_AF cn Q zb_sp m = some m := by
  unfold zb_AF fn_131
  rw [if_pos h8, Option.bind_some, if_pos rfl]
  exact zb_cl_fault h8
noncomputable def zb_pay (m : eM) : eM := eg_u (eg_u (eg_u (eg_u m 44 7 (eg_wi ((m 44 7) - 100))) 15 12 (m 15 11)) 15 11 0) 43 5 0
theorem zb_af_coll {m2 : eM} (hs : zb_sp < 1000000) (h8 : m 44 8 = 0) (h : (m 15 11 = 1 ∧ m 15 12 = 0) ∨ (m 15 11 = 0 ∧ m 43 5 ≠ 0)) (h7 : 100 ≤ m 44 7) (hc : fn_132 cn (cn / 3 + 1) (zb_pay m) = some m2) : zb_AF cn Q (zb_sp : Int) m = zb_CL cn Q ((zb_sp + 1 : Nat) : Int) m2 := by
  have h26 : fn_131_26 m = some (1, zb_pay m) := by
    unfold fn_131_26 zb_pay
    rw [if_pos h7, if_pos (by omega)]
  have h131 : fn_131 m = some (1, zb_pay m) := by
    unfold fn_131 fn_131_13
    rw [if_neg (fun z => z h8)]
    rcases h with ⟨a, b⟩ | ⟨a, b⟩
    · rw [if_pos (by omega), if_neg (by omega), if_pos b, h26]
    · rw [if_neg (fun z => z a), if_pos b, if_pos a, h26]
  unfold zb_AF
  rw [h131, Option.bind_some, if_neg (show ¬ (1 : Int) = 0 by decide), hc, Option.bind_some, zb_wi_1 (by omega)]
theorem zb_af_poor {zb_sp : Int} (h8 : m 44 8 = 0) (h : (m 15 11 = 1 ∧ m 15 12 = 0) ∨ (m 15 11 = 0 ∧ m 43 5 ≠ 0)) (h7 : ¬ 100 ≤ m 44 7) : zb_AF cn Q zb_sp m = some (eg_u m 44 8 4) := by
  have h26 : fn_131_26 m = some (0, eg_u m 44 8 4) := by
    unfold fn_131_26
    rw [if_neg h7]
  have h131 : fn_131 m = some (0, eg_u m 44 8 4) := by
    unfold fn_131 fn_131_13
    rw [if_neg (fun z => z h8)]
    rcases h with ⟨a, b⟩ | ⟨a, b⟩
    · rw [if_pos (by omega), if_neg (by omega), if_pos b, h26]
    · rw [if_neg (fun z => z a), if_pos b, if_pos a, h26]
  unfold zb_AF
  rw [h131, Option.bind_some, if_pos rfl]
  exact zb_cl_fault (C := eg_u m 44 8 4) (by rw [eg_u_eq]; decide)
theorem zb_af_full {zb_sp : Int} (h8 : m 44 8 = 0) (h11 : m 15 11 = 1) (h12 : m 15 12 ≠ 0) : zb_AF cn Q zb_sp m = some (eg_u m 44 8 12) := by
  have h131 : fn_131 m = some (0, eg_u m 44 8 12) := by
    unfold fn_131 fn_131_13
    rw [if_neg (fun z => z h8), if_pos (by omega), if_neg (by omega), if_neg h12]
  unfold zb_AF
  rw [h131, Option.bind_some, if_pos rfl]
  exact zb_cl_fault (C := eg_u m 44 8 12) (by rw [eg_u_eq]; decide)
end CLP
def zb_nb : List zb_Rec → Nat
  | [] => 0
  | r :: l => zb_nb l + (if zb_rK r = 11 then 1 else 0)
def zb_dd (B : zb_Bs) (r : zb_Rec) : Nat := if zb_rK r = 15 then 0 else (B.1 6 (zb_rD r)).toNat
def zb_DEP (B : zb_Bs) : List zb_Rec → Prop
  | [] => True
  | r :: l => (l.length + 1 ≤ 31 * zb_nb (r :: l) + zb_dd B r + 1 ∧ zb_dd B r ≤ 30) ∧ zb_DEP B l
def zb_FLG (C R : eM) : Prop := (C 44 8 = 0 ∧ C 43 4 = 0 ∧ C 43 5 = 0 ∧ C 15 11 = 0 ∧ C 15 12 = 0) ∧ (R 45 59 = 0 ∧ R 45 62 = -1 ∧ R 45 63 = -1) ∧ ∀ i, i < 32 → C 36 i = 4294967298
def zb_TOPS (C R : eM) (st : List zb_Rec) : Prop := C 29 0 = (st.length : Int) ∧ R 45 53 = (zb_tt st : Int) ∧ R 45 51 = (zb_bb st : Int)
def zb_SC (B : zb_Bs) (C R : eM) (H : zb_Hp) (rl ql : List (Nat × Nat)) (fd : Nat) (st : List zb_Rec) : Prop := zb_GS B C R H rl ql fd ∧ zb_STR C R H B.2.2.2.1 st ∧ zb_CTL C R st ∧ zb_FLG C R ∧ zb_TOPS C R st
def zb_FUE (C R : eM) (fu : Nat) : Prop := C 44 7 = (fu : Int) ∧ R 45 67 = (fu : Int) ∧ fu ≤ 20000
def zb_nc : List zb_Rec → Nat
  | [] => 0
  | r :: l => zb_nc l + (if zb_rK r = 10 then 1 else 0)
def zb_BUD (B : zb_Bs) (R : eM) (st : List zb_Rec) : Prop := R 45 42 + R 45 67 + (zb_nc st : Int) ≤ B.2.1 45 42 + 20000 ∧ B.2.1 45 42 ≤ 2000000000
theorem zb_bud_le {B : zb_Bs} {R R' : eM} {st st' : List zb_Rec} (h : zb_BUD B R st) (e1 : R' 45 42 = R 45 42) (e2 : R' 45 67 + (zb_nc st' : Int) ≤ R 45 67 + (zb_nc st : Int)) : zb_BUD B R' st' := by unfold zb_BUD at *; rw [e1]; omega
theorem zb_nc_le {r : zb_Rec} {l : List zb_Rec} : zb_nc l ≤ zb_nc (r :: l) ∧ zb_nc (r :: l) ≤ zb_nc l + 1 := by simp only [zb_nc]; split <;> omega
theorem zb_nc_ne {r : zb_Rec} {l : List zb_Rec} (h : zb_rK r ≠ 10) : zb_nc (r :: l) = zb_nc l := by simp only [zb_nc]; rw [if_neg h]; rfl
def zb_CAL (B : zb_Bs) (C R : eM) (st : List zb_Rec) : Prop := C 44 10 = (zb_nb st : Int) ∧ R 45 68 = (zb_nb st : Int) ∧ (zb_nb st ≤ 60 ∧ zb_BUD B R st)
def zb_SX (B : zb_Bs) (C R : eM) (H : zb_Hp) (rl ql : List (Nat × Nat)) (fd : Nat) (st : List zb_Rec) (fu : Nat) : Prop := zb_SC B C R H rl ql fd st ∧ zb_FUE C R fu ∧ zb_CAL B C R st ∧ zb_DEP B st
abbrev zb_eX (B : zb_Bs) := zb_EX B.1 B.2.1 B.2.2.2.1 B.2.2.2.2
abbrev zb_kX (B : zb_Bs) := zb_KX B.1 B.2.1 B.2.2.2.1 B.2.2.2.2
abbrev zb_kB (B : zb_Bs) := zb_KB B.1 B.2.1 B.2.2.2.1 B.2.2.2.2
def zb_RUN (B : zb_Bs) (r : zb_Rec) : Prop :=
  (zb_rK r = 1 ∧ zb_rA r = zb_rD r + 2 ∧ zb_rY r = (zb_rA r : Int) ∧ zb_rQ r = 0 ∧ zb_kX B (zb_rD r) (zb_rA r) 1 ∧ (B.2.1 55 (zb_rD r) = 3 ∨ B.2.1 55 (zb_rD r) = 4))
  ∨ (zb_rK r = 14 ∧ zb_rD r + 2 < zb_rA r ∧ zb_rY r = (zb_rA r : Int) ∧ zb_rQ r = 0 ∧ ∃ q, zb_kX B (zb_rD r) (zb_rA r) q)
  ∨ ((zb_rK r = 2 ∨ (zb_rK r = 3 ∧ zb_rF r = 0)) ∧ zb_rA r = zb_rD r + 3 ∧ zb_rY r = (zb_rA r : Int) ∧ zb_rQ r = 0 ∧ zb_NMD B.1 B.2.1 B.2.2.2.1 (zb_rD r) ∧ zb_kX B (zb_rD r) (zb_rA r) 2)
  ∨ (zb_rK r = 5 ∧ zb_rY r = (zb_rA r : Int) ∧ zb_kB B (zb_rD r) (zb_rA r) (zb_rQ r) ∧ zb_LETX B.1 B.2.1 B.2.2.2.1 B.2.2.2.2 (zb_rD r))
  ∨ ((zb_rK r = 6 ∨ zb_rK r = 8 ∨ zb_rK r = 9 ∨ zb_rK r = 11) ∧ zb_rY r = (zb_rA r : Int) ∧ zb_rQ r = 0 ∧ (∃ q, zb_kX B (zb_rD r) (zb_rA r) q) ∧ zb_rD r + 1 < zb_rA r)
  ∨ (zb_rK r = 7 ∧ zb_rY r = (zb_rA r : Int) ∧ zb_rQ r = 0 ∧ (∃ q, zb_kX B (zb_rD r) (zb_rA r) q) ∧ zb_kX B (zb_rD r) (zb_rD r + 2) 1 ∧ fn_176 (zb_rD r : Int) B.2.1 = some ((zb_rD r + 2 : Nat) : Int))
  ∨ (zb_rK r = 10 ∧ zb_rY r = (zb_rA r : Int) ∧ zb_kX B (zb_rD r) (zb_rA r) (zb_rQ r) ∧ B.2.1 55 (zb_rD r) ≤ 9)
  ∨ (zb_rK r = 13 ∧ zb_rY r = -3 ∧ zb_rQ r = 0)
  ∨ ((zb_rK r = 15 ∨ (zb_rK r = 16 ∧ zb_rY r = -3)) ∧ zb_rQ r = 0)
def zb_ahd (k d : Nat) : Nat := if k = 5 then d + 2 else if k = 10 then d else d + 1
def zb_FRS (B : zb_Bs) (r : zb_Rec) : Prop := zb_rQ r = 0 ∧ ((zb_rK r = 15 ∨ (zb_rK r = 16 ∧ zb_rY r = -3)) ∨
  (∃ ro, (ro = 2 → zb_rF r = 0) ∧ zb_FX B.1 B.2.1 B.2.2.2.1 B.2.2.2.2 (zb_rD r) ro (zb_rK r) ∧ zb_rK r ≠ 0 ∧ zb_rK r ≠ 4 ∧ zb_rK r ≤ 10 ∧ (zb_rK r < 10 → B.1 5 (zb_rD r + 1) = ((zb_rD r + 2 : Nat) : Int)) ∧ zb_rA r = zb_ahd (zb_rK r) (zb_rD r) ∧ zb_rD r + 1 < 20000
    ∧ (zb_rK r = 1 ∨ zb_rK r = 6 ∨ zb_rK r = 7 → zb_rY r = ((zb_rD r + 2 : Nat) : Int)) ∧ (zb_rK r = 2 ∨ zb_rK r = 3 → zb_rY r = ((zb_rD r + 3 : Nat) : Int)) ∧ (zb_rK r = 5 → zb_rY r = B.2.1 51 (zb_rD r + 2)) ∧ (zb_rK r = 8 ∨ zb_rK r = 9 → fn_208 (zb_rD r : Int) B.2.1 = some (zb_rY r)) ∧ (zb_rK r = 10 → zb_rY r = ((zb_rD r + 1 : Nat) : Int))))
def zb_RUNS (B : zb_Bs) (st : List zb_Rec) : Prop := ∀ r, r ∈ st → zb_RUN B r
def zb_NXT (B : zb_Bs) (C R : eM) (H : zb_Hp) (st : List zb_Rec) (g : Int) : Prop := (g = 0 ∧ zb_VR (zb_vo H) (zb_hP H) B.2.2.2.1 (C 44 9) (R 45 70) ∧ zb_RUNS B st) ∨ (g = 1 ∧ ∃ r l, st = r :: l ∧ zb_FRS B r ∧ zb_RUNS B l)
def zb_END (B : zb_Bs) (C R : eM) (k : Int) : Prop := ∃ (H : zb_Hp) (rl ql : List (Nat × Nat)) (fd fu : Nat), zb_GS B C R H rl ql fd ∧ zb_FUE C R fu ∧ C 44 8 = k ∧ R 45 69 = k ∧ 1 ≤ k ∧ k ≤ 12
def zb_RESV (B : zb_Bs) (Q : zb_Pq) (Z sp0 : Nat) (zb_cl : Option eM) (zb_rf : Option (Int × eM)) : Prop :=
  (∃ (C' R' : eM) (H' : zb_Hp) (rl' ql' : List (Nat × Nat)) (fd' : Nat) (st' : List zb_Rec) (fu' sp' : Nat) (g : Int), zb_cl = zb_CL B.2.2.1 Q (sp' : Int) C' ∧ zb_rf = some (g, R') ∧ zb_SX B C' R' H' rl' ql' fd' st' fu' ∧ zb_NXT B C' R' H' st' g ∧ sp0 < sp' ∧ sp' + 20 * fu' + 5 * st'.length ≤ Z)
  ∨ (∃ (C' R' : eM) (k : Int), zb_cl = some C' ∧ zb_rf = some (-1, R') ∧ zb_END B C' R' k)
theorem zb_dep_len {B : zb_Bs} {st : List zb_Rec} {X : Prop} (h : zb_DEP B st) (h2 : zb_nb st ≤ 60 ∧ X) : st.length ≤ 1891 := by
  replace h2 := h2.1
  cases st with
  | nil => simp
  | cons r l => have := h.1; simp only [List.length_cons]; omega
def zb_LOW (C C' R R' : eM) (l : List zb_Rec) : Prop := (∀ c i, c ∈ ([30, 31, 32, 33, 34] : List Nat) → 1 ≤ i → i ≤ l.length → C' c i = C c i) ∧ (∀ i, i < 9 * (l.length + 1) → C' 35 i = C 35 i) ∧ (∀ c t, c ∈ ([78, 79, 80, 81, 82] : List Nat) → t < zb_tt l → R' c t = R c t) ∧ (∀ b, b < zb_bb l → R' 77 b = R 77 b)
theorem zb_low_str {C C' R R' : eM} {H : zb_Hp} {N : Nat} {l : List zb_Rec} (h : zb_LOW C C' R R' l) (s : zb_STR C R H N l) : zb_STR C' R' H N l :=
  zb_str_tr s (fun i a b => ⟨h.1 33 i (by decide) a b, h.1 34 i (by decide) a b, fun j hj => h.2.1 _ (by omega)⟩) (fun t ht => ⟨h.2.2.1 81 t (by decide) ht, h.2.2.1 82 t (by decide) ht⟩) (fun b hb => h.2.2.2 b hb) (fun g hg _ => zb_trg_rfl hg)
theorem zb_low_ctl {C C' R R' : eM} {l : List zb_Rec} (h : zb_LOW C C' R R' l) (s : zb_CTL C R l) : zb_CTL C' R' l :=
  zb_ctl_tr s (fun i a b => ⟨h.1 30 i (by decide) a b, h.1 31 i (by decide) a b, h.1 32 i (by decide) a b⟩) (fun t ht => ⟨h.2.2.1 78 t (by decide) ht, h.2.2.1 79 t (by decide) ht, h.2.2.1 80 t (by decide) ht⟩)
theorem zb_flg_congr {C R C' R' : eM} (h : zb_FLG C R) (h44 : C' 44 8 = 0) (h43 : C' 43 = C 43) (h15 : C' 15 11 = 0 ∧ C' 15 12 = 0) (h36 : C' 36 = C 36) (r : ∀ f, f ∈ ([59, 62, 63] : List Nat) → R' 45 f = R 45 f) : zb_FLG C' R' := by
  obtain ⟨⟨a1, a2, a3, a4, a5⟩, ⟨b1, b2, b3⟩, c⟩ := h
  refine ⟨⟨h44, by rw [h43]; exact a2, by rw [h43]; exact a3, h15.1, h15.2⟩, ⟨by rw [r 59 (by decide)]; exact b1, by rw [r 62 (by decide)]; exact b2, by rw [r 63 (by decide)]; exact b3⟩, fun i hi => by rw [h36]; exact c i hi⟩
def zb_pushC (C : eM) (i : Nat) (k d a f : Int) : eM := eg_u (eg_u (eg_u (eg_u (eg_u (eg_u C 29 0 (i : Int)) 30 i k) 31 i d) 32 i a) 33 i f) 34 i 0
def zb_pushR (R : eM) (t : Nat) (k d w y : Int) : eM := eg_u (eg_u (eg_u (eg_u (eg_u (eg_u R 78 t k) 79 t d) 82 t w) 80 t y) 81 t (R 45 51)) 45 53 ((t + 1 : Nat) : Int)
theorem zb_push_c {C : eM} {n : Nat} {k d a f : Int} (ht : C 29 0 = (n : Int)) (hn : n + 1 < 2000) : fn_113 k d a f C = some (zb_pushC C (n + 1) k d a f) := by
  unfold fn_113 fn_114 zb_pushC
  rw [ht, zb_wi_1 (by omega), if_pos (by omega), if_pos (by omega), Option.bind_some, Int.toNat_natCast, if_pos (show ¬ (1 : Int) = 0 by decide)]
theorem zb_wb_k {k : Int} (h : 0 ≤ k ∧ k < 128) : eg_wb k = k := by unfold eg_wb; omega
theorem zb_push_r {R : eM} {t : Nat} {k d w y : Int} (ht : R 45 53 = (t : Int)) (hn : t < 4400) (hk : 0 ≤ k ∧ k < 128) : fn_209 k d w y R = some (zb_pushR R t k d w y) := by
  unfold fn_209 zb_pushR
  rw [ht, if_pos (by omega), Int.toNat_natCast, zb_wi_1 (by omega), zb_wb_k hk, zb_wb_k hk]
theorem zb_low_push {C R : eM} {l : List zb_Rec} {k d a f k' d' w y : Int} : zb_LOW C (zb_pushC C (l.length + 1) k d a f) R (zb_pushR R (zb_tt l) k' d' w y) l := by
  unfold zb_pushC zb_pushR
  refine ⟨fun c i hc h1 h2 => ?_, fun i hi => ?_, fun c t hc ht => ?_, fun b hb => ?_⟩
  · simp (disch := omega) only [eg_u_nj]
  · simp (disch := omega) only [eg_u_nj]
  · have hne : c ≠ 45 := fun e => by rw [e] at hc; revert hc; decide
    simp (disch := omega) only [eg_u_nj]
  · simp (disch := omega) only [eg_u_nj]
theorem zb_cc_mem {a : Nat} (h : a ∈ ([29, 30, 31, 32, 33, 34, 35, 36, 43, 44] : List Nat)) : a ∈ zb_CC := h
theorem zb_qc_push {C : eM} {i : Nat} {k d a f : Int} : zb_QC C (zb_pushC C i k d a f) := by
  unfold zb_pushC
  exact zb_QC_u (zb_QC_u (zb_QC_u (zb_QC_u (zb_QC_u (zb_QC_u zb_QC_rfl (by decide)) (by decide)) (by decide)) (by decide)) (by decide)) (by decide)
theorem zb_qr_push {R : eM} {t : Nat} {k d w y : Int} : zb_QR2 R (zb_pushR R t k d w y) := by
  unfold zb_pushR
  exact zb_QR_45 (zb_QR_u (zb_QR_u (zb_QR_u (zb_QR_u (zb_QR_u zb_QR_rfl (by decide)) (by decide)) (by decide)) (by decide)) (by decide)) (by decide)
theorem zb_sc_push {B : zb_Bs} {C R : eM} {H : zb_Hp} {rl ql : List (Nat × Nat)} {fd : Nat} {l : List zb_Rec} {r : zb_Rec} (h : zb_SC B C R H rl ql fd l) (hq : zb_rQ r = 0) (hk : zb_rK r ≠ 16) (hf : zb_isF H (zb_rF r)) {d' : Int} (hd' : zb_rK r ≠ 15 → d' = (zb_rD r : Int)) :
    zb_SC B (zb_pushC C (l.length + 1) (zb_cfm (zb_rK r)) (zb_rD r) (zb_rA r) (zb_rF r)) (zb_pushR R (zb_tt l) (zb_rkd (zb_rK r)) d' (zb_frm H (zb_rF r)) (zb_rY r)) H rl ql fd (r :: l) := by
  obtain ⟨g, s, c, fl, t1, t2, t3⟩ := h
  have low : zb_LOW C (zb_pushC C (l.length + 1) (zb_cfm (zb_rK r)) (zb_rD r) (zb_rA r) (zb_rF r)) R (zb_pushR R (zb_tt l) (zb_rkd (zb_rK r)) d' (zb_frm H (zb_rF r)) (zb_rY r)) l := zb_low_push
  refine ⟨zb_gs_congr g zb_qc_push zb_qr_push, ⟨⟨⟨?_, ?_, by omega, hf⟩, ⟨?_, ?_⟩, fun j hj => by omega, fun z => absurd z hk⟩, zb_low_str low s⟩, ⟨⟨⟨?_, ?_, ?_⟩, ⟨?_, ?_, ?_⟩, fun z => absurd z hk⟩, zb_low_ctl low c⟩, zb_flg_congr fl ?_ ?_ ?_ ?_ ?_, ?_, ?_, ?_⟩
  all_goals try unfold zb_pushC
  all_goals try unfold zb_pushR
  · simp (disch := omega) only [eg_u_nj, eg_u_eq]
  · simp (disch := omega) only [eg_u_nj, eg_u_eq]; rw [hq]; rfl
  · simp (disch := omega) only [eg_u_nj, eg_u_eq]
  · simp (disch := omega) only [eg_u_nj, eg_u_eq]; exact t3
  · simp (disch := omega) only [eg_u_nj, eg_u_eq]
  · simp (disch := omega) only [eg_u_nj, eg_u_eq]
  · simp (disch := omega) only [eg_u_nj, eg_u_eq]
  · simp (disch := omega) only [eg_u_nj, eg_u_eq]
  · intro z; simp (disch := omega) only [eg_u_nj, eg_u_eq]; exact hd' z
  · simp (disch := omega) only [eg_u_nj, eg_u_eq]
  · simp (disch := omega) only [eg_u_nj, eg_u_eq]; exact fl.1.1
  · simp (disch := omega) only [eg_u_ne]
  · simp (disch := omega) only [eg_u_nj, eg_u_eq]; exact ⟨fl.1.2.2.2.1, fl.1.2.2.2.2⟩
  · simp (disch := omega) only [eg_u_ne]
  · intro f hf
    have : f ≠ 53 := fun e => by rw [e] at hf; revert hf; decide
    simp (disch := omega) only [eg_u_nj, eg_u_eq]
  · simp (disch := omega) only [eg_u_nj, eg_u_eq]; simp
  · simp (disch := omega) only [eg_u_nj, eg_u_eq]; simp only [zb_tt, if_neg hk]
  · simp (disch := omega) only [eg_u_nj, eg_u_eq]; simp only [zb_bb, hq]; exact t3
theorem zb_sc_keep {B : zb_Bs} {C R C' R' : eM} {H : zb_Hp} {rl ql : List (Nat × Nat)} {fd : Nat} {l : List zb_Rec} (h : zb_SC B C R H rl ql fd l) (hc : ∀ c, c ≠ 44 → C' c = C c) (h8 : C' 44 8 = 0) (h7 : C' 44 7 ≤ C 44 7) (hr : ∀ c, c ≠ 45 → R' c = R c) (hf : ∀ f, f ∉ ([66, 67, 68, 69, 70, 64, 73, 74] : List Nat) → R' 45 f = R 45 f) : zb_SC B C' R' H rl ql fd l := by
  obtain ⟨g, s, c, fl, t1, t2, t3⟩ := h
  have low : zb_LOW C C' R R' l := ⟨fun c i h1 _ _ => by rw [hc c (fun e => by rw [e] at h1; revert h1; decide)], fun i _ => by rw [hc 35 (by decide)], fun c t h1 _ => by rw [hr c (fun e => by rw [e] at h1; revert h1; decide)], fun b _ => by rw [hr 77 (by decide)]⟩
  refine ⟨zb_gs_congr g ⟨fun c c1 c2 => hc c (fun e => c1 (by rw [e]; decide)), fun f _ _ => by rw [hc 15 (by decide)], h7⟩ ⟨fun c _ c2 => hr c c2, fun f f1 => hf f (fun z => f1 ?_)⟩, zb_low_str low s, zb_low_ctl low c, zb_flg_congr fl h8 (hc 43 (by decide)) (by rw [hc 15 (by decide)]; exact ⟨fl.1.2.2.2.1, fl.1.2.2.2.2⟩) (hc 36 (by decide)) (fun f f1 => hf f (fun z => ?_)), by rw [hc 29 (by decide)]; exact t1, by rw [hf 53 (by decide)]; exact t2, by rw [hf 51 (by decide)]; exact t3⟩
  · revert z; simp [zb_RF]; omega
  · revert f1 z; simp; omega
theorem zb_sc_pop {B : zb_Bs} {C R C' R' : eM} {H : zb_Hp} {rl ql : List (Nat × Nat)} {fd : Nat} {r : zb_Rec} {l : List zb_Rec} (h : zb_SC B C R H rl ql fd (r :: l)) (hc : ∀ c, c ≠ 44 → c ≠ 29 → C' c = C c) (h8 : C' 44 8 = 0) (h7 : C' 44 7 ≤ C 44 7) (h29 : C' 29 0 = (l.length : Int)) (hr : ∀ c, c ≠ 45 → R' c = R c) (hf : ∀ f, f ∉ ([51, 53, 66, 67, 68, 69, 70, 64, 73, 74] : List Nat) → R' 45 f = R 45 f) (h53 : R' 45 53 = (zb_tt l : Int)) (h51 : R' 45 51 = (zb_bb l : Int)) : zb_SC B C' R' H rl ql fd l := by
  obtain ⟨g, s, c, fl, t1, t2, t3⟩ := h
  have low : zb_LOW C C' R R' l := ⟨fun c i h1 _ _ => by rw [hc c (fun e => by rw [e] at h1; revert h1; decide) (fun e => by rw [e] at h1; revert h1; decide)], fun i _ => by rw [hc 35 (by decide) (by decide)], fun c t h1 _ => by rw [hr c (fun e => by rw [e] at h1; revert h1; decide)], fun b _ => by rw [hr 77 (by decide)]⟩
  refine ⟨zb_gs_congr g ⟨fun c c1 c2 => hc c (fun e => c1 (by rw [e]; decide)) (fun e => c1 (by rw [e]; decide)), fun f _ _ => by rw [hc 15 (by decide) (by decide)], h7⟩ ⟨fun c _ c2 => hr c c2, fun f f1 => hf f (fun z => f1 ?_)⟩, zb_low_str low s.2, zb_low_ctl low c.2, zb_flg_congr fl h8 (hc 43 (by decide) (by decide)) (by rw [hc 15 (by decide) (by decide)]; exact ⟨fl.1.2.2.2.1, fl.1.2.2.2.2⟩) (hc 36 (by decide) (by decide)) (fun f f1 => hf f (fun z => ?_)), h29, h53, h51⟩
  · revert z; simp [zb_RF]; omega
  · revert f1 z; simp; omega
theorem zb_sc_top {B : zb_Bs} {C R C' R' : eM} {H : zb_Hp} {rl ql : List (Nat × Nat)} {fd : Nat} {r r' : zb_Rec} {l : List zb_Rec} (h : zb_SC B C R H rl ql fd (r :: l)) (qc : zb_QC C C') (qr : zb_QR2 R R') (low : zb_LOW C C' R R' l) (h8 : C' 44 8 = 0) (h43 : C' 43 = C 43) (h15 : C' 15 11 = 0 ∧ C' 15 12 = 0) (h36 : C' 36 = C 36) (zb_rf : ∀ f, f ∈ ([59, 62, 63] : List Nat) → R' 45 f = R 45 f)
    (hro : zb_ROOT C' R' H B.2.2.2.1 r' (l.length + 1) (zb_tt l) (zb_bb l)) (hct : zb_CTR C' R' r' (l.length + 1) (zb_tt l)) (htop : zb_TOPS C' R' (r' :: l)) : zb_SC B C' R' H rl ql fd (r' :: l) := by
  obtain ⟨g, s, c, fl, _⟩ := h
  exact ⟨zb_gs_congr g qc qr, ⟨hro, zb_low_str low s.2⟩, ⟨hct, zb_low_ctl low c.2⟩, zb_flg_congr fl h8 h43 h15 h36 zb_rf, htop⟩
section zb_EV
variable {B : zb_Bs} {Q : zb_Pq} {Z sp0 zb_sp : Nat} {C R C' R' : eM} {H H' : zb_Hp} {rl ql rl' ql' : List (Nat × Nat)} {fd fd' fu fu' : Nat} {st st' : List zb_Rec}
theorem zb_res_go {g : Int} (h : zb_SX B C' R' H' rl' ql' fd' st' fu') (hn : zb_NXT B C' R' H' st' g) (hZ9 : Z ≤ 999990) (h0 : sp0 ≤ zb_sp) (hp : zb_sp + 1 + 20 * fu' + 5 * st'.length ≤ Z) : zb_RESV B Q Z sp0 (zb_AF B.2.2.1 Q (zb_sp : Int) C') (some (g, R')) := by
  have fl := h.1.2.2.2.1
  refine Or.inl ⟨C', R', H', rl', ql', fd', st', fu', zb_sp + 1, g, zb_af_go (by omega) fl.1.1 fl.1.2.2.2.1 fl.1.2.2.1, rfl, h, hn, by omega, hp⟩
theorem zb_res_fault {k : Int} {s : Int} (g : zb_GS B C R H rl ql fd) (qc : zb_QC C C') (qr : zb_QR2 R R') (hf : zb_FUE C' R' fu) (h8 : C' 44 8 = k) (h69 : R' 45 69 = k) (hk : 1 ≤ k ∧ k ≤ 12) : zb_RESV B Q Z sp0 (zb_AF B.2.2.1 Q s C') (some (-1, R')) :=
  Or.inr ⟨C', R', k, zb_af_fault (by rw [h8]; omega), rfl, H, rl, ql, fd, fu, zb_gs_congr g qc qr, hf, h8, h69, hk.1, hk.2⟩
theorem zb_vr_ne {A : Nat → Prop} {p : Nat → Nat} {N : Nat} (hN : N ≤ 444) {v w : Int} (h : zb_VR A p N v w) (hA : ∀ g, A g → g < 20000) : v ≠ 21474836480 ∧ w ≠ -1 := by
  rcases h with h | h | h | h | ⟨n, n1, n2, n3⟩ | ⟨n, n1, n2, n3⟩ | ⟨g, g1, g2, g3⟩
  · omega
  · omega
  · omega
  · omega
  · omega
  · omega
  · have := hA g g1; unfold zb_ov at g3; omega
theorem zb_vr_ne' {cn N : Nat} {lam : Nat → Prop} {scp : Nat → Nat → Prop} (hr : zb_HR C R H cn N lam scp) (hN : N ≤ 444) {v w : Int} (h : zb_VR (zb_vo H) (zb_hP H) N v w) : v ≠ 21474836480 ∧ w ≠ -1 := zb_vr_ne hN h (fun g hg => by have := zb_hr_h hr hg.1; omega)
theorem zb_w208 {C0 R0 : eM} (h : zb_ROWS C R C0 R0) (a : Int) : fn_208 a R = fn_208 a R0 := by
  have e2 := zb_w176 h a
  obtain ⟨_, h1, h2, h3, _, h4, _, h5⟩ := h
  unfold fn_208; rw [h5, e2]
theorem zb_res_val {v w : Int} (h : zb_SX B C R H rl ql fd st fu) (hr : zb_RUNS B st) (hv : zb_VR (zb_vo H) (zb_hP H) B.2.2.2.1 v w) (hZ9 : Z ≤ 999990) (h0 : sp0 ≤ zb_sp) (hp : zb_sp + 20 * fu + 5 * st.length ≤ Z + 10) (hfu : 0 < fu)
    (hc : ∀ c, c ≠ 44 → C' c = C c) (h7 : C' 44 7 = ((fu - 1 : Nat) : Int)) (h8 : C' 44 8 = 0) (h9 : C' 44 9 = v) (h10 : C' 44 10 = C 44 10) (hr' : ∀ c, c ≠ 45 → R' c = R c) (hf : ∀ f, f ≠ 67 → f ≠ 70 → R' 45 f = R 45 f) (r67 : R' 45 67 = ((fu - 1 : Nat) : Int)) (r70 : R' 45 70 = w) : zb_RESV B Q Z sp0 (zb_AF B.2.2.1 Q (zb_sp : Int) C') (some (0, R')) := by
  obtain ⟨s, f, c, d⟩ := h
  refine zb_res_go (fu' := fu - 1) (st' := st) ⟨zb_sc_keep s hc h8 (by rw [h7, f.1]; omega) hr' (fun f hf' => hf f (fun e => hf' (by rw [e]; decide)) (fun e => hf' (by rw [e]; decide))), ⟨h7, r67, ?_⟩, ⟨by rw [h10]; exact c.1, by rw [hf 68 (by decide) (by decide)]; exact c.2.1, c.2.2.1, zb_bud_le c.2.2.2 (hf 42 (by decide) (by decide)) (by rw [r67, f.2.1]; omega)⟩, d⟩ (Or.inl ⟨rfl, by rw [h9, r70]; exact hv, hr⟩) hZ9 h0 (by omega)
  have := f.2.2; omega
theorem zb_ev_poor {d : Nat} {f w : Int} (h : zb_SX B C R H rl ql fd st 0) : zb_RESV B Q Z sp0 ((fn_111 B.2.2.1 (B.2.2.1 / 3 + 1) (d : Int) f C).bind (zb_AF B.2.2.1 Q (zb_sp : Int))) (fn_184 (d : Int) w R) := by
  obtain ⟨s, f, c, d⟩ := h
  have e1 : ∀ a b, fn_111 B.2.2.1 (B.2.2.1 / 3 + 1) a b C = some (eg_u C 44 8 4) := fun a b => by unfold fn_111; rw [if_neg (fun z => z f.1)]
  have e2 : ∀ a b, fn_184 a b R = some (-1, eg_u R 45 69 4) := fun a b => by unfold fn_184 fn_185; rw [if_neg (fun z => z f.2.1), Option.bind_some]
  rw [e1, e2, Option.bind_some]
  exact zb_res_fault (k := 4) (fu := 0) s.1 (zb_QC_u zb_QC_rfl (by decide)) (zb_QR_45 zb_QR_rfl (by decide)) ⟨by rw [eg_u_nj (by omega)]; exact f.1, by rw [eg_u_nj (by omega)]; exact f.2.1, by omega⟩ eg_u_eq eg_u_eq (by decide)
theorem zb_wi_f1 {fu : Nat} (h : 0 < fu) (h2 : fu ≤ 20000) : eg_wi ((fu : Int) - 1) = ((fu - 1 : Nat) : Int) := by unfold eg_wi; omega
theorem zb_ev_atom {d : Nat} {f w : Int} (h : zb_SX B C R H rl ql fd st fu) (hr : zb_RUNS B st) (hd : d < 20000) (hv : zb_vk (C 4 d) (R 49 d) (R 50 d) B.2.2.2.1) (hN : B.2.2.2.1 ≤ 444) (hk : R 49 d = 0 ∨ R 49 d = 1 ∨ R 49 d = 2) (hfu : 0 < fu) (hZ9 : Z ≤ 999990) (h0 : sp0 ≤ zb_sp) (hp : zb_sp + 20 * fu + 5 * st.length ≤ Z + 10) :
    zb_RESV B Q Z sp0 ((fn_111 B.2.2.1 (B.2.2.1 / 3 + 1) (d : Int) f C).bind (zb_AF B.2.2.1 Q (zb_sp : Int))) (fn_184 (d : Int) w R) := by
  have hfu2 := h.2.1
  have htag := zb_vk_tag hv hN
  have e1 : fn_111 B.2.2.1 (B.2.2.1 / 3 + 1) (d : Int) f C = some (eg_u (eg_u C 44 7 ((fu - 1 : Nat) : Int)) 44 9 (C 4 d)) := by
    unfold fn_111
    rw [hfu2.1, zb_wi_f1 hfu hfu2.2.2, if_pos (by omega), if_pos (by omega), Int.toNat_natCast, if_pos (fun z => by have := htag.2.1.mp z; omega)]
    unfold fn_64
    rw [if_pos (by omega), Int.toNat_natCast, eg_u_ne (by decide), if_pos (fun z => by have := htag.1.mp z; omega), Option.bind_some, if_pos rfl]
  have e2 : ∃ w' : Int, fn_184 (d : Int) w R = some (0, eg_u (eg_u R 45 67 ((fu - 1 : Nat) : Int)) 45 70 w') ∧ zb_VR (zb_vo H) (zb_hP H) B.2.2.2.1 (C 4 d) w' := by
    unfold fn_184
    rw [hfu2.2.1, zb_wi_f1 hfu hfu2.2.2, if_pos (by omega), if_pos (by omega), Int.toNat_natCast]
    rcases hk with hk | hk | hk
    · rw [if_pos hk]
      have hb : -2147483648 ≤ R 50 d ∧ R 50 d < 2147483648 ∧ C 4 d = R 50 d % 4294967296 := by unfold zb_vk at hv; omega
      refine ⟨_, rfl, Or.inl ?_⟩
      rw [zb_land_low (by omega)]; omega
    · rw [if_neg (by omega), if_pos hk, if_neg (by omega)]
      exact ⟨_, rfl, Or.inr (Or.inr (Or.inl ⟨by unfold zb_vk at hv; omega, rfl⟩))⟩
    · rw [if_neg (by omega), if_neg (by omega), if_pos hk, if_pos (by omega)]
      exact ⟨_, rfl, Or.inr (Or.inl ⟨by unfold zb_vk at hv; omega, rfl⟩)⟩
  obtain ⟨w', e2, hvr⟩ := e2
  rw [e1, e2, Option.bind_some]
  refine zb_res_val h hr hvr hZ9 h0 hp hfu (fun c hc => ?_) ?_ ?_ eg_u_eq ?_ (fun c hc => ?_) (fun f f1 f2 => ?_) ?_ eg_u_eq
  · rw [eg_u_ne hc, eg_u_ne hc]
  · rw [eg_u_nj (by omega), eg_u_eq]
  · rw [eg_u_nj (by omega), eg_u_nj (by omega)]; exact h.1.2.2.2.1.1.1
  · rw [eg_u_nj (by omega), eg_u_nj (by omega)]
  · rw [eg_u_ne hc, eg_u_ne hc]
  · rw [eg_u_nj (by omega), eg_u_nj (by omega)]
  · rw [eg_u_nj (by omega), eg_u_eq]
theorem zb_wi_sy {n : Nat} (h : n < 444) : eg_wi (8589934592 + (n : Int)) = (n : Int) := by unfold eg_wi; omega
theorem zb_wi_3q {q : Nat} (h : q < 1000) : eg_wi (3 + (q : Int)) = ((3 + q : Nat) : Int) := by unfold eg_wi; omega
theorem zb_wi_1q {q : Nat} (h : q < 1000) : eg_wi (1 + (q : Int)) = ((1 + q : Nat) : Int) := by unfold eg_wi; omega
theorem zb_td8 {g q : Nat} (hg : g < 20000) (hq : q < 8) : eg_wi (Int.tdiv ((g * 8 + q : Nat) : Int) 8) = (g : Int) ∧ eg_wi (((g * 8 + q : Nat) : Int) - (g : Int) * 8) = (q : Int) := by
  have : Int.tdiv ((g * 8 + q : Nat) : Int) 8 = (g : Int) := by
    rw [Int.tdiv_eq_ediv_of_nonneg (by omega)]; omega
  rw [this]
  constructor
  · exact zb_wi_n (by omega)
  · unfold eg_wi; omega
theorem zb_ev_name {d f n : Nat} (h : zb_SX B C R H rl ql fd st fu) (hr : zb_RUNS B st) (hd : d < 20000) (h49 : R 49 d = 3) (h50 : R 50 d = (n : Int)) (h4 : C 4 d = 8589934592 + (n : Int)) (hn : n < B.2.2.2.1) (hf : zb_isF H f) (hfu : 0 < fu) (hZ9 : Z ≤ 999990) (h0 : sp0 ≤ zb_sp) (hp : zb_sp + 20 * fu + 5 * st.length ≤ Z + 10) :
    zb_RESV B Q Z sp0 ((fn_111 B.2.2.1 (B.2.2.1 / 3 + 1) (d : Int) (f : Int) C).bind (zb_AF B.2.2.1 Q (zb_sp : Int))) (fn_184 (d : Int) (zb_frm H f) R) := by
  have hfu2 := h.2.1
  obtain ⟨hN, _, _⟩ := zb_gs_N h.1.1
  have hsh : eb_lshr (8589934592 + (n : Int)) 32 = 2 := zb_sh32 (by omega) (by omega)
  have g1 : zb_GS B (eg_u C 44 7 ((fu - 1 : Nat) : Int)) (eg_u R 45 67 ((fu - 1 : Nat) : Int)) H rl ql fd := zb_gs_congr h.1.1 (zb_QC_f zb_QC_rfl (by rw [hfu2.1]; omega)) (zb_QR_45 zb_QR_rfl (by decide))
  have hfl := h.1.2.2.2.1
  have e1 : fn_111 B.2.2.1 (B.2.2.1 / 3 + 1) (d : Int) (f : Int) C = ((fn_115 B.2.2.1 (B.2.2.1 / 3 + 1) (d : Int) (f : Int) (eg_u C 44 7 ((fu - 1 : Nat) : Int))).bind fun r10 =>
          if r10 < 0 then
            if ¬ C 37 n = 21474836480 then
                some (eg_u (eg_u (eg_u C 44 7 ((fu - 1 : Nat) : Int)) 44 9 (C 37 n)) 44 8 0)
              else
                some (eg_u (eg_u (eg_u C 44 7 ((fu - 1 : Nat) : Int)) 44 9 (C 37 n)) 44 8 5)
          else
            (fn_78 B.2.2.1 (B.2.2.1 / 3 + 1) (eg_wi (Int.tdiv r10 8)) (eg_wi (3 + (eg_wi (r10 - eg_wi (Int.tdiv r10 8) * 8)))) (eg_u C 44 7 ((fu - 1 : Nat) : Int))).bind fun r17 =>
            if ¬ r17 = 21474836480 then
              some (eg_u (eg_u (eg_u C 44 7 ((fu - 1 : Nat) : Int)) 44 9 r17) 44 8 0)
            else
              some (eg_u (eg_u (eg_u C 44 7 ((fu - 1 : Nat) : Int)) 44 9 r17) 44 8 5)) := by
    unfold fn_111
    rw [hfu2.1, zb_wi_f1 hfu hfu2.2.2, if_pos (by omega), if_pos (by omega), Int.toNat_natCast, h4, if_pos (by omega)]
    unfold fn_64
    rw [if_pos (by omega), Int.toNat_natCast, eg_u_ne (by decide), h4, hsh, if_neg (fun z => z rfl), Option.bind_some, if_neg (by decide), zb_wi_sy (by omega), if_pos (by omega), Int.toNat_natCast]
  have e2 : fn_184 (d : Int) (zb_frm H f) R = ((fn_186 (zb_frm H f) (n : Int) (eg_u R 45 67 ((fu - 1 : Nat) : Int))).bind fun r10 =>
        if r10 = (-1) then
          if ¬ R 72 n = (-1) then
              some (0, eg_u (eg_u R 45 67 ((fu - 1 : Nat) : Int)) 45 70 (R 72 n))
            else
              some (-1, eg_u (eg_u (eg_u R 45 67 ((fu - 1 : Nat) : Int)) 45 70 (R 72 n)) 45 69 5)
        else
          (fn_187 r10 (eg_u R 45 67 ((fu - 1 : Nat) : Int))).bind fun r20 =>
          if 0 ≤ r20 ∧ r20 < 6700 then
          (fn_188 (R 64 (r20).toNat) (n : Int) (eg_u R 45 67 ((fu - 1 : Nat) : Int))).bind fun r25 =>
            (fn_189 r10 (eg_wi (1 + r25)) (eg_u R 45 67 ((fu - 1 : Nat) : Int))).bind fun r28 =>
            if ¬ r28 = (-1) then
              some (0, eg_u (eg_u R 45 67 ((fu - 1 : Nat) : Int)) 45 70 r28)
            else
              some (-1, eg_u (eg_u (eg_u R 45 67 ((fu - 1 : Nat) : Int)) 45 70 r28) 45 69 5)
          else none) := by
    unfold fn_184 fn_185
    rw [hfu2.2.1, zb_wi_f1 hfu hfu2.2.2, if_pos (by omega), if_pos (by omega), Int.toNat_natCast, if_neg (by omega), if_neg (by omega), if_neg (by omega), if_pos h49, h50, if_pos (by omega), Int.toNat_natCast]
    rfl
  have fin : ∀ v w : Int, zb_VR (zb_vo H) (zb_hP H) B.2.2.2.1 v w → zb_RESV B Q Z sp0 (zb_AF B.2.2.1 Q (zb_sp : Int) (eg_u (eg_u (eg_u C 44 7 ((fu - 1 : Nat) : Int)) 44 9 v) 44 8 0)) (some (0, eg_u (eg_u R 45 67 ((fu - 1 : Nat) : Int)) 45 70 w)) := by
    intro v w hvr
    refine zb_res_val h hr hvr hZ9 h0 hp hfu (fun c hc => ?_) ?_ eg_u_eq ?_ ?_ (fun c hc => ?_) (fun f f1 f2 => ?_) ?_ eg_u_eq
    · rw [eg_u_ne hc, eg_u_ne hc, eg_u_ne hc]
    · rw [eg_u_nj (by omega), eg_u_nj (by omega), eg_u_eq]
    · rw [eg_u_nj (by omega), eg_u_eq]
    · rw [eg_u_nj (by omega), eg_u_nj (by omega), eg_u_nj (by omega)]
    · rw [eg_u_ne hc, eg_u_ne hc]
    · rw [eg_u_nj (by omega), eg_u_nj (by omega)]
    · rw [eg_u_nj (by omega), eg_u_eq]
  rcases zb_find_ok (zb_gs_hr g1) hN (zb_gs_w g1) (n := n) hd (by rw [eg_u_ne (by decide)]; exact h4) (x1 := 0) (x2 := 0) _ f rfl hf with ⟨c1, r1⟩ | ⟨g, q, k1, k2, k3, k4, c1, r1, r2⟩
  · rw [e1, c1, Option.bind_some, if_pos (by decide), e2, r1, Option.bind_some, if_pos rfl]
    rcases zb_gs_gl h.1.1 (n := n) (by omega) with ⟨_, hv⟩ | ⟨hv1, hv2⟩
    · have hne := zb_vr_ne' (zb_gs_hr h.1.1) hN hv
      rw [if_pos hne.1, if_pos hne.2, Option.bind_some]
      exact fin _ _ hv
    · rw [hv1, hv2, if_neg (fun z => z rfl), if_neg (fun z => z rfl), Option.bind_some]
      refine zb_res_fault (k := 5) (fu := fu - 1) h.1.1 (zb_QC_u (zb_QC_u (zb_QC_f zb_QC_rfl (by rw [hfu2.1]; omega)) (by decide)) (by decide)) (zb_QR_45 (zb_QR_45 (zb_QR_45 zb_QR_rfl (by decide)) (by decide)) (by decide)) ⟨?_, ?_, by have := hfu2.2.2; omega⟩ eg_u_eq eg_u_eq (by decide)
      · rw [eg_u_nj (by omega), eg_u_nj (by omega), eg_u_eq]
      · rw [eg_u_nj (by omega), eg_u_nj (by omega), eg_u_eq]
  · have hgb := zb_hr_h (zb_gs_hr g1) k1
    have hgp := zb_hr_p (zb_gs_hr g1) k1
    have o4 := (zb_hr_ob (zb_gs_hr g1) k1).2.2.2.1
    have o5 := (zb_hr_ob (zb_gs_hr g1) k1).2.2.2.2.1
    have hz : zb_hZ H g ≤ 11 := by unfold zb_szk at o4; omega
    have hj : 1 + q < zb_nf (zb_hK H g) (zb_hZ H g) := by rw [k2]; simp [zb_nf]; omega
    have hl : ¬ zb_isl (zb_hK H g) (1 + q) := by rw [k2]; intro z; rcases z with ⟨_, z⟩ | z | ⟨z, _⟩ <;> omega
    have hv := (o5 (1 + q) hj).2 hl
    have ecf : zb_cf (eg_u C 44 7 ((fu - 1 : Nat) : Int)) H g (1 + q) = C 16 (zb_hS H g + (3 + q)) := by
      unfold zb_cf; rw [if_neg hl, k2, eg_u_ne (by decide)]
      show C 16 (zb_hS H g + (2 + (1 + q))) = _
      rw [show 2 + (1 + q) = 3 + q by omega]
    rw [ecf] at hv
    have hg20 : g < 20000 := by omega
    have hget : fn_78 B.2.2.1 (B.2.2.1 / 3 + 1) (g : Int) ((3 + q : Nat) : Int) (eg_u C 44 7 ((fu - 1 : Nat) : Int)) = some (C 16 (zb_hS H g + (3 + q))) := by
      have := zb_hr_get (zb_gs_hr g1) (M := eg_u C 44 7 ((fu - 1 : Nat) : Int)) rfl rfl k1 (i := 3 + q) (by omega)
      rw [this, eg_u_ne (by decide)]
    have hgr := zb_hr_getr (zb_gs_hr g1) (M := eg_u R 45 67 ((fu - 1 : Nat) : Int)) rfl rfl rfl k1 hj
    have hne := zb_vr_ne' (zb_gs_hr g1) hN hv
    have r2' : fn_188 (R 64 (zb_hP H g)) (n : Int) (eg_u R 45 67 ((fu - 1 : Nat) : Int)) = some (q : Int) := by rw [← r2, eg_u_ne (by decide)]
    rw [e1, c1, Option.bind_some, if_neg (by omega), (zb_td8 hg20 k3).1, (zb_td8 hg20 k3).2, zb_wi_3q (by omega), hget, Option.bind_some, if_pos hne.1, Option.bind_some]
    rw [e2, r1, Option.bind_some, if_neg (by unfold zb_ov; omega), zb_f187 hgp, Option.bind_some, if_pos (by omega), Int.toNat_natCast, r2', Option.bind_some, zb_wi_1q (by omega), hgr, Option.bind_some, if_pos hne.2]
    exact fin _ _ hv
end zb_EV
section zb_EV
variable {B : zb_Bs} {Q : zb_Pq} {Z sp0 zb_sp : Nat} {C R C' R' : eM} {H H' : zb_Hp} {rl ql rl' ql' : List (Nat × Nat)} {fd fd' fu fu' : Nat} {st st' : List zb_Rec}
theorem zb_ev_form {d f ro k : Nat} (h : zb_SX B C R H rl ql fd st fu) (hr : zb_RUNS B st) (hd : d + 1 < 20000) (h49 : R 49 d = 4) (h4 : C 4 d = 25769803776) (hk : k ≤ 10) (hk0 : k ≠ 0) (hk4 : k ≠ 4) (h59 : fn_59 (d : Int) B.1 = some (k : Int)) (h175 : fn_175 (d : Int) B.2.1 = some (if k = 10 then -1 else (k : Int)))
    (hx : zb_FX B.1 B.2.1 B.2.2.2.1 B.2.2.2.2 d ro k) (h5 : k < 10 → B.1 5 (d + 1) = ((d + 2 : Nat) : Int)) (hf : zb_isF H f) (hro : ro = 2 → f = 0) {dp : Nat} (hdp : B.1 6 d = (dp : Int)) (hdp2 : dp ≤ 30) (hdep : st.length + 1 ≤ 31 * zb_nb st + dp + 1) (hfu : 0 < fu) (hZ9 : Z ≤ 999990) (h0 : sp0 ≤ zb_sp) (hp : zb_sp + 20 * fu + 5 * st.length ≤ Z + 10) :
    zb_RESV B Q Z sp0 ((fn_111 B.2.2.1 (B.2.2.1 / 3 + 1) (d : Int) (f : Int) C).bind (zb_AF B.2.2.1 Q (zb_sp : Int))) (fn_184 (d : Int) (zb_frm H f) R) := by
  have hfu2 := h.2.1
  have g1 : zb_SC B (eg_u C 44 7 ((fu - 1 : Nat) : Int)) (eg_u R 45 67 ((fu - 1 : Nat) : Int)) H rl ql fd st := zb_sc_keep h.1 (fun c hc => eg_u_ne hc) (by rw [eg_u_nj (by omega)]; exact h.1.2.2.2.1.1.1) (by rw [eg_u_eq, hfu2.1]; omega) (fun c hc => eg_u_ne hc) (fun f hf => eg_u_nj (fun z => hf (by rw [z.2]; decide)))
  have w1 := zb_gs_w g1.1
  have hlen := zb_dep_len h.2.2.2 h.2.2.1.2.2
  have htl := zb_tt_le (l := st)
  have hA : fn_112 (k : Int) (d : Int) (eg_u C 44 7 ((fu - 1 : Nat) : Int)) = some ((zb_ahd k d : Nat) : Int) := by
    unfold fn_112 zb_ahd
    rw [if_neg (by omega)]
    by_cases z5 : k = 5
    · rw [if_pos (by omega), if_pos z5, show eg_wi ((d : Int) + 2) = ((d + 2 : Nat) : Int) by unfold eg_wi; omega]
    · by_cases z10 : k = 10
      · rw [if_neg (by omega), if_neg z5, if_pos (by omega), if_pos z10]
      · rw [if_neg (by omega), if_neg z5, if_neg (by omega), if_neg z10, zb_wi_1 (by omega)]
  have e1 : fn_111 B.2.2.1 (B.2.2.1 / 3 + 1) (d : Int) (f : Int) C = some (zb_pushC (eg_u C 44 7 ((fu - 1 : Nat) : Int)) (st.length + 1) (k : Int) (d : Int) ((zb_ahd k d : Nat) : Int) (f : Int)) := by
    unfold fn_111
    rw [hfu2.1, zb_wi_f1 hfu hfu2.2.2, if_pos (by omega), if_pos (by omega), Int.toNat_natCast, h4, if_neg (fun z => z rfl), zb_w59 w1, h59, Option.bind_some, hA, Option.bind_some, zb_push_c (n := st.length) g1.2.2.2.2.1 (by omega), Option.bind_some]
  have e2 : ∃ y : Int, fn_184 (d : Int) (zb_frm H f) R = some (1, zb_pushR (eg_u R 45 67 ((fu - 1 : Nat) : Int)) (zb_tt st) (k : Int) (d : Int) (zb_frm H f) y)
      ∧ (k = 1 ∨ k = 6 ∨ k = 7 → y = ((d + 2 : Nat) : Int)) ∧ (k = 2 ∨ k = 3 → y = ((d + 3 : Nat) : Int)) ∧ (k = 5 → y = B.2.1 51 (d + 2)) ∧ (k = 8 ∨ k = 9 → fn_208 (d : Int) B.2.1 = some y) ∧ (k = 10 → y = ((d + 1 : Nat) : Int)) := by
    have hpu : ∀ y : Int, fn_209 (k : Int) (d : Int) (zb_frm H f) y (eg_u R 45 67 ((fu - 1 : Nat) : Int)) = some (zb_pushR (eg_u R 45 67 ((fu - 1 : Nat) : Int)) (zb_tt st) (k : Int) (d : Int) (zb_frm H f) y) := fun y => zb_push_r (t := zb_tt st) g1.2.2.2.2.2.1 (by omega) (by omega)
    have e184 : fn_184 (d : Int) (zb_frm H f) R = (fn_191 (d : Int) (zb_frm H f) (eg_u R 45 67 ((fu - 1 : Nat) : Int))).bind fun r35 => some (r35.1, r35.2) := by
      unfold fn_184
      rw [hfu2.2.1, zb_wi_f1 hfu hfu2.2.2, if_pos (by omega), if_pos (by omega), Int.toNat_natCast, if_neg (by omega), if_neg (by omega), if_neg (by omega), if_neg (by omega)]
    rw [e184]
    unfold fn_191
    rw [zb_w175 w1, h175, Option.bind_some]
    rcases hx with ⟨z, _⟩ | ⟨z, x1, x2, x3⟩ | ⟨z, ⟨x1, x2, x3, x4⟩, x5⟩ | ⟨z, _⟩ | ⟨z, n, x, x1, x2, _⟩ | ⟨z, x1, x2, x3⟩ | ⟨z, x1⟩ | ⟨z, x1, x2, x3⟩
    · exact absurd z hk0
    · subst z
      rw [if_neg (show ¬ (1 : Nat) = 10 by decide), if_neg (by decide), if_pos (by decide), zb_w208 w1, x2, Option.bind_some, hpu, Option.bind_some, Option.bind_some]
      exact ⟨_, rfl, fun _ => rfl, fun z => by omega, fun z => by omega, fun z => by omega, fun z => by omega⟩
    · have e53 : ∀ j, (eg_u R 45 67 ((fu - 1 : Nat) : Int)) 53 j = B.2.1 53 j := fun j => by rw [w1.2.2.2.2.2.1]
      rcases z with z | ⟨z, _⟩ <;> subst z
      · rw [if_neg (show ¬ (2 : Nat) = 10 by decide), if_neg (by decide), if_neg (by decide), if_pos (by decide), zb_w176 w1, x1, Option.bind_some, if_pos (by omega), hpu, Option.bind_some, Option.bind_some, Int.toNat_natCast, e53]
        exact ⟨_, rfl, fun z => by omega, fun z => x3, fun z => by omega, fun z => by omega, fun z => by omega⟩
      · rw [if_neg (show ¬ (3 : Nat) = 10 by decide), if_neg (by decide), if_neg (by decide), if_neg (by decide), if_pos (by decide), zb_w176 w1, x1, Option.bind_some, if_pos (by omega), hpu, Option.bind_some, Option.bind_some, Int.toNat_natCast, e53]
        exact ⟨_, rfl, fun z => by omega, fun z => x3, fun z => by omega, fun z => by omega, fun z => by omega⟩
    · exact absurd z hk4
    · subst z
      have e51 : ∀ j, (eg_u R 45 67 ((fu - 1 : Nat) : Int)) 51 j = B.2.1 51 j := fun j => by rw [w1.2.2.2.1]
      rw [if_neg (show ¬ (5 : Nat) = 10 by decide), if_neg (by decide), if_neg (by decide), if_neg (by decide), if_neg (by decide), if_neg (by decide), if_pos (by decide), zb_w176 w1, x1, Option.bind_some, if_pos (by omega), show (5 : Int) = ((5 : Nat) : Int) by rfl, hpu, Option.bind_some, Option.bind_some, Int.toNat_natCast, e51]
      exact ⟨_, rfl, fun z => by omega, fun z => by omega, fun z => rfl, fun z => by omega, fun z => by omega⟩
    · rcases z with z | z <;> subst z
      · rw [if_neg (show ¬ (6 : Nat) = 10 by decide), if_neg (by decide), if_neg (by decide), if_neg (by decide), if_neg (by decide), if_neg (by decide), if_neg (by decide), if_pos (by decide), zb_w208 w1, x2, Option.bind_some, hpu, Option.bind_some, Option.bind_some]
        exact ⟨_, rfl, fun _ => rfl, fun z => by omega, fun z => by omega, fun z => by omega, fun z => by omega⟩
      · rw [if_neg (show ¬ (7 : Nat) = 10 by decide), if_neg (by decide), if_neg (by decide), if_neg (by decide), if_neg (by decide), if_neg (by decide), if_neg (by decide), if_neg (by decide), if_pos (by decide), zb_w208 w1, x2, Option.bind_some, hpu, Option.bind_some, Option.bind_some]
        exact ⟨_, rfl, fun _ => rfl, fun z => by omega, fun z => by omega, fun z => by omega, fun z => by omega⟩
    · have h208 : ∃ y, fn_208 (d : Int) B.2.1 = some y := by rcases x1 with ⟨a, _⟩ | ⟨_, a⟩ <;> exact ⟨_, a⟩
      obtain ⟨y, hy⟩ := h208
      rcases z with z | z <;> subst z
      · rw [if_neg (show ¬ (8 : Nat) = 10 by decide), if_neg (by decide), if_neg (by decide), if_neg (by decide), if_neg (by decide), if_neg (by decide), if_neg (by decide), if_neg (by decide), if_neg (by decide), if_pos (by decide), zb_w208 w1, hy, Option.bind_some, hpu, Option.bind_some, Option.bind_some]
        exact ⟨y, rfl, fun z => by omega, fun z => by omega, fun z => by omega, fun z => rfl, fun z => by omega⟩
      · rw [if_neg (show ¬ (9 : Nat) = 10 by decide), if_neg (by decide), if_neg (by decide), if_neg (by decide), if_neg (by decide), if_neg (by decide), if_neg (by decide), if_neg (by decide), if_neg (by decide), if_neg (by decide), if_pos (by decide), zb_w208 w1, hy, Option.bind_some, hpu, Option.bind_some, Option.bind_some]
        exact ⟨y, rfl, fun z => by omega, fun z => by omega, fun z => by omega, fun z => rfl, fun z => by omega⟩
    · subst z
      have e51 : ∀ j, (eg_u R 45 67 ((fu - 1 : Nat) : Int)) 51 j = B.2.1 51 j := fun j => by rw [w1.2.2.2.1]
      rw [if_pos rfl, if_neg (by decide), if_neg (by decide), if_neg (by decide), if_neg (by decide), if_neg (by decide), if_neg (by decide), if_neg (by decide), if_neg (by decide), if_neg (by decide), if_neg (by decide), if_pos (by omega), show (10 : Int) = ((10 : Nat) : Int) by rfl, hpu, Option.bind_some, Option.bind_some, Int.toNat_natCast, e51]
      exact ⟨_, rfl, fun z => by omega, fun z => by omega, fun z => by omega, fun z => by omega, fun z => x2⟩
  obtain ⟨y, e2, y1, y2, y3, y4, y5⟩ := e2
  have hcf : zb_cfm k = (k : Int) := by unfold zb_cfm; rw [if_neg (by omega), if_neg (by omega), if_neg (by omega)]
  have hrk : zb_rkd k = (k : Int) := by unfold zb_rkd; rw [if_neg (by omega), if_neg (by omega)]
  have key := zb_sc_push (r := (k, d, zb_ahd k d, y, 0, f)) (d' := (d : Int)) g1 rfl (show k ≠ 16 by omega) hf (fun _ => rfl)
  have hcf' : zb_cfm (zb_rK (k, d, zb_ahd k d, y, 0, f)) = (k : Int) := hcf
  have hrk' : zb_rkd (zb_rK (k, d, zb_ahd k d, y, 0, f)) = (k : Int) := hrk
  rw [hcf', hrk'] at key
  have hnb : zb_nb ((k, d, zb_ahd k d, y, 0, f) :: st) = zb_nb st := by
    show zb_nb st + (if k = 11 then 1 else 0) = zb_nb st
    rw [if_neg (by omega)]; rfl
  have hdd : zb_dd B (k, d, zb_ahd k d, y, 0, f) = dp := by
    show (if k = 15 then 0 else (B.1 6 d).toNat) = dp
    rw [if_neg (by omega), hdp]; rfl
  rw [e1, e2, Option.bind_some]
  refine zb_res_go (fu' := fu - 1) (st' := (k, d, zb_ahd k d, y, 0, f) :: st) ⟨key, ⟨?_, ?_, ?_⟩, ⟨?_, ?_, ?_⟩, ⟨?_, ?_⟩, h.2.2.2⟩ (Or.inr ⟨rfl, _, _, rfl, ⟨rfl, Or.inr ⟨ro, hro, hx, hk0, hk4, hk, h5, rfl, hd, y1, y2, y3, y4, y5⟩⟩, hr⟩) hZ9 h0 (by simp only [List.length_cons]; omega)
  · unfold zb_pushC; simp (disch := omega) only [eg_u_nj, eg_u_eq]
  · unfold zb_pushR; simp (disch := omega) only [eg_u_nj, eg_u_eq]
  · have := hfu2.2.2; omega
  · rw [hnb]; unfold zb_pushC; simp (disch := omega) only [eg_u_nj, eg_u_eq]; exact h.2.2.1.1
  · rw [hnb]; unfold zb_pushR; simp (disch := omega) only [eg_u_nj, eg_u_eq]; exact h.2.2.1.2.1
  · rw [hnb]
    refine ⟨h.2.2.1.2.2.1, zb_bud_le h.2.2.1.2.2.2 ?_ ?_⟩
    · unfold zb_pushR; simp (disch := omega) only [eg_u_nj, eg_u_eq]
    · have e67 : zb_pushR (eg_u R 45 67 ((fu - 1 : Nat) : Int)) (zb_tt st) (k : Int) (d : Int) (zb_frm H f) y 45 67 = ((fu - 1 : Nat) : Int) := by unfold zb_pushR; simp (disch := omega) only [eg_u_nj, eg_u_eq]
      have := (zb_nc_le (r := (k, d, zb_ahd k d, y, 0, f)) (l := st)).2
      show zb_pushR (eg_u R 45 67 ((fu - 1 : Nat) : Int)) (zb_tt st) (k : Int) (d : Int) (zb_frm H f) y 45 67 + _ ≤ _
      rw [e67, hfu2.2.1]; omega
  · rw [hnb, hdd]; exact hdep
  · rw [hdd]; exact hdp2
end zb_EV
