def zb_EVOK (B : zb_Bs) (Q : zb_Pq) (Z : Nat) : Prop := ∀ (sp0 zb_sp : Nat) (C R : eM) (H : zb_Hp) (rl ql : List (Nat × Nat)) (fd fu : Nat) (st : List zb_Rec) (d f ro : Nat), zb_SX B C R H rl ql fd st fu → zb_RUNS B st → zb_eX B d ro → zb_isF H f → (ro = 2 → f = 0) → (∀ dp : Nat, B.1 6 d = (dp : Int) → st.length + 1 ≤ 31 * zb_nb st + dp + 1) → sp0 ≤ zb_sp → zb_sp + 20 * fu + 5 * st.length ≤ Z + 10 →
  zb_RESV B Q Z sp0 ((fn_111 B.2.2.1 (B.2.2.1 / 3 + 1) (d : Int) (f : Int) C).bind (zb_AF B.2.2.1 Q (zb_sp : Int))) (fn_184 (d : Int) (zb_frm H f) R)
def zb_STP (B : zb_Bs) (Q : zb_Pq) (Z zb_sp : Nat) (C R : eM) (y : Int) : Prop := ∀ x0 : Int, ∃ zb_rf : Option (Int × eM), fn_210_13 x0 y R = (zb_rf.bind fun r => some (.inl (r.1, r.2))) ∧ zb_RESV B Q Z zb_sp (zb_CL B.2.2.1 Q (zb_sp : Int) C) zb_rf
section STPS
variable {B : zb_Bs} {Q : zb_Pq} {Z sp0 zb_sp : Nat} {C R C' R' : eM} {H : zb_Hp} {rl ql : List (Nat × Nat)} {fd fu : Nat} {st l : List zb_Rec} {r r' : zb_Rec}
theorem zb_sx_ctl (h : zb_SX B C R H rl ql fd (r :: l) fu) (hc : ∀ c, c ∉ ([30, 31, 32] : List Nat) → C' c = C c) (hc2 : ∀ c i, c ∈ ([30, 31, 32] : List Nat) → i ≠ l.length + 1 → C' c i = C c i) (hr : ∀ c, c ∉ ([78, 79, 80] : List Nat) → R' c = R c) (hr2 : ∀ c t, c ∈ ([78, 79, 80] : List Nat) → t ≠ zb_tt l → R' c t = R c t)
    (zb_ct : zb_CTR C' R' r' (l.length + 1) (zb_tt l)) (e1 : zb_rQ r' = zb_rQ r) (e2 : zb_rF r' = zb_rF r) (e3 : zb_rD r' = zb_rD r) (e4 : (zb_rK r' = 16 ↔ zb_rK r = 16) ∧ (zb_rK r' = 11 ↔ zb_rK r = 11) ∧ (zb_rK r' = 15 ↔ zb_rK r = 15) ∧ (zb_rK r' = 10 → zb_rK r = 10)) : zb_SX B C' R' H rl ql fd (r' :: l) fu := by
  obtain ⟨⟨g, s, c, fl, t1, t2, t3⟩, f, ca, dp⟩ := h
  have low : zb_LOW C C' R R' l := by
    refine ⟨fun c i h1 h2 h3 => ?_, fun i _ => by rw [hc 35 (by decide)], fun c t h1 h2 => ?_, fun b _ => by rw [hr 77 (by decide)]⟩
    · by_cases hm : c ∈ ([30, 31, 32] : List Nat)
      · exact hc2 c i hm (by omega)
      · rw [hc c hm]
    · by_cases hm : c ∈ ([78, 79, 80] : List Nat)
      · exact hr2 c t hm (by omega)
      · rw [hr c hm]
  have hnb : zb_nb (r' :: l) = zb_nb (r :: l) := by
    simp only [zb_nb]
    by_cases hq : zb_rK r = 11
    · rw [if_pos hq, if_pos (e4.2.1.mpr hq)]
    · rw [if_neg hq, if_neg (fun z => hq (e4.2.1.mp z))]
  have htt : zb_tt (r' :: l) = zb_tt (r :: l) := by
    simp only [zb_tt]
    by_cases hq : zb_rK r = 16
    · rw [if_pos hq, if_pos (e4.1.mpr hq)]
    · rw [if_neg hq, if_neg (fun z => hq (e4.1.mp z))]
  have hbb : zb_bb (r' :: l) = zb_bb (r :: l) := by simp only [zb_bb]; rw [e1]
  have hdd : zb_dd B r' = zb_dd B r := by
    unfold zb_dd
    by_cases hq : zb_rK r = 15
    · rw [if_pos hq, if_pos (e4.2.2.1.mpr hq)]
    · rw [if_neg hq, if_neg (fun z => hq (e4.2.2.1.mp z)), e3]
  have hroot : zb_ROOT C' R' H B.2.2.2.1 r' (l.length + 1) (zb_tt l) (zb_bb l) := by
    have := s.1
    unfold zb_ROOT at this ⊢
    rw [e1, e2, hc 33 (by decide), hc 34 (by decide), hc 35 (by decide), hr 81 (by decide), hr 82 (by decide), hr 77 (by decide)]
    exact ⟨this.1, this.2.1, this.2.2.1, fun z => this.2.2.2 (e4.1.mp z)⟩
  refine ⟨zb_sc_top ⟨g, s, c, fl, t1, t2, t3⟩ ⟨fun c c1 c2 => hc c (fun z => c1 ?_), fun f _ _ => by rw [hc 15 (by decide)], by rw [hc 44 (by decide)]; exact Int.le_refl _⟩ ⟨fun c c1 c2 => hr c (fun z => c1 ?_), fun f _ => by rw [hr 45 (by decide)]⟩ low ?_ (hc 43 (by decide)) ?_ (hc 36 (by decide)) (fun f _ => by rw [hr 45 (by decide)]) hroot zb_ct ⟨?_, ?_, ?_⟩, ?_, ?_, ?_, dp.2⟩
  · revert z; simp [zb_CC]; omega
  · revert z; simp [zb_RC]; omega
  · rw [hc 44 (by decide)]; exact fl.1.1
  · rw [hc 15 (by decide)]; exact ⟨fl.1.2.2.2.1, fl.1.2.2.2.2⟩
  · rw [hc 29 (by decide)]; exact t1
  · rw [hr 45 (by decide), htt]; exact t2
  · rw [hr 45 (by decide), hbb]; exact t3
  · exact ⟨by rw [hc 44 (by decide)]; exact f.1, by rw [hr 45 (by decide)]; exact f.2.1, f.2.2⟩
  · have hnc : zb_nc (r' :: l) ≤ zb_nc (r :: l) := by
      simp only [zb_nc]
      by_cases hq : zb_rK r' = 10
      · rw [if_pos hq, if_pos (e4.2.2.2 hq)]; exact Nat.le_refl _
      · rw [if_neg hq]; omega
    unfold zb_CAL; rw [hnb, hc 44 (by decide)]
    exact ⟨ca.1, by rw [hr 45 (by decide)]; exact ca.2.1, ca.2.2.1, zb_bud_le ca.2.2.2 (by rw [hr 45 (by decide)]) (by rw [hr 45 (by decide)]; omega)⟩
  · rw [hnb, hdd]; exact dp.1
theorem zb_go_on (ev : zb_EVOK B Q Z) (h : zb_SX B C R H rl ql fd (r :: l) fu) (hrun : zb_RUN B r) (hl : zb_RUNS B l) {x : Nat} (hx : zb_eX B x 1) (hk : zb_rK r ≠ 15) {dp dx : Nat} (hdp : B.1 6 (zb_rD r) = (dp : Int)) (hdx : B.1 6 x = (dx : Int)) (hd : dp < dx) (h0 : sp0 ≤ zb_sp) (hp : zb_sp + 20 * fu + 5 * (l.length + 1) ≤ Z + 10) :
    zb_RESV B Q Z sp0 ((fn_111 B.2.2.1 (B.2.2.1 / 3 + 1) (x : Int) (zb_rF r : Int) C).bind (zb_AF B.2.2.1 Q (zb_sp : Int))) (fn_184 (x : Int) (zb_frm H (zb_rF r)) R) := by
  refine ev sp0 zb_sp C R H rl ql fd fu (r :: l) x (zb_rF r) 1 h (fun r' hr' => ?_) hx h.1.2.1.1.1.2.2.2 (fun z => by omega) (fun dp' h' => ?_) h0 hp
  · rcases List.mem_cons.mp hr' with z | z
    · rw [z]; exact hrun
    · exact hl r' z
  · have h9 := h.2.2.2.1.1
    have : zb_dd B r = dp := by unfold zb_dd; rw [if_neg hk, hdp]; rfl
    rw [this] at h9
    simp only [List.length_cons]
    omega
theorem zb_vr_false {A : Nat → Prop} {p : Nat → Nat} {N : Nat} (hN : N ≤ 444) {v w : Int} (h : zb_VR A p N v w) (hA : ∀ g, A g → g < 20000) : (v = 4294967296 ↔ w = 8589934592) ∧ (v = 4294967298 ↔ w = 12884901888) := by
  rcases h with h | h | h | h | ⟨n, n1, n2, n3⟩ | ⟨n, n1, n2, n3⟩ | ⟨g, g1, g2, g3⟩
  · omega
  · omega
  · omega
  · omega
  · omega
  · omega
  · have := hA g g1; unfold zb_ov at g3; omega
theorem zb_vr_nil {A : Nat → Prop} {p : Nat → Nat} {N : Nat} : zb_VR A p N 4294967298 12884901888 := Or.inr (Or.inr (Or.inr (Or.inl ⟨rfl, rfl⟩)))
theorem zb_gs_false (g : zb_GS B C R H rl ql fd) {v w : Int} (h : zb_VR (zb_vo H) (zb_hP H) B.2.2.2.1 v w) : (v = 4294967296 ↔ w = 8589934592) ∧ (v = 4294967298 ↔ w = 12884901888) := zb_vr_false (zb_gs_N g).1 h (fun x hx => by have := zb_hr_h (zb_gs_hr g) hx.1; omega)
theorem zb_step_pop (h : zb_SX B C R H rl ql fd (r :: l) fu) (hk : zb_rK r ≠ 16) (hl : zb_RUNS B l) {v w : Int} (hv : zb_VR (zb_vo H) (zb_hP H) B.2.2.2.1 v w) {Rb : eM} (hb : ∀ c, c ≠ 45 → Rb c = R c) (hbf : ∀ f, f ≠ 68 → f ≠ 70 → Rb 45 f = R 45 f) (hb8 : Rb 45 68 = (zb_nb l : Int))
    (hc : ∀ c, c ≠ 44 → c ≠ 29 → C' c = C c) (h29 : C' 29 0 = (l.length : Int)) (h44 : ∀ f, f ≠ 9 → f ≠ 10 → C' 44 f = C 44 f) (h9 : C' 44 9 = v) (h10 : C' 44 10 = (zb_nb l : Int)) (hZ9 : Z ≤ 999990) (h0 : sp0 ≤ zb_sp) (hp : zb_sp + 20 * fu + 5 * (l.length + 1) ≤ Z + 4) :
    ∃ R', fn_213 w Rb = some (0, R') ∧ zb_RESV B Q Z sp0 (zb_AF B.2.2.1 Q (zb_sp : Int) C') (some (0, R')) := by
  obtain ⟨s, f, ca, dp⟩ := h
  have hlen := zb_dep_len dp ca.2.2
  have htl := zb_tt_le (l := l)
  have h53 : Rb 45 53 = ((zb_tt l + 1 : Nat) : Int) := by rw [hbf 53 (by decide) (by decide), s.2.2.2.2.2.1]; simp only [zb_tt, if_neg hk]
  have h81 : Rb 81 (zb_tt l) = (zb_bb l : Int) := by rw [hb 81 (by decide)]; exact s.2.1.1.2.1.2
  simp only [List.length_cons] at hlen
  refine ⟨eg_u (eg_u (eg_u Rb 45 53 (zb_tt l : Int)) 45 51 (zb_bb l : Int)) 45 70 w, ?_, ?_⟩
  · unfold fn_213 fn_214
    rw [h53, zb_wi_t1 (by omega), if_pos (by omega), Option.bind_some, Int.toNat_natCast, h81]
  · have hnb : zb_nb l ≤ 60 := by
      have h1 := ca.2.2
      have h2 : zb_nb (r :: l) = zb_nb l + (if zb_rK r = 11 then 1 else 0) := rfl
      omega
    refine zb_res_go (fu' := fu) (st' := l) ⟨zb_sc_pop s hc (by rw [h44 8 (by decide) (by decide)]; exact s.2.2.2.1.1.1) (by rw [h44 7 (by decide) (by decide)]; exact Int.le_refl _) h29 (fun c hc => ?_) (fun f hf => ?_) ?_ ?_, ⟨by rw [h44 7 (by decide) (by decide)]; exact f.1, ?_, f.2.2⟩, ⟨h10, ?_, hnb, zb_bud_le ca.2.2.2 (by rw [eg_u_nj (by omega), eg_u_nj (by omega), eg_u_nj (by omega), hbf 42 (by decide) (by decide)]) (by rw [eg_u_nj (by omega), eg_u_nj (by omega), eg_u_nj (by omega), hbf 67 (by decide) (by decide)]; have := (zb_nc_le (r := r) (l := l)).1; omega)⟩, dp.2⟩ (Or.inl ⟨rfl, ?_, hl⟩) hZ9 h0 (by omega)
    · rw [eg_u_ne hc, eg_u_ne hc, eg_u_ne hc, hb c hc]
    · have : f ≠ 70 ∧ f ≠ 51 ∧ f ≠ 53 ∧ f ≠ 68 := by revert hf; simp; omega
      rw [eg_u_nj (by omega), eg_u_nj (by omega), eg_u_nj (by omega), hbf f (by omega) (by omega)]
    · rw [eg_u_nj (by omega), eg_u_nj (by omega), eg_u_eq]
    · rw [eg_u_nj (by omega), eg_u_eq]
    · rw [eg_u_nj (by omega), eg_u_nj (by omega), eg_u_nj (by omega), hbf 67 (by decide) (by decide)]; exact f.2.1
    · rw [eg_u_nj (by omega), eg_u_nj (by omega), eg_u_nj (by omega)]; exact hb8
    · rw [h9, eg_u_eq]; exact hv
theorem zb_nb_ne (h : zb_rK r ≠ 11) : zb_nb (r :: l) = zb_nb l := by show zb_nb l + (if zb_rK r = 11 then 1 else 0) = zb_nb l; rw [if_neg h]; rfl
end STPS
section STPS
variable {B : zb_Bs} {Q : zb_Pq} {Z sp0 zb_sp : Nat} {C R C' R' : eM} {H : zb_Hp} {rl ql : List (Nat × Nat)} {fd fu : Nat} {st l : List zb_Rec} {r r' : zb_Rec}
theorem zb_cl_res' {cn top : Nat} (h8 : C 44 8 = 0) (hs : zb_sp < 1000000) (ht : C 29 0 = (top : Int)) (h0 : 0 < top) (h72 : fn_72 (top : Int) C = some 0) : zb_CL cn Q (zb_sp : Int) C = (fn_104 cn (cn / 3 + 1) (top : Int) C).bind (zb_AF cn Q (zb_sp : Int)) := by
  cases h : fn_104 cn (cn / 3 + 1) (top : Int) C with
  | some m => rw [Option.bind_some]; exact zb_cl_res h8 hs ht h0 h72 h
  | none =>
    obtain ⟨a, b, e, nx, due⟩ := Q
    refine lp_none ?_
    show fn_69_9 _ _ _ _ _ nx due (zb_sp : Int) C = _
    unfold fn_69_9
    rw [if_neg (by omega), if_neg (fun z => z h8), ht, if_neg (by omega), h72, Option.bind_some, if_pos rfl]
    unfold fn_69_31
    rw [ht, if_neg (by omega), h]; rfl
theorem zb_ev_in {cn mo i : Nat} {x : Int} (hi : i < 2000) : fn_110 cn mo (i : Int) x C = fn_111 cn mo x (C 33 i) (eg_u C 32 i x) := by
  unfold fn_110
  rw [if_pos (by omega), Int.toNat_natCast]
  cases fn_111 cn mo x (C 33 i) (eg_u C 32 i x) <;> rfl
theorem zb_bsome {α : Type} {o : Option α} : (o.bind fun m => some m) = o := by cases o <;> rfl
theorem zb_top_at (h : zb_SX B C R H rl ql fd (r :: l) fu) : (l.length + 1 < 1892 ∧ zb_tt l < 4398 ∧ C 29 0 = ((l.length + 1 : Nat) : Int) ∧ C 44 8 = 0 ∧ C 44 7 = (fu : Int)) ∧ (C 30 (l.length + 1) = zb_cfm (zb_rK r) ∧ C 31 (l.length + 1) = (zb_rD r : Int) ∧ C 32 (l.length + 1) = (zb_rA r : Int) ∧ C 33 (l.length + 1) = (zb_rF r : Int) ∧ C 34 (l.length + 1) = (zb_rQ r : Int)) ∧ (R 78 (zb_tt l) = zb_rkd (zb_rK r) ∧ (zb_rK r ≠ 15 → R 79 (zb_tt l) = (zb_rD r : Int)) ∧ R 80 (zb_tt l) = zb_rY r ∧ R 81 (zb_tt l) = (zb_bb l : Int) ∧ R 82 (zb_tt l) = zb_frm H (zb_rF r)) ∧ (zb_rK r ≠ 16 → R 45 53 = ((zb_tt l + 1 : Nat) : Int)) := by
  obtain ⟨⟨g, s, c, fl, t1, t2, t3⟩, f, ca, dp⟩ := h
  have hlen := zb_dep_len dp ca.2.2
  have htl := zb_tt_le (l := l)
  simp only [List.length_cons] at hlen t1
  refine ⟨⟨by omega, by omega, t1, fl.1.1, f.1⟩, ⟨c.1.1.1, c.1.1.2.1, c.1.1.2.2, s.1.1.1, s.1.1.2.1⟩, ⟨c.1.2.1.1, c.1.2.1.2.1, c.1.2.1.2.2, s.1.2.1.2, s.1.2.1.1⟩, fun hk => ?_⟩
  rw [t2]; simp only [zb_tt, if_neg hk]
theorem zb_frs_k (h : zb_FRS B r) (h1 : zb_rK r ≠ 15) (h2 : zb_rK r ≠ 16) : zb_rQ r = 0 ∧ ∃ ro, (ro = 2 → zb_rF r = 0) ∧ zb_FX B.1 B.2.1 B.2.2.2.1 B.2.2.2.2 (zb_rD r) ro (zb_rK r) ∧ zb_rK r ≠ 0 ∧ zb_rK r ≠ 4 ∧ zb_rK r ≤ 10 ∧ (zb_rK r < 10 → B.1 5 (zb_rD r + 1) = ((zb_rD r + 2 : Nat) : Int)) ∧ zb_rA r = zb_ahd (zb_rK r) (zb_rD r) ∧ zb_rD r + 1 < 20000
    ∧ (zb_rK r = 1 ∨ zb_rK r = 6 ∨ zb_rK r = 7 → zb_rY r = ((zb_rD r + 2 : Nat) : Int)) ∧ (zb_rK r = 2 ∨ zb_rK r = 3 → zb_rY r = ((zb_rD r + 3 : Nat) : Int)) ∧ (zb_rK r = 5 → zb_rY r = B.2.1 51 (zb_rD r + 2)) ∧ (zb_rK r = 8 ∨ zb_rK r = 9 → fn_208 (zb_rD r : Int) B.2.1 = some (zb_rY r)) ∧ (zb_rK r = 10 → zb_rY r = ((zb_rD r + 1 : Nat) : Int)) := by
  refine ⟨h.1, ?_⟩
  rcases h.2 with (z | ⟨z, _⟩) | z
  · exact absurd z h1
  · exact absurd z h2
  · exact z
theorem zb_wi_p2 {a : Nat} (h : a < 30000) : eg_wi ((a : Int) + 2) = ((a + 2 : Nat) : Int) := by unfold eg_wi; omega
theorem zb_wi_p3 {a : Nat} (h : a < 30000) : eg_wi ((a : Int) + 3) = ((a + 3 : Nat) : Int) := by unfold eg_wi; omega
theorem zb_sx_to {x k' : Nat} {y : Int} (h : zb_SX B C R H rl ql fd (r :: l) fu) (hk' : k' ≠ 16 ∧ k' ≠ 11 ∧ (k' ≠ 15 ∧ (k' = 10 → zb_rK r = 10))) (hk : zb_rK r ≠ 16 ∧ zb_rK r ≠ 11 ∧ zb_rK r ≠ 15) (hc : C' = eg_u C 32 (l.length + 1) (x : Int)) (hcf : zb_cfm k' = zb_cfm (zb_rK r)) (h78 : R' 78 (zb_tt l) = zb_rkd k') (h79 : R' 79 = R 79) (h80 : R' 80 (zb_tt l) = y) (ho : ∀ c, c ∉ ([78, 79, 80] : List Nat) → R' c = R c) (ho2 : ∀ c t, c ∈ ([78, 79, 80] : List Nat) → t ≠ zb_tt l → R' c t = R c t) :
    zb_SX B C' R' H rl ql fd ((k', zb_rD r, x, y, zb_rQ r, zb_rF r) :: l) fu := by
  obtain ⟨_, ⟨a1, a2, a3, a4, a5⟩, ⟨b1, b2, b3, b4, b5⟩, b6⟩ := zb_top_at h
  subst hc
  refine zb_sx_ctl h (fun c hc => eg_u_ne (fun e => hc (by rw [e]; decide))) (fun c i _ hi => eg_u_nj (fun z => hi z.2)) ho ho2 ⟨⟨?_, ?_, ?_⟩, ⟨h78, fun _ => ?_, h80⟩, fun z => absurd z hk'.1⟩ rfl rfl rfl ⟨⟨fun z => absurd z hk'.1, fun z => absurd z hk.1⟩, ⟨fun z => absurd z hk'.2.1, fun z => absurd z hk.2.1⟩, ⟨fun z => absurd z hk'.2.2.1, fun z => absurd z hk.2.2⟩, hk'.2.2.2⟩
  · rw [eg_u_ne (by decide)]; show _ = zb_cfm k'; rw [hcf]; exact a1
  · rw [eg_u_ne (by decide)]; exact a2
  · exact eg_u_eq
  · rw [h79]; exact b2 hk.2.2
theorem zb_sx_to11 {x : Nat} {y : Int} (h : zb_SX B C R H rl ql fd (r :: l) fu) (hk : zb_rK r = 11) (hc : C' = eg_u C 32 (l.length + 1) (x : Int)) (h78 : R' 78 = R 78) (h79 : R' 79 = R 79) (h80 : R' 80 (zb_tt l) = y) (ho : ∀ c, c ∉ ([78, 79, 80] : List Nat) → R' c = R c) (ho2 : ∀ c t, c ∈ ([78, 79, 80] : List Nat) → t ≠ zb_tt l → R' c t = R c t) :
    zb_SX B C' R' H rl ql fd ((11, zb_rD r, x, y, zb_rQ r, zb_rF r) :: l) fu := by
  obtain ⟨_, ⟨a1, a2, a3, a4, a5⟩, ⟨b1, b2, b3, b4, b5⟩, b6⟩ := zb_top_at h
  subst hc
  refine zb_sx_ctl h (fun c hc => eg_u_ne (fun e => hc (by rw [e]; decide))) (fun c i _ hi => eg_u_nj (fun z => hi z.2)) ho ho2 ⟨⟨?_, ?_, ?_⟩, ⟨?_, fun _ => ?_, h80⟩, fun z => absurd (show (11 : Nat) = 16 from z) (by decide)⟩ rfl rfl rfl ⟨⟨fun z => absurd (show (11 : Nat) = 16 from z) (by decide), fun z => by omega⟩, ⟨fun z => hk, fun z => rfl⟩, ⟨fun z => absurd (show (11 : Nat) = 15 from z) (by decide), fun z => by omega⟩, fun z => absurd (show (11 : Nat) = 10 from z) (by decide)⟩
  · rw [eg_u_ne (by decide), a1, hk]; rfl
  · rw [eg_u_ne (by decide)]; exact a2
  · exact eg_u_eq
  · rw [h78, b1, hk]; rfl
  · rw [h79]; exact b2 (by omega)
theorem zb_ho_80 {t : Nat} {y : Int} : (∀ c, c ∉ ([78, 79, 80] : List Nat) → (eg_u R 80 t y) c = R c) ∧ (∀ c t', c ∈ ([78, 79, 80] : List Nat) → t' ≠ t → (eg_u R 80 t y) c t' = R c t') := ⟨fun c hc => eg_u_ne (fun e => hc (by rw [e]; decide)), fun c t' _ h => eg_u_nj (fun z => h z.2)⟩
theorem zb_e_run {d x q : Nat} (hk : zb_kX B d x q) : ∃ dp dx : Nat, B.1 6 d = (dp : Int) ∧ B.1 6 x = (dx : Int) ∧ dp < dx ∧ zb_eX B x 1 := by
  obtain ⟨e, ed, dp, a1, a2, a3, a4, a5, a6, a7, a8, a9, a10, _⟩ := zb_kx_at hk
  exact ⟨dp, dp + 1, a7, a8, by omega, a10⟩
theorem zb_step_if0 (ev : zb_EVOK B Q Z) (h : zb_SX B C R H rl ql fd (r :: l) fu) (hk : zb_rK r = 1) (hf : zb_FRS B r) (hl : zb_RUNS B l) (hZ9 : Z ≤ 999990) (hp : zb_sp + 20 * fu + 5 * (l.length + 1) ≤ Z) : zb_STP B Q Z zb_sp C R 0 := by
  obtain ⟨q0, ro, f1, f2, _, _, _, f3, f4, f5, f6, _⟩ := zb_frs_k hf (by omega) (by omega)
  have hx : zb_kX B (zb_rD r) (zb_rD r + 2) 1 ∧ (B.2.1 55 (zb_rD r) = 3 ∨ B.2.1 55 (zb_rD r) = 4) := by
    rcases f2 with ⟨z, _⟩ | ⟨z, x1, x2, x3⟩ | ⟨z, _⟩ | ⟨z, _⟩ | ⟨z, _⟩ | ⟨z, _⟩ | ⟨z, _⟩ | ⟨z, _⟩
    any_goals omega
    exact ⟨x1, x3⟩
  obtain ⟨⟨i1, i2, i3, i4, i5⟩, ⟨a1, a2, a3, a4, a5⟩, ⟨b1, b2, b3, b4, b5⟩, b6⟩ := zb_top_at h
  have w := zb_gs_w h.1.1
  have y2 := f6 (Or.inl hk)
  rw [y2] at b3
  rw [hk] at a1 b1
  have hA : zb_rA r = zb_rD r + 1 := by rw [f4, hk]; rfl
  obtain ⟨e, ed, dp, k1, k2, k3, k4, k5, k6, k7, k8, k9, k10, k11⟩ := zb_kx_at hx.1
  intro x0
  refine ⟨_, zb_s210_ev (zb_d211z_1 (t := zb_tt l) (b6 (by omega)) (by omega) b1) (b6 (by omega)) (by omega) (by rw [b1]; decide), ?_⟩
  rw [zb_cl_res' i4 (by omega) i3 (by omega) (zb_f72_no (by omega) a1 (by decide)), zb_d104_1 (by omega) a1, b3, b5]
  have hcl : fn_108 B.2.2.1 (B.2.2.1 / 3 + 1) ((l.length + 1 : Nat) : Int) C = fn_111 B.2.2.1 (B.2.2.1 / 3 + 1) ((zb_rD r + 2 : Nat) : Int) (zb_rF r : Int) (eg_u C 32 (l.length + 1) ((zb_rD r + 2 : Nat) : Int)) := by
    unfold fn_108 fn_108_34
    rw [if_pos (by omega), Int.toNat_natCast, a3, a2, hA, zb_wi_p2 (by omega), if_pos (by omega), if_pos (by omega), Int.toNat_natCast, Int.toNat_natCast, w.1.2.1, f3 (by omega), if_pos (by omega), if_pos (by omega), k2, if_neg (by omega), zb_bsome, zb_ev_in (by omega), a4]
  rw [hcl]
  have h' := zb_sx_to (x := zb_rD r + 2) (k' := 1) (y := ((zb_rD r + 2 : Nat) : Int)) (R' := R) h ⟨by omega, by omega, by omega⟩ ⟨by omega, by omega, by omega⟩ rfl (by rw [hk]) (by rw [b1]) rfl b3 (fun _ _ => rfl) (fun _ _ _ _ => rfl)
  exact zb_go_on ev h' (Or.inl ⟨rfl, rfl, rfl, q0, hx.1, hx.2⟩) hl k10 (show (1 : Nat) ≠ 15 by decide) k7 k8 (by omega) (Nat.le_refl _) (by omega)
theorem zb_step_if (ev : zb_EVOK B Q Z) (h : zb_SX B C R H rl ql fd (r :: l) fu) (hk : zb_rK r = 1) (hr : zb_RUN B r) (hl : zb_RUNS B l) (hv : zb_VR (zb_vo H) (zb_hP H) B.2.2.2.1 (C 44 9) (R 45 70)) (hZ9 : Z ≤ 999990) (hp : zb_sp + 20 * fu + 5 * (l.length + 1) ≤ Z) : zb_STP B Q Z zb_sp C R 1 := by
  have hx : zb_rA r = zb_rD r + 2 ∧ zb_rY r = (zb_rA r : Int) ∧ zb_rQ r = 0 ∧ zb_kX B (zb_rD r) (zb_rA r) 1 ∧ (B.2.1 55 (zb_rD r) = 3 ∨ B.2.1 55 (zb_rD r) = 4) := by
    rcases hr with ⟨_, z⟩ | ⟨z, _⟩ | ⟨z, _⟩ | ⟨z, _⟩ | ⟨z, _⟩ | ⟨z, _⟩ | ⟨z, _⟩ | ⟨z, _⟩ | ⟨z, _⟩
    all_goals first | exact z | omega
  obtain ⟨x1, x2, x3, x4, x5⟩ := hx
  obtain ⟨⟨i1, i2, i3, i4, i5⟩, ⟨a1, a2, a3, a4, a5⟩, ⟨b1, b2, b3, b4, b5⟩, b6⟩ := zb_top_at h
  have w := zb_gs_w h.1.1
  have w53 : ∀ j, R 53 j = B.2.1 53 j := fun j => by rw [w.2.2.2.2.2.1]
  rw [x2] at b3
  rw [hk] at a1 b1
  obtain ⟨e, ed, dp, k1, k2, k3, k4, k5, k6, k7, k8, k9, k10, k11⟩ := zb_kx_at x4
  obtain ⟨n1, n2, n3⟩ : e < ed ∧ B.2.1 53 (zb_rA r) = (e : Int) ∧ zb_kX B (zb_rD r) e (1 + 1) := by
    rcases k11 with z | ⟨z1, z2, z3⟩
    · exact z
    · omega
  obtain ⟨e', ed', dp', m1, m2, m3, m4, m5, m6, m7, m8, m9, m10, m11⟩ := zb_kx_at n3
  have hed : ed' = ed := by omega
  have hdp : dp' = dp := by omega
  subst hed hdp
  have hfalse := (zb_gs_false h.1.1 hv).1
  have h53 := b6 (by omega)
  have key : ∀ (y : Int) (x' : Nat), fn_108 B.2.2.1 (B.2.2.1 / 3 + 1) ((l.length + 1 : Nat) : Int) C = fn_108_34 B.2.2.1 (B.2.2.1 / 3 + 1) ((l.length + 1 : Nat) : Int) (zb_rD r : Int) ((zb_rD r + 2 : Nat) : Int) (x' : Int) C → fn_212 R = fn_212_24 (zb_tt l : Int) y R → (((x' : Int) < ed' ∧ y = (x' : Int) ∧ zb_rD r + 2 < x' ∧ ∃ q, zb_kX B (zb_rD r) x' q) ∨ (x' = ed' ∧ y = -1)) → zb_STP B Q Z zb_sp C R 1 := by
    intro y x' hc hrr hcase
    intro x0
    rcases hcase with ⟨c1, c2, c3, q, c4⟩ | ⟨c1, c2⟩
    · subst c2
      have h212 : fn_212 R = some (2, eg_u (eg_u R 80 (zb_tt l) (x' : Int)) 78 (zb_tt l) 14) := by
        rw [hrr]; unfold fn_212_24
        rw [if_pos (by omega), if_pos (by omega), Int.toNat_natCast]; rfl
      have o80 : (eg_u (eg_u R 80 (zb_tt l) (x' : Int)) 78 (zb_tt l) 14) 80 (zb_tt l) = (x' : Int) := by rw [eg_u_ne (by decide), eg_u_eq]
      have o82 : (eg_u (eg_u R 80 (zb_tt l) (x' : Int)) 78 (zb_tt l) 14) 82 (zb_tt l) = zb_frm H (zb_rF r) := by rw [eg_u_ne (by decide), eg_u_ne (by decide)]; exact b5
      refine ⟨_, zb_s210_ev (t := zb_tt l) (by rw [zb_d211_1 h53 (by omega) b1 rfl]; exact h212) (by rw [eg_u_ne (by decide), eg_u_ne (by decide)]; exact h53) (by omega) (by rw [eg_u_eq]; decide), ?_⟩
      rw [zb_cl_res' i4 (by omega) i3 (by omega) (zb_f72_no (by omega) a1 (by decide)), zb_d104_1 (by omega) a1, hc, o80, o82]
      have hcl : fn_108_34 B.2.2.1 (B.2.2.1 / 3 + 1) ((l.length + 1 : Nat) : Int) (zb_rD r : Int) ((zb_rD r + 2 : Nat) : Int) (x' : Int) C = fn_111 B.2.2.1 (B.2.2.1 / 3 + 1) (x' : Int) (zb_rF r : Int) (eg_u C 32 (l.length + 1) (x' : Int)) := by
        unfold fn_108_34
        rw [zb_wi_p2 (by omega), if_pos (by omega), if_pos (by omega), Int.toNat_natCast, w.1.2.1, k2, if_neg (by omega), zb_bsome, zb_ev_in (by omega), a4]
      rw [hcl]
      have h' := zb_sx_to (x := x') (k' := 14) (y := (x' : Int)) (R' := eg_u (eg_u R 80 (zb_tt l) (x' : Int)) 78 (zb_tt l) 14) h ⟨by omega, by omega, by omega⟩ ⟨by omega, by omega, by omega⟩ rfl (by rw [hk]; rfl) (by rw [eg_u_eq]; rfl) (by rw [eg_u_ne (by decide), eg_u_ne (by decide)]) o80 (fun c hc => by rw [eg_u_ne (fun e => hc (by rw [e]; decide)), eg_u_ne (fun e => hc (by rw [e]; decide))]) (fun c t _ ht => by rw [eg_u_nj (fun z => ht z.2), eg_u_nj (fun z => ht z.2)])
      obtain ⟨dp9, dx, q1, q2, q3, q4⟩ := zb_e_run c4
      exact zb_go_on ev h' (Or.inr (Or.inl ⟨rfl, c3, rfl, x3, q, c4⟩)) hl q4 (show (14 : Nat) ≠ 15 by decide) q1 q2 q3 (Nat.le_refl _) (by omega)
    · subst c2
      obtain ⟨R9, p1, p2⟩ := zb_step_pop (Q := Q) (C' := eg_u (eg_u C 44 9 4294967298) 29 0 (l.length : Int)) (Rb := R) (v := 4294967298) (w := 12884901888) h (by omega) hl zb_vr_nil (fun _ _ => rfl) (fun _ _ _ => rfl) (by rw [h.2.2.1.2.1, zb_nb_ne (by omega)]) (fun c c1 c2 => by rw [eg_u_ne c2, eg_u_ne c1]) eg_u_eq (fun f f1 f2 => by rw [eg_u_ne (by decide), eg_u_nj (by omega)]) (by rw [eg_u_ne (by decide), eg_u_eq]) (by rw [eg_u_ne (by decide), eg_u_nj (by omega), h.2.2.1.1, zb_nb_ne (by omega)]) hZ9 (Nat.le_refl zb_sp) (by omega)
      have h212 : fn_212 R = some (0, R9) := by
        rw [hrr]; unfold fn_212_24
        rw [if_neg (by decide), p1, Option.bind_some]
      refine ⟨some (0, R9), zb_s210_done (g := 0) (by rw [zb_d211_1 h53 (by omega) b1 rfl]; exact h212) (by decide) (by decide), ?_⟩
      rw [zb_cl_res' i4 (by omega) i3 (by omega) (zb_f72_no (by omega) a1 (by decide)), zb_d104_1 (by omega) a1, hc]
      have hcl : fn_108_34 B.2.2.1 (B.2.2.1 / 3 + 1) ((l.length + 1 : Nat) : Int) (zb_rD r : Int) ((zb_rD r + 2 : Nat) : Int) (x' : Int) C = some (eg_u (eg_u C 44 9 4294967298) 29 0 (l.length : Int)) := by
        unfold fn_108_34 fn_103
        rw [zb_wi_p2 (by omega), if_pos (by omega), if_pos (by omega), Int.toNat_natCast, w.1.2.1, k2, if_pos (by omega), Option.bind_some, i3, zb_wi_n1 (by omega)]
      rw [hcl, Option.bind_some]; exact p2
  by_cases hv0 : C 44 9 = 4294967296
  · -- false: the third
    refine key (B.2.1 53 e) e' ?_ ?_ ?_
    · unfold fn_108
      rw [if_pos (by omega), Int.toNat_natCast, a3, a2, x1, zb_wi_p2 (by omega), if_pos (by omega), if_neg (fun z => z rfl), hv0, if_neg (fun z => z rfl), w.1.2.1, Int.toNat_natCast, show B.1 5 (zb_rD r + 2) = (e : Int) by rw [← x1]; exact k1, if_pos (by omega), Int.toNat_natCast, m1]
    · unfold fn_212
      rw [h53, zb_wi_t1 (by omega), if_pos (by omega), Int.toNat_natCast, b3, if_pos (by omega), hfalse.mp hv0, if_pos rfl, Int.toNat_natCast, w53, n2, if_pos (by omega), Int.toNat_natCast, w53]
    · rcases m11 with ⟨z1, z2, z3⟩ | ⟨z1, z2, z3⟩
      · exact Or.inl ⟨by omega, z2, by omega, _, z3⟩
      · exact Or.inr ⟨z1, z2⟩
  · refine key (e : Int) e ?_ ?_ (Or.inl ⟨by omega, rfl, by omega, _, n3⟩)
    · unfold fn_108
      rw [if_pos (by omega), Int.toNat_natCast, a3, a2, x1, zb_wi_p2 (by omega), if_pos (by omega), if_neg (fun z => z rfl), if_pos hv0, w.1.2.1, Int.toNat_natCast, show B.1 5 (zb_rD r + 2) = (e : Int) by rw [← x1]; exact k1]
    · unfold fn_212
      rw [h53, zb_wi_t1 (by omega), if_pos (by omega), Int.toNat_natCast, b3, if_pos (by omega), if_neg (fun z => hv0 (hfalse.mpr z)), Int.toNat_natCast, w53, n2]
end STPS
section STPS
variable {B : zb_Bs} {Q : zb_Pq} {Z sp0 zb_sp : Nat} {C R C' R' : eM} {H H' : zb_Hp} {rl ql : List (Nat × Nat)} {fd fu : Nat} {st l : List zb_Rec} {r r' : zb_Rec}
theorem zb_pop_same (h : zb_SX B C R H rl ql fd (r :: l) fu) (hk : zb_rK r ≠ 16) (hk2 : zb_rK r ≠ 11) (hl : zb_RUNS B l) (hv : zb_VR (zb_vo H) (zb_hP H) B.2.2.2.1 (C 44 9) (R 45 70)) (hZ9 : Z ≤ 999990) (h0 : sp0 ≤ zb_sp) (hp : zb_sp + 20 * fu + 5 * (l.length + 1) ≤ Z + 4) :
    fn_109 C = some (eg_u C 29 0 (l.length : Int)) ∧ ∃ R', fn_213 (R 45 70) R = some (0, R') ∧ zb_RESV B Q Z sp0 (zb_AF B.2.2.1 Q (zb_sp : Int) (eg_u C 29 0 (l.length : Int))) (some (0, R')) := by
  obtain ⟨⟨i1, i2, i3, i4, i5⟩, _⟩ := zb_top_at h
  refine ⟨by unfold fn_109; rw [i3, zb_wi_n1 (by omega)], ?_⟩
  exact zb_step_pop (C' := eg_u C 29 0 (l.length : Int)) (Rb := R) h hk hl hv (fun _ _ => rfl) (fun _ _ _ => rfl) (by rw [h.2.2.1.2.1, zb_nb_ne hk2]) (fun c c1 c2 => eg_u_ne c2) eg_u_eq (fun f f1 f2 => by rw [eg_u_ne (by decide)]) (by rw [eg_u_ne (by decide)]) (by rw [eg_u_ne (by decide), h.2.2.1.1, zb_nb_ne hk2]) hZ9 h0 hp
theorem zb_pop_v {v w : Int} (h : zb_SX B C R H rl ql fd (r :: l) fu) (hk : zb_rK r ≠ 16) (hk2 : zb_rK r ≠ 11) (hl : zb_RUNS B l) (hv : zb_VR (zb_vo H) (zb_hP H) B.2.2.2.1 v w) (hZ9 : Z ≤ 999990) (h0 : sp0 ≤ zb_sp) (hp : zb_sp + 20 * fu + 5 * (l.length + 1) ≤ Z + 4) :
    fn_103 v C = some (eg_u (eg_u C 44 9 v) 29 0 (l.length : Int)) ∧ ∃ R', fn_213 w R = some (0, R') ∧ zb_RESV B Q Z sp0 (zb_AF B.2.2.1 Q (zb_sp : Int) (eg_u (eg_u C 44 9 v) 29 0 (l.length : Int))) (some (0, R')) := by
  obtain ⟨⟨i1, i2, i3, i4, i5⟩, _⟩ := zb_top_at h
  refine ⟨by unfold fn_103; rw [i3, zb_wi_n1 (by omega)], ?_⟩
  exact zb_step_pop (C' := eg_u (eg_u C 44 9 v) 29 0 (l.length : Int)) (Rb := R) h hk hl hv (fun _ _ => rfl) (fun _ _ _ => rfl) (by rw [h.2.2.1.2.1, zb_nb_ne hk2]) (fun c c1 c2 => by rw [eg_u_ne c2, eg_u_ne c1]) eg_u_eq (fun f f1 f2 => by rw [eg_u_ne (by decide), eg_u_nj (by omega)]) (by rw [eg_u_ne (by decide), eg_u_eq]) (by rw [eg_u_ne (by decide), eg_u_nj (by omega), h.2.2.1.1, zb_nb_ne hk2]) hZ9 h0 hp
theorem zb_sx_9 {v : Int} (h : zb_SX B C R H rl ql fd st fu) : zb_SX B (eg_u C 44 9 v) R H rl ql fd st fu :=
  ⟨zb_sc_keep h.1 (fun c hc => eg_u_ne hc) (by rw [eg_u_nj (by decide)]; exact h.1.2.2.2.1.1.1) (by rw [eg_u_nj (by decide)]; exact Int.le_refl _) (fun _ _ => rfl) (fun _ _ => rfl), ⟨by rw [eg_u_nj (by decide)]; exact h.2.1.1, h.2.1.2⟩, ⟨by rw [eg_u_nj (by decide)]; exact h.2.2.1.1, h.2.2.1.2⟩, h.2.2.2⟩
theorem zb_step_14 (h : zb_SX B C R H rl ql fd (r :: l) fu) (hk : zb_rK r = 14) (hr : zb_RUN B r) (hl : zb_RUNS B l) (hv : zb_VR (zb_vo H) (zb_hP H) B.2.2.2.1 (C 44 9) (R 45 70)) (hZ9 : Z ≤ 999990) (hp : zb_sp + 20 * fu + 5 * (l.length + 1) ≤ Z) : zb_STP B Q Z zb_sp C R 1 := by
  have hx : zb_rD r + 2 < zb_rA r ∧ zb_rY r = (zb_rA r : Int) ∧ zb_rQ r = 0 ∧ ∃ q, zb_kX B (zb_rD r) (zb_rA r) q := by
    rcases hr with ⟨z, _⟩ | ⟨_, z⟩ | ⟨z, _⟩ | ⟨z, _⟩ | ⟨z, _⟩ | ⟨z, _⟩ | ⟨z, _⟩ | ⟨z, _⟩ | ⟨z, _⟩
    all_goals first | exact z | omega
  obtain ⟨x1, x2, x3, q, x4⟩ := hx
  obtain ⟨⟨i1, i2, i3, i4, i5⟩, ⟨a1, a2, a3, a4, a5⟩, ⟨b1, b2, b3, b4, b5⟩, b6⟩ := zb_top_at h
  rw [hk] at a1 b1
  obtain ⟨e, ed, dp, k1, k2, k3, k4, k5, k6, k7, k8, k9, k10, k11⟩ := zb_kx_at x4
  have w := zb_gs_w h.1.1
  obtain ⟨p0, R9, p1, p2⟩ := zb_pop_same (Q := Q) (sp0 := zb_sp) (zb_sp := zb_sp) h (by omega) (by omega) hl hv hZ9 (Nat.le_refl zb_sp) (by omega)
  intro x0
  refine ⟨some (0, R9), zb_s210_done (g := 0) (by rw [zb_d211_14 (b6 (by omega)) (by omega) b1 rfl]; exact p1) (by decide) (by decide), ?_⟩
  rw [zb_cl_res' i4 (by omega) i3 (by omega) (zb_f72_no (by omega) a1 (by decide)), zb_d104_1 (by omega) a1]
  have hcl : fn_108 B.2.2.1 (B.2.2.1 / 3 + 1) ((l.length + 1 : Nat) : Int) C = some (eg_u C 29 0 (l.length : Int)) := by
    unfold fn_108 fn_108_34
    rw [if_pos (by omega), Int.toNat_natCast, a3, a2, zb_wi_p2 (by omega), if_pos (by omega), if_pos (by omega), if_neg (by omega), p0, Option.bind_some]
  rw [hcl, Option.bind_some]; exact p2
theorem zb_step_60 (ev : zb_EVOK B Q Z) (h : zb_SX B C R H rl ql fd (r :: l) fu) (hk : zb_rK r = 6) (hf : zb_FRS B r) (hl : zb_RUNS B l) (hZ9 : Z ≤ 999990) (hp : zb_sp + 20 * fu + 5 * (l.length + 1) ≤ Z) : zb_STP B Q Z zb_sp C R 0 := by
  obtain ⟨q0, ro, f1, f2, _, _, _, f3, f4, f5, f6, _⟩ := zb_frs_k hf (by omega) (by omega)
  have hx : zb_kX B (zb_rD r) (zb_rD r + 2) 1 := by
    rcases f2 with ⟨z, _⟩ | ⟨z, _⟩ | ⟨z, _⟩ | ⟨z, _⟩ | ⟨z, _⟩ | ⟨z, x1, _⟩ | ⟨z, _⟩ | ⟨z, _⟩
    all_goals first | exact x1 | omega
  obtain ⟨⟨i1, i2, i3, i4, i5⟩, ⟨a1, a2, a3, a4, a5⟩, ⟨b1, b2, b3, b4, b5⟩, b6⟩ := zb_top_at h
  have w := zb_gs_w h.1.1
  rw [f6 (Or.inr (Or.inl hk))] at b3
  rw [hk] at a1 b1
  have hA : zb_rA r = zb_rD r + 1 := by rw [f4, hk]; rfl
  obtain ⟨e, ed, dp, k1, k2, k3, k4, k5, k6, k7, k8, k9, k10, k11⟩ := zb_kx_at hx
  intro x0
  refine ⟨_, zb_s210_ev (zb_d211z_6 (t := zb_tt l) (b6 (by omega)) (by omega) b1) (b6 (by omega)) (by omega) (by rw [b1]; decide), ?_⟩
  rw [zb_cl_res' i4 (by omega) i3 (by omega) (zb_f72_no (by omega) a1 (by decide)), zb_d104_6 (by omega) a1, b3, b5]
  have hcl : fn_130 B.2.2.1 (B.2.2.1 / 3 + 1) ((l.length + 1 : Nat) : Int) C = fn_111 B.2.2.1 (B.2.2.1 / 3 + 1) ((zb_rD r + 2 : Nat) : Int) (zb_rF r : Int) (eg_u C 32 (l.length + 1) ((zb_rD r + 2 : Nat) : Int)) := by
    unfold fn_130
    rw [if_pos (by omega), Int.toNat_natCast, a3, a2, hA, if_pos (by omega), if_pos (by omega), Int.toNat_natCast, Int.toNat_natCast, w.1.2.1, f3 (by omega), k2, if_neg (by omega), zb_bsome, zb_ev_in (by omega), a4]
  rw [hcl]
  have h' := zb_sx_to (x := zb_rD r + 2) (k' := 6) (y := ((zb_rD r + 2 : Nat) : Int)) (R' := R) h ⟨by omega, by omega, by omega⟩ ⟨by omega, by omega, by omega⟩ rfl (by rw [hk]) (by rw [b1]) rfl b3 (fun _ _ => rfl) (fun _ _ _ _ => rfl)
  exact zb_go_on ev h' (Or.inr (Or.inr (Or.inr (Or.inr (Or.inl ⟨Or.inl rfl, rfl, q0, ⟨1, hx⟩, show zb_rD r + 1 < zb_rD r + 2 by omega⟩))))) hl k10 (show (6 : Nat) ≠ 15 by decide) k7 k8 (by omega) (Nat.le_refl _) (by omega)
theorem zb_step_6 (ev : zb_EVOK B Q Z) (h : zb_SX B C R H rl ql fd (r :: l) fu) (hk : zb_rK r = 6 ∨ zb_rK r = 11) (hr : zb_RUN B r) (hl : zb_RUNS B l) (hv : zb_VR (zb_vo H) (zb_hP H) B.2.2.2.1 (C 44 9) (R 45 70)) (hZ9 : Z ≤ 999990) (hp : zb_sp + 20 * fu + 5 * (l.length + 1) ≤ Z) : zb_STP B Q Z zb_sp C R 1 := by
  have hx : zb_rY r = (zb_rA r : Int) ∧ zb_rQ r = 0 ∧ (∃ q, zb_kX B (zb_rD r) (zb_rA r) q) ∧ zb_rD r + 1 < zb_rA r := by
    rcases hr with ⟨z, _⟩ | ⟨z, _⟩ | ⟨z, _⟩ | ⟨z, _⟩ | ⟨_, z⟩ | ⟨z, _⟩ | ⟨z, _⟩ | ⟨z, _⟩ | ⟨z, _⟩
    all_goals first | exact z | omega
  obtain ⟨x2, x3, ⟨q, x4⟩, x5⟩ := hx
  obtain ⟨⟨i1, i2, i3, i4, i5⟩, ⟨a1, a2, a3, a4, a5⟩, ⟨b1, b2, b3, b4, b5⟩, b6⟩ := zb_top_at h
  obtain ⟨e, ed, dp, k1, k2, k3, k4, k5, k6, k7, k8, k9, k10, k11⟩ := zb_kx_at x4
  have w := zb_gs_w h.1.1
  have w53 : ∀ j, R 53 j = B.2.1 53 j := fun j => by rw [w.2.2.2.2.2.1]
  have h53 := b6 (by omega)
  rw [x2] at b3
  have c30 : ∃ k : Int, C 30 (l.length + 1) = k ∧ ((k = 6 ∧ zb_rK r = 6) ∨ (k = 14 ∧ zb_rK r = 11)) := by
    rcases hk with z | z
    · exact ⟨6, by rw [a1, z]; rfl, Or.inl ⟨rfl, z⟩⟩
    · exact ⟨14, by rw [a1, z]; rfl, Or.inr ⟨rfl, z⟩⟩
  obtain ⟨k, c30, hkk⟩ := c30
  have h78 : (R 78 (zb_tt l) = 6 ∧ zb_rK r = 6) ∨ (R 78 (zb_tt l) = 11 ∧ zb_rK r = 11) := by
    rcases hk with z | z
    · exact Or.inl ⟨by rw [b1, z]; rfl, z⟩
    · exact Or.inr ⟨by rw [b1, z]; rfl, z⟩
  have h211 : fn_211 1 R = fn_218 R := by
    rcases h78 with ⟨z, _⟩ | ⟨z, _⟩
    · exact zb_d211_6 h53 (by omega) z rfl
    · exact zb_d211_11 h53 (by omega) z rfl
  have h104 : fn_104 B.2.2.1 (B.2.2.1 / 3 + 1) ((l.length + 1 : Nat) : Int) C = fn_130 B.2.2.1 (B.2.2.1 / 3 + 1) ((l.length + 1 : Nat) : Int) C := by
    rcases hkk with ⟨z, _⟩ | ⟨z, _⟩
    · exact zb_d104_6 (by omega) (by rw [c30, z])
    · exact zb_d104_14 (by omega) (by rw [c30, z])
  have hCL : zb_CL B.2.2.1 Q (zb_sp : Int) C = _ := zb_cl_res' i4 (by omega) i3 (by omega) (zb_f72_no (by omega) c30 (by omega))
  intro x0
  rcases k11 with ⟨n1, n2, n3⟩ | ⟨n1, n2, n3⟩
  · have h218 : fn_218 R = some (2, eg_u R 80 (zb_tt l) (e : Int)) := by
      unfold fn_218
      rw [h53, zb_wi_t1 (by omega), if_pos (by omega), Int.toNat_natCast, b3, if_pos (by omega), Int.toNat_natCast, w53, n2, if_pos (by omega)]
    refine ⟨_, zb_s210_ev (t := zb_tt l) (by rw [h211]; exact h218) (by rw [eg_u_ne (by decide)]; exact h53) (by omega) (by rw [eg_u_ne (by decide)]; omega), ?_⟩
    rw [hCL, h104, eg_u_eq, eg_u_ne (by decide), b5]
    have hcl : fn_130 B.2.2.1 (B.2.2.1 / 3 + 1) ((l.length + 1 : Nat) : Int) C = fn_111 B.2.2.1 (B.2.2.1 / 3 + 1) (e : Int) (zb_rF r : Int) (eg_u C 32 (l.length + 1) (e : Int)) := by
      unfold fn_130
      rw [if_pos (by omega), Int.toNat_natCast, a3, a2, if_pos (by omega), if_pos (by omega), Int.toNat_natCast, Int.toNat_natCast, w.1.2.1, k1, k2, if_neg (by omega), zb_bsome, zb_ev_in (by omega), a4]
    rw [hcl]
    obtain ⟨dp9, dx, q1, q2, q3, q4⟩ := zb_e_run n3
    rcases hk with hk | hk
    · have h' := zb_sx_to (x := e) (k' := 6) (y := (e : Int)) (R' := eg_u R 80 (zb_tt l) (e : Int)) h ⟨by omega, by omega, by omega⟩ ⟨by omega, by omega, by omega⟩ rfl (by rw [hk]) (by rw [eg_u_ne (by decide), b1, hk]) (by rw [eg_u_ne (by decide)]) eg_u_eq zb_ho_80.1 zb_ho_80.2
      exact zb_go_on ev h' (Or.inr (Or.inr (Or.inr (Or.inr (Or.inl ⟨Or.inl rfl, rfl, x3, ⟨_, n3⟩, show zb_rD r + 1 < e by omega⟩))))) hl q4 (show (6 : Nat) ≠ 15 by decide) q1 q2 q3 (Nat.le_refl _) (by omega)
    · have h' := zb_sx_to11 (x := e) (y := (e : Int)) (R' := eg_u R 80 (zb_tt l) (e : Int)) h hk rfl (by rw [eg_u_ne (by decide)]) (by rw [eg_u_ne (by decide)]) eg_u_eq zb_ho_80.1 zb_ho_80.2
      exact zb_go_on ev h' (Or.inr (Or.inr (Or.inr (Or.inr (Or.inl ⟨Or.inr (Or.inr (Or.inr rfl)), rfl, x3, ⟨_, n3⟩, show zb_rD r + 1 < e by omega⟩))))) hl q4 (show (11 : Nat) ≠ 15 by decide) q1 q2 q3 (Nat.le_refl _) (by omega)
  · have hcl0 : fn_130 B.2.2.1 (B.2.2.1 / 3 + 1) ((l.length + 1 : Nat) : Int) C = if ¬ k = 14 then fn_109 C else fn_109 (eg_u C 44 10 (eg_wi ((C 44 10) - 1))) := by
      unfold fn_130
      rw [if_pos (by omega), Int.toNat_natCast, a3, a2, if_pos (by omega), if_pos (by omega), Int.toNat_natCast, Int.toNat_natCast, w.1.2.1, k1, k2, if_pos (by omega), zb_bsome, zb_bsome, c30]
    have hr0 : fn_218 R = if ¬ R 78 (zb_tt l) = 11 then fn_213 (R 45 70) R else fn_213 (R 45 70) (eg_u R 45 68 (eg_wi ((R 45 68) - 1))) := by
      unfold fn_218
      rw [h53, zb_wi_t1 (by omega), if_pos (by omega), Int.toNat_natCast, b3, if_pos (by omega), Int.toNat_natCast, w53, n2, if_neg (by decide)]
      by_cases hq : R 78 (zb_tt l) = 11
      · rw [if_neg (fun z => z hq), if_neg (fun z => z hq)]
        cases fn_213 (R 45 70) (eg_u R 45 68 (eg_wi ((R 45 68) - 1))) <;> rfl
      · rw [if_pos hq, if_pos hq]
        cases fn_213 (R 45 70) R <;> rfl
    rcases hk with hk | hk
    · obtain ⟨p0, R9, p1, p2⟩ := zb_pop_same (Q := Q) (sp0 := zb_sp) (zb_sp := zb_sp) h (by omega) (by omega) hl hv hZ9 (Nat.le_refl zb_sp) (by omega)
      rw [if_pos (by omega), p1] at hr0
      rw [if_pos (by omega), p0] at hcl0
      refine ⟨some (0, R9), zb_s210_done (g := 0) (by rw [h211]; exact hr0) (by decide) (by decide), ?_⟩
      rw [hCL, h104, hcl0, Option.bind_some]; exact p2
    · have hnb : zb_nb (r :: l) = zb_nb l + 1 := by show zb_nb l + (if zb_rK r = 11 then 1 else 0) = _; rw [if_pos hk]
      have hca := h.2.2.1
      have e10 : eg_wi ((C 44 10) - 1) = (zb_nb l : Int) := by rw [hca.1, hnb, zb_wi_n1 (by have := hca.2.2; omega)]
      have e68 : eg_wi ((R 45 68) - 1) = (zb_nb l : Int) := by rw [hca.2.1, hnb, zb_wi_n1 (by have := hca.2.2; omega)]
      rw [if_neg (by omega), e68] at hr0
      rw [if_neg (by omega), e10] at hcl0
      clear e10 e68
      obtain ⟨R9, p1, p2⟩ := zb_step_pop (Q := Q) (C' := eg_u (eg_u C 44 10 (zb_nb l : Int)) 29 0 (l.length : Int)) (Rb := eg_u R 45 68 (zb_nb l : Int)) h (by omega) hl hv (fun c hc => eg_u_ne hc) (fun f f1 f2 => eg_u_nj (by omega)) eg_u_eq (fun c c1 c2 => by rw [eg_u_ne c2, eg_u_ne c1]) eg_u_eq (fun f f1 f2 => by rw [eg_u_ne (by decide), eg_u_nj (by omega)]) (by rw [eg_u_ne (by decide), eg_u_nj (by decide)]) (by rw [eg_u_ne (by decide), eg_u_eq]) hZ9 (Nat.le_refl zb_sp) (by omega)
      rw [p1] at hr0
      have h109 : fn_109 (eg_u C 44 10 (zb_nb l : Int)) = some (eg_u (eg_u C 44 10 (zb_nb l : Int)) 29 0 (l.length : Int)) := by
        unfold fn_109; rw [eg_u_ne (by decide), i3, zb_wi_n1 (by omega)]
      rw [h109] at hcl0
      refine ⟨some (0, R9), zb_s210_done (g := 0) (by rw [h211]; exact hr0) (by decide) (by decide), ?_⟩
      rw [hCL, h104, hcl0, Option.bind_some]; exact p2
end STPS
