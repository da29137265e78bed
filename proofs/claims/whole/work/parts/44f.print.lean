def zb_FC (C C' : eM) : Prop := (∀ c, c ≠ 26 → c ≠ 27 → c ≠ 28 → C' c = C c) ∧ ∀ f, f ≠ 4 → C' 26 f = C 26 f
def zb_FR (R R' : eM) : Prop := (∀ c, c ≠ 45 → c ≠ 86 → R' c = R c) ∧ ∀ f, f ≠ 72 → R' 45 f = R 45 f
noncomputable def zb_adC : List Int → eM → Option eM
  | [], M => some M
  | a :: l, M => (fn_85 a M).bind (zb_adC l)
noncomputable def zb_adR : List Int → eM → Option eM
  | [], M => some M
  | a :: l, M => (fn_240 a M).bind (zb_adR l)
section OU
variable {C R C' R' : eM}
theorem zb_FC_rfl : zb_FC C C := ⟨fun _ _ _ _ => rfl, fun _ _ => rfl⟩
theorem zb_FR_rfl : zb_FR R R := ⟨fun _ _ _ => rfl, fun _ _ => rfl⟩
theorem zb_FC_tr {A D E : eM} (h : zb_FC A D) (h2 : zb_FC D E) : zb_FC A E := ⟨fun c a b d => by rw [h2.1 c a b d, h.1 c a b d], fun f a => by rw [h2.2 f a, h.2 f a]⟩
theorem zb_FR_tr {A D E : eM} (h : zb_FR A D) (h2 : zb_FR D E) : zb_FR A E := ⟨fun c a b => by rw [h2.1 c a b, h.1 c a b], fun f a => by rw [h2.2 f a, h.2 f a]⟩
theorem zb_wi_rem {a b : Nat} (h : a < 4000) (h2 : b < 4000) : eg_wi (eg_wi ((a : Int) + (b : Int)) - eg_wi (Int.tdiv (eg_wi ((a : Int) + (b : Int))) 4000) * 4000) = (((a + b) % 4000 : Nat) : Int) := by
  rw [zb_wi_add (by omega)]
  have e : Int.tdiv ((a + b : Nat) : Int) 4000 = (((a + b) / 4000 : Nat) : Int) := by
    rw [show (4000 : Int) = ((4000 : Nat) : Int) from rfl, Int.ofNat_tdiv]
  rw [e, zb_wi_n (by omega)]
  unfold eg_wi
  omega
theorem zb_wb_id {a : Int} (h : 0 ≤ a ∧ a < 128) : eg_wb (eg_wb a) = a := by unfold eg_wb; omega
theorem zb_out_add {a : Int} (h : zb_OUT C R) (ha : 0 ≤ a ∧ a < 128) : ∃ C' R', fn_85 a C = some C' ∧ fn_240 a R = some R' ∧ zb_OUT C' R' ∧ zb_FC C C' ∧ zb_FR R R' := by
  obtain ⟨w, fb, ⟨h1, h2, h3, h4, h5⟩, h6⟩ := h
  by_cases hf : w = 4000
  · refine ⟨C, R, ?_, ?_, ⟨w, fb, ⟨h1, h2, h3, h4, h5⟩, h6⟩, zb_FC_rfl, zb_FR_rfl⟩
    · unfold fn_85; rw [h1, if_pos (by omega)]
    · unfold fn_240; rw [h2, if_neg (fun z => z (by omega))]
  · have e1 : fn_85 a C = some (eg_u (eg_u C 27 ((fb + w) % 4000) a) 26 4 ((w + 1 : Nat) : Int)) := by
      unfold fn_85
      rw [h1, h4, if_neg (by omega), zb_wi_rem h5 (by omega), if_pos (by omega), Int.toNat_natCast, zb_wi_1 (by omega), zb_wb_id ha]
    have e2 : fn_240 a R = some (eg_u (eg_u R 86 w a) 45 72 ((w + 1 : Nat) : Int)) := by
      unfold fn_240
      rw [h2, if_pos (by omega), if_pos (by omega), Int.toNat_natCast, zb_wi_1 (by omega)]
    refine ⟨_, _, e1, e2, ⟨w + 1, fb, ⟨eg_u_eq, eg_u_eq, by omega, ?_, h5⟩, fun i hi => ?_⟩, ⟨fun c a b d => ?_, fun f hf => ?_⟩, ⟨fun c a b => ?_, fun f hf => ?_⟩⟩
    · rw [eg_u_nj (by decide), eg_u_ne (by decide)]; exact h4
    · have a1 : (eg_u (eg_u C 27 ((fb + w) % 4000) a) 26 4 ((w + 1 : Nat) : Int)) 27 = (eg_u C 27 ((fb + w) % 4000) a) 27 := eg_u_ne (by decide)
      have a2 : (eg_u (eg_u R 86 w a) 45 72 ((w + 1 : Nat) : Int)) 86 = (eg_u R 86 w a) 86 := eg_u_ne (by decide)
      rw [a1, a2]
      by_cases hi2 : i = w
      · rw [hi2, eg_u_eq, eg_u_eq]; exact ⟨rfl, ha⟩
      · have hne : (fb + i) % 4000 ≠ (fb + w) % 4000 := by omega
        rw [eg_u_nj (fun z => hne z.2), eg_u_nj (fun z => hi2 z.2)]
        exact h6 i (by omega)
    · rw [eg_u_ne a, eg_u_ne b]
    · rw [eg_u_nj (by omega), eg_u_ne (by decide)]
    · rw [eg_u_ne a, eg_u_ne b]
    · rw [eg_u_nj (by omega), eg_u_ne (by decide)]
theorem zb_ad_ok : ∀ {L : List Int} {C R : eM}, zb_OUT C R → (∀ a, a ∈ L → 0 ≤ a ∧ a < 128) → ∃ C' R', zb_adC L C = some C' ∧ zb_adR L R = some R' ∧ zb_OUT C' R' ∧ zb_FC C C' ∧ zb_FR R R' := by
  intro L
  induction L with
  | nil => intro C R h _; exact ⟨C, R, rfl, rfl, h, zb_FC_rfl, zb_FR_rfl⟩
  | cons a L ih =>
    intro C R h ha
    obtain ⟨C1, R1, e1, e2, o1, f1, f2⟩ := zb_out_add h (ha a (by simp))
    obtain ⟨C2, R2, e3, e4, o2, f3, f4⟩ := ih o1 (fun b hb => ha b (by simp [hb]))
    refine ⟨C2, R2, ?_, ?_, o2, zb_FC_tr f1 f3, zb_FR_tr f2 f4⟩
    · show (fn_85 a C).bind (zb_adC L) = _
      rw [e1, Option.bind_some, e3]
    · show (fn_240 a R).bind (zb_adR L) = _
      rw [e2, Option.bind_some, e4]
theorem zb_f86_l {j : Nat} (hj : j < 62) : ∀ (d i : Nat) (M : eM), (eg_str.getD j []).length - i = d → i ≤ (eg_str.getD j []).length → (eg_str.getD j []).length < 1000 → lp (fun z => fn_86_2 j z.1 z.2) ((i : Int), M) = zb_adC ((eg_str.getD j []).drop i) M := by
  intro d
  induction d with
  | zero =>
    intro i M hd hi hl
    have e : i = (eg_str.getD j []).length := by omega
    rw [List.drop_eq_nil_of_le (by omega)]
    refine lp2_inr ?_
    unfold fn_86_2
    rw [if_pos hj, if_pos (by omega)]
  | succ d ih =>
    intro i M hd hi hl
    have hlt : i < (eg_str.getD j []).length := by omega
    rw [List.drop_eq_getElem_cons hlt]
    show _ = (fn_85 (eg_str.getD j [])[i] M).bind (zb_adC ((eg_str.getD j []).drop (i + 1)))
    have eg : (eg_str.getD j []).getD ((i : Int)).toNat 0 = (eg_str.getD j [])[i] := by
      rw [Int.toNat_natCast, List.getD_eq_getElem?_getD, List.getElem?_eq_getElem hlt]; rfl
    have e1 : fn_86_2 j (i : Int) M = (fn_85 (eg_str.getD j [])[i] M).bind fun m6 => some (.inl (((i + 1 : Nat) : Int), m6)) := by
      unfold fn_86_2
      rw [if_pos hj, if_neg (by omega), if_pos ⟨hj, by omega, by omega⟩, eg, zb_wi_1 (by omega)]
    cases h85 : fn_85 (eg_str.getD j [])[i] M with
    | none =>
      rw [h85] at e1
      exact lp_none e1
    | some m =>
      rw [h85] at e1
      rw [Option.bind_some] at e1
      rw [Option.bind_some, lp2_inl e1, ih (i + 1) m (by omega) (by omega) hl]
theorem zb_str_len : ∀ j : Fin 62, (eg_str.getD j.val []).length < 1000 := by decide +kernel
theorem zb_f86 {j : Nat} (hj : j < 62) {M : eM} : fn_86 j M = zb_adC (eg_str.getD j []) M := by
  have := zb_f86_l hj _ 0 M rfl (Nat.zero_le _) (zb_str_len ⟨j, hj⟩)
  rw [List.drop_zero] at this
  exact this
theorem zb_f241 {M : eM} : fn_241 M = zb_adR [46, 46, 46] M := by
  unfold fn_241
  have st : ∀ (i : Nat) (M : eM), i < 3 → fn_241_2 (i : Int) M = (fn_240 46 M).bind fun m4 => some (.inl (((i + 1 : Nat) : Int), m4)) := fun i M hi => by
    unfold fn_241_2
    rw [if_neg (by omega), zb_wi_1 (by omega)]
  have go : ∀ (i : Nat) (M : eM) (L : List Int), i < 3 → (∀ m, lp (fun z => fn_241_2 z.1 z.2) (((i + 1 : Nat) : Int), m) = zb_adR L m) → lp (fun z => fn_241_2 z.1 z.2) ((i : Int), M) = zb_adR (46 :: L) M := fun i M L hi h => by
    have e := st i M hi
    show _ = (fn_240 46 M).bind (zb_adR L)
    cases h240 : fn_240 46 M with
    | none => rw [h240] at e; exact lp_none e
    | some m => rw [h240, Option.bind_some] at e; rw [lp2_inl e, Option.bind_some]; exact h m
  refine go 0 M _ (by decide) (fun m => go 1 m _ (by decide) (fun m => go 2 m _ (by decide) (fun m => lp2_inr ?_)))
  unfold fn_241_2
  rw [if_pos (by decide)]
end OU
def zb_dw (x : Int) (i : Nat) : Int := eg_wi (eb_land (eb_lshr x (eg_wi (5 * (i : Int)))) 31)
def zb_w5 (x : Int) : Nat → List Int
  | 0 => [62]
  | i + 1 => if zb_dw x i ≤ 0 then zb_w5 x i else (eg_wi (96 + zb_dw x i)) :: zb_w5 x i
section OU
variable {C R C' R' : eM}
theorem zb_lp_ad {g : Int → eM → Option ((Int × eM) ⊕ eM)} {s s' : Int} {a : Int} {L : List Int} {M : eM} (e : g s M = (fn_240 a M).bind fun m => some (.inl (s', m))) (h : ∀ m, lp (fun z => g z.1 z.2) (s', m) = zb_adR L m) : lp (fun z => g z.1 z.2) (s, M) = zb_adR (a :: L) M := by
  show _ = (fn_240 a M).bind (zb_adR L)
  cases h240 : fn_240 a M with
  | none => rw [h240] at e; exact lp_none e
  | some m => rw [h240, Option.bind_some] at e; rw [lp2_inl e, Option.bind_some]; exact h m
theorem zb_lp_adc {g : Int → eM → Option ((Int × eM) ⊕ eM)} {s s' : Int} {a : Int} {L : List Int} {M : eM} (e : g s M = (fn_85 a M).bind fun m => some (.inl (s', m))) (h : ∀ m, fn_85 a M = some m → lp (fun z => g z.1 z.2) (s', m) = zb_adC L m) : lp (fun z => g z.1 z.2) (s, M) = zb_adC (a :: L) M := by
  show _ = (fn_85 a M).bind (zb_adC L)
  cases h240 : fn_85 a M with
  | none => rw [h240] at e; exact lp_none e
  | some m => rw [h240, Option.bind_some] at e; rw [lp2_inl e, Option.bind_some]; exact h m h240
theorem zb_f245_l {x : Int} : ∀ (i : Nat) (M : eM), i ≤ 12 → lp (fun z => fn_245_8 x z.1 z.2) ((i : Int) - 1, M) = zb_adR (zb_w5 x i) M := by
  intro i
  induction i with
  | zero =>
    intro M _
    have e : fn_245_8 x (((0 : Nat) : Int) - 1) M = (fn_240 62 M).bind fun m10 => some (.inr m10) := by
      unfold fn_245_8; rw [if_pos (by decide)]
    show _ = (fn_240 62 M).bind some
    cases h : fn_240 62 M with
    | none => rw [h] at e; exact lp_none e
    | some m => rw [h] at e; exact lp2_inr e
  | succ i ih =>
    intro M hi
    have e0 : (((i + 1 : Nat) : Int) - 1) = (i : Int) := by omega
    have e1 : eg_wi ((i : Int) + (-1)) = (i : Int) - 1 := by unfold eg_wi; omega
    rw [e0]
    show _ = zb_adR (if zb_dw x i ≤ 0 then zb_w5 x i else (eg_wi (96 + zb_dw x i)) :: zb_w5 x i) M
    by_cases hd : zb_dw x i ≤ 0
    · rw [if_pos hd]
      have e2 : fn_245_8 x (i : Int) M = some (.inl ((i : Int) - 1, M)) := by
        unfold fn_245_8
        rw [if_neg (by clear e1; omega)]
        show (if zb_dw x i ≤ 0 then _ else _) = _
        rw [if_pos hd, e1]
      rw [lp2_inl e2]; exact ih M (by clear e1; omega)
    · rw [if_neg hd]
      refine zb_lp_ad (s' := (i : Int) - 1) ?_ (fun m => ih m (by clear e1; omega))
      unfold fn_245_8
      rw [if_neg (by clear e1; omega)]
      show (if zb_dw x i ≤ 0 then _ else _) = _
      rw [if_neg hd, e1]; rfl
theorem zb_f245 {x : Int} {M : eM} : fn_245 x M = zb_adR (35 :: 60 :: zb_w5 x 12) M := by
  unfold fn_245
  show _ = (fn_240 35 M).bind fun m => (fn_240 60 m).bind (zb_adR (zb_w5 x 12))
  congr 1; funext m
  congr 1; funext m2
  exact zb_f245_l 12 m2 (by decide)
theorem zb_wd_ok : (35 :: 60 :: zb_w5 18226873521733 12 = eg_str.getD 10 []) ∧ (35 :: 60 :: zb_w5 743559666 12 = eg_str.getD 6 []) ∧ (35 :: 60 :: zb_w5 758827 12 = eg_str.getD 7 []) ∧ (35 :: 60 :: zb_w5 6056085473774 12 = eg_str.getD 8 []) ∧ (35 :: 60 :: zb_w5 21006725 12 = eg_str.getD 9 []) := by decide +kernel
theorem zb_wd_ok2 : eg_str.getD 1 [] = [32, 46, 32] ∧ eg_str.getD 2 [] = [46, 46, 46] ∧ eg_str.getD 3 [] = [35, 116] ∧ eg_str.getD 4 [] = [35, 102] ∧ eg_str.getD 5 [] = [40, 41] := by decide +kernel
theorem zb_wd_b : ∀ j : Fin 11, ∀ a, a ∈ eg_str.getD j.val [] → 0 ≤ a ∧ a < 128 := by decide +kernel
theorem zb_f88_l {n L b : Nat} (hn : n < 444) (hL : L ≤ 20) {C0 : eM} (h3 : C0 3 n = (L : Int)) : ∀ (d i : Nat) (M : eM), L - i = d → i ≤ L → M 2 = C0 2 → M 3 = C0 3 → lp (fun z => fn_88_2 (n : Int) z.1 z.2) ((i : Int), M) = zb_adC ((List.range' i (L - i)).map fun j => C0 2 (20 * n + j)) M := by
  intro d
  induction d with
  | zero =>
    intro i M hd hi m2 m3
    rw [hd]
    refine lp2_inr ?_
    unfold fn_88_2
    rw [if_pos (by omega), Int.toNat_natCast, m3, h3, if_pos (by omega)]
  | succ d ih =>
    intro i M hd hi m2 m3
    rw [hd, List.range'_succ, List.map_cons]
    have ew : eg_wi (eg_wi ((n : Int) * 20) + (i : Int)) = ((20 * n + i : Nat) : Int) := by unfold eg_wi; omega
    refine zb_lp_adc (s' := ((i + 1 : Nat) : Int)) ?_ (fun m hm => ?_)
    · unfold fn_88_2
      rw [if_pos (by clear ew; omega), Int.toNat_natCast, m3, h3, if_neg (by clear ew; omega), ew, if_pos (by clear ew; omega), Int.toNat_natCast, m2, zb_wi_1 (by clear ew; omega)]
    · clear ew
      have f : m 2 = M 2 ∧ m 3 = M 3 := by
        unfold fn_85 at hm
        split at hm
        · rw [← Option.some.inj hm]; exact ⟨rfl, rfl⟩
        · split at hm
          · rw [← Option.some.inj hm, eg_u_ne (by decide), eg_u_ne (by decide), eg_u_ne (by decide), eg_u_ne (by decide)]; exact ⟨rfl, rfl⟩
          · cases hm
      have := ih (i + 1) m (by omega) (by omega) (by rw [f.1, m2]) (by rw [f.2, m3])
      rw [show L - (i + 1) = d by omega] at this
      exact this
theorem zb_f244_l {n L b : Nat} (hn : n < 444) (hL : L ≤ 20) (hb : b + L < 9200) {R0 : eM} (h48 : R0 48 (n + 1) = ((b + L : Nat) : Int)) : ∀ (d i : Nat) (M : eM), L - i = d → i ≤ L → M 47 = R0 47 → M 48 = R0 48 → lp (fun z => fn_244_5 (n : Int) z.1 z.2) (((b + i : Nat) : Int), M) = zb_adR ((List.range' i (L - i)).map fun j => R0 47 (b + j)) M := by
  intro d
  induction d with
  | zero =>
    intro i M hd hi m2 m3
    rw [hd]
    refine lp2_inr ?_
    unfold fn_244_5
    rw [zb_wi_1 (by omega), if_pos (by omega), Int.toNat_natCast, m3, h48, if_pos (by omega)]
  | succ d ih =>
    intro i M hd hi m2 m3
    rw [hd, List.range'_succ, List.map_cons]
    show _ = (fn_240 (R0 47 (b + i)) M).bind (zb_adR _)
    have e : fn_244_5 (n : Int) ((b + i : Nat) : Int) M = (fn_240 (R0 47 (b + i)) M).bind fun m => some (.inl (((b + (i + 1) : Nat) : Int), m)) := by
      unfold fn_244_5
      rw [zb_wi_1 (a := n) (by omega), if_pos (by omega), Int.toNat_natCast, m3, h48, if_neg (by omega), if_pos (by omega), Int.toNat_natCast, m2, zb_wi_1 (by omega)]; rfl
    cases hm : fn_240 (R0 47 (b + i)) M with
    | none => rw [hm] at e; exact lp_none e
    | some m =>
      rw [hm, Option.bind_some] at e
      rw [lp2_inl e, Option.bind_some]
      have f : m 47 = M 47 ∧ m 48 = M 48 := by
        unfold fn_240 at hm
        split at hm
        · split at hm
          · rw [← Option.some.inj hm, eg_u_ne (by decide), eg_u_ne (by decide), eg_u_ne (by decide), eg_u_ne (by decide)]; exact ⟨rfl, rfl⟩
          · cases hm
        · rw [← Option.some.inj hm]; exact ⟨rfl, rfl⟩
      have := ih (i + 1) m (by omega) (by omega) (by rw [f.1, m2]) (by rw [f.2, m3])
      rw [show L - (i + 1) = d by omega] at this
      exact this
theorem zb_nam_w {N n : Nat} {L B' : Nat → Nat} (zb_nm : zb_NM C R N L B') (hn : n < N) : ∃ W : List Int, (∀ a, a ∈ W → 0 ≤ a ∧ a < 128) ∧ fn_88 (n : Int) C = zb_adC W C ∧ fn_244 (n : Int) R = zb_adR W R := by
  obtain ⟨⟨a1, a2, a3, a4⟩, a5, a6, a7⟩ := zb_nm
  obtain ⟨b1, b2, b3, b4⟩ := a7 n hn
  have c1 := a6 n (by omega)
  have c2 := a6 (n + 1) (by omega)
  have e1 := zb_f88_l (n := n) (L := L n) (b := 0) (by omega) b2 b1 (L n) 0 C (by omega) (by omega) rfl rfl
  have e2 := zb_f244_l (n := n) (L := L n) (b := B' n) (R0 := R) (by omega) b2 (by omega) (by rw [c2.1, b3]) (L n) 0 R (by omega) (by omega) rfl rfl
  refine ⟨(List.range' 0 (L n - 0)).map fun j => R 47 (B' n + j), fun a ha => ?_, ?_, ?_⟩
  · obtain ⟨j, hj, rfl⟩ := List.mem_map.mp ha
    have := List.mem_range'_1.mp hj
    exact (b4 j (by omega)).2
  · have e : ((List.range' 0 (L n - 0)).map fun j => C 2 (20 * n + j)) = (List.range' 0 (L n - 0)).map fun j => R 47 (B' n + j) := by
      refine List.map_congr_left (fun j hj => ?_)
      have := List.mem_range'_1.mp hj
      exact (b4 j (by omega)).1
    rw [← e]; exact e1
  · unfold fn_244
    rw [if_pos (by omega), Int.toNat_natCast, c1.1]; exact e2
end OU
def zb_kk : Nat → Nat → Nat
  | 0, _ => 0
  | f + 1, n => if n < 10 then 0 else zb_kk f (n / 10) + 1
def zb_pg : Nat → Nat → List Int
  | 0, n => [48 + ((n % 10 : Nat) : Int)]
  | k + 1, n => (48 + ((n / 10 ^ (k + 1) % 10 : Nat) : Int)) :: zb_pg k n
section OU
variable {C R C' R' M : eM}
theorem zb_pg_snoc : ∀ (k n : Nat), zb_pg (k + 1) n = zb_pg k (n / 10) ++ [48 + ((n % 10 : Nat) : Int)] := by
  intro k
  induction k with
  | zero => intro n; show [_, _] = [_, _]; rw [Nat.pow_one]
  | succ k ih =>
    intro n
    show (48 + ((n / 10 ^ (k + 1 + 1) % 10 : Nat) : Int)) :: zb_pg (k + 1) n = _
    rw [ih n]
    show _ = (48 + ((n / 10 / 10 ^ (k + 1) % 10 : Nat) : Int)) :: (zb_pg k (n / 10) ++ _)
    rw [Nat.div_div_eq_div_mul, show 10 * 10 ^ (k + 1) = 10 ^ (k + 1 + 1) by rw [Nat.pow_succ 10 (k + 1), Nat.mul_comm]]
theorem zb_f87_37 {x1 x2 x3 : Int} : ∀ (d i : Nat) (M : eM), 10 - i = d → i ≤ 10 → lp (fun z => fn_87_37 x1 x2 x3 z.1 z.2) ((i : Int), M) = zb_adC ((List.range' i (10 - i)).map fun j => M 28 j) M := by
  intro d
  induction d with
  | zero =>
    intro i M hd hi
    rw [hd]
    exact lp2_inr (by unfold fn_87_37; rw [if_pos (by omega)])
  | succ d ih =>
    intro i M hd hi
    rw [hd, List.range'_succ, List.map_cons]
    refine zb_lp_adc (s' := ((i + 1 : Nat) : Int)) ?_ (fun m hm => ?_)
    · unfold fn_87_37
      rw [if_neg (by omega), if_pos (by omega), Int.toNat_natCast, zb_wi_1 (by omega)]
    · have f : m 28 = M 28 := by
        unfold fn_85 at hm
        split at hm
        · rw [← Option.some.inj hm]
        · split at hm
          · rw [← Option.some.inj hm, eg_u_ne (by decide), eg_u_ne (by decide)]
          · cases hm
      have := ih (i + 1) m (by omega) (by omega)
      rw [show 10 - (i + 1) = d by omega, f] at this
      exact this
def zb_sg (b : Bool) (n : Nat) : Int := if b then -(n : Int) else (n : Int)
theorem zb_sg_div {b : Bool} {n : Nat} (h : n ≤ 2147483648) (hb : b = false → n < 2147483648) : eg_wi (Int.tdiv (zb_sg b n) 10) = zb_sg b (n / 10) := by
  have e : Int.tdiv (n : Int) 10 = ((n / 10 : Nat) : Int) := by rw [show (10 : Int) = ((10 : Nat) : Int) from rfl, Int.ofNat_tdiv]
  cases b with
  | false => show eg_wi (Int.tdiv (n : Int) 10) = ((n / 10 : Nat) : Int); rw [e, zb_wi_n (by omega)]
  | true =>
    show eg_wi (Int.tdiv (-(n : Int)) 10) = -((n / 10 : Nat) : Int)
    rw [Int.neg_tdiv, e]; unfold eg_wi; omega
theorem zb_sg_rem {b : Bool} {n : Nat} (h : n ≤ 2147483648) (hb : b = false → n < 2147483648) : eg_wi (zb_sg b n - eg_wi (Int.tdiv (zb_sg b n) 10) * 10) = zb_sg b (n % 10) := by
  rw [zb_sg_div h hb]
  cases b with
  | false => show eg_wi ((n : Int) - ((n / 10 : Nat) : Int) * 10) = ((n % 10 : Nat) : Int); unfold eg_wi; omega
  | true => show eg_wi (-(n : Int) - -((n / 10 : Nat) : Int) * 10) = -((n % 10 : Nat) : Int); unfold eg_wi; omega
theorem zb_sg_0 {b : Bool} {n : Nat} : zb_sg b n = 0 ↔ n = 0 := by cases b <;> unfold zb_sg <;> simp
theorem zb_f87_st {a : Int} {b : Bool} {p n : Nat} (hp : p < 10) (h : n ≤ 2147483648) (hb : b = false → n < 2147483648) : fn_87_9 a ((p + 1 : Nat) : Int) (zb_sg b n) M = if n / 10 = 0 then (lp (fun z => fn_87_37 a (p : Int) (zb_sg b (n / 10)) z.1 z.2) ((p : Int), eg_u M 28 p (48 + ((n % 10 : Nat) : Int)))).map Sum.inr else if 0 < p then some (.inl ((p : Int), zb_sg b (n / 10), eg_u M 28 p (48 + ((n % 10 : Nat) : Int)))) else (lp (fun z => fn_87_37 a (p : Int) (zb_sg b (n / 10)) z.1 z.2) ((p : Int), eg_u M 28 p (48 + ((n % 10 : Nat) : Int)))).map Sum.inr := by
  have ep : eg_wi (((p + 1 : Nat) : Int) + (-1)) = (p : Int) := by unfold eg_wi; omega
  unfold fn_87_9
  rw [zb_sg_rem h hb, zb_sg_div h hb, ep]
  clear ep
  have key : ∀ D : Int, D = 48 + ((n % 10 : Nat) : Int) → (if 0 ≤ (p : Int) ∧ (p : Int) < 10 then if zb_sg b (n / 10) = 0 then (lp (fun z => fn_87_37 a (p : Int) (zb_sg b (n / 10)) z.1 z.2) ((p : Int), eg_u M 28 ((p : Int)).toNat D)).map Sum.inr else if 0 < (p : Int) then some (.inl ((p : Int), zb_sg b (n / 10), eg_u M 28 ((p : Int)).toNat D)) else (lp (fun z => fn_87_37 a (p : Int) (zb_sg b (n / 10)) z.1 z.2) ((p : Int), eg_u M 28 ((p : Int)).toNat D)).map Sum.inr else none) = if n / 10 = 0 then (lp (fun z => fn_87_37 a (p : Int) (zb_sg b (n / 10)) z.1 z.2) ((p : Int), eg_u M 28 p (48 + ((n % 10 : Nat) : Int)))).map Sum.inr else if 0 < p then some (.inl ((p : Int), zb_sg b (n / 10), eg_u M 28 p (48 + ((n % 10 : Nat) : Int)))) else (lp (fun z => fn_87_37 a (p : Int) (zb_sg b (n / 10)) z.1 z.2) ((p : Int), eg_u M 28 p (48 + ((n % 10 : Nat) : Int)))).map Sum.inr := by
    intro D hD
    rw [if_pos (by omega), Int.toNat_natCast, hD]
    by_cases h0 : n / 10 = 0
    · rw [if_pos (zb_sg_0.mpr h0), if_pos h0]
    · rw [if_neg (fun z => h0 (zb_sg_0.mp z)), if_neg h0]
      by_cases h1 : 0 < p
      · rw [if_pos (by omega), if_pos h1]
      · rw [if_neg (by omega), if_neg h1]
  have wb : ∀ D : Int, D = 48 + ((n % 10 : Nat) : Int) → eg_wb (eg_wb (eg_wi D)) = 48 + ((n % 10 : Nat) : Int) := fun D hD => by rw [hD]; unfold eg_wb eg_wi; omega
  by_cases hs : 0 ≤ zb_sg b (n % 10)
  · rw [if_pos hs]
    refine key _ (wb _ ?_)
    cases b with
    | false => rfl
    | true =>
      have : n % 10 = 0 := by unfold zb_sg at hs; simp at hs; omega
      rw [this]; rfl
  · rw [if_neg hs]
    refine key _ (wb _ ?_)
    cases b with
    | false => exact absurd (by show (0 : Int) ≤ ((n % 10 : Nat) : Int); omega) hs
    | true =>
      show 48 + eg_wi (- -((n % 10 : Nat) : Int)) = _
      unfold eg_wi; omega
theorem zb_f87_l {a : Int} {b : Bool} : ∀ (p n : Nat) (M : eM) (acc : List Int), p < 10 → n ≤ 2147483648 → (b = false → n < 2147483648) → n < 10 ^ (p + 1) → ((List.range' (p + 1) (10 - (p + 1))).map fun j => M 28 j) = acc → ∃ M', (∀ c, c ≠ 28 → M' c = M c) ∧ lp (fun z => fn_87_9 a z.1 z.2.1 z.2.2) (((p + 1 : Nat) : Int), zb_sg b n, M) = zb_adC (zb_pg (zb_kk p n) n ++ acc) M' := by
  intro p
  induction p with
  | zero =>
    intro n M acc hp h hb hlt hacc
    have e := zb_f87_st (a := a) (b := b) (p := 0) (n := n) (M := M) hp h hb
    rw [if_pos (by omega)] at e
    refine ⟨eg_u M 28 0 (48 + ((n % 10 : Nat) : Int)), fun c hc => eg_u_ne hc, ?_⟩
    rw [show lp (fun z => fn_87_9 a z.1 z.2.1 z.2.2) (((0 + 1 : Nat) : Int), zb_sg b n, M) = _ from lp3_map e, zb_f87_37 10 0 _ (by omega) (by omega)]
    congr 1
    rw [show (10 - 0 : Nat) = 9 + 1 from rfl, List.range'_succ, List.map_cons, eg_u_eq]
    show _ :: _ = _ :: acc
    rw [← hacc]
    congr 1
  | succ p ih =>
    intro n M acc hp h hb hlt hacc
    have e := zb_f87_st (a := a) (b := b) (p := p + 1) (n := n) (M := M) hp h hb
    obtain ⟨M1, hM1⟩ : ∃ X, X = eg_u M 28 (p + 1) (48 + ((n % 10 : Nat) : Int)) := ⟨_, rfl⟩
    rw [← hM1] at e
    have hacc1 : ((List.range' (p + 1) (10 - (p + 1))).map fun j => M1 28 j) = (48 + ((n % 10 : Nat) : Int)) :: acc := by
      rw [show 10 - (p + 1) = (10 - (p + 1 + 1)) + 1 by omega, List.range'_succ, List.map_cons, hM1, eg_u_eq, ← hacc]
      congr 1
      refine List.map_congr_left (fun j hj => ?_)
      have := List.mem_range'_1.mp hj
      exact eg_u_nj (by omega)
    by_cases h0 : n / 10 = 0
    · rw [if_pos h0] at e
      refine ⟨M1, fun c hc => by rw [hM1]; exact eg_u_ne hc, ?_⟩
      rw [show lp (fun z => fn_87_9 a z.1 z.2.1 z.2.2) (((p + 1 + 1 : Nat) : Int), zb_sg b n, M) = _ from lp3_map e, zb_f87_37 (10 - (p + 1)) (p + 1) _ (by omega) (by omega), hacc1]
      congr 1
      have : zb_kk (p + 1) n = 0 := by show (if n < 10 then 0 else _) = 0; rw [if_pos (by omega)]
      rw [this]; rfl
    · rw [if_neg h0, if_pos (by omega)] at e
      obtain ⟨M', i1, i2⟩ := ih (n / 10) M1 _ (by omega) (by omega) (fun z => by have := hb z; omega) (by rw [Nat.div_lt_iff_lt_mul (by decide)]; rw [Nat.pow_succ] at hlt; exact hlt) hacc1
      refine ⟨M', fun c hc => by rw [i1 c hc, hM1]; exact eg_u_ne hc, ?_⟩
      rw [show lp (fun z => fn_87_9 a z.1 z.2.1 z.2.2) (((p + 1 + 1 : Nat) : Int), zb_sg b n, M) = _ from lp3_inl e, i2]
      congr 1
      have : zb_kk (p + 1) n = zb_kk p (n / 10) + 1 := by show (if n < 10 then 0 else _) = _; rw [if_neg (by omega)]
      rw [this, zb_pg_snoc, List.append_assoc]; rfl
end OU
section OU
variable {C R C' R' M : eM}
theorem zb_wl_n {n : Nat} (h : n < 1000000000000) : eg_wl (n : Int) = (n : Int) := by unfold eg_wl; omega
theorem zb_kk_le : ∀ (j f n : Nat), n < 10 ^ (f + 1) → (n / 10 ^ j < 10 ↔ zb_kk f n ≤ j) := by
  intro j
  induction j with
  | zero =>
    intro f n hn
    rw [Nat.pow_zero, Nat.div_one]
    cases f with
    | zero => rw [Nat.pow_one] at hn; exact ⟨fun _ => Nat.le_refl _, fun _ => hn⟩
    | succ f =>
      show _ ↔ (if n < 10 then 0 else zb_kk f (n / 10) + 1) ≤ 0
      by_cases h : n < 10
      · rw [if_pos h]; exact ⟨fun _ => Nat.le_refl _, fun _ => h⟩
      · rw [if_neg h]; omega
  | succ j ih =>
    intro f n hn
    have e : n / 10 ^ (j + 1) = n / 10 / 10 ^ j := by rw [Nat.div_div_eq_div_mul, Nat.pow_succ, Nat.mul_comm]
    rw [e]
    cases f with
    | zero =>
      rw [Nat.pow_one] at hn
      have : n / 10 = 0 := by omega
      rw [this, Nat.zero_div]
      exact ⟨fun _ => Nat.zero_le _, fun _ => by decide⟩
    | succ f =>
      have hn2 : n / 10 < 10 ^ (f + 1) := by rw [Nat.div_lt_iff_lt_mul (by decide)]; rw [Nat.pow_succ] at hn; exact hn
      rw [ih f (n / 10) hn2]
      show _ ↔ (if n < 10 then 0 else zb_kk f (n / 10) + 1) ≤ j + 1
      by_cases h : n < 10
      · rw [if_pos h]
        have h0 : n / 10 = 0 := by omega
        have : zb_kk f 0 = 0 := by cases f with
          | zero => rfl
          | succ f => rfl
        rw [h0, this]; omega
      · rw [if_neg h]; omega
theorem zb_kk_b : ∀ (f n : Nat), zb_kk f n ≤ f := by
  intro f
  induction f with
  | zero => intro n; exact Nat.le_refl _
  | succ f ih => intro n; show (if n < 10 then 0 else zb_kk f (n / 10) + 1) ≤ f + 1; have := ih (n / 10); split <;> omega
theorem zb_tdn {a b : Nat} : Int.tdiv (a : Int) (b : Int) = ((a / b : Nat) : Int) := Int.ofNat_tdiv a b
theorem zb_dg_r {n P : Nat} (hn : n ≤ 2147483648) : eg_wi (48 + (eg_wi (eg_wl ((eg_wl (Int.tdiv (n : Int) (P : Int))) - eg_wl (Int.tdiv (eg_wl (Int.tdiv (n : Int) (P : Int))) 10) * 10)))) = 48 + ((n / P % 10 : Nat) : Int) := by
  have hq : n / P ≤ n := Nat.div_le_self _ _
  rw [zb_tdn, zb_wl_n (by omega)]
  generalize n / P = q at hq ⊢
  rw [show (10 : Int) = ((10 : Nat) : Int) from rfl, zb_tdn, zb_wl_n (by omega)]
  unfold eg_wi eg_wl
  omega
theorem zb_f243_27 {x1 : Int} {n : Nat} (hn : n ≤ 2147483648) : ∀ (k : Nat) (M : eM), k ≤ 9 → lp (fun z => fn_243_27 x1 (n : Int) z.1 z.2) (((10 ^ k : Nat) : Int), M) = zb_adR (zb_pg k n) M := by
  intro k
  induction k with
  | zero =>
    intro M _
    show _ = zb_adR [48 + ((n % 10 : Nat) : Int)] M
    refine zb_lp_ad (s' := 0) ?_ (fun m => lp2_inr ?_)
    · unfold fn_243_27
      rw [if_neg (by decide), if_pos (by decide), zb_dg_r hn, Nat.pow_zero, Nat.div_one]; rfl
    · unfold fn_243_27; rw [if_pos (by decide)]
  | succ k ih =>
    intro M hk
    show _ = zb_adR ((48 + ((n / 10 ^ (k + 1) % 10 : Nat) : Int)) :: zb_pg k n) M
    have zb_hP : 10 ^ (k + 1) = 10 ^ k * 10 := Nat.pow_succ _ _
    have h1 : 1 ≤ 10 ^ k := Nat.one_le_pow _ _ (by decide)
    have h9 : 10 ^ k ≤ 10 ^ 9 := Nat.pow_le_pow_right (by decide) (by omega)
    refine zb_lp_ad (s' := ((10 ^ k : Nat) : Int)) ?_ (fun m => ih m (by omega))
    unfold fn_243_27
    rw [zb_dg_r hn]
    rw [zb_hP]
    generalize 10 ^ k = P at *
    rw [if_neg (by omega), if_pos (by omega), show (10 : Int) = ((10 : Nat) : Int) from rfl, zb_tdn, Nat.mul_div_cancel _ (by decide), zb_wl_n (by omega)]
theorem zb_f243_16 {x1 : Int} {n : Nat} (hn : n ≤ 2147483648) : ∀ (d j : Nat), zb_kk 9 n - j = d → j ≤ zb_kk 9 n → lp (fn_243_16 x1 (n : Int) M) ((10 ^ j : Nat) : Int) = zb_adR (zb_pg (zb_kk 9 n) n) M := by
  have hlt : n < 10 ^ (9 + 1) := by have : (10 : Nat) ^ (9 + 1) = 10000000000 := by decide
                                    omega
  have hkb := zb_kk_b 9 n
  intro d
  induction d with
  | zero =>
    intro j hd hj
    have e : j = zb_kk 9 n := by omega
    have hdv := (zb_kk_le j 9 n hlt).mpr (by omega)
    have h1 : 1 ≤ 10 ^ j := Nat.one_le_pow _ _ (by decide)
    have hq : n / 10 ^ j ≤ n := Nat.div_le_self _ _
    have st : fn_243_16 x1 (n : Int) M ((10 ^ j : Nat) : Int) = (lp (fun z => fn_243_27 x1 (n : Int) z.1 z.2) (((10 ^ j : Nat) : Int), M)).map Sum.inr := by
      unfold fn_243_16
      rw [if_pos (by omega), zb_tdn, zb_wl_n (by omega), if_pos (by omega)]
    rw [lp_map st, zb_f243_27 hn j M (by omega), e]
  | succ d ih =>
    intro j hd hj
    have hdv : ¬ n / 10 ^ j < 10 := fun z => by have := (zb_kk_le j 9 n hlt).mp z; omega
    have h1 : 1 ≤ 10 ^ j := Nat.one_le_pow _ _ (by decide)
    have h9 : 10 ^ j ≤ 10 ^ 9 := Nat.pow_le_pow_right (by decide) (by omega)
    have hq : n / 10 ^ j ≤ n := Nat.div_le_self _ _
    have st : fn_243_16 x1 (n : Int) M ((10 ^ j : Nat) : Int) = some (.inl ((10 ^ (j + 1) : Nat) : Int)) := by
      unfold fn_243_16
      rw [if_pos (by omega), zb_tdn, zb_wl_n (by omega), if_neg (by omega), Nat.pow_succ]
      have : eg_wl (((10 ^ j : Nat) : Int) * 10) = ((10 ^ j * 10 : Nat) : Int) := by
        generalize 10 ^ j = P at *
        unfold eg_wl; omega
      rw [this]
    rw [lp_inl st]
    exact ih (j + 1) (by omega) (by omega)
theorem zb_num_w {a : Int} (ha : -2147483648 ≤ a ∧ a < 2147483648) (h : zb_OUT C R) : ∃ C' R', fn_87 a C = some C' ∧ fn_243 a R = some R' ∧ zb_OUT C' R' ∧ zb_FC C C' ∧ zb_FR R R' := by
  have pgb : ∀ (k n : Nat) (a : Int), a ∈ zb_pg k n → 0 ≤ a ∧ a < 128 := by
    intro k n
    induction k with
    | zero => intro a ha; have := List.mem_singleton.mp ha; omega
    | succ k ih =>
      intro a ha
      rcases List.mem_cons.mp ha with z | z
      · rw [z]; have : n / 10 ^ (k + 1) % 10 < 10 := Nat.mod_lt _ (by decide)
        omega
      · exact ih a z
  have ten : (10 : Nat) ^ (9 + 1) = 10000000000 := by decide
  have go : ∀ (b : Bool) (n : Nat) (C R : eM) (x1 : Int), zb_OUT C R → n ≤ 2147483648 → (b = false → n < 2147483648) → ∃ C' R', lp (fun z => fn_87_9 x1 z.1 z.2.1 z.2.2) (10, zb_sg b n, C) = some C' ∧ lp (fn_243_16 x1 (n : Int) R) 1 = some R' ∧ zb_OUT C' R' ∧ zb_FC C C' ∧ zb_FR R R' := by
    intro b n C R x1 ho h1 h2
    obtain ⟨M', m1, m2⟩ := zb_f87_l (a := x1) (b := b) 9 n C [] (by decide) h1 h2 (by omega) rfl
    have o' : zb_OUT M' R := by
      obtain ⟨w, fb, q1, q2⟩ := ho
      refine ⟨w, fb, by rw [m1 26 (by decide)]; exact q1, by rw [m1 27 (by decide)]; exact q2⟩
    obtain ⟨C1, R1, e1, e2, o1, f1, f2⟩ := zb_ad_ok o' (pgb (zb_kk 9 n) n)
    refine ⟨C1, R1, ?_, ?_, o1, ⟨fun c a b d => by rw [f1.1 c a b d, m1 c d], fun f hf => by rw [f1.2 f hf, m1 26 (by decide)]⟩, f2⟩
    · rw [List.append_nil] at m2
      exact m2.trans e1
    · have := zb_f243_16 (x1 := x1) (n := n) (M := R) h1 (zb_kk 9 n) 0 (by omega) (by omega)
      rw [e2] at this
      exact this
  unfold fn_87 fn_243
  by_cases h0 : 0 ≤ a
  · rw [if_pos h0, if_pos h0]
    obtain ⟨n, hn⟩ : ∃ n : Nat, a = (n : Int) := ⟨a.toNat, by omega⟩
    rw [hn] at ha ⊢
    exact go false n C R _ h (by omega) (fun _ => by omega)
  · rw [if_neg h0, if_neg h0]
    obtain ⟨n, hn⟩ : ∃ n : Nat, a = -(n : Int) := ⟨(-a).toNat, by omega⟩
    obtain ⟨C1, R1, e1, e2, o1, f1, f2⟩ := zb_out_add h (a := 45) (by decide)
    rw [e1, e2, Option.bind_some, Option.bind_some]
    rw [hn] at ha ⊢
    obtain ⟨C2, R2, g1, g2, o2, f3, f4⟩ := go true n C1 R1 (-(n : Int)) o1 (by omega) (fun z => by cases z)
    refine ⟨C2, R2, g1, ?_, o2, zb_FC_tr f1 f3, zb_FR_tr f2 f4⟩
    rw [Int.neg_neg, zb_wl_n (by omega)]; exact g2
end OU
noncomputable def zb_atC (mo : Nat) (v : Int) (M : eM) : Option eM := if ¬ (eb_lshr v 32) = 0 then (if ¬ (eb_lshr v 32) = 2 then (fn_89 mo v M).bind fun r15 => (fn_86 r15 M).bind fun m19 => some m19 else (fn_88 (eg_wi v) M).bind fun m22 => some m22) else (fn_87 (eg_wi v) M).bind fun m25 => some m25
section OU
variable {C R C' R' M : eM} {H : zb_Hp} {cn N : Nat} {lam : Nat → Prop} {scp : Nat → Nat → Prop} {L B' : Nat → Nat}
theorem zb_wrd {j : Nat} {x : eM → Option eM} (hj : j < 11) (h : ∀ M, x M = zb_adR (eg_str.getD j []) M) (ho : zb_OUT C R) : ∃ C' R', ((fn_86 j C).bind fun m19 => some m19) = some C' ∧ ((x R).bind fun m => some m) = some R' ∧ zb_OUT C' R' ∧ zb_FC C C' ∧ zb_FR R R' := by
  obtain ⟨C1, R1, e1, e2, o1, f1, f2⟩ := zb_ad_ok (L := eg_str.getD j []) ho (zb_wd_b ⟨j, hj⟩)
  exact ⟨C1, R1, by rw [zb_f86 (by omega), e1]; rfl, by rw [h, e2]; rfl, o1, f1, f2⟩
set_option maxHeartbeats 1000000 in
theorem zb_atom_w {v w : Int} (hr : zb_HR C R H cn N lam scp) (zb_nm : zb_NM C R N L B') (hv : zb_VR (zb_vo H) (zb_hP H) N v w) (hnp : ∀ g, zb_vo H g → v = 17179869184 + (g : Int) → zb_hK H g ≠ 1) (ho : zb_OUT C R) : ∃ C' R', zb_atC (cn / 3 + 1) v C = some C' ∧ fn_242 w R = some R' ∧ zb_OUT C' R' ∧ zb_FC C C' ∧ zb_FR R R' := by
  have hN := zb_nm.1.2.2.2
  unfold zb_atC
  rcases hv with ⟨a, b, c⟩ | ⟨a, b⟩ | ⟨a, b⟩ | ⟨a, b⟩ | ⟨n, a, b, c⟩ | ⟨i, a, b, c⟩ | ⟨g, a, b, c⟩
  · have t0 : eb_lshr v 32 = 0 := zb_sh32 (by omega) (by omega)
    obtain ⟨C1, R1, e1, e2, o1, f1, f2⟩ := zb_num_w (a := eg_wi v) zb_wi_rng ho
    refine ⟨C1, R1, by rw [if_neg (fun z => z t0), e1]; rfl, ?_, o1, f1, f2⟩
    unfold fn_242
    rw [c, t0, if_pos (by decide), e2]; rfl
  · have t0 : eb_lshr v 32 = 1 := zb_sh32 (by omega) (by omega)
    have t1 : eb_lshr w 32 = 2 := zb_sh32 (by omega) (by omega)
    obtain ⟨C1, R1, e1, e2, o1, f1, f2⟩ := zb_wrd (j := 4) (x := zb_adR [35, 102]) (by decide) (fun M => by rw [zb_wd_ok2.2.2.2.1]) ho
    refine ⟨C1, R1, ?_, ?_, o1, f1, f2⟩
    · rw [t0, if_pos (by decide), if_pos (by decide)]
      unfold fn_89
      rw [if_pos (by omega), if_neg (by omega)]; exact e1
    · rw [← e2]
      unfold fn_242
      rw [t1, if_neg (by decide), if_neg (by decide), if_pos (by decide)]
      show _ = ((fn_240 35 R).bind (zb_adR [102])).bind _
      cases fn_240 35 R with
      | none => rfl
      | some m =>
        rw [Option.bind_some, Option.bind_some, if_pos (by omega)]
        show _ = ((fn_240 102 m).bind (zb_adR [])).bind _
        cases fn_240 102 m <;> rfl
  · have t0 : eb_lshr v 32 = 1 := zb_sh32 (by omega) (by omega)
    have t1 : eb_lshr w 32 = 1 := zb_sh32 (by omega) (by omega)
    obtain ⟨C1, R1, e1, e2, o1, f1, f2⟩ := zb_wrd (j := 3) (x := zb_adR [35, 116]) (by decide) (fun M => by rw [zb_wd_ok2.2.2.1]) ho
    refine ⟨C1, R1, ?_, ?_, o1, f1, f2⟩
    · rw [t0, if_pos (by decide), if_pos (by decide)]
      unfold fn_89
      rw [if_neg (by omega)]; exact e1
    · rw [← e2]
      unfold fn_242
      rw [t1, if_neg (by decide), if_pos (by decide)]
      show _ = ((fn_240 35 R).bind (zb_adR [116])).bind _
      cases fn_240 35 R with
      | none => rfl
      | some m =>
        rw [Option.bind_some, Option.bind_some, if_neg (by omega)]
        show _ = ((fn_240 116 m).bind (zb_adR [])).bind _
        cases fn_240 116 m <;> rfl
  · have t0 : eb_lshr v 32 = 1 := zb_sh32 (by omega) (by omega)
    have t1 : eb_lshr w 32 = 3 := zb_sh32 (by omega) (by omega)
    obtain ⟨C1, R1, e1, e2, o1, f1, f2⟩ := zb_wrd (j := 5) (x := zb_adR [40, 41]) (by decide) (fun M => by rw [zb_wd_ok2.2.2.2.2]) ho
    refine ⟨C1, R1, ?_, ?_, o1, f1, f2⟩
    · rw [t0, if_pos (by decide), if_pos (by decide)]
      unfold fn_89
      rw [if_pos (by omega), if_pos (by omega), if_neg (by omega)]; exact e1
    · rw [← e2]
      unfold fn_242
      rw [t1, if_neg (by decide), if_neg (by decide), if_neg (by decide), if_pos (by decide)]
      show _ = ((fn_240 40 R).bind (zb_adR [41])).bind _
      cases fn_240 40 R with
      | none => rfl
      | some m =>
        rw [Option.bind_some, Option.bind_some]
        show _ = ((fn_240 41 m).bind (zb_adR [])).bind _
        cases fn_240 41 m <;> rfl
  · have t0 : eb_lshr v 32 = 2 := zb_sh32 (by omega) (by omega)
    have t1 : eb_lshr w 32 = 4 := zb_sh32 (by omega) (by omega)
    obtain ⟨W, w1, w2, w3⟩ := zb_nam_w zb_nm a
    obtain ⟨C1, R1, e1, e2, o1, f1, f2⟩ := zb_ad_ok ho w1
    refine ⟨C1, R1, ?_, ?_, o1, f1, f2⟩
    · have : eg_wi v = (n : Int) := by rw [b]; unfold eg_wi; omega
      rw [t0, if_pos (by decide), if_neg (fun z => z rfl), this, w2, e1]; rfl
    · have : eg_wi w = (n : Int) := by rw [c]; unfold eg_wi; omega
      unfold fn_242
      rw [t1, if_neg (by decide), if_neg (by decide), if_neg (by decide), if_neg (by decide), if_pos (by decide), this, w3, e2]; rfl
  · have t0 : eb_lshr v 32 = 3 := zb_sh32 (by omega) (by omega)
    have t1 : eb_lshr w 32 = 5 := zb_sh32 (by omega) (by omega)
    obtain ⟨C1, R1, e1, e2, o1, f1, f2⟩ := zb_wrd (j := 10) (x := fn_245 18226873521733) (by decide) (fun M => by rw [zb_f245, zb_wd_ok.1]) ho
    refine ⟨C1, R1, ?_, ?_, o1, f1, f2⟩
    · rw [t0, if_pos (by decide), if_pos (by decide)]
      unfold fn_89
      rw [if_pos (by omega), if_pos (by omega), if_pos (by omega), t0, if_pos (by decide)]; exact e1
    · rw [← e2]
      unfold fn_242
      rw [t1, if_neg (by decide), if_neg (by decide), if_neg (by decide), if_neg (by decide), if_neg (by decide), if_pos (by decide)]
  · have hb := zb_hr_h hr a.1
    have hpb := zb_hr_p hr a.1
    have hg20 : g < 20000 := by omega
    have t0 : eb_lshr v 32 = 4 := by rw [b]; exact zb_sh_obj hg20
    have t1 : eb_lshr w 32 = 6 := by rw [c]; exact zb_sh32 (by unfold zb_ov; omega) (by unfold zb_ov; omega)
    have k18 := (zb_hr_k hr a.1).1
    have k62 := (zb_hr_ob hr a.1).1
    have kz := (zb_nf_le (zb_hr_ob hr a.1).2.2.2.1).2.2.2
    have hn1 := hnp g a b
    have kc : fn_89 (cn / 3 + 1) v C = if zb_hK H g = 2 then some 6 else if zb_hK H g = 3 then some 10 else if zb_hK H g = 4 then some 10 else if zb_hK H g = 5 then some 7 else if zb_hK H g = 6 then some 8 else if zb_hK H g = 7 then some 9 else some 10 := by
      unfold fn_89
      have hwv : eg_wi v = (g : Int) := by rw [b]; exact zb_wi_obj hg20
      rw [t0, hwv]
      clear hwv
      rw [if_pos (by omega), if_pos (by omega), if_pos (by omega), if_neg (fun z => z rfl), if_pos (by omega), Int.toNat_natCast, k18]
      have ei : ∀ (q : Nat) (X Y : Option Nat), (if ((zb_hK H g : Nat) : Int) = (q : Int) then X else Y) = if zb_hK H g = q then X else Y := fun q X Y => by
        by_cases hq : zb_hK H g = q
        · rw [if_pos (by omega), if_pos hq]
        · rw [if_neg (by omega), if_neg hq]
      rw [← ei 2, ← ei 3, ← ei 4, ← ei 5, ← ei 6, ← ei 7]; rfl
    have kr : fn_242 w R = if zb_hK H g ≠ 2 then if zb_hK H g ≠ 3 then if zb_hK H g ≠ 5 then if zb_hK H g ≠ 6 then (fn_245 21006725 R).bind fun m => some m else (fn_245 6056085473774 R).bind fun m => some m else (fn_245 758827 R).bind fun m => some m else (fn_245 18226873521733 R).bind fun m => some m else (fn_245 743559666 R).bind fun m => some m := by
      unfold fn_242
      rw [t1, if_neg (by decide), if_neg (by decide), if_neg (by decide), if_neg (by decide), if_neg (by decide), if_neg (by decide), c, zb_f187 hpb, Option.bind_some, if_pos (by omega), Int.toNat_natCast, k62]
      have ei : ∀ (q p : Nat) (X Y : Option eM), p = q + 1 → (if ¬ ((zb_hK H g : Nat) : Int) - 1 = (q : Int) then X else Y) = if zb_hK H g ≠ p then X else Y := fun q p X Y hq => by
        by_cases hq2 : zb_hK H g = p
        · rw [if_neg (fun z => z (by omega)), if_neg (fun z => z hq2)]
        · rw [if_pos (by omega), if_pos hq2]
      rw [← ei 1 2 _ _ rfl, ← ei 2 3 _ _ rfl, ← ei 4 5 _ _ rfl, ← ei 5 6 _ _ rfl]; rfl
    rw [t0, if_pos (by decide), if_pos (by decide), kc, kr]
    have hk8 : zb_hK H g ≠ 8 := a.2.2
    have hk4 : zb_hK H g ≠ 4 := a.2.1
    have key : zb_hK H g = 2 ∨ zb_hK H g = 3 ∨ zb_hK H g = 5 ∨ zb_hK H g = 6 ∨ zb_hK H g = 7 := by omega
    rcases key with z | z | z | z | z <;> rw [z]
    · exact zb_wrd (j := 6) (x := fn_245 743559666) (by decide) (fun M => by rw [zb_f245, zb_wd_ok.2.1]) ho
    · exact zb_wrd (j := 10) (x := fn_245 18226873521733) (by decide) (fun M => by rw [zb_f245, zb_wd_ok.1]) ho
    · exact zb_wrd (j := 7) (x := fn_245 758827) (by decide) (fun M => by rw [zb_f245, zb_wd_ok.2.2.1]) ho
    · exact zb_wrd (j := 8) (x := fn_245 6056085473774) (by decide) (fun M => by rw [zb_f245, zb_wd_ok.2.2.2.1]) ho
    · exact zb_wrd (j := 9) (x := fn_245 21006725) (by decide) (fun M => by rw [zb_f245, zb_wd_ok.2.2.2.2]) ho
end OU
def zb_PF (C0 R0 C R : eM) : Prop := (∀ c, c ≠ 26 → c ≠ 27 → c ≠ 28 → C c = C0 c) ∧ (∀ c, c ≠ 45 → c ≠ 86 → c ≠ 87 → R c = R0 c) ∧ (∀ f, f ≠ 72 → f ≠ 73 → f ≠ 74 → R 45 f = R0 45 f) ∧ C 26 3 = C0 26 3
def zb_PRS (C0 R0 C R : eM) (k b : Nat) : Prop := zb_OUT C R ∧ (C 26 5 = (k : Int) ∧ R 45 73 = (k : Int) ∧ k ≤ 40) ∧ C 26 6 = 0 ∧ R 45 74 = (b : Int) ∧ zb_PF C0 R0 C R
def zb_CUT (C0 R0 C R : eM) (b : Nat) : Prop := zb_OUT C R ∧ C 26 6 = 1 ∧ R 45 74 = (b : Int) ∧ zb_PF C0 R0 C R
section OU
variable {C0 R0 C R C' R' M : eM} {H : zb_Hp} {cn N k b : Nat} {lam : Nat → Prop} {scp : Nat → Nat → Prop} {L B' : Nat → Nat}
theorem zb_pf_f (h : zb_PF C0 R0 C R) (f1 : zb_FC C C') (f2 : zb_FR R R') : zb_PF C0 R0 C' R' :=
  ⟨fun c a b d => by rw [f1.1 c a b d, h.1 c a b d], fun c a b d => by rw [f2.1 c a b, h.2.1 c a b d], fun f a b d => by rw [f2.2 f a, h.2.2.1 f a b d], by rw [f1.2 3 (by decide)]; exact h.2.2.2⟩
theorem zb_ps_f (h : zb_PRS C0 R0 C R k b) (o : zb_OUT C' R') (f1 : zb_FC C C') (f2 : zb_FR R R') : zb_PRS C0 R0 C' R' k b :=
  ⟨o, ⟨by rw [f1.2 5 (by decide)]; exact h.2.1.1, by rw [f2.2 73 (by decide)]; exact h.2.1.2.1, h.2.1.2.2⟩, by rw [f1.2 6 (by decide)]; exact h.2.2.1, by rw [f2.2 74 (by decide)]; exact h.2.2.2.1, zb_pf_f h.2.2.2.2 f1 f2⟩
theorem zb_cut_f (h : zb_CUT C0 R0 C R b) (o : zb_OUT C' R') (f1 : zb_FC C C') (f2 : zb_FR R R') : zb_CUT C0 R0 C' R' b :=
  ⟨o, by rw [f1.2 6 (by decide)]; exact h.2.1, by rw [f2.2 74 (by decide)]; exact h.2.2.1, zb_pf_f h.2.2.2 f1 f2⟩
theorem zb_out_u {f g : Nat} {v w : Int} (h : zb_OUT C R) (hf : f ≠ 3 ∧ f ≠ 4) (hg : g ≠ 72) : zb_OUT (eg_u C 26 f v) R ∧ zb_OUT C (eg_u R 45 g w) := by
  obtain ⟨x, fb, ⟨h1, h2, h3, h4, h5⟩, h6⟩ := h
  refine ⟨⟨x, fb, ⟨by rw [eg_u_nj (by omega)]; exact h1, h2, h3, by rw [eg_u_nj (by omega)]; exact h4, h5⟩, fun i hi => by rw [eg_u_ne (by decide)]; exact h6 i hi⟩, ⟨x, fb, ⟨h1, by rw [eg_u_nj (by omega)]; exact h2, h3, h4, h5⟩, fun i hi => by rw [eg_u_ne (by decide)]; exact h6 i hi⟩⟩
theorem zb_dots (ho : zb_OUT C R) : ∃ C' R', ((fn_86 2 C).bind fun m => some m) = some C' ∧ fn_241 R = some R' ∧ zb_OUT C' R' ∧ zb_FC C C' ∧ zb_FR R R' := by
  obtain ⟨C1, R1, e1, e2, o1, f1, f2⟩ := zb_ad_ok (L := [46, 46, 46]) ho (by decide)
  exact ⟨C1, R1, by rw [zb_f86 (by decide), zb_wd_ok2.2.1, e1]; rfl, by rw [zb_f241, e2], o1, f1, f2⟩
set_option maxHeartbeats 1000000 in
theorem zb_part_w {v w r2 x3 : Int} {rec : Int → Int → eM → Option eM} (hr : zb_HR C0 R0 H cn N lam scp) (zb_nm : zb_NM C0 R0 N L B') (hv : zb_VR (zb_vo H) (zb_hP H) N v w) (h : zb_PRS C0 R0 C R k b) (hp : (r2 = 0 ∧ ∀ g, zb_vo H g → v = 17179869184 + (g : Int) → zb_hK H g ≠ 1) ∨ r2 = 1) (h223 : ∀ M, M 62 = R0 62 → fn_223 w 0 M = some r2) :
    (k < 40 ∧ ∃ C' R', fn_84_89 cn (cn / 3 + 1) rec v x3 r2 C = some C' ∧ fn_239_26 w R = some (1, R') ∧ zb_PRS C0 R0 C' R' (k + 1) b ∧ R' 87 = R 87) ∨ (k = 40 ∧ ∃ C' R', fn_84_89 cn (cn / 3 + 1) rec v x3 r2 C = some C' ∧ fn_239_26 w R = some (0, R') ∧ zb_CUT C0 R0 C' R' b ∧ R' 87 = R 87) := by
  obtain ⟨o, ⟨k1, k2, k3⟩, k4, k5, k6⟩ := h
  by_cases hk : k = 40
  · right
    refine ⟨hk, ?_⟩
    obtain ⟨C2, hC2⟩ : ∃ X, X = eg_u (eg_u C 26 6 1) 26 5 ((k + 1 : Nat) : Int) := ⟨_, rfl⟩
    have o2 : zb_OUT C2 R := by rw [hC2]; exact (zb_out_u (g := 0) (w := 0) (zb_out_u (g := 0) (w := 0) o (by decide) (by decide)).1 (by decide) (by decide)).1
    obtain ⟨C', R', e1, e2, o1, f1, f2⟩ := zb_dots o2
    refine ⟨C', R', ?_, ?_, ⟨o1, ?_, by rw [f2.2 74 (by decide)]; exact k5, ?_⟩, f2.1 87 (by decide) (by decide)⟩
    · unfold fn_84_89 fn_84_97
      rw [k1, if_neg (fun z => z (by omega)), if_pos (Or.inr rfl), if_pos (by decide), zb_wi_1 (by omega), ← hC2]; exact e1
    · unfold fn_239_26
      rw [k2, if_neg (fun z => z (by omega)), e2]; rfl
    · rw [f1.2 6 (by decide), hC2, eg_u_nj (by decide), eg_u_eq]
    · have pf2 : zb_PF C0 R0 C2 R := ⟨fun c a b d => by rw [hC2, eg_u_ne a, eg_u_ne a]; exact k6.1 c a b d, k6.2.1, k6.2.2.1, by rw [hC2, eg_u_nj (by decide), eg_u_nj (by decide)]; exact k6.2.2.2⟩
      exact zb_pf_f pf2 f1 f2
  · left
    refine ⟨by omega, ?_⟩
    obtain ⟨C2, hC2⟩ : ∃ X, X = eg_u (eg_u C 26 6 0) 26 5 ((k + 1 : Nat) : Int) := ⟨_, rfl⟩
    obtain ⟨R2, hR2⟩ : ∃ X, X = eg_u R 45 73 ((k + 1 : Nat) : Int) := ⟨_, rfl⟩
    have o2 : zb_OUT C2 R2 := by
      rw [hC2, hR2]
      exact (zb_out_u (f := 5) (g := 73) (v := 0) (zb_out_u (g := 0) (w := 0) (zb_out_u (g := 0) (w := 0) o (by decide) (by decide)).1 (by decide) (by decide)).1 (by decide) (by decide)).2
    have zb_c2o : ∀ c, c ≠ 26 → C2 c = C c := fun c hc => by rw [hC2, eg_u_ne hc, eg_u_ne hc]
    have r2o : ∀ c, c ≠ 45 → R2 c = R c := fun c hc => by rw [hR2, eg_u_ne hc]
    have ps2 : zb_PRS C0 R0 C2 R2 (k + 1) b := by
      refine ⟨o2, ⟨by rw [hC2, eg_u_eq], by rw [hR2, eg_u_eq], by omega⟩, by rw [hC2, eg_u_nj (by decide), eg_u_eq], by rw [hR2, eg_u_nj (by decide)]; exact k5, fun c a b d => by rw [zb_c2o c a]; exact k6.1 c a b d, fun c a b d => by rw [r2o c a]; exact k6.2.1 c a b d, fun f a b d => by rw [hR2, eg_u_nj (by omega)]; exact k6.2.2.1 f a b d, by rw [hC2, eg_u_nj (by decide), eg_u_nj (by decide)]; exact k6.2.2.2⟩
    have ec : fn_84_89 cn (cn / 3 + 1) rec v x3 r2 C = if r2 = 0 then zb_atC (cn / 3 + 1) v C2 else (fn_86 2 C2).bind fun m28 => some m28 := by
      unfold fn_84_89 fn_84_97
      rw [k1, if_pos (by omega), if_pos (Or.inl rfl), if_neg (fun z => z rfl), zb_wi_1 (by omega), ← hC2]; rfl
    have er : fn_239_26 w R = if r2 = 0 then (fn_242 w R2).bind fun m12 => some (1, m12) else (fn_241 R2).bind fun m15 => some (1, m15) := by
      unfold fn_239_26
      rw [k2, if_pos (by omega), zb_wi_1 (by omega), ← hR2, h223 R2 (by rw [r2o 62 (by decide)]; exact k6.2.1 62 (by decide) (by decide) (by decide)), Option.bind_some]
    rcases hp with ⟨z, hnp⟩ | z
    · have hr2 : zb_HR C2 R2 H cn N lam scp := zb_hr_congr hr (fun f _ => by rw [ps2.2.2.2.2.1 15 (by decide) (by decide) (by decide)]) (fun c hc => ps2.2.2.2.2.1 c (by revert hc; simp; omega) (by revert hc; simp; omega) (by revert hc; simp; omega)) (fun f hf => ps2.2.2.2.2.2.2.1 f (by revert hf; simp; omega) (by revert hf; simp; omega) (by revert hf; simp; omega)) (fun c hc => ps2.2.2.2.2.2.1 c (by revert hc; simp; omega) (by revert hc; simp; omega) (by revert hc; simp; omega))
      have nm2 : zb_NM C2 R2 N L B' := zb_nm_congr zb_nm (ps2.2.2.2.2.1 1 (by decide) (by decide) (by decide)) (ps2.2.2.2.2.1 2 (by decide) (by decide) (by decide)) (ps2.2.2.2.2.1 3 (by decide) (by decide) (by decide)) (ps2.2.2.2.2.2.2.1 7 (by decide) (by decide) (by decide)) (ps2.2.2.2.2.2.1 47 (by decide) (by decide) (by decide)) (ps2.2.2.2.2.2.1 48 (by decide) (by decide) (by decide))
      obtain ⟨C', R', e1, e2, o1, f1, f2⟩ := zb_atom_w hr2 nm2 hv hnp o2
      refine ⟨C', R', by rw [ec, if_pos z, e1], by rw [er, if_pos z, e2]; rfl, zb_ps_f ps2 o1 f1 f2, by rw [f2.1 87 (by decide) (by decide), r2o 87 (by decide)]⟩
    · obtain ⟨C', R', e1, e2, o1, f1, f2⟩ := zb_dots o2
      refine ⟨C', R', by rw [ec, if_neg (by omega), e1], by rw [er, if_neg (by omega), e2]; rfl, zb_ps_f ps2 o1 f1 f2, by rw [f2.1 87 (by decide) (by decide), r2o 87 (by decide)]⟩
end OU
