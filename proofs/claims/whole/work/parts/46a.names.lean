theorem zb_z_ne {M : eM} {a b : Nat} {v : Int} (h : b ≠ a) : eg_z M a v b = M b := by funext j; unfold eg_z; rw [if_neg h]
theorem zb_lay_ne {M : eM} {a D n b : Nat} {f : Nat → Int} (h : b ≠ a) : eg_lay9 M a D f n b = M b := by funext j; unfold eg_lay9; rw [if_neg (fun z => h z.1)]
def zb_kns (M : eM) : List (Nat × Nat × Nat) → eM
  | [] => M
  | w :: l => ek_kn (zb_kns M l) w.1 w.2.1 w.2.2
def zb_spl1 : Nat → Nat × List (Nat × Nat × Nat)
  | 0 => (0, [])
  | i + 1 => if (eg_str.getD 0 []).getD i 0 = 32 then (i + 1, (0, (zb_spl1 i).1, i) :: (zb_spl1 i).2) else zb_spl1 i
def zb_spl2 (l : List (Nat × Nat × Nat)) : Nat → List (Nat × Nat × Nat)
  | 0 => l
  | i + 1 => (ek_w i, 0, (eg_str.getD (ek_w i) []).length) :: zb_spl2 l i
theorem zb_s1_kns {M : eM} : ∀ i, ek_s1 M i = ((zb_spl1 i).1, zb_kns M (zb_spl1 i).2)
  | 0 => rfl
  | i + 1 => by
    have ih := zb_s1_kns (M := M) i
    unfold ek_s1 zb_spl1
    split
    · rw [ih]; rfl
    · exact ih
theorem zb_s2_kns {M : eM} {l : List (Nat × Nat × Nat)} : ∀ i, ek_s2 (zb_kns M l) i = zb_kns M (zb_spl2 l i)
  | 0 => rfl
  | i + 1 => by
    have ih := zb_s2_kns (M := M) (l := l) i
    unfold ek_s2 zb_spl2
    rw [ih]; rfl
def zb_wds : List (Nat × Nat × Nat) := [(61, 0, 5), (60, 0, 5), (59, 0, 2), (58, 0, 4), (56, 0, 9), (54, 0, 10), (52, 0, 9), (50, 0, 10), (48, 0, 5), (47, 0, 15), (45, 0, 13), (44, 0, 9), (42, 0, 8), (41, 0, 4), (39, 0, 11), (37, 0, 11), (35, 0, 10), (33, 0, 6), (32, 0, 8), (30, 0, 8), (29, 0, 3), (27, 0, 3), (26, 0, 4), (25, 0, 5), (24, 0, 5), (22, 0, 3), (20, 0, 3), (19, 0, 1), (18, 0, 1), (17, 0, 9), (12, 0, 8), (16, 0, 1), (15, 0, 1), (14, 0, 1), (0, 48, 50), (0, 44, 47), (0, 38, 43), (0, 32, 37), (0, 28, 31), (0, 21, 27), (0, 14, 20), (0, 9, 13), (0, 6, 8), (0, 0, 5)]
theorem zb_wds_ok : zb_spl2 (zb_spl1 51).2 34 = zb_wds := by decide +kernel
theorem zb_src_kns {M : eM} : ek_s2 (ek_s1 M 51).2 34 = zb_kns M zb_wds := by
  rw [zb_s1_kns 51]
  show ek_s2 (zb_kns M (zb_spl1 51).2) 34 = _
  rw [zb_s2_kns 34, zb_wds_ok]
theorem zb_kns_n {M : eM} : ∀ l, zb_kns M l 1 2 = M 1 2 + (l.length : Int)
  | [] => by show M 1 2 = _; rw [List.length_nil]; omega
  | w :: l => by
    have ih := zb_kns_n (M := M) l
    show ek_kn (zb_kns M l) w.1 w.2.1 w.2.2 1 2 = _
    unfold ek_kn
    rw [eg_u_eq, ih, List.length_cons]; omega
theorem zb_kns_o {M : eM} {c j : Nat} (h1 : ¬ (c = 1 ∧ j = 2)) (h2 : c ≠ 2) (h3 : c ≠ 3) : ∀ l, zb_kns M l c j = M c j
  | [] => rfl
  | w :: l => by
    have ih := zb_kns_o (M := M) h1 h2 h3 l
    show ek_kn (zb_kns M l) w.1 w.2.1 w.2.2 c j = _
    unfold ek_kn
    rw [eg_u_nj h1, eg_u_ne h3, zb_lay_ne h2]; exact ih
theorem zb_kns_w {M : eM} (h0 : M 1 2 = 0) : ∀ l : List (Nat × Nat × Nat), (∀ w, w ∈ l → w.2.2 - w.2.1 ≤ 20) → ∀ k, k < l.length → zb_kns M l 3 k = (((l.reverse.getD k (0, 0, 0)).2.2 - (l.reverse.getD k (0, 0, 0)).2.1 : Nat) : Int) ∧ ∀ j, j < (l.reverse.getD k (0, 0, 0)).2.2 - (l.reverse.getD k (0, 0, 0)).2.1 → zb_kns M l 2 (20 * k + j) = (eg_str.getD (l.reverse.getD k (0, 0, 0)).1 []).getD ((l.reverse.getD k (0, 0, 0)).2.1 + j) 0
  | [], _, k, hk => absurd hk (by simp)
  | w :: l, hl, k, hk => by
    have hn : zb_kns M l 1 2 = (l.length : Int) := by rw [zb_kns_n, h0]; omega
    have hw := hl w (List.mem_cons_self ..)
    have hl' : ∀ w, w ∈ l → w.2.2 - w.2.1 ≤ 20 := fun x hx => hl x (List.mem_cons_of_mem _ hx)
    have e3 : ∀ i, zb_kns M (w :: l) 3 i = if i = l.length then ((w.2.2 - w.2.1 : Nat) : Int) else zb_kns M l 3 i := fun i => by
      show ek_kn (zb_kns M l) w.1 w.2.1 w.2.2 3 i = _
      unfold ek_kn
      rw [hn, eg_u_ne (by decide), Int.toNat_natCast]
      by_cases h : i = l.length
      · rw [if_pos h, h, eg_u_eq]
      · rw [if_neg h, eg_u_nj (fun z => h z.2), zb_lay_ne (by decide)]
    have e2 : ∀ i, zb_kns M (w :: l) 2 i = if l.length * 20 ≤ i ∧ i < l.length * 20 + (w.2.2 - w.2.1) then (eg_str.getD w.1 []).getD (w.2.1 + (i - l.length * 20)) 0 else zb_kns M l 2 i := fun i => by
      show ek_kn (zb_kns M l) w.1 w.2.1 w.2.2 2 i = _
      unfold ek_kn
      rw [hn, eg_u_ne (by decide), eg_u_ne (by decide), Int.toNat_natCast]
      unfold eg_lay9
      by_cases h : l.length * 20 ≤ i ∧ i < l.length * 20 + (w.2.2 - w.2.1)
      · rw [if_pos h, if_pos ⟨rfl, h⟩]
      · rw [if_neg h, if_neg (fun z => h z.2)]
    rw [List.length_cons] at hk
    by_cases h : k = l.length
    · have eg : (w :: l).reverse.getD k (0, 0, 0) = w := by
        rw [List.reverse_cons, List.getD_eq_getElem?_getD, List.getElem?_append_right (by rw [List.length_reverse]; omega), List.length_reverse, h, Nat.sub_self]; rfl
      rw [eg, e3, if_pos h]
      refine ⟨rfl, fun j hj => ?_⟩
      rw [e2, if_pos (by omega), show 20 * k + j - l.length * 20 = j by omega]
    · have eg : (w :: l).reverse.getD k (0, 0, 0) = l.reverse.getD k (0, 0, 0) := by
        rw [List.reverse_cons, List.getD_eq_getElem?_getD, List.getElem?_append_left (by rw [List.length_reverse]; omega), ← List.getD_eq_getElem?_getD]
      obtain ⟨i1, i2⟩ := zb_kns_w h0 l hl' k (by omega)
      have hmem : (l.reverse.getD k (0, 0, 0)).2.2 - (l.reverse.getD k (0, 0, 0)).2.1 ≤ 20 := by
        have hk2 : k < l.reverse.length := by rw [List.length_reverse]; omega
        rw [List.getD_eq_getElem?_getD, List.getElem?_eq_getElem hk2, Option.getD_some]
        exact hl' _ (List.mem_reverse.mp (List.getElem_mem hk2))
      rw [eg, e3, if_neg h]
      refine ⟨i1, fun j hj => ?_⟩
      rw [e2, if_neg (by omega)]
      exact i2 j hj
abbrev zb_rch (k : Nat) : Int := (eg_str.getD 11 []).getD k 0
def zb_pn : Nat → Nat × Nat
  | 0 => (0, 0)
  | k + 1 => if zb_rch k = 32 then ((zb_pn k).1, (zb_pn k).2 + 1) else ((zb_pn k).1 + 1, (zb_pn k).2)
theorem zb_pn_32 {k : Nat} (h : zb_rch k = 32) : zb_pn (k + 1) = ((zb_pn k).1, (zb_pn k).2 + 1) := by show (if zb_rch k = 32 then _ else _) = _; rw [if_pos h]
theorem zb_pn_n {k : Nat} (h : ¬ zb_rch k = 32) : zb_pn (k + 1) = ((zb_pn k).1 + 1, (zb_pn k).2) := by show (if zb_rch k = 32 then _ else _) = _; rw [if_neg h]
theorem zb_pn_le {i : Nat} : ∀ {k : Nat}, i ≤ k → (zb_pn i).1 ≤ (zb_pn k).1 ∧ (zb_pn i).2 ≤ (zb_pn k).2 := by
  intro k
  induction k with
  | zero => intro h; rw [show i = 0 by omega]; exact ⟨Nat.le_refl _, Nat.le_refl _⟩
  | succ k ih =>
    intro h
    by_cases he : i = k + 1
    · rw [he]; exact ⟨Nat.le_refl _, Nat.le_refl _⟩
    · have := ih (by omega)
      by_cases h3 : zb_rch k = 32
      · rw [zb_pn_32 h3]; exact ⟨this.1, Nat.le_succ_of_le this.2⟩
      · rw [zb_pn_n h3]; exact ⟨Nat.le_succ_of_le this.1, this.2⟩
theorem zb_s1_32 {M : eM} {k : Nat} (h : zb_rch k = 32) : em_s1 M (k + 1) = ((em_s1 M k).1, eg_u (eg_u (em_s1 M k).2 45 7 ((em_s1 M k).2 45 7 + 1)) 48 ((em_s1 M k).2 45 7 + 1).toNat (((em_s1 M k).1 : Nat) : Int)) := by show (if zb_rch k = 32 then _ else _) = _; rw [if_pos h]
theorem zb_s1_n {M : eM} {k : Nat} (h : ¬ zb_rch k = 32) : em_s1 M (k + 1) = ((em_s1 M k).1 + 1, eg_u (em_s1 M k).2 47 (em_s1 M k).1 (zb_rch k)) := by show (if zb_rch k = 32 then _ else _) = _; rw [if_neg h]
theorem zb_em1 {M : eM} (h0 : M 45 7 = 0) : ∀ k, (em_s1 M k).1 = (zb_pn k).1 ∧ (em_s1 M k).2 45 7 = ((zb_pn k).2 : Int) ∧ (∀ i, i < k → ¬ zb_rch i = 32 → (em_s1 M k).2 47 (zb_pn i).1 = zb_rch i) ∧ (∀ i, i < k → zb_rch i = 32 → (em_s1 M k).2 48 ((zb_pn i).2 + 1) = ((zb_pn i).1 : Int)) ∧ (em_s1 M k).2 48 0 = M 48 0 := by
  intro k
  induction k with
  | zero => exact ⟨rfl, h0, fun i hi => by omega, fun i hi => by omega, rfl⟩
  | succ k ih =>
    obtain ⟨a1, a2, a3, a4, a5⟩ := ih
    by_cases h : zb_rch k = 32
    · have ht : ((em_s1 M k).2 45 7 + 1).toNat = (zb_pn k).2 + 1 := by rw [a2]; omega
      rw [zb_s1_32 h, zb_pn_32 h, ht]
      refine ⟨a1, ?_, fun i hi hn => ?_, fun i hi hn => ?_, ?_⟩
      · dsimp only
        rw [eg_u_ne (by decide), eg_u_eq, a2]; omega
      · dsimp only
        rw [eg_u_ne (by decide), eg_u_ne (by decide)]
        exact a3 i (by rcases Nat.lt_or_ge i k with z | z; exact z; exact absurd (show zb_rch i = 32 by rw [show i = k by omega]; exact h) hn) hn
      · dsimp only
        by_cases he : i = k
        · rw [he, eg_u_eq, a1]
        · have hle := zb_pn_le (i := i + 1) (k := k) (by omega)
          rw [zb_pn_32 hn] at hle
          have h2 : (zb_pn i).2 + 1 ≤ (zb_pn k).2 := hle.2
          rw [eg_u_nj (fun z => by have := z.2; omega), eg_u_ne (by decide)]
          exact a4 i (by omega) hn
      · dsimp only
        rw [eg_u_nj (fun z => by have := z.2; omega), eg_u_ne (by decide)]; exact a5
    · rw [zb_s1_n h, zb_pn_n h]
      refine ⟨by show (em_s1 M k).1 + 1 = _; rw [a1], ?_, fun i hi hn => ?_, fun i hi hn => ?_, ?_⟩
      · dsimp only
        rw [eg_u_ne (by decide)]; exact a2
      · dsimp only
        by_cases he : i = k
        · rw [he, a1, eg_u_eq]
        · have hle := zb_pn_le (i := i + 1) (k := k) (by omega)
          rw [zb_pn_n hn] at hle
          have h2 : (zb_pn i).1 + 1 ≤ (zb_pn k).1 := hle.1
          rw [a1, eg_u_nj (fun z => by have := z.2; omega)]
          exact a3 i (by omega) hn
      · dsimp only
        rw [eg_u_ne (by decide)]
        exact a4 i (by rcases Nat.lt_or_ge i k with z | z; exact z; exact absurd hn (show ¬ zb_rch i = 32 by rw [show i = k by omega]; exact h)) hn
      · dsimp only
        rw [eg_u_ne (by decide)]; exact a5
def zb_nmq : List Nat := [0, 6, 9, 14, 21, 28, 32, 38, 44, 48, 51, 53, 55, 57, 66, 76, 78, 80, 84, 88, 94, 100, 105, 109, 113, 122, 131, 138, 149, 161, 173, 178, 187, 197, 211, 227, 233, 244, 254, 265, 275, 280, 283, 289]
def zb_nmL : List Nat := [5, 2, 4, 6, 6, 3, 5, 5, 3, 2, 1, 1, 1, 8, 9, 1, 1, 3, 3, 5, 5, 4, 3, 3, 8, 8, 6, 10, 11, 11, 4, 8, 9, 13, 15, 5, 10, 9, 10, 9, 4, 2, 5, 5]
def zb_nmB : List Nat := [0, 5, 7, 11, 17, 23, 26, 31, 36, 39, 41, 42, 43, 44, 52, 61, 62, 63, 66, 69, 74, 79, 83, 86, 89, 97, 105, 111, 121, 132, 143, 147, 155, 164, 177, 192, 197, 207, 216, 226, 235, 239, 241, 246, 251]
abbrev zb_wdk (k : Nat) : Nat × Nat × Nat := zb_wds.reverse.getD k (0, 0, 0)
theorem zb_nm_tab : ∀ k, k < 44 → zb_nmB.getD (k + 1) 0 = zb_nmB.getD k 0 + zb_nmL.getD k 0 ∧ zb_nmL.getD k 0 ≤ 20 ∧ zb_nmB.getD k 0 ≤ 20 * k ∧ (zb_wdk k).2.2 - (zb_wdk k).2.1 = zb_nmL.getD k 0 ∧ zb_nmq.getD k 0 + zb_nmL.getD k 0 < 295 ∧ zb_rch (zb_nmq.getD k 0 + zb_nmL.getD k 0) = 32 ∧ zb_pn (zb_nmq.getD k 0 + zb_nmL.getD k 0) = (zb_nmB.getD (k + 1) 0, k) := by decide +kernel
theorem zb_nm_let : ∀ k, k < 44 → ∀ i, i < zb_nmL.getD k 0 → ¬ zb_rch (zb_nmq.getD k 0 + i) = 32 ∧ (zb_pn (zb_nmq.getD k 0 + i)).1 = zb_nmB.getD k 0 + i ∧ (eg_str.getD (zb_wdk k).1 []).getD ((zb_wdk k).2.1 + i) 0 = zb_rch (zb_nmq.getD k 0 + i) ∧ 0 ≤ zb_rch (zb_nmq.getD k 0 + i) ∧ zb_rch (zb_nmq.getD k 0 + i) < 128 := by decide +kernel
theorem zb_pn_end : zb_pn 295 = (251, 44) := by decide +kernel
