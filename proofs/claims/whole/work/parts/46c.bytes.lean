theorem zb_iand255 {y : Int} : (Int32.ofInt y &&& Int32.ofInt 255).toInt = y % 256 := by
  rw [← Int32.toInt_toBitVec, Int32.toBitVec_and]
  have e1 : (Int32.ofInt y).toBitVec = BitVec.ofInt 32 y := rfl
  have e2 : (Int32.ofInt 255).toBitVec = BitVec.ofNat 32 255 := rfl
  rw [e1, e2]
  have e3 : (BitVec.ofInt 32 y &&& BitVec.ofNat 32 255).toNat = (y % 4294967296).toNat % 256 := by
    rw [BitVec.toNat_and, BitVec.toNat_ofInt, BitVec.toNat_ofNat]
    show (y % 4294967296).toNat &&& (2 ^ 8 - 1) = _
    rw [Nat.and_two_pow_sub_one_eq_mod]
  rw [BitVec.toInt_eq_toNat_of_lt (by rw [e3]; omega), e3]
  omega
theorem zb_lshl_n {x s : Nat} {sh : Int64} (hs : sh.toBitVec.smod 64 = BitVec.ofNat 64 s) (h64 : s < 64) (hx : x * 2 ^ s < 9223372036854775808) : (Int64.ofInt (x : Int) <<< sh).toInt = ((x * 2 ^ s : Nat) : Int) := by
  have hx0 : x < 18446744073709551616 := by
    have : x * 1 ≤ x * 2 ^ s := Nat.mul_le_mul_left x (Nat.one_le_two_pow)
    omega
  rw [← Int64.toInt_toBitVec, Int64.toBitVec_shiftLeft, hs]
  have e1 : (Int64.ofInt (x : Int)).toBitVec = BitVec.ofNat 64 x := by
    show BitVec.ofInt 64 _ = _
    rw [BitVec.ofInt_natCast]
  rw [e1]
  have e3 : (BitVec.ofNat 64 x <<< BitVec.ofNat 64 s).toNat = x * 2 ^ s := by
    rw [BitVec.shiftLeft_eq', BitVec.toNat_shiftLeft, BitVec.toNat_ofNat, BitVec.toNat_ofNat, Nat.mod_eq_of_lt (show s < 2 ^ 64 by omega), Nat.mod_eq_of_lt (show x < 2 ^ 64 from hx0), Nat.shiftLeft_eq, Nat.mod_eq_of_lt (by omega)]
  rw [BitVec.toInt_eq_toNat_of_lt (by rw [e3]; omega), e3]
theorem zb_lor_n {k r i : Nat} (hr : r < 2 ^ i) (hk : k * 2 ^ i + r < 9223372036854775808) : (Int64.ofInt ((k * 2 ^ i : Nat) : Int) ||| Int64.ofInt (r : Int)).toInt = ((k * 2 ^ i + r : Nat) : Int) := by
  rw [← Int64.toInt_toBitVec, Int64.toBitVec_or]
  have e1 : (Int64.ofInt ((k * 2 ^ i : Nat) : Int)).toBitVec = BitVec.ofNat 64 (k * 2 ^ i) := by
    show BitVec.ofInt 64 _ = _
    rw [BitVec.ofInt_natCast]
  have e2 : (Int64.ofInt (r : Int)).toBitVec = BitVec.ofNat 64 r := by
    show BitVec.ofInt 64 _ = _
    rw [BitVec.ofInt_natCast]
  rw [e1, e2]
  have e3 : (BitVec.ofNat 64 (k * 2 ^ i) ||| BitVec.ofNat 64 r).toNat = k * 2 ^ i + r := by
    rw [BitVec.toNat_or, BitVec.toNat_ofNat, BitVec.toNat_ofNat, Nat.mod_eq_of_lt (by omega), Nat.mod_eq_of_lt (by omega), Nat.mul_comm k, ← Nat.two_pow_add_eq_or_of_lt (i := i) (b := r) hr k]
  rw [BitVec.toInt_eq_toNat_of_lt (by rw [e3]; omega), e3]
def zb_tkn (b : Nat → Nat) (n : Nat) : Nat → Nat
  | 0 => n
  | i + 1 => 256 * zb_tkn b n i + (if i < n then b i else 0)
theorem zb_tkn_lt {b : Nat → Nat} {n : Nat} (hn : n ≤ 7) (hb : ∀ i, i < n → b i < 128) : ∀ i, zb_tkn b n i < 8 * 256 ^ i
  | 0 => by show n < _; omega
  | i + 1 => by
    have ih := zb_tkn_lt hn hb i
    show 256 * zb_tkn b n i + (if i < n then b i else 0) < _
    rw [Nat.pow_succ]
    have : (if i < n then b i else 0) < 128 := by
      by_cases h : i < n
      · rw [if_pos h]; exact hb i h
      · rw [if_neg h]; decide
    omega
theorem zb_tkn_hi {b : Nat → Nat} {n : Nat} : ∀ j, zb_tkn b n (n + j) = zb_tkn b n n * 256 ^ j
  | 0 => by rw [Nat.add_zero, Nat.pow_zero, Nat.mul_one]
  | j + 1 => by
    have ih := zb_tkn_hi (b := b) (n := n) j
    show 256 * zb_tkn b n (n + j) + (if n + j < n then b (n + j) else 0) = _
    rw [if_neg (by omega), ih, Nat.pow_succ, Nat.add_zero, Nat.mul_comm 256, Nat.mul_assoc]
theorem zb_sh8 : ((Int32.ofInt 8).toInt64 &&& 63).toBitVec.smod 64 = BitVec.ofNat 64 8 := by decide +kernel
theorem zb_p256 {i : Nat} (hi : i ≤ 7) : 256 ^ i ≤ 72057594037927936 := by
  have : 256 ^ i ≤ 256 ^ 7 := Nat.pow_le_pow_right (by decide) hi
  exact this
theorem zb_tk_ok {M : eM} {b : Nat → Nat} {fb n : Nat} (hn : n ≤ 7) (hb : ∀ i, i < n → b i < 128 ∧ M 27 ((fb + i) % 4000) = (b i : Int)) : ∀ i, i ≤ 7 → eh_tk M fb n i = (zb_tkn b n i : Int)
  | 0, _ => rfl
  | i + 1, hi => by
    have ih := zb_tk_ok hn hb i (by omega)
    have hlt := zb_tkn_lt hn (fun i hi => (hb i hi).1) i
    have hp := zb_p256 (i := i) (by omega)
    have hp6 : 256 ^ i ≤ 281474976710656 := Nat.pow_le_pow_right (n := 256) (by decide) (show i ≤ 6 by omega)
    have e1 : (Int64.ofInt (eh_tk M fb n i) <<< ((Int32.ofInt 8).toInt64 &&& 63)).toInt = ((zb_tkn b n i * 2 ^ 8 : Nat) : Int) := by
      rw [ih]; exact zb_lshl_n zb_sh8 (by decide) (by omega)
    show (if i < n then _ else _) = ((256 * zb_tkn b n i + (if i < n then b i else 0) : Nat) : Int)
    by_cases h : i < n
    · rw [if_pos h, if_pos h, e1, (hb i h).2]
      have h128 := (hb i h).1
      rw [zb_lor_n (by omega) (by omega)]
      omega
    · rw [if_neg h, if_neg h, e1]; omega
theorem zb_mk_ok {M : eM} {b : Nat → Nat} {n : Nat} (hn : n ≤ 7) (hb : ∀ i, i < n → b i < 128 ∧ M 86 i = (b i : Int)) : ∀ k, k ≤ n → eh_mk M n k = ((zb_tkn b n k * 2 ^ (56 - 8 * k) : Nat) : Int)
  | 0, _ => by
    show (Int64.ofInt (n : Int) <<< ((Int32.ofInt 56).toInt64 &&& 63)).toInt = _
    exact zb_lshl_n (by decide +kernel) (by decide) (by omega)
  | k + 1, hk => by
    have ih := zb_mk_ok hn hb k (by omega)
    have hlt := zb_tkn_lt hn (fun i hi => (hb i hi).1) k
    obtain ⟨h128, h86⟩ := hb k (by omega)
    show (Int64.ofInt (eh_mk M n k) ||| Int64.ofInt (Int64.ofInt (M 86 k) <<< ((Int32.ofInt (48 - 8 * (k : Int))).toInt64 &&& 63)).toInt).toInt = ((( 256 * zb_tkn b n k + (if k < n then b k else 0)) * 2 ^ (56 - 8 * (k + 1)) : Nat) : Int)
    rw [ih, h86, if_pos (show k < n by omega)]
    have key : ∀ s : Nat, 56 - 8 * k = s + 8 → s + 8 * k = 48 → ((Int32.ofInt (48 - 8 * (k : Int))).toInt64 &&& 63).toBitVec.smod 64 = BitVec.ofNat 64 s → 2048 * 256 ^ k * 2 ^ s = 576460752303423488 → (Int64.ofInt ((zb_tkn b n k * 2 ^ (56 - 8 * k) : Nat) : Int) ||| Int64.ofInt (Int64.ofInt (b k : Int) <<< ((Int32.ofInt (48 - 8 * (k : Int))).toInt64 &&& 63)).toInt).toInt = (((256 * zb_tkn b n k + b k) * 2 ^ (56 - 8 * (k + 1)) : Nat) : Int) := by
      intro s hs hs2 hsh hpw
      have zb_hP : 0 < 2 ^ s := Nat.two_pow_pos s
      have hb2 : b k * 2 ^ s < 2 ^ (s + 8) := by
        rw [Nat.pow_add]
        have : b k * 2 ^ s < 2 ^ 8 * 2 ^ s := (Nat.mul_lt_mul_right zb_hP).mpr (by omega)
        rw [Nat.mul_comm (2 ^ s)]; exact this
      have h256 : 2 ^ (s + 8) = 256 * 2 ^ s := by rw [Nat.pow_add, Nat.mul_comm]
      have hsum : zb_tkn b n k * 2 ^ (s + 8) + b k * 2 ^ s = (256 * zb_tkn b n k + b k) * 2 ^ s := by
        rw [h256, Nat.add_mul, ← Nat.mul_assoc, Nat.mul_comm (zb_tkn b n k)]
      have hbig : (256 * zb_tkn b n k + b k) * 2 ^ s < 9223372036854775808 := by
        have h1 : 256 * zb_tkn b n k + b k ≤ 2048 * 256 ^ k := by omega
        have h2 : (256 * zb_tkn b n k + b k) * 2 ^ s ≤ 2048 * 256 ^ k * 2 ^ s := Nat.mul_le_mul_right _ h1
        omega
      have hbk : b k * 2 ^ s < 9223372036854775808 := by
        have : b k * 2 ^ s ≤ (256 * zb_tkn b n k + b k) * 2 ^ s := Nat.mul_le_mul_right _ (by omega)
        omega
      rw [zb_lshl_n hsh (by omega) hbk, hs, zb_lor_n hb2 (by rw [hsum]; exact hbig), hsum, show 56 - 8 * (k + 1) = s by omega]
    have hk7 : k = 0 ∨ k = 1 ∨ k = 2 ∨ k = 3 ∨ k = 4 ∨ k = 5 ∨ k = 6 := by omega
    rcases hk7 with h | h | h | h | h | h | h
    · exact key 48 (by omega) (by omega) (by rw [h]; decide +kernel) (by rw [h])
    · exact key 40 (by omega) (by omega) (by rw [h]; decide +kernel) (by rw [h])
    · exact key 32 (by omega) (by omega) (by rw [h]; decide +kernel) (by rw [h])
    · exact key 24 (by omega) (by omega) (by rw [h]; decide +kernel) (by rw [h])
    · exact key 16 (by omega) (by omega) (by rw [h]; decide +kernel) (by rw [h])
    · exact key 8 (by omega) (by omega) (by rw [h]; decide +kernel) (by rw [h])
    · exact key 0 (by omega) (by omega) (by rw [h]; decide +kernel) (by rw [h])
theorem zb_tk_mk {C R : eM} {fb n : Nat} (hn : n ≤ 7) (hb : ∀ i, i < n → C 27 ((fb + i) % 4000) = R 86 i ∧ 0 ≤ R 86 i ∧ R 86 i < 128) : eh_tk C fb n 7 = eh_mk R n n := by
  have hq : ∀ i, i < n → (R 86 i).toNat < 128 ∧ R 86 i = ((R 86 i).toNat : Int) := fun i hi => by
    obtain ⟨_, h1, h2⟩ := hb i hi
    omega
  rw [zb_tk_ok (b := fun i => (R 86 i).toNat) hn (fun i hi => ⟨(hq i hi).1, by rw [(hb i hi).1]; exact (hq i hi).2⟩) 7 (Nat.le_refl _), zb_mk_ok (b := fun i => (R 86 i).toNat) hn hq n (Nat.le_refl _)]
  have := zb_tkn_hi (b := fun i => (R 86 i).toNat) (n := n) (7 - n)
  rw [show n + (7 - n) = 7 by omega] at this
  rw [this, show 256 ^ (7 - n) = 2 ^ (56 - 8 * n) by rw [show (256 : Nat) = 2 ^ 8 from rfl, ← Nat.pow_mul, show 8 * (7 - n) = 56 - 8 * n by omega]]
section CALLS
variable {cn k : Nat} {C R : eM}
theorem zb_wb_wb {y : Int} : eg_wb (eg_wb y) = eg_wb y := by unfold eg_wb; omega
theorem zb_wb_rg {y : Int} : -128 ≤ eg_wb y ∧ eg_wb y < 128 := by unfold eg_wb; omega
theorem zb_wb_256 {y : Int} : eg_wb y % 256 = y % 256 := by unfold eg_wb; omega
theorem zb_tx_1 {n : Nat} {y : Int} (h : zb_tx C R n) : zb_tx (eg_u (eg_u C 8 n (eg_wb (eg_wb y))) 7 2 ((n + 1 : Nat) : Int)) (eg_u R 46 n (y % 256)) (n + 1) := by
  intro i hi
  rw [eg_u_ne (by decide)]
  by_cases he : i = n
  · rw [he, eg_u_eq, eg_u_eq, zb_wb_wb, zb_wb_256]
    exact ⟨zb_wb_rg.1, zb_wb_rg.2, rfl⟩
  · rw [eg_u_nj (fun z => he z.2), eg_u_nj (fun z => he z.2)]
    exact h i (by omega)
theorem zb_tx_45 {n f : Nat} {v : Int} (h : zb_tx C R n) : zb_tx C (eg_u R 45 f v) n := by
  intro i hi
  rw [eg_u_ne (by decide)]; exact h i hi
theorem zb_lb_eq {x : Int} {j : Nat} {s : Int} (hs : Int32.ofInt (24 - 8 * (j : Int)) &&& 31 = Int32.ofInt s &&& 31) : eh_lb x j = (Int32.ofInt x >>> (Int32.ofInt s &&& 31)).toInt % 256 := by
  unfold eh_lb
  rw [hs, zb_iand255]
theorem zb_tx_4 {n : Nat} {x : Int} (h : zb_tx C R n) : zb_tx (eh_ap C x n) (eh_ly R x n) (n + 4) := by
  unfold eh_ap eh_a1 eh_ly
  refine zb_tx_45 ?_
  rw [zb_lb_eq (x := x) (j := 0) (s := 24) (by decide), zb_lb_eq (x := x) (j := 1) (s := 16) (by decide), zb_lb_eq (x := x) (j := 2) (s := 8) (by decide), zb_lb_eq (x := x) (j := 3) (s := 0) (by decide)]
  exact zb_tx_1 (zb_tx_1 (zb_tx_1 (zb_tx_1 h)))
theorem zb_ap_ne {M : eM} {x : Int} {n c : Nat} (h8 : c ≠ 8) (h7 : c ≠ 7) : eh_ap M x n c = M c := by
  unfold eh_ap eh_a1
  rw [eg_u_ne h7, eg_u_ne h8, eg_u_ne h7, eg_u_ne h8, eg_u_ne h7, eg_u_ne h8, eg_u_ne h7, eg_u_ne h8]
theorem zb_ly_ne {M : eM} {x : Int} {n c : Nat} (h46 : c ≠ 46) (h45 : c ≠ 45) : eh_ly M x n c = M c := by
  unfold eh_ly
  rw [eg_u_ne h45, eg_u_ne h46, eg_u_ne h46, eg_u_ne h46, eg_u_ne h46]
theorem zb_ly_nf {M : eM} {x : Int} {n f : Nat} (h : f ≠ 1) : eh_ly M x n 45 f = M 45 f := by
  unfold eh_ly
  rw [eg_u_nj (fun z => h z.2), eg_u_ne (by decide), eg_u_ne (by decide), eg_u_ne (by decide), eg_u_ne (by decide)]
theorem zb_ri_step (h : zb_RI cn k C R) : zb_RI cn (k + 1) C R := by
  obtain ⟨N, F, n, H, rl, ql, fd, g, hF, hT, zb_hP, hz, h42⟩ := h
  exact ⟨N, F, n, H, rl, ql, fd, g, hF, hT, zb_hP, hz, by omega⟩
theorem zb_ri_feed {n : Nat} {a b c e f : Int} (h : zb_RI cn k C R) (hn : C 7 2 = (n : Int)) (hroom : n + 20 ≤ 3000) : zb_RI cn (k + 1) (eh_fd C n a b c e f) (eh_fm R n a b c e f) := by
  obtain ⟨N, F, n', H, rl, ql, fd, g, ⟨f1, f2, f3⟩, ⟨t1, t2, t3, t4⟩, ⟨p1, p2⟩, hz, h42⟩ := h
  have hnn : n' = n := by omega
  subst hnn
  have cF : ∀ x, x ≠ 8 → x ≠ 7 → eh_fd C n' a b c e f x = C x := fun x h8 h7 => by
    unfold eh_fd
    rw [zb_ap_ne h8 h7, zb_ap_ne h8 h7, zb_ap_ne h8 h7, zb_ap_ne h8 h7, zb_ap_ne h8 h7]
  have zb_rF : ∀ x, x ≠ 46 → x ≠ 45 → eh_fm R n' a b c e f x = R x := fun x h8 h7 => by
    unfold eh_fm
    rw [zb_ly_ne h8 h7, zb_ly_ne h8 h7, zb_ly_ne h8 h7, zb_ly_ne h8 h7, zb_ly_ne h8 h7]
  have zb_rf : ∀ j, j ≠ 1 → eh_fm R n' a b c e f 45 j = R 45 j := fun j hj => by
    unfold eh_fm
    rw [zb_ly_nf hj, zb_ly_nf hj, zb_ly_nf hj, zb_ly_nf hj, zb_ly_nf hj]
  have ht := zb_tx_4 (x := f) (zb_tx_4 (x := e) (zb_tx_4 (x := c) (zb_tx_4 (x := b) (zb_tx_4 (x := a) t4))))
  obtain ⟨L, B', zb_nm⟩ := g.2.2.2.1
  refine ⟨N, F, n' + 20, H, rl, ql, fd, zb_gs_base g (fun x _ => ?_) (Nat.le_refl _) (Nat.le_refl _) ⟨L, B', zb_nm_congr2 zb_nm (by rw [cF 1 (by decide) (by decide)]) (cF 2 (by decide) (by decide)) (cF 3 (by decide) (by decide)) (zb_rf 7 (by decide)) (zb_rF 47 (by decide) (by decide)) (zb_rF 48 (by decide) (by decide))⟩ (fun j _ => by rw [cF 15 (by decide) (by decide)]) (fun x hx => cF x (by revert hx; simp; omega) (by revert hx; simp; omega)) (fun j hj => zb_rf j (by revert hj; simp; omega)) (fun x hx => zb_rF x (by revert hx; simp; omega) (by revert hx; simp; omega)), ⟨by rw [cF 1 (by decide) (by decide)]; exact f1, by rw [zb_rf 17 (by decide)]; exact f2, f3⟩, ⟨eh_ap_n, eh_ly_n, hroom, ht⟩, ⟨by rw [cF 0 (by decide) (by decide), zb_rf 2 (by decide)]; exact p1, by rw [cF 0 (by decide) (by decide), zb_rf 67 (by decide)]; exact p2⟩, ?_, by rw [zb_rf 42 (by decide)]; omega⟩
  · rw [cF 4 (by decide) (by decide), cF 5 (by decide) (by decide), cF 6 (by decide) (by decide), zb_rF 49 (by decide) (by decide), zb_rF 50 (by decide) (by decide), zb_rF 51 (by decide) (by decide), zb_rF 52 (by decide) (by decide), zb_rF 53 (by decide) (by decide), zb_rF 54 (by decide) (by decide), zb_rF 55 (by decide) (by decide)]
    exact ⟨⟨rfl, rfl, rfl⟩, rfl, rfl, rfl, rfl, rfl, rfl, rfl⟩
  · unfold zb_RZ at *
    rw [zb_rf 53 (by decide), zb_rf 51 (by decide), zb_rf 59 (by decide), zb_rf 68 (by decide), zb_rf 62 (by decide), zb_rf 63 (by decide)]; exact hz
theorem zb_ri_fetch {w fb n : Nat} {R' : eM} (h : zb_RI cn k C R) (hw : C 26 4 = (w : Int)) (hfb : C 26 3 = (fb : Int)) (hf4 : fb < 4000) (hn : n = min w 7) (r86 : ∀ i, i < w - n → R' 86 i = R 86 (i + n)) (r72 : R' 45 72 = ((w - n : Nat) : Int)) (ro : ∀ c, c ≠ 86 → c ≠ 45 → R' c = R c) (zb_rf : ∀ f, f ≠ 72 → R' 45 f = R 45 f) :
    zb_RI cn (k + 1) (eg_u (eg_u C 26 3 (((fb + n) % 4000 : Nat) : Int)) 26 4 ((w - n : Nat) : Int)) R' := by
  obtain ⟨N, F, n', H, rl, ql, fd, g, ⟨f1, f2, f3⟩, ⟨t1, t2, t3, t4⟩, ⟨p1, p2⟩, hz, h42⟩ := h
  obtain ⟨C', hC'⟩ : ∃ X, X = eg_u (eg_u C 26 3 (((fb + n) % 4000 : Nat) : Int)) 26 4 ((w - n : Nat) : Int) := ⟨_, rfl⟩
  rw [← hC']
  have co : ∀ c, c ≠ 26 → C' c = C c := fun c hc => by rw [hC', eg_u_ne hc, eg_u_ne hc]
  obtain ⟨g1, g2, g3, ⟨L, B', zb_nm⟩, g5, g6, ⟨w', fb', ⟨o1, o2, o3, o4, o5⟩, o6⟩, g8, g9⟩ := g
  have hww : w' = w := by omega
  have hff : fb' = fb := by omega
  subst hww
  subst hff
  have hou : zb_OUT C' R' := by
    refine ⟨w' - n, (fb' + n) % 4000, ⟨by rw [hC', eg_u_eq], r72, by omega, by rw [hC', eg_u_nj (by decide), eg_u_eq], Nat.mod_lt _ (by decide)⟩, fun i hi => ?_⟩
    rw [co 27 (by decide), r86 i hi]
    have := o6 (i + n) (by omega)
    rw [show ((fb' + n) % 4000 + i) % 4000 = (fb' + (i + n)) % 4000 by omega]; exact this
  obtain ⟨C2, hC2⟩ : ∃ X : eM, X = fun c => if c = 26 then C 26 else C' c := ⟨_, rfl⟩
  obtain ⟨R2, hR2⟩ : ∃ X : eM, X = fun c j => if c = 86 then R 86 j else if c = 45 ∧ j = 72 then R 45 72 else R' c j := ⟨_, rfl⟩
  have gs : zb_GS (C', R', cn, N, F) C' R' H rl ql fd := by
    have hrw : zb_RWS C R C' R' F := fun x _ => by
      rw [co 4 (by decide), co 5 (by decide), co 6 (by decide), ro 49 (by decide) (by decide), ro 50 (by decide) (by decide), ro 51 (by decide) (by decide), ro 52 (by decide) (by decide), ro 53 (by decide) (by decide), ro 54 (by decide) (by decide), ro 55 (by decide) (by decide)]
      exact ⟨⟨rfl, rfl, rfl⟩, rfl, rfl, rfl, rfl, rfl, rfl, rfl⟩
    have hr1 : zb_HR C' R' H cn N (zb_lamW C' R' N F) (zb_scpW C' R' N F) := zb_hr_mono (zb_hr_congr g1 (fun f _ => by rw [co 15 (by decide)]) (fun c hc => co c (by revert hc; simp; omega)) (fun f hf => zb_rf f (by revert hf; simp; omega)) (fun c hc => ro c (by revert hc; simp; omega) (by revert hc; simp; omega))) (fun d hd => zb_lam_mono hrw (Nat.le_refl _) (Nat.le_refl _) hd) (fun d n hd => zb_scp_mono hrw (Nat.le_refl _) (Nat.le_refl _) hd) (Nat.le_refl _)
    refine ⟨hr1, zb_fr_congr g2 (fun f hf => by rw [co 21 (by decide)]) (fun c hc => co c (by revert hc; simp; omega)) (fun f hf => zb_rf f (by revert hf; simp; omega)) (fun c hc => ro c (by revert hc; simp; omega) (by revert hc; simp; omega)), ⟨⟨rfl, rfl, rfl⟩, rfl, rfl, rfl, rfl, rfl, rfl, rfl⟩, ⟨L, B', zb_nm_congr2 zb_nm (by rw [co 1 (by decide)]) (co 2 (by decide)) (co 3 (by decide)) (zb_rf 7 (by decide)) (ro 47 (by decide) (by decide)) (ro 48 (by decide) (by decide))⟩, fun m hm => ?_, ?_, hou, fun x hx => ?_, ⟨?_, ?_⟩, fun x hx => ?_⟩
    · rw [co 37 (by decide), ro 72 (by decide) (by decide)]; exact g5 m hm
    · rw [co 38 (by decide), zb_rf 43 (by decide)]; exact g6
    · obtain ⟨k1, d, k2, k3⟩ := g8 x hx
      refine ⟨k1, d, by unfold zb_cl at k2 ⊢; rw [co 16 (by decide)]; exact k2, ?_⟩
      show R' 55 (d + 2) = 1
      rw [ro 55 (by decide) (by decide)]; exact k3
    · rw [co 15 (by decide)]; exact g9.1.1
    · show C' 15 10 ≤ R' 45 42 + 20000
      rw [co 15 (by decide), zb_rf 42 (by decide)]; exact g9.1.2
    · rw [co 15 (by decide), co 20 (by decide)]; exact g9.2 x hx
  refine ⟨N, F, n', H, rl, ql, fd, gs, ⟨by rw [co 1 (by decide)]; exact f1, by rw [zb_rf 17 (by decide)]; exact f2, f3⟩, ⟨by rw [co 7 (by decide)]; exact t1, by rw [zb_rf 1 (by decide)]; exact t2, t3, fun i hi => by rw [co 8 (by decide), ro 46 (by decide) (by decide)]; exact t4 i hi⟩, ⟨by rw [co 0 (by decide), zb_rf 2 (by decide)]; exact p1, by rw [co 0 (by decide), zb_rf 67 (by decide)]; exact p2⟩, ?_, by rw [zb_rf 42 (by decide)]; omega⟩
  unfold zb_RZ at *
  rw [zb_rf 53 (by decide), zb_rf 51 (by decide), zb_rf 59 (by decide), zb_rf 68 (by decide), zb_rf 62 (by decide), zb_rf 63 (by decide)]; exact hz
theorem zb_ri_count (h : zb_RI cn k C R) (x : Int) : eh_151_v C x = eh_249_v R x := by
  obtain ⟨N, F, n, H, rl, ql, fd, g, ⟨f1, f2, f3⟩, ⟨t1, t2, t3, t4⟩, ⟨p1, p2⟩, hz, h42⟩ := h
  obtain ⟨⟨⟨fl, hs, hc⟩, ⟨fs, fc, hq⟩, _, _, h10⟩, zb_fr, _, _, _, g6, ⟨w, fb, ⟨o1, o2, _⟩, _⟩, _, _⟩ := g
  unfold eh_151_v eh_249_v
  rw [hc.1.2.2.1, hq.1.2.2.1, hc.1.2.2.2.2.1, hq.1.2.2.2.2.1, List.length_map, g6.2, zb_fr.1.2.2.2.2.1, zb_fr.1.2.2.2.2.2.1, zb_fr.1.1, zb_fr.1.2.1, t1, t2, o1, o2, p2, h10]
end CALLS
