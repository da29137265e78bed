/-! THE FRESH MEMORY -/
theorem em_s1_ne {M : Nat → Nat → Int} {b j : Nat} (h : ¬ (b = 45 ∧ j = 7)) (h1 : b ≠ 47) (h2 : b ≠ 48) : ∀ k, (em_s1 M k).2 b j = M b j
  | 0 => rfl
  | k + 1 => by
    have ih := em_s1_ne (M := M) h h1 h2 k
    unfold em_s1
    split
    · dsimp only
      rw [eg_u_ne h2]
      unfold eg_u
      rw [if_neg h]
      exact ih
    · dsimp only
      rw [eg_u_ne h1]
      exact ih
theorem eg_fil_ne {M : Nat → Nat → Int} {a i n b j : Nat} {v : Int} (h : b ≠ a) : eg_fil M a i n v b j = M b j := by
  unfold eg_fil; rw [if_neg (fun z => h z.1)]
theorem eg_lay9_ne {M : Nat → Nat → Int} {a D n b j : Nat} {f : Nat → Int} (h : b ≠ a) : eg_lay9 M a D f n b j = M b j := by
  unfold eg_lay9; rw [if_neg (fun z => h z.1)]
theorem eg_u_nj {M : Nat → Nat → Int} {a i b j : Nat} {v : Int} (h : ¬ (b = a ∧ j = i)) : eg_u M a i v b j = M b j := by
  unfold eg_u; rw [if_neg h]
theorem em_M_ne {M : Nat → Nat → Int} {cn b j : Nat} (h1 : b ≠ 47) (h2 : b ≠ 48) (h3 : b ≠ 69) (h4 : b ≠ 71) (h5 : b ≠ 72) (h6 : ¬ (b = 45 ∧ j = 7)) (h7 : ¬ (b = 45 ∧ j = 38)) (h8 : ¬ (b = 45 ∧ j = 41)) (h9 : ¬ (b = 45 ∧ j = 27)) : em_M M cn b j = em_M0 M b j := by
  unfold em_M em_E em_G
  rw [eg_u_nj h8, eg_lay9_ne h4, eg_u_nj h7, eg_lay9_ne h3, eg_lay9_ne h5, eg_fil_ne h5, em_s1_ne h6 h1 h2, eg_u_nj h9]
/-- the memory behind both constructors -/
def eh_M0 (cn mo : Nat) : Nat → Nat → Int := em_M (eg_z (ec_M (eg_z (fun _ _ => 0) 0 0) cn mo) 45 0) cn
set_option maxRecDepth 100000 in
theorem eh_f45_1 {cn mo : Nat} : eh_M0 cn mo 45 1 = 0 := by
  unfold eh_M0
  rw [em_M_ne (by decide) (by decide) (by decide) (by decide) (by decide) (by decide) (by decide) (by decide) (by decide)]
  rfl
set_option maxRecDepth 100000 in
theorem eh_f45_2 {cn mo : Nat} : eh_M0 cn mo 45 2 = -1 := by
  unfold eh_M0
  rw [em_M_ne (by decide) (by decide) (by decide) (by decide) (by decide) (by decide) (by decide) (by decide) (by decide)]
  rfl
set_option maxRecDepth 100000 in
theorem eh_f45_72 {cn mo : Nat} : eh_M0 cn mo 45 72 = 0 := by
  unfold eh_M0
  rw [em_M_ne (by decide) (by decide) (by decide) (by decide) (by decide) (by decide) (by decide) (by decide) (by decide)]
  rfl
set_option maxRecDepth 100000 in
theorem eh_f45_28 {cn mo : Nat} : eh_M0 cn mo 45 28 = 0 := by
  unfold eh_M0
  rw [em_M_ne (by decide) (by decide) (by decide) (by decide) (by decide) (by decide) (by decide) (by decide) (by decide)]
  rfl
set_option maxRecDepth 100000 in
theorem eh_f45_29 {cn mo : Nat} : eh_M0 cn mo 45 29 = 0 := by
  unfold eh_M0
  rw [em_M_ne (by decide) (by decide) (by decide) (by decide) (by decide) (by decide) (by decide) (by decide) (by decide)]
  rfl
set_option maxRecDepth 100000 in
theorem eh_f45_43 {cn mo : Nat} : eh_M0 cn mo 45 43 = 0 := by
  unfold eh_M0
  rw [em_M_ne (by decide) (by decide) (by decide) (by decide) (by decide) (by decide) (by decide) (by decide) (by decide)]
  rfl
set_option maxRecDepth 100000 in
theorem eh_f45_48 {cn mo : Nat} : eh_M0 cn mo 45 48 = 0 := by
  unfold eh_M0
  rw [em_M_ne (by decide) (by decide) (by decide) (by decide) (by decide) (by decide) (by decide) (by decide) (by decide)]
  rfl
set_option maxRecDepth 100000 in
theorem eh_f45_45 {cn mo : Nat} : eh_M0 cn mo 45 45 = 0 := by
  unfold eh_M0
  rw [em_M_ne (by decide) (by decide) (by decide) (by decide) (by decide) (by decide) (by decide) (by decide) (by decide)]
  rfl
set_option maxRecDepth 100000 in
theorem eh_f45_67 {cn mo : Nat} : eh_M0 cn mo 45 67 = 0 := by
  unfold eh_M0
  rw [em_M_ne (by decide) (by decide) (by decide) (by decide) (by decide) (by decide) (by decide) (by decide) (by decide)]
  rfl
set_option maxRecDepth 100000 in
theorem eh_f45_42 {cn mo : Nat} : eh_M0 cn mo 45 42 = 0 := by
  unfold eh_M0
  rw [em_M_ne (by decide) (by decide) (by decide) (by decide) (by decide) (by decide) (by decide) (by decide) (by decide)]
  rfl
set_option maxRecDepth 100000 in
theorem eh_f7_2 {cn mo : Nat} : eh_M0 cn mo 7 2 = 0 := by
  unfold eh_M0
  rw [em_M_ne (by decide) (by decide) (by decide) (by decide) (by decide) (by decide) (by decide) (by decide) (by decide)]
  rfl
set_option maxRecDepth 100000 in
theorem eh_f0_8 {cn mo : Nat} : eh_M0 cn mo 0 8 = -1 := by
  unfold eh_M0
  rw [em_M_ne (by decide) (by decide) (by decide) (by decide) (by decide) (by decide) (by decide) (by decide) (by decide)]
  rfl
set_option maxRecDepth 100000 in
theorem eh_f26_3 {cn mo : Nat} : eh_M0 cn mo 26 3 = 0 := by
  unfold eh_M0
  rw [em_M_ne (by decide) (by decide) (by decide) (by decide) (by decide) (by decide) (by decide) (by decide) (by decide)]
  rfl
set_option maxRecDepth 100000 in
theorem eh_f26_4 {cn mo : Nat} : eh_M0 cn mo 26 4 = 0 := by
  unfold eh_M0
  rw [em_M_ne (by decide) (by decide) (by decide) (by decide) (by decide) (by decide) (by decide) (by decide) (by decide)]
  rfl
set_option maxRecDepth 100000 in
theorem eh_f15_6 {cn mo : Nat} : eh_M0 cn mo 15 6 = 0 := by
  unfold eh_M0
  rw [em_M_ne (by decide) (by decide) (by decide) (by decide) (by decide) (by decide) (by decide) (by decide) (by decide)]
  rfl
set_option maxRecDepth 100000 in
theorem eh_f15_7 {cn mo : Nat} : eh_M0 cn mo 15 7 = 0 := by
  unfold eh_M0
  rw [em_M_ne (by decide) (by decide) (by decide) (by decide) (by decide) (by decide) (by decide) (by decide) (by decide)]
  rfl
set_option maxRecDepth 100000 in
theorem eh_f38_5 {cn mo : Nat} : eh_M0 cn mo 38 5 = 0 := by
  unfold eh_M0
  rw [em_M_ne (by decide) (by decide) (by decide) (by decide) (by decide) (by decide) (by decide) (by decide) (by decide)]
  rfl
set_option maxRecDepth 100000 in
theorem eh_f21_6 {cn mo : Nat} : eh_M0 cn mo 21 6 = 0 := by
  unfold eh_M0
  rw [em_M_ne (by decide) (by decide) (by decide) (by decide) (by decide) (by decide) (by decide) (by decide) (by decide)]
  rfl
set_option maxRecDepth 100000 in
theorem eh_f21_2 {cn mo : Nat} : eh_M0 cn mo 21 2 = 0 := by
  unfold eh_M0
  rw [em_M_ne (by decide) (by decide) (by decide) (by decide) (by decide) (by decide) (by decide) (by decide) (by decide)]
  rfl
set_option maxRecDepth 100000 in
theorem eh_f0_9 {cn mo : Nat} : eh_M0 cn mo 0 9 = 0 := by
  unfold eh_M0
  rw [em_M_ne (by decide) (by decide) (by decide) (by decide) (by decide) (by decide) (by decide) (by decide) (by decide)]
  rfl
set_option maxRecDepth 100000 in
theorem eh_f15_10 {cn mo : Nat} : eh_M0 cn mo 15 10 = 0 := by
  unfold eh_M0
  rw [em_M_ne (by decide) (by decide) (by decide) (by decide) (by decide) (by decide) (by decide) (by decide) (by decide)]
  rfl
