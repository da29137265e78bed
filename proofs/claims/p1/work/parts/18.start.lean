/-! THE LAW'S START: static things as the pure machine has them -/
theorem eg_gd0 {l : List Int} {P : Int → Prop} (h : ∀ x ∈ l, P x) (h0 : P 0) (j : Nat) : P (l.getD j 0) := by
  rw [List.getD_eq_getElem?_getD]
  cases e : l[j]? with
  | none => exact h0
  | some x => exact h x (List.mem_of_getElem? e)
theorem eg_start_ST {args : Array Value} {s : State} {b L : Nat} {xs : Nat → Int32} (hts : ∀ w ∈ lw_tbl, w.before args s = true) (hf : ∀ c ∈ eg_exp, c.before args s = true) (hX : va_X b L xs s s.heap) (hbl : b < s.heap.size) (hL : L < 2147483648) :
    ∃ vq, eg_ST (L, fun j => (xs j).toInt) (eg_ad0 args s b) vq (fun q => s.heap.size ≤ q) s s.heap := by
  have hA : ∀ a : Nat, a < s.heap.size → ¬ (fun q : Nat => s.heap.size ≤ q) a := fun a h => Nat.not_le.mpr h
  have hlay : ∀ n ∈ [0, 1, 5, 6, 7, 8, 9], (Cond.laysStatic (eg_stn.getD n ("", "", "")).1 (eg_stn.getD n ("", "", "")).2.1 (eg_stn.getD n ("", "", "")).2.2).before args s = true ∧ (Cond.initialized (eg_stn.getD n ("", "", "")).1).before args s = true := fun n hn => by
    obtain ⟨h1, h2⟩ := eg_an2 (List.all_eq_true.mp eg_lay n hn)
    exact ⟨hts _ (eg_tb_in (eg_dd h1)), hts _ (eg_tb_in (eg_dd h2))⟩
  have hS : ∀ {i : Nat}, i < 62 → _ := fun {i} hi => eg_S_of (args := args) (s := s) (b := b) (A := fun q : Nat => s.heap.size ≤ q) hf hA (i := i) hi
  have hE : ∀ {i : Nat}, i < 34 → _ := fun {i} hi => eg_E_of (args := args) (s := s) (b := b) (A := fun q : Nat => s.heap.size ≤ q) hf hA (i := i) hi
  have m1 : ∀ c ∈ eg_xA eg_tP (.object "WeakScheme$Primitive") 34 eg_tE, c.before args s = true := fun c hc => hf c (by unfold eg_exp; simp only [List.mem_append]; exact Or.inr (Or.inl hc))
  have m2 : ∀ c ∈ eg_xA eg_tL .int 11 (fun j => .int (Int32.ofInt (eg_least.getD j 0))), c.before args s = true := fun c hc => hf c (by unfold eg_exp; simp only [List.mem_append]; exact Or.inr (Or.inr (Or.inl hc)))
  have m3 : ∀ c ∈ eg_xA eg_tM .int 11 (fun j => .int (Int32.ofInt (eg_most.getD j 0))), c.before args s = true := fun c hc => hf c (by unfold eg_exp; simp only [List.mem_append]; exact Or.inr (Or.inr (Or.inr (Or.inl hc))))
  have m4 : ∀ c ∈ eg_xA eg_tW .int 34 (fun j => .int (Int32.ofInt (eg_swm.getD j 0))), c.before args s = true := fun c hc => hf c (by unfold eg_exp; simp only [List.mem_append]; exact Or.inr (Or.inr (Or.inr (Or.inr (Or.inl hc)))))
  have a1 := eg_A_of (b := b) (A := fun q : Nat => s.heap.size ≤ q) (k := 1000004) (g := fun j => .ref (eg_ad0 args s b (1000100 + j))) m1 hA (by decide) (by decide) rfl (fun j hj => (hE hj).1)
  have a2 := eg_A_of (b := b) (A := fun q : Nat => s.heap.size ≤ q) (k := 1000001) (g := fun j => .int (Int32.ofInt (eg_least.getD j 0))) m2 hA (by decide) (by decide) rfl (fun j hj => rfl)
  have a3 := eg_A_of (b := b) (A := fun q : Nat => s.heap.size ≤ q) (k := 1000002) (g := fun j => .int (Int32.ofInt (eg_most.getD j 0))) m3 hA (by decide) (by decide) rfl (fun j hj => rfl)
  have a4 := eg_A_of (b := b) (A := fun q : Nat => s.heap.size ≤ q) (k := 1000003) (g := fun j => .int (Int32.ofInt (eg_swm.getD j 0))) m4 hA (by decide) (by decide) rfl (fun j hj => rfl)
  have hq : va_Zq "jdk/internal/util/Preconditions" "SIOOBE_FORMATTER" "Ljava/util/function/BiFunction;" (fun q : Nat => s.heap.size ≤ q) s s.heap := va_Zqof (hlay 1 (by decide)).1 (hlay 1 (by decide)).2 (hf _ (by unfold eg_exp eg_x0; simp)) hA
  have hz : ∃ vq, (vq = .null ∨ ∃ a, vq = .ref a) ∧ va_Z "jdk/internal/util/Preconditions" "SIOOBE_FORMATTER" "Ljava/util/function/BiFunction;" vq (fun q : Nat => s.heap.size ≤ q) s s.heap := by
    rcases hq with h | ⟨t, h⟩
    · exact ⟨_, Or.inl rfl, h⟩
    · exact ⟨_, Or.inr ⟨t, rfl⟩, h⟩
  obtain ⟨vq, hvq, hzq⟩ := hz
  have hcs : (Cond.eq (.static "java/lang/String" "COMPACT_STRINGS" "Z") (.int 1)).before args s = true := hf _ (by unfold eg_exp eg_x0; simp)
  have hlms := List.all_eq_true.mp eg_lms_rg
  refine ⟨vq, fun k ty N f hk => ?_, fun k o hk => ?_, fun k f v hk => ?_, fun n v hk => ?_, fun i hi => ?_, fun x y hx hy he => ?_, hvq⟩
  · unfold eg_sa at hk
    by_cases h1 : k < 1000000
    · rw [if_pos h1] at hk; cases hk
    · rw [if_neg h1] at hk
      by_cases h2 : 1000300 ≤ k
      · rw [if_pos h2] at hk
        by_cases h3 : k < 1000362
        · rw [if_pos h3] at hk
          obtain ⟨i, rfl⟩ : ∃ i, k = 1000300 + i := ⟨k - 1000300, by omega⟩
          have hi : i < 62 := by omega
          rw [show 1000300 + i - 1000300 = i by omega] at hk
          obtain ⟨rfl, hk2⟩ := Prod.mk.inj (Option.some.inj hk)
          obtain ⟨rfl, rfl⟩ := Prod.mk.inj hk2
          have hr := eg_an2 (List.all_eq_true.mp eg_str_rg i (List.mem_range.mpr hi))
          exact ⟨(hS hi).2.2.2.2, eg_dd hr.1, fun j => eg_gd0 (P := fun x => -2147483648 ≤ x ∧ x < 2147483648) (fun x hx => eg_dd (List.all_eq_true.mp hr.2 x hx)) ⟨by decide, by decide⟩ j⟩
        · rw [if_neg h3] at hk; cases hk
      · rw [if_neg h2] at hk
        obtain ⟨i, rfl⟩ : ∃ i, k = 1000000 + i := ⟨k - 1000000, by omega⟩
        rw [show 1000000 + i - 1000000 = i by omega] at hk
        match i, hk with
        | 0, hk =>
          cases hk
          refine ⟨?_, hL, fun j => eg_rg32 _⟩
          obtain ⟨scr, g1, g2, g3, g4, g5⟩ := hX
          refine ⟨scr, ?_, g2, g3, Nat.le_of_eq g4.symm, by rw [g4], fun j hj => ?_, ?_⟩
          · show s.heap[eg_ad0 args s b 1000000]? = some scr
            unfold eg_ad0
            rw [if_pos rfl]
            exact g1
          · show scr.slots[j]? = some (.int (Int32.ofInt (xs j).toInt))
            rw [Int32.ofInt_toInt]
            exact g5 j hj
          · show ¬ s.heap.size ≤ eg_ad0 args s b 1000000
            unfold eg_ad0
            rw [if_pos rfl]
            omega
        | 1, hk => cases hk; exact ⟨a2.2, by decide, fun j => eg_gd0 (P := fun x => -2147483648 ≤ x ∧ x < 2147483648) (fun x hx => eg_dd (hlms x (by simp only [List.mem_append]; exact Or.inl (Or.inl hx)))) ⟨by decide, by decide⟩ j⟩
        | 2, hk => cases hk; exact ⟨a3.2, by decide, fun j => eg_gd0 (P := fun x => -2147483648 ≤ x ∧ x < 2147483648) (fun x hx => eg_dd (hlms x (by simp only [List.mem_append]; exact Or.inl (Or.inr hx)))) ⟨by decide, by decide⟩ j⟩
        | 3, hk => cases hk; exact ⟨a4.2, by decide, fun j => eg_gd0 (P := fun x => -2147483648 ≤ x ∧ x < 2147483648) (fun x hx => eg_dd (hlms x (by simp only [List.mem_append]; exact Or.inr hx))) ⟨by decide, by decide⟩ j⟩
        | 4, hk => cases hk; exact ⟨a1.2, by decide, fun j => Or.inr (by omega)⟩
        | i + 5, hk => cases hk
  · unfold eg_sc at hk
    split at hk
    · cases hk
      obtain ⟨i, rfl⟩ : ∃ i, k = 1000100 + i := ⟨k - 1000100, by omega⟩
      exact (hE (by omega)).2.1
    · split at hk
      · cases hk
        obtain ⟨i, rfl⟩ : ∃ i, k = 1000200 + i := ⟨k - 1000200, by omega⟩
        exact (hS (by omega)).2.1
      · cases hk
  · unfold eg_sf at hk
    split at hk
    · obtain ⟨i, rfl⟩ : ∃ i, k = 1000100 + i := ⟨k - 1000100, by omega⟩
      have hi : i < 34 := by omega
      rw [show 1000100 + i - 1000100 = i by omega] at hk
      match f, hk with
      | 0, hk => cases hk; exact (hE hi).2.2.2.1
      | 1, hk => cases hk; exact (hE hi).2.2.2.2
      | 4, hk =>
        cases hk
        have h9 := (hE hi).2.2.1
        rw [← Int32.ofInt_eq_ofNat] at h9
        exact h9
      | 2, hk => cases hk
      | 3, hk => cases hk
      | f + 5, hk => cases hk
    · split at hk
      · obtain ⟨i, rfl⟩ : ∃ i, k = 1000200 + i := ⟨k - 1000200, by omega⟩
        have hi : i < 62 := by omega
        match f, hk with
        | 2, hk =>
          cases hk
          have h9 := (hS hi).2.2.2.1
          rw [show 1000300 + i = 1000200 + i + 100 by omega] at h9
          exact h9
        | 3, hk => cases hk; exact (hS hi).2.2.1
        | 0, hk => cases hk
        | 1, hk => cases hk
        | f + 4, hk => cases hk
      · cases hk
  · unfold eg_ss at hk
    split at hk
    · cases hk; exact va_Zof (hlay 0 (by decide)).1 (hlay 0 (by decide)).2 (va_eqt hcs) hA
    · cases hk; exact hzq
    · cases hk; exact va_Zof (hlay 5 (by decide)).1 (hlay 5 (by decide)).2 a1.1 hA
    · cases hk; exact va_Zof (hlay 6 (by decide)).1 (hlay 6 (by decide)).2 a2.1 hA
    · cases hk; exact va_Zof (hlay 7 (by decide)).1 (hlay 7 (by decide)).2 a3.1 hA
    · cases hk; exact va_Zof (hlay 8 (by decide)).1 (hlay 8 (by decide)).2 a4.1 hA
    · cases hk; exact va_Zof (hlay 9 (by decide)).1 (hlay 9 (by decide)).2 (hE (i := 3) (by decide)).1 hA
    · cases hk
  · have hw := eg_dd (List.all_eq_true.mp eg_srw i (List.mem_range.mpr hi))
    exact vk_R.of (hts _ (eg_tb_in hw)) (hS (show i < 62 by omega)).1
  · have key : ∀ k, eg_sc k = some 21 → ∃ i, i < 34 ∧ k = 1000100 + i := by
      intro k hk
      unfold eg_sc at hk
      split at hk
      · exact ⟨k - 1000100, by omega, by omega⟩
      · split at hk <;> cases hk
    obtain ⟨i, hi, rfl⟩ := key x hx
    obtain ⟨j, hj, rfl⟩ := key y hy
    have h1 := (hE hi).2.2.1
    have h2 := (hE hj).2.2.1
    rw [he] at h1
    have h3 := eg_OF_one h1 h2
    have h4 : Int32.ofNat i = Int32.ofNat j := Value.int.inj h3
    have h5 := (nI_eq (a := i) (b := j) (by omega) (by omega)).mp h4
    rw [h5]
