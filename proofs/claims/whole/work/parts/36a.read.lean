def zb_ct (D : Nat → Nat) (v a : Nat) : Nat → Nat
  | 0 => 0
  | n + 1 => zb_ct D v a n + (if D (a + n) = v then 1 else 0)
theorem zb_ct_eq {D D' : Nat → Nat} {v a n : Nat} (h : ∀ x, a ≤ x → x < a + n → D' x = D x) : zb_ct D' v a n = zb_ct D v a n := by
  induction n with
  | zero => rfl
  | succ n ih =>
    unfold zb_ct
    rw [ih (fun x h1 h2 => h x h1 (by omega)), h (a + n) (by omega) (by omega)]
theorem zb_ct_le {D : Nat → Nat} {v a n : Nat} : zb_ct D v a n ≤ n := by
  induction n with
  | zero => exact Nat.le_refl _
  | succ n ih => unfold zb_ct; split <;> omega
def zb_LS (R : eM) (S : Nat) (D E : Nat → Nat) (c : Nat) : Prop := (c + 1 = E c ∧ R 52 c = -1) ∨ ∃ l : Nat, c < l ∧ l < S ∧ D l = D c + 1 ∧ E l = E c ∧ R 52 c = (l : Int)
def zb_TP (R : eM) (F S : Nat) (D E : Nat → Nat) : Prop := (F = S ∧ R 45 21 = -1 ∧ R 45 22 = -1) ∨ (F < S ∧ R 45 21 = (F : Int) ∧ D F = 0 ∧ R 54 F = -1 ∧ ∃ l : Nat, F ≤ l ∧ l < S ∧ D l = 0 ∧ E l = S ∧ R 45 22 = (l : Int))
def zb_LK (R : eM) (S : Nat) (D E : Nat → Nat) (c : Nat) : Prop :=
     R 53 c = (if E c < S ∧ D (E c) = D c then (E c : Int) else -1)
     ∧ R 51 c = (if c + 1 < E c then ((c + 1 : Nat) : Int) else -1)
     ∧ zb_LS R S D E c
     ∧ R 55 c = (zb_ct D (D c + 1) (c + 1) (E c - (c + 1)) : Nat)
     ∧ (c + 1 < E c → R 54 (c + 1) = -1)
     ∧ (E c < S → D (E c) = D c → R 54 (E c) = (c : Int))
def zb_TR (R : eM) (F S : Nat) (D E : Nat → Nat) : Prop :=
  (∀ c, F ≤ c → c < S → c < E c ∧ E c ≤ S ∧ (∀ x, c < x → x < E c → D c < D x) ∧ (E c < S → D (E c) ≤ D c) ∧ (c + 1 < S → D (c + 1) ≤ D c + 1) ∧ zb_LK R S D E c)
  ∧ zb_TP R F S D E
def zb_DA (D : Nat → Nat) (S zb_lv : Nat) : Nat → Nat := fun x => if x = S then zb_lv else D x
def zb_EA (D E : Nat → Nat) (F S zb_lv : Nat) : Nat → Nat := fun x => if x = S then S + 1 else if F ≤ x ∧ x < S ∧ E x = S ∧ D x < zb_lv then S + 1 else E x
def zb_OP (F S zb_lv : Nat) (D E op : Nat → Nat) : Prop := zb_lv ≤ 30 ∧ ∀ i, i < zb_lv → F ≤ op i ∧ op i < S ∧ D (op i) = i ∧ E (op i) = S
theorem zb_OP_only {R : eM} {F S zb_lv : Nat} {D E op : Nat → Nat} (hT : zb_TR R F S D E) (zb_hO : zb_OP F S zb_lv D E op) {c : Nat} (h1 : F ≤ c) (h2 : c < S) (h3 : E c = S) (h4 : D c < zb_lv) : c = op (D c) := by
  obtain ⟨o1, o2, o3, o4⟩ := zb_hO.2 (D c) h4
  obtain ⟨_, _, t3, _⟩ := hT.1 c h1 h2
  obtain ⟨_, _, u3, _⟩ := hT.1 _ o1 o2
  by_cases ha : c < op (D c)
  · have := t3 _ ha (by omega); omega
  · by_cases hb : op (D c) < c
    · have := u3 _ hb (by omega); omega
    · omega
theorem zb_TR_uniq {R : eM} {F S : Nat} {D E : Nat → Nat} (hT : zb_TR R F S D E) {c l : Nat} (h1 : F ≤ c) (h2 : c < S) (h3 : E c = S) (g1 : F ≤ l) (g2 : l < S) (g3 : E l = S) (h : D c = D l) : c = l := by
  obtain ⟨_, _, t3, _⟩ := hT.1 c h1 h2
  obtain ⟨_, _, u3, _⟩ := hT.1 l g1 g2
  by_cases ha : c < l
  · have := t3 _ ha (by omega); omega
  · by_cases hb : l < c
    · have := u3 _ hb (by omega); omega
    · omega
def zb_BF (F S zb_lv : Nat) (D E op : Nat → Nat) (bf : Int) : Prop :=
    (bf = -1 ∧ (∀ c, F ≤ c → c < S → E c = S → D c ≠ zb_lv) ∧ (zb_lv = 0 → F = S) ∧ (0 < zb_lv → op (zb_lv - 1) + 1 = S)) ∨ (∃ l : Nat, bf = (l : Int) ∧ F ≤ l ∧ l < S ∧ D l = zb_lv ∧ E l = S ∧ (0 < zb_lv → op (zb_lv - 1) < l))
theorem zb_TR_bf {R : eM} {F S zb_lv : Nat} {D E op : Nat → Nat} (hT : zb_TR R F S D E) (zb_hO : zb_OP F S zb_lv D E op) {bf : Int} (hbf : bf = if zb_lv = 0 then R 45 22 else R 52 (op (zb_lv - 1))) : zb_BF F S zb_lv D E op bf := by
  by_cases h0 : zb_lv = 0
  · rw [if_pos h0] at hbf
    rcases hT.2 with ⟨f, _, g⟩ | ⟨f, _, _, _, l, l1, l2, l3, l4, l5⟩
    · exact Or.inl ⟨by omega, fun c h1 h2 => by omega, fun _ => f, fun h => by omega⟩
    · exact Or.inr ⟨l, by omega, l1, l2, by omega, l4, fun h => by omega⟩
  · rw [if_neg h0] at hbf
    obtain ⟨o1, o2, o3, o4⟩ := zb_hO.2 (zb_lv - 1) (by omega)
    obtain ⟨t1, t2, t3, t4, t9, tk⟩ := hT.1 _ o1 o2
    rcases tk.2.2.1 with ⟨e1, e2⟩ | ⟨l, l1, l2, l3, l4, l5⟩
    · refine Or.inl ⟨by omega, fun c h1 h2 h3 h4 => ?_, fun h => by omega, fun _ => by omega⟩
      obtain ⟨_, _, u3, _⟩ := hT.1 c h1 h2
      by_cases hc : c = op (zb_lv - 1)
      · subst hc; omega
      · have := u3 (op (zb_lv - 1)) (by omega) (by omega); omega
    · exact Or.inr ⟨l, by omega, by omega, l2, by omega, by omega, fun _ => l1⟩
theorem zb_TR_add {R R' : eM} {F S zb_lv : Nat} {D E op : Nat → Nat} (hT : zb_TR R F S D E) (zb_hO : zb_OP F S zb_lv D E op) {bf : Int} (hFS : F ≤ S) (hbf : bf = if zb_lv = 0 then R 45 22 else R 52 (op (zb_lv - 1)))
    (h53 : ∀ x, R' 53 x = if x = S then -1 else if (x : Int) = bf then (S : Int) else R 53 x) (h54 : ∀ x, R' 54 x = if x = S then bf else R 54 x)
    (h51 : ∀ x, R' 51 x = if x = S then -1 else if 0 < zb_lv ∧ x = op (zb_lv - 1) ∧ bf < 0 then (S : Int) else R 51 x)
    (h52 : ∀ x, R' 52 x = if x = S then -1 else if 0 < zb_lv ∧ x = op (zb_lv - 1) then (S : Int) else R 52 x)
    (h55 : ∀ x, R' 55 x = if x = S then 0 else if 0 < zb_lv ∧ x = op (zb_lv - 1) then R 55 x + 1 else R 55 x)
    (h21 : R' 45 21 = if zb_lv = 0 ∧ bf < 0 then (S : Int) else R 45 21) (h22 : R' 45 22 = if zb_lv = 0 then (S : Int) else R 45 22) :
    zb_TR R' F (S + 1) (zb_DA D S zb_lv) (zb_EA D E F S zb_lv) := by
  have hB := zb_TR_bf hT zb_hO hbf
  have hDS : zb_DA D S zb_lv S = zb_lv := if_pos rfl
  have hDn : ∀ x, x ≠ S → zb_DA D S zb_lv x = D x := fun x h => if_neg h
  have hES : zb_EA D E F S zb_lv S = S + 1 := if_pos rfl
  have hEo : ∀ x, F ≤ x → x < S → E x = S → D x < zb_lv → zb_EA D E F S zb_lv x = S + 1 := fun x h1 h2 h3 h4 => by
    unfold zb_EA; rw [if_neg (by omega), if_pos ⟨h1, h2, h3, h4⟩]
  have hEc : ∀ x, x < S → ¬ (E x = S ∧ D x < zb_lv) → zb_EA D E F S zb_lv x = E x := fun x h1 h2 => by
    unfold zb_EA; rw [if_neg (by omega), if_neg (fun z => h2 ⟨z.2.2.1, z.2.2.2⟩)]
  refine ⟨fun c hc1 hc2 => ?_, ?_⟩
  · by_cases hcS : c = S
    · subst hcS
      rw [hES]
      refine ⟨by omega, by omega, fun x _ _ => by omega, fun _ => by omega, fun _ => by omega, ?_⟩
      unfold zb_LK
      rw [hES, h53, h51, h55, if_pos rfl, if_pos rfl, if_pos rfl]
      refine ⟨?_, ?_, Or.inl ⟨hES.symm, by rw [h52, if_pos rfl]⟩, ?_, fun _ => by omega, fun _ => by omega⟩
      · rw [if_neg (by omega)]
      · rw [if_neg (by omega)]
      · rw [Nat.sub_self]; rfl
    · have hcS2 : c < S := by omega
      obtain ⟨t1, t2, t3, t4, t9, tk⟩ := hT.1 c hc1 hcS2
      rw [hDn c hcS]
      by_cases ho : E c = S ∧ D c < zb_lv
      · obtain ⟨ho1, ho2⟩ := ho
        rw [hEo c hc1 hcS2 ho1 ho2]
        have hop := zb_OP_only hT zb_hO hc1 hcS2 ho1 ho2
        have hlast : c + 1 = S → c = op (zb_lv - 1) ∧ bf = -1 := by
          intro e
          obtain ⟨o1, o2, o3, o4⟩ := zb_hO.2 (zb_lv - 1) (by omega)
          obtain ⟨_, _, u3, _⟩ := hT.1 _ o1 o2
          by_cases hq : c = op (zb_lv - 1)
          · refine ⟨hq, ?_⟩
            rcases hB with ⟨hb, _⟩ | ⟨l, hb, b1, b2, b3, b4, b5⟩
            · exact hb
            · have := b5 (by omega); omega
          · have := u3 c (by omega) (by omega)
            omega
        have hp9 : c + 1 < S + 1 → zb_DA D S zb_lv (c + 1) ≤ D c + 1 := by
          intro h
          by_cases hq : c + 1 = S
          · rw [hq, hDS]
            have := hlast hq
            obtain ⟨o1, o2, o3, o4⟩ := zb_hO.2 (zb_lv - 1) (by omega)
            have : D c = zb_lv - 1 := by rw [this.1]; exact o3
            omega
          · rw [hDn _ hq]; exact t9 (by omega)
        refine ⟨by omega, by omega, fun x hx1 hx2 => ?_, fun _ => by omega, hp9, ?_⟩
        · by_cases hx : x = S
          · rw [hx, hDS]; exact ho2
          · rw [hDn x hx]; exact t3 x hx1 (by omega)
        obtain ⟨t5, t6, t7, t8, t10, t11⟩ := tk
        unfold zb_LK
        rw [hEo c hc1 hcS2 ho1 ho2, hDn c hcS]
        clear hbf h21 h22
        refine ⟨?_, ?_, ?_, ?_, fun h => ?_, fun _ => by omega⟩
        · rw [h53, if_neg hcS, if_neg ?_, if_neg (by omega), t5, if_neg (by omega)]
          intro e
          rcases hB with ⟨hb, _⟩ | ⟨l, hb, b1, b2, b3, b4, b5⟩
          · omega
          · have : c = l := by omega
            subst this; omega
        · rw [h51, if_neg hcS, if_pos (show c + 1 < S + 1 by omega)]
          by_cases hq : 0 < zb_lv ∧ c = op (zb_lv - 1) ∧ bf < 0
          · rw [if_pos hq]
            rcases hB with ⟨hb, _, _, b4⟩ | ⟨l, hb, _⟩
            · have := b4 hq.1; omega
            · omega
          · rw [if_neg hq, t6]
            by_cases hq2 : c + 1 < E c
            · rw [if_pos hq2]
            · have := hlast (by omega)
              exact absurd ⟨by omega, this.1, by omega⟩ hq
        · clear t5 t6 t8 t10 t11
          by_cases hq : c = op (zb_lv - 1)
          · refine Or.inr ⟨S, by omega, by omega, ?_, by rw [hES, hEo c hc1 hcS2 ho1 ho2], ?_⟩
            · rw [hDS, hDn c hcS]
              obtain ⟨o1, o2, o3, o4⟩ := zb_hO.2 (zb_lv - 1) (by omega)
              rw [hq, o3]; omega
            · rw [h52, if_neg hcS, if_pos ⟨by omega, hq⟩]
          · have hD : D c ≠ zb_lv - 1 := fun z => hq (by rw [hop, z])
            rcases t7 with ⟨e1, e2⟩ | ⟨l, l1, l2, l3, l4, l5⟩
            · exact absurd (hlast (by omega)).1 hq
            · exact Or.inr ⟨l, l1, by omega, by rw [hDn l (by omega), hDn c hcS]; exact l3, by rw [hEo c hc1 hcS2 ho1 ho2]; exact hEo l (by omega) l2 (by omega) (by omega), by rw [h52, if_neg hcS, if_neg (fun z => hq z.2)]; exact l5⟩
        · clear t5 t6 t10 t11
          rw [h55, if_neg hcS, show S + 1 - (c + 1) = (E c - (c + 1)) + 1 by omega]
          unfold zb_ct
          rw [zb_ct_eq (D := D) (fun x _ _ => hDn x (by omega)), show c + 1 + (E c - (c + 1)) = S by omega, hDS, t8]
          by_cases hq : 0 < zb_lv ∧ c = op (zb_lv - 1)
          · obtain ⟨o1, o2, o3, o4⟩ := zb_hO.2 (zb_lv - 1) (by omega)
            have : D c = zb_lv - 1 := by rw [hq.2]; exact o3
            rw [if_pos hq, if_pos (by omega)]; omega
          · have hD : D c ≠ zb_lv - 1 := fun z => hq ⟨by omega, by rw [hop, z]⟩
            rw [if_neg hq, if_neg (by omega)]; omega
        · rw [h54]
          by_cases hq : c + 1 = S
          · rw [if_pos hq]; exact (hlast hq).2
          · rw [if_neg hq]; exact t10 (by omega)
      · rw [hEc c hcS2 ho]
        have hbc : E c = S → zb_lv = D c → bf = (c : Int) := by
          intro e1 e2
          rcases hB with ⟨_, hb, _⟩ | ⟨l, hb, b1, b2, b3, b4, b5⟩
          · exact absurd e2.symm (hb c hc1 hcS2 e1)
          · have := zb_TR_uniq hT hc1 hcS2 e1 b1 b2 b4 (by omega)
            omega
        have hbn : ¬ (E c = S ∧ zb_lv = D c) → ¬ (c : Int) = bf := by
          intro h e
          rcases hB with ⟨hb, _⟩ | ⟨l, hb, b1, b2, b3, b4, b5⟩
          · omega
          · have : c = l := by omega
            subst this
            exact h ⟨b4, by omega⟩
        have hnop : ¬ (0 < zb_lv ∧ c = op (zb_lv - 1)) := by
          intro z
          obtain ⟨o1, o2, o3, o4⟩ := zb_hO.2 (zb_lv - 1) (by omega)
          have e : D c = zb_lv - 1 := by rw [z.2]; exact o3
          have e2 : E c = S := by rw [z.2]; exact o4
          exact ho ⟨e2, by omega⟩
        refine ⟨t1, by omega, fun x hx1 hx2 => ?_, fun h => ?_, fun h => ?_, ?_⟩
        · rw [hDn x (by omega)]; exact t3 x hx1 hx2
        · by_cases hq : E c = S
          · rw [hq, hDS]; omega
          · rw [hDn _ hq]; exact t4 (by omega)
        · by_cases hq : c + 1 = S
          · rw [hq, hDS]; omega
          · rw [hDn _ hq]; exact t9 (by omega)
        obtain ⟨t5, t6, t7, t8, t10, t11⟩ := tk
        unfold zb_LK
        rw [hEc c hcS2 ho, hDn c hcS]
        clear hbf h21 h22
        refine ⟨?_, ?_, ?_, ?_, fun h => ?_, fun h1 h2 => ?_⟩
        · rw [h53, if_neg hcS]
          by_cases hq : E c = S
          · rw [hq, hDS]
            by_cases hl : zb_lv = D c
            · rw [if_pos (hbc hq hl).symm, if_pos ⟨by omega, hl⟩]
            · rw [if_neg (hbn (fun z => hl z.2)), if_neg (fun z => hl z.2), t5, if_neg (by omega)]
          · rw [if_neg (hbn (fun z => hq z.1)), t5, hDn _ hq]
            by_cases hl : D (E c) = D c
            · rw [if_pos ⟨by omega, hl⟩, if_pos ⟨by omega, hl⟩]
            · rw [if_neg (fun z => hl z.2), if_neg (fun z => hl z.2)]
        · rw [h51, if_neg hcS, if_neg (fun z => hnop ⟨z.1, z.2.1⟩), t6]
        · clear t5 t6 t8 t10 t11
          rcases t7 with ⟨e1, e2⟩ | ⟨l, l1, l2, l3, l4, l5⟩
          · exact Or.inl ⟨by rw [hEc c hcS2 ho]; exact e1, by rw [h52, if_neg hcS, if_neg hnop]; exact e2⟩
          · exact Or.inr ⟨l, l1, by omega, by rw [hDn l (by omega), hDn c hcS]; exact l3, by rw [hEc l l2 (by omega), hEc c hcS2 ho]; exact l4, by rw [h52, if_neg hcS, if_neg hnop]; exact l5⟩
        · rw [h55, if_neg hcS, if_neg hnop, zb_ct_eq (D := D) (fun x _ _ => hDn x (by omega)), t8]
        · rw [h54, if_neg (by omega)]; exact t10 h
        · rw [h54]
          by_cases hq : E c = S
          · rw [if_pos hq]
            rw [hq, hDS] at h2
            exact hbc hq h2
          · rw [if_neg hq]
            rw [hDn _ hq] at h2
            exact t11 (by omega) h2
  · refine Or.inr ⟨by omega, ?_⟩
    by_cases hF : F = S
    · have h0 : zb_lv = 0 := by
        by_cases h0 : zb_lv = 0
        · exact h0
        · obtain ⟨o1, o2, _⟩ := zb_hO.2 0 (by omega); omega
      have hb : bf = -1 := by
        rcases hB with ⟨hb, _⟩ | ⟨l, hb, b1, b2, _⟩
        · exact hb
        · omega
      refine ⟨by rw [h21, if_pos ⟨h0, by omega⟩, hF], by rw [hF, hDS]; exact h0, by rw [h54, if_pos hF]; exact hb, S, hFS, by omega, by rw [hDS]; exact h0, hES, by rw [h22, if_pos h0]⟩
    · rcases hT.2 with ⟨f, _⟩ | ⟨f, g1, g2, g3, l, l1, l2, l3, l4, l5⟩
      · exact absurd f hF
      · refine ⟨?_, by rw [hDn F hF]; exact g2, by rw [h54, if_neg hF]; exact g3, ?_⟩
        · rw [h21, if_neg ?_]
          · exact g1
          · intro z
            rcases hB with ⟨_, _, b3, _⟩ | ⟨l9, hb, _⟩
            · exact hF (b3 z.1)
            · omega
        · by_cases h0 : zb_lv = 0
          · exact ⟨S, hFS, by omega, by rw [hDS]; exact h0, hES, by rw [h22, if_pos h0]⟩
          · exact ⟨l, l1, by omega, by rw [hDn l (by omega)]; exact l3, hEo l l1 l2 l4 (by omega), by rw [h22, if_neg h0]; exact l5⟩
theorem zb_wi_sub {a b : Nat} (h : b ≤ a) (h2 : a < 2147483648) : eg_wi ((a : Int) - (b : Int)) = ((a - b : Nat) : Int) := by unfold eg_wi; omega
theorem zb_wi_add {a b : Nat} (h2 : a + b < 2147483648) : eg_wi ((a : Int) + (b : Int)) = ((a + b : Nat) : Int) := by unfold eg_wi; omega
theorem zb_wi_1 {a : Nat} (h2 : a + 1 < 2147483648) : eg_wi ((a : Int) + 1) = ((a + 1 : Nat) : Int) := by unfold eg_wi; omega
theorem zb_wi_2 {a : Nat} (h2 : a + 2 < 2147483648) : eg_wi ((a : Int) + 2) = ((a + 2 : Nat) : Int) := by unfold eg_wi; omega
theorem zb_wi_m1 {a : Nat} (h : 1 ≤ a) (h2 : a < 2147483648) : eg_wi ((a : Int) - 1) = ((a - 1 : Nat) : Int) := by unfold eg_wi; omega
theorem zb_wb_n {a : Nat} (h : a < 128) : eg_wb (a : Int) = (a : Int) := by unfold eg_wb; omega
theorem zb_ws_n {a : Nat} (h : a < 32768) : eg_ws (a : Int) = (a : Int) := by unfold eg_ws; omega
def zb_AC (C : eM) (F S zb_lv : Nat) (zb_cv e : Int) : eM := eg_u (eg_u (eg_u (eg_u (eg_u C 9 (S - F) e) 4 S zb_cv) 6 S (zb_lv : Int)) 5 S ((S + 1 : Nat) : Int)) 1 6 ((S + 1 : Nat) : Int)
theorem zb_f36_ok {C : eM} {F S zb_lv : Nat} {zb_cv e : Int} (h1 : C 1 6 = (S : Int)) (h2 : C 7 8 = (F : Int)) (h3 : C 7 9 = (zb_lv : Int)) (hF : F ≤ S) (zb_hS : S < F + 2000) (hT : S < 20000) (hl : zb_lv ≤ 30) : fn_36 zb_cv e C = some (1, zb_AC C F S zb_lv zb_cv e) := by
  have e1 : fn_37 C = some 1 := by
    unfold fn_37
    rw [h1, h2, zb_wi_sub hF (by omega), if_neg (by omega), if_neg (by omega)]
  unfold fn_36
  rw [e1, Option.bind_some, if_pos (by decide), h1, h2, h3, zb_wi_sub hF (by omega), if_pos (by omega), if_pos (by omega), zb_wb_n (by omega), zb_wb_n (by omega), zb_wi_1 (by omega)]
  rfl
theorem zb_f36_full {C : eM} {F S : Nat} {zb_cv e : Int} (h1 : C 1 6 = (S : Int)) (h2 : C 7 8 = (F : Int)) (hF : F ≤ S) (zb_hS : S < 2147483648) (hT : ¬ (S < F + 2000 ∧ S < 20000)) : fn_36 zb_cv e C = some (0, eg_u (eg_u C 7 4 2) 7 5 e) := by
  have e1 : fn_37 C = some 0 := by
    unfold fn_37
    rw [h1, h2, zb_wi_sub hF (by omega)]
    by_cases h : S < F + 2000
    · rw [if_neg (by omega), if_pos (by omega)]
    · rw [if_pos (by omega)]
  unfold fn_36
  rw [e1, Option.bind_some, if_neg (by decide)]
  rfl
def zb_AR (R R' : eM) (S zb_lv ol : Nat) (bf rk zb_rv e : Int) : Prop :=
  (∀ x, R' 53 x = if x = S then -1 else if (x : Int) = bf then (S : Int) else R 53 x) ∧ (∀ x, R' 54 x = if x = S then bf else R 54 x)
  ∧ (∀ x, R' 51 x = if x = S then -1 else if 0 < zb_lv ∧ x = ol ∧ bf < 0 then (S : Int) else R 51 x)
  ∧ (∀ x, R' 52 x = if x = S then -1 else if 0 < zb_lv ∧ x = ol then (S : Int) else R 52 x)
  ∧ (∀ x, R' 55 x = if x = S then 0 else if 0 < zb_lv ∧ x = ol then R 55 x + 1 else R 55 x)
  ∧ R' 45 21 = (if zb_lv = 0 ∧ bf < 0 then (S : Int) else R 45 21) ∧ R' 45 22 = (if zb_lv = 0 then (S : Int) else R 45 22)
  ∧ (∀ x, R' 49 x = if x = S then rk else R 49 x) ∧ (∀ x, R' 50 x = if x = S then zb_rv else R 50 x) ∧ (∀ x, R' 56 x = if x = S then e else R 56 x)
  ∧ R' 45 16 = ((S + 1 : Nat) : Int) ∧ (∀ f, f ≠ 16 → f ≠ 21 → f ≠ 22 → R' 45 f = R 45 f)
  ∧ (∀ c, c ∉ ([45, 49, 50, 51, 52, 53, 54, 55, 56] : List Nat) → R' c = R c)
theorem zb_f163_full {R : eM} {F S : Nat} {rk zb_rv e : Int} (h1 : R 45 16 = (S : Int)) (h2 : R 45 17 = (F : Int)) (hF : F ≤ S) (zb_hS : S ≤ F + 2000) (hS2 : S ≤ 20000) (hT : ¬ (S < F + 2000 ∧ S < 20000)) : fn_163 rk zb_rv e R = some (2, eg_u R 45 2 e) := by
  unfold fn_163
  rw [h1, h2, zb_wi_sub hF (by omega)]
  by_cases h : S < F + 2000
  · rw [if_neg (by omega), if_neg (by omega)]; rfl
  · rw [if_pos (by omega)]; rfl
theorem zb_f163_t {M : eM} {S : Nat} {x1 x2 x3 bf : Int} (h : M 45 16 = (S : Int)) (zb_hS : S < 20000) (hb : bf < 0) : fn_163_82 x1 x2 x3 (-1) bf M = some (0, eg_u (eg_u (eg_u (eg_u M 54 S bf) 45 21 (S : Int)) 45 22 (S : Int)) 45 16 ((S + 1 : Nat) : Int)) := by
  unfold fn_163_82
  rw [h, if_pos (by omega), if_pos hb]
  unfold fn_163_97
  rw [if_pos (by decide), if_neg (by omega)]
  show some ((0 : Int), eg_u (eg_u (eg_u (eg_u M 54 S bf) 45 21 (M 45 16)) 45 22 (M 45 16)) 45 16 (eg_wi (M 45 16 + 1))) = _
  rw [h, zb_wi_1 (by omega)]
theorem zb_f163_t2 {M : eM} {S b : Nat} {x1 x2 x3 bf : Int} (h : M 45 16 = (S : Int)) (zb_hS : S < 20000) (hb : bf = (b : Int)) (hb2 : b < S) : fn_163_82 x1 x2 x3 (-1) bf M = some (0, eg_u (eg_u (eg_u (eg_u M 54 S bf) 53 b (S : Int)) 45 22 (S : Int)) 45 16 ((S + 1 : Nat) : Int)) := by
  subst hb
  unfold fn_163_82
  rw [h, if_pos (by omega), if_neg (by omega), if_pos (by omega)]
  unfold fn_163_97
  rw [if_pos (by decide), if_pos (by omega)]
  show some ((0 : Int), eg_u (eg_u (eg_u (eg_u M 54 S b) 53 b S) 45 22 (M 45 16)) 45 16 (eg_wi (M 45 16 + 1))) = _
  rw [h, zb_wi_1 (by omega)]
theorem zb_f163_u {M : eM} {S ol k : Nat} {x1 x2 x3 bf : Int} (h : M 45 16 = (S : Int)) (zb_hS : S < 20000) (ho : ol < S) (hk : M 55 ol = (k : Int)) (hk2 : k ≤ 2000) (hb : bf < 0) : fn_163_82 x1 x2 x3 (ol : Int) bf M = some (0, eg_u (eg_u (eg_u (eg_u (eg_u M 54 S bf) 51 ol (S : Int)) 52 ol (S : Int)) 55 ol ((k + 1 : Nat) : Int)) 45 16 ((S + 1 : Nat) : Int)) := by
  unfold fn_163_82
  rw [h, if_pos (by omega), if_pos hb]
  unfold fn_163_97
  rw [if_neg (by omega), if_neg (by omega), if_pos (by omega)]
  unfold fn_163_107
  rw [if_pos (by omega)]
  show some ((0 : Int), eg_u (eg_u (eg_u (eg_u (eg_u M 54 S bf) 51 ol (M 45 16)) 52 ol (M 45 16)) 55 ol (eg_ws (eg_ws (eg_wi (M 55 ol + 1))))) 45 16 (eg_wi (M 45 16 + 1))) = _
  rw [h, hk, zb_wi_1 (by omega), zb_wi_1 (by omega), zb_ws_n (by omega), zb_ws_n (by omega)]
theorem zb_f163_u2 {M : eM} {S ol k b : Nat} {x1 x2 x3 bf : Int} (h : M 45 16 = (S : Int)) (zb_hS : S < 20000) (ho : ol < S) (hk : M 55 ol = (k : Int)) (hk2 : k ≤ 2000) (hb : bf = (b : Int)) (hb2 : b < S) : fn_163_82 x1 x2 x3 (ol : Int) bf M = some (0, eg_u (eg_u (eg_u (eg_u (eg_u M 54 S bf) 53 b (S : Int)) 52 ol (S : Int)) 55 ol ((k + 1 : Nat) : Int)) 45 16 ((S + 1 : Nat) : Int)) := by
  subst hb
  unfold fn_163_82
  rw [h, if_pos (by omega), if_neg (by omega), if_pos (by omega)]
  unfold fn_163_97
  rw [if_neg (by omega), if_pos (by omega)]
  unfold fn_163_107
  rw [if_pos (by omega)]
  show some ((0 : Int), eg_u (eg_u (eg_u (eg_u (eg_u M 54 S b) 53 b S) 52 ol (M 45 16)) 55 ol (eg_ws (eg_ws (eg_wi (M 55 ol + 1))))) 45 16 (eg_wi (M 45 16 + 1))) = _
  rw [h, hk, zb_wi_1 (by omega), zb_wi_1 (by omega), zb_ws_n (by omega), zb_ws_n (by omega)]
def zb_RB (R : eM) (S : Nat) (rk zb_rv e : Int) : eM := eg_u (eg_u (eg_u (eg_u (eg_u (eg_u (eg_u R 49 S rk) 50 S zb_rv) 51 S (-1)) 52 S (-1)) 53 S (-1)) 55 S 0) 56 S e
theorem zb_f163_ok {R : eM} {F S zb_lv ol k : Nat} {rk zb_rv e bf : Int} (h1 : R 45 16 = (S : Int)) (h2 : R 45 17 = (F : Int)) (hF : F ≤ S) (zb_hS : S < F + 2000) (hT : S < 20000) (hl : R 45 18 = (zb_lv : Int)) (hl30 : zb_lv ≤ 30)
    (ho : 0 < zb_lv → R 57 (zb_lv - 1) = (ol : Int)) (hoS : 0 < zb_lv → ol < S) (hk : 0 < zb_lv → R 55 ol = (k : Int)) (hk2 : k ≤ 2000) (hbf : bf = if zb_lv = 0 then R 45 22 else R 52 ol) (hb : bf = -1 ∨ (∃ b : Nat, bf = (b : Int) ∧ b < S)) (hrk : eg_wb rk = rk) (he : eg_ws e = e) :
    ∃ R', fn_163 rk zb_rv e R = some (0, R') ∧ zb_AR R R' S zb_lv ol bf rk zb_rv e := by
  have hw0 : eg_ws 0 = 0 := by decide
  unfold fn_163
  rw [h1, h2, hl, hrk, hrk, he, he, zb_wi_sub hF (by omega), if_neg (by omega), if_pos (by omega), if_pos (by omega), hw0]
  by_cases h0 : zb_lv = 0
  · subst h0
    rw [if_pos (by decide)]
    unfold fn_163_72
    rw [if_neg (by decide)]
    rw [if_pos rfl] at hbf
    show ∃ R', fn_163_82 rk zb_rv e (-1) (R 45 22) (zb_RB R S rk zb_rv e) = some (0, R') ∧ _
    rw [← hbf]
    clear hbf
    have hneg : ∀ x : Nat, ¬ (x : Int) = -1 := fun x => by omega
    rcases hb with hb | ⟨b, hb, hb2⟩
    · rw [zb_f163_t (S := S) (by exact h1) hT (by omega)]
      subst hb
      refine ⟨_, rfl, fun x => ?_, fun x => ?_, fun x => ?_, fun x => ?_, fun x => ?_, ?_, ?_, fun x => ?_, fun x => ?_, fun x => ?_, ?_, fun f f1 f2 f3 => ?_, fun c hc => ?_⟩
      rotate_right
      · simp only [List.mem_cons, List.not_mem_nil, or_false, not_or] at hc
        funext j; simp [eg_u, zb_RB, hc]
      all_goals simp [eg_u, zb_RB, hneg]
      all_goals (intros; omega)
    · rw [zb_f163_t2 (S := S) (by exact h1) hT hb hb2]
      subst hb
      have hbS : b ≠ S := by omega
      have hcast : ∀ x : Nat, ((x : Int) = (b : Int)) = (x = b) := fun x => by apply propext; omega
      have hb0 : ¬ ((b : Nat) : Int) < 0 := by omega
      refine ⟨_, rfl, fun x => ?_, fun x => ?_, fun x => ?_, fun x => ?_, fun x => ?_, ?_, ?_, fun x => ?_, fun x => ?_, fun x => ?_, ?_, fun f f1 f2 f3 => ?_, fun c hc => ?_⟩
      rotate_right
      · simp only [List.mem_cons, List.not_mem_nil, or_false, not_or] at hc
        funext j; simp [eg_u, zb_RB, hc]
      all_goals simp only [eg_u, zb_RB, hcast, hb0]
      all_goals simp
      all_goals (try (split <;> (try split) <;> (first | rfl | omega)))
      all_goals (intros; omega)
  · have hp : 0 < zb_lv := by omega
    rw [if_neg (by omega)]
    rw [if_neg h0] at hbf
    rw [zb_wi_m1 (by omega) (by omega), if_pos (by omega), Int.toNat_natCast, ho hp]
    unfold fn_163_72
    have hoS := hoS hp
    have hk := hk hp
    rw [if_pos (by omega), if_pos (by omega)]
    have hro : zb_RB R S rk zb_rv e 52 ol = R 52 ol := by simp [zb_RB, eg_u]; omega
    show ∃ R', fn_163_82 rk zb_rv e (ol : Int) (zb_RB R S rk zb_rv e 52 ol) (zb_RB R S rk zb_rv e) = some (0, R') ∧ _
    rw [hro, ← hbf]
    have hkB : zb_RB R S rk zb_rv e 55 ol = (k : Int) := by rw [← hk]; simp [zb_RB, eg_u]; omega
    clear hbf hro
    have hneg : ∀ x : Nat, ¬ (x : Int) = -1 := fun x => by omega
    have hoS2 : ol ≠ S := by omega
    rcases hb with hb | ⟨b, hb, hb2⟩
    · rw [zb_f163_u (S := S) (by exact h1) hT hoS hkB hk2 (by omega)]
      subst hb
      refine ⟨_, rfl, fun x => ?_, fun x => ?_, fun x => ?_, fun x => ?_, fun x => ?_, ?_, ?_, fun x => ?_, fun x => ?_, fun x => ?_, ?_, fun f f1 f2 f3 => ?_, fun c hc => ?_⟩
      rotate_right
      · simp only [List.mem_cons, List.not_mem_nil, or_false, not_or] at hc
        funext j; simp [eg_u, zb_RB, hc]
      all_goals simp [eg_u, zb_RB, hneg, hp, h0]
      all_goals (try (split <;> (try split) <;> (first | rfl | omega | (subst_vars; simp_all))))
      all_goals (intros; omega)
    · rw [zb_f163_u2 (S := S) (by exact h1) hT hoS hkB hk2 hb hb2]
      subst hb
      have hbS : b ≠ S := by omega
      have hcast : ∀ x : Nat, ((x : Int) = (b : Int)) = (x = b) := fun x => by apply propext; omega
      have hb0 : ¬ ((b : Nat) : Int) < 0 := by omega
      refine ⟨_, rfl, fun x => ?_, fun x => ?_, fun x => ?_, fun x => ?_, fun x => ?_, ?_, ?_, fun x => ?_, fun x => ?_, fun x => ?_, ?_, fun f f1 f2 f3 => ?_, fun c hc => ?_⟩
      rotate_right
      · simp only [List.mem_cons, List.not_mem_nil, or_false, not_or] at hc
        funext j; simp [eg_u, zb_RB, hc]
      all_goals simp only [eg_u, zb_RB, hcast, hb0, hp, h0]
      all_goals simp
      all_goals (try (split <;> (try split) <;> (first | rfl | omega | (subst_vars; simp_all))))
      all_goals (intros; omega)
def zb_vk (zb_cv rk zb_rv : Int) (N : Nat) : Prop :=
  (rk = 0 ∧ -2147483648 ≤ zb_rv ∧ zb_rv < 2147483648 ∧ zb_cv = zb_rv % 4294967296) ∨ (rk = 1 ∧ zb_cv = 4294967297) ∨ (rk = 2 ∧ zb_cv = 4294967296)
  ∨ (rk = 3 ∧ 0 ≤ zb_rv ∧ zb_rv < (N : Int) ∧ zb_cv = 8589934592 + zb_rv) ∨ (rk = 4 ∧ zb_cv = 25769803776)
def zb_tx (C R : eM) (n : Nat) : Prop := ∀ i, i < n → -128 ≤ C 8 i ∧ C 8 i < 128 ∧ R 46 i = C 8 i % 256
def zb_OM (C R : eM) (zb_lv : Nat) (op : Nat → Nat) : Prop := ∀ i, i < zb_lv → C 10 i = (op i : Int) ∧ R 57 i = (op i : Int) ∧ C 11 i = R 58 i ∧ (C 11 i = 0 ∨ C 11 i = 1) ∧ R 49 (op i) = 4
def zb_DM (C R : eM) (F S zb_lv : Nat) (D E op : Nat → Nat) : Prop := ∀ c, F ≤ c → c < S → C 6 c = (D c : Int) ∧ D c ≤ 30 ∧ ((∀ i, i < zb_lv → op i ≠ c) → C 5 c = (E c : Int)) ∧ C 9 (c - F) = R 56 c ∧ 0 ≤ R 56 c ∧ R 56 c < 3000 ∧ (R 49 c = 4 ∨ E c = c + 1)
def zb_PS (C R : eM) (n F S zb_lv a : Nat) : Prop := (C 7 6 = (n : Int) ∧ R 45 4 = (n : Int) ∧ n ≤ 3000) ∧ (C 7 7 = (a : Int) ∧ R 45 3 = (a : Int) ∧ a ≤ n) ∧ (C 1 6 = (S : Int) ∧ R 45 16 = (S : Int) ∧ C 7 8 = (F : Int) ∧ R 45 17 = (F : Int) ∧ F ≤ S ∧ S ≤ 20000 ∧ S ≤ F + 2000) ∧ (C 7 9 = (zb_lv : Int) ∧ R 45 18 = (zb_lv : Int))
def zb_RS (C R : eM) (n F S zb_lv a : Nat) (D E op : Nat → Nat) : Prop := zb_PS C R n F S zb_lv a ∧ zb_tx C R n ∧ zb_TR R F S D E ∧ zb_OP F S zb_lv D E op ∧ zb_OM C R zb_lv op ∧ zb_DM C R F S zb_lv D E op
theorem zb_OP_add {F S zb_lv : Nat} {D E op : Nat → Nat} (zb_hO : zb_OP F S zb_lv D E op) : zb_OP F (S + 1) zb_lv (zb_DA D S zb_lv) (zb_EA D E F S zb_lv) op := by
  refine ⟨zb_hO.1, fun i hi => ?_⟩
  obtain ⟨o1, o2, o3, o4⟩ := zb_hO.2 i hi
  refine ⟨o1, by omega, ?_, ?_⟩
  · unfold zb_DA; rw [if_neg (by omega)]; exact o3
  · unfold zb_EA; rw [if_neg (by omega), if_pos ⟨o1, o2, o4, by omega⟩]
theorem zb_add_ok {C R : eM} {n F S zb_lv a : Nat} {D E op : Nat → Nat} (h : zb_RS C R n F S zb_lv a D E op) (zb_room : S < F + 2000 ∧ S < 20000) {zb_cv rk zb_rv e : Int} (hrk : 0 ≤ rk ∧ rk ≤ 4) (he : 0 ≤ e ∧ e < 3000) :
    ∃ R', fn_36 zb_cv e C = some (1, zb_AC C F S zb_lv zb_cv e) ∧ fn_163 rk zb_rv e R = some (0, R') ∧ zb_AR R R' S zb_lv (op (zb_lv - 1)) (if zb_lv = 0 then R 45 22 else R 52 (op (zb_lv - 1))) rk zb_rv e ∧ zb_RS (zb_AC C F S zb_lv zb_cv e) R' n F (S + 1) zb_lv a (zb_DA D S zb_lv) (zb_EA D E F S zb_lv) op := by
  obtain ⟨zb_hP, hX, hT, zb_hO, hOM, hD⟩ := h
  obtain ⟨⟨p1, p2, p3⟩, ⟨q1, q2, q3⟩, ⟨s1, s2, s3, s4, s5, s6, s7⟩, l1, l2⟩ := zb_hP
  have c1 := zb_f36_ok (zb_cv := zb_cv) (e := e) s1 s3 l1 s5 zb_room.1 zb_room.2 zb_hO.1
  have hB := zb_TR_bf hT zb_hO (bf := if zb_lv = 0 then R 45 22 else R 52 (op (zb_lv - 1))) rfl
  obtain ⟨R', r1, r2⟩ : ∃ R', fn_163 rk zb_rv e R = some (0, R') ∧ zb_AR R R' S zb_lv (op (zb_lv - 1)) (if zb_lv = 0 then R 45 22 else R 52 (op (zb_lv - 1))) rk zb_rv e := by
    have hk2 : zb_ct D (D (op (zb_lv - 1)) + 1) (op (zb_lv - 1) + 1) (if 0 < zb_lv then E (op (zb_lv - 1)) - (op (zb_lv - 1) + 1) else 0) ≤ 2000 := by
      by_cases h0 : 0 < zb_lv
      · rw [if_pos h0]
        obtain ⟨o1, o2, o3, o4⟩ := zb_hO.2 (zb_lv - 1) (by omega)
        exact Nat.le_trans zb_ct_le (by omega)
      · rw [if_neg h0]; exact Nat.zero_le _
    refine zb_f163_ok (k := zb_ct D (D (op (zb_lv - 1)) + 1) (op (zb_lv - 1) + 1) (if 0 < zb_lv then E (op (zb_lv - 1)) - (op (zb_lv - 1) + 1) else 0)) s2 s4 s5 zb_room.1 zb_room.2 l2 zb_hO.1 (fun h => (hOM _ (by omega)).2.1) (fun h => (zb_hO.2 _ (by omega)).2.1) (fun h => ?_) hk2 rfl ?_ ?_ ?_
    · obtain ⟨o1, o2, o3, o4⟩ := zb_hO.2 (zb_lv - 1) (by omega)
      rw [if_pos h]
      exact (hT.1 _ o1 o2).2.2.2.2.2.2.2.2.1
    · rcases hB with ⟨hb, _⟩ | ⟨l, hb, b1, b2, _⟩
      · exact Or.inl hb
      · exact Or.inr ⟨l, hb, b2⟩
    · unfold eg_wb; omega
    · unfold eg_ws; omega
  refine ⟨R', c1, r1, r2, ?_⟩
  obtain ⟨a53, a54, a51, a52, a55, a21, a22, a49, a50, a56, a16, a45, aF⟩ := r2
  have hT' := zb_TR_add hT zb_hO s5 rfl a53 a54 a51 a52 a55 a21 a22
  have x46 : R' 46 = R 46 := aF 46 (by decide)
  have x57 : R' 57 = R 57 := aF 57 (by decide)
  have x58 : R' 58 = R 58 := aF 58 (by decide)
  refine ⟨⟨⟨p1, by rw [a45 4 (by decide) (by decide) (by decide)]; exact p2, p3⟩, ⟨q1, by rw [a45 3 (by decide) (by decide) (by decide)]; exact q2, q3⟩, ⟨rfl, a16, s3, by rw [a45 17 (by decide) (by decide) (by decide)]; exact s4, by omega, by omega, by omega⟩, l1, by rw [a45 18 (by decide) (by decide) (by decide)]; exact l2⟩, fun i hi => ?_, hT', zb_OP_add zb_hO, fun i hi => ?_, fun c hc1 hc2 => ?_⟩
  · rw [x46]; exact hX i hi
  · obtain ⟨o1, o2, o3, o4, o5⟩ := hOM i hi
    rw [x57, x58]
    refine ⟨o1, o2, o3, o4, ?_⟩
    rw [a49, if_neg (by have := (zb_hO.2 i hi).2.1; omega)]; exact o5
  · by_cases hcS : c = S
    · subst hcS
      refine ⟨?_, ?_, fun _ => ?_, ?_, ?_, ?_, Or.inr (if_pos rfl)⟩
      · show zb_AC C F c zb_lv zb_cv e 6 c = _
        rw [show zb_DA D c zb_lv c = zb_lv from if_pos rfl]; simp [zb_AC, eg_u]
      · rw [show zb_DA D c zb_lv c = zb_lv from if_pos rfl]; exact zb_hO.1
      · rw [show zb_EA D E F c zb_lv c = c + 1 from if_pos rfl]; simp [zb_AC, eg_u]
      · rw [a56, if_pos rfl]; simp [zb_AC, eg_u]
      · rw [a56, if_pos rfl]; exact he.1
      · rw [a56, if_pos rfl]; exact he.2
    · obtain ⟨d1, d2, d3, d4, d5, d6, d7⟩ := hD c hc1 (by omega)
      have hA6 : zb_AC C F S zb_lv zb_cv e 6 c = C 6 c := by simp [zb_AC, eg_u, hcS]
      have hA5 : zb_AC C F S zb_lv zb_cv e 5 c = C 5 c := by simp [zb_AC, eg_u, hcS]
      have hA9 : zb_AC C F S zb_lv zb_cv e 9 (c - F) = C 9 (c - F) := by simp [zb_AC, eg_u]; omega
      rw [hA6, hA5, hA9, a56, if_neg hcS, a49, if_neg hcS, show zb_DA D S zb_lv c = D c from if_neg hcS]
      refine ⟨d1, d2, fun ho => ?_, d4, d5, d6, ?_⟩
      · have zb_hE : zb_EA D E F S zb_lv c = E c := by
          unfold zb_EA
          rw [if_neg hcS, if_neg]
          rintro ⟨z1, z2, z3, z4⟩
          exact ho (D c) z4 (zb_OP_only hT zb_hO z1 z2 z3 z4).symm
        rw [zb_hE]; exact d3 ho
      · by_cases ho : F ≤ c ∧ c < S ∧ E c = S ∧ D c < zb_lv
        · left
          have := zb_OP_only hT zb_hO ho.1 ho.2.1 ho.2.2.1 ho.2.2.2
          rw [this]; exact (hOM _ ho.2.2.2).2.2.2.2
        · have zb_hE : zb_EA D E F S zb_lv c = E c := by
            unfold zb_EA
            rw [if_neg hcS, if_neg ho]
          rw [zb_hE]; exact d7
theorem zb_add_full {C R : eM} {n F S zb_lv a : Nat} {D E op : Nat → Nat} (h : zb_RS C R n F S zb_lv a D E op) (zb_room : ¬ (S < F + 2000 ∧ S < 20000)) {zb_cv rk zb_rv e : Int} : fn_36 zb_cv e C = some (0, eg_u (eg_u C 7 4 2) 7 5 e) ∧ fn_163 rk zb_rv e R = some (2, eg_u R 45 2 e) := by
  obtain ⟨⟨⟨p1, p2, p3⟩, ⟨q1, q2, q3⟩, ⟨s1, s2, s3, s4, s5, s6, s7⟩, l1, l2⟩, hX, hT, zb_hO, hOM, hD⟩ := h
  exact ⟨zb_f36_full s1 s3 s5 (by omega) zb_room, zb_f163_full s2 s4 s5 s7 s6 zb_room⟩
def zb_TK (R : eM) (zb_lv : Nat) (op : Nat → Nat) : Prop := ∀ i, i < zb_lv → R 58 i = 1 → R 55 (op i) = if i + 1 = zb_lv then 1 else 2
def zb_TK2 (R : eM) (zb_lv : Nat) (op : Nat → Nat) : Prop := ∀ i, i < zb_lv → R 58 i = 1 → R 55 (op i) = 2
theorem zb_ticks : ∀ (zb_lv : Nat) {C R : eM} {n F S a : Nat} {D E op : Nat → Nat}, zb_RS C R n F S zb_lv a D E op → zb_TK2 R zb_lv op → ∃ (lv' : Nat) (C' R' : eM), fn_40 C = some C' ∧ fn_167 R = some R' ∧ zb_RS C' R' n F S lv' a D E op ∧ zb_TK R' lv' op ∧ (∀ f, f ≠ 9 → C' 7 f = C 7 f) ∧ (∀ f, f ≠ 18 → R' 45 f = R 45 f) ∧ lv' ≤ zb_lv ∧ (∀ c, c < F → C' 5 c = C 5 c) := by
  intro zb_lv
  induction zb_lv with
  | zero =>
    intro C R n F S a D E op h ht
    obtain ⟨⟨⟨p1, p2, p3⟩, ⟨q1, q2, q3⟩, ⟨s1, s2, s3, s4, s5, s6, s7⟩, l1, l2⟩, hX, hT, zb_hO, hOM, hD⟩ := h
    refine ⟨0, C, R, ?_, ?_, ⟨⟨⟨p1, p2, p3⟩, ⟨q1, q2, q3⟩, ⟨s1, s2, s3, s4, s5, s6, s7⟩, l1, l2⟩, hX, hT, zb_hO, hOM, hD⟩, fun i hi => by omega, fun _ _ => rfl, fun _ _ => rfl, Nat.le_refl _, fun _ _ => rfl⟩
    · refine lp_inr ?_
      unfold fn_40_0
      rw [l1, if_pos (by decide)]
    · refine lp_inr ?_
      unfold fn_167_0
      rw [l2, if_pos (by decide)]
  | succ k ih =>
    intro C R n F S a D E op h ht
    have h0 := h
    obtain ⟨⟨⟨p1, p2, p3⟩, ⟨q1, q2, q3⟩, ⟨s1, s2, s3, s4, s5, s6, s7⟩, l1, l2⟩, hX, hT, zb_hO, hOM, hD⟩ := h
    obtain ⟨o1, o2, o3, o4, o5⟩ := hOM k (by omega)
    obtain ⟨v1, v2, v3, v4⟩ := zb_hO.2 k (by omega)
    have hk30 := zb_hO.1
    rcases o4 with o4 | o4
    · refine ⟨k + 1, C, R, ?_, ?_, h0, fun i hi ht1 => ?_, fun _ _ => rfl, fun _ _ => rfl, Nat.le_refl _, fun _ _ => rfl⟩
      · refine lp_inr ?_
        unfold fn_40_0
        rw [l1, if_neg (by omega), zb_wi_m1 (by omega) (by omega), if_pos (by omega), if_pos (by exact o4)]
      · refine lp_inr ?_
        unfold fn_167_0
        rw [l2, if_neg (by omega), zb_wi_m1 (by omega) (by omega), if_pos (by omega), if_pos (by exact o3.symm.trans o4)]
      · have := ht i hi ht1
        by_cases hq : i + 1 = k + 1
        · have hik : i = k := by omega
          subst hik
          rw [← o3, o4] at ht1
          exact absurd ht1 (by decide)
        · rw [if_neg hq]; exact this
    · have hc : fn_40_0 C = some (.inl (eg_u (eg_u C 7 9 (k : Int)) 5 (op k) (S : Int))) := by
        unfold fn_40_0
        rw [l1, if_neg (by omega), zb_wi_m1 (by omega) (by omega), if_pos (by omega), if_neg (by show ¬ C 11 k = 0; omega)]
        show (if 0 ≤ C 10 k ∧ C 10 k < 20000 then some (Sum.inl (eg_u (eg_u C 7 9 (k : Int)) 5 (C 10 k).toNat (C 1 6))) else none) = _
        rw [o1, s1, if_pos (by omega)]
        rfl
      have hr : fn_167_0 R = some (.inl (eg_u R 45 18 (k : Int))) := by
        unfold fn_167_0
        rw [l2, if_neg (by omega), zb_wi_m1 (by omega) (by omega), if_pos (by omega), if_neg (by show ¬ R 58 k = 0; omega)]
        show (if 0 ≤ R 57 k ∧ R 57 k < 20100 then if ¬ R 55 (R 57 k).toNat = 2 then some (Sum.inr R) else some (Sum.inl (eg_u R 45 18 (k : Int))) else none) = _
        rw [o2, if_pos (by omega), if_neg (by show ¬ ¬ R 55 (op k) = 2; have := ht k (by omega) (by omega); omega)]
      have hD' : zb_DM (eg_u (eg_u C 7 9 (k : Int)) 5 (op k) (S : Int)) (eg_u R 45 18 (k : Int)) F S k D E op := by
        intro c hc1 hc2
        obtain ⟨d1, d2, d3, d4, d5, d6, d7⟩ := hD c hc1 hc2
        refine ⟨d1, d2, fun ho => ?_, d4, d5, d6, d7⟩
        by_cases hq : c = op k
        · subst hq
          rw [v4]; simp [eg_u]
        · rw [← d3 (fun i hi => ?_)]
          · simp [eg_u, hq]
          · by_cases hik : i = k
            · subst hik; exact fun z => hq z.symm
            · exact ho i (by omega)
      have hrs : zb_RS (eg_u (eg_u C 7 9 (k : Int)) 5 (op k) (S : Int)) (eg_u R 45 18 (k : Int)) n F S k a D E op :=
        ⟨⟨⟨p1, p2, p3⟩, ⟨q1, q2, q3⟩, ⟨s1, s2, s3, s4, s5, s6, s7⟩, rfl, rfl⟩, hX, hT, ⟨by omega, fun i hi => zb_hO.2 i (by omega)⟩, fun i hi => hOM i (by omega), hD'⟩
      obtain ⟨lv', C', R', g1, g2, g3, g4, g5, g6, g7, g8⟩ := ih hrs (fun i hi h1 => ht i (by omega) h1)
      refine ⟨lv', C', R', (lp_inl hc).trans g1, (lp_inl hr).trans g2, g3, g4, fun f hf => ?_, fun f hf => ?_, by omega, fun c hc => ?_⟩
      · rw [g5 f hf]; simp [eg_u, hf]
      · rw [g6 f hf]; simp [eg_u, hf]
      · rw [g8 c hc]
        have : c ≠ op k := by omega
        simp [eg_u, this]
def zb_BL (C0 R0 C R : eM) (F : Nat) : Prop := ∀ c, c < F → (C 4 c = C0 4 c ∧ C 5 c = C0 5 c ∧ C 6 c = C0 6 c) ∧ (R 49 c = R0 49 c ∧ R 50 c = R0 50 c ∧ R 51 c = R0 51 c ∧ R 52 c = R0 52 c ∧ R 53 c = R0 53 c ∧ R 54 c = R0 54 c ∧ R 55 c = R0 55 c ∧ R 56 c = R0 56 c)
def zb_VK (C R : eM) (F S N : Nat) : Prop := ∀ c, F ≤ c → c < S → zb_vk (C 4 c) (R 49 c) (R 50 c) N
def zb_NM (C R : eM) (N : Nat) (L B : Nat → Nat) : Prop := (C 1 2 = (N : Int) ∧ R 45 7 = (N : Int) ∧ 44 ≤ N ∧ N ≤ 444) ∧ (B 0 = 0) ∧ (∀ k, k ≤ N → R 48 k = (B k : Int) ∧ B k ≤ 20 * k) ∧ (∀ k, k < N → C 3 k = (L k : Int) ∧ L k ≤ 20 ∧ B (k + 1) = B k + L k ∧ ∀ i, i < L k → C 2 (20 * k + i) = R 47 (B k + i) ∧ 0 ≤ R 47 (B k + i) ∧ R 47 (B k + i) < 128)
def zb_STT (C0 R0 C R : eM) (n F S zb_lv a : Nat) (D E op : Nat → Nat) (N : Nat) (L B : Nat → Nat) : Prop :=
  zb_RS C R n F S zb_lv a D E op ∧ zb_BL C0 R0 C R F ∧ zb_VK C R F S N ∧ zb_NM C R N L B ∧ (C 7 4 = 0 ∧ C 7 5 = -1 ∧ R 45 2 = -1)
theorem zb_BL_add {C0 R0 C R R' : eM} {n F S zb_lv a : Nat} {D E op : Nat → Nat} (h : zb_RS C R n F S zb_lv a D E op) (hB : zb_BL C0 R0 C R F) {zb_cv rk zb_rv e : Int} (hA : zb_AR R R' S zb_lv (op (zb_lv - 1)) (if zb_lv = 0 then R 45 22 else R 52 (op (zb_lv - 1))) rk zb_rv e) : zb_BL C0 R0 (zb_AC C F S zb_lv zb_cv e) R' F := by
  obtain ⟨⟨⟨p1, p2, p3⟩, ⟨q1, q2, q3⟩, ⟨s1, s2, s3, s4, s5, s6, s7⟩, l1, l2⟩, hX, hT, zb_hO, hOM, hD⟩ := h
  have hBF := zb_TR_bf hT zb_hO (bf := if zb_lv = 0 then R 45 22 else R 52 (op (zb_lv - 1))) rfl
  obtain ⟨a53, a54, a51, a52, a55, a21, a22, a49, a50, a56, a16, a45, aF⟩ := hA
  intro c hc
  have hcS : c ≠ S := by omega
  have hcb : ¬ (c : Int) = (if zb_lv = 0 then R 45 22 else R 52 (op (zb_lv - 1))) := by
    rcases hBF with ⟨hb, _⟩ | ⟨l, hb, b1, _⟩
    · rw [hb]; omega
    · rw [hb]; omega
  have hco : ¬ (0 < zb_lv ∧ c = op (zb_lv - 1)) := by
    rintro ⟨z1, z2⟩
    have := (zb_hO.2 (zb_lv - 1) (by omega)).1
    omega
  obtain ⟨⟨x1, x2, x3⟩, y1, y2, y3, y4, y5, y6, y7, y8⟩ := hB c hc
  refine ⟨⟨?_, ?_, ?_⟩, ?_, ?_, ?_, ?_, ?_, ?_, ?_, ?_⟩
  · rw [← x1]; simp [zb_AC, eg_u, hcS]
  · rw [← x2]; simp [zb_AC, eg_u, hcS]
  · rw [← x3]; simp [zb_AC, eg_u, hcS]
  · rw [a49, if_neg hcS]; exact y1
  · rw [a50, if_neg hcS]; exact y2
  · rw [a51, if_neg hcS, if_neg (fun z => hco ⟨z.1, z.2.1⟩)]; exact y3
  · rw [a52, if_neg hcS, if_neg hco]; exact y4
  · rw [a53, if_neg hcS, if_neg hcb]; exact y5
  · rw [a54, if_neg hcS]; exact y6
  · rw [a55, if_neg hcS, if_neg hco]; exact y7
  · rw [a56, if_neg hcS]; exact y8
theorem zb_NM_add {C R R' : eM} {N F S zb_lv ol : Nat} {L B : Nat → Nat} (h : zb_NM C R N L B) {bf zb_cv rk zb_rv e : Int} (hA : zb_AR R R' S zb_lv ol bf rk zb_rv e) : zb_NM (zb_AC C F S zb_lv zb_cv e) R' N L B := by
  obtain ⟨a53, a54, a51, a52, a55, a21, a22, a49, a50, a56, a16, a45, aF⟩ := hA
  obtain ⟨⟨h1, h2, h3, h4⟩, h5, h6, h7⟩ := h
  have x47 : R' 47 = R 47 := aF 47 (by decide)
  have x48 : R' 48 = R 48 := aF 48 (by decide)
  refine ⟨⟨h1, by rw [a45 7 (by decide) (by decide) (by decide)]; exact h2, h3, h4⟩, h5, ?_, ?_⟩
  · rw [x48]; exact h6
  · rw [x47]; exact h7
def zb_isL (l : Int) : Prop := (97 ≤ l ∧ l ≤ 122) ∨ (48 ≤ l ∧ l ≤ 57) ∨ l = 33 ∨ l = 63 ∨ l = 42 ∨ l = 43 ∨ l = 45 ∨ l = 47 ∨ l = 60 ∨ l = 61 ∨ l = 62
theorem zb_f43 {C : eM} {i : Nat} (h : i < 3000) : fn_43 (i : Int) C = some (if 48 ≤ C 8 i ∧ C 8 i ≤ 57 then 1 else 0) := by
  unfold fn_43
  rw [if_pos (by omega), Int.toNat_natCast]
  by_cases h1 : C 8 i < 48
  · rw [if_pos h1, if_neg (by omega)]
  · rw [if_neg h1]
    by_cases h2 : 57 < C 8 i
    · rw [if_pos h2, if_neg (by omega)]
    · rw [if_neg h2, if_pos (by omega)]
theorem zb_ite_ex {α : Type} {c : Prop} {dc : Decidable c} {A B : Option α} {P : α → Prop} (h1 : c → ∃ b, A = some b ∧ P b) (h2 : ¬ c → ∃ b, B = some b ∧ P b) : ∃ b, (@ite _ c dc A B) = some b ∧ P b := by
  by_cases h : c
  · rw [if_pos h]; exact h1 h
  · rw [if_neg h]; exact h2 h
theorem zb_f42 {C : eM} {i n : Nat} (hn : C 7 6 = (n : Int)) (hn2 : n ≤ 3000) : ∃ b : Int, fn_42 (i : Int) C = some b ∧ ((b = 1 ∧ i < n ∧ zb_isL (C 8 i)) ∨ (b = 0 ∧ ¬ (i < n ∧ zb_isL (C 8 i)))) := by
  unfold fn_42
  rw [hn]
  by_cases hi : i < n
  · rw [if_pos (by omega), if_pos (by omega), Int.toNat_natCast]
    unfold fn_42_17
    rw [zb_f43 (by omega), Option.bind_some]
    unfold zb_isL
    generalize C 8 i = l
    have h48 : (¬ (if 48 ≤ l ∧ l ≤ 57 then (1 : Int) else 0) = 0) = (48 ≤ l ∧ l ≤ 57) := by
      by_cases h : 48 ≤ l ∧ l ≤ 57
      · rw [if_pos h]; simp [h]
      · rw [if_neg h]; simp [h]
    simp only [h48]
    clear h48 hn
    repeat' (refine zb_ite_ex (fun _ => ?_) (fun _ => ?_))
    all_goals first | exact ⟨1, rfl, Or.inl ⟨rfl, hi, by omega⟩⟩ | exact ⟨0, rfl, Or.inr ⟨rfl, by omega⟩⟩
  · rw [if_neg (by omega)]; exact ⟨0, rfl, Or.inr ⟨rfl, fun z => hi z.1⟩⟩
theorem zb_f166 {R : eM} {c : Int} : ∃ b : Int, fn_166 c R = some b ∧ ((b = 1 ∧ zb_isL c) ∨ (b = 0 ∧ ¬ zb_isL c)) := by
  unfold fn_166 fn_166_6 fn_166_12 zb_isL
  repeat' (refine zb_ite_ex (fun _ => ?_) (fun _ => ?_))
  all_goals first | exact ⟨1, rfl, Or.inl ⟨rfl, by omega⟩⟩ | exact ⟨0, rfl, Or.inr ⟨rfl, by omega⟩⟩
theorem zb_isL_mod {l : Int} (h : -128 ≤ l ∧ l < 128) : zb_isL (l % 256) ↔ zb_isL l := by unfold zb_isL; omega
theorem zb_isL_neg : ¬ zb_isL (-1) := by unfold zb_isL; omega
theorem zb_f165 {R : eM} {a n : Nat} (h1 : R 45 3 = (a : Int)) (h2 : R 45 4 = (n : Int)) (hn : n ≤ 3000) : fn_165 R = some (if a < n then R 46 a else -1) := by
  unfold fn_165
  rw [h1, h2]
  by_cases h : a < n
  · rw [if_neg (by omega), if_pos (by omega), if_pos h, Int.toNat_natCast]
  · rw [if_pos (by omega), if_neg h]
def zb_GD (C0 R0 C' R' : eM) (n F a N : Nat) : Prop := ∃ (S' lv' a' : Nat) (D' E' op' : Nat → Nat) (N' : Nat) (L' B' : Nat → Nat), zb_STT C0 R0 C' R' n F S' lv' a' D' E' op' N' L' B' ∧ zb_TK R' lv' op' ∧ a < a' ∧ N ≤ N'
def zb_FL (C0 R0 C' R' : eM) (F N : Nat) (f : Int) : Prop := (f = 1 ∨ f = 2) ∧ C' 7 4 = f ∧ (R' 45 2 = C' 7 5 ∧ 0 ≤ C' 7 5) ∧ zb_BL C0 R0 C' R' F ∧ ∃ (N' : Nat) (L' B' : Nat → Nat), zb_NM C' R' N' L' B' ∧ N ≤ N'
def zb_TOK (C0 R0 : eM) (n F a N : Nat) (C' R' : eM) (f : Int) : Prop := (f = 0 ∧ zb_GD C0 R0 C' R' n F a N) ∨ zb_FL C0 R0 C' R' F N f
theorem zb_tok_fail {C0 R0 C R : eM} {n F a N : Nat} {L B : Nat → Nat} {f : Int} {p : Int} (hf : f = 1 ∨ f = 2) (hB : zb_BL C0 R0 C R F) (hN : zb_NM C R N L B) (hp : 0 ≤ p := by omega) : zb_TOK C0 R0 n F a N (eg_u (eg_u C 7 4 f) 7 5 p) (eg_u R 45 2 p) f :=
  Or.inr ⟨hf, rfl, ⟨rfl, hp⟩, hB, N, L, B, hN, Nat.le_refl _⟩
theorem zb_RS_at {C R : eM} {n F S zb_lv a a' : Nat} {D E op : Nat → Nat} (h : zb_RS C R n F S zb_lv a D E op) (h2 : a' ≤ n) : zb_RS (eg_u C 7 7 (a' : Int)) (eg_u R 45 3 (a' : Int)) n F S zb_lv a' D E op := by
  obtain ⟨⟨⟨p1, p2, p3⟩, ⟨q1, q2, q3⟩, ⟨s1, s2, s3, s4, s5, s6, s7⟩, l1, l2⟩, hX, hT, zb_hO, hOM, hD⟩ := h
  exact ⟨⟨⟨p1, p2, p3⟩, ⟨rfl, rfl, h2⟩, ⟨s1, s2, s3, s4, s5, s6, s7⟩, l1, l2⟩, hX, hT, zb_hO, hOM, hD⟩
theorem zb_STT_at {C0 R0 C R : eM} {n F S zb_lv a a' N : Nat} {D E op L B : Nat → Nat} (h : zb_STT C0 R0 C R n F S zb_lv a D E op N L B) (h2 : a' ≤ n) : zb_STT C0 R0 (eg_u C 7 7 (a' : Int)) (eg_u R 45 3 (a' : Int)) n F S zb_lv a' D E op N L B :=
  ⟨zb_RS_at h.1 h2, h.2.1, h.2.2.1, h.2.2.2.1, h.2.2.2.2⟩
def zb_OA (op : Nat → Nat) (zb_lv S : Nat) : Nat → Nat := fun i => if i = zb_lv then S else op i
theorem zb_RS_open {C R : eM} {n F S zb_lv a : Nat} {D E op : Nat → Nat} {t : Int} (h : zb_RS C R n F (S + 1) zb_lv a D E op) (h30 : zb_lv < 30) (hFS : F ≤ S) (hD : D S = zb_lv) (zb_hE : E S = S + 1) (h49 : R 49 S = 4) (ht : t = 0 ∨ t = 1) :
    zb_RS (eg_u (eg_u (eg_u C 10 zb_lv (S : Int)) 11 zb_lv t) 7 9 ((zb_lv + 1 : Nat) : Int)) (eg_u (eg_u (eg_u R 57 zb_lv (S : Int)) 58 zb_lv t) 45 18 ((zb_lv + 1 : Nat) : Int)) n F (S + 1) (zb_lv + 1) a D E (zb_OA op zb_lv S) := by
  obtain ⟨⟨⟨p1, p2, p3⟩, ⟨q1, q2, q3⟩, ⟨s1, s2, s3, s4, s5, s6, s7⟩, l1, l2⟩, hX, hT, zb_hO, hOM, hDM⟩ := h
  have ho1 : zb_OA op zb_lv S zb_lv = S := if_pos rfl
  have ho2 : ∀ i, i < zb_lv → zb_OA op zb_lv S i = op i := fun i hi => if_neg (by omega)
  refine ⟨⟨⟨p1, p2, p3⟩, ⟨q1, q2, q3⟩, ⟨s1, s2, s3, s4, s5, s6, s7⟩, rfl, rfl⟩, hX, hT, ⟨by omega, fun i hi => ?_⟩, fun i hi => ?_, fun c hc1 hc2 => ?_⟩
  · by_cases hq : i = zb_lv
    · subst hq; rw [ho1]; exact ⟨hFS, by omega, hD, zb_hE⟩
    · rw [ho2 i (by omega)]; exact zb_hO.2 i (by omega)
  · by_cases hq : i = zb_lv
    · subst hq; rw [ho1]
      refine ⟨?_, ?_, ?_, ?_, h49⟩
      · simp [eg_u]
      · simp [eg_u]
      · simp [eg_u]
      · simp [eg_u]; exact ht
    · rw [ho2 i (by omega)]
      obtain ⟨o1, o2, o3, o4, o5⟩ := hOM i (by omega)
      refine ⟨?_, ?_, ?_, ?_, o5⟩
      · simp [eg_u, hq]; exact o1
      · simp [eg_u, hq]; exact o2
      · simp [eg_u, hq]; exact o3
      · simp [eg_u, hq]; exact o4
  · obtain ⟨d1, d2, d3, d4, d5, d6, d7⟩ := hDM c hc1 hc2
    exact ⟨d1, d2, fun ho => d3 (fun i hi => by have := ho i (by omega); rw [ho2 i hi] at this; exact this), d4, d5, d6, d7⟩
theorem zb_TK_add {R R' : eM} {S zb_lv : Nat} {op : Nat → Nat} {bf rk zb_rv e : Int} (hA : zb_AR R R' S zb_lv (op (zb_lv - 1)) bf rk zb_rv e) (ht : zb_TK R zb_lv op) (zb_hS : ∀ i, i < zb_lv → op i < S) (hinj : ∀ i, i < zb_lv → op i = op (zb_lv - 1) → i = zb_lv - 1) : zb_TK2 R' zb_lv op := by
  obtain ⟨a53, a54, a51, a52, a55, a21, a22, a49, a50, a56, a16, a45, aF⟩ := hA
  intro i hi h1
  have x58 : R' 58 = R 58 := aF 58 (by decide)
  rw [x58] at h1
  have hti := ht i hi h1
  have hSi := zb_hS i hi
  rw [a55, if_neg (by omega)]
  by_cases hq : i + 1 = zb_lv
  · rw [if_pos hq] at hti
    have : i = zb_lv - 1 := by omega
    subst this
    rw [if_pos ⟨by omega, rfl⟩, hti]; decide
  · rw [if_neg hq] at hti
    rw [if_neg (fun z => by have := hinj i hi z.2; omega)]; exact hti
theorem zb_OP_inj {F S zb_lv : Nat} {D E op : Nat → Nat} (zb_hO : zb_OP F S zb_lv D E op) : ∀ i, i < zb_lv → op i = op (zb_lv - 1) → i = zb_lv - 1 := by
  intro i hi h
  have h1 := (zb_hO.2 i hi).2.2.1
  have h2 := (zb_hO.2 (zb_lv - 1) (by omega)).2.2.1
  rw [h, h2] at h1; omega
theorem zb_VK_add {C R R' : eM} {F S zb_lv ol N : Nat} {bf zb_cv rk zb_rv e : Int} (hA : zb_AR R R' S zb_lv ol bf rk zb_rv e) (hV : zb_VK C R F S N) : zb_VK (zb_AC C F S zb_lv zb_cv e) R' F S N := by
  obtain ⟨a53, a54, a51, a52, a55, a21, a22, a49, a50, a56, a16, a45, aF⟩ := hA
  intro c hc1 hc2
  have := hV c hc1 hc2
  rw [a49, a50, if_neg (by omega), if_neg (by omega)]
  have e : zb_AC C F S zb_lv zb_cv e 4 c = C 4 c := by
    have : c ≠ S := by omega
    simp [zb_AC, eg_u, this]
  rw [e]; exact this
theorem zb_VK_snoc {C R : eM} {F S N : Nat} (hV : zb_VK C R F S N) (h : zb_vk (C 4 S) (R 49 S) (R 50 S) N) : zb_VK C R F (S + 1) N := by
  intro c hc1 hc2
  by_cases hq : c = S
  · subst hq; exact h
  · exact hV c hc1 (by omega)
theorem zb_AC_4 {C : eM} {F S zb_lv : Nat} {zb_cv e : Int} : zb_AC C F S zb_lv zb_cv e 4 S = zb_cv := by simp [zb_AC, eg_u]
theorem zb_STT_add {C0 R0 C R : eM} {n F S zb_lv a N : Nat} {D E op L B : Nat → Nat} (h : zb_STT C0 R0 C R n F S zb_lv a D E op N L B) (ht : zb_TK R zb_lv op) (zb_room : S < F + 2000 ∧ S < 20000) {zb_cv rk zb_rv e : Int} (hrk : 0 ≤ rk ∧ rk ≤ 4) (he : 0 ≤ e ∧ e < 3000) (hv : zb_vk zb_cv rk zb_rv N) :
    ∃ R', fn_36 zb_cv e C = some (1, zb_AC C F S zb_lv zb_cv e) ∧ fn_163 rk zb_rv e R = some (0, R') ∧ zb_STT C0 R0 (zb_AC C F S zb_lv zb_cv e) R' n F (S + 1) zb_lv a (zb_DA D S zb_lv) (zb_EA D E F S zb_lv) op N L B ∧ zb_TK2 R' zb_lv op ∧ R' 49 S = rk ∧ R' 55 S = 0 ∧ R' 58 = R 58 := by
  obtain ⟨hR, hB, hV, hN, f1, f2, f3⟩ := h
  obtain ⟨R', g1, g2, g3, g4⟩ := zb_add_ok (zb_cv := zb_cv) (zb_rv := zb_rv) hR zb_room hrk he
  have zb_hO := hR.2.2.2.1
  have hT2 := zb_TK_add g3 ht (fun i hi => (zb_hO.2 i hi).2.1) (zb_OP_inj zb_hO)
  have e49 : R' 49 S = rk := by rw [g3.2.2.2.2.2.2.2.1, if_pos rfl]
  have e50 : R' 50 S = zb_rv := by rw [g3.2.2.2.2.2.2.2.2.1, if_pos rfl]
  have e55 : R' 55 S = 0 := by rw [g3.2.2.2.2.1, if_pos rfl]
  refine ⟨R', g1, g2, ⟨g4, zb_BL_add hR hB g3, zb_VK_snoc (zb_VK_add g3 hV) (by rw [zb_AC_4, e49, e50]; exact hv), zb_NM_add hN g3, f1, f2, ?_⟩, hT2, e49, e55, g3.2.2.2.2.2.2.2.2.2.2.2.2 58 (by decide)⟩
  rw [g3.2.2.2.2.2.2.2.2.2.2.2.1 2 (by decide) (by decide) (by decide)]; exact f3
