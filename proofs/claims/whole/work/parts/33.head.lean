/-! FUNCTIONS OF THE MEMORY: loops as least fixed points, and how a function's value gives the pure machine's run -/
abbrev eM : Type := Nat → Nat → Int
def lpN {S R : Type} (c : S → Option (S ⊕ R)) : Nat → S → Option R
  | 0, _ => none
  | n + 1, s => match c s with
    | none => none
    | some (.inl s') => lpN c n s'
    | some (.inr r) => some r
noncomputable def lp {S R : Type} (c : S → Option (S ⊕ R)) (s : S) : Option R := @dite _ (∃ r n, lpN c n s = some r) (Classical.propDecidable _) (fun h => some h.choose) (fun _ => none)
theorem lpN_more {S R : Type} {c : S → Option (S ⊕ R)} : ∀ {n : Nat} {s : S} {r : R}, lpN c n s = some r → ∀ k, lpN c (n + k) s = some r := by
  intro n
  induction n with
  | zero => intro s r h; cases h
  | succ n ih =>
    intro s r h k
    rw [Nat.add_right_comm]
    unfold lpN at h ⊢
    cases hc : c s with
    | none => rw [hc] at h; cases h
    | some x =>
      cases x with
      | inl s' => rw [hc] at h; exact ih h k
      | inr r' => rw [hc] at h; exact h
theorem lpN_same {S R : Type} {c : S → Option (S ⊕ R)} {n m : Nat} {s : S} {r t : R} (h1 : lpN c n s = some r) (h2 : lpN c m s = some t) : r = t := by
  have e1 := lpN_more h1 m
  have e2 := lpN_more h2 n
  rw [Nat.add_comm] at e2
  exact Option.some.inj (e1.symm.trans e2)
theorem lp_ex {S R : Type} {c : S → Option (S ⊕ R)} {s : S} {r : R} (h : lp c s = some r) : ∃ n, lpN c n s = some r := by
  unfold lp at h
  by_cases hx : ∃ r n, lpN c n s = some r
  · rw [dif_pos hx] at h
    have e := hx.choose_spec
    rw [Option.some.inj h] at e
    exact e
  · rw [dif_neg hx] at h
    cases h
theorem lp_some {S R : Type} {c : S → Option (S ⊕ R)} {s : S} {r : R} {n : Nat} (h : lpN c n s = some r) : lp c s = some r := by
  unfold lp
  have hx : ∃ r n, lpN c n s = some r := ⟨r, n, h⟩
  rw [dif_pos hx]
  obtain ⟨m, hm⟩ := hx.choose_spec
  rw [lpN_same hm h]
theorem lp_inr {S R : Type} {c : S → Option (S ⊕ R)} {s : S} {r : R} (h : c s = some (.inr r)) : lp c s = some r := by
  refine lp_some (n := 1) ?_
  unfold lpN
  rw [h]
theorem lp_inl {S R : Type} {c : S → Option (S ⊕ R)} {s s' : S} (h : c s = some (.inl s')) : lp c s = lp c s' := by
  cases hr : lp c s' with
  | some r =>
    obtain ⟨n, hn⟩ := lp_ex hr
    refine lp_some (n := n + 1) ?_
    unfold lpN
    rw [h]
    exact hn
  | none =>
    cases hs : lp c s with
    | none => rfl
    | some r =>
      obtain ⟨n, hn⟩ := lp_ex hs
      cases n with
      | zero => cases hn
      | succ n =>
        unfold lpN at hn
        rw [h] at hn
        have := lp_some hn
        rw [hr] at this
        cases this
theorem lp_sound {S R : Type} {c : S → Option (S ⊕ R)} {P : S → Prop} {K : R → Prop} {s : S} {r : R} (hx : lp c s = some r) (hK : K r) (hs : ∀ s x, c s = some x → (match x with | .inl s' => P s' | .inr r => K r) → P s) : P s := by
  obtain ⟨n, hn⟩ := lp_ex hx
  clear hx
  revert s
  induction n with
  | zero => intro s hn; cases hn
  | succ n ih =>
    intro s hn
    unfold lpN at hn
    cases hc : c s with
    | none => rw [hc] at hn; cases hn
    | some x =>
      cases x with
      | inl s' => rw [hc] at hn; exact hs s _ hc (ih hn)
      | inr r' =>
        rw [hc] at hn
        have e := Option.some.inj hn
        exact hs s _ hc (by rw [e]; exact hK)
theorem lp2_inl {A B R : Type} {c : A → B → Option ((A × B) ⊕ R)} {a a' : A} {b b' : B} (h : c a b = some (.inl (a', b'))) : lp (fun s : A × B => c s.1 s.2) (a, b) = lp (fun s : A × B => c s.1 s.2) (a', b') := lp_inl h
theorem lp2_inr {A B R : Type} {c : A → B → Option ((A × B) ⊕ R)} {a : A} {b : B} {r : R} (h : c a b = some (.inr r)) : lp (fun s : A × B => c s.1 s.2) (a, b) = some r := lp_inr h
theorem lp3_inl {A B D R : Type} {c : A → B → D → Option ((A × B × D) ⊕ R)} {a a' : A} {b b' : B} {d d' : D} (h : c a b d = some (.inl (a', b', d'))) : lp (fun s : A × B × D => c s.1 s.2.1 s.2.2) (a, b, d) = lp (fun s : A × B × D => c s.1 s.2.1 s.2.2) (a', b', d') := lp_inl h
theorem lp3_inr {A B D R : Type} {c : A → B → D → Option ((A × B × D) ⊕ R)} {a : A} {b : B} {d : D} {r : R} (h : c a b d = some (.inr r)) : lp (fun s : A × B × D => c s.1 s.2.1 s.2.2) (a, b, d) = some r := lp_inr h
theorem lp_none {S R : Type} {c : S → Option (S ⊕ R)} {s : S} (h : c s = none) : lp c s = none := by
  cases hs : lp c s with
  | none => rfl
  | some r =>
    obtain ⟨n, hn⟩ := lp_ex hs
    cases n with
    | zero => cases hn
    | succ n => unfold lpN at hn; rw [h] at hn; cases hn
theorem lp_map {S R : Type} {c : S → Option (S ⊕ R)} {s : S} {X : Option R} (h : c s = X.map Sum.inr) : lp c s = X := by
  cases X with
  | none => exact lp_none h
  | some r => exact lp_inr h
theorem lp2_map {A B R : Type} {c : A → B → Option ((A × B) ⊕ R)} {a : A} {b : B} {X : Option R} (h : c a b = X.map Sum.inr) : lp (fun s : A × B => c s.1 s.2) (a, b) = X := lp_map h
theorem lp3_map {A B D R : Type} {c : A → B → D → Option ((A × B × D) ⊕ R)} {a : A} {b : B} {d : D} {X : Option R} (h : c a b d = X.map Sum.inr) : lp (fun s : A × B × D => c s.1 s.2.1 s.2.2) (a, b, d) = X := lp_map h
def eK {S R : Type} (P : S → Prop) (K : R → Prop) (x : S ⊕ R) : Prop := match x with
  | .inl s => P s
  | .inr r => K r
def ev_nw (w : Option eg_V) : Option eg_V := match w with
  | some (.inr (.inl _)) => none
  | w => w
theorem vb_if {α : Type} {C : Prop} {dc : Decidable C} {A : Option α} {u : α} (h : (@ite _ C dc A none) = some u) : C ∧ A = some u := by
  by_cases hc : C
  · rw [if_pos hc] at h; exact ⟨hc, h⟩
  · rw [if_neg hc] at h; cases h
theorem vb_ite {α : Type} {C P : Prop} {dc : Decidable C} {A B : Option α} {u : α} (h : (@ite _ C dc A B) = some u) (h1 : C → A = some u → P) (h2 : ¬ C → B = some u → P) : P := by
  by_cases hc : C
  · rw [if_pos hc] at h; exact h1 hc h
  · rw [if_neg hc] at h; exact h2 hc h
theorem vb_bind {α β : Type} {a : Option α} {f : α → Option β} {u : β} (h : a.bind f = some u) : ∃ x, a = some x ∧ f x = some u := by
  cases a with
  | none => cases h
  | some x => exact ⟨x, rfl, h⟩
theorem vb_map {S R : Type} {a : Option R} {u : S ⊕ R} (h : a.map Sum.inr = some u) : ∃ x, a = some x ∧ .inr x = u := by
  cases a with
  | none => cases h
  | some x => exact ⟨x, rfl, Option.some.inj h⟩
theorem vne {c a : Nat} {l : List Nat} (h : c ∉ l) (m : a ∈ l) : c ≠ a := fun e => h (e ▸ m)
theorem vsub {c : Nat} {l l' : List Nat} (h : c ∉ l) (m : ∀ a ∈ l', a ∈ l) : c ∉ l' := fun e => h (m c e)
theorem eg_u_eq {M : eM} {a i : Nat} {v : Int} : eg_u M a i v a i = v := if_pos ⟨rfl, rfl⟩
theorem ev_fil_ne {M : eM} {a i n b : Nat} {v : Int} (hb : b ≠ a) : eg_fil M a i n v b = M b := by
  funext j
  unfold eg_fil
  rw [if_neg (fun z => hb z.1)]
theorem ev_cp_ne {M : eM} {a b sp dp n x : Nat} (hb : x ≠ b) : eg_cp M a b sp dp n x = M x := by
  funext j
  unfold eg_cp
  rw [if_neg (fun z => hb z.1)]
def eb_iand (x y : Int) : Int := (Int32.ofInt x &&& Int32.ofInt y).toInt
def eb_ishr (x y : Int) : Int := (Int32.ofInt x >>> (Int32.ofInt y &&& 31)).toInt
def eb_land (x y : Int) : Int := (Int64.ofInt x &&& Int64.ofInt y).toInt
def eb_lor (x y : Int) : Int := (Int64.ofInt x ||| Int64.ofInt y).toInt
def eb_lshl (x y : Int) : Int := (Int64.ofInt x <<< ((Int32.ofInt y).toInt64 &&& 63)).toInt
def eb_lshr (x y : Int) : Int := (Int64.ofInt x >>> ((Int32.ofInt y).toInt64 &&& 63)).toInt
section EGV
variable {sc : eg_Sc} {call : eg_Ca} {cd : List (Nat × Instr)} {ret : Option FieldType} {mc ms : Nat} {Qr : Option eg_V → eg_H → Prop} {i pc : Nat} {lv : eg_L} {st : List eg_V} {h : eg_H} {c z a b : Nat} {x y : Int} {l : List eg_C} {r : Nat → Nat → Option Nat} {M : eM} {α : Type} {C : Prop} {dc : Decidable C} {A B : Option α} {u : α}
theorem vk_if {k9 : Jvm.ClassFile.Cond} {t : Int} (hq : cd[i]? = some (pc, .ifCond k9 t)) (hx : (@ite _ C dc A B) = some u) (hc : C ↔ eg_c k9 x 0) (h1 : C → A = some u → eg_X sc call cd ret mc ms Qr t.toNat lv st h c z) (h2 : ¬ C → B = some u → eg_X sc call cd ret mc ms Qr (i + 1) lv st h c z) : eg_X sc call cd ret mc ms Qr i lv (.inl x :: st) h c z :=
  vb_ite hx (fun hC hA => eg_k_if hq (fun _ => h1 hC hA) (fun n => absurd (hc.mp hC) n)) (fun hC hB => eg_k_if hq (fun n => absurd (hc.mpr n) hC) (fun _ => h2 hC hB))
theorem vk_icmp {k9 : Jvm.ClassFile.Cond} {t : Int} (hq : cd[i]? = some (pc, .if_icmp k9 t)) (hx : (@ite _ C dc A B) = some u) (hc : C ↔ eg_c k9 x y) (h1 : C → A = some u → eg_X sc call cd ret mc ms Qr t.toNat lv st h c z) (h2 : ¬ C → B = some u → eg_X sc call cd ret mc ms Qr (i + 1) lv st h c z) : eg_X sc call cd ret mc ms Qr i lv (.inl y :: .inl x :: st) h c z :=
  vb_ite hx (fun hC hA => eg_k_icmp hq (fun _ => h1 hC hA) (fun n => absurd (hc.mp hC) n)) (fun hC hB => eg_k_icmp hq (fun n => absurd (hc.mpr n) hC) (fun _ => h2 hC hB))
theorem eg_lc {k9 : Jvm.ClassFile.Cond} : eg_c k9 (if y < x then 1 else if x = y then 0 else -1) 0 ↔ eg_c k9 x y := by
  cases k9 <;> unfold eg_c <;> dsimp only <;> split <;> (try split) <;> omega
theorem vk_lcmp {k9 : Jvm.ClassFile.Cond} {t : Int} {pc2 : Nat} (hq : cd[i]? = some (pc, .lcmp)) (hq2 : cd[i + 1]? = some (pc2, .ifCond k9 t)) (hx : (@ite _ C dc A B) = some u) (hc : C ↔ eg_c k9 x y) (h1 : C → A = some u → eg_X sc call cd ret mc ms Qr t.toNat lv st h c z) (h2 : ¬ C → B = some u → eg_X sc call cd ret mc ms Qr (i + 1 + 1) lv st h c z) : eg_X sc call cd ret mc ms Qr i lv (.inr (.inl y) :: .inr (.inl x) :: st) h c z :=
  eg_k_lcmp hq (vk_if hq2 hx (hc.trans eg_lc.symm) h1 h2)
theorem vb_scp {p : Nat} (hp : p < 34) : eg_sc (1000100 + p) = some 21 := by
  unfold eg_sc
  rw [if_pos (by omega)]
theorem vb_rcp {cn mo p : Nat} (hp : p < 34) : eg_rc (em_L cn mo, eh_R, M) (1000100 + p) = some 21 := by
  unfold eg_rc
  dsimp only
  rw [es_no (Nat.le_of_ble_eq_true rfl) (by omega)]
  exact vb_scp hp
theorem vk_acmpne {t : Int} {p q : Nat} {dq : Decidable (¬ p = q)} (hq : cd[i]? = some (pc, .if_acmp .ne t)) (hx : (@ite _ (¬ p = q) dq A B) = some u) (hp : p < 34) (hq9 : q < 34) (h1 : ¬ p = q → A = some u → eg_X sc call cd ret mc ms Qr t.toNat lv st h c z) (h2 : ¬ ¬ p = q → B = some u → eg_X sc call cd ret mc ms Qr (i + 1) lv st h c z) : eg_X sc call cd ret mc ms Qr i lv (.inr (.inr (some (1000100 + q))) :: .inr (.inr (some (1000100 + p))) :: st) h c z := by
  refine vb_ite hx (fun hC hA => ?_) (fun hC hB => ?_)
  · obtain ⟨n, hn⟩ := h1 hC hA
    exact eg_st1 hq ⟨n, vb_scp hp, vb_scp hq9, fun _ => hn, fun z => absurd (by omega) hC⟩
  · obtain ⟨n, hn⟩ := h2 hC hB
    exact eg_st1 hq ⟨n, vb_scp hp, vb_scp hq9, fun z => absurd (by omega) hC, fun _ => hn⟩
theorem vb_ord {d p : Nat} {Q : Option eg_V → eg_H → Prop} (hp : p < 34) (hQ : Q (some (.inl ((p : Nat) : Int))) h) : eg_wp sc (d + 1) 80 [.inr (.inr (some (1000100 + p)))] h 0 0 Q := by
  refine eg_in (lv := [some (.inr (.inr (some (1000100 + p))))]) eg_tj80 (Nat.le_of_ble_eq_true rfl) rfl ?_
  refine eg_k_aload rfl rfl ?_
  refine eg_k_getx rfl (es_en hp).2.2 ?_
  exact eg_k_iret rfl True.intro (Nat.le_refl _) (Nat.le_refl _) hQ
theorem vk_copy {k n0 n1 : Nat} {ty : FieldType} {n sp dp : Int} (hq : cd[i]? = some (pc, .invokeinterface 3 k)) (ha : l[a]? = some (.inl (ty, n0))) (hb : l[b]? = some (.inl (ty, n1))) (ht : ty = .long ∨ ty = .byte) (hw : eg_wds st ≤ 8) (hh : 0 ≤ sp ∧ 0 ≤ dp ∧ 0 ≤ n ∧ sp + n ≤ (n0 : Int) ∧ dp + n ≤ (n1 : Int)) (hk : eg_X sc call cd ret mc ms Qr (i + 1) lv st (l, r, eg_cp M a b sp.toNat dp.toNat n.toNat) c z) : eg_X sc call cd ret mc ms Qr i lv (.inl n :: .inl dp :: .inr (.inr (some b)) :: .inl sp :: .inr (.inr (some a)) :: st) (l, r, M) c z := by
  obtain ⟨m, hm⟩ := hk
  refine eg_st1 hq ⟨m, ?_⟩
  unfold eg_i
  dsimp only [eg_pi, eg_pr]
  rw [ha, hb]
  exact ⟨ht, rfl, hh.1, hh.2.1, hh.2.2.1, hh.2.2.2.1, hh.2.2.2.2, hw, hm⟩
theorem vk_iald {k : Nat} (hq : cd[i]? = some (pc, .iaload)) (ha : l[a]? = some (.inl (.int, k))) (h0 : 0 ≤ x) (h1 : x < (k : Int)) (hy : M a x.toNat = y) (hk : eg_X sc call cd ret mc ms Qr (i + 1) lv (.inl y :: st) (l, r, M) c z) : eg_X sc call cd ret mc ms Qr i lv (.inl x :: .inr (.inr (some a)) :: st) (l, r, M) c z := by
  subst hy
  exact eg_k_iald hq ha h0 h1 hk
theorem vk_lald {k : Nat} (hq : cd[i]? = some (pc, .laload)) (ha : l[a]? = some (.inl (.long, k))) (h0 : 0 ≤ x) (h1 : x < (k : Int)) (hy : M a x.toNat = y) (hk : eg_X sc call cd ret mc ms Qr (i + 1) lv (.inr (.inl y) :: st) (l, r, M) c z) : eg_X sc call cd ret mc ms Qr i lv (.inl x :: .inr (.inr (some a)) :: st) (l, r, M) c z := by
  subst hy
  exact eg_k_lald hq ha h0 h1 hk
theorem vk_bald {k : Nat} (hq : cd[i]? = some (pc, .baload)) (ha : l[a]? = some (.inl (.byte, k))) (h0 : 0 ≤ x) (h1 : x < (k : Int)) (hy : M a x.toNat = y) (hk : eg_X sc call cd ret mc ms Qr (i + 1) lv (.inl y :: st) (l, r, M) c z) : eg_X sc call cd ret mc ms Qr i lv (.inl x :: .inr (.inr (some a)) :: st) (l, r, M) c z := by
  subst hy
  exact eg_k_bald hq ha h0 h1 hk
theorem vk_zald {k : Nat} (hq : cd[i]? = some (pc, .baload)) (ha : l[a]? = some (.inl (.boolean, k))) (h0 : 0 ≤ x) (h1 : x < (k : Int)) (hy : M a x.toNat = y) (hk : eg_X sc call cd ret mc ms Qr (i + 1) lv (.inl y :: st) (l, r, M) c z) : eg_X sc call cd ret mc ms Qr i lv (.inl x :: .inr (.inr (some a)) :: st) (l, r, M) c z := by
  subst hy
  exact eg_k_zald hq ha h0 h1 hk
theorem vk_sald {k : Nat} (hq : cd[i]? = some (pc, .saload)) (ha : l[a]? = some (.inl (.short, k))) (h0 : 0 ≤ x) (h1 : x < (k : Int)) (hy : M a x.toNat = y) (hk : eg_X sc call cd ret mc ms Qr (i + 1) lv (.inl y :: st) (l, r, M) c z) : eg_X sc call cd ret mc ms Qr i lv (.inl x :: .inr (.inr (some a)) :: st) (l, r, M) c z := by
  subst hy
  exact eg_k_sald hq ha h0 h1 hk
end EGV
