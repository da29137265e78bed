/-! THE WORLD: the pure machine's memory beside the heap -/
def eg_ev (ad : Nat → Nat) (vq : Value) (v : eg_V) : Value := match v with
  | .inl x => .int (Int32.ofInt x)
  | .inr (.inl x) => .long (Int64.ofInt x)
  | .inr (.inr (some k)) => .ref (ad k)
  | .inr (.inr none) => vq
def eg_rg (ty : FieldType) (x : Int) : Prop := match ty with
  | .byte => -128 ≤ x ∧ x < 128
  | .short => -32768 ≤ x ∧ x < 32768
  | .boolean => 0 ≤ x ∧ x < 2
  | .int => -2147483648 ≤ x ∧ x < 2147483648
  | .long => -9223372036854775808 ≤ x ∧ x < 9223372036854775808
  | _ => True
def eg_okV (n : Nat) (v : eg_V) : Prop := match v with
  | .inl x => -2147483648 ≤ x ∧ x < 2147483648
  | .inr (.inl x) => -9223372036854775808 ≤ x ∧ x < 9223372036854775808
  | .inr (.inr (some k)) => k < n ∨ 1000000 ≤ k
  | .inr (.inr none) => True
def eg_okH (h : eg_H) : Prop := (∀ (a : Nat) (ty : FieldType) (n : Nat), h.1[a]? = some (.inl (ty, n)) → eg_aok ty = true ∧ n < 2147483648 ∧ ∀ k, eg_rg ty (h.2.2 a k)) ∧
  (∀ (a ci : Nat), h.1[a]? = some (.inr ci) → ∀ k, k < eg_nf ci → eg_rg (eg_fty (1000 * ci + k)) (h.2.2 a k)) ∧ (∀ (a k b : Nat), h.2.1 a k = some b → b < h.1.length ∨ 1000000 ≤ b) ∧ h.1.length ≤ 1000000
def eg_fv (ad : Nat → Nat) (ty : FieldType) (r : Option Nat) (x : Int) : Value := match ty with
  | .long => .long (Int64.ofInt x)
  | .object _ => va_rf (r.map ad)
  | .array _ => va_rf (r.map ad)
  | _ => .int (Int32.ofInt x)
def eg_ar (ty : FieldType) (n : Nat) (f : Nat → Int) : vp_A := match ty with
  | .long => (n, .inr (.inl (fun i => Int64.ofInt (f i))))
  | _ => (n, .inl (fun i => Int32.ofInt (f i)))
def eg_e (ad : Nat → Nat) (cA : Nat → ClassId) (h : eg_H) (a : Nat) (sh : eg_C) : va_E := match sh with
  | .inl q => .inl (cA a, eg_ar q.1 q.2 (h.2.2 a))
  | .inr ci => .inr (ci, (List.range (eg_nf ci)).map (fun k => eg_fv ad (eg_fty (1000 * ci + k)) (h.2.1 a k) (h.2.2 a k)))
def eg_w (ad : Nat → Nat) (cA : Nat → ClassId) (h : eg_H) : va_W := h.1.mapIdx (fun a sh => (ad a, eg_e ad cA h a sh))
theorem eg_w_at {ad : Nat → Nat} {cA : Nat → ClassId} {h : eg_H} {a : Nat} {sh : eg_C} (hk : h.1[a]? = some sh) : (eg_w ad cA h)[a]? = some (ad a, eg_e ad cA h a sh) := by
  unfold eg_w
  rw [List.getElem?_mapIdx, hk]
  rfl
theorem eg_w_len (ad : Nat → Nat) (cA : Nat → ClassId) (h : eg_H) : (eg_w ad cA h).length = h.1.length := by unfold eg_w; rw [List.length_mapIdx]
theorem eg_w_set {ad : Nat → Nat} {cA : Nat → ClassId} {h h' : eg_H} {a : Nat} {sh : eg_C} (hl : h'.1 = h.1) (ha : h.1[a]? = some sh) (he : ∀ (b : Nat) (x : eg_C), b ≠ a → eg_e ad cA h' b x = eg_e ad cA h b x) : eg_w ad cA h' = (eg_w ad cA h).set a (ad a, eg_e ad cA h' a sh) := by
  have hlt : a < h.1.length := (List.getElem?_eq_some_iff.mp ha).1
  apply List.ext_getElem?
  intro i
  by_cases hi : i = a
  · subst hi
    rw [List.getElem?_set_self (by rw [eg_w_len]; exact hlt)]
    exact eg_w_at (by rw [hl]; exact ha)
  · rw [List.getElem?_set_ne (Ne.symm hi)]
    unfold eg_w
    rw [List.getElem?_mapIdx, List.getElem?_mapIdx, hl]
    cases h.1[i]? with
    | none => rfl
    | some x => simp only [Option.map_some, he i x hi]
/-- numbers written into cell a alone -/
theorem eg_e_M {ad : Nat → Nat} {cA : Nat → ClassId} {h : eg_H} {M : Nat → Nat → Int} {a : Nat} (hM : ∀ b, b ≠ a → M b = h.2.2 b) : ∀ (b : Nat) (x : eg_C), b ≠ a → eg_e ad cA (h.1, h.2.1, M) b x = eg_e ad cA h b x := by
  intro b x hb
  cases x with
  | inl q => show (Sum.inl (cA b, eg_ar q.1 q.2 (M b)) : va_E) = _; rw [hM b hb]; rfl
  | inr ci => show (Sum.inr (ci, (List.range (eg_nf ci)).map (fun k => eg_fv ad (eg_fty (1000 * ci + k)) (h.2.1 b k) (M b k))) : va_E) = _; rw [hM b hb]; rfl
theorem eg_e_R {ad : Nat → Nat} {cA : Nat → ClassId} {h : eg_H} {r : Nat → Nat → Option Nat} {a : Nat} (hM : ∀ b, b ≠ a → r b = h.2.1 b) : ∀ (b : Nat) (x : eg_C), b ≠ a → eg_e ad cA (h.1, r, h.2.2) b x = eg_e ad cA h b x := by
  intro b x hb
  cases x with
  | inl q => rfl
  | inr ci => show (Sum.inr (ci, (List.range (eg_nf ci)).map (fun k => eg_fv ad (eg_fty (1000 * ci + k)) (r b k) (h.2.2 b k))) : va_E) = _; rw [hM b hb]; rfl
theorem eg_u_ne {α : Type} {m : Nat → Nat → α} {a i b : Nat} {v : α} (hb : b ≠ a) : eg_u m a i v b = m b := by
  funext j
  unfold eg_u
  rw [if_neg (fun z => hb z.1)]
theorem eg_u_at {α : Type} {m : Nat → Nat → α} {a i j : Nat} {v : α} : eg_u m a i v a j = if j = i then v else m a j := by
  unfold eg_u
  by_cases h : j = i
  · rw [if_pos ⟨rfl, h⟩, if_pos h]
  · rw [if_neg (fun z => h z.2), if_neg h]
theorem eg_range_set {α : Type} (f g : Nat → α) (n k : Nat) (v : α) (hg : ∀ j, j ≠ k → g j = f j) (hk : g k = v) : (List.range n).map g = ((List.range n).map f).set k v := by
  apply List.ext_getElem?
  intro i
  by_cases hi : i = k
  · subst hi
    by_cases hn : i < n
    · rw [List.getElem?_set_self (by simp [hn])]
      simp [hn, hk]
    · rw [List.getElem?_eq_none (by simp; omega), List.getElem?_eq_none (by simp; omega)]
  · rw [List.getElem?_set_ne (Ne.symm hi)]
    by_cases hn : i < n
    · simp [hn, hg i hi]
    · rw [List.getElem?_eq_none (by simp; omega), List.getElem?_eq_none (by simp; omega)]
theorem eg_div1000 {ci k : Nat} (h : k < 1000) : (1000 * ci + k) / 1000 = ci ∧ (1000 * ci + k) % 1000 = k := by omega
theorem eg_nf_le (ci : Nat) : eg_nf ci ≤ 76 := by
  have h : ∀ c, c < 12 → eg_nf c ≤ 76 := by decide +kernel
  by_cases hc : ci < 12
  · exact h ci hc
  · unfold eg_nf
    rw [List.getElem?_eq_none (by show 12 ≤ ci; omega)]
    exact Nat.zero_le _
/-- a written array element -/
theorem eg_w_ai {ad : Nat → Nat} {cA : Nat → ClassId} {h : eg_H} {a n k : Nat} {ty : FieldType} {v : Int} (hty : ty ≠ .long) (ha : h.1[a]? = some (.inl (ty, n))) :
    eg_w ad cA (h.1, h.2.1, eg_u h.2.2 a k v) = (eg_w ad cA h).set a (ad a, .inl (cA a, n, .inl (upd (fun i => Int32.ofInt (h.2.2 a i)) k (Int32.ofInt v)))) := by
  rw [eg_w_set (h := h) (h' := (h.1, h.2.1, eg_u h.2.2 a k v)) rfl ha (eg_e_M (h := h) (M := eg_u h.2.2 a k v) (a := a) (fun b hb => eg_u_ne hb))]
  congr 2
  show (Sum.inl (cA a, eg_ar ty n (eg_u h.2.2 a k v a)) : va_E) = _
  have e : (fun i => Int32.ofInt (eg_u h.2.2 a k v a i)) = upd (fun i => Int32.ofInt (h.2.2 a i)) k (Int32.ofInt v) := by
    funext i
    unfold upd
    rw [eg_u_at]
    split <;> rfl
  cases ty <;> first | exact absurd rfl hty | (show (Sum.inl (cA a, n, Sum.inl (fun i => Int32.ofInt (eg_u h.2.2 a k v a i))) : va_E) = _; rw [e])
theorem eg_w_al {ad : Nat → Nat} {cA : Nat → ClassId} {h : eg_H} {a n k : Nat} {v : Int} (ha : h.1[a]? = some (.inl (.long, n))) :
    eg_w ad cA (h.1, h.2.1, eg_u h.2.2 a k v) = (eg_w ad cA h).set a (ad a, .inl (cA a, n, .inr (.inl (vp_updL (fun i => Int64.ofInt (h.2.2 a i)) k (Int64.ofInt v))))) := by
  rw [eg_w_set (h := h) (h' := (h.1, h.2.1, eg_u h.2.2 a k v)) rfl ha (eg_e_M (h := h) (M := eg_u h.2.2 a k v) (a := a) (fun b hb => eg_u_ne hb))]
  congr 2
  have e : (fun i => Int64.ofInt (eg_u h.2.2 a k v a i)) = vp_updL (fun i => Int64.ofInt (h.2.2 a i)) k (Int64.ofInt v) := by
    funext i
    unfold vp_updL
    rw [eg_u_at]
    split <;> rfl
  show (Sum.inl (cA a, n, Sum.inr (Sum.inl (fun i => Int64.ofInt (eg_u h.2.2 a k v a i)))) : va_E) = _
  rw [e]
theorem eg_w_fM {ad : Nat → Nat} {cA : Nat → ClassId} {h : eg_H} {a ci k : Nat} {x : Int} (ha : h.1[a]? = some (.inr ci)) :
    eg_w ad cA (h.1, h.2.1, eg_u h.2.2 a k x) = (eg_w ad cA h).set a (ad a, .inr (ci, ((List.range (eg_nf ci)).map (fun k => eg_fv ad (eg_fty (1000 * ci + k)) (h.2.1 a k) (h.2.2 a k))).set k (eg_fv ad (eg_fty (1000 * ci + k)) (h.2.1 a k) x))) := by
  rw [eg_w_set (h := h) (h' := (h.1, h.2.1, eg_u h.2.2 a k x)) rfl ha (eg_e_M (h := h) (M := eg_u h.2.2 a k x) (a := a) (fun b hb => eg_u_ne hb))]
  congr 2
  show (Sum.inr (ci, (List.range (eg_nf ci)).map (fun k' => eg_fv ad (eg_fty (1000 * ci + k')) (h.2.1 a k') (eg_u h.2.2 a k x a k'))) : va_E) = _
  rw [eg_range_set (fun k' => eg_fv ad (eg_fty (1000 * ci + k')) (h.2.1 a k') (h.2.2 a k')) _ (eg_nf ci) k (eg_fv ad (eg_fty (1000 * ci + k)) (h.2.1 a k) x) (fun j hj => by simp only [eg_u_at, if_neg hj]) (by simp only [eg_u_at, if_true])]
theorem eg_w_fR {ad : Nat → Nat} {cA : Nat → ClassId} {h : eg_H} {a ci k : Nat} {r : Option Nat} (ha : h.1[a]? = some (.inr ci)) :
    eg_w ad cA (h.1, eg_u h.2.1 a k r, h.2.2) = (eg_w ad cA h).set a (ad a, .inr (ci, ((List.range (eg_nf ci)).map (fun k => eg_fv ad (eg_fty (1000 * ci + k)) (h.2.1 a k) (h.2.2 a k))).set k (eg_fv ad (eg_fty (1000 * ci + k)) r (h.2.2 a k)))) := by
  rw [eg_w_set (h := h) (h' := (h.1, eg_u h.2.1 a k r, h.2.2)) rfl ha (eg_e_R (h := h) (r := eg_u h.2.1 a k r) (a := a) (fun b hb => eg_u_ne hb))]
  congr 2
  show (Sum.inr (ci, (List.range (eg_nf ci)).map (fun k' => eg_fv ad (eg_fty (1000 * ci + k')) (eg_u h.2.1 a k r a k') (h.2.2 a k'))) : va_E) = _
  rw [eg_range_set (fun k' => eg_fv ad (eg_fty (1000 * ci + k')) (h.2.1 a k') (h.2.2 a k')) _ (eg_nf ci) k (eg_fv ad (eg_fty (1000 * ci + k)) r (h.2.2 a k)) (fun j hj => by simp only [eg_u_at, if_neg hj]) (by simp only [eg_u_at, if_true])]
theorem eg_z_ne {α : Type} {m : Nat → Nat → α} {a b : Nat} {v : α} (hb : b ≠ a) : eg_z m a v b = m b := by
  funext j
  unfold eg_z
  rw [if_neg hb]
theorem eg_z_at {α : Type} {m : Nat → Nat → α} {a j : Nat} {v : α} : eg_z m a v a j = v := by
  unfold eg_z
  rw [if_pos rfl]
/-- a new cell behind the others -/
theorem eg_w_new {ad : Nat → Nat} {cA : Nat → ClassId} {h : eg_H} {sh : eg_C} {q : Nat} {cq : ClassId} (hok : eg_okH h) (hlt : h.1.length < 1000000) :
    eg_w (fun k => if k = h.1.length then q else ad k) (fun k => if k = h.1.length then cq else cA k) (h.1 ++ [sh], eg_z h.2.1 h.1.length none, eg_z h.2.2 h.1.length 0) = eg_w ad cA h ++ [(q, eg_e (fun k => if k = h.1.length then q else ad k) (fun k => if k = h.1.length then cq else cA k) (h.1 ++ [sh], eg_z h.2.1 h.1.length none, eg_z h.2.2 h.1.length 0) h.1.length sh)] := by
  apply List.ext_getElem?
  intro i
  by_cases hi : i < h.1.length
  · rw [List.getElem?_append_left (by rw [eg_w_len]; exact hi)]
    unfold eg_w
    rw [List.getElem?_mapIdx, List.getElem?_mapIdx]
    rw [List.getElem?_append_left hi]
    have hne : i ≠ h.1.length := by omega
    cases hx : h.1[i]? with
    | none => rfl
    | some x =>
      simp only [Option.map_some, if_neg hne]
      congr 2
      cases x with
      | inl q' => simp only [eg_e, eg_z_ne hne, if_neg hne]
      | inr ci =>
        simp only [eg_e, eg_z_ne hne]
        congr 2
        apply List.map_congr_left
        intro k _
        have hr : (h.2.1 i k).map (fun k => if k = h.1.length then q else ad k) = (h.2.1 i k).map ad := by
          cases hb : h.2.1 i k with
          | none => rfl
          | some b =>
            have := hok.2.2.1 i k b hb
            simp only [Option.map_some, if_neg (show b ≠ h.1.length by omega)]
        unfold eg_fv
        rw [hr]
  · by_cases hi2 : i = h.1.length
    · subst hi2
      rw [List.getElem?_append_right (by rw [eg_w_len]; exact Nat.le_refl _), eg_w_len, Nat.sub_self]
      rw [eg_w_at (sh := sh) (by simp)]
      simp
    · rw [List.getElem?_eq_none (by rw [eg_w_len]; simp; omega), List.getElem?_eq_none (by simp [eg_w_len]; omega)]
