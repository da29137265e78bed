/-! RULES OF THE PURE MACHINE: eg_X: inside a frame it comes to a return with Qr -/
def eg_X (sc : eg_Sc) (call : eg_Ca) (cd : List (Nat × Instr)) (ret : Option FieldType) (mc ms : Nat) (Qr : Option eg_V → eg_H → Prop) : eg_K := fun i lv st h c z => ∃ n, eg_x sc call cd ret mc ms Qr n i lv st h c z
section EGX
variable {sc : eg_Sc} {call : eg_Ca} {cd : List (Nat × Instr)} {ret : Option FieldType} {mc ms : Nat} {Qr : Option eg_V → eg_H → Prop} {i : Nat} {lv : eg_L} {st : List eg_V} {h : eg_H} {c z : Nat}
/-- k instructions that evaluation runs through -/
theorem eg_go1 (k : Nat) {P : Nat → Prop} (hk : ∃ n, P n) (hs : ∀ n, P n → eg_x sc call cd ret mc ms Qr (n + k) i lv st h c z) : eg_X sc call cd ret mc ms Qr i lv st h c z := hk.elim fun n hn => ⟨n + k, hs n hn⟩
theorem eg_one1 {k : Nat} (hk : eg_x sc call cd ret mc ms Qr k i lv st h c z) : eg_X sc call cd ret mc ms Qr i lv st h c z := ⟨k, hk⟩
end EGX
/-- into a method -/
theorem eg_in {sc : eg_Sc} {d j : Nat} {as : List eg_V} {h : eg_H} {mc ms : Nat} {Q : Option eg_V → eg_H → Prop} {t : eg_T} (ht : eg_tab[j]? = some t) (hw : eg_wds as ≤ t.2.2.1) (hx : eg_X sc (eg_wp sc d) t.2.2.2.2.2.2.2.2 t.2.2.2.1 mc ms Q 0 (eg_en t.2.2.1 as) [] h 0 0) : eg_wp sc (d + 1) j as h mc ms Q := by
  show (match eg_tab[j]? with | some t => eg_wds as ≤ t.2.2.1 ∧ ∃ n, eg_x sc (eg_wp sc d) t.2.2.2.2.2.2.2.2 t.2.2.2.1 mc ms Q n 0 (eg_en t.2.2.1 as) [] h 0 0 | none => False)
  rw [ht]
  exact ⟨hw, hx⟩
/-- a test: WeakScheme.place() -/
theorem eg_in_148 {sc : eg_Sc} {d : Nat} {as : List eg_V} {h : eg_H} {mc ms : Nat} {Q : Option eg_V → eg_H → Prop} (hw : eg_wds as ≤ 1) (hx : eg_X sc (eg_wp sc d) eg_p148 (some .int) mc ms Q 0 (eg_en 1 as) [] h 0 0) : eg_wp sc (d + 1) 148 as h mc ms Q :=
  eg_in (t := (⟨"WeakScheme", "place", "()I"⟩, _, 1, some .int, 0, 1, 1, 0, eg_p148)) rfl hw hx
theorem eg_test1 {sc : eg_Sc} {d a : Nat} {h : eg_H} {Q : Option eg_V → eg_H → Prop} (ha : h.1[a]? = some (.inr 0)) (hQ : Q (some (.inl (h.2.2 a 8))) h) : eg_wp sc (d + 1) 148 [.inr (.inr (some a))] h 0 0 Q := by
  refine eg_in_148 (Nat.le_refl 1) ⟨3, ?_⟩
  show eg_gf h a 8 (fun v => eg_x sc (eg_wp sc d) eg_p148 (some .int) 0 0 Q 1 2 _ [v] h 0 0)
  unfold eg_gf
  rw [ha]
  exact ⟨rfl, True.intro, Nat.le_refl _, Nat.le_refl _, hQ⟩
theorem eg_test2 {sc : eg_Sc} {d a : Nat} {h : eg_H} {Q : Option eg_V → eg_H → Prop} (ha : h.1[a]? = some (.inr 0)) (hQ : Q (some (.inl (h.2.2 a 8))) h) : eg_wp sc (d + 1) 148 [.inr (.inr (some a))] h 0 0 Q := by
  refine eg_in_148 (Nat.le_refl 1) ⟨3, ?_⟩
  simp [eg_x, eg_i, eg_p148, eg_en, eg_lr, eg_pr, eg_gf, ha, eg_fty, t_0, eg_ri, hQ]
/-- a static layout -/
def eg_tl : List eg_C := [.inl (.int, 5), .inr 0, .inr 3]
theorem eg_test3 {sc : eg_Sc} {d : Nat} {r : Nat → Nat → Option Nat} {M : Nat → Nat → Int} {Q : Option eg_V → eg_H → Prop} (hQ : Q (some (.inl (M 1 8))) (eg_tl, r, M)) : eg_wp sc (d + 1) 148 [.inr (.inr (some 1))] (eg_tl, r, M) 0 0 Q := by
  refine eg_in_148 (Nat.le_refl 1) ⟨3, ?_⟩
  exact ⟨rfl, True.intro, Nat.le_refl _, Nat.le_refl _, hQ⟩
