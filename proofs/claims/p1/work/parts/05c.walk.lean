def eg_dx (bytes : ByteArray) (pc : Nat) (L : List Nat) (I : Instr) : Option (Instr × Nat) := match I with
  | .tableswitch _ _ _ _ => (decode bytes pc).toOption
  | .lookupswitch _ _ => (decode bytes pc).toOption
  | I => eg_fd L I
theorem eg_dx_ok {bytes : ByteArray} {pc : Nat} {L : List Nat} {I : Instr} {x : Instr × Nat} (h : (eg_by bytes).drop pc = L) (g : eg_dx bytes pc L I = some x) : decode bytes pc = .ok x := by
  unfold eg_dx at g
  split at g
  · cases e : decode bytes pc with
    | ok y => rw [e] at g; cases g; rfl
    | error y => rw [e] at g; cases g
  · cases e : decode bytes pc with
    | ok y => rw [e] at g; cases g; rfl
    | error y => rw [e] at g; cases g
  · exact eg_fd_ok h g
def eg_isth : Instr → Bool
  | .athrow => true
  | _ => false
def eg_wk (o nL : Nat) (ini : Bool) (bytes : ByteArray) (P : List (Nat × Instr)) : Nat → Nat → List Nat → List (Nat × Instr) → Bool
  | _, _, _, [] => true
  | i, pc, L, q :: r => decide (q.1 = pc) && (match eg_isth q.2 with
    | true => (match r with
      | [] => true
      | n :: _ => decide (pc ≤ n.1) && eg_wk o nL ini bytes P (i + 1) (pc + (n.1 - pc)) (L.drop (n.1 - pc)) r)
    | false => (match eg_dx bytes pc L q.2 with
      | some x => eg_mt o nL ini P pc i x.1 x.2 q.2 && eg_wk o nL ini bytes P (i + 1) (pc + x.2) (L.drop x.2) r
      | none => false))
theorem eg_wk_ok {o nL : Nat} {ini : Bool} {bytes : ByteArray} {P : List (Nat × Instr)} : ∀ (rest : List (Nat × Instr)) (i pc : Nat) (L : List Nat), (eg_by bytes).drop pc = L → eg_wk o nL ini bytes P i pc L rest = true →
    ∀ (k : Nat) (q : Nat × Instr), rest[k]? = some q → q.2 = .athrow ∨ ∃ x : Instr × Nat, decode bytes q.1 = .ok x ∧ eg_mt o nL ini P q.1 (i + k) x.1 x.2 q.2 = true := by
  intro rest
  induction rest with
  | nil => intro i pc L _ _ k q hq; simp at hq
  | cons a r ih =>
    intro i pc L hL hw k q hq
    unfold eg_wk at hw
    simp only [Bool.and_eq_true, decide_eq_true_eq] at hw
    obtain ⟨hpc, hw⟩ := hw
    cases hth : eg_isth a.2 with
    | true =>
      rw [hth] at hw
      cases k with
      | zero =>
        left
        simp only [List.getElem?_cons_zero, Option.some.injEq] at hq
        subst hq
        revert hth
        cases a.2 <;> simp [eg_isth]
      | succ k =>
        rw [List.getElem?_cons_succ] at hq
        cases r with
        | nil => simp at hq
        | cons n r' =>
          simp only [Bool.and_eq_true, decide_eq_true_eq] at hw
          have := ih (i + 1) _ _ (by rw [← hL, List.drop_drop]) hw.2 k q hq
          rwa [Nat.add_assoc, Nat.add_comm 1 k] at this
    | false =>
      rw [hth] at hw
      cases hx : eg_dx bytes pc L a.2 with
      | none => rw [hx] at hw; simp at hw
      | some x =>
        rw [hx] at hw
        simp only [Bool.and_eq_true] at hw
        cases k with
        | zero =>
          right
          simp only [List.getElem?_cons_zero, Option.some.injEq] at hq
          subst hq
          exact ⟨x, by rw [hpc]; exact eg_dx_ok hL hx, by rw [hpc]; exact hw.1⟩
        | succ k =>
          rw [List.getElem?_cons_succ] at hq
          have := ih (i + 1) _ _ (by rw [← hL, List.drop_drop]) hw.2 k q hq
          rwa [Nat.add_assoc, Nat.add_comm 1 k] at this
/-- the check of a method of the table: its code begins at 0 -/
def eg_ck (t : eg_T) : Bool := decide (eg_pc t.2.2.2.2.2.2.2.2 0 = some 0) && eg_wk t.2.2.2.2.1 t.2.2.1 (t.2.2.2.2.2.1 == 2) t.2.1 t.2.2.2.2.2.2.2.2 0 0 (eg_by t.2.1) t.2.2.2.2.2.2.2.2
set_option maxRecDepth 100000 in
theorem eg_ck_0 : eg_tab_0.all eg_ck = true := by decide +kernel
set_option maxRecDepth 100000 in
theorem eg_ck_1 : eg_tab_1.all eg_ck = true := by decide +kernel
set_option maxRecDepth 100000 in
theorem eg_ck_2 : eg_tab_2.all eg_ck = true := by decide +kernel
set_option maxRecDepth 100000 in
theorem eg_ck_3 : eg_tab_3.all eg_ck = true := by decide +kernel
set_option maxRecDepth 100000 in
theorem eg_ck_4 : eg_tab_4.all eg_ck = true := by decide +kernel
set_option maxRecDepth 100000 in
theorem eg_ck_5 : eg_tab_5.all eg_ck = true := by decide +kernel
set_option maxRecDepth 100000 in
theorem eg_ck_6 : eg_tab_6.all eg_ck = true := by decide +kernel
set_option maxRecDepth 100000 in
theorem eg_ck_law : (decide (eg_pc eg_p250 0 = some 0) && eg_wk 12 4 false code eg_p250 0 0 (eg_by code) eg_p250) = true := by decide +kernel
