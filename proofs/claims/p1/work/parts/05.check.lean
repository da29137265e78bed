/-! THE CHECK: a method's resolved code is what its bytes and the tables say -/
def eg_pc (P : List (Nat × Instr)) (i : Nat) : Option Nat := (P[i]?).map (fun q => q.1)
/-- instruction t lies at pc + off -/
def eg_jp (P : List (Nat × Instr)) (pc : Nat) (off t : Int) : Bool := match eg_pc P t.toNat with
  | some x => decide ((pc : Int) + off = (x : Int))
  | none => false
def eg_nx (P : List (Nat × Instr)) (i pc len n : Nat) : Bool := len == n && decide (eg_pc P (i + 1) = some (pc + n))
def eg_Tof (ci : Nat) : u_T := ((eg_cl[ci]?).map (fun q => q.2.1)).getD F_0
def eg_fin (q : Nat) : Bool := (eg_Tof (q / 1000) (q % 1000)).2.2.2
def eg_kd (j : Nat) : Nat := ((eg_tab[j]?).map (fun t => t.2.2.2.2.2.1)).getD 9
def eg_jps (P : List (Nat × Instr)) (pc : Nat) : List Int → List Int → Bool
  | [], [] => true
  | o :: r, t :: s => eg_jp P pc o t && eg_jps P pc r s
  | _, _ => false
def eg_jpl (P : List (Nat × Instr)) (pc : Nat) : List (Int × Int) → List (Int × Int) → Bool
  | [], [] => true
  | o :: r, t :: s => decide (o.1 = t.1) && eg_jp P pc o.2 t.2 && eg_jpl P pc r s
  | _, _ => false
def eg_mt (o nL : Nat) (ini : Bool) (P : List (Nat × Instr)) (pc i : Nat) (raw : Instr) (len : Nat) (I : Instr) : Bool := match raw, I with
  | _, .athrow => true
  | .iconst n, .sipush m => decide (n = m) && decide (-128 ≤ n ∧ n < 128) && eg_nx P i pc len 1
  | .bipush n, .sipush m => decide (n = m) && decide (-128 ≤ n ∧ n < 128) && eg_nx P i pc len 2
  | .sipush n, .sipush m => decide (n = m) && decide (-32768 ≤ n ∧ n < 32768) && eg_nx P i pc len 3
  | .ldc k, .sipush m => decide ((o, k, m) ∈ eg_lki) && eg_nx P i pc len 2
  | .ldc k, .jsr s => decide ((o, k, s.toNat) ∈ eg_st) && eg_nx P i pc len 2
  | .lconst n, .jsr_w m => decide (((n : Nat) : Int) = m) && eg_nx P i pc len 1
  | .ldc2_w k, .jsr_w m => decide ((o, k, m) ∈ eg_lkl) && eg_nx P i pc len 3
  | .iload_n k, .iload m => decide ((k : Nat) = m) && eg_nx P i pc len 1
  | .iload k, .iload m => decide (k = m) && eg_nx P i pc len 2
  | .lload_n k, .lload m => decide ((k : Nat) = m) && eg_nx P i pc len 1
  | .lload k, .lload m => decide (k = m) && eg_nx P i pc len 2
  | .aload_n k, .aload m => decide ((k : Nat) = m) && eg_nx P i pc len 1
  | .aload k, .aload m => decide (k = m) && eg_nx P i pc len 2
  | .istore_n k, .istore m => decide ((k : Nat) = m ∧ m < nL) && eg_nx P i pc len 1
  | .istore k, .istore m => decide (k = m ∧ m < nL) && eg_nx P i pc len 2
  | .lstore_n k, .lstore m => decide ((k : Nat) = m ∧ m + 1 < nL) && eg_nx P i pc len 1
  | .lstore k, .lstore m => decide (k = m ∧ m + 1 < nL) && eg_nx P i pc len 2
  | .astore_n k, .astore m => decide ((k : Nat) = m ∧ m < nL) && eg_nx P i pc len 1
  | .astore k, .astore m => decide (k = m ∧ m < nL) && eg_nx P i pc len 2
  | .iinc k n, .iinc m n' => decide (k = m ∧ n = n' ∧ m < nL) && eg_nx P i pc len 3
  | .iadd, .iadd => eg_nx P i pc len 1
  | .isub, .isub => eg_nx P i pc len 1
  | .imul, .imul => eg_nx P i pc len 1
  | .idiv, .idiv => eg_nx P i pc len 1
  | .irem, .irem => eg_nx P i pc len 1
  | .ineg, .ineg => eg_nx P i pc len 1
  | .iand, .iand => eg_nx P i pc len 1
  | .ishr, .ishr => eg_nx P i pc len 1
  | .ladd, .ladd => eg_nx P i pc len 1
  | .lsub, .lsub => eg_nx P i pc len 1
  | .lmul, .lmul => eg_nx P i pc len 1
  | .ldiv, .ldiv => eg_nx P i pc len 1
  | .lrem, .lrem => eg_nx P i pc len 1
  | .lneg, .lneg => eg_nx P i pc len 1
  | .land, .land => eg_nx P i pc len 1
  | .lor, .lor => eg_nx P i pc len 1
  | .lshl, .lshl => eg_nx P i pc len 1
  | .lshr, .lshr => eg_nx P i pc len 1
  | .lcmp, .lcmp => eg_nx P i pc len 1
  | .i2l, .i2l => eg_nx P i pc len 1
  | .l2i, .l2i => eg_nx P i pc len 1
  | .i2b, .i2b => eg_nx P i pc len 1
  | .i2s, .i2s => eg_nx P i pc len 1
  | .i2c, .i2c => eg_nx P i pc len 1
  | .dup, .dup => eg_nx P i pc len 1
  | .dup2, .dup2 => eg_nx P i pc len 1
  | .pop, .pop => eg_nx P i pc len 1
  | .goto off, .goto t => eg_jp P pc off t && len == 3
  | .ifCond k off, .ifCond k' t => decide (k = k') && eg_jp P pc off t && eg_nx P i pc len 3
  | .if_icmp k off, .if_icmp k' t => decide (k = k') && eg_jp P pc off t && eg_nx P i pc len 3
  | .if_acmp k off, .if_acmp k' t => decide (k = k') && eg_jp P pc off t && eg_nx P i pc len 3
  | .tableswitch d lo hi os, .tableswitch d' lo' hi' ts => decide (lo = lo' ∧ hi = hi' ∧ (os.size : Int) = hi - lo + 1) && eg_jp P pc d d' && eg_jps P pc os.toList ts.toList
  | .lookupswitch d os, .lookupswitch d' ts => (os.toList.zip (os.toList.drop 1)).all (fun (a, next) => a.1 < next.1) && eg_jp P pc d d' && eg_jpl P pc os.toList ts.toList
  | .getfield k, .getfield q => decide ((o, k, q) ∈ eg_fl) && decide (q % 1000 < eg_nf (q / 1000)) && eg_nx P i pc len 3
  | .getfield k, .instanceof f => decide ((o, k, f) ∈ eg_gx) && eg_nx P i pc len 3
  | .putfield k, .putfield q => decide ((o, k, q) ∈ eg_pf) && decide (q % 1000 < eg_nf (q / 1000)) && (!eg_fin q || (ini && decide (o = q / 1000))) && eg_nx P i pc len 3
  | .getstatic k, .getstatic n => (decide ((o, k, n, 0) ∈ eg_gs) || decide ((o, k, n, 1) ∈ eg_gs)) && eg_nx P i pc len 3
  | .arraylength, .arraylength => eg_nx P i pc len 1
  | .iaload, .iaload => eg_nx P i pc len 1
  | .laload, .laload => eg_nx P i pc len 1
  | .baload, .baload => eg_nx P i pc len 1
  | .saload, .saload => eg_nx P i pc len 1
  | .aaload, .aaload => eg_nx P i pc len 1
  | .iastore, .iastore => eg_nx P i pc len 1
  | .lastore, .lastore => eg_nx P i pc len 1
  | .bastore, .bastore => eg_nx P i pc len 1
  | .sastore, .sastore => eg_nx P i pc len 1
  | .new k, .new ci => decide ((o, k, ci) ∈ eg_nw) && eg_nx P i pc len 3
  | .newarray a, .newarray b => decide (a = b) && eg_aok (eg_aty b) && eg_nx P i pc len 2
  | .invokevirtual k, .invokestatic j => (decide ((o, k, j, 0) ∈ eg_mv) || decide ((o, k, j, 0) ∈ eg_mu)) && decide (eg_kd j = 1) && eg_nx P i pc len 3
  | .invokespecial k, .invokestatic j => (decide ((o, k, j, 0) ∈ eg_mi) || decide ((o, k, j, 1) ∈ eg_mi)) && decide (eg_kd j = 2) && eg_nx P i pc len 3
  | .invokespecial k, .invokespecial _ => decide ((o, k) ∈ eg_mo) && eg_nx P i pc len 3
  | .invokestatic k, .invokestatic j => (decide ((o, k, j, 0) ∈ eg_ms) || decide ((o, k, j, 1) ∈ eg_ms)) && decide (eg_kd j = 0) && eg_nx P i pc len 3
  | .invokestatic k, .invokeinterface b _ => decide (b = 3 ∨ b = 4) && decide ((o, k, b, 0) ∈ eg_bi) && eg_nx P i pc len 3
  | .ireturn, .ireturn => len == 1
  | .lreturn, .lreturn => len == 1
  | .areturn, .areturn => len == 1
  | .return_, .return_ => len == 1
  | _, _ => false
