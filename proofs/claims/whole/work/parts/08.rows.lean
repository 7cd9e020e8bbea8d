/-! AN INSTRUCTION, A ROW, over V (printed by a program of mine, wip/whole/tools/rows.py) -/
section VROWS
variable {u : Un} {y : MI} {d kc ks : Nat} {Q : Option Value → va_W → Prop} {X : String → va_W → Prop} {pc : Nat} {L : List (Nat × Value)} {st : List Value} {ws : va_W}
theorem V_aload_n (pc' : Nat) {k : Fin 4} {x : Nat} (hp : pc + 1 = pc') (hd : decode y.2.1 pc = .ok (.aload_n k, 1)) (hk : lkL L (k : Nat) = some (.ref x)) (k : V u y d kc ks Q X pc' L (.ref x :: st) ws) : V u y d kc ks Q X pc L (st) ws := by
  subst hp
  intro p e R s m args below meth c H locs cells slots ls C q1 q2 q3 q4 hw hS hl
  exact lv_aload_n C.1 C.2.1 hd rfl (lv_lkL hl hk) (k p e R s m args below meth c H locs cells slots ls C q1 q2 q3 q4 hw hS hl)
theorem V_aload (pc' : Nat) {i : Nat} {x : Nat} (hp : pc + 2 = pc') (hd : decode y.2.1 pc = .ok (.aload i, 2)) (hk : lkL L i = some (.ref x)) (k : V u y d kc ks Q X pc' L (.ref x :: st) ws) : V u y d kc ks Q X pc L (st) ws := by
  subst hp
  intro p e R s m args below meth c H locs cells slots ls C q1 q2 q3 q4 hw hS hl
  exact lv_aload C.1 C.2.1 hd (lv_lkL hl hk) (k p e R s m args below meth c H locs cells slots ls C q1 q2 q3 q4 hw hS hl)
theorem V_iload_n (pc' : Nat) {k : Fin 4} {x : Int32} (hp : pc + 1 = pc') (hd : decode y.2.1 pc = .ok (.iload_n k, 1)) (hk : lkL L (k : Nat) = some (.int x)) (k : V u y d kc ks Q X pc' L (.int x :: st) ws) : V u y d kc ks Q X pc L (st) ws := by
  subst hp
  intro p e R s m args below meth c H locs cells slots ls C q1 q2 q3 q4 hw hS hl
  exact lv_iload_n C.1 C.2.1 hd rfl (lv_lkL hl hk) (k p e R s m args below meth c H locs cells slots ls C q1 q2 q3 q4 hw hS hl)
theorem V_iload (pc' : Nat) {i : Nat} {x : Int32} (hp : pc + 2 = pc') (hd : decode y.2.1 pc = .ok (.iload i, 2)) (hk : lkL L i = some (.int x)) (k : V u y d kc ks Q X pc' L (.int x :: st) ws) : V u y d kc ks Q X pc L (st) ws := by
  subst hp
  intro p e R s m args below meth c H locs cells slots ls C q1 q2 q3 q4 hw hS hl
  exact lv_iload C.1 C.2.1 hd (lv_lkL hl hk) (k p e R s m args below meth c H locs cells slots ls C q1 q2 q3 q4 hw hS hl)
theorem V_lload_n (pc' : Nat) {k : Fin 4} {x : Int64} (hp : pc + 1 = pc') (hd : decode y.2.1 pc = .ok (.lload_n k, 1)) (hk : lkL L (k : Nat) = some (.long x)) (k : V u y d kc ks Q X pc' L (.long x :: st) ws) : V u y d kc ks Q X pc L (st) ws := by
  subst hp
  intro p e R s m args below meth c H locs cells slots ls C q1 q2 q3 q4 hw hS hl
  exact lv_lload_n C.1 C.2.1 hd rfl (lv_lkL hl hk) (k p e R s m args below meth c H locs cells slots ls C q1 q2 q3 q4 hw hS hl)
theorem V_lload (pc' : Nat) {i : Nat} {x : Int64} (hp : pc + 2 = pc') (hd : decode y.2.1 pc = .ok (.lload i, 2)) (hk : lkL L i = some (.long x)) (k : V u y d kc ks Q X pc' L (.long x :: st) ws) : V u y d kc ks Q X pc L (st) ws := by
  subst hp
  intro p e R s m args below meth c H locs cells slots ls C q1 q2 q3 q4 hw hS hl
  exact lv_lload C.1 C.2.1 hd (lv_lkL hl hk) (k p e R s m args below meth c H locs cells slots ls C q1 q2 q3 q4 hw hS hl)
theorem V_dload (pc' : Nat) {i : Nat} {x : UInt64} (hp : pc + 2 = pc') (hd : decode y.2.1 pc = .ok (.dload i, 2)) (hk : lkL L i = some (.double x)) (k : V u y d kc ks Q X pc' L (.double x :: st) ws) : V u y d kc ks Q X pc L (st) ws := by
  subst hp
  intro p e R s m args below meth c H locs cells slots ls C q1 q2 q3 q4 hw hS hl
  exact lv_dload C.1 C.2.1 hd (lv_lkL hl hk) (k p e R s m args below meth c H locs cells slots ls C q1 q2 q3 q4 hw hS hl)
theorem V_astore_n (pc' : Nat) {k0 : Fin 4} {i : Nat} {x : Nat} (hp : pc + 1 = pc') (hd : decode y.2.1 pc = .ok (.astore_n k0, 1)) (hi : (k0 : Nat) = i) (hn : i < y.2.2.1) (k : V u y d kc ks Q X pc' (stL i (.ref x) L) st ws) : V u y d kc ks Q X pc L (.ref x :: st) ws := by
  subst hp
  intro p e R s m args below meth c H locs cells slots ls C q1 q2 q3 q4 hw hS hl
  exact lv_astore_n C.1 C.2.1 hd hi hl hn rfl (fun ls' hl' => k p e R s m args below meth c H locs cells slots ls' C q1 q2 q3 q4 hw hS (lv_stL hl'))
theorem V_astore (pc' : Nat) {i : Nat} {x : Nat} (hp : pc + 2 = pc') (hd : decode y.2.1 pc = .ok (.astore i, 2)) (hn : i < y.2.2.1) (k : V u y d kc ks Q X pc' (stL i (.ref x) L) st ws) : V u y d kc ks Q X pc L (.ref x :: st) ws := by
  subst hp
  intro p e R s m args below meth c H locs cells slots ls C q1 q2 q3 q4 hw hS hl
  exact lv_astore C.1 C.2.1 hd hl hn rfl (fun ls' hl' => k p e R s m args below meth c H locs cells slots ls' C q1 q2 q3 q4 hw hS (lv_stL hl'))
theorem V_istore_n (pc' : Nat) {k0 : Fin 4} {i : Nat} {x : Int32} (hp : pc + 1 = pc') (hd : decode y.2.1 pc = .ok (.istore_n k0, 1)) (hi : (k0 : Nat) = i) (hn : i < y.2.2.1) (k : V u y d kc ks Q X pc' (stL i (.int x) L) st ws) : V u y d kc ks Q X pc L (.int x :: st) ws := by
  subst hp
  intro p e R s m args below meth c H locs cells slots ls C q1 q2 q3 q4 hw hS hl
  exact lv_istore_n C.1 C.2.1 hd hi hl hn rfl (fun ls' hl' => k p e R s m args below meth c H locs cells slots ls' C q1 q2 q3 q4 hw hS (lv_stL hl'))
theorem V_istore (pc' : Nat) {i : Nat} {x : Int32} (hp : pc + 2 = pc') (hd : decode y.2.1 pc = .ok (.istore i, 2)) (hn : i < y.2.2.1) (k : V u y d kc ks Q X pc' (stL i (.int x) L) st ws) : V u y d kc ks Q X pc L (.int x :: st) ws := by
  subst hp
  intro p e R s m args below meth c H locs cells slots ls C q1 q2 q3 q4 hw hS hl
  exact lv_istore C.1 C.2.1 hd hl hn rfl (fun ls' hl' => k p e R s m args below meth c H locs cells slots ls' C q1 q2 q3 q4 hw hS (lv_stL hl'))
theorem V_iinc (pc' : Nat) {i : Nat} {n : Int} {x : Int32} (v : Int32) (hp : pc + 3 = pc') (hd : decode y.2.1 pc = .ok (.iinc i n, 3)) (hk : lkL L i = some (.int x)) (hv : x + Int32.ofInt n = v) (hn : i < y.2.2.1) (k : V u y d kc ks Q X pc' (stL i (.int v) L) st ws) : V u y d kc ks Q X pc L st ws := by
  subst hp
  intro p e R s m args below meth c H locs cells slots ls C q1 q2 q3 q4 hw hS hl
  obtain ⟨j, hj⟩ := List.mem_iff_getElem?.mp (lkL_mem L i _ hk)
  exact lv_iinc C.1 C.2.1 hd hl hj hv hn rfl (fun ls' hl' => k p e R s m args below meth c H locs cells slots ls' C q1 q2 q3 q4 hw hS (lv_stL hl'))
theorem V_iconst (pc' : Nat) {n : Int} (v : Int32) (hp : pc + 1 = pc') (hd : decode y.2.1 pc = .ok (.iconst n, 1)) (hv : Int32.ofInt n = v) (k : V u y d kc ks Q X pc' L (.int v :: st) ws) : V u y d kc ks Q X pc L (st) ws := by
  subst hp
  intro p e R s m args below meth c H locs cells slots ls C q1 q2 q3 q4 hw hS hl
  exact lv_iconst C.1 C.2.1 hd hv (k p e R s m args below meth c H locs cells slots ls C q1 q2 q3 q4 hw hS hl)
theorem V_bipush (pc' : Nat) {n : Int} (v : Int32) (hp : pc + 2 = pc') (hd : decode y.2.1 pc = .ok (.bipush n, 2)) (hv : (Int8.ofInt n).toInt32 = v) (k : V u y d kc ks Q X pc' L (.int v :: st) ws) : V u y d kc ks Q X pc L (st) ws := by
  subst hp
  intro p e R s m args below meth c H locs cells slots ls C q1 q2 q3 q4 hw hS hl
  exact lv_bipush C.1 C.2.1 hd hv (k p e R s m args below meth c H locs cells slots ls C q1 q2 q3 q4 hw hS hl)
theorem V_sipush (pc' : Nat) {n : Int} (v : Int32) (hp : pc + 3 = pc') (hd : decode y.2.1 pc = .ok (.sipush n, 3)) (hv : (Int16.ofInt n).toInt32 = v) (k : V u y d kc ks Q X pc' L (.int v :: st) ws) : V u y d kc ks Q X pc L (st) ws := by
  subst hp
  intro p e R s m args below meth c H locs cells slots ls C q1 q2 q3 q4 hw hS hl
  exact lv_sipush C.1 C.2.1 hd hv (k p e R s m args below meth c H locs cells slots ls C q1 q2 q3 q4 hw hS hl)
theorem V_lconst (pc' : Nat) {n : Fin 2} (v : Int64) (hp : pc + 1 = pc') (hd : decode y.2.1 pc = .ok (.lconst n, 1)) (hv : Int64.ofNat (n : Nat) = v) (k : V u y d kc ks Q X pc' L (.long v :: st) ws) : V u y d kc ks Q X pc L (st) ws := by
  subst hp
  intro p e R s m args below meth c H locs cells slots ls C q1 q2 q3 q4 hw hS hl
  exact lv_lconst C.1 C.2.1 hd hv (k p e R s m args below meth c H locs cells slots ls C q1 q2 q3 q4 hw hS hl)
theorem V_ldc2 (pc' : Nat) {i : Nat} {v : Int64} (hp : pc + 3 = pc') (hd : decode y.2.1 pc = .ok (.ldc2_w i, 3)) (hv : Cond.constantLong y.1.cls i v ∈ WALL) (k : V u y d kc ks Q X pc' L (.long v :: st) ws) : V u y d kc ks Q X pc L (st) ws := by
  subst hp
  intro p e R s m args below meth c H locs cells slots ls C q1 q2 q3 q4 hw hS hl
  exact lv_ldc2 C.1 C.2.1 C.2.2.2.2.2.1 (C.word hv) hd (k p e R s m args below meth c H locs cells slots ls C q1 q2 q3 q4 hw hS hl)
theorem V_ldc (pc' : Nat) {i : Nat} {v : Int32} (hp : pc + 2 = pc') (hd : decode y.2.1 pc = .ok (.ldc i, 2)) (hv : Cond.constant y.1.cls i v ∈ WALL) (k : V u y d kc ks Q X pc' L (.int v :: st) ws) : V u y d kc ks Q X pc L (st) ws := by
  subst hp
  intro p e R s m args below meth c H locs cells slots ls C q1 q2 q3 q4 hw hS hl
  exact lv_ldc C.1 C.2.1 C.2.2.2.2.2.1 (C.word hv) hd (k p e R s m args below meth c H locs cells slots ls C q1 q2 q3 q4 hw hS hl)
theorem V_ldcf (pc' : Nat) {i : Nat} {v : UInt32} (hp : pc + 2 = pc') (hd : decode y.2.1 pc = .ok (.ldc i, 2)) (hv : Cond.constantFloat y.1.cls i v ∈ WALL) (k : V u y d kc ks Q X pc' L (.float v :: st) ws) : V u y d kc ks Q X pc L (st) ws := by
  subst hp
  intro p e R s m args below meth c H locs cells slots ls C q1 q2 q3 q4 hw hS hl
  exact lv_ldcf C.1 C.2.1 C.2.2.2.2.2.1 (C.word hv) hd (k p e R s m args below meth c H locs cells slots ls C q1 q2 q3 q4 hw hS hl)
theorem V_iadd (pc' : Nat) {x z : Int32} (hp : pc + 1 = pc') (hd : decode y.2.1 pc = .ok (.iadd, 1))  (k : V u y d kc ks Q X pc' L (.int (x + z) :: st) ws) : V u y d kc ks Q X pc L (.int z :: .int x :: st) ws := by
  subst hp
  intro p e R s m args below meth c H locs cells slots ls C q1 q2 q3 q4 hw hS hl
  exact lv_iadd C.1 C.2.1 hd (k p e R s m args below meth c H locs cells slots ls C q1 q2 q3 q4 hw hS hl)
theorem V_isub (pc' : Nat) {x z : Int32} (hp : pc + 1 = pc') (hd : decode y.2.1 pc = .ok (.isub, 1))  (k : V u y d kc ks Q X pc' L (.int (x - z) :: st) ws) : V u y d kc ks Q X pc L (.int z :: .int x :: st) ws := by
  subst hp
  intro p e R s m args below meth c H locs cells slots ls C q1 q2 q3 q4 hw hS hl
  exact lv_isub C.1 C.2.1 hd (k p e R s m args below meth c H locs cells slots ls C q1 q2 q3 q4 hw hS hl)
theorem V_imul (pc' : Nat) {x z : Int32} (hp : pc + 1 = pc') (hd : decode y.2.1 pc = .ok (.imul, 1))  (k : V u y d kc ks Q X pc' L (.int (x * z) :: st) ws) : V u y d kc ks Q X pc L (.int z :: .int x :: st) ws := by
  subst hp
  intro p e R s m args below meth c H locs cells slots ls C q1 q2 q3 q4 hw hS hl
  exact lv_imul C.1 C.2.1 hd (k p e R s m args below meth c H locs cells slots ls C q1 q2 q3 q4 hw hS hl)
theorem V_iand (pc' : Nat) {x z : Int32} (hp : pc + 1 = pc') (hd : decode y.2.1 pc = .ok (.iand, 1))  (k : V u y d kc ks Q X pc' L (.int (x &&& z) :: st) ws) : V u y d kc ks Q X pc L (.int z :: .int x :: st) ws := by
  subst hp
  intro p e R s m args below meth c H locs cells slots ls C q1 q2 q3 q4 hw hS hl
  exact lv_iand C.1 C.2.1 hd (k p e R s m args below meth c H locs cells slots ls C q1 q2 q3 q4 hw hS hl)
theorem V_ior (pc' : Nat) {x z : Int32} (hp : pc + 1 = pc') (hd : decode y.2.1 pc = .ok (.ior, 1))  (k : V u y d kc ks Q X pc' L (.int (x ||| z) :: st) ws) : V u y d kc ks Q X pc L (.int z :: .int x :: st) ws := by
  subst hp
  intro p e R s m args below meth c H locs cells slots ls C q1 q2 q3 q4 hw hS hl
  exact lv_ior C.1 C.2.1 hd (k p e R s m args below meth c H locs cells slots ls C q1 q2 q3 q4 hw hS hl)
theorem V_ixor (pc' : Nat) {x z : Int32} (hp : pc + 1 = pc') (hd : decode y.2.1 pc = .ok (.ixor, 1))  (k : V u y d kc ks Q X pc' L (.int (x ^^^ z) :: st) ws) : V u y d kc ks Q X pc L (.int z :: .int x :: st) ws := by
  subst hp
  intro p e R s m args below meth c H locs cells slots ls C q1 q2 q3 q4 hw hS hl
  exact lv_ixor C.1 C.2.1 hd (k p e R s m args below meth c H locs cells slots ls C q1 q2 q3 q4 hw hS hl)
theorem V_ishl (pc' : Nat) {x z : Int32} (hp : pc + 1 = pc') (hd : decode y.2.1 pc = .ok (.ishl, 1))  (k : V u y d kc ks Q X pc' L (.int (x <<< (z &&& 31)) :: st) ws) : V u y d kc ks Q X pc L (.int z :: .int x :: st) ws := by
  subst hp
  intro p e R s m args below meth c H locs cells slots ls C q1 q2 q3 q4 hw hS hl
  exact lv_ishl C.1 C.2.1 hd (k p e R s m args below meth c H locs cells slots ls C q1 q2 q3 q4 hw hS hl)
theorem V_ishr (pc' : Nat) {x z : Int32} (hp : pc + 1 = pc') (hd : decode y.2.1 pc = .ok (.ishr, 1))  (k : V u y d kc ks Q X pc' L (.int (x >>> (z &&& 31)) :: st) ws) : V u y d kc ks Q X pc L (.int z :: .int x :: st) ws := by
  subst hp
  intro p e R s m args below meth c H locs cells slots ls C q1 q2 q3 q4 hw hS hl
  exact lv_ishr C.1 C.2.1 hd (k p e R s m args below meth c H locs cells slots ls C q1 q2 q3 q4 hw hS hl)
theorem V_irem (pc' : Nat) {x z : Int32} (hp : pc + 1 = pc') (hd : decode y.2.1 pc = .ok (.irem, 1)) (hne : ¬ z = 0) (k : V u y d kc ks Q X pc' L (.int (x - x / z * z) :: st) ws) : V u y d kc ks Q X pc L (.int z :: .int x :: st) ws := by
  subst hp
  intro p e R s m args below meth c H locs cells slots ls C q1 q2 q3 q4 hw hS hl
  exact lv_irem C.1 C.2.1 hd hne (k p e R s m args below meth c H locs cells slots ls C q1 q2 q3 q4 hw hS hl)
theorem V_idiv (pc' : Nat) {x z : Int32} (hp : pc + 1 = pc') (hd : decode y.2.1 pc = .ok (.idiv, 1)) (hne : ¬ z = 0) (k : V u y d kc ks Q X pc' L (.int (x / z) :: st) ws) : V u y d kc ks Q X pc L (.int z :: .int x :: st) ws := by
  subst hp
  intro p e R s m args below meth c H locs cells slots ls C q1 q2 q3 q4 hw hS hl
  exact lv_idiv C.1 C.2.1 hd hne (k p e R s m args below meth c H locs cells slots ls C q1 q2 q3 q4 hw hS hl)
theorem V_ineg (pc' : Nat) {x : Int32} (hp : pc + 1 = pc') (hd : decode y.2.1 pc = .ok (.ineg, 1))  (k : V u y d kc ks Q X pc' L (.int (-x) :: st) ws) : V u y d kc ks Q X pc L (.int x :: st) ws := by
  subst hp
  intro p e R s m args below meth c H locs cells slots ls C q1 q2 q3 q4 hw hS hl
  exact lv_ineg C.1 C.2.1 hd (k p e R s m args below meth c H locs cells slots ls C q1 q2 q3 q4 hw hS hl)
theorem V_i2l (pc' : Nat) {x : Int32} (v : Int64) (hp : pc + 1 = pc') (hd : decode y.2.1 pc = .ok (.i2l, 1)) (hv : x.toInt64 = v) (k : V u y d kc ks Q X pc' L (.long v :: st) ws) : V u y d kc ks Q X pc L (.int x :: st) ws := by
  subst hp
  intro p e R s m args below meth c H locs cells slots ls C q1 q2 q3 q4 hw hS hl
  exact lv_i2l C.1 C.2.1 hd hv (k p e R s m args below meth c H locs cells slots ls C q1 q2 q3 q4 hw hS hl)
theorem V_i2c (pc' : Nat) {x : Int32} (v : Int32) (hp : pc + 1 = pc') (hd : decode y.2.1 pc = .ok (.i2c, 1)) (hv : (x.toUInt32 % 65536).toInt32 = v) (k : V u y d kc ks Q X pc' L (.int v :: st) ws) : V u y d kc ks Q X pc L (.int x :: st) ws := by
  subst hp
  intro p e R s m args below meth c H locs cells slots ls C q1 q2 q3 q4 hw hS hl
  exact lv_i2c C.1 C.2.1 hd hv (k p e R s m args below meth c H locs cells slots ls C q1 q2 q3 q4 hw hS hl)
theorem V_lcmp (pc' : Nat) {x z : Int64} (hp : pc + 1 = pc') (hd : decode y.2.1 pc = .ok (.lcmp, 1))  (k : V u y d kc ks Q X pc' L (.int (lg_cmp x z) :: st) ws) : V u y d kc ks Q X pc L (.long z :: .long x :: st) ws := by
  subst hp
  intro p e R s m args below meth c H locs cells slots ls C q1 q2 q3 q4 hw hS hl
  exact W.lcmp C.1 C.2.1 hd (k p e R s m args below meth c H locs cells slots ls C q1 q2 q3 q4 hw hS hl)
theorem V_i2d (pc' : Nat) {x : Int32} (hp : pc + 1 = pc') (hd : decode y.2.1 pc = .ok (.i2d, 1))  (k : V u y d kc ks Q X pc' L (.double (FP.i2d x) :: st) ws) : V u y d kc ks Q X pc L (.int x :: st) ws := by
  subst hp
  intro p e R s m args below meth c H locs cells slots ls C q1 q2 q3 q4 hw hS hl
  exact lv_i2d C.1 C.2.1 hd (k p e R s m args below meth c H locs cells slots ls C q1 q2 q3 q4 hw hS hl)
theorem V_i2f (pc' : Nat) {x : Int32} (hp : pc + 1 = pc') (hd : decode y.2.1 pc = .ok (.i2f, 1))  (k : V u y d kc ks Q X pc' L (.float (FP.i2f x) :: st) ws) : V u y d kc ks Q X pc L (.int x :: st) ws := by
  subst hp
  intro p e R s m args below meth c H locs cells slots ls C q1 q2 q3 q4 hw hS hl
  exact lv_i2f C.1 C.2.1 hd (k p e R s m args below meth c H locs cells slots ls C q1 q2 q3 q4 hw hS hl)
theorem V_ddiv (pc' : Nat) {x z : UInt64} (hp : pc + 1 = pc') (hd : decode y.2.1 pc = .ok (.ddiv, 1)) (hne : vf_n64 (FP.ddiv x z)) (k : V u y d kc ks Q X pc' L (.double (FP.ddiv x z) :: st) ws) : V u y d kc ks Q X pc L (.double z :: .double x :: st) ws := by
  subst hp
  intro p e R s m args below meth c H locs cells slots ls C q1 q2 q3 q4 hw hS hl
  exact lv_ddiv C.1 C.2.1 hd hne (k p e R s m args below meth c H locs cells slots ls C q1 q2 q3 q4 hw hS hl)
theorem V_fdiv (pc' : Nat) {x z : UInt32} (hp : pc + 1 = pc') (hd : decode y.2.1 pc = .ok (.fdiv, 1)) (hne : vf_n32 (FP.fdiv x z)) (k : V u y d kc ks Q X pc' L (.float (FP.fdiv x z) :: st) ws) : V u y d kc ks Q X pc L (.float z :: .float x :: st) ws := by
  subst hp
  intro p e R s m args below meth c H locs cells slots ls C q1 q2 q3 q4 hw hS hl
  exact lv_fdiv C.1 C.2.1 hd hne (k p e R s m args below meth c H locs cells slots ls C q1 q2 q3 q4 hw hS hl)
theorem V_dup (pc' : Nat) {v : Value} (hp : pc + 1 = pc') (hd : decode y.2.1 pc = .ok (.dup, 1)) (hv : v.category = 1) (k : V u y d kc ks Q X pc' L (v :: v :: st) ws) : V u y d kc ks Q X pc L (v :: st) ws := by
  subst hp
  intro p e R s m args below meth c H locs cells slots ls C q1 q2 q3 q4 hw hS hl
  exact lv_dup C.1 C.2.1 hd hv (k p e R s m args below meth c H locs cells slots ls C q1 q2 q3 q4 hw hS hl)
theorem V_dup2 (pc' : Nat) {v w : Value} (hp : pc + 1 = pc') (hd : decode y.2.1 pc = .ok (.dup2, 1)) (hv : v.category = 1) (hw1 : w.category = 1) (k : V u y d kc ks Q X pc' L (v :: w :: v :: w :: st) ws) : V u y d kc ks Q X pc L (v :: w :: st) ws := by
  subst hp
  intro p e R s m args below meth c H locs cells slots ls C q1 q2 q3 q4 hw hS hl
  exact lv_dup2_11 C.1 C.2.1 hd hv hw1 (k p e R s m args below meth c H locs cells slots ls C q1 q2 q3 q4 hw hS hl)
theorem V_pop (pc' : Nat) {v : Value} (hp : pc + 1 = pc') (hd : decode y.2.1 pc = .ok (.pop, 1)) (hv : v.category = 1) (k : V u y d kc ks Q X pc' L (st) ws) : V u y d kc ks Q X pc L (v :: st) ws := by
  subst hp
  intro p e R s m args below meth c H locs cells slots ls C q1 q2 q3 q4 hw hS hl
  exact lv_pop C.1 C.2.1 hd hv (k p e R s m args below meth c H locs cells slots ls C q1 q2 q3 q4 hw hS hl)
theorem V_goto (tgt : Nat) {off : Int} (ht : (pc : Int) + off = (tgt : Int)) (hd : decode y.2.1 pc = .ok (.goto off, 3)) (k : V u y d kc ks Q X tgt L st ws) : V u y d kc ks Q X pc L st ws := by
  intro p e R s m args below meth c H locs cells slots ls C q1 q2 q3 q4 hw hS hl
  exact lv_goto C.1 C.2.1 hd ht (k p e R s m args below meth c H locs cells slots ls C q1 q2 q3 q4 hw hS hl)
theorem V_icmp_eq (tgt pc' : Nat) {x z : Int32} {off : Int} (ht : (pc : Int) + off = (tgt : Int)) (hp : pc + 3 = pc') (hd : decode y.2.1 pc = .ok (.if_icmp .eq off, 3)) (kt : x = z → V u y d kc ks Q X tgt L st ws) (kf : ¬ (x = z) → V u y d kc ks Q X pc' L st ws) : V u y d kc ks Q X pc L (.int z :: .int x :: st) ws := by
  subst hp
  intro p e R s m args below meth c H locs cells slots ls C q1 q2 q3 q4 hw hS hl
  exact lv_icmp_eq C.1 C.2.1 hd ht (fun h => kt h p e R s m args below meth c H locs cells slots ls C q1 q2 q3 q4 hw hS hl) (fun h => kf h p e R s m args below meth c H locs cells slots ls C q1 q2 q3 q4 hw hS hl)
theorem V_icmp_ne (tgt pc' : Nat) {x z : Int32} {off : Int} (ht : (pc : Int) + off = (tgt : Int)) (hp : pc + 3 = pc') (hd : decode y.2.1 pc = .ok (.if_icmp .ne off, 3)) (kt : ¬ x = z → V u y d kc ks Q X tgt L st ws) (kf : x = z → V u y d kc ks Q X pc' L st ws) : V u y d kc ks Q X pc L (.int z :: .int x :: st) ws := by
  subst hp
  intro p e R s m args below meth c H locs cells slots ls C q1 q2 q3 q4 hw hS hl
  exact lv_icmp_ne C.1 C.2.1 hd ht (fun h => kt h p e R s m args below meth c H locs cells slots ls C q1 q2 q3 q4 hw hS hl) (fun h => kf h p e R s m args below meth c H locs cells slots ls C q1 q2 q3 q4 hw hS hl)
theorem V_icmp_lt (tgt pc' : Nat) {x z : Int32} {off : Int} (ht : (pc : Int) + off = (tgt : Int)) (hp : pc + 3 = pc') (hd : decode y.2.1 pc = .ok (.if_icmp .lt off, 3)) (kt : x < z → V u y d kc ks Q X tgt L st ws) (kf : ¬ (x < z) → V u y d kc ks Q X pc' L st ws) : V u y d kc ks Q X pc L (.int z :: .int x :: st) ws := by
  subst hp
  intro p e R s m args below meth c H locs cells slots ls C q1 q2 q3 q4 hw hS hl
  exact lv_icmp_lt C.1 C.2.1 hd ht (fun h => kt h p e R s m args below meth c H locs cells slots ls C q1 q2 q3 q4 hw hS hl) (fun h => kf h p e R s m args below meth c H locs cells slots ls C q1 q2 q3 q4 hw hS hl)
theorem V_icmp_ge (tgt pc' : Nat) {x z : Int32} {off : Int} (ht : (pc : Int) + off = (tgt : Int)) (hp : pc + 3 = pc') (hd : decode y.2.1 pc = .ok (.if_icmp .ge off, 3)) (kt : z ≤ x → V u y d kc ks Q X tgt L st ws) (kf : ¬ (z ≤ x) → V u y d kc ks Q X pc' L st ws) : V u y d kc ks Q X pc L (.int z :: .int x :: st) ws := by
  subst hp
  intro p e R s m args below meth c H locs cells slots ls C q1 q2 q3 q4 hw hS hl
  exact lv_icmp_ge C.1 C.2.1 hd ht (fun h => kt h p e R s m args below meth c H locs cells slots ls C q1 q2 q3 q4 hw hS hl) (fun h => kf h p e R s m args below meth c H locs cells slots ls C q1 q2 q3 q4 hw hS hl)
theorem V_icmp_gt (tgt pc' : Nat) {x z : Int32} {off : Int} (ht : (pc : Int) + off = (tgt : Int)) (hp : pc + 3 = pc') (hd : decode y.2.1 pc = .ok (.if_icmp .gt off, 3)) (kt : z < x → V u y d kc ks Q X tgt L st ws) (kf : ¬ (z < x) → V u y d kc ks Q X pc' L st ws) : V u y d kc ks Q X pc L (.int z :: .int x :: st) ws := by
  subst hp
  intro p e R s m args below meth c H locs cells slots ls C q1 q2 q3 q4 hw hS hl
  exact lv_icmp_gt C.1 C.2.1 hd ht (fun h => kt h p e R s m args below meth c H locs cells slots ls C q1 q2 q3 q4 hw hS hl) (fun h => kf h p e R s m args below meth c H locs cells slots ls C q1 q2 q3 q4 hw hS hl)
theorem V_icmp_le (tgt pc' : Nat) {x z : Int32} {off : Int} (ht : (pc : Int) + off = (tgt : Int)) (hp : pc + 3 = pc') (hd : decode y.2.1 pc = .ok (.if_icmp .le off, 3)) (kt : x ≤ z → V u y d kc ks Q X tgt L st ws) (kf : ¬ (x ≤ z) → V u y d kc ks Q X pc' L st ws) : V u y d kc ks Q X pc L (.int z :: .int x :: st) ws := by
  subst hp
  intro p e R s m args below meth c H locs cells slots ls C q1 q2 q3 q4 hw hS hl
  exact lv_icmp_le C.1 C.2.1 hd ht (fun h => kt h p e R s m args below meth c H locs cells slots ls C q1 q2 q3 q4 hw hS hl) (fun h => kf h p e R s m args below meth c H locs cells slots ls C q1 q2 q3 q4 hw hS hl)
theorem V_if_eq (tgt pc' : Nat) {x : Int32} {off : Int} (ht : (pc : Int) + off = (tgt : Int)) (hp : pc + 3 = pc') (hd : decode y.2.1 pc = .ok (.ifCond .eq off, 3)) (kt : x = 0 → V u y d kc ks Q X tgt L st ws) (kf : ¬ (x = 0) → V u y d kc ks Q X pc' L st ws) : V u y d kc ks Q X pc L (.int x :: st) ws := by
  subst hp
  intro p e R s m args below meth c H locs cells slots ls C q1 q2 q3 q4 hw hS hl
  exact lv_if_eq C.1 C.2.1 hd ht (fun h => kt h p e R s m args below meth c H locs cells slots ls C q1 q2 q3 q4 hw hS hl) (fun h => kf h p e R s m args below meth c H locs cells slots ls C q1 q2 q3 q4 hw hS hl)
theorem V_if_ne (tgt pc' : Nat) {x : Int32} {off : Int} (ht : (pc : Int) + off = (tgt : Int)) (hp : pc + 3 = pc') (hd : decode y.2.1 pc = .ok (.ifCond .ne off, 3)) (kt : ¬ x = 0 → V u y d kc ks Q X tgt L st ws) (kf : x = 0 → V u y d kc ks Q X pc' L st ws) : V u y d kc ks Q X pc L (.int x :: st) ws := by
  subst hp
  intro p e R s m args below meth c H locs cells slots ls C q1 q2 q3 q4 hw hS hl
  exact lv_if_ne C.1 C.2.1 hd ht (fun h => kt h p e R s m args below meth c H locs cells slots ls C q1 q2 q3 q4 hw hS hl) (fun h => kf h p e R s m args below meth c H locs cells slots ls C q1 q2 q3 q4 hw hS hl)
theorem V_if_lt (tgt pc' : Nat) {x : Int32} {off : Int} (ht : (pc : Int) + off = (tgt : Int)) (hp : pc + 3 = pc') (hd : decode y.2.1 pc = .ok (.ifCond .lt off, 3)) (kt : x < 0 → V u y d kc ks Q X tgt L st ws) (kf : ¬ (x < 0) → V u y d kc ks Q X pc' L st ws) : V u y d kc ks Q X pc L (.int x :: st) ws := by
  subst hp
  intro p e R s m args below meth c H locs cells slots ls C q1 q2 q3 q4 hw hS hl
  exact lv_if_lt C.1 C.2.1 hd ht (fun h => kt h p e R s m args below meth c H locs cells slots ls C q1 q2 q3 q4 hw hS hl) (fun h => kf h p e R s m args below meth c H locs cells slots ls C q1 q2 q3 q4 hw hS hl)
theorem V_if_ge (tgt pc' : Nat) {x : Int32} {off : Int} (ht : (pc : Int) + off = (tgt : Int)) (hp : pc + 3 = pc') (hd : decode y.2.1 pc = .ok (.ifCond .ge off, 3)) (kt : 0 ≤ x → V u y d kc ks Q X tgt L st ws) (kf : ¬ (0 ≤ x) → V u y d kc ks Q X pc' L st ws) : V u y d kc ks Q X pc L (.int x :: st) ws := by
  subst hp
  intro p e R s m args below meth c H locs cells slots ls C q1 q2 q3 q4 hw hS hl
  exact lv_if_ge C.1 C.2.1 hd ht (fun h => kt h p e R s m args below meth c H locs cells slots ls C q1 q2 q3 q4 hw hS hl) (fun h => kf h p e R s m args below meth c H locs cells slots ls C q1 q2 q3 q4 hw hS hl)
theorem V_if_gt (tgt pc' : Nat) {x : Int32} {off : Int} (ht : (pc : Int) + off = (tgt : Int)) (hp : pc + 3 = pc') (hd : decode y.2.1 pc = .ok (.ifCond .gt off, 3)) (kt : 0 < x → V u y d kc ks Q X tgt L st ws) (kf : ¬ (0 < x) → V u y d kc ks Q X pc' L st ws) : V u y d kc ks Q X pc L (.int x :: st) ws := by
  subst hp
  intro p e R s m args below meth c H locs cells slots ls C q1 q2 q3 q4 hw hS hl
  exact lv_if_gt C.1 C.2.1 hd ht (fun h => kt h p e R s m args below meth c H locs cells slots ls C q1 q2 q3 q4 hw hS hl) (fun h => kf h p e R s m args below meth c H locs cells slots ls C q1 q2 q3 q4 hw hS hl)
theorem V_if_le (tgt pc' : Nat) {x : Int32} {off : Int} (ht : (pc : Int) + off = (tgt : Int)) (hp : pc + 3 = pc') (hd : decode y.2.1 pc = .ok (.ifCond .le off, 3)) (kt : x ≤ 0 → V u y d kc ks Q X tgt L st ws) (kf : ¬ (x ≤ 0) → V u y d kc ks Q X pc' L st ws) : V u y d kc ks Q X pc L (.int x :: st) ws := by
  subst hp
  intro p e R s m args below meth c H locs cells slots ls C q1 q2 q3 q4 hw hS hl
  exact lv_if_le C.1 C.2.1 hd ht (fun h => kt h p e R s m args below meth c H locs cells slots ls C q1 q2 q3 q4 hw hS hl) (fun h => kf h p e R s m args below meth c H locs cells slots ls C q1 q2 q3 q4 hw hS hl)
theorem V_tableIn (tgt : Nat) {dflt lo hi : Int} {offs : Array Int} {len : Nat} {x : Int32} {off : Int} (hd : decode y.2.1 pc = .ok (.tableswitch dflt lo hi offs, len)) (h1 : ¬ x.toInt < lo) (h2 : ¬ hi < x.toInt) (ho : offs[(x.toInt - lo).toNat]? = some off) (ht : (pc : Int) + off = (tgt : Int)) (k : V u y d kc ks Q X tgt L st ws) : V u y d kc ks Q X pc L (.int x :: st) ws := by
  intro p e R s m args below meth c H locs cells slots ls C q1 q2 q3 q4 hw hS hl
  exact lv_tableIn C.1 C.2.1 hd h1 h2 ho ht (k p e R s m args below meth c H locs cells slots ls C q1 q2 q3 q4 hw hS hl)
theorem V_tableOut (tgt : Nat) {dflt lo hi : Int} {offs : Array Int} {len : Nat} {x : Int32} (hd : decode y.2.1 pc = .ok (.tableswitch dflt lo hi offs, len)) (h : x.toInt < lo ∨ hi < x.toInt) (ht : (pc : Int) + dflt = (tgt : Int)) (k : V u y d kc ks Q X tgt L st ws) : V u y d kc ks Q X pc L (.int x :: st) ws := by
  intro p e R s m args below meth c H locs cells slots ls C q1 q2 q3 q4 hw hS hl
  exact lv_tableOut C.1 C.2.1 hd h ht (k p e R s m args below meth c H locs cells slots ls C q1 q2 q3 q4 hw hS hl)
theorem V_getf (pc' : Nat) {idx i ci N j : Nat} {C0 : String} {T : u_T} {fs : List Value} {a : Nat} {v : Value} (hp : pc + 3 = pc') (hd : decode y.2.1 pc = .ok (.getfield idx, 3)) (hin : ∀ w ∈ u_ws C0 T N, w ∈ WALL) (hb : ws[i]? = some (a, .inr (ci, fs))) (hc : vwCl[ci]? = some (C0, T, N)) (hj : j < N) (hl0 : Cond.fieldLink y.1.cls idx (T j).1 (T j).2.1 (T j).2.2.1 ∈ WALL) (hv : fs[j]? = some v) (k : V u y d kc ks Q X pc' L (v :: st) ws) : V u y d kc ks Q X pc L (.ref a :: st) ws := by
  subst hp
  intro p e R s m args below meth c H locs cells slots ls C q1 q2 q3 q4 hw hS hl
  exact va_get C.1 C.2.1 C.2.2.2.2.1 (fun w h => List.mem_cons_of_mem _ (hin w h)) C.2.2.2.2.2.1 C.2.2.2.2.2.2.2.2.2.1 hw.1 i hb hc j hj (C.word hl0) (fun _ h => h) hv hd (k p e R s m args below meth c H locs cells slots ls C q1 q2 q3 q4 hw hS hl)
theorem V_putf (pc' : Nat) {idx i ci N j : Nat} {C0 : String} {T : u_T} {fs : List Value} {a : Nat} {v : Value} (ty0 : Nat → FieldType) {ty : FieldType} (hp : pc + 3 = pc') (hd : decode y.2.1 pc = .ok (.putfield idx, 3)) (hin : ∀ w ∈ u_ws C0 T N, w ∈ WALL) (hty : ∀ k, k < N → parseFieldDescriptor (T k).2.2.1 = some (ty0 k)) (hnm : ∀ a, a < N → ∀ b, b < N → a ≠ b → (T a).2.1 ≠ (T b).2.1) (hb : ws[i]? = some (a, .inr (ci, fs))) (hc : vwCl[ci]? = some (C0, T, N)) (hj : j < N) (hl0 : Cond.fieldLink y.1.cls idx (T j).1 (T j).2.1 (T j).2.2.1 ∈ WALL) (hfin : (T j).2.2.2 = false) (hpd : parseFieldDescriptor (T j).2.2.1 = some ty) (hn : narrow ty v = v) (hfit : fits ty v = true) (hlen : j < fs.length) (k : V u y d kc ks Q X pc' L st (ws.set i (a, .inr (ci, fs.set j v)))) : V u y d kc ks Q X pc L (v :: .ref a :: st) ws := by
  subst hp
  intro p e R s m args below meth c H locs cells slots ls C q1 q2 q3 q4 hw hS hl
  exact va_put C.1 C.2.1 C.2.2.2.2.1 (fun w h => List.mem_cons_of_mem _ (hin w h)) ty0 hty hnm C.2.2.2.2.2.1 C.2.2.2.2.2.2.2.2.2.1 hw.1 hw.2 hS i hb hc j hj (C.word hl0) (fun _ h => h) hfin hpd hn hfit hlen hd (fun H1 locs1 hP hD hS1 => k p e R s m args below meth c H1 locs1 cells slots ls C q1 q2 q3 q4 ⟨hP, hD⟩ hS1 hl)
theorem V_putF (pc' : Nat) {idx i ci N j : Nat} {C0 : String} {T : u_T} {fs : List Value} {a : Nat} {v : Value} (ty0 : Nat → FieldType) {ty : FieldType} (hp : pc + 3 = pc') (hd : decode y.2.1 pc = .ok (.putfield idx, 3)) (hin : ∀ w ∈ u_ws C0 T N, w ∈ WALL) (hty : ∀ k, k < N → parseFieldDescriptor (T k).2.2.1 = some (ty0 k)) (hnm : ∀ a, a < N → ∀ b, b < N → a ≠ b → (T a).2.1 ≠ (T b).2.1) (hb : ws[i]? = some (a, .inr (ci, fs))) (hc : vwCl[ci]? = some (C0, T, N)) (hj : j < N) (hl0 : Cond.fieldLink y.1.cls idx (T j).1 (T j).2.1 (T j).2.2.1 ∈ WALL) (hfin : (T j).2.2.2 = true) (hini : y.1.name = "<init>") (hdec : (T j).1 = y.1.cls) (hpd : parseFieldDescriptor (T j).2.2.1 = some ty) (hn : narrow ty v = v) (hfit : fits ty v = true) (hlen : j < fs.length) (k : V u y d kc ks Q X pc' L st (ws.set i (a, .inr (ci, fs.set j v)))) : V u y d kc ks Q X pc L (v :: .ref a :: st) ws := by
  subst hp
  intro p e R s m args below meth c H locs cells slots ls C q1 q2 q3 q4 hw hS hl
  exact va_putF C.1 C.2.1 C.2.2.2.2.1 (fun w h => List.mem_cons_of_mem _ (hin w h)) ty0 hty hnm C.2.2.2.2.2.1 C.2.2.2.2.2.2.2.2.2.1 hw.1 hw.2 hS i hb hc j hj (C.word hl0) (fun _ h => h) hfin (C.2.2.2.2.2.2.2.2.1.1.trans hini) hdec hpd hn hfit hlen hd (fun H1 locs1 hP hD hS1 => k p e R s m args below meth c H1 locs1 cells slots ls C q1 q2 q3 q4 ⟨hP, hD⟩ hS1 hl)
theorem V_iald (pc' : Nat) {i a N : Nat} {x : Int32} {f : Nat → Int32} (hp : pc + 1 = pc') (hd : decode y.2.1 pc = .ok (.iaload, 1)) (hb : ws[i]? = some (a, .inl (u.2.2.2 0, N, .inl f))) (hx : vp_in x N) (k : V u y d kc ks Q X pc' L (.int (f x.toNatClampNeg) :: st) ws) : V u y d kc ks Q X pc L (.int x :: .ref a :: st) ws := by
  subst hp
  intro p e R s m args below meth c H locs cells slots ls C q1 q2 q3 q4 hw hS hl
  exact va_iald C.1 C.2.1 C.2.2.2.2.2.2.2.2.2.1 hw.1 i 0 hb rfl hx hd (k p e R s m args below meth c H locs cells slots ls C q1 q2 q3 q4 hw hS hl)
theorem V_cald (pc' : Nat) {i a N : Nat} {x : Int32} {f : Nat → Int32} (hp : pc + 1 = pc') (hd : decode y.2.1 pc = .ok (.caload, 1)) (hb : ws[i]? = some (a, .inl (u.2.2.2 1, N, .inl f))) (hx : vp_in x N) (k : V u y d kc ks Q X pc' L (.int (f x.toNatClampNeg) :: st) ws) : V u y d kc ks Q X pc L (.int x :: .ref a :: st) ws := by
  subst hp
  intro p e R s m args below meth c H locs cells slots ls C q1 q2 q3 q4 hw hS hl
  exact va_cald C.1 C.2.1 C.2.2.2.2.2.2.2.2.2.1 hw.1 i 1 hb rfl hx hd (k p e R s m args below meth c H locs cells slots ls C q1 q2 q3 q4 hw hS hl)
theorem V_lald (pc' : Nat) {i a N : Nat} {x : Int32} {f : Nat → Int64} (hp : pc + 1 = pc') (hd : decode y.2.1 pc = .ok (.laload, 1)) (hb : ws[i]? = some (a, .inl (u.2.2.2 4, N, .inr (.inl f)))) (hx : vp_in x N) (k : V u y d kc ks Q X pc' L (.long (f x.toNatClampNeg) :: st) ws) : V u y d kc ks Q X pc L (.int x :: .ref a :: st) ws := by
  subst hp
  intro p e R s m args below meth c H locs cells slots ls C q1 q2 q3 q4 hw hS hl
  exact va_lald C.1 C.2.1 C.2.2.2.2.2.2.2.2.2.1 hw.1 i 4 hb rfl hx hd (k p e R s m args below meth c H locs cells slots ls C q1 q2 q3 q4 hw hS hl)
theorem V_dald (pc' : Nat) {i a N : Nat} {x : Int32} {f : Nat → UInt64} (hp : pc + 1 = pc') (hd : decode y.2.1 pc = .ok (.daload, 1)) (hb : ws[i]? = some (a, .inl (u.2.2.2 5, N, .inr (.inr (.inr (.inl f)))))) (hx : vp_in x N) (k : V u y d kc ks Q X pc' L (.double (f x.toNatClampNeg) :: st) ws) : V u y d kc ks Q X pc L (.int x :: .ref a :: st) ws := by
  subst hp
  intro p e R s m args below meth c H locs cells slots ls C q1 q2 q3 q4 hw hS hl
  exact va_dald C.1 C.2.1 C.2.2.2.2.2.2.2.2.2.1 hw.1 i 5 hb rfl hx hd (k p e R s m args below meth c H locs cells slots ls C q1 q2 q3 q4 hw hS hl)
theorem V_iast (pc' : Nat) {i a N : Nat} {x : Int32} {v : Int32} {f : Nat → Int32} (hp : pc + 1 = pc') (hd : decode y.2.1 pc = .ok (.iastore, 1)) (hb : ws[i]? = some (a, .inl (u.2.2.2 0, N, .inl f))) (hx : vp_in x N) (k : V u y d kc ks Q X pc' L st (ws.set i (a, .inl (u.2.2.2 0, N, .inl (upd f x.toNatClampNeg v))))) : V u y d kc ks Q X pc L (.int v :: .int x :: .ref a :: st) ws := by
  subst hp
  intro p e R s m args below meth c H locs cells slots ls C q1 q2 q3 q4 hw hS hl
  exact va_iast C.1 C.2.1 C.2.2.2.2.2.2.2.2.2.1 hw.1 hw.2 hS i 0 hb rfl hx hd (fun H1 locs1 hP hD hS1 => k p e R s m args below meth c H1 locs1 cells slots ls C q1 q2 q3 q4 ⟨hP, hD⟩ hS1 hl)
theorem V_cast (pc' : Nat) {i a N : Nat} {x : Int32} {v : Int32} {f : Nat → Int32} (hp : pc + 1 = pc') (hd : decode y.2.1 pc = .ok (.castore, 1)) (hb : ws[i]? = some (a, .inl (u.2.2.2 1, N, .inl f))) (hx : vp_in x N) (k : V u y d kc ks Q X pc' L st (ws.set i (a, .inl (u.2.2.2 1, N, .inl (upd f x.toNatClampNeg (vp_nar .char v)))))) : V u y d kc ks Q X pc L (.int v :: .int x :: .ref a :: st) ws := by
  subst hp
  intro p e R s m args below meth c H locs cells slots ls C q1 q2 q3 q4 hw hS hl
  exact va_cast C.1 C.2.1 C.2.2.2.2.2.2.2.2.2.1 hw.1 hw.2 hS i 1 hb rfl hx hd (fun H1 locs1 hP hD hS1 => k p e R s m args below meth c H1 locs1 cells slots ls C q1 q2 q3 q4 ⟨hP, hD⟩ hS1 hl)
theorem V_last (pc' : Nat) {i a N : Nat} {x : Int32} {v : Int64} {f : Nat → Int64} (hp : pc + 1 = pc') (hd : decode y.2.1 pc = .ok (.lastore, 1)) (hb : ws[i]? = some (a, .inl (u.2.2.2 4, N, .inr (.inl f)))) (hx : vp_in x N) (k : V u y d kc ks Q X pc' L st (ws.set i (a, .inl (u.2.2.2 4, N, .inr (.inl (vp_updL f x.toNatClampNeg v)))))) : V u y d kc ks Q X pc L (.long v :: .int x :: .ref a :: st) ws := by
  subst hp
  intro p e R s m args below meth c H locs cells slots ls C q1 q2 q3 q4 hw hS hl
  exact va_last C.1 C.2.1 C.2.2.2.2.2.2.2.2.2.1 hw.1 hw.2 hS i 4 hb rfl hx hd (fun H1 locs1 hP hD hS1 => k p e R s m args below meth c H1 locs1 cells slots ls C q1 q2 q3 q4 ⟨hP, hD⟩ hS1 hl)
theorem V_dast (pc' : Nat) {i a N : Nat} {x : Int32} {v : UInt64} {f : Nat → UInt64} (hp : pc + 1 = pc') (hd : decode y.2.1 pc = .ok (.dastore, 1)) (hb : ws[i]? = some (a, .inl (u.2.2.2 5, N, .inr (.inr (.inr (.inl f)))))) (hx : vp_in x N) (k : V u y d kc ks Q X pc' L st (ws.set i (a, .inl (u.2.2.2 5, N, .inr (.inr (.inr (.inl (vf_upd f x.toNatClampNeg v)))))))) : V u y d kc ks Q X pc L (.double v :: .int x :: .ref a :: st) ws := by
  subst hp
  intro p e R s m args below meth c H locs cells slots ls C q1 q2 q3 q4 hw hS hl
  exact va_dast C.1 C.2.1 C.2.2.2.2.2.2.2.2.2.1 hw.1 hw.2 hS i 5 hb rfl hx hd (fun H1 locs1 hP hD hS1 => k p e R s m args below meth c H1 locs1 cells slots ls C q1 q2 q3 q4 ⟨hP, hD⟩ hS1 hl)
theorem V_aaldE (pc' : Nat) {i a N : Nat} {x : Int32} {f : Nat → Option Nat} {r : Nat} (hp : pc + 1 = pc') (hd : decode y.2.1 pc = .ok (.aaload, 1)) (hb : ws[i]? = some (a, .inl (u.2.2.2 2, N, .inr (.inr (.inr (.inr f)))))) (hx : vp_in x N) (hf : f x.toNatClampNeg = some r) (k : V u y d kc ks Q X pc' L (.ref r :: st) ws) : V u y d kc ks Q X pc L (.int x :: .ref a :: st) ws := by
  subst hp
  intro p e R s m args below meth c H locs cells slots ls C q1 q2 q3 q4 hw hS hl
  refine va_aldq C.1 C.2.1 C.2.2.2.2.2.2.2.2.2.1 hw.1 i 2 hb rfl hx hd ?_
  rw [hf]
  exact (k p e R s m args below meth c H locs cells slots ls C q1 q2 q3 q4 hw hS hl)
theorem V_aaldH (pc' : Nat) {i a N : Nat} {x : Int32} {f : Nat → Option Nat} {r : Nat} (hp : pc + 1 = pc') (hd : decode y.2.1 pc = .ok (.aaload, 1)) (hb : ws[i]? = some (a, .inl (u.2.2.2 3, N, .inr (.inr (.inr (.inr f)))))) (hx : vp_in x N) (hf : f x.toNatClampNeg = some r) (k : V u y d kc ks Q X pc' L (.ref r :: st) ws) : V u y d kc ks Q X pc L (.int x :: .ref a :: st) ws := by
  subst hp
  intro p e R s m args below meth c H locs cells slots ls C q1 q2 q3 q4 hw hS hl
  refine va_aldq C.1 C.2.1 C.2.2.2.2.2.2.2.2.2.1 hw.1 i 3 hb rfl hx hd ?_
  rw [hf]
  exact (k p e R s m args below meth c H locs cells slots ls C q1 q2 q3 q4 hw hS hl)
theorem V_alen (pc' : Nat) {i a : Nat} (t0 : Nat) {cA : ClassId} {x : vp_A} {ty : FieldType} (v : Int32) (hp : pc + 1 = pc') (hd : decode y.2.1 pc = .ok (.arraylength, 1)) (hb : ws[i]? = some (a, .inl (cA, x))) (ht : (uT u)[t0]? = some (cA, ty)) (hv : Int32.ofNat x.1 = v) (k : V u y d kc ks Q X pc' L (.int v :: st) ws) : V u y d kc ks Q X pc L (.ref a :: st) ws := by
  subst hp
  intro p e R s m args below meth c H locs cells slots ls C q1 q2 q3 q4 hw hS hl
  exact va_alen C.1 C.2.1 C.2.2.2.2.2.2.2.2.2.1 hw.1 i t0 hb ht hv hd (k p e R s m args below meth c H locs cells slots ls C q1 q2 q3 q4 hw hS hl)
theorem V_mmin (pc' : Nat) {idx : Nat} {x z : Int32} (hp : pc + 3 = pc') (hd : decode y.2.1 pc = .ok (.invokestatic idx, 3)) (hl0 : Cond.methodLink y.1.cls idx Lib.Math.min.name ∈ WALL) (hs : Cond.static Lib.Math.min.name ∈ WALL) (hi : Cond.initialized "java/lang/Math" ∈ WALL) (hc : Cond.code Lib.Math.min.name Lib.Math.min.code 2 (some .int) ∈ WALL) (hcat : (st.map fun v => v.category).sum ≤ 8) (hdd : 1 ≤ d) (k : V u y d kc ks Q X pc' L (.int (if z < x then z else x) :: st) ws) : V u y d kc ks Q X pc L (.int z :: .int x :: st) ws := by
  subst hp
  intro p e R s m args below meth c H locs cells slots ls C q1 q2 q3 q4 hw hS hl
  exact va_mmin C.1 C.2.1 (C.2.2.1.trans hl.1.symm) C.2.2.2.2.2.1 (C.word hl0) (C.word hs) (C.word hi) (C.word hc) (by omega) (by omega) (by omega) (by omega) hd (k p e R s m args below meth c H locs cells slots ls C q1 q2 q3 q4 hw hS hl)
theorem V_mmax (pc' : Nat) {idx : Nat} {x z : Int32} (hp : pc + 3 = pc') (hd : decode y.2.1 pc = .ok (.invokestatic idx, 3)) (hl0 : Cond.methodLink y.1.cls idx Lib.Math.max.name ∈ WALL) (hs : Cond.static Lib.Math.max.name ∈ WALL) (hi : Cond.initialized "java/lang/Math" ∈ WALL) (hc : Cond.code Lib.Math.max.name Lib.Math.max.code 2 (some .int) ∈ WALL) (hcat : (st.map fun v => v.category).sum ≤ 8) (hdd : 1 ≤ d) (k : V u y d kc ks Q X pc' L (.int (if x < z then z else x) :: st) ws) : V u y d kc ks Q X pc L (.int z :: .int x :: st) ws := by
  subst hp
  intro p e R s m args below meth c H locs cells slots ls C q1 q2 q3 q4 hw hS hl
  exact va_mmax C.1 C.2.1 (C.2.2.1.trans hl.1.symm) C.2.2.2.2.2.1 (C.word hl0) (C.word hs) (C.word hi) (C.word hc) (by omega) (by omega) (by omega) (by omega) hd (k p e R s m args below meth c H locs cells slots ls C q1 q2 q3 q4 hw hS hl)
theorem V_mabs (pc' : Nat) {idx : Nat} {x : Int32} (hp : pc + 3 = pc') (hd : decode y.2.1 pc = .ok (.invokestatic idx, 3)) (hl0 : Cond.methodLink y.1.cls idx Lib.Math.abs.name ∈ WALL) (hs : Cond.static Lib.Math.abs.name ∈ WALL) (hi : Cond.initialized "java/lang/Math" ∈ WALL) (hc : Cond.code Lib.Math.abs.name Lib.Math.abs.code 1 (some .int) ∈ WALL) (hcat : (st.map fun v => v.category).sum ≤ 8) (hdd : 1 ≤ d) (k : V u y d kc ks Q X pc' L (.int (if 0 ≤ x then x else 0 - x) :: st) ws) : V u y d kc ks Q X pc L (.int x :: st) ws := by
  subst hp
  intro p e R s m args below meth c H locs cells slots ls C q1 q2 q3 q4 hw hS hl
  exact va_mabs C.1 C.2.1 (C.2.2.1.trans hl.1.symm) C.2.2.2.2.2.1 (C.word hl0) (C.word hs) (C.word hi) (C.word hc) (by omega) (by omega) (by omega) (by omega) hd (k p e R s m args below meth c H locs cells slots ls C q1 q2 q3 q4 hw hS hl)
theorem V_copy (pc' : Nat) {idx i1 i2 a0 a n0 n1 : Nat} {f g : Nat → Int32} {sp dp n : Int32} (hp : pc + 3 = pc') (hd : decode y.2.1 pc = .ok (.invokestatic idx, 3)) (hl0 : Cond.methodLink y.1.cls idx arraycopyName ∈ WALL) (hnat : Cond.native arraycopyName ∈ WALL) (hs : Cond.static arraycopyName ∈ WALL) (hi : Cond.initialized "java/lang/System" ∈ WALL) (ha0 : ws[i1]? = some (a0, .inl (u.2.2.2 0, n0, .inl f))) (ha1 : ws[i2]? = some (a, .inl (u.2.2.2 0, n1, .inl g))) (h1 : ¬ sp < 0) (h2 : ¬ dp < 0) (h3 : ¬ n < 0) (h4 : sp.toNatClampNeg + n.toNatClampNeg ≤ n0) (h5 : dp.toNatClampNeg + n.toNatClampNeg ≤ n1)
    (hcat : (st.map fun v => v.category).sum ≤ 8) (hdd : 1 ≤ d) (k : V u y d kc ks Q X pc' L st (ws.set i2 (a, .inl (u.2.2.2 0, n1, .inl (va_cpy f g sp.toNatClampNeg dp.toNatClampNeg n.toNatClampNeg))))) : V u y d kc ks Q X pc L (.int n :: .int dp :: .ref a :: .int sp :: .ref a0 :: st) ws := by
  subst hp
  intro p e R s m args below meth c H locs cells slots ls C q1 q2 q3 q4 hw hS hl
  have hq : nativeFrameWords "java/lang/System" "arraycopy" 5 + 11 ≤ 56 := by decide
  exact va_copyi C.1 C.2.1 (C.2.2.1.trans hl.1.symm) C.2.2.2.2.2.1 (C.word hl0) (C.word hnat) (C.word hs) (C.word hi) C.2.2.2.2.2.2.2.2.2.1 hw.1 hw.2 hS i1 i2 0 0 ha0 ha1 rfl rfl rfl h1 h2 h3 h4 h5 (fun _ _ => rfl) (by omega) (by omega) hd (fun H1 locs1 hP hD hS1 => k p e R s m args below meth c H1 locs1 cells slots ls C q1 q2 q3 q4 ⟨hP, hD⟩ hS1 hl)
theorem V_objInit (pc' : Nat) {idx a : Nat} (hp : pc + 3 = pc') (hd : decode y.2.1 pc = .ok (.invokespecial idx, 3)) (hl0 : Cond.methodLink y.1.cls idx Lib.objectInit ∈ WALL) (hi : Cond.instanceMethod Lib.objectInit ∈ WALL) (hc : Cond.code Lib.objectInit ⟨#[0xb1]⟩ 1 none ∈ WALL) (hcat : (st.map fun v => v.category).sum ≤ 8) (hdd : 1 ≤ d) (k : V u y d kc ks Q X pc' L st ws) : V u y d kc ks Q X pc L (.ref a :: st) ws := by
  subst hp
  intro p e R s m args below meth c H locs cells slots ls C q1 q2 q3 q4 hw hS hl
  refine W.objInit C.1 C.2.1 C.2.2.2.2.2.1 (C.word hl0) (C.word hi) (C.word hc) rfl (hl.1.trans C.2.2.1.symm) rfl hd (by omega) ?_ (k p e R s m args below meth c H locs cells slots ls C q1 q2 q3 q4 hw hS hl)
  show 2 * 0 + _ + 12 ≤ R.locals
  omega
end VROWS
