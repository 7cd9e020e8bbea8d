/-! THE PLAIN LAYER WITH THE LAW'S SCRIPT (laid by wip/whole/src/p73.py) -/
/-- what is known in the law's frame -/
def CxL (u : Un) (y : MI) (p : Program) (s : State) (m : MethodId) (args : Array Value) (meth : Method) (c : Code) : Prop :=
  p.tables.exec = Jvm.exec ∧ c.code = y.2.1 ∧ c.maxLocals = y.2.2.1 ∧ meth.sig.returnType = y.2.2.2 ∧ (∀ w ∈ WALL, w.before args s = true) ∧ s.vm.findClass y.1.cls = some m.cls ∧ meth.locks = false ∧ True ∧ (True ∧ u.1.stackTraces = false) ∧ Kt u s s.heap
theorem CxL.word {u : Un} {y : MI} {p : Program} {s : State} {m : MethodId} {args : Array Value} {meth : Method} {c : Code} (C : CxL u y p s m args meth c) {w : Cond} (h : w ∈ WALL) : w.before args s = true := C.2.2.2.2.1 w h
theorem CxL.kt {u : Un} {y : MI} {p : Program} {s U : State} {m : MethodId} {args : Array Value} {meth : Method} {c : Code} {H : Heap} {locs : List Loc} (C : CxL u y p s m args meth c) (hS : va_S (uA u) s.heap H locs) (hU : U.heap = H) (hW : s.WarmedH U.vm) : Kt u U U.heap := by
  have h1 := C.2.2.2.2.2.2.2.2.2
  have h2 : Kt u s U.heap := by rw [hU]; exact Kt.kept h1 hS.1 hS.2.1
  exact Kt.warm hW h2
theorem WALL_goodIn {z : MI} (h : Cond.code z.1 z.2.1 z.2.2.1 z.2.2.2 ∈ WALL) : GoodIn WALL (mW z) := fun w hw => by
  rcases List.mem_cons.mp hw with e | e
  · rw [e]; exact ⟨h, good_of_word (WALL_good _ h)⟩
  · exact ⟨e, good_of_word (WALL_good _ e)⟩
theorem Cal.bl {u : Un} {y z : MI} {n d d' kc' ks' idx : Nat} {p : Program} {R : Room} {s : State} {m : MethodId} {args : Array Value} {meth : Method} {c : Code} (k : Cal z n) (C : CxL u y p s m args meth c) (hl : Cond.methodLink y.1.cls idx z.1 ∈ WALL) (hd : d' + 1 ≤ d) (q1 : d ≤ R.frames) (q2 : 64 * d ≤ R.locals) :
    CallB R s args y.1.cls idx z.1 z.2.1 z.2.2.1 z.2.2.2 (mW z) (rmD d' kc' ks') kc' ks' n := by
  have h3 := k.2.2.1
  refine callB_of n C.2.2.2.2.1 (WALL_goodIn k.1) rfl rfl rfl (C.word k.2.1) (C.word hl) k.2.2.2 ⟨?_, ?_⟩
  · show d' + 1 ≤ R.frames
    omega
  · show 8 + (z.2.2.1 + 11) + 64 * d' ≤ R.locals
    omega
theorem L_run {p : Program} {l : Launch} {e : Env} {R : Room} {s : State} {m : MethodId} {args : Array Value} {below : List Frame} {meth : Method} {c : Code} {H : Heap} {locs : List Loc} {cells slots mc ms : Nat} {pc : Nat} {ls : Array Slot} {st0 st : List Value} {a : Array Value} {u : Un} {Qs : State → Prop}
    {Q' : Option Value → va_W → Prop} {X' : String → va_W → Prop}
    (hr : vx_Run p l e R s m args below meth c H locs cells slots mc ms (F0 m pc ls st0) st (cQ u Q' a) (cX u X') (uA u)) (hS : va_S (uA u) s.heap H locs)
    (kr : ∀ (v : Option Value) (ws' : va_W) (H1 : Heap) (locs1 : List Loc), Q' v ws' → Wd u ws' H1 → va_S (uA u) s.heap H1 locs1 → W p l e R s m args below meth c H1 locs1 (cells + mc) (slots + ms) Qs (F0 m (pc + 3) ls (v.toList ++ st)))
    (kx : ∀ (E : String) (ws' : va_W), X' E ws' → False) :
    W p l e R s m args below meth c H locs cells slots Qs (F0 m pc ls st0) := by
  intro T hT Y
  rcases hr T hT Y with ⟨v, st₀, t, T', L, h0, Y', hL, e1, e2, ⟨⟨v', ws', hv, hq, hw⟩, hF⟩, sg⟩ | ⟨q, st₀, t, T', L, E, ce, h0, Y', hL, e1, e2, ⟨ws', hx, hw, hF⟩, hce, hvm, hcl, sg⟩
  · cases hv
    obtain ⟨-, -, hS'⟩ := vx_keep (A1 := uA u) h0 e1 hS (fun _ _ h => h) (fun _ h => h) hL hF
    obtain ⟨t2, a1, b1⟩ := kr _ ws' T'.heap (locs ++ L) hq (by rw [e1]; exact hw) hS' T' rfl Y'
    exact ⟨t2, sg t2 a1, b1⟩
  · exact absurd hx (kx E ws')
/-- the plain layer once more: S is known of the start (the law's script) -/
def VS (u : Un) (y : MI) (S : State → Prop) (d kc ks : Nat) (Q : Option Value → va_W → Prop) (X : String → va_W → Prop) (pc : Nat) (L : List (Nat × Value)) (st : List Value) (ws : va_W) : Prop :=
  ∀ (p : Program) (e : Env) (R : Room) (s : State) (m : MethodId) (args : Array Value) (below : List Frame) (meth : Method) (c : Code) (H : Heap) (locs : List Loc) (cells slots : Nat) (ls : Array Slot),
    CxL u y p s m args meth c → S s → d ≤ R.frames → 64 * d ≤ R.locals → cells + kc ≤ R.cells → slots + ks ≤ R.slots → Wd u ws H → va_S (uA u) s.heap H locs → lv_has ls y.2.2.1 L →
    W p u.1 e R s m args below meth c H locs cells slots (vx_MQ below (cQ u Q) (cX u X) args s R.cells R.slots (uA u)) (F0 m pc ls st)
section VSROWS
variable {u : Un} {y z : MI} {S : State → Prop} {d d' kc ks kc' ks' : Nat} {Q Q' : Option Value → va_W → Prop} {X X' : String → va_W → Prop} {pc : Nat} {L : List (Nat × Value)} {st st0 As : List Value} {ws : va_W}
theorem T_aload_n (pc' : Nat) {k : Fin 4} {x : Nat} (hp : pc + 1 = pc') (hd : decode y.2.1 pc = .ok (.aload_n k, 1)) (hk : lkL L (k : Nat) = some (.ref x)) (k : VS u y S d kc ks Q X pc' L (.ref x :: st) ws) : VS u y S d kc ks Q X pc L (st) ws := by
  subst hp
  intro p e R s m args below meth c H locs cells slots ls C s0 q1 q2 q3 q4 hw hS hl
  exact lv_aload_n C.1 C.2.1 hd rfl (lv_lkL hl hk) (k p e R s m args below meth c H locs cells slots ls C s0 q1 q2 q3 q4 hw hS hl)
theorem T_aload (pc' : Nat) {i : Nat} {x : Nat} (hp : pc + 2 = pc') (hd : decode y.2.1 pc = .ok (.aload i, 2)) (hk : lkL L i = some (.ref x)) (k : VS u y S d kc ks Q X pc' L (.ref x :: st) ws) : VS u y S d kc ks Q X pc L (st) ws := by
  subst hp
  intro p e R s m args below meth c H locs cells slots ls C s0 q1 q2 q3 q4 hw hS hl
  exact lv_aload C.1 C.2.1 hd (lv_lkL hl hk) (k p e R s m args below meth c H locs cells slots ls C s0 q1 q2 q3 q4 hw hS hl)
theorem T_iload_n (pc' : Nat) {k : Fin 4} {x : Int32} (hp : pc + 1 = pc') (hd : decode y.2.1 pc = .ok (.iload_n k, 1)) (hk : lkL L (k : Nat) = some (.int x)) (k : VS u y S d kc ks Q X pc' L (.int x :: st) ws) : VS u y S d kc ks Q X pc L (st) ws := by
  subst hp
  intro p e R s m args below meth c H locs cells slots ls C s0 q1 q2 q3 q4 hw hS hl
  exact lv_iload_n C.1 C.2.1 hd rfl (lv_lkL hl hk) (k p e R s m args below meth c H locs cells slots ls C s0 q1 q2 q3 q4 hw hS hl)
theorem T_iload (pc' : Nat) {i : Nat} {x : Int32} (hp : pc + 2 = pc') (hd : decode y.2.1 pc = .ok (.iload i, 2)) (hk : lkL L i = some (.int x)) (k : VS u y S d kc ks Q X pc' L (.int x :: st) ws) : VS u y S d kc ks Q X pc L (st) ws := by
  subst hp
  intro p e R s m args below meth c H locs cells slots ls C s0 q1 q2 q3 q4 hw hS hl
  exact lv_iload C.1 C.2.1 hd (lv_lkL hl hk) (k p e R s m args below meth c H locs cells slots ls C s0 q1 q2 q3 q4 hw hS hl)
theorem T_dload (pc' : Nat) {i : Nat} {x : UInt64} (hp : pc + 2 = pc') (hd : decode y.2.1 pc = .ok (.dload i, 2)) (hk : lkL L i = some (.double x)) (k : VS u y S d kc ks Q X pc' L (.double x :: st) ws) : VS u y S d kc ks Q X pc L (st) ws := by
  subst hp
  intro p e R s m args below meth c H locs cells slots ls C s0 q1 q2 q3 q4 hw hS hl
  exact lv_dload C.1 C.2.1 hd (lv_lkL hl hk) (k p e R s m args below meth c H locs cells slots ls C s0 q1 q2 q3 q4 hw hS hl)
theorem T_astore_n (pc' : Nat) {k0 : Fin 4} {i : Nat} {x : Nat} (hp : pc + 1 = pc') (hd : decode y.2.1 pc = .ok (.astore_n k0, 1)) (hi : (k0 : Nat) = i) (hn : i < y.2.2.1) (k : VS u y S d kc ks Q X pc' (stL i (.ref x) L) st ws) : VS u y S d kc ks Q X pc L (.ref x :: st) ws := by
  subst hp
  intro p e R s m args below meth c H locs cells slots ls C s0 q1 q2 q3 q4 hw hS hl
  exact lv_astore_n C.1 C.2.1 hd hi hl hn rfl (fun ls' hl' => k p e R s m args below meth c H locs cells slots ls' C s0 q1 q2 q3 q4 hw hS (lv_stL hl'))
theorem T_astore (pc' : Nat) {i : Nat} {x : Nat} (hp : pc + 2 = pc') (hd : decode y.2.1 pc = .ok (.astore i, 2)) (hn : i < y.2.2.1) (k : VS u y S d kc ks Q X pc' (stL i (.ref x) L) st ws) : VS u y S d kc ks Q X pc L (.ref x :: st) ws := by
  subst hp
  intro p e R s m args below meth c H locs cells slots ls C s0 q1 q2 q3 q4 hw hS hl
  exact lv_astore C.1 C.2.1 hd hl hn rfl (fun ls' hl' => k p e R s m args below meth c H locs cells slots ls' C s0 q1 q2 q3 q4 hw hS (lv_stL hl'))
theorem T_istore_n (pc' : Nat) {k0 : Fin 4} {i : Nat} {x : Int32} (hp : pc + 1 = pc') (hd : decode y.2.1 pc = .ok (.istore_n k0, 1)) (hi : (k0 : Nat) = i) (hn : i < y.2.2.1) (k : VS u y S d kc ks Q X pc' (stL i (.int x) L) st ws) : VS u y S d kc ks Q X pc L (.int x :: st) ws := by
  subst hp
  intro p e R s m args below meth c H locs cells slots ls C s0 q1 q2 q3 q4 hw hS hl
  exact lv_istore_n C.1 C.2.1 hd hi hl hn rfl (fun ls' hl' => k p e R s m args below meth c H locs cells slots ls' C s0 q1 q2 q3 q4 hw hS (lv_stL hl'))
theorem T_istore (pc' : Nat) {i : Nat} {x : Int32} (hp : pc + 2 = pc') (hd : decode y.2.1 pc = .ok (.istore i, 2)) (hn : i < y.2.2.1) (k : VS u y S d kc ks Q X pc' (stL i (.int x) L) st ws) : VS u y S d kc ks Q X pc L (.int x :: st) ws := by
  subst hp
  intro p e R s m args below meth c H locs cells slots ls C s0 q1 q2 q3 q4 hw hS hl
  exact lv_istore C.1 C.2.1 hd hl hn rfl (fun ls' hl' => k p e R s m args below meth c H locs cells slots ls' C s0 q1 q2 q3 q4 hw hS (lv_stL hl'))
theorem T_iinc (pc' : Nat) {i : Nat} {n : Int} {x : Int32} (v : Int32) (hp : pc + 3 = pc') (hd : decode y.2.1 pc = .ok (.iinc i n, 3)) (hk : lkL L i = some (.int x)) (hv : x + Int32.ofInt n = v) (hn : i < y.2.2.1) (k : VS u y S d kc ks Q X pc' (stL i (.int v) L) st ws) : VS u y S d kc ks Q X pc L st ws := by
  subst hp
  intro p e R s m args below meth c H locs cells slots ls C s0 q1 q2 q3 q4 hw hS hl
  obtain ⟨j, hj⟩ := List.mem_iff_getElem?.mp (lkL_mem L i _ hk)
  exact lv_iinc C.1 C.2.1 hd hl hj hv hn rfl (fun ls' hl' => k p e R s m args below meth c H locs cells slots ls' C s0 q1 q2 q3 q4 hw hS (lv_stL hl'))
theorem T_iconst (pc' : Nat) {n : Int} (v : Int32) (hp : pc + 1 = pc') (hd : decode y.2.1 pc = .ok (.iconst n, 1)) (hv : Int32.ofInt n = v) (k : VS u y S d kc ks Q X pc' L (.int v :: st) ws) : VS u y S d kc ks Q X pc L (st) ws := by
  subst hp
  intro p e R s m args below meth c H locs cells slots ls C s0 q1 q2 q3 q4 hw hS hl
  exact lv_iconst C.1 C.2.1 hd hv (k p e R s m args below meth c H locs cells slots ls C s0 q1 q2 q3 q4 hw hS hl)
theorem T_bipush (pc' : Nat) {n : Int} (v : Int32) (hp : pc + 2 = pc') (hd : decode y.2.1 pc = .ok (.bipush n, 2)) (hv : (Int8.ofInt n).toInt32 = v) (k : VS u y S d kc ks Q X pc' L (.int v :: st) ws) : VS u y S d kc ks Q X pc L (st) ws := by
  subst hp
  intro p e R s m args below meth c H locs cells slots ls C s0 q1 q2 q3 q4 hw hS hl
  exact lv_bipush C.1 C.2.1 hd hv (k p e R s m args below meth c H locs cells slots ls C s0 q1 q2 q3 q4 hw hS hl)
theorem T_lconst (pc' : Nat) {n : Fin 2} (v : Int64) (hp : pc + 1 = pc') (hd : decode y.2.1 pc = .ok (.lconst n, 1)) (hv : Int64.ofNat (n : Nat) = v) (k : VS u y S d kc ks Q X pc' L (.long v :: st) ws) : VS u y S d kc ks Q X pc L (st) ws := by
  subst hp
  intro p e R s m args below meth c H locs cells slots ls C s0 q1 q2 q3 q4 hw hS hl
  exact lv_lconst C.1 C.2.1 hd hv (k p e R s m args below meth c H locs cells slots ls C s0 q1 q2 q3 q4 hw hS hl)
theorem T_iadd (pc' : Nat) {x z : Int32} (hp : pc + 1 = pc') (hd : decode y.2.1 pc = .ok (.iadd, 1))  (k : VS u y S d kc ks Q X pc' L (.int (x + z) :: st) ws) : VS u y S d kc ks Q X pc L (.int z :: .int x :: st) ws := by
  subst hp
  intro p e R s m args below meth c H locs cells slots ls C s0 q1 q2 q3 q4 hw hS hl
  exact lv_iadd C.1 C.2.1 hd (k p e R s m args below meth c H locs cells slots ls C s0 q1 q2 q3 q4 hw hS hl)
theorem T_isub (pc' : Nat) {x z : Int32} (hp : pc + 1 = pc') (hd : decode y.2.1 pc = .ok (.isub, 1))  (k : VS u y S d kc ks Q X pc' L (.int (x - z) :: st) ws) : VS u y S d kc ks Q X pc L (.int z :: .int x :: st) ws := by
  subst hp
  intro p e R s m args below meth c H locs cells slots ls C s0 q1 q2 q3 q4 hw hS hl
  exact lv_isub C.1 C.2.1 hd (k p e R s m args below meth c H locs cells slots ls C s0 q1 q2 q3 q4 hw hS hl)
theorem T_iand (pc' : Nat) {x z : Int32} (hp : pc + 1 = pc') (hd : decode y.2.1 pc = .ok (.iand, 1))  (k : VS u y S d kc ks Q X pc' L (.int (x &&& z) :: st) ws) : VS u y S d kc ks Q X pc L (.int z :: .int x :: st) ws := by
  subst hp
  intro p e R s m args below meth c H locs cells slots ls C s0 q1 q2 q3 q4 hw hS hl
  exact lv_iand C.1 C.2.1 hd (k p e R s m args below meth c H locs cells slots ls C s0 q1 q2 q3 q4 hw hS hl)
theorem T_i2l (pc' : Nat) {x : Int32} (v : Int64) (hp : pc + 1 = pc') (hd : decode y.2.1 pc = .ok (.i2l, 1)) (hv : x.toInt64 = v) (k : VS u y S d kc ks Q X pc' L (.long v :: st) ws) : VS u y S d kc ks Q X pc L (.int x :: st) ws := by
  subst hp
  intro p e R s m args below meth c H locs cells slots ls C s0 q1 q2 q3 q4 hw hS hl
  exact lv_i2l C.1 C.2.1 hd hv (k p e R s m args below meth c H locs cells slots ls C s0 q1 q2 q3 q4 hw hS hl)
theorem T_i2c (pc' : Nat) {x : Int32} (v : Int32) (hp : pc + 1 = pc') (hd : decode y.2.1 pc = .ok (.i2c, 1)) (hv : (x.toUInt32 % 65536).toInt32 = v) (k : VS u y S d kc ks Q X pc' L (.int v :: st) ws) : VS u y S d kc ks Q X pc L (.int x :: st) ws := by
  subst hp
  intro p e R s m args below meth c H locs cells slots ls C s0 q1 q2 q3 q4 hw hS hl
  exact lv_i2c C.1 C.2.1 hd hv (k p e R s m args below meth c H locs cells slots ls C s0 q1 q2 q3 q4 hw hS hl)
theorem T_lcmp (pc' : Nat) {x z : Int64} (hp : pc + 1 = pc') (hd : decode y.2.1 pc = .ok (.lcmp, 1))  (k : VS u y S d kc ks Q X pc' L (.int (lg_cmp x z) :: st) ws) : VS u y S d kc ks Q X pc L (.long z :: .long x :: st) ws := by
  subst hp
  intro p e R s m args below meth c H locs cells slots ls C s0 q1 q2 q3 q4 hw hS hl
  exact W.lcmp C.1 C.2.1 hd (k p e R s m args below meth c H locs cells slots ls C s0 q1 q2 q3 q4 hw hS hl)
theorem T_goto (tgt : Nat) {off : Int} (ht : (pc : Int) + off = (tgt : Int)) (hd : decode y.2.1 pc = .ok (.goto off, 3)) (k : VS u y S d kc ks Q X tgt L st ws) : VS u y S d kc ks Q X pc L st ws := by
  intro p e R s m args below meth c H locs cells slots ls C s0 q1 q2 q3 q4 hw hS hl
  exact lv_goto C.1 C.2.1 hd ht (k p e R s m args below meth c H locs cells slots ls C s0 q1 q2 q3 q4 hw hS hl)
theorem T_icmp_eq (tgt pc' : Nat) {x z : Int32} {off : Int} (ht : (pc : Int) + off = (tgt : Int)) (hp : pc + 3 = pc') (hd : decode y.2.1 pc = .ok (.if_icmp .eq off, 3)) (kt : x = z → VS u y S d kc ks Q X tgt L st ws) (kf : ¬ (x = z) → VS u y S d kc ks Q X pc' L st ws) : VS u y S d kc ks Q X pc L (.int z :: .int x :: st) ws := by
  subst hp
  intro p e R s m args below meth c H locs cells slots ls C s0 q1 q2 q3 q4 hw hS hl
  exact lv_icmp_eq C.1 C.2.1 hd ht (fun h => kt h p e R s m args below meth c H locs cells slots ls C s0 q1 q2 q3 q4 hw hS hl) (fun h => kf h p e R s m args below meth c H locs cells slots ls C s0 q1 q2 q3 q4 hw hS hl)
theorem T_icmp_gt (tgt pc' : Nat) {x z : Int32} {off : Int} (ht : (pc : Int) + off = (tgt : Int)) (hp : pc + 3 = pc') (hd : decode y.2.1 pc = .ok (.if_icmp .gt off, 3)) (kt : z < x → VS u y S d kc ks Q X tgt L st ws) (kf : ¬ (z < x) → VS u y S d kc ks Q X pc' L st ws) : VS u y S d kc ks Q X pc L (.int z :: .int x :: st) ws := by
  subst hp
  intro p e R s m args below meth c H locs cells slots ls C s0 q1 q2 q3 q4 hw hS hl
  exact lv_icmp_gt C.1 C.2.1 hd ht (fun h => kt h p e R s m args below meth c H locs cells slots ls C s0 q1 q2 q3 q4 hw hS hl) (fun h => kf h p e R s m args below meth c H locs cells slots ls C s0 q1 q2 q3 q4 hw hS hl)
theorem T_if_eq (tgt pc' : Nat) {x : Int32} {off : Int} (ht : (pc : Int) + off = (tgt : Int)) (hp : pc + 3 = pc') (hd : decode y.2.1 pc = .ok (.ifCond .eq off, 3)) (kt : x = 0 → VS u y S d kc ks Q X tgt L st ws) (kf : ¬ (x = 0) → VS u y S d kc ks Q X pc' L st ws) : VS u y S d kc ks Q X pc L (.int x :: st) ws := by
  subst hp
  intro p e R s m args below meth c H locs cells slots ls C s0 q1 q2 q3 q4 hw hS hl
  exact lv_if_eq C.1 C.2.1 hd ht (fun h => kt h p e R s m args below meth c H locs cells slots ls C s0 q1 q2 q3 q4 hw hS hl) (fun h => kf h p e R s m args below meth c H locs cells slots ls C s0 q1 q2 q3 q4 hw hS hl)
theorem T_if_ne (tgt pc' : Nat) {x : Int32} {off : Int} (ht : (pc : Int) + off = (tgt : Int)) (hp : pc + 3 = pc') (hd : decode y.2.1 pc = .ok (.ifCond .ne off, 3)) (kt : ¬ x = 0 → VS u y S d kc ks Q X tgt L st ws) (kf : x = 0 → VS u y S d kc ks Q X pc' L st ws) : VS u y S d kc ks Q X pc L (.int x :: st) ws := by
  subst hp
  intro p e R s m args below meth c H locs cells slots ls C s0 q1 q2 q3 q4 hw hS hl
  exact lv_if_ne C.1 C.2.1 hd ht (fun h => kt h p e R s m args below meth c H locs cells slots ls C s0 q1 q2 q3 q4 hw hS hl) (fun h => kf h p e R s m args below meth c H locs cells slots ls C s0 q1 q2 q3 q4 hw hS hl)
theorem T_tableIn (tgt : Nat) {dflt lo hi : Int} {offs : Array Int} {len : Nat} {x : Int32} {off : Int} (hd : decode y.2.1 pc = .ok (.tableswitch dflt lo hi offs, len)) (h1 : ¬ x.toInt < lo) (h2 : ¬ hi < x.toInt) (ho : offs[(x.toInt - lo).toNat]? = some off) (ht : (pc : Int) + off = (tgt : Int)) (k : VS u y S d kc ks Q X tgt L st ws) : VS u y S d kc ks Q X pc L (.int x :: st) ws := by
  intro p e R s m args below meth c H locs cells slots ls C s0 q1 q2 q3 q4 hw hS hl
  exact lv_tableIn C.1 C.2.1 hd h1 h2 ho ht (k p e R s m args below meth c H locs cells slots ls C s0 q1 q2 q3 q4 hw hS hl)
theorem T_tableOut (tgt : Nat) {dflt lo hi : Int} {offs : Array Int} {len : Nat} {x : Int32} (hd : decode y.2.1 pc = .ok (.tableswitch dflt lo hi offs, len)) (h : x.toInt < lo ∨ hi < x.toInt) (ht : (pc : Int) + dflt = (tgt : Int)) (k : VS u y S d kc ks Q X tgt L st ws) : VS u y S d kc ks Q X pc L (.int x :: st) ws := by
  intro p e R s m args below meth c H locs cells slots ls C s0 q1 q2 q3 q4 hw hS hl
  exact lv_tableOut C.1 C.2.1 hd h ht (k p e R s m args below meth c H locs cells slots ls C s0 q1 q2 q3 q4 hw hS hl)
theorem T_lald (pc' : Nat) {i a N : Nat} {x : Int32} {f : Nat → Int64} (hp : pc + 1 = pc') (hd : decode y.2.1 pc = .ok (.laload, 1)) (hb : ws[i]? = some (a, .inl (u.2.2.2 4, N, .inr (.inl f)))) (hx : vp_in x N) (k : VS u y S d kc ks Q X pc' L (.long (f x.toNatClampNeg) :: st) ws) : VS u y S d kc ks Q X pc L (.int x :: .ref a :: st) ws := by
  subst hp
  intro p e R s m args below meth c H locs cells slots ls C s0 q1 q2 q3 q4 hw hS hl
  exact va_lald C.1 C.2.1 C.2.2.2.2.2.2.2.2.2.1 hw.1 i 4 hb rfl hx hd (k p e R s m args below meth c H locs cells slots ls C s0 q1 q2 q3 q4 hw hS hl)
theorem T_dald (pc' : Nat) {i a N : Nat} {x : Int32} {f : Nat → UInt64} (hp : pc + 1 = pc') (hd : decode y.2.1 pc = .ok (.daload, 1)) (hb : ws[i]? = some (a, .inl (u.2.2.2 5, N, .inr (.inr (.inr (.inl f)))))) (hx : vp_in x N) (k : VS u y S d kc ks Q X pc' L (.double (f x.toNatClampNeg) :: st) ws) : VS u y S d kc ks Q X pc L (.int x :: .ref a :: st) ws := by
  subst hp
  intro p e R s m args below meth c H locs cells slots ls C s0 q1 q2 q3 q4 hw hS hl
  exact va_dald C.1 C.2.1 C.2.2.2.2.2.2.2.2.2.1 hw.1 i 5 hb rfl hx hd (k p e R s m args below meth c H locs cells slots ls C s0 q1 q2 q3 q4 hw hS hl)
theorem T_zret {v : Int32} {ty : FieldType} (hr : y.2.2.2 = some ty) (hn : narrow ty (.int v) = .int v) (hd : decode y.2.1 pc = .ok (.ireturn, 1)) (hQ : Q (some (.int v)) ws) : VS u y S d kc ks Q X pc L [.int v] ws := by
  intro p e R s m args below meth c H locs cells slots ls C s0 q1 q2 q3 q4 hw hS hl
  have hlocks : meth.locks = false := C.2.2.2.2.2.2.1
  refine vx_ret (W.widen (k := R.cells) (n := R.slots) (by omega) (by omega) ?_)
  exact W.zret C.1 C.2.1 (C.2.2.2.1.trans hr) hn (fun t ht hW => ⟨⟨some (.int v), ws, rfl, hQ, by rw [ht]; exact hw⟩, hS.F ht⟩) hS.2.2 hd hlocks
theorem T_callV {pc' idx n b : Nat} (hp : pc + 3 = pc') (k : CalV z n) (hl : Cond.methodLink y.1.cls idx z.1 ∈ WALL) (hd : decode y.2.1 pc = .ok (.invokevirtual idx, 3)) (hSem : Sem u z d' kc' ks' (.ref b :: As) ws Q' X')
    {i ci N : Nat} {T : u_T} {fs : List Value} (hb : ws[i]? = some (b, .inr (ci, fs))) (hc : vwCl[ci]? = some (z.1.cls, T, N)) (hn : As.length = n) (hst : st0 = As.reverse ++ .ref b :: st) (hcat : (st.map fun v => v.category).sum ≤ 8)
    (hdd : d' + 1 ≤ d) (hkc : kc' ≤ kc) (hks : ks' ≤ ks) (kx : ∀ (E : String) (ws' : va_W), X' E ws' → False)
    (kr : ∀ (v : Option Value) (ws' : va_W), Q' v ws' → VS u y S d (kc - kc') (ks - ks') Q X pc' L (v.toList ++ st) ws') : VS u y S d kc ks Q X pc L st0 ws := by
  subst hp
  intro p e R s m args below meth c H locs cells slots ls C s0 q1 q2 q3 q4 hw hS hls
  have hr := vx_runV (g := F0 m pc ls st0) (locs := locs) (cells := cells) (slots := slots) (below := below) (meth := meth) (e := e) (As := As) (rest := st) (b := b) (C := z.1.cls) ⟨C.1, C.2.1, C.2.2.1, C.2.2.2.2.2.1, C.2.2.2.2.1⟩ (hSem C.2.2.2.2.2.2.2.2.1.2) ⟨k.1.bl C hl hdd q1 q2, C.word k.2.1, C.word k.2.2⟩
    ⟨cPc_blind _ _ _, va_recv C.2.2.2.2.2.2.2.2.2.1 hw.1 hc hb, fun U hU hW => ⟨rfl, by rw [hU]; exact hw, C.kt hS hU hW⟩⟩ rfl hn hls.1 hst (lv_room hcat) hd ⟨by omega, by omega⟩
  exact L_run hr hS (fun v ws' H1 locs1 hq hw1 hS1 => kr v ws' hq p e R s m args below meth c H1 locs1 _ _ ls C s0 q1 q2 (by omega) (by omega) hw1 hS1 hls) kx
theorem T_callH {hh : HH} {pc' idx n : Nat} (hp : pc + 3 = pc') (k : CalH z hh n) (hl : Cond.methodLink y.1.cls idx z.1 ∈ WALL) (hd : decode y.2.1 pc = .ok (.invokestatic idx, 3)) (hSem : SemH u z hh d' kc' ks' As ws Q')
    (hn : As.length = n) (hst : st0 = As.reverse ++ st) (hcat : (st.map fun v => v.category).sum ≤ 8)
    (hdd : d' + 1 ≤ d) (hkc : kc' ≤ kc) (hks : ks' ≤ ks)
    (kr : ∀ (v : Option Value) (ws' : va_W), Q' v ws' → VS u y S d (kc - kc') (ks - ks') Q X pc' L (v.toList ++ st) ws') : VS u y S d kc ks Q X pc L st0 ws := by
  subst hp
  intro p e R s m args below meth c H locs cells slots ls C s0 q1 q2 q3 q4 hw hS hls
  have h3 := k.2.2.1
  have hG : GoodIn WALL (va_wsS y.1.cls idx z.1 (mWH z hh)) := fun w hw => by
    have hm : w ∈ WALL := by
      rcases List.mem_append.mp hw with h | h
      · rcases List.mem_cons.mp h with e | h
        · rw [e]; exact hl
        · rcases List.mem_cons.mp h with e | h
          · rw [e]; exact k.2.2.2.2
          · rcases List.mem_cons.mp h with e | h
            · rw [e]; exact k.2.1
            · cases h
      · rcases List.mem_cons.mp h with e | h
        · rw [e]; exact k.1
        · exact h
    exact ⟨hm, good_of_word (WALL_good _ hm)⟩
  have cw : vx_CSW R s args y.1.cls idx z.1 z.2.1 z.2.2.1 z.2.2.2 hh (mWH z hh) (rmD d' kc' ks') kc' ks' n := vx_cwSW (ws' := WALL) n C.2.2.2.2.1 hG rfl rfl rfl k.2.2.2.1 ⟨by show d' + 1 ≤ R.frames; omega, by show 8 + (z.2.2.1 + 11) + 64 * d' ≤ R.locals; omega⟩
  have hr := vx_runSX (g := F0 m pc ls st0) (locs := locs) (cells := cells) (slots := slots) (below := below) (meth := meth) (e := e) (As := As) (rest := st) ⟨C.1, C.2.1, C.2.2.1, C.2.2.2.2.2.1, C.2.2.2.2.1⟩ (hSem C.2.2.2.2.2.2.2.2.1.2) cw
    ⟨cPc_blind _ _ _, fun U hU hW => ⟨rfl, by rw [hU]; exact hw, C.kt hS hU hW⟩⟩ rfl hn hls.1 hst (lv_room hcat) hd ⟨by omega, by omega⟩
  exact L_run hr hS (fun v ws' H1 locs1 hq hw1 hS1 => kr v ws' hq p e R s m args below meth c H1 locs1 _ _ ls C s0 q1 q2 (by omega) (by omega) hw1 hS1 hls) (fun E ws' h => absurd h id)

theorem T_sld (pc' : Nat) {b Ln : Nat} {xs : Nat → Int32} {i : Int32} (hp : pc + 1 = pc') (hd : decode y.2.1 pc = .ok (.iaload, 1)) (hS0 : ∀ s, S s → va_X b Ln xs s s.heap ∧ b < s.heap.size ∧ ¬ uA u b) (hin : vp_in i Ln) (k : VS u y S d kc ks Q X pc' L (.int (xs i.toNatClampNeg) :: st) ws) : VS u y S d kc ks Q X pc L (.int i :: .ref b :: st) ws := by
  subst hp
  intro p e R s m args below meth c H locs cells slots ls C s0 q1 q2 q3 q4 hw hS hl
  have q := hS0 s s0
  exact va_sld C.1 C.2.1 q.1 q.2.1 q.2.2 hS hin hd (k p e R s m args below meth c H locs cells slots ls C s0 q1 q2 q3 q4 hw hS hl)
theorem T_slen (pc' : Nat) {b Ln : Nat} {xs : Nat → Int32} (hp : pc + 1 = pc') (hd : decode y.2.1 pc = .ok (.arraylength, 1)) (hS0 : ∀ s, S s → va_X b Ln xs s s.heap ∧ b < s.heap.size ∧ ¬ uA u b) (k : VS u y S d kc ks Q X pc' L (.int (Int32.ofNat Ln) :: st) ws) : VS u y S d kc ks Q X pc L (.ref b :: st) ws := by
  subst hp
  intro p e R s m args below meth c H locs cells slots ls C s0 q1 q2 q3 q4 hw hS hl
  have q := hS0 s s0
  exact va_slen C.1 C.2.1 q.1 q.2.1 q.2.2 hS hd (k p e R s m args below meth c H locs cells slots ls C s0 q1 q2 q3 q4 hw hS hl)
theorem T_dcmp (pc' : Nat) {x z : UInt64} {op : CmpOp} (hp : pc + 1 = pc') (hd : decode y.2.1 pc = .ok (.dcmp op, 1)) (k : VS u y S d kc ks Q X pc' L (.int (Op.cmpValue (FP.dcmp x z) op) :: st) ws) : VS u y S d kc ks Q X pc L (.double z :: .double x :: st) ws := by
  subst hp
  intro p e R s m args below meth c H locs cells slots ls C s0 q1 q2 q3 q4 hw hS hl
  exact lv_dcmp C.1 C.2.1 hd (k p e R s m args below meth c H locs cells slots ls C s0 q1 q2 q3 q4 hw hS hl)
theorem T_f2d (pc' : Nat) {x : UInt32} (hp : pc + 1 = pc') (hd : decode y.2.1 pc = .ok (.f2d, 1)) (hne : vf_n64 (FP.f2d x)) (k : VS u y S d kc ks Q X pc' L (.double (FP.f2d x) :: st) ws) : VS u y S d kc ks Q X pc L (.float x :: st) ws := by
  subst hp
  intro p e R s m args below meth c H locs cells slots ls C s0 q1 q2 q3 q4 hw hS hl
  exact lv_f2d C.1 C.2.1 hd hne (k p e R s m args below meth c H locs cells slots ls C s0 q1 q2 q3 q4 hw hS hl)
theorem T_dstore (pc' : Nat) {i : Nat} {x : UInt64} (hp : pc + 2 = pc') (hd : decode y.2.1 pc = .ok (.dstore i, 2)) (hn : i + 1 < y.2.2.1) (k : VS u y S d kc ks Q X pc' ((i, .double x) :: L.filter (fun q => !(q.1 == i) && (!(q.1 == i + 1) && !(q.1 + 1 == i && q.2.category == 2)))) st ws) : VS u y S d kc ks Q X pc L (.double x :: st) ws := by
  subst hp
  intro p e R s m args below meth c H locs cells slots ls C s0 q1 q2 q3 q4 hw hS hl
  exact lv_dstore C.1 C.2.1 hd hl hn rfl (fun ls' hl' => k p e R s m args below meth c H locs cells slots ls' C s0 q1 q2 q3 q4 hw hS hl')
theorem T_more {kc2 ks2 : Nat} (a : kc2 ≤ kc) (b : ks2 ≤ ks) (k : VS u y S d kc2 ks2 Q X pc L st ws) : VS u y S d kc ks Q X pc L st ws := by
  intro p e R s m args below meth c H locs cells slots ls C s0 q1 q2 q3 q4 hw hS hl
  exact k p e R s m args below meth c H locs cells slots ls C s0 q1 q2 (by omega) (by omega) hw hS hl
end VSROWS
