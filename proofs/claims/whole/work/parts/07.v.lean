/-! THE PLAIN LAYER: one world of cells for all methods; V: from here the method comes to an end with Q (or throws with X); Sem: a method's contract. -/
/-- launch, the first address of ours, class numbers, array classes -/
abbrev Un : Type := Launch × Nat × va_G × (Nat → ClassId)
def uT (u : Un) : List (ClassId × FieldType) := [(u.2.2.2 0, .int), (u.2.2.2 1, .char), (u.2.2.2 2, .object "EngineMonastery$Engine"), (u.2.2.2 3, .object "EngineMonastery$House"), (u.2.2.2 4, .long), (u.2.2.2 5, .double)]
def uA (u : Un) : Nat → Prop := fun q => u.2.1 ≤ q
/-- links to private members of a nest mate -/
def nestL : List (String × Nat × MethodName × String) := [("EngineMonastery$House", 23, ⟨"EngineMonastery$Repairs", "<init>", "()V"⟩, "EngineMonastery"), ("EngineMonastery$House", 30, ⟨"EngineMonastery$KnockBook", "<init>", "()V"⟩, "EngineMonastery"), ("EngineMonastery$House", 42, ⟨"EngineMonastery$Engine", "<init>", "()V"⟩, "EngineMonastery"), ("EngineMonastery", 31, ⟨"EngineMonastery$EvenOrders", "<init>", "()V"⟩, "EngineMonastery"), ("EngineMonastery", 38, ⟨"EngineMonastery$Rota", "<init>", "()V"⟩, "EngineMonastery"), ("EngineMonastery", 45, ⟨"EngineMonastery$Penances", "<init>", "()V"⟩, "EngineMonastery"), ("EngineMonastery", 52, ⟨"EngineMonastery$CommandText", "<init>", "()V"⟩, "EngineMonastery"), ("EngineMonastery", 59, ⟨"EngineMonastery$Line", "<init>", "()V"⟩, "EngineMonastery"), ("EngineMonastery$House", 77, ⟨"EngineMonastery", "isWithin", "(III)Z"⟩, "EngineMonastery"), ("EngineMonastery$EvenOrders", 26, ⟨"EngineMonastery", "distance", "(III)I"⟩, "EngineMonastery"), ("EngineMonastery$Engine", 46, ⟨"EngineMonastery", "isWithin", "(III)Z"⟩, "EngineMonastery"), ("EngineMonastery$Engine", 65, ⟨"EngineMonastery", "distance", "(III)I"⟩, "EngineMonastery"), ("EngineMonastery$CommandText", 66, ⟨"EngineMonastery", "isWithin", "(III)Z"⟩, "EngineMonastery")]
def declL : List MethodName := ["java/lang/IndexOutOfBoundsException", "java/lang/IllegalArgumentException", "java/lang/IllegalStateException", "java/util/NoSuchElementException", "java/lang/ArithmeticException", "java/lang/RuntimeException", "java/lang/Exception", "java/lang/Throwable"].map (fun X => ⟨X, "<init>", "()V"⟩)
def castL : List String := ["java/lang/IndexOutOfBoundsException", "java/lang/IllegalArgumentException", "java/lang/IllegalStateException", "java/util/NoSuchElementException", "java/lang/ArithmeticException"]
def ncL : List (String × String) := [("java/lang/IllegalStateException", "java/lang/IllegalArgumentException"), ("java/lang/IllegalArgumentException", "java/lang/IndexOutOfBoundsException"), ("java/lang/IllegalStateException", "java/lang/IndexOutOfBoundsException"), ("java/util/NoSuchElementException", "java/lang/IllegalArgumentException"), ("java/util/NoSuchElementException", "java/lang/IndexOutOfBoundsException")]
/-- words that the tables alone decide: nest mates, declared constructors, castable pairs; pairs that aren't -/
def nstW : List Cond := nestL.map (fun q => .methodLinkNest q.1 q.2.1 q.2.2.1 q.2.2.2) ++ (declL.map (fun x => .declares x) ++ castL.map (fun X => .castable X X))
/-- classes whose arrays are made -/
def aoL : List String := ["EngineMonastery$Engine", "EngineMonastery$House"]
def Nst (U : State) : Prop := (∀ w ∈ nstW, va_Nw w U) ∧ (∀ q ∈ ncL, va_Nc q.1 q.2 U) ∧ ∀ C ∈ aoL, va_AO C U
theorem nstW_tab {w : Cond} (h : w ∈ nstW) : w.onTables = true := by
  rcases List.mem_append.mp h with h | h
  · obtain ⟨q, -, rfl⟩ := List.mem_map.mp h; rfl
  · rcases List.mem_append.mp h with h | h
    · obtain ⟨q, -, rfl⟩ := List.mem_map.mp h; rfl
    · obtain ⟨q, -, rfl⟩ := List.mem_map.mp h; rfl
theorem Nst.same {u U : State} (h : u.vm = U.vm) (n : Nst u) : Nst U := ⟨fun w hw => va_Nw.same (nstW_tab hw) h (n.1 w hw), fun q hq => va_Nc.moved (by rw [h]; exact Vm.Alike.refl _) (n.2.1 q hq), fun C hC => va_AO.moved (by rw [h]; exact Vm.Alike.refl _) (n.2.2 C hC)⟩
theorem Nst.warm {s U : State} (hW : s.WarmedH U.vm) (n : Nst s) : Nst U := by
  refine ⟨fun w hw => ?_, fun q hq => va_Nc.moved hW.alike (n.2.1 q hq), fun C hC => va_AO.moved hW.alike (n.2.2 C hC)⟩
  have h0 := n.1 w hw
  rcases List.mem_append.mp hw with h | h
  · obtain ⟨q, -, rfl⟩ := List.mem_map.mp h; exact va_Nw.warmM hW h0
  · rcases List.mem_append.mp h with h | h
    · obtain ⟨q, -, rfl⟩ := List.mem_map.mp h; exact va_Nw.warmD hW h0
    · obtain ⟨q, -, rfl⟩ := List.mem_map.mp h; exact va_Nw.warmC hW h0
theorem Nst.nest {U : State} (n : Nst U) {q : String × Nat × MethodName × String} (h : q ∈ nestL) : va_Nw (.methodLinkNest q.1 q.2.1 q.2.2.1 q.2.2.2) U := n.1 _ (List.mem_append_left _ (List.mem_map.mpr ⟨q, h, rfl⟩))
/-- the String constants of the command text: their places, texts, addresses (kept behind the class numbers), bytes -/
def txS : List String := ["engine #", "swap # ##", "rate #=#", "run #*%", "oil #.#+%", "fill %", "buy %", "monk", "able ##", "mend # ##", "repair", "pass %"]
def chS : List (List Nat) := [[101, 110, 103, 105, 110, 101, 32, 35], [115, 119, 97, 112, 32, 35, 32, 35, 35], [114, 97, 116, 101, 32, 35, 61, 35], [114, 117, 110, 32, 35, 42, 37], [111, 105, 108, 32, 35, 46, 35, 43, 37], [102, 105, 108, 108, 32, 37], [98, 117, 121, 32, 37], [109, 111, 110, 107], [97, 98, 108, 101, 32, 35, 35], [109, 101, 110, 100, 32, 35, 32, 35, 35], [114, 101, 112, 97, 105, 114], [112, 97, 115, 115, 32, 37]]
def lnS : List Nat := [8, 9, 8, 7, 9, 6, 5, 4, 7, 9, 6, 6]
def byS : List (List Int32) := chS.map (fun l => l.map nI)
def kS (u : Un) (i : Nat) : Nat := u.2.2.2 (100 + i)
def vS (u : Un) (i : Nat) : Nat := u.2.2.2 (200 + i)
def Sk (u : Un) (U : State) (H : Heap) : Prop := vk_S 12 lnS byS (kS u) (vS u) (uA u) U H ∧ (∀ i, i < 12 → vk_R "EngineMonastery$CommandText" (70 + 2 * i) (txS.getD i "") (kS u i) U) ∧ va_Z "java/lang/String" "COMPACT_STRINGS" "Z" (.int 1) (uA u) U H ∧ va_Zq "jdk/internal/util/Preconditions" "SIOOBE_FORMATTER" "Ljava/util/function/BiFunction;" (uA u) U H
theorem Sk.same {u : Un} {U U' : State} {H : Heap} (hvm : U.vm = U'.vm) (h : Sk u U H) : Sk u U' H := by
  have ha : U.vm.Alike U'.vm := by rw [hvm]; exact Vm.Alike.refl _
  exact ⟨vk_S.moved ha h.1, fun i hi => vk_R.same hvm.symm (h.2.1 i hi), va_Z.moved ha h.2.2.1, va_Zq.moved ha h.2.2.2⟩
theorem Sk.warm {u : Un} {U U' : State} {H : Heap} (hW : U.WarmedH U'.vm) (h : Sk u U H) : Sk u U' H := ⟨vk_S.moved hW.alike h.1, fun i hi => vk_R.warm hW (h.2.1 i hi), va_Z.moved hW.alike h.2.2.1, va_Zq.moved hW.alike h.2.2.2⟩
theorem Sk.kept {u : Un} {U : State} {H H1 : Heap} (h : Sk u U H) (hq : ∀ a : Nat, a < H.size → ¬ uA u a → H1[a]? = H[a]?) : Sk u U H1 := ⟨vk_S.kept h.1 hq, h.2.1, va_Z.kept h.2.2.1 hq, va_Zq.kept h.2.2.2 hq⟩
/-- what the machine's tables and its own statics say, at a heap -/
def Kt (u : Un) (U : State) (H : Heap) : Prop := va_K u.2.2.1 vwCl (uT u) U ∧ u.2.1 ≤ H.size ∧ vx_Zq Bundle.tN "UNASSIGNED_STACK" Bundle.steD (uA u) U H ∧ vx_Zq Bundle.tN "SUPPRESSED_SENTINEL" Bundle.listD (uA u) U H ∧ (Nst U ∧ Sk u U H)
/-- the world ws lies in the heap -/
def Wd (u : Un) (ws : va_W) (H : Heap) : Prop := va_P u.2.2.1 vwCl ws H ∧ va_D (uA u) ws
theorem Kt.same {u : Un} {U U' : State} {H : Heap} (hvm : U.vm = U'.vm) (h : Kt u U H) : Kt u U' H := by
  have ha : U.vm.Alike U'.vm := by rw [hvm]; exact Vm.Alike.refl _
  exact ⟨va_K.moved ha h.1, h.2.1, vx_Zq.moved ha h.2.2.1, vx_Zq.moved ha h.2.2.2.1, ⟨Nst.same hvm h.2.2.2.2.1, Sk.same hvm h.2.2.2.2.2⟩⟩
theorem Kt.warm {u : Un} {U U' : State} {H : Heap} (hW : U.WarmedH U'.vm) (h : Kt u U H) : Kt u U' H := ⟨va_K.moved hW.alike h.1, h.2.1, vx_Zq.moved hW.alike h.2.2.1, vx_Zq.moved hW.alike h.2.2.2.1, ⟨Nst.warm hW h.2.2.2.2.1, Sk.warm hW h.2.2.2.2.2⟩⟩
theorem Kt.kept {u : Un} {U : State} {H H1 : Heap} (h : Kt u U H) (hz : H.size ≤ H1.size) (hq : ∀ a : Nat, a < H.size → ¬ uA u a → H1[a]? = H[a]?) : Kt u U H1 := ⟨h.1, Nat.le_trans h.2.1 hz, vx_Zq.kept h.2.2.1 hq, vx_Zq.kept h.2.2.2.1 hq, ⟨h.2.2.2.2.1, Sk.kept h.2.2.2.2.2 hq⟩⟩
def WALL : List Cond := lw_tbl.filter goodWord
theorem WALL_good : ∀ w ∈ WALL, goodWord w = true := fun _ h => (List.mem_filter.mp h).2
theorem WALL_tbl : ∀ w ∈ WALL, w ∈ lw_tbl := fun _ h => (List.mem_filter.mp h).1
theorem inWALL {w : Cond} (i : Nat) (h : (lw_tbl[i]? == some w) = true) (g : goodWord w = true) : w ∈ WALL := List.mem_filter.mpr ⟨List.mem_of_getElem? (i := i) (by simpa using h), g⟩
/-- a method: name, code, locals, answer -/
abbrev MI : Type := MethodName × ByteArray × Nat × Option FieldType
def mW (y : MI) : List Cond := Cond.code y.1 y.2.1 y.2.2.1 y.2.2.2 :: WALL
def cPc (u : Un) (av : List Value) (ws : va_W) : Array Value → State → Prop := fun v U => v = av.toArray ∧ Wd u ws U.heap ∧ Kt u U U.heap
def cQ (u : Un) (Q : Option Value → va_W → Prop) : Array Value → State → Outcome → State → Prop := fun _ st oc t => (∃ (v : Option Value) (ws' : va_W), oc = .returned v ∧ Q v ws' ∧ Wd u ws' t.heap) ∧ va_F (uA u) st t
def cX (u : Un) (X : String → va_W → Prop) : String → State → State → Prop := fun E st t => ∃ ws' : va_W, X E ws' ∧ Wd u ws' t.heap ∧ va_F (uA u) st t
def rmD (d kc ks : Nat) : Room := { frames := d, cells := kc, slots := ks, locals := 64 * d }
/-- the method y, called in the world ws with av, returns with Q or throws with X, at most d frames deep, making at most kc cells of ks slots -/
def Sem (u : Un) (y : MI) (d kc ks : Nat) (av : List Value) (ws : va_W) (Q : Option Value → va_W → Prop) (X : String → va_W → Prop) : Prop :=
  u.1.stackTraces = false → vx_Met u.1 y.1 (mW y) (rmD d kc ks) (cPc u av ws) (cQ u Q) (cX u X) kc ks (uA u)
/-- what is known in a frame of the method y -/
def Cx (u : Un) (y : MI) (p : Program) (s : State) (m : MethodId) (args : Array Value) (meth : Method) (c : Code) : Prop :=
  p.tables.exec = Jvm.exec ∧ c.code = y.2.1 ∧ c.maxLocals = y.2.2.1 ∧ meth.sig.returnType = y.2.2.2 ∧ (∀ w ∈ mW y, w.before args s = true) ∧ s.vm.findClass y.1.cls = some m.cls ∧ meth.locks = false ∧ (∀ x ∈ c.exceptionTable.toList, False) ∧ (meth.name = y.1.name ∧ u.1.stackTraces = false) ∧ Kt u s s.heap
def V (u : Un) (y : MI) (d kc ks : Nat) (Q : Option Value → va_W → Prop) (X : String → va_W → Prop) (pc : Nat) (L : List (Nat × Value)) (st : List Value) (ws : va_W) : Prop :=
  ∀ (p : Program) (e : Env) (R : Room) (s : State) (m : MethodId) (args : Array Value) (below : List Frame) (meth : Method) (c : Code) (H : Heap) (locs : List Loc) (cells slots : Nat) (ls : Array Slot),
    Cx u y p s m args meth c → d ≤ R.frames → 64 * d ≤ R.locals → cells + kc ≤ R.cells → slots + ks ≤ R.slots → Wd u ws H → va_S (uA u) s.heap H locs → lv_has ls y.2.2.1 L →
    W p u.1 e R s m args below meth c H locs cells slots (vx_MQ below (cQ u Q) (cX u X) args s R.cells R.slots (uA u)) (F0 m pc ls st)
/-- locals: what stands at i; a new value at i (the list stays in order) -/
def lkL : List (Nat × Value) → Nat → Option Value
  | [], _ => none
  | q :: t, i => match Nat.beq q.1 i with
    | true => some q.2
    | false => lkL t i
theorem lkL_mem : ∀ (L : List (Nat × Value)) (i : Nat) (v : Value), lkL L i = some v → (i, v) ∈ L
  | [], _, _, h => by cases h
  | q :: t, i, v, h => by
    unfold lkL at h
    cases hb : Nat.beq q.1 i with
    | true =>
      rw [hb] at h
      have e1 : q.1 = i := Nat.eq_of_beq_eq_true hb
      have e2 : q.2 = v := Option.some.inj h
      have : q = (i, v) := by rw [← e1, ← e2]
      rw [this]; exact List.mem_cons_self
    | false =>
      rw [hb] at h
      exact List.mem_cons_of_mem _ (lkL_mem t i v h)
def insL (i : Nat) (v : Value) : List (Nat × Value) → List (Nat × Value)
  | [] => [(i, v)]
  | q :: t => match Nat.ble i q.1 with
    | true => (i, v) :: q :: t
    | false => q :: insL i v t
def rmL (i : Nat) : List (Nat × Value) → List (Nat × Value)
  | [] => []
  | q :: t => match Nat.beq q.1 i with
    | true => rmL i t
    | false => match Nat.beq (q.1 + 1) i with
      | true => match Nat.beq q.2.category 2 with
        | true => rmL i t
        | false => q :: rmL i t
      | false => q :: rmL i t
def stL (i : Nat) (v : Value) (L : List (Nat × Value)) : List (Nat × Value) := insL i v (rmL i L)
theorem insL_mem {i : Nat} {v : Value} : ∀ (L : List (Nat × Value)) (q : Nat × Value), q ∈ insL i v L → q = (i, v) ∨ q ∈ L
  | [], q, h => by
    rcases List.mem_cons.mp h with h | h
    · exact Or.inl h
    · cases h
  | a :: t, q, h => by
    unfold insL at h
    cases hb : Nat.ble i a.1 with
    | true =>
      rw [hb] at h
      rcases List.mem_cons.mp h with h | h
      · exact Or.inl h
      · exact Or.inr h
    | false =>
      rw [hb] at h
      rcases List.mem_cons.mp h with h | h
      · exact Or.inr (by rw [h]; exact List.mem_cons_self)
      · rcases insL_mem t q h with h | h
        · exact Or.inl h
        · exact Or.inr (List.mem_cons_of_mem _ h)
theorem rmL_mem {i : Nat} : ∀ (L : List (Nat × Value)) (q : Nat × Value), q ∈ rmL i L → q ∈ L ∧ (!(q.1 == i) && !(q.1 + 1 == i && q.2.category == 2)) = true
  | [], q, h => by cases h
  | a :: t, q, h => by
    unfold rmL at h
    cases hb : Nat.beq a.1 i with
    | true =>
      rw [hb] at h
      have := rmL_mem t q h
      exact ⟨List.mem_cons_of_mem _ this.1, this.2⟩
    | false =>
      rw [hb] at h
      have n1 : (a.1 == i) = false := by simpa using Nat.ne_of_beq_eq_false hb
      cases hc : Nat.beq (a.1 + 1) i with
      | true =>
        rw [hc] at h
        cases hd : Nat.beq a.2.category 2 with
        | true =>
          rw [hd] at h
          have := rmL_mem t q h
          exact ⟨List.mem_cons_of_mem _ this.1, this.2⟩
        | false =>
          rw [hd] at h
          have n3 : (a.2.category == 2) = false := by simpa using Nat.ne_of_beq_eq_false hd
          rcases List.mem_cons.mp h with h | h
          · rw [h]; exact ⟨List.mem_cons_self, by rw [n1, n3]; simp⟩
          · have := rmL_mem t q h
            exact ⟨List.mem_cons_of_mem _ this.1, this.2⟩
      | false =>
        rw [hc] at h
        have n2 : (a.1 + 1 == i) = false := by simpa using Nat.ne_of_beq_eq_false hc
        rcases List.mem_cons.mp h with h | h
        · rw [h]; exact ⟨List.mem_cons_self, by rw [n1, n2]; simp⟩
        · have := rmL_mem t q h
          exact ⟨List.mem_cons_of_mem _ this.1, this.2⟩
theorem lv_stL {ls : Array Slot} {n i : Nat} {v : Value} {L : List (Nat × Value)} (h : lv_has ls n ((i, v) :: L.filter (fun q => !(q.1 == i) && !(q.1 + 1 == i && q.2.category == 2)))) : lv_has ls n (stL i v L) := by
  refine ⟨h.1, h.2.1, fun q hq => ?_⟩
  rcases insL_mem _ q hq with e | e
  · rw [e]; exact h.2.2 _ List.mem_cons_self
  · obtain ⟨h1, h2⟩ := rmL_mem L q e
    exact h.2.2 _ (List.mem_cons_of_mem _ (List.mem_filter.mpr ⟨h1, h2⟩))
theorem lv_lkL {ls : Array Slot} {n i : Nat} {v : Value} {L : List (Nat × Value)} (h : lv_has ls n L) (hk : lkL L i = some v) : ls[i]? = some (.val v) := h.2.2 (i, v) (lkL_mem L i v hk)
theorem Cx.word {u : Un} {y : MI} {p : Program} {s : State} {m : MethodId} {args : Array Value} {meth : Method} {c : Code} (C : Cx u y p s m args meth c) {w : Cond} (h : w ∈ WALL) : w.before args s = true := C.2.2.2.2.1 w (List.mem_cons_of_mem _ h)
theorem mW_goodIn {y z : MI} (h : Cond.code z.1 z.2.1 z.2.2.1 z.2.2.2 ∈ WALL) : GoodIn (mW y) (mW z) := fun w hw => by
  rcases List.mem_cons.mp hw with e | e
  · rw [e]; exact ⟨List.mem_cons_of_mem _ h, good_of_word (WALL_good _ h)⟩
  · exact ⟨List.mem_cons_of_mem _ e, good_of_word (WALL_good _ e)⟩
theorem cPc_blind (u : Un) (av : List Value) (ws : va_W) : FrameBlind (cPc u av ws) := fun a U g mk q => by
  obtain ⟨q0, q1, q2⟩ := q
  exact ⟨q0, q1, Kt.same (U := U) (U' := U.calling g mk a) rfl q2⟩
theorem Wd.grown {u : Un} {ws : va_W} {H H1 : Heap} (h : Wd u ws H) (hq : ∀ q : Nat, q < H.size → H1[q]? = H[q]?) : Wd u ws H1 := ⟨h.1.kept (fun k q hk => hq _ (h.1 k q hk).lt), h.2⟩
theorem Cx.kt {u : Un} {y : MI} {p : Program} {s U : State} {m : MethodId} {args : Array Value} {meth : Method} {c : Code} {H : Heap} {locs : List Loc} (C : Cx u y p s m args meth c) (hS : va_S (uA u) s.heap H locs) (hU : U.heap = H) (hW : s.WarmedH U.vm) : Kt u U U.heap := by
  have h1 := C.2.2.2.2.2.2.2.2.2
  have h2 : Kt u s U.heap := by rw [hU]; exact Kt.kept h1 hS.1 hS.2.1
  exact Kt.warm hW h2
set_option maxHeartbeats 1000000 in
theorem Sem_of_V {u : Un} {y : MI} {d kc ks : Nat} {av : List Value} {ws : va_W} {Q : Option Value → va_W → Prop} {X : String → va_W → Prop} (hy : plainName y.1.cls = true) (hn : (lg_sl av).length ≤ y.2.2.1) (h : V u y d kc ks Q X 0 (lv_args 0 av) [] ws)   : Sem u y d kc ks av ws Q X := by
  intro htr
  refine vx_ofW (cc := y.2.1) (maxL := y.2.2.1) (ret := y.2.2.2) (ws' := WALL) hy rfl ?_
  intro p e s m args below meth c s₁ B hml ht hv
  obtain ⟨rfl, hW, hK⟩ := hv
  have hts := atoms_spec (ws := mW y) B.pre
  have hown : s.vm.findClass y.1.cls = some m.cls := findClass_of_methodNamed B.named
  have hl := lv_entry av (n := y.2.2.1) hn
  rw [lg_entry_eq]
  exact h p e (rmD d kc ks) s m _ below meth c s.heap [] 0 0 _ ⟨B.exec, B.bytes, hml, B.returns, hts, hown, B.notSynchronized, ht, ⟨(name_of_methodNamed B.named B.method).1, htr⟩, hK⟩ (Nat.le_refl _) (Nat.le_refl _) (by show 0 + kc ≤ kc; omega) (by show 0 + ks ≤ ks; omega) hW va_S.rf hl
section VRETS
variable {u : Un} {y : MI} {d kc ks : Nat} {Q : Option Value → va_W → Prop} {X : String → va_W → Prop} {pc : Nat} {L : List (Nat × Value)} {st : List Value} {ws : va_W}
theorem V_iret {v : Int32} (hr : y.2.2.2 = some .int) (hd : decode y.2.1 pc = .ok (.ireturn, 1)) (hQ : Q (some (.int v)) ws) : V u y d kc ks Q X pc L [.int v] ws := by
  intro p e R s m args below meth c H locs cells slots ls C q1 q2 q3 q4 hw hS hl
  have hlocks : meth.locks = false := C.2.2.2.2.2.2.1
  refine vx_ret (W.widen (k := R.cells) (n := R.slots) (by omega) (by omega) ?_)
  exact W.iret C.1 C.2.1 (C.2.2.2.1.trans hr) (fun t ht hW => ⟨⟨some (.int v), ws, rfl, hQ, by rw [ht]; exact hw⟩, hS.F ht⟩) hS.2.2 hd hlocks
theorem V_zret {v : Int32} {ty : FieldType} (hr : y.2.2.2 = some ty) (hn : narrow ty (.int v) = .int v) (hd : decode y.2.1 pc = .ok (.ireturn, 1)) (hQ : Q (some (.int v)) ws) : V u y d kc ks Q X pc L [.int v] ws := by
  intro p e R s m args below meth c H locs cells slots ls C q1 q2 q3 q4 hw hS hl
  have hlocks : meth.locks = false := C.2.2.2.2.2.2.1
  refine vx_ret (W.widen (k := R.cells) (n := R.slots) (by omega) (by omega) ?_)
  exact W.zret C.1 C.2.1 (C.2.2.2.1.trans hr) hn (fun t ht hW => ⟨⟨some (.int v), ws, rfl, hQ, by rw [ht]; exact hw⟩, hS.F ht⟩) hS.2.2 hd hlocks
theorem V_vret (hr : y.2.2.2 = none) (hd : decode y.2.1 pc = .ok (.return_, 1)) (hQ : Q none ws) : V u y d kc ks Q X pc L [] ws := by
  intro p e R s m args below meth c H locs cells slots ls C q1 q2 q3 q4 hw hS hl
  have hlocks : meth.locks = false := C.2.2.2.2.2.2.1
  refine vx_ret (W.widen (k := R.cells) (n := R.slots) (by omega) (by omega) ?_)
  exact W.vret C.1 C.2.1 (C.2.2.2.1.trans hr) (fun t ht hW => ⟨⟨none, ws, rfl, hQ, by rw [ht]; exact hw⟩, hS.F ht⟩) hS.2.2 hd hlocks
theorem V_aret {a : Nat} {n : String} (hr : y.2.2.2 = some (.object n)) (hd : decode y.2.1 pc = .ok (.areturn, 1)) (hQ : Q (some (.ref a)) ws) : V u y d kc ks Q X pc L [.ref a] ws := by
  intro p e R s m args below meth c H locs cells slots ls C q1 q2 q3 q4 hw hS hl
  have hlocks : meth.locks = false := C.2.2.2.2.2.2.1
  refine vx_ret (W.widen (k := R.cells) (n := R.slots) (by omega) (by omega) ?_)
  exact W.aret C.1 C.2.1 (C.2.2.2.1.trans hr) (Or.inl ⟨n, rfl⟩) (Or.inr ⟨a, rfl⟩) (fun t ht hW => ⟨⟨some (.ref a), ws, rfl, hQ, by rw [ht]; exact hw⟩, hS.F ht⟩) hS.2.2 hd hlocks
theorem V_dret {v : UInt64} (hr : y.2.2.2 = some .double) (hd : decode y.2.1 pc = .ok (.dreturn, 1)) (hQ : Q (some (.double v)) ws) : V u y d kc ks Q X pc L [.double v] ws := by
  intro p e R s m args below meth c H locs cells slots ls C q1 q2 q3 q4 hw hS hl
  have hlocks : meth.locks = false := C.2.2.2.2.2.2.1
  refine vx_ret (W.widen (k := R.cells) (n := R.slots) (by omega) (by omega) ?_)
  exact W.dret C.1 C.2.1 (C.2.2.2.1.trans hr) (fun t ht hW => ⟨⟨some (.double v), ws, rfl, hQ, by rw [ht]; exact hw⟩, hS.F ht⟩) hS.2.2 hd hlocks
theorem V_fret {v : UInt32} (hr : y.2.2.2 = some .float) (hd : decode y.2.1 pc = .ok (.freturn, 1)) (hQ : Q (some (.float v)) ws) : V u y d kc ks Q X pc L [.float v] ws := by
  intro p e R s m args below meth c H locs cells slots ls C q1 q2 q3 q4 hw hS hl
  have hlocks : meth.locks = false := C.2.2.2.2.2.2.1
  refine vx_ret (W.widen (k := R.cells) (n := R.slots) (by omega) (by omega) ?_)
  exact W.fret C.1 C.2.1 (C.2.2.2.1.trans hr) (fun t ht hW => ⟨⟨some (.float v), ws, rfl, hQ, by rw [ht]; exact hw⟩, hS.F ht⟩) hS.2.2 hd hlocks
end VRETS
section VCALLS
theorem V_run {p : Program} {l : Launch} {e : Env} {R : Room} {s : State} {m : MethodId} {args : Array Value} {below : List Frame} {meth : Method} {c : Code} {H : Heap} {locs : List Loc} {cells slots mc ms : Nat} {pc : Nat} {ls : Array Slot} {st0 st : List Value} {a : Array Value} {u : Un} {y : MI}
    {Q Q' : Option Value → va_W → Prop} {X X' : String → va_W → Prop}
    (hr : vx_Run p l e R s m args below meth c H locs cells slots mc ms (F0 m pc ls st0) st (cQ u Q' a) (cX u X') (uA u)) (C : Cx u y p s m args meth c) (hS : va_S (uA u) s.heap H locs) (hc : cells + mc ≤ R.cells) (hs : slots + ms ≤ R.slots)
    (kr : ∀ (v : Option Value) (ws' : va_W) (H1 : Heap) (locs1 : List Loc), Q' v ws' → Wd u ws' H1 → va_S (uA u) s.heap H1 locs1 → W p l e R s m args below meth c H1 locs1 (cells + mc) (slots + ms) (vx_MQ below (cQ u Q) (cX u X) args s R.cells R.slots (uA u)) (F0 m (pc + 3) ls (v.toList ++ st)))
    (kx : ∀ (E : String) (ws' : va_W), X' E ws' → X E ws') :
    W p l e R s m args below meth c H locs cells slots (vx_MQ below (cQ u Q) (cX u X) args s R.cells R.slots (uA u)) (F0 m pc ls st0) := by
  intro T hT Y
  rcases hr T hT Y with ⟨v, st₀, t, T', L, h0, Y', hL, e1, e2, ⟨⟨v', ws', hv, hq, hw⟩, hF⟩, sg⟩ | ⟨q, st₀, t, T', L, E, ce, h0, Y', hL, e1, e2, ⟨ws', hx, hw, hF⟩, hce, hvm, hcl, sg⟩
  · cases hv
    obtain ⟨-, -, hS'⟩ := vx_keep (A1 := uA u) h0 e1 hS (fun _ _ h => h) (fun _ h => h) hL hF
    obtain ⟨t2, a1, b1⟩ := kr _ ws' T'.heap (locs ++ L) hq (by rw [e1]; exact hw) hS' T' rfl Y'
    exact ⟨t2, sg t2 a1, b1⟩
  · obtain ⟨-, -, hS'⟩ := vx_keep (A1 := uA u) h0 e1 hS (fun _ _ h => h) (fun _ h => h) hL hF
    obtain ⟨t2, a1, b1⟩ := vx_out (Qc := cQ u Q) (XC := cX u X) (ls := ls) (pc := pc) (rest := st) (mc := R.cells) (ms := R.slots) (fun x hx => absurd (C.2.2.2.2.2.2.2.1 x hx) id) C.2.2.2.2.2.2.1 (by rw [e1]; exact hce) hvm hcl (fun t9 ht9 hal => ⟨ws', kx E ws' hx, by rw [ht9, e1]; exact hw, hS'.F ht9⟩) hS'.2.2 hc hs T' rfl Y'
    exact ⟨t2, sg.trans a1, b1⟩
/-- what a call of z needs to know of it -/
def Cal (z : MI) (n : Nat) : Prop := Cond.code z.1 z.2.1 z.2.2.1 z.2.2.2 ∈ WALL ∧ Cond.initialized z.1.cls ∈ WALL ∧ z.2.2.1 ≤ 45 ∧ (z.1.cls ≠ "java/lang/invoke/MethodHandle" ∧ z.1.cls ≠ "java/lang/invoke/VarHandle" ∧ (parseMethodDescriptor z.1.desc).map (fun d => d.parameters.length) = some n)
def CalV (z : MI) (n : Nat) : Prop := Cal z n ∧ Cond.instanceMethod z.1 ∈ WALL ∧ Cond.selects z.1.cls z.1 z.1 ∈ WALL
def CalS (z : MI) (n : Nat) : Prop := Cal z n ∧ Cond.static z.1 ∈ WALL
def CalI (z : MI) (n : Nat) : Prop := Cal z n ∧ z.1.name = "<init>" ∧ Cond.instanceMethod z.1 ∈ WALL ∧ z.2.2.2 = none
theorem Cal.b {u : Un} {y z : MI} {n d d' kc' ks' idx : Nat} {p : Program} {R : Room} {s : State} {m : MethodId} {args : Array Value} {meth : Method} {c : Code} (k : Cal z n) (C : Cx u y p s m args meth c) (hl : Cond.methodLink y.1.cls idx z.1 ∈ WALL) (hd : d' + 1 ≤ d) (q1 : d ≤ R.frames) (q2 : 64 * d ≤ R.locals) :
    CallB R s args y.1.cls idx z.1 z.2.1 z.2.2.1 z.2.2.2 (mW z) (rmD d' kc' ks') kc' ks' n := by
  have h3 := k.2.2.1
  refine callB_of n C.2.2.2.2.1 (mW_goodIn k.1) rfl rfl rfl (C.word k.2.1) (C.word hl) k.2.2.2 ⟨?_, ?_⟩
  · show d' + 1 ≤ R.frames
    omega
  · show 8 + (z.2.2.1 + 11) + 64 * d' ≤ R.locals
    omega
variable {u : Un} {y z : MI} {d d' kc ks kc' ks' : Nat} {Q Q' : Option Value → va_W → Prop} {X X' : String → va_W → Prop} {pc pc' idx n : Nat} {L : List (Nat × Value)} {st st0 As : List Value} {ws : va_W} {b : Nat}
theorem V_callV (hp : pc + 3 = pc') (k : CalV z n) (hl : Cond.methodLink y.1.cls idx z.1 ∈ WALL) (hd : decode y.2.1 pc = .ok (.invokevirtual idx, 3)) (hSem : Sem u z d' kc' ks' (.ref b :: As) ws Q' X')
    {i ci N : Nat} {T : u_T} {fs : List Value} (hb : ws[i]? = some (b, .inr (ci, fs))) (hc : vwCl[ci]? = some (z.1.cls, T, N)) (hn : As.length = n) (hst : st0 = As.reverse ++ .ref b :: st) (hcat : (st.map fun v => v.category).sum ≤ 8)
    (hdd : d' + 1 ≤ d) (hkc : kc' ≤ kc) (hks : ks' ≤ ks) (kx : ∀ (E : String) (ws' : va_W), X' E ws' → X E ws')
    (kr : ∀ (v : Option Value) (ws' : va_W), Q' v ws' → V u y d (kc - kc') (ks - ks') Q X pc' L (v.toList ++ st) ws') : V u y d kc ks Q X pc L st0 ws := by
  subst hp
  intro p e R s m args below meth c H locs cells slots ls C q1 q2 q3 q4 hw hS hls
  have hr := vx_runV (g := F0 m pc ls st0) (locs := locs) (cells := cells) (slots := slots) (below := below) (meth := meth) (e := e) (As := As) (rest := st) (b := b) (C := z.1.cls) ⟨C.1, C.2.1, C.2.2.1, C.2.2.2.2.2.1, C.2.2.2.2.1⟩ (hSem C.2.2.2.2.2.2.2.2.1.2) ⟨k.1.b C hl hdd q1 q2, C.word k.2.1, C.word k.2.2⟩
    ⟨cPc_blind _ _ _, va_recv C.2.2.2.2.2.2.2.2.2.1 hw.1 hc hb, fun U hU hW => ⟨rfl, by rw [hU]; exact hw, C.kt hS hU hW⟩⟩ rfl hn hls.1 hst (lv_room hcat) hd ⟨by omega, by omega⟩
  exact V_run hr C hS (by omega) (by omega) (fun v ws' H1 locs1 hq hw1 hS1 => kr v ws' hq p e R s m args below meth c H1 locs1 _ _ ls C q1 q2 (by omega) (by omega) hw1 hS1 hls) kx
theorem V_callS (hp : pc + 3 = pc') (k : CalS z n) (hl : Cond.methodLink y.1.cls idx z.1 ∈ WALL) (hd : decode y.2.1 pc = .ok (.invokestatic idx, 3)) (hSem : Sem u z d' kc' ks' As ws Q' X')
    (hn : As.length = n) (hst : st0 = As.reverse ++ st) (hcat : (st.map fun v => v.category).sum ≤ 8)
    (hdd : d' + 1 ≤ d) (hkc : kc' ≤ kc) (hks : ks' ≤ ks) (kx : ∀ (E : String) (ws' : va_W), X' E ws' → X E ws')
    (kr : ∀ (v : Option Value) (ws' : va_W), Q' v ws' → V u y d (kc - kc') (ks - ks') Q X pc' L (v.toList ++ st) ws') : V u y d kc ks Q X pc L st0 ws := by
  subst hp
  intro p e R s m args below meth c H locs cells slots ls C q1 q2 q3 q4 hw hS hls
  have hr := vx_runS (g := F0 m pc ls st0) (locs := locs) (cells := cells) (slots := slots) (below := below) (meth := meth) (e := e) (As := As) (rest := st) ⟨C.1, C.2.1, C.2.2.1, C.2.2.2.2.2.1, C.2.2.2.2.1⟩ (hSem C.2.2.2.2.2.2.2.2.1.2) ⟨k.1.b C hl hdd q1 q2, C.word k.2⟩
    ⟨cPc_blind _ _ _, fun U hU hW => ⟨rfl, by rw [hU]; exact hw, C.kt hS hU hW⟩⟩ rfl hn hls.1 hst (lv_room hcat) hd ⟨by omega, by omega⟩
  exact V_run hr C hS (by omega) (by omega) (fun v ws' H1 locs1 hq hw1 hS1 => kr v ws' hq p e R s m args below meth c H1 locs1 _ _ ls C q1 q2 (by omega) (by omega) hw1 hS1 hls) kx
/-- a contract that never throws, in the kit's plain form -/
theorem Sem.met (htr : u.1.stackTraces = false) (h : Sem u z d' kc' ks' As ws Q' (fun _ _ => False)) : Met u.1 z.1 (mW z) (rmD d' kc' ks') (cPc u As ws) (cQ u Q') kc' ks' (uA u) := by
  refine Jvm.Free.MetFree.mono (h htr) (fun _ _ h => h) (fun _ _ _ _ _ h => h) (fun a s o s' _ hq => ?_)
  rcases hq with hq | ⟨q, -, E, ce, L, ⟨ws', hx, -⟩, -⟩
  · exact hq
  · exact absurd hx id
theorem Sem.mono {X2 : String → va_W → Prop} {Q2 : Option Value → va_W → Prop} (h : Sem u z d' kc' ks' As ws Q' X') (hQ : ∀ v ws', Q' v ws' → Q2 v ws') (hX : ∀ E ws', X' E ws' → X2 E ws') : Sem u z d' kc' ks' As ws Q2 X2 := by
  intro htr
  refine Jvm.Free.MetFree.mono (h htr) (fun _ _ h => h) (fun _ _ _ _ _ h => h) (fun a s o s' _ hq => ?_)
  rcases hq with ⟨⟨⟨v, ws', e1, e2, e3⟩, e4⟩, e5⟩ | ⟨q, e1, E, ce, L, ⟨ws', hx, hw⟩, hr⟩
  · exact Or.inl ⟨⟨⟨v, ws', e1, hQ _ _ e2, e3⟩, e4⟩, e5⟩
  · exact Or.inr ⟨q, e1, E, ce, L, ⟨ws', hX _ _ hx, hw⟩, hr⟩
theorem V_runP {p : Program} {l : Launch} {e : Env} {R : Room} {s : State} {m : MethodId} {args : Array Value} {below : List Frame} {meth : Method} {c : Code} {H : Heap} {locs : List Loc} {cells slots mc ms : Nat} {pc : Nat} {ls : Array Slot} {st0 st : List Value} {a : Array Value} {u : Un}
    {Q' : Option Value → va_W → Prop} {Qf : State → Prop}
    (hr : va_Run p l e R s m args below meth c H locs cells slots mc ms (F0 m pc ls st0) st (cQ u Q' a) (uA u)) (hS : va_S (uA u) s.heap H locs)
    (kr : ∀ (v : Option Value) (ws' : va_W) (H1 : Heap) (locs1 : List Loc), Q' v ws' → Wd u ws' H1 → va_S (uA u) s.heap H1 locs1 → W p l e R s m args below meth c H1 locs1 (cells + mc) (slots + ms) Qf (F0 m (pc + 3) ls (v.toList ++ st))) :
    W p l e R s m args below meth c H locs cells slots Qf (F0 m pc ls st0) := by
  intro T hT Y
  obtain ⟨v, st₀, t, T', L, h0, Y', hL, e1, e2, ⟨⟨v', ws', hv, hq, hw⟩, hF⟩, sg⟩ := hr T hT Y
  cases hv
  obtain ⟨-, -, hS'⟩ := vx_keep (A1 := uA u) h0 e1 hS (fun _ _ h => h) (fun _ h => h) hL hF
  obtain ⟨t2, a1, b1⟩ := kr _ ws' T'.heap (locs ++ L) hq (by rw [e1]; exact hw) hS' T' rfl Y'
  exact ⟨t2, sg t2 a1, b1⟩
theorem Cal.nn {u : Un} {y z : MI} {n d d' kc' ks' idx : Nat} {host : String} {p : Program} {R : Room} {s : State} {m : MethodId} {args : Array Value} {meth : Method} {c : Code} (k : Cal z n) (C : Cx u y p s m args meth c) (hl : (y.1.cls, idx, z.1, host) ∈ nestL) (hd : d' + 1 ≤ d) (q1 : d ≤ R.frames) (q2 : 64 * d ≤ R.locals) :
    va_CN R s args y.1.cls idx z.1 host z.2.1 z.2.2.1 z.2.2.2 (mW z) (rmD d' kc' ks') kc' ks' n := by
  have h3 := k.2.2.1
  refine va_cnB n C.2.2.2.2.1 (mW_goodIn k.1) rfl rfl rfl (Nst.nest C.2.2.2.2.2.2.2.2.2.2.2.2.2.1 hl) (C.word k.2.1) k.2.2.2 ⟨?_, ?_⟩
  · show d' + 1 ≤ R.frames
    omega
  · show 8 + (z.2.2.1 + 11) + 64 * d' ≤ R.locals
    omega
/-- a nest mate's private static method, that never throws -/
theorem V_callSN {host : String} (hp : pc + 3 = pc') (k : CalS z n) (hl : (y.1.cls, idx, z.1, host) ∈ nestL) (hd : decode y.2.1 pc = .ok (.invokestatic idx, 3)) (hSem : Sem u z d' kc' ks' As ws Q' (fun _ _ => False))
    (hn : As.length = n) (hst : st0 = As.reverse ++ st) (hcat : (st.map fun v => v.category).sum ≤ 8)
    (hdd : d' + 1 ≤ d) (hkc : kc' ≤ kc) (hks : ks' ≤ ks)
    (kr : ∀ (v : Option Value) (ws' : va_W), Q' v ws' → V u y d (kc - kc') (ks - ks') Q X pc' L (v.toList ++ st) ws') : V u y d kc ks Q X pc L st0 ws := by
  subst hp
  intro p e R s m args below meth c H locs cells slots ls C q1 q2 q3 q4 hw hS hls
  have hr := va_runSN (g := F0 m pc ls st0) (locs := locs) (cells := cells) (slots := slots) (below := below) (meth := meth) (e := e) (As := As) (rest := st) ⟨C.1, C.2.1, C.2.2.1, C.2.2.2.2.2.1, C.2.2.2.2.1⟩ (Sem.met C.2.2.2.2.2.2.2.2.1.2 hSem) ⟨k.1.nn C hl hdd q1 q2, C.word k.2, trivial⟩
    ⟨cPc_blind _ _ _, fun U hU hW => ⟨rfl, by rw [hU]; exact hw, C.kt hS hU hW⟩⟩ rfl hn hls.1 hst (lv_room hcat) hd ⟨by omega, by omega⟩
  exact V_runP hr hS (fun v ws' H1 locs1 hq hw1 hS1 => kr v ws' hq p e R s m args below meth c H1 locs1 _ _ ls C q1 q2 (by omega) (by omega) hw1 hS1 hls)
/-- a nest mate's private constructor -/
theorem V_callIN {host : String} (hp : pc + 3 = pc') (k : CalI z n) (hl : (y.1.cls, idx, z.1, host) ∈ nestL) (hd : decode y.2.1 pc = .ok (.invokespecial idx, 3)) (hSem : Sem u z d' kc' ks' (.ref b :: As) ws Q' (fun _ _ => False))
    (hn : As.length = n) (hst : st0 = As.reverse ++ .ref b :: st) (hcat : (st.map fun v => v.category).sum ≤ 8)
    (hdd : d' + 1 ≤ d) (hkc : kc' ≤ kc) (hks : ks' ≤ ks)
    (kr : ∀ (v : Option Value) (ws' : va_W), Q' v ws' → V u y d (kc - kc') (ks - ks') Q X pc' L (v.toList ++ st) ws') : V u y d kc ks Q X pc L st0 ws := by
  subst hp
  intro p e R s m args below meth c H locs cells slots ls C q1 q2 q3 q4 hw hS hls
  have cw := k.1.nn (R := R) (kc' := kc') (ks' := ks') C hl hdd q1 q2
  rw [k.2.2.2] at cw
  have hr := va_runIN (g := F0 m pc ls st0) (locs := locs) (cells := cells) (slots := slots) (below := below) (meth := meth) (e := e) (As := As) (rest := st) (b := b) ⟨C.1, C.2.1, C.2.2.1, C.2.2.2.2.2.1, C.2.2.2.2.1⟩ (Sem.met C.2.2.2.2.2.2.2.2.1.2 hSem) ⟨cw, k.2.1, C.word k.2.2.1⟩
    ⟨cPc_blind _ _ _, fun U hU hW => ⟨rfl, by rw [hU]; exact hw, C.kt hS hU hW⟩⟩ rfl hn hls.1 hst (lv_room hcat) hd ⟨by omega, by omega⟩
  exact V_runP hr hS (fun v ws' H1 locs1 hq hw1 hS1 => kr v ws' hq p e R s m args below meth c H1 locs1 _ _ ls C q1 q2 (by omega) (by omega) hw1 hS1 hls)
/-- a constructor -/
theorem V_callI (hp : pc + 3 = pc') (k : CalI z n) (hl : Cond.methodLink y.1.cls idx z.1 ∈ WALL) (hd : decode y.2.1 pc = .ok (.invokespecial idx, 3)) (hSem : Sem u z d' kc' ks' (.ref b :: As) ws Q' (fun _ _ => False))
    (hn : As.length = n) (hst : st0 = As.reverse ++ .ref b :: st) (hcat : (st.map fun v => v.category).sum ≤ 8)
    (hdd : d' + 1 ≤ d) (hkc : kc' ≤ kc) (hks : ks' ≤ ks)
    (kr : ∀ (v : Option Value) (ws' : va_W), Q' v ws' → V u y d (kc - kc') (ks - ks') Q X pc' L (v.toList ++ st) ws') : V u y d kc ks Q X pc L st0 ws := by
  subst hp
  intro p e R s m args below meth c H locs cells slots ls C q1 q2 q3 q4 hw hS hls
  have cw := k.1.b (R := R) (kc' := kc') (ks' := ks') C hl hdd q1 q2
  rw [k.2.2.2] at cw
  have hr := va_runI (g := F0 m pc ls st0) (locs := locs) (cells := cells) (slots := slots) (below := below) (meth := meth) (e := e) (As := As) (rest := st) (b := b) ⟨C.1, C.2.1, C.2.2.1, C.2.2.2.2.2.1, C.2.2.2.2.1⟩ (Sem.met C.2.2.2.2.2.2.2.2.1.2 hSem) ⟨cw, k.2.1, C.word k.2.2.1⟩
    ⟨cPc_blind _ _ _, fun U hU hW => ⟨rfl, by rw [hU]; exact hw, C.kt hS hU hW⟩⟩ rfl hn hls.1 hst (lv_room hcat) hd ⟨by omega, by omega⟩
  exact V_runP hr hS (fun v ws' H1 locs1 hq hw1 hS1 => kr v ws' hq p e R s m args below meth c H1 locs1 _ _ ls C q1 q2 (by omega) (by omega) hw1 hS1 hls)
/-- 'throw new E()' -/
theorem V_throw0 {cls : String} {names : List String} {ik ic : Nat} (hcls : Bundle.fit cls = true) (hnames : ∀ n ∈ names, Bundle.fit n = true) (hk : Cond.classLink y.1.cls ik cls ∈ WALL) (hini : Cond.initialized cls ∈ WALL) (hat : ∀ w ∈ vx_at0 y.1.cls ic cls names, w ∈ WALL ∨ w ∈ nstW)
    (d0 : decode y.2.1 pc = .ok (.new ik, 3)) (d3 : decode y.2.1 (pc + 3) = .ok (.dup, 1)) (d4 : decode y.2.1 (pc + 4) = .ok (.invokespecial ic, 3)) (d7 : decode y.2.1 (pc + 7) = .ok (.athrow, 1))
    (hcat : (st.map fun v => v.category).sum ≤ 8) (hdd : names.length + 4 ≤ d) (hkc : 1 ≤ kc) (hks : 6 ≤ ks) (hX : X cls ws) : V u y d kc ks Q X pc L st ws := by
  intro p e R s m args below meth c H locs cells slots ls C q1 q2 q3 q4 hw hS hls
  have hK := C.2.2.2.2.2.2.2.2.2
  have hst : u.1.stackTraces = false := C.2.2.2.2.2.2.2.2.1.2
  refine vx_throw0 (own := y.1.cls) (cls := cls) (names := names) (ik := ik) (ic := ic) (A := uA u) C.1 C.2.1 hst C.2.2.2.2.2.1 hcls hnames (C.word hk) (C.word hini) (fun w h => (hat w h).elim (fun h => C.word h) (fun h => va_Nw.use (nstW_tab h) (hK.2.2.2.2.1.1 w h))) (fun w h => ?_) hK.2.2.1 hK.2.2.2.1 hS (hls.1.trans C.2.2.1.symm) d0 d3 d4 d7 (fun x hx => absurd (C.2.2.2.2.2.2.2.1 x hx) id) (by omega) ?_ (by omega) (by omega) C.2.2.2.2.2.2.1 (fun t hal hz hq => ⟨ws, hX, hw.grown hq, ?_⟩) hS.2.2 (by omega) (by omega)
  · have g : goodWord w = true ∨ w.onTables = true := by
      rcases List.mem_cons.mp h with e1 | h
      · rw [e1]; exact Or.inl (WALL_good _ hk)
      · rcases List.mem_cons.mp h with e1 | h
        · rw [e1]; exact Or.inl (WALL_good _ hini)
        · exact (hat w h).elim (fun h => Or.inl (WALL_good _ h)) (fun h => Or.inr (nstW_tab h))
    unfold vx_ot
    rcases g with g | g
    · rw [g]; simp
    · rw [g]; simp
  · omega
  · exact ⟨Nat.le_trans hS.1 hz, fun q h1 h2 => by rw [hq q (Nat.lt_of_lt_of_le h1 hS.1)]; exact hS.2.1 q h1 h2⟩
end VCALLS
