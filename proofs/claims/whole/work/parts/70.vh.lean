/-! METHODS WITH A TABLE: the plain layer again, with catching (laid by wip/whole/src/p70.py) -/
abbrev HH : Type := List (Nat × Nat × Nat × Nat)
def xT (x : ExceptionTableEntry) : Nat × Nat × Nat × Nat := (x.startPc, x.endPc, x.handlerPc, x.catchType)
/-- the words of a method with a table -/
def mWH (y : MI) (hh : HH) : List Cond := Cond.codeWith y.1 y.2.1 y.2.2.1 y.2.2.2 hh :: WALL
def SemH (u : Un) (y : MI) (hh : HH) (d kc ks : Nat) (av : List Value) (ws : va_W) (Q : Option Value → va_W → Prop) : Prop :=
  u.1.stackTraces = false → vx_Met u.1 y.1 (mWH y hh) (rmD d kc ks) (cPc u av ws) (cQ u Q) (cX u (fun _ _ => False)) kc ks (uA u)
def CxH (u : Un) (y : MI) (hh : HH) (p : Program) (s : State) (m : MethodId) (args : Array Value) (meth : Method) (c : Code) : Prop :=
  p.tables.exec = Jvm.exec ∧ c.code = y.2.1 ∧ c.maxLocals = y.2.2.1 ∧ meth.sig.returnType = y.2.2.2 ∧ (∀ w ∈ mWH y hh, w.before args s = true) ∧ s.vm.findClass y.1.cls = some m.cls ∧ meth.locks = false ∧ c.exceptionTable.toList.map xT = hh ∧ (meth.name = y.1.name ∧ u.1.stackTraces = false) ∧ Kt u s s.heap
def VH (u : Un) (y : MI) (hh : HH) (d kc ks : Nat) (Q : Option Value → va_W → Prop) (pc : Nat) (L : List (Nat × Value)) (st : List Value) (ws : va_W) : Prop :=
  ∀ (p : Program) (e : Env) (R : Room) (s : State) (m : MethodId) (args : Array Value) (below : List Frame) (meth : Method) (c : Code) (H : Heap) (locs : List Loc) (cells slots : Nat) (ls : Array Slot),
    CxH u y hh p s m args meth c → d ≤ R.frames → 64 * d ≤ R.locals → cells + kc ≤ R.cells → slots + ks ≤ R.slots → Wd u ws H → va_S (uA u) s.heap H locs → lv_has ls y.2.2.1 L →
    W p u.1 e R s m args below meth c H locs cells slots (vx_MQ below (cQ u Q) (cX u (fun _ _ => False)) args s R.cells R.slots (uA u)) (F0 m pc ls st)
theorem CxH.word {u : Un} {y : MI} {hh : HH} {p : Program} {s : State} {m : MethodId} {args : Array Value} {meth : Method} {c : Code} (C : CxH u y hh p s m args meth c) {w : Cond} (h : w ∈ WALL) : w.before args s = true := C.2.2.2.2.1 w (List.mem_cons_of_mem _ h)
theorem mWH_goodIn {y z : MI} {hh : HH} (h : Cond.code z.1 z.2.1 z.2.2.1 z.2.2.2 ∈ WALL) : GoodIn (mWH y hh) (mW z) := fun w hw => by
  rcases List.mem_cons.mp hw with e | e
  · rw [e]; exact ⟨List.mem_cons_of_mem _ h, good_of_word (WALL_good _ h)⟩
  · exact ⟨List.mem_cons_of_mem _ e, good_of_word (WALL_good _ e)⟩
theorem CxH.kt {u : Un} {y : MI} {hh : HH} {p : Program} {s U : State} {m : MethodId} {args : Array Value} {meth : Method} {c : Code} {H : Heap} {locs : List Loc} (C : CxH u y hh p s m args meth c) (hS : va_S (uA u) s.heap H locs) (hU : U.heap = H) (hW : s.WarmedH U.vm) : Kt u U U.heap := by
  have h1 := C.2.2.2.2.2.2.2.2.2
  have h2 : Kt u s U.heap := by rw [hU]; exact Kt.kept h1 hS.1 hS.2.1
  exact Kt.warm hW h2
theorem SemH_of_VH {u : Un} {y : MI} {hh : HH} {d kc ks : Nat} {av : List Value} {ws : va_W} {Q : Option Value → va_W → Prop} (hy : plainName y.1.cls = true) (hn : (lg_sl av).length ≤ y.2.2.1) (h : VH u y hh d kc ks Q 0 (lv_args 0 av) [] ws) : SemH u y hh d kc ks av ws Q := by
  intro htr
  refine vx_ofWH (cc := y.2.1) (maxL := y.2.2.1) (ret := y.2.2.2) (hh := hh) (ws' := WALL) hy rfl ?_
  intro p e s m args below meth c s₁ B hml hv
  obtain ⟨rfl, hW, hK⟩ := hv
  have hts := atoms_spec (ws := mWH y hh) B.pre
  have hown : s.vm.findClass y.1.cls = some m.cls := findClass_of_methodNamed B.named
  have htab : c.exceptionTable.toList.map xT = hh := by
    obtain ⟨m9, meth9, c9, h1, h2, h3, h4, h5, h6, h7, h8, h9⟩ := Cond.codeWith_spec (hts _ List.mem_cons_self)
    have e1 : m = m9 := Option.some.inj (B.named.symm.trans h1)
    subst e1
    have e2 : meth = meth9 := Option.some.inj (B.method.symm.trans h2)
    subst e2
    have hc1 : s₁.code? m = some c := B.here.code
    have hs1 : s₁.vm = s.vm := by rw [B.state]; rfl
    rw [State.code?_eq, hs1, B.method] at hc1
    have hc2 : meth.code = some c := hc1
    have e3 : c = c9 := Option.some.inj (hc2.symm.trans h3)
    subst e3
    exact h6
  have hl := lv_entry av (n := y.2.2.1) hn
  rw [lg_entry_eq]
  exact h p e (rmD d kc ks) s m _ below meth c s.heap [] 0 0 _ ⟨B.exec, B.bytes, hml, B.returns, hts, hown, B.notSynchronized, htab, ⟨(name_of_methodNamed B.named B.method).1, htr⟩, hK⟩ (Nat.le_refl _) (Nat.le_refl _) (by show 0 + kc ≤ kc; omega) (by show 0 + ks ≤ ks; omega) hW va_S.rf hl
section VHROWS
variable {u : Un} {y : MI} {hh : HH} {d kc ks : Nat} {Q : Option Value → va_W → Prop} {pc : Nat} {L : List (Nat × Value)} {st : List Value} {ws : va_W}
theorem H_aload_n (pc' : Nat) {k : Fin 4} {x : Nat} (hp : pc + 1 = pc') (hd : decode y.2.1 pc = .ok (.aload_n k, 1)) (hk : lkL L (k : Nat) = some (.ref x)) (k : VH u y hh d kc ks Q pc' L (.ref x :: st) ws) : VH u y hh d kc ks Q pc L (st) ws := by
  subst hp
  intro p e R s m args below meth c H locs cells slots ls C q1 q2 q3 q4 hw hS hl
  exact lv_aload_n C.1 C.2.1 hd rfl (lv_lkL hl hk) (k p e R s m args below meth c H locs cells slots ls C q1 q2 q3 q4 hw hS hl)
theorem H_aload (pc' : Nat) {i : Nat} {x : Nat} (hp : pc + 2 = pc') (hd : decode y.2.1 pc = .ok (.aload i, 2)) (hk : lkL L i = some (.ref x)) (k : VH u y hh d kc ks Q pc' L (.ref x :: st) ws) : VH u y hh d kc ks Q pc L (st) ws := by
  subst hp
  intro p e R s m args below meth c H locs cells slots ls C q1 q2 q3 q4 hw hS hl
  exact lv_aload C.1 C.2.1 hd (lv_lkL hl hk) (k p e R s m args below meth c H locs cells slots ls C q1 q2 q3 q4 hw hS hl)
theorem H_iload_n (pc' : Nat) {k : Fin 4} {x : Int32} (hp : pc + 1 = pc') (hd : decode y.2.1 pc = .ok (.iload_n k, 1)) (hk : lkL L (k : Nat) = some (.int x)) (k : VH u y hh d kc ks Q pc' L (.int x :: st) ws) : VH u y hh d kc ks Q pc L (st) ws := by
  subst hp
  intro p e R s m args below meth c H locs cells slots ls C q1 q2 q3 q4 hw hS hl
  exact lv_iload_n C.1 C.2.1 hd rfl (lv_lkL hl hk) (k p e R s m args below meth c H locs cells slots ls C q1 q2 q3 q4 hw hS hl)
theorem H_iload (pc' : Nat) {i : Nat} {x : Int32} (hp : pc + 2 = pc') (hd : decode y.2.1 pc = .ok (.iload i, 2)) (hk : lkL L i = some (.int x)) (k : VH u y hh d kc ks Q pc' L (.int x :: st) ws) : VH u y hh d kc ks Q pc L (st) ws := by
  subst hp
  intro p e R s m args below meth c H locs cells slots ls C q1 q2 q3 q4 hw hS hl
  exact lv_iload C.1 C.2.1 hd (lv_lkL hl hk) (k p e R s m args below meth c H locs cells slots ls C q1 q2 q3 q4 hw hS hl)
theorem H_astore_n (pc' : Nat) {k0 : Fin 4} {i : Nat} {x : Nat} (hp : pc + 1 = pc') (hd : decode y.2.1 pc = .ok (.astore_n k0, 1)) (hi : (k0 : Nat) = i) (hn : i < y.2.2.1) (k : VH u y hh d kc ks Q pc' (stL i (.ref x) L) st ws) : VH u y hh d kc ks Q pc L (.ref x :: st) ws := by
  subst hp
  intro p e R s m args below meth c H locs cells slots ls C q1 q2 q3 q4 hw hS hl
  exact lv_astore_n C.1 C.2.1 hd hi hl hn rfl (fun ls' hl' => k p e R s m args below meth c H locs cells slots ls' C q1 q2 q3 q4 hw hS (lv_stL hl'))
theorem H_astore (pc' : Nat) {i : Nat} {x : Nat} (hp : pc + 2 = pc') (hd : decode y.2.1 pc = .ok (.astore i, 2)) (hn : i < y.2.2.1) (k : VH u y hh d kc ks Q pc' (stL i (.ref x) L) st ws) : VH u y hh d kc ks Q pc L (.ref x :: st) ws := by
  subst hp
  intro p e R s m args below meth c H locs cells slots ls C q1 q2 q3 q4 hw hS hl
  exact lv_astore C.1 C.2.1 hd hl hn rfl (fun ls' hl' => k p e R s m args below meth c H locs cells slots ls' C q1 q2 q3 q4 hw hS (lv_stL hl'))
theorem H_iconst (pc' : Nat) {n : Int} (v : Int32) (hp : pc + 1 = pc') (hd : decode y.2.1 pc = .ok (.iconst n, 1)) (hv : Int32.ofInt n = v) (k : VH u y hh d kc ks Q pc' L (.int v :: st) ws) : VH u y hh d kc ks Q pc L (st) ws := by
  subst hp
  intro p e R s m args below meth c H locs cells slots ls C q1 q2 q3 q4 hw hS hl
  exact lv_iconst C.1 C.2.1 hd hv (k p e R s m args below meth c H locs cells slots ls C q1 q2 q3 q4 hw hS hl)
theorem H_lconst (pc' : Nat) {n : Fin 2} (v : Int64) (hp : pc + 1 = pc') (hd : decode y.2.1 pc = .ok (.lconst n, 1)) (hv : Int64.ofNat (n : Nat) = v) (k : VH u y hh d kc ks Q pc' L (.long v :: st) ws) : VH u y hh d kc ks Q pc L (st) ws := by
  subst hp
  intro p e R s m args below meth c H locs cells slots ls C q1 q2 q3 q4 hw hS hl
  exact lv_lconst C.1 C.2.1 hd hv (k p e R s m args below meth c H locs cells slots ls C q1 q2 q3 q4 hw hS hl)
theorem H_i2l (pc' : Nat) {x : Int32} (v : Int64) (hp : pc + 1 = pc') (hd : decode y.2.1 pc = .ok (.i2l, 1)) (hv : x.toInt64 = v) (k : VH u y hh d kc ks Q pc' L (.long v :: st) ws) : VH u y hh d kc ks Q pc L (.int x :: st) ws := by
  subst hp
  intro p e R s m args below meth c H locs cells slots ls C q1 q2 q3 q4 hw hS hl
  exact lv_i2l C.1 C.2.1 hd hv (k p e R s m args below meth c H locs cells slots ls C q1 q2 q3 q4 hw hS hl)
theorem H_goto (tgt : Nat) {off : Int} (ht : (pc : Int) + off = (tgt : Int)) (hd : decode y.2.1 pc = .ok (.goto off, 3)) (k : VH u y hh d kc ks Q tgt L st ws) : VH u y hh d kc ks Q pc L st ws := by
  intro p e R s m args below meth c H locs cells slots ls C q1 q2 q3 q4 hw hS hl
  exact lv_goto C.1 C.2.1 hd ht (k p e R s m args below meth c H locs cells slots ls C q1 q2 q3 q4 hw hS hl)
theorem H_if_eq (tgt pc' : Nat) {x : Int32} {off : Int} (ht : (pc : Int) + off = (tgt : Int)) (hp : pc + 3 = pc') (hd : decode y.2.1 pc = .ok (.ifCond .eq off, 3)) (kt : x = 0 → VH u y hh d kc ks Q tgt L st ws) (kf : ¬ (x = 0) → VH u y hh d kc ks Q pc' L st ws) : VH u y hh d kc ks Q pc L (.int x :: st) ws := by
  subst hp
  intro p e R s m args below meth c H locs cells slots ls C q1 q2 q3 q4 hw hS hl
  exact lv_if_eq C.1 C.2.1 hd ht (fun h => kt h p e R s m args below meth c H locs cells slots ls C q1 q2 q3 q4 hw hS hl) (fun h => kf h p e R s m args below meth c H locs cells slots ls C q1 q2 q3 q4 hw hS hl)
theorem H_last (pc' : Nat) {i a N : Nat} {x : Int32} {v : Int64} {f : Nat → Int64} (hp : pc + 1 = pc') (hd : decode y.2.1 pc = .ok (.lastore, 1)) (hb : ws[i]? = some (a, .inl (u.2.2.2 4, N, .inr (.inl f)))) (hx : vp_in x N) (k : VH u y hh d kc ks Q pc' L st (ws.set i (a, .inl (u.2.2.2 4, N, .inr (.inl (vp_updL f x.toNatClampNeg v)))))) : VH u y hh d kc ks Q pc L (.long v :: .int x :: .ref a :: st) ws := by
  subst hp
  intro p e R s m args below meth c H locs cells slots ls C q1 q2 q3 q4 hw hS hl
  exact va_last C.1 C.2.1 C.2.2.2.2.2.2.2.2.2.1 hw.1 hw.2 hS i 4 hb rfl hx hd (fun H1 locs1 hP hD hS1 => k p e R s m args below meth c H1 locs1 cells slots ls C q1 q2 q3 q4 ⟨hP, hD⟩ hS1 hl)
theorem H_dast (pc' : Nat) {i a N : Nat} {x : Int32} {v : UInt64} {f : Nat → UInt64} (hp : pc + 1 = pc') (hd : decode y.2.1 pc = .ok (.dastore, 1)) (hb : ws[i]? = some (a, .inl (u.2.2.2 5, N, .inr (.inr (.inr (.inl f)))))) (hx : vp_in x N) (k : VH u y hh d kc ks Q pc' L st (ws.set i (a, .inl (u.2.2.2 5, N, .inr (.inr (.inr (.inl (vf_upd f x.toNatClampNeg v)))))))) : VH u y hh d kc ks Q pc L (.double v :: .int x :: .ref a :: st) ws := by
  subst hp
  intro p e R s m args below meth c H locs cells slots ls C q1 q2 q3 q4 hw hS hl
  exact va_dast C.1 C.2.1 C.2.2.2.2.2.2.2.2.2.1 hw.1 hw.2 hS i 5 hb rfl hx hd (fun H1 locs1 hP hD hS1 => k p e R s m args below meth c H1 locs1 cells slots ls C q1 q2 q3 q4 ⟨hP, hD⟩ hS1 hl)
theorem H_iret {v : Int32} (hr : y.2.2.2 = some .int) (hd : decode y.2.1 pc = .ok (.ireturn, 1)) (hQ : Q (some (.int v)) ws) : VH u y hh d kc ks Q pc L [.int v] ws := by
  intro p e R s m args below meth c H locs cells slots ls C q1 q2 q3 q4 hw hS hl
  have hlocks : meth.locks = false := C.2.2.2.2.2.2.1
  refine vx_ret (W.widen (k := R.cells) (n := R.slots) (by omega) (by omega) ?_)
  exact W.iret C.1 C.2.1 (C.2.2.2.1.trans hr) (fun t ht hW => ⟨⟨some (.int v), ws, rfl, hQ, by rw [ht]; exact hw⟩, hS.F ht⟩) hS.2.2 hd hlocks
end VHROWS
/-- the words that say that E lands at h -/
def Lands (y : MI) (hh : HH) (pc : Nat) (E : String) (h : Nat) : Prop := ∃ (pre : HH) (x : Nat × Nat × Nat × Nat) (suf : HH), hh = pre ++ x :: suf ∧ (∀ z ∈ pre, z.2.2.2 ≠ 0 ∧ ∃ nm : String, Cond.classLink y.1.cls z.2.2.2 nm ∈ WALL ∧ (E, nm) ∈ ncL) ∧ (x.1 ≤ pc ∧ pc < x.2.1) ∧ x.2.2.2 ≠ 0 ∧ x.2.2.1 = h ∧ Cond.classLink y.1.cls x.2.2.2 E ∈ WALL ∧ E ∈ castL
theorem H_catch {p : Program} {e : Env} {R : Room} {s : State} {m : MethodId} {args : Array Value} {below : List Frame} {meth : Method} {c : Code} {H : Heap} {locs : List Loc} {cells slots : Nat} {pc h : Nat} {ls : Array Slot} {rest : List Value} {u : Un} {y : MI} {hh : HH} {E : String} {ce : Cell} {q : Addr} {Qs : State → Prop}
    (C : CxH u y hh p s m args meth c) (hl : Lands y hh pc E h) (hcell : H[q]? = some ce) (hv : ce.vm = .none) (hcl : s.vm.findClass E = some ce.cls)
    (kk : W p u.1 e R s m args below meth c H locs cells slots Qs (F0 m h ls [.ref q])) : vx_W p u.1 e R s m args below meth c H locs cells slots Qs (F0 m pc ls rest) q := by
  obtain ⟨pre, x, suf, e1, e2, e3, e4, e5, e6, e7⟩ := hl
  have htab := C.2.2.2.2.2.2.2.1
  rw [e1] at htab
  obtain ⟨pre', t1, f1, f2, f3⟩ := List.map_eq_append_iff.mp htab
  obtain ⟨x', suf', g1, g2, g3⟩ := List.map_eq_cons_iff.mp f3
  have hK := C.2.2.2.2.2.2.2.2.2
  have hcast : (Cond.castable E E).before args s = true := va_Nw.use (by rfl) (hK.2.2.2.2.1.1 _ (List.mem_append_right _ (List.mem_append_right _ (List.mem_map.mpr ⟨E, e7, rfl⟩))))
  subst g2
  refine vx_catch (own := y.1.cls) (name := E) (E := E) (ce := ce) C.2.2.2.2.2.1 pre' x' suf' (by rw [f1, g1]) (fun z hz => ?_) ?_ e4 (C.word e6) hcast hcell hv hcl (by subst e5; exact kk)
  · have hz2 : xT z ∈ pre := by rw [← f2]; exact List.mem_map.mpr ⟨z, hz, rfl⟩
    obtain ⟨a, nm, b, d⟩ := e2 _ hz2
    exact Or.inr ⟨a, nm, C.word b, hK.2.2.2.2.1.2.1 _ d⟩
  · unfold covers
    have a := e3.1
    have b := e3.2
    show (decide (x'.startPc ≤ pc) && decide (pc < x'.endPc)) = true
    rw [decide_eq_true (show x'.startPc ≤ pc from a), decide_eq_true (show pc < x'.endPc from b)]
    rfl
theorem H_run {p : Program} {e : Env} {R : Room} {s : State} {m : MethodId} {args : Array Value} {below : List Frame} {meth : Method} {c : Code} {H : Heap} {locs : List Loc} {cells slots mc ms : Nat} {pc : Nat} {ls : Array Slot} {st0 st : List Value} {a : Array Value} {u : Un} {y : MI} {hh : HH}
    {Q Q' : Option Value → va_W → Prop} {X' : String → va_W → Prop}
    (hr : vx_Run p u.1 e R s m args below meth c H locs cells slots mc ms (F0 m pc ls st0) st (cQ u Q' a) (cX u X') (uA u)) (C : CxH u y hh p s m args meth c) (hS : va_S (uA u) s.heap H locs)
    (kr : ∀ (v : Option Value) (ws' : va_W) (H1 : Heap) (locs1 : List Loc), Q' v ws' → Wd u ws' H1 → va_S (uA u) s.heap H1 locs1 → W p u.1 e R s m args below meth c H1 locs1 (cells + mc) (slots + ms) (vx_MQ below (cQ u Q) (cX u (fun _ _ => False)) args s R.cells R.slots (uA u)) (F0 m (pc + 3) ls (v.toList ++ st)))
    (kx : ∀ (E : String) (ws' : va_W) (q : Addr) (H1 : Heap) (locs1 : List Loc), X' E ws' → Wd u ws' H1 → va_S (uA u) s.heap H1 locs1 → ∃ h, Lands y hh pc E h ∧ W p u.1 e R s m args below meth c H1 locs1 (cells + mc) (slots + ms) (vx_MQ below (cQ u Q) (cX u (fun _ _ => False)) args s R.cells R.slots (uA u)) (F0 m h ls [.ref q])) :
    W p u.1 e R s m args below meth c H locs cells slots (vx_MQ below (cQ u Q) (cX u (fun _ _ => False)) args s R.cells R.slots (uA u)) (F0 m pc ls st0) := by
  intro T hT Y
  rcases hr T hT Y with ⟨v, st₀, t, T', L, h0, Y', hL, e1, e2, ⟨⟨v', ws', hv, hq, hw⟩, hF⟩, sg⟩ | ⟨q, st₀, t, T', L, E, ce, h0, Y', hL, e1, e2, ⟨ws', hx, hw, hF⟩, hce, hvm, hcl, sg⟩
  · cases hv
    obtain ⟨-, -, hS'⟩ := vx_keep (A1 := uA u) h0 e1 hS (fun _ _ h => h) (fun _ h => h) hL hF
    obtain ⟨t2, a1, b1⟩ := kr _ ws' T'.heap (locs ++ L) hq (by rw [e1]; exact hw) hS' T' rfl Y'
    exact ⟨t2, sg t2 a1, b1⟩
  · obtain ⟨-, -, hS'⟩ := vx_keep (A1 := uA u) h0 e1 hS (fun _ _ h => h) (fun _ h => h) hL hF
    obtain ⟨h, hl, kk⟩ := kx E ws' q T'.heap (locs ++ L) hx (by rw [e1]; exact hw) hS'
    obtain ⟨t2, a1, b1⟩ := H_catch (rest := st) C hl (by rw [e1]; exact hce) hvm hcl kk T' rfl Y'
    exact ⟨t2, sg.trans a1, b1⟩
theorem Cal.bh {u : Un} {y z : MI} {hh : HH} {n d d' kc' ks' idx : Nat} {p : Program} {R : Room} {s : State} {m : MethodId} {args : Array Value} {meth : Method} {c : Code} (k : Cal z n) (C : CxH u y hh p s m args meth c) (hl : Cond.methodLink y.1.cls idx z.1 ∈ WALL) (hd : d' + 1 ≤ d) (q1 : d ≤ R.frames) (q2 : 64 * d ≤ R.locals) :
    CallB R s args y.1.cls idx z.1 z.2.1 z.2.2.1 z.2.2.2 (mW z) (rmD d' kc' ks') kc' ks' n := by
  have h3 := k.2.2.1
  refine callB_of n C.2.2.2.2.1 (mWH_goodIn k.1) rfl rfl rfl (C.word k.2.1) (C.word hl) k.2.2.2 ⟨?_, ?_⟩
  · show d' + 1 ≤ R.frames
    omega
  · show 8 + (z.2.2.1 + 11) + 64 * d' ≤ R.locals
    omega
theorem H_callV {u : Un} {y z : MI} {hh : HH} {d d' kc ks kc' ks' : Nat} {Q Q' : Option Value → va_W → Prop} {X' : String → va_W → Prop} {pc pc' idx n : Nat} {L : List (Nat × Value)} {st st0 As : List Value} {ws : va_W} {b : Nat} (hp : pc + 3 = pc') (k : CalV z n) (hl : Cond.methodLink y.1.cls idx z.1 ∈ WALL) (hd : decode y.2.1 pc = .ok (.invokevirtual idx, 3)) (hSem : Sem u z d' kc' ks' (.ref b :: As) ws Q' X')
    {i ci N : Nat} {T : u_T} {fs : List Value} (hb : ws[i]? = some (b, .inr (ci, fs))) (hc : vwCl[ci]? = some (z.1.cls, T, N)) (hn : As.length = n) (hst : st0 = As.reverse ++ .ref b :: st) (hcat : (st.map fun v => v.category).sum ≤ 8)
    (hdd : d' + 1 ≤ d) (hkc : kc' ≤ kc) (hks : ks' ≤ ks) (kx : ∀ (E : String) (ws' : va_W) (q : Nat), X' E ws' → ∃ h, Lands y hh pc E h ∧ VH u y hh d (kc - kc') (ks - ks') Q h L [.ref q] ws')
    (kr : ∀ (v : Option Value) (ws' : va_W), Q' v ws' → VH u y hh d (kc - kc') (ks - ks') Q pc' L (v.toList ++ st) ws') : VH u y hh d kc ks Q pc L st0 ws := by
  subst hp
  intro p e R s m args below meth c H locs cells slots ls C q1 q2 q3 q4 hw hS hls
  have hr := vx_runV (g := F0 m pc ls st0) (locs := locs) (cells := cells) (slots := slots) (below := below) (meth := meth) (e := e) (As := As) (rest := st) (b := b) (C := z.1.cls) ⟨C.1, C.2.1, C.2.2.1, C.2.2.2.2.2.1, C.2.2.2.2.1⟩ (hSem C.2.2.2.2.2.2.2.2.1.2) ⟨k.1.bh C hl hdd q1 q2, C.word k.2.1, C.word k.2.2⟩
    ⟨cPc_blind _ _ _, va_recv C.2.2.2.2.2.2.2.2.2.1 hw.1 hc hb, fun U hU hW => ⟨rfl, by rw [hU]; exact hw, C.kt hS hU hW⟩⟩ rfl hn hls.1 hst (lv_room hcat) hd ⟨by omega, by omega⟩
  exact H_run hr C hS (fun v ws' H1 locs1 hq hw1 hS1 => kr v ws' hq p e R s m args below meth c H1 locs1 _ _ ls C q1 q2 (by omega) (by omega) hw1 hS1 hls)
    (fun E ws' q H1 locs1 hx hw1 hS1 => by
      obtain ⟨h, hl, kk⟩ := kx E ws' q hx
      exact ⟨h, hl, kk p e R s m args below meth c H1 locs1 _ _ ls C q1 q2 (by omega) (by omega) hw1 hS1 hls⟩)
/-- a call of a method with a table, by one without -/
def CalH (z : MI) (hh : HH) (n : Nat) : Prop := Cond.codeWith z.1 z.2.1 z.2.2.1 z.2.2.2 hh ∈ WALL ∧ Cond.initialized z.1.cls ∈ WALL ∧ z.2.2.1 ≤ 45 ∧ (z.1.cls ≠ "java/lang/invoke/MethodHandle" ∧ z.1.cls ≠ "java/lang/invoke/VarHandle" ∧ (parseMethodDescriptor z.1.desc).map (fun d => d.parameters.length) = some n) ∧ Cond.static z.1 ∈ WALL
theorem V_callH {u : Un} {y z : MI} {hh : HH} {d d' kc ks kc' ks' : Nat} {Q Q' : Option Value → va_W → Prop} {X : String → va_W → Prop} {pc pc' idx n : Nat} {L : List (Nat × Value)} {st st0 As : List Value} {ws : va_W} (hp : pc + 3 = pc') (k : CalH z hh n) (hl : Cond.methodLink y.1.cls idx z.1 ∈ WALL) (hd : decode y.2.1 pc = .ok (.invokestatic idx, 3)) (hSem : SemH u z hh d' kc' ks' As ws Q')
    (hn : As.length = n) (hst : st0 = As.reverse ++ st) (hcat : (st.map fun v => v.category).sum ≤ 8)
    (hdd : d' + 1 ≤ d) (hkc : kc' ≤ kc) (hks : ks' ≤ ks)
    (kr : ∀ (v : Option Value) (ws' : va_W), Q' v ws' → V u y d (kc - kc') (ks - ks') Q X pc' L (v.toList ++ st) ws') : V u y d kc ks Q X pc L st0 ws := by
  subst hp
  intro p e R s m args below meth c H locs cells slots ls C q1 q2 q3 q4 hw hS hls
  have h3 := k.2.2.1
  have hG : GoodIn (mW y) (va_wsS y.1.cls idx z.1 (mWH z hh)) := fun w hw => by
    have hm : w ∈ WALL := by
      rcases List.mem_append.mp hw with h | h
      · rcases List.mem_cons.mp h with e | h
        · rw [e]; exact hl
        · rcases List.mem_cons.mp h with e | h
          · rw [e]; exact k.2.2.2.2
          · rcases List.mem_cons.mp h with e | h
            · rw [e]; exact k.2.1
            · cases h
      · rcases List.mem_cons.mp h with e | h
        · rw [e]; exact k.1
        · exact h
    exact ⟨List.mem_cons_of_mem _ hm, good_of_word (WALL_good _ hm)⟩
  have cw : vx_CSW R s args y.1.cls idx z.1 z.2.1 z.2.2.1 z.2.2.2 hh (mWH z hh) (rmD d' kc' ks') kc' ks' n := vx_cwSW (ws' := WALL) n C.2.2.2.2.1 hG rfl rfl rfl k.2.2.2.1 ⟨by show d' + 1 ≤ R.frames; omega, by show 8 + (z.2.2.1 + 11) + 64 * d' ≤ R.locals; omega⟩
  have hr := vx_runSX (g := F0 m pc ls st0) (locs := locs) (cells := cells) (slots := slots) (below := below) (meth := meth) (e := e) (As := As) (rest := st) ⟨C.1, C.2.1, C.2.2.1, C.2.2.2.2.2.1, C.2.2.2.2.1⟩ (hSem C.2.2.2.2.2.2.2.2.1.2) cw
    ⟨cPc_blind _ _ _, fun U hU hW => ⟨rfl, by rw [hU]; exact hw, C.kt hS hU hW⟩⟩ rfl hn hls.1 hst (lv_room hcat) hd ⟨by omega, by omega⟩
  exact V_run hr C hS (by omega) (by omega) (fun v ws' H1 locs1 hq hw1 hS1 => kr v ws' hq p e R s m args below meth c H1 locs1 _ _ ls C q1 q2 (by omega) (by omega) hw1 hS1 hls) (fun E ws' h => absurd h id)
