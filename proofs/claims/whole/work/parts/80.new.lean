/-! MAKING: new at the plain layer (laid by wip/whole/src/p80.py) -/
section VNEW
variable {u : Un} {y : MI} {d kc ks : Nat} {Q : Option Value → va_W → Prop} {X : String → va_W → Prop} {pc : Nat} {L : List (Nat × Value)} {st : List Value} {ws : va_W}
/-- 'new': a cell more at the world's end -/
theorem V_new (pc' : Nat) {index ci N : Nat} {C0 : String} {T : u_T} {fs : List Value} (ty : Nat → FieldType) (hp : pc + 3 = pc') (hd : decode y.2.1 pc = .ok (.new index, 3)) (hin : ∀ w ∈ u_ws C0 T N, w ∈ WALL) (hty : ∀ k, k < N → parseFieldDescriptor (T k).2.2.1 = some (ty k)) (hcl : Cond.classLink y.1.cls index C0 ∈ WALL) (hinst : Cond.instantiable C0 N ∈ WALL) (hini : Cond.initialized C0 ∈ WALL) (hc : vwCl[ci]? = some (C0, T, N)) (hfs : ∀ j, j < N → defaultValue (ty j) = vp_V fs j) (hkc : 1 ≤ kc) (hks : N ≤ ks)
    (k : ∀ q : Nat, V u y d (kc - 1) (ks - N) Q X pc' L (.ref q :: st) (ws ++ [(q, .inr (ci, fs))])) : V u y d kc ks Q X pc L st ws := by
  subst hp
  intro p e R s m args below meth c H locs cells slots ls C q1 q2 q3 q4 hw hS hl
  have hK := C.2.2.2.2.2.2.2.2.2
  exact va_new C.1 C.2.1 (Ts := WALL) (fun w h => C.word h) hin ty hty C.2.2.2.2.2.1 (C.word hcl) (C.word hinst) (C.word hini) hK.1 hw.1 hw.2 hS (fun q hq => Nat.le_trans hK.2.1 hq) hc hfs (by omega) (by omega) hd (fun q H1 hP hD hS1 => k q p e R s m args below meth c H1 locs _ _ ls C q1 q2 (by omega) (by omega) ⟨hP, hD⟩ hS1 hl)
theorem va_RA_inj {s : State} {a b : ClassId} {ty : FieldType} (h : ty = .int ∨ ty = .char ∨ ty = .long ∨ ty = .double) (h1 : va_RA s a ty) (h2 : va_RA s b ty) : a = b := by
  rcases h with e | e | e | e <;> subst e <;> exact Option.some.inj (h1.symm.trans h2)
/-- 'newarray': an array more at the world's end -/
theorem V_newarr (pc' t0 : Nat) {atype : ArrayType} {ty : FieldType} {cA0 : ClassId} {n : Int32} {N' : Nat} {a0 : vp_A} (hp : pc + 2 = pc') (hd : decode y.2.1 pc = .ok (.newarray atype, 2)) (harr : Cond.arrayClass (newarray.typeOf atype) ∈ WALL) (hty : newarray.typeOf atype = ty) (h4 : ty = .int ∨ ty = .char ∨ ty = .long ∨ ty = .double) (ht : (uT u)[t0]? = some (cA0, ty)) (ha : ∀ cA : ClassId, vp_cell cA a0 = arrV cA N' (fun _ => defaultValue ty)) (hn : ¬ n < 0) (hN : n.toNatClampNeg = N') (hbytes : N' * componentBytes ty ≤ 536870912) (hkc : 1 ≤ kc) (hks : N' ≤ ks)
    (k : ∀ q : Nat, V u y d (kc - 1) (ks - N') Q X pc' L (.ref q :: st) (ws ++ [(q, .inl (cA0, a0))])) : V u y d kc ks Q X pc L (.int n :: st) ws := by
  subst hp
  intro p e R s m args below meth c H locs cells slots ls C q1 q2 q3 q4 hw hS hl
  have hK := C.2.2.2.2.2.2.2.2.2
  refine va_newa C.1 C.2.1 (C.word harr) hty hK.1 hw.1 hw.2 hS (fun q hq => Nat.le_trans hK.2.1 hq) ha hn hN hbytes (by omega) (by omega) hd (fun q cA H1 hK1 hP hD hS1 => ?_)
  have e1 : va_RA s cA ty := (hK1.2 (uT u).length (cA, ty) (by rw [List.getElem?_append_right (Nat.le_refl _), Nat.sub_self]; rfl)).2
  have e2 : va_RA s cA0 ty := (hK.1.2 t0 (cA0, ty) ht).2
  have e3 : cA = cA0 := va_RA_inj h4 e1 e2
  subst e3
  exact k q p e R s m args below meth c H1 locs _ _ ls C q1 q2 (by omega) (by omega) ⟨hP, hD⟩ hS1 hl
theorem va_RA_injO {s : State} {a b : ClassId} {Cn : String} (h1 : va_RA s a (.object Cn)) (h2 : va_RA s b (.object Cn)) : a = b := by
  obtain ⟨-, -, -, -, -, e1⟩ := h1
  obtain ⟨-, -, -, -, -, e2⟩ := h2
  exact Option.some.inj (e1.symm.trans e2)
/-- 'aastore' of a cell of the world -/
theorem V_aast (pc' q0 t0 qk ci : Nat) {a v n : Nat} {r : vw_C} {cA : ClassId} {vs : List Value} {f : Nat → Option Nat} {i : Int32} (hp : pc + 1 = pc') (hd : decode y.2.1 pc = .ok (.aastore, 1)) (ha : ws[q0]? = some (a, .inl (cA, n, .inr (.inr (.inr (.inr f)))))) (ht : (uT u)[t0]? = some (cA, .object r.1)) (hv : ws[qk]? = some (v, .inr (ci, vs))) (hc : vwCl[ci]? = some r) (hin : vp_in i n)
    (k : V u y d kc ks Q X pc' L st (ws.set q0 (a, .inl (cA, n, .inr (.inr (.inr (.inr (va_up f i.toNatClampNeg (some v)))))))) ) : V u y d kc ks Q X pc L (.ref v :: .int i :: .ref a :: st) ws := by
  subst hp
  intro p e R s m args below meth c H locs cells slots ls C q1 q2 q3 q4 hw hS hl
  have hK := C.2.2.2.2.2.2.2.2.2
  exact va_astq C.1 C.2.1 hK.1 hw.1 hw.2 hS q0 t0 qk ci ha ht hv hc hin hd (fun H1 locs1 hP hD hS1 => k p e R s m args below meth c H1 locs1 _ _ ls C q1 q2 q3 q4 ⟨hP, hD⟩ hS1 hl)
theorem V_anewarr (pc' t0 : Nat) {index : Nat} {C0 : String} {cA0 : ClassId} {n : Int32} {N' : Nat} (hp : pc + 3 = pc') (hd : decode y.2.1 pc = .ok (.anewarray index, 3)) (hcl : Cond.classLink y.1.cls index C0 ∈ WALL) (hov : C0 ∈ aoL) (ht : (uT u)[t0]? = some (cA0, .object C0)) (hn : ¬ n < 0) (hN : n.toNatClampNeg = N') (hbytes : N' * 4 ≤ 536870912) (hkc : 1 ≤ kc) (hks : N' ≤ ks)
    (k : ∀ q : Nat, V u y d (kc - 1) (ks - N') Q X pc' L (.ref q :: st) (ws ++ [(q, .inl (cA0, N', .inr (.inr (.inr (.inr (fun _ => none))))))])) : V u y d kc ks Q X pc L (.int n :: st) ws := by
  subst hp
  intro p e R s m args below meth c H locs cells slots ls C q1 q2 q3 q4 hw hS hl
  have hK := C.2.2.2.2.2.2.2.2.2
  refine va_newq C.1 C.2.1 C.2.2.2.2.2.1 (C.word hcl) (hK.2.2.2.2.1.2.2 _ hov) hK.1 hw.1 hw.2 hS (fun q hq => Nat.le_trans hK.2.1 hq) hn hN hbytes (by omega) (by omega) hd (fun q cA H1 hK1 hP hD hS1 => ?_)
  have e1 : va_RA s cA (.object C0) := (hK1.2 (uT u).length (cA, .object C0) (by rw [List.getElem?_append_right (Nat.le_refl _), Nat.sub_self]; rfl)).2
  have e2 : va_RA s cA0 (.object C0) := (hK.1.2 t0 (cA0, .object C0) ht).2
  have e3 : cA = cA0 := va_RA_injO e1 e2
  subst e3
  exact k q p e R s m args below meth c H1 locs _ _ ls C q1 q2 (by omega) (by omega) ⟨hP, hD⟩ hS1 hl
end VNEW
theorem wAC_int : Cond.arrayClass .int ∈ WALL := (inT1 (w := Cond.arrayClass .int) 70 rfl rfl)
theorem wAC_char : Cond.arrayClass .char ∈ WALL := (inT2 (w := Cond.arrayClass .char) 34 rfl rfl)
theorem wAC_long : Cond.arrayClass .long ∈ WALL := (inT9 (w := Cond.arrayClass .long) 48 rfl rfl)
theorem wAC_double : Cond.arrayClass .double ∈ WALL := (inT9 (w := Cond.arrayClass .double) 49 rfl rfl)
