/-! MAKING: new at the plain layer (laid by wip/whole/src/p80.py) -/
section VNEW
variable {u : Un} {y : MI} {d kc ks : Nat} {Q : Option Value → va_W → Prop} {X : String → va_W → Prop} {pc : Nat} {L : List (Nat × Value)} {st : List Value} {ws : va_W}
/-- 'new': a cell more at the world's end -/
theorem V_new (pc' : Nat) {index ci N : Nat} {C0 : String} {T : u_T} {fs : List Value} (ty : Nat → FieldType) (hp : pc + 3 = pc') (hd : decode y.2.1 pc = .ok (.new index, 3)) (hin : ∀ w ∈ u_ws C0 T N, w ∈ WALL) (hty : ∀ k, k < N → parseFieldDescriptor (T k).2.2.1 = some (ty k)) (hcl : Cond.classLink y.1.cls index C0 ∈ WALL) (hinst : Cond.instantiable C0 N ∈ WALL) (hini : Cond.initialized C0 ∈ WALL) (hc : vwCl[ci]? = some (C0, T, N)) (hfs : ∀ j, j < N → defaultValue (ty j) = vp_V fs j) (hkc : 1 ≤ kc) (hks : N ≤ ks)
    (k : ∀ q : Nat, V u y d (kc - 1) (ks - N) Q X pc' L (.ref q :: st) (ws ++ [(q, .inr (ci, fs))])) : V u y d kc ks Q X pc L st ws := by
  subst hp
  intro p e R s m args below meth c H locs cells slots ls C q1 q2 q3 q4 hw hS hl
  have hK := C.2.2.2.2.2.2.2.2.2
  exact va_new C.1 C.2.1 (Ts := WALL) (fun w h => C.word h) hin ty hty C.2.2.2.2.2.1 (C.word hcl) (C.word hinst) (C.word hini) hK.1 hw.1 hw.2 hS (fun q hq => Nat.le_trans hK.2.1 hq) hc hfs (by omega) (by omega) hd (fun q H1 hP hD hS1 => k q p e R s m args below meth c H1 locs _ _ ls C q1 q2 (by omega) (by omega) ⟨hP, hD⟩ hS1 hl)
end VNEW
