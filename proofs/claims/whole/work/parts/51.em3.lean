/-! THE CLASS ITSELF: line, shares, isConsistent (laid by wip/whole/src/p51.py) -/
section EMROW
variable {u : Un} {g : Gn} {y : MI} {d kc ks : Nat} {pc : Nat} {L : List (Nat × Value)} {st : List Value}
theorem va_ldcwF {p : Program} {l : Launch} {e : Env} {R : Room} {s : State} {m : MethodId} {args : Array Value} {below : List Frame} {meth : Method} {c : Code} {locs : List Loc} {cells slots : Nat} {T : State} (X : Stand p l e R s m args below meth c T locs cells slots) (hexec : p.tables.exec = Jvm.exec) {own : String} {index : Nat} {v : UInt32} (hown : s.vm.findClass own = some m.cls)
    (hconst : (Cond.constantFloat own index v).before args s = true) {g : JFrame} (hg : g.method = m) (hdg : decode c.code g.pc = .ok (.ldc_w index, 3)) :
    ∀ target, Steps p.tables e below (T.setTop { g with pc := g.pc + 3, stack := .float v :: g.stack }) target → Steps p.tables e below (T.setTop g) target := by
  obtain ⟨k, cf, hk, hcf, hcp⟩ := Cond.constantFloat_spec hown hconst
  obtain ⟨k', hk', he⟩ := X.warmed.alike.2.2 _ _ hk
  intro target hrest
  subst hg
  jvm_step X.here [hexec, hdg, ldc_w.wp_float (s := T) (f := g) X.here.top hk' (by rw [he]; exact hcf) hcp]
  exact hrest
theorem lv_ldcwF {p : Program} {l : Launch} {e : Env} {R : Room} {s : State} {m : MethodId} {args : Array Value} {below : List Frame} {meth : Method} {c : Code} {H : Heap} {locs : List Loc} {cells slots : Nat} {ls : Array Slot} {rest : List Value} {cc : ByteArray} {Q : State → Prop} (hexec : p.tables.exec = Jvm.exec) (hb : c.code = cc) {own : String} {index : Nat} {v : UInt32} (hown : s.vm.findClass own = some m.cls) (hconst : (Jvm.Cond.constantFloat own index v).before args s = true) (hdg : decode cc pc = .ok (.ldc_w index, 3)) (k : W p l e R s m args below meth c H locs cells slots Q (F0 m (pc + 3) ls (.float v :: rest))) : W p l e R s m args below meth c H locs cells slots Q (F0 m pc ls rest) := by
  intro T hT X
  obtain ⟨t, a, b⟩ := k T hT X
  exact ⟨t, va_ldcwF X hexec hown hconst (g := F0 m pc ls rest) rfl (by rw [hb]; exact hdg) t a, b⟩
theorem V_ldcwF {Q : Option Value → va_W → Prop} {X : String → va_W → Prop} {ws : va_W} (pc' : Nat) {i : Nat} {v : UInt32} (hp : pc + 3 = pc') (hd : decode y.2.1 pc = .ok (.ldc_w i, 3)) (hv : Cond.constantFloat y.1.cls i v ∈ WALL) (k : V u y d kc ks Q X pc' L (.float v :: st) ws) : V u y d kc ks Q X pc L (st) ws := by
  subst hp
  intro p e R s m args below meth c H locs cells slots ls C q1 q2 q3 q4 hw hS hl
  exact lv_ldcwF C.1 C.2.1 C.2.2.2.2.2.1 (C.word hv) hd (k p e R s m args below meth c H locs cells slots ls C q1 q2 q3 q4 hw hS hl)
theorem V_more {Q : Option Value → va_W → Prop} {X : String → va_W → Prop} {ws : va_W} {kc2 ks2 : Nat} (h1 : kc ≤ kc2) (h2 : ks ≤ ks2) (k : V u y d kc ks Q X pc L st ws) : V u y d kc2 ks2 Q X pc L st ws := by
  intro p e R s m args below meth c H locs cells slots ls C q1 q2 q3 q4 hw hS hl
  exact k p e R s m args below meth c H locs cells slots ls C q1 q2 (by omega) (by omega) hw hS hl
theorem V_mono {Q Q2 : Option Value → va_W → Prop} {X X2 : String → va_W → Prop} {ws : va_W} (h : V u y d kc ks Q X pc L st ws) (hQ : ∀ v ws', Q v ws' → Q2 v ws') (hX : ∀ E ws', X E ws' → X2 E ws') : V u y d kc ks Q2 X2 pc L st ws := by
  intro p e R s m args below meth c H locs cells slots ls C q1 q2 q3 q4 hw hS hl
  intro T hT Y
  obtain ⟨t, a, o, b1, b2, b3⟩ := h p e R s m args below meth c H locs cells slots ls C q1 q2 q3 q4 hw hS hl T hT Y
  refine ⟨t, a, o, b1, b2, ?_⟩
  rcases b3 with ⟨⟨⟨v, ws', e1, e2, e3⟩, e4⟩, e5⟩ | ⟨q, e1, E, ce, L, ⟨ws', hx, hw⟩, hr⟩
  · exact Or.inl ⟨⟨⟨v, ws', e1, hQ _ _ e2, e3⟩, e4⟩, e5⟩
  · exact Or.inr ⟨q, e1, E, ce, L, ⟨ws', hX _ _ hx, hw⟩, hr⟩
variable {Q : Option Value → DJ → Prop} {X : String → DJ → Prop} {J : DJ}
theorem VJ_mono {Q2 : Option Value → DJ → Prop} {X2 : String → DJ → Prop} (h : VJ g y d kc ks Q X pc L st J) (hQ : ∀ v J', Q v J' → Q2 v J') (hX : ∀ E J', X E J' → X2 E J') : VJ g y d kc ks Q2 X2 pc L st J :=
  V_mono h (fun v ws ⟨J', e, q⟩ => ⟨J', e, hQ v J' q⟩) (fun E ws ⟨J', e, q⟩ => ⟨J', e, hX E J' q⟩)
theorem J_more {kc2 ks2 : Nat} (h1 : kc ≤ kc2) (h2 : ks ≤ ks2) (k : VJ g y d kc ks Q X pc L st J) : VJ g y d kc2 ks2 Q X pc L st J := V_more h1 h2 k
theorem J_ldcwF (pc' : Nat) {i : Nat} {v : UInt32} (hp : pc + 3 = pc') (hd : decode y.2.1 pc = .ok (.ldc_w i, 3)) (hv : Cond.constantFloat y.1.cls i v ∈ WALL) (h : VJ g y d kc ks Q X pc' L (.float v :: st) J) : VJ g y d kc ks Q X pc L st J := V_ldcwF pc' hp hd hv h
theorem J_i2d (pc' : Nat) {x : Int32} (hp : pc + 1 = pc') (hd : decode y.2.1 pc = .ok (.i2d, 1)) (h : VJ g y d kc ks Q X pc' L (.double (FP.i2d x) :: st) J) : VJ g y d kc ks Q X pc L (.int x :: st) J := V_i2d pc' hp hd h
theorem J_i2f (pc' : Nat) {x : Int32} (hp : pc + 1 = pc') (hd : decode y.2.1 pc = .ok (.i2f, 1)) (h : VJ g y d kc ks Q X pc' L (.float (FP.i2f x) :: st) J) : VJ g y d kc ks Q X pc L (.int x :: st) J := V_i2f pc' hp hd h
theorem J_ddiv (pc' : Nat) {x z : UInt64} (hp : pc + 1 = pc') (hd : decode y.2.1 pc = .ok (.ddiv, 1)) (hne : vf_n64 (FP.ddiv x z)) (h : VJ g y d kc ks Q X pc' L (.double (FP.ddiv x z) :: st) J) : VJ g y d kc ks Q X pc L (.double z :: .double x :: st) J := V_ddiv pc' hp hd hne h
theorem J_fdiv (pc' : Nat) {x z : UInt32} (hp : pc + 1 = pc') (hd : decode y.2.1 pc = .ok (.fdiv, 1)) (hne : vf_n32 (FP.fdiv x z)) (h : VJ g y d kc ks Q X pc' L (.float (FP.fdiv x z) :: st) J) : VJ g y d kc ks Q X pc L (.float z :: .float x :: st) J := V_fdiv pc' hp hd hne h
theorem J_dret {v : UInt64} (hr : y.2.2.2 = some .double) (hd : decode y.2.1 pc = .ok (.dreturn, 1)) (h : Q (some (.double v)) J) : VJ g y d kc ks Q X pc L [.double v] J := V_dret hr hd ⟨J, rfl, h⟩
theorem J_fret {v : UInt32} (hr : y.2.2.2 = some .float) (hd : decode y.2.1 pc = .ok (.freturn, 1)) (h : Q (some (.float v)) J) : VJ g y d kc ks Q X pc L [.float v] J := V_fret hr hd ⟨J, rfl, h⟩
theorem J_cret {n : Nat} (hr : y.2.2.2 = some .char) (hd : decode y.2.1 pc = .ok (.ireturn, 1)) (hn : n < 65536) (h : Q (some (.int (nI n))) J) : VJ g y d kc ks Q X pc L [.int (nI n)] J := V_zret hr (pk_charN hn).1 hd ⟨J, rfl, h⟩
theorem J_i2cN (pc' : Nat) {n : Nat} (hp : pc + 1 = pc') (hd : decode y.2.1 pc = .ok (.i2c, 1)) (hn : n < 65536) (h : VJ g y d kc ks Q X pc' L (.int (nI n) :: st) J) : VJ g y d kc ks Q X pc L (.int (nI n) :: st) J := J_i2c pc' (nI n) hp hd (by
  have e : narrow .char (.int (nI n)) = .int (((nI n).toUInt32 % 65536).toInt32) := rfl
  have h2 := (pk_charN hn).1
  rw [e] at h2
  exact Value.int.inj h2) h
theorem J_alenC (pc' : Nat) {k N : Nat} (hp : pc + 1 = pc') (hd : decode y.2.1 pc = .ok (.arraylength, 1)) (ha : arC k N) (h : VJ g y d kc ks Q X pc' L (.int (nI N) :: st) J) : VJ g y d kc ks Q X pc L (.ref (g.2 k) :: st) J := by
  obtain ⟨hk, hs, hN⟩ := ha
  exact V_alen pc' 1 (nI N) hp hd ((wd_get g J hk).trans (by rw [celR_c hs])) rfl rfl h
theorem J_alenI (pc' : Nat) {k N : Nat} (hp : pc + 1 = pc') (hd : decode y.2.1 pc = .ok (.arraylength, 1)) (ha : arI k N) (h : VJ g y d kc ks Q X pc' L (.int (nI N) :: st) J) : VJ g y d kc ks Q X pc L (.ref (g.2 k) :: st) J := by
  obtain ⟨hk, hs, hN⟩ := ha
  exact V_alen pc' 0 (nI N) hp hd ((wd_get g J hk).trans (by rw [celR_i hs])) rfl rfl h
end EMROW
/-! no quotient of ours is a NaN -/
def nn64 (n : Nat) : Prop := n % 9223372036854775808 ≤ 9218868437227405312
theorem enc_nn {s : Bool} {c : Nat} {q : Int} (hc : c < 9007199254740992) (hq : q ≤ 971) : nn64 (FP.Core.encode FP.Core.b64 (.fin s c q)) := by
  have e1 : FP.Core.b64.exps = 2048 := by decide
  have e2 : FP.Core.b64.tails = 4503599627370496 := by decide
  have e3 : FP.Core.b64.qmin = -1074 := by decide
  unfold FP.Core.encode
  simp only []
  by_cases h : c < FP.Core.b64.tails
  · rw [if_pos h]
    unfold FP.Core.assemble nn64
    rw [e1, e2] at *
    cases s
    · show ((0 * 2048 + 0) * 4503599627370496 + c) % _ ≤ _
      omega
    · show ((1 * 2048 + 0) * 4503599627370496 + c) % _ ≤ _
      omega
  · rw [if_neg h]
    unfold FP.Core.assemble nn64
    rw [e1, e2, e3] at *
    have : (q - -1074).toNat ≤ 2045 := by omega
    cases s
    · show ((0 * 2048 + ((q - -1074).toNat + 1)) * 4503599627370496 + (c - 4503599627370496)) % _ ≤ _
      omega
    · show ((1 * 2048 + ((q - -1074).toNat + 1)) * 4503599627370496 + (c - 4503599627370496)) % _ ≤ _
      omega
theorem inf_nn (s : Bool) : nn64 (FP.Core.encode FP.Core.b64 (.inf s)) := by
  cases s <;> (unfold nn64; decide)
theorem bnd_nn {s : Bool} {c : Nat} {q : Int} (hc : c < 9007199254740992) : nn64 (FP.Core.encode FP.Core.b64 (FP.Core.bound FP.Core.b64 s c q)) := by
  unfold FP.Core.bound
  have e3 : FP.Core.b64.qmax = 971 := by decide
  rw [e3]
  by_cases h : q ≤ 971
  · rw [if_pos h]; exact enc_nn hc h
  · rw [if_neg h]; exact inf_nn s
theorem rr_nn {s : Bool} {a b : Nat} {e : Int} : nn64 (FP.Core.encode FP.Core.b64 (FP.Core.roundRatio FP.Core.b64 s a b e)) := by
  unfold FP.Core.roundRatio
  by_cases h : a = 0
  · rw [if_pos h]
    exact enc_nn (by omega) (by decide)
  · rw [if_neg h]
    unfold FP.Core.roundAt FP.Core.settle
    have e3 : 2 ^ FP.Core.b64.p = 9007199254740992 := by decide
    rw [e3]
    split
    · exact bnd_nn (by assumption)
    · exact bnd_nn (by decide)
theorem dec_nn {n : Nat} (h : nn64 n) : FP.Core.decode FP.Core.b64 n ≠ .nan := by
  have e1 : FP.Core.b64.exps = 2048 := by decide
  have e2 : FP.Core.b64.tails = 4503599627370496 := by decide
  unfold FP.Core.decode
  unfold FP.Core.fieldE FP.Core.fieldT
  rw [e1, e2]
  unfold nn64 at h
  by_cases q : n / 4503599627370496 % 2048 = 2048 - 1
  · rw [if_pos q]
    rw [if_pos (by omega)]
    intro z; cases z
  · rw [if_neg q]
    split
    · intro z; cases z
    · intro z; cases z
theorem nn_of (n : Nat) (h : nn64 n) : nn64 (UInt64.ofNat n).toNat := by
  unfold nn64 at *
  rw [show (UInt64.ofNat n).toNat = n % 18446744073709551616 from UInt64.toNat_ofNat' ..]
  omega
theorem vf_of {r : UInt64} (h : nn64 r.toNat) : vf_n64 r := by
  unfold vf_n64
  rw [UInt64.le_iff_toNat_le, UInt64.toNat_and]
  have e : (0x7fffffffffffffff : UInt64).toNat = 2 ^ 63 - 1 := by decide
  have e2 : (0x7ff0000000000000 : UInt64).toNat = 9218868437227405312 := by decide
  rw [e, e2, Nat.and_two_pow_sub_one_eq_mod]
  exact h
def dzOk (n : Nat) : Bool := match FP.Core.decode FP.Core.b64 (FP.i2d (nI n)).toNat with
  | .fin _ c _ => decide (c ≠ 0)
  | _ => false
theorem dzOk_32 : ∀ n, n < 33 → 1 ≤ n → dzOk n = true := by decide +kernel
theorem div_nn {a n : Nat} (h1 : 1 ≤ n) (h : n < 33) : vf_n64 (FP.ddiv (FP.i2d (nI a)) (FP.i2d (nI n))) := by
  apply vf_of
  show nn64 (UInt64.ofNat (FP.Core.encode FP.Core.b64 (FP.Core.quotient FP.Core.b64 (FP.Core.decode FP.Core.b64 (FP.i2d (nI a)).toNat) (FP.Core.decode FP.Core.b64 (FP.i2d (nI n)).toNat)))).toNat
  apply nn_of
  have hx : FP.Core.decode FP.Core.b64 (FP.i2d (nI a)).toNat ≠ .nan := by
    apply dec_nn
    show nn64 (UInt64.ofNat (FP.Core.encode FP.Core.b64 (FP.Core.round FP.Core.b64 (FP.Core.ofInt (nI a).toInt)))).toNat
    apply nn_of
    exact rr_nn
  have hz := dzOk_32 n h h1
  unfold dzOk at hz
  revert hx hz
  generalize FP.Core.decode FP.Core.b64 (FP.i2d (nI a)).toNat = dx
  generalize FP.Core.decode FP.Core.b64 (FP.i2d (nI n)).toNat = dz
  intro hx hz
  cases dz with
  | nan => cases hz
  | inf t => cases hz
  | fin t c r =>
    have hc : c ≠ 0 := by simpa using hz
    cases dx with
    | nan => exact absurd rfl hx
    | inf s => exact inf_nn _
    | fin s a2 q =>
      show nn64 (FP.Core.encode FP.Core.b64 (if c = 0 then _ else _))
      rw [if_neg hc]
      exact rr_nn
theorem div8_nn : ∀ r, r < 9 → vf_n32 (FP.fdiv (FP.i2f (nI r)) 1090519040) := by
  unfold vf_n32
  decide +kernel
/-! THE LINE -/
def LnC (J : DJ) (l : List Nat) : Prop := J 348 1 = l.length ∧ ∀ i, i < l.length → J 349 i = l.getD i 0
theorem getD_app {l : List Nat} {c i : Nat} (h : i < l.length) : (l ++ [c]).getD i 0 = l.getD i 0 := by
  rw [List.getD_eq_getElem?_getD, List.getD_eq_getElem?_getD, List.getElem?_append_left h]
theorem getD_end {l : List Nat} {c : Nat} : (l ++ [c]).getD l.length 0 = c := by
  rw [List.getD_eq_getElem?_getD, List.getElem?_append_right (Nat.le_refl _)]
  simp
theorem LnC.nil {J : DJ} : LnC (up2 J 348 1 0) [] := ⟨by rw [up2_app, if_pos ⟨rfl, rfl⟩]; rfl, fun i hi => absurd hi (Nat.not_lt_zero _)⟩
theorem LnC.snoc {J : DJ} {l : List Nat} {c : Nat} (h : LnC J l) : LnC (up2 (up2 J 349 l.length c) 348 1 (l.length + 1)) (l ++ [c]) := by
  refine ⟨by rw [up2_app, if_pos ⟨rfl, rfl⟩, List.length_append]; rfl, fun i hi => ?_⟩
  rw [List.length_append] at hi
  simp only [List.length_cons, List.length_nil] at hi
  rw [up2_app, if_neg (by omega), up2_app]
  by_cases e : i = l.length
  · rw [if_pos ⟨rfl, e⟩, e, getD_end]
  · rw [if_neg (fun z => e z.2), h.2 i (by omega), getD_app (by omega)]
theorem LnC.fr {J J2 : DJ} {l : List Nat} (h : LnC J l) (e8 : J2 348 = J 348) (e9 : J2 349 = J 349) : LnC J2 l := by
  unfold LnC
  rw [e8, e9]
  exact h
theorem S_X5_empty {g : Gn} {J : DJ} : SJ g mX5_empty 0 0 0 [.ref (g.2 348)] J (Rv (up2 J 348 1 0)) NoX := by
  refine SJ_of_VJ (by decide +kernel) (Nat.le_of_ble_eq_true rfl) ?_
  show VJ g mX5_empty 0 0 0 _ _ 0 [(0, .ref (g.2 348))] [] J
  refine J_aload_n 1 rfl dX5_empty_0 rfl ?_
  refine J_iconst 2 0 rfl dX5_empty_1 ic_0 ?_
  refine p_X5_length 5 rfl dX5_empty_2 lkX5_15 ?_
  refine J_vret rfl dX5_empty_5 ?_
  exact ⟨rfl, rfl⟩

theorem S_X5_write {g : Gn} {J : DJ} {l : List Nat} {c : Nat} (h : LnC J l) (hl : l.length < 19) (hc : c < 65536) : SJ g mX5_write 0 0 0 [.ref (g.2 348), .int (nI (c))] J (Rq (fun J2 => LnC J2 (l ++ [c]) ∧ Fr 348 2 J J2)) NoX := by
  have h1 := h.1
  refine SJ_of_VJ (by decide +kernel) (Nat.le_of_ble_eq_true rfl) ?_
  show VJ g mX5_write 0 0 0 _ _ 0 [(0, .ref (g.2 348)), (1, .int (nI (c)))] [] J
  refine J_aload_n 1 rfl dX5_write_0 rfl ?_
  refine g_X5_length 4 rfl dX5_write_1 lkX5_15 ?_
  refine J_cv (b := l.length) h1 ?_
  refine J_aload_n 5 rfl dX5_write_4 rfl ?_
  refine g_X5_characters 8 rfl dX5_write_5 lkX5_9 ?_
  refine J_alenC 9 rfl dX5_write_8 (sa_X5_characters) ?_
  refine J_icmp_ge 32 12 (by decide) rfl dX5_write_9 (by omega) (by omega) (fun c9 => ?_) (fun c9 => ?_)
  · refine J_vret rfl dX5_write_32 ?_
    first
      | exact ⟨rfl, h.snoc, fun z hz => by rw [up2_ne (by omega), up2_ne (by omega)]⟩
      | (exfalso; omega)
  · refine J_aload_n 13 rfl dX5_write_12 rfl ?_
    refine g_X5_characters 16 rfl dX5_write_13 lkX5_9 ?_
    refine J_aload_n 17 rfl dX5_write_16 rfl ?_
    refine g_X5_length 20 rfl dX5_write_17 lkX5_15 ?_
    refine J_cv (b := l.length) h1 ?_
    refine J_iload_n 21 rfl dX5_write_20 rfl ?_
    refine J_cast 22 rfl dX5_write_21 (sa_X5_characters) (by omega) hc ?_
    refine J_aload_n 23 rfl dX5_write_22 rfl ?_
    refine J_dup 24 rfl dX5_write_23 rfl ?_
    refine g_X5_length 27 rfl dX5_write_24 lkX5_15 ?_
    refine J_cv (b := l.length) (by rw [up2_ne (by omega)]; exact h1) ?_
    refine J_iconst 28 1 rfl dX5_write_27 ic_1 ?_
    refine J_iadd 29 rfl dX5_write_28 ?_
    refine p_X5_length 32 rfl dX5_write_29 lkX5_15 ?_
    refine J_vret rfl dX5_write_32 ?_
    first
      | exact ⟨rfl, h.snoc, fun z hz => by rw [up2_ne (by omega), up2_ne (by omega)]⟩
      | (exfalso; omega)

theorem S_X5_writeDigit {g : Gn} {J : DJ} {l : List Nat} {c : Nat} (h : LnC J l) (hl : l.length < 19) (hc : c < 60000) : SJ g mX5_writeDigit 1 0 0 [.ref (g.2 348), .int (nI (c))] J (Rq (fun J2 => LnC J2 (l ++ [48 + c]) ∧ Fr 348 2 J J2)) NoX := by
  refine SJ_of_VJ (by decide +kernel) (Nat.le_of_ble_eq_true rfl) ?_
  show VJ g mX5_writeDigit 1 0 0 _ _ 0 [(0, .ref (g.2 348)), (1, .int (nI (c)))] [] J
  refine J_aload_n 1 rfl dX5_writeDigit_0 rfl ?_
  refine J_bipush 3 48 rfl dX5_writeDigit_1 bc_48 ?_
  refine J_iload_n 4 rfl dX5_writeDigit_3 rfl ?_
  refine J_iadd 5 rfl dX5_writeDigit_4 ?_
  refine J_i2cN 6 rfl dX5_writeDigit_5 (by omega) ?_
  refine J_callVvp (As := [_]) 9 _ rfl kalX5_write lkX5_19 dX5_writeDigit_6 (lt_X5) (so_X5) rfl rfl rfl (by exact Nat.le_of_ble_eq_true rfl) (by omega) (S_X5_write h hl (by omega)) (fun J6 q6 => ?_)
  refine J_vret rfl dX5_writeDigit_9 ?_
  exact ⟨rfl, q6⟩

/-- what is written of one place -/
def lnP (f : Nat → Nat) (o k : Nat) : List Nat := (if k = f (o + 1) then [42] else []) ++ ([48 + f (o + 4 + k)] ++ (if f (o + 12 + f (o + 4 + k)) = 0 then [33] else []))
def lnN (f : Nat → Nat) (o : Nat) : Nat → List Nat
  | 0 => []
  | k + 1 => lnN f o k ++ lnP f o k
def lnE2 (f : Nat → Nat) (e : Nat) : List Nat := [48 + e] ++ ([58] ++ lnN f (7 + 52 * e) (f (7 + 52 * e)))
theorem lnN_len (f : Nat → Nat) (o : Nat) : ∀ k, (lnN f o k).length ≤ 2 * k + (if f (o + 1) < k then 1 else 0)
  | 0 => Nat.zero_le _
  | k + 1 => by
    have ih := lnN_len f o k
    simp only [lnN, lnP, List.length_append]
    have a1 : (if k = f (o + 1) then [42] else ([] : List Nat)).length = if k = f (o + 1) then 1 else 0 := by split <;> rfl
    have a2 : (if f (o + 12 + f (o + 4 + k)) = 0 then [33] else ([] : List Nat)).length ≤ 1 := by split <;> simp
    rw [a1]
    simp only [List.length_cons, List.length_nil]
    by_cases q : k = f (o + 1)
    · rw [if_pos q, if_pos (show f (o + 1) < k + 1 by omega)]
      rw [if_neg (show ¬ f (o + 1) < k by omega)] at ih
      omega
    · rw [if_neg q]
      by_cases r : f (o + 1) < k
      · rw [if_pos (show f (o + 1) < k + 1 by omega)]
        rw [if_pos r] at ih
        omega
      · rw [if_neg (show ¬ f (o + 1) < k + 1 by omega)]
        rw [if_neg r] at ih
        omega
def rtC (f : Nat → Nat) (u : Nat) : Nat := if kp (fvig f) u = 4294967295 then 45 else 48 + kp (fvig f) u
def rtN (f : Nat → Nat) : Nat → List Nat
  | 0 => []
  | k + 1 => rtN f k ++ [rtC f k]
theorem rtN_len (f : Nat → Nat) : ∀ k, (rtN f k).length = k
  | 0 => rfl
  | k + 1 => by simp only [rtN, List.length_append, rtN_len f k]; rfl
/-- what the class writes: the line is new, little else changes -/
def Wr (J J2 : DJ) (l : List Nat) : Prop := LnC J2 l ∧ ∀ c, c < 337 ∨ (341 ≤ c ∧ c < 348) ∨ 350 ≤ c → J2 c = J c
theorem S_X10_writePlace {g : Gn} {J : DJ} {e k B : Nat} {f : Nat → Nat} {l : List Nat} (hC : CE J (1 + 10 + 5 * e) f (7 + 52 * e)) (hO : EOk f (7 + 52 * e)) (he : e < 4) (hk : k < f (7 + 52 * e)) (hl : LnC J l) (hb : ∀ i, i < 269 → f i ≤ B) (hB : B < 40000000) (hn : (l ++ lnP f (7 + 52 * e) k).length ≤ 19) : SJ g mX10_writePlace 2 0 0 [.ref (g.2 0), .ref (g.2 (1 + 10 + 5 * e)), .int (nI (k))] J (Rq (fun J2 => LnC J2 (l ++ lnP f (7 + 52 * e) k) ∧ Fr 348 2 J J2)) NoX := by
  have h8 := hO.2.1
  have oc := (hC.2.2.2.2.2.1 k hk).1
  have ol8 : f (7 + 52 * e + 4 + k) < f (7 + 52 * e) := hO.2.2.2.2.2.1 k hk
  have oo := (hC.2.2.2.2.2.1 _ ol8).2.1
  have ob : f (7 + 52 * e + 12 + f (7 + 52 * e + 4 + k)) ≤ B := hb _ (by omega)
  have hdu := hC.2.1
  have hd7 := hO.2.2.1
  have last : ∀ (J1 : DJ) (l1 : List Nat), LnC J1 l1 → Fr 348 2 J J1 → (l1 ++ ([48 + f (7 + 52 * e + 4 + k)] ++ (if f (7 + 52 * e + 12 + f (7 + 52 * e + 4 + k)) = 0 then [33] else []))).length ≤ 19 → l1 ++ ([48 + f (7 + 52 * e + 4 + k)] ++ (if f (7 + 52 * e + 12 + f (7 + 52 * e + 4 + k)) = 0 then [33] else [])) = l ++ lnP f (7 + 52 * e) k → VJ g mX10_writePlace 2 0 0 (Rq (fun J2 => LnC J2 (l ++ lnP f (7 + 52 * e) k) ∧ Fr 348 2 J J2)) NoX 24 [(0, .ref (g.2 0)), (1, .ref (g.2 (1 + 10 + 5 * e))), (2, .int (nI k)), (3, .int (nI (f (7 + 52 * e + 4 + k))))] [] J1 := by
    intro J1 l1 hl1 hf1 hn1 hq
    have hle : l1.length < 19 := by
      simp only [List.length_append, List.length_cons] at hn1
      omega
    refine J_aload_n 25 rfl dX10_writePlace_24 rfl ?_
    refine g_X10_line 28 rfl dX10_writePlace_25 lkX10_60 ?_
    refine J_iload_n 29 rfl dX10_writePlace_28 rfl ?_
    refine J_callVvp (As := [_]) 32 _ rfl kalX5_writeDigit lkX10_361 dX10_writePlace_29 (lt_X5) (so_X5) rfl rfl rfl (by exact Nat.le_of_ble_eq_true rfl) (by omega) (S_X5_writeDigit hl1 hle (by omega)) (fun J29 q29 => ?_)
    have o2 : J29 (1 + 10 + 5 * e + 2) (f (7 + 52 * e + 4 + k)) = f (7 + 52 * e + 12 + f (7 + 52 * e + 4 + k)) := by rw [q29.2 _ (by omega), hf1 _ (by omega)]; exact oo
    refine J_aload_n 33 rfl dX10_writePlace_32 rfl ?_
    refine g_X1_oil 36 (by first | assumption | exact isH_1 | exact isH_31 | exact isH_61 | exact isH_p (by omega) | exact isH_E (by assumption) (by omega) | exact isH_R (by assumption) | exact isH_K (by assumption) | exact isH_E isH_1 (by omega) | exact isH_R isH_1 | exact isH_K isH_1 | exact isH_R isH_31 | exact isH_K isH_31 | exact isH_E isH_31 (by omega)) rfl dX10_writePlace_33 lkX10_199 ?_
    refine J_iload_n 37 rfl dX10_writePlace_36 rfl ?_
    refine J_iald 38 rfl dX10_writePlace_37 (sa_X1_oil (by first | assumption | exact isH_1 | exact isH_31 | exact isH_61 | exact isH_p (by omega) | exact isH_E (by assumption) (by omega) | exact isH_R (by assumption) | exact isH_K (by assumption) | exact isH_E isH_1 (by omega) | exact isH_R isH_1 | exact isH_K isH_1 | exact isH_R isH_31 | exact isH_K isH_31 | exact isH_E isH_31 (by omega))) (by omega) ?_
    refine J_cv (b := f (7 + 52 * e + 12 + f (7 + 52 * e + 4 + k))) o2 ?_
    refine J_if_ne 50 41 (by decide) rfl dX10_writePlace_38 (by omega) (fun c38 => ?_) (fun c38 => ?_)
    · refine J_vret rfl dX10_writePlace_50 ?_
      refine ⟨rfl, ?_⟩
      rw [← hq]
      first
        | (rw [if_pos (by omega), ← List.append_assoc]; exact ⟨q47.1, fun c hc => by rw [q47.2 c hc, q29.2 c hc, hf1 c hc]⟩)
        | (rw [if_neg (by omega), List.append_nil]; exact ⟨q29.1, fun c hc => by rw [q29.2 c hc, hf1 c hc]⟩)
    · refine J_aload_n 42 rfl dX10_writePlace_41 rfl ?_
      refine g_X10_line 45 rfl dX10_writePlace_42 lkX10_60 ?_
      refine J_bipush 47 33 rfl dX10_writePlace_45 bc_33 ?_
      refine J_callVvp (As := [_]) 50 _ rfl kalX5_write lkX10_364 dX10_writePlace_47 (lt_X5) (so_X5) rfl rfl rfl (by exact Nat.le_of_ble_eq_true rfl) (by omega) (S_X5_write q29.1 (by simp only [List.length_append, List.length_cons, List.length_nil]; rw [if_pos (by omega)] at hn1; simp only [List.length_append, List.length_cons, List.length_nil] at hn1; omega) (by omega)) (fun J47 q47 => ?_)
      refine J_vret rfl dX10_writePlace_50 ?_
      refine ⟨rfl, ?_⟩
      rw [← hq]
      first
        | (rw [if_pos (by omega), ← List.append_assoc]; exact ⟨q47.1, fun c hc => by rw [q47.2 c hc, q29.2 c hc, hf1 c hc]⟩)
        | (rw [if_neg (by omega), List.append_nil]; exact ⟨q29.1, fun c hc => by rw [q29.2 c hc, hf1 c hc]⟩)
  refine SJ_of_VJ (by decide +kernel) (Nat.le_of_ble_eq_true rfl) ?_
  show VJ g mX10_writePlace 2 0 0 _ _ 0 [(0, .ref (g.2 0)), (1, .ref (g.2 (1 + 10 + 5 * e))), (2, .int (nI (k)))] [] J
  refine J_aload_n 1 rfl dX10_writePlace_0 rfl ?_
  refine g_X1_order 4 (by first | assumption | exact isH_1 | exact isH_31 | exact isH_61 | exact isH_p (by omega) | exact isH_E (by assumption) (by omega) | exact isH_R (by assumption) | exact isH_K (by assumption) | exact isH_E isH_1 (by omega) | exact isH_R isH_1 | exact isH_K isH_1 | exact isH_R isH_31 | exact isH_K isH_31 | exact isH_E isH_31 (by omega)) rfl dX10_writePlace_1 lkX10_128 ?_
  refine J_iload_n 5 rfl dX10_writePlace_4 rfl ?_
  refine J_iald 6 rfl dX10_writePlace_5 (sa_X1_order (by first | assumption | exact isH_1 | exact isH_31 | exact isH_61 | exact isH_p (by omega) | exact isH_E (by assumption) (by omega) | exact isH_R (by assumption) | exact isH_K (by assumption) | exact isH_E isH_1 (by omega) | exact isH_R isH_1 | exact isH_K isH_1 | exact isH_R isH_31 | exact isH_K isH_31 | exact isH_E isH_31 (by omega))) (by omega) ?_
  refine J_cv (b := f (7 + 52 * e + 4 + k)) oc ?_
  refine J_istore_n 7 rfl dX10_writePlace_6 rfl (Nat.le_of_ble_eq_true rfl) ?_
  refine J_iload_n 8 rfl dX10_writePlace_7 rfl ?_
  refine J_aload_n 9 rfl dX10_writePlace_8 rfl ?_
  refine g_X1_due 12 (by first | assumption | exact isH_1 | exact isH_31 | exact isH_61 | exact isH_p (by omega) | exact isH_E (by assumption) (by omega) | exact isH_R (by assumption) | exact isH_K (by assumption) | exact isH_E isH_1 (by omega) | exact isH_R isH_1 | exact isH_K isH_1 | exact isH_R isH_31 | exact isH_K isH_31 | exact isH_E isH_31 (by omega)) rfl dX10_writePlace_9 lkX10_439 ?_
  refine J_cv (b := f (7 + 52 * e + 1)) hdu ?_
  refine J_icmp_ne 24 15 (by decide) rfl dX10_writePlace_12 (by omega) (by omega) (fun c12 => ?_) (fun c12 => ?_)
  · first
      | exact last _ _ q21.1 q21.2 (by unfold lnP at hn; rw [if_pos (show k = f (7 + 52 * e + 1) by omega), ← List.append_assoc] at hn; exact hn) (by unfold lnP; rw [if_pos (show k = f (7 + 52 * e + 1) by omega)]; simp only [List.append_assoc])
      | exact last _ _ hl (fun _ _ => rfl) (by unfold lnP at hn; rw [if_neg (show ¬ k = f (7 + 52 * e + 1) by omega)] at hn; exact hn) (by unfold lnP; rw [if_neg (show ¬ k = f (7 + 52 * e + 1) by omega)]; rfl)
  · refine J_aload_n 16 rfl dX10_writePlace_15 rfl ?_
    refine g_X10_line 19 rfl dX10_writePlace_16 lkX10_60 ?_
    refine J_bipush 21 42 rfl dX10_writePlace_19 bc_42 ?_
    refine J_callVvp (As := [_]) 24 _ rfl kalX5_write lkX10_364 dX10_writePlace_21 (lt_X5) (so_X5) rfl rfl rfl (by exact Nat.le_of_ble_eq_true rfl) (by omega) (S_X5_write hl (by unfold lnP at hn; rw [if_pos (show k = f (7 + 52 * e + 1) by omega)] at hn; simp only [List.length_append, List.length_cons] at hn; omega) (by omega)) (fun J21 q21 => ?_)
    first
      | exact last _ _ q21.1 q21.2 (by unfold lnP at hn; rw [if_pos (show k = f (7 + 52 * e + 1) by omega), ← List.append_assoc] at hn; exact hn) (by unfold lnP; rw [if_pos (show k = f (7 + 52 * e + 1) by omega)]; simp only [List.append_assoc])
      | exact last _ _ hl (fun _ _ => rfl) (by unfold lnP at hn; rw [if_neg (show ¬ k = f (7 + 52 * e + 1) by omega)] at hn; exact hn) (by unfold lnP; rw [if_neg (show ¬ k = f (7 + 52 * e + 1) by omega)]; rfl)

theorem S_X10_describeEngine {g : Gn} {J : DJ} {n B e : Nat} {fs : Nat → Nat → Nat} {f s : Nat → Nat} (h : CI J f n fs s B) (h_e : e < 4294967296) : SJ g mX10_describeEngine 16 1 6 [.ref (g.2 0), .int (nI (e))] J (QF (qE f e) ((lnE2 f e).length) (fun J2 => Wr J J2 (lnE2 f e))) (XF (qE f e) J) := by
  obtain ⟨hc, hw, hp, hsn, h350, hB⟩ := h
  have h0 := hw.1
  have h2 := hw.2.1
  have h3 := hw.2.2.1
  have h4 := hw.2.2.2.2.1.1
  have hr := hw.2.2.2.2.1
  have h6 := hw.2.2.2.1.1
  have s0 := hc.1.1.1
  have s3 := hc.1.1.2.1
  have s2 := hc.1.1.2.2.1
  have s1 := hc.1.1.2.2.2.1
  have s5 := hc.1.1.2.2.2.2
  have h5 := hw.2.2.2.2.2.2.2.2.2
  have hEn := hw.2.2.2.2.2.1
  have hCE := hc.1.2.2.2.2
  have hb := hw.2.2.2.2.2.2.2.2.1
  have hmo := hw.2.2.2.2.2.2.2.1
  have hv : ∀ m, m < 6 → J (1 + 2) m = fvig f m ∧ fvig f m < 256 := fun m hm => ⟨hc.1.2.1 m hm, (hmo m hm).1⟩
  have s4 : J (1 + 3) 3 = f 4 := hc.1.2.2.1.1
  have s7 : J (1 + 7) 2 = f 6 := hc.1.2.2.2.1.1
  have hh := hw.2.2.2.1
  refine SJ_of_VJ (by decide +kernel) (Nat.le_of_ble_eq_true rfl) ?_
  show VJ g mX10_describeEngine 16 1 6 _ _ 0 [(0, .ref (g.2 0)), (1, .int (nI (e)))] [] J
  refine J_aload_n 1 rfl dX10_describeEngine_0 rfl ?_
  refine J_iload_n 2 rfl dX10_describeEngine_1 rfl ?_
  refine J_existing 5 rfl dX10_describeEngine_2 lkX10_113 (by exact Nat.le_of_ble_eq_true rfl) (by omega) (by omega) (by omega) h_e s0 h0 (fun c2 => ⟨by unfold qE; (repeat' split) <;> omega, by unfold qE; (repeat' split) <;> first | rfl | (exfalso; omega), Sc.refl⟩) (fun c2 => ?_)
  have hE := hCE e c2
  have hO := hEn e c2
  have hO8 := hO.2.1
  have hO3 := hO.1
  have lenB : ∀ k, k ≤ f (7 + 52 * e) → ([48 + e] ++ ([58] ++ lnN f (7 + 52 * e) k)).length ≤ 19 := fun k hk => by
    have := lnN_len f (7 + 52 * e) k
    simp only [List.length_append, List.length_cons, List.length_nil]
    split at this <;> omega
  refine J_astore_n 6 rfl dX10_describeEngine_5 rfl (Nat.le_of_ble_eq_true rfl) ?_
  refine J_aload_n 7 rfl dX10_describeEngine_6 rfl ?_
  refine g_X10_line 10 rfl dX10_describeEngine_7 lkX10_60 ?_
  refine J_callVv (As := []) 13 _ rfl kalX5_empty lkX10_360 dX10_describeEngine_10 (lt_X5) (so_X5) rfl rfl rfl (by exact Nat.le_of_ble_eq_true rfl) (by omega) (S_X5_empty) ?_
  refine J_aload_n 14 rfl dX10_describeEngine_13 rfl ?_
  refine g_X10_line 17 rfl dX10_describeEngine_14 lkX10_60 ?_
  refine J_iload_n 18 rfl dX10_describeEngine_17 rfl ?_
  refine J_callVvp (As := [_]) 21 _ rfl kalX5_writeDigit lkX10_361 dX10_describeEngine_18 (lt_X5) (so_X5) rfl rfl rfl (by exact Nat.le_of_ble_eq_true rfl) (by omega) (S_X5_writeDigit LnC.nil (by simp) (by omega)) (fun J18 q18 => ?_)
  refine J_aload_n 22 rfl dX10_describeEngine_21 rfl ?_
  refine g_X10_line 25 rfl dX10_describeEngine_22 lkX10_60 ?_
  refine J_bipush 27 58 rfl dX10_describeEngine_25 bc_58 ?_
  refine J_callVvp (As := [_]) 30 _ rfl kalX5_write lkX10_364 dX10_describeEngine_27 (lt_X5) (so_X5) rfl rfl rfl (by exact Nat.le_of_ble_eq_true rfl) (by omega) (S_X5_write q18.1 (by simp) (by omega)) (fun J27 q27 => ?_)
  refine J_iconst 31 0 rfl dX10_describeEngine_30 ic_0 ?_
  refine J_istore_n 32 rfl dX10_describeEngine_31 rfl (Nat.le_of_ble_eq_true rfl) ?_
  have w0 : Wr J J27 ([48 + e] ++ ([58] ++ lnN f (7 + 52 * e) 0)) := ⟨by exact q27.1, fun c hc => by rw [q27.2 c (by omega), q18.2 c (by omega), up2_ne (by omega)]⟩
  have loop : ∀ (n9 : Nat) (k : Nat) (J1 : DJ), f (7 + 52 * e) - k = n9 → k ≤ f (7 + 52 * e) → Wr J J1 ([48 + e] ++ ([58] ++ lnN f (7 + 52 * e) k)) → VJ g mX10_describeEngine 16 1 6 (QF (qE f e) ((lnE2 f e).length) (fun J2 => Wr J J2 (lnE2 f e))) (XF (qE f e) J) 32 [(0, .ref (g.2 0)), (1, .int (nI e)), (2, .ref (g.2 (1 + 10 + 5 * e))), (3, .int (nI k))] [] J1 := by
    intro n9
    induction n9 using Nat.strongRecOn with
    | ind n9 ih =>
      intro k J1 hi hk hW
      have hE1 : J1 (1 + 10 + 5 * e) 6 = f (7 + 52 * e) := by rw [hW.2 _ (by omega)]; exact hE.1
      refine J_iload_n 33 rfl dX10_describeEngine_32 rfl ?_
      refine J_aload_n 34 rfl dX10_describeEngine_33 rfl ?_
      refine g_X1_cylinders 37 (by first | assumption | exact isH_1 | exact isH_31 | exact isH_61 | exact isH_p (by omega) | exact isH_E (by assumption) (by omega) | exact isH_R (by assumption) | exact isH_K (by assumption) | exact isH_E isH_1 (by omega) | exact isH_R isH_1 | exact isH_K isH_1 | exact isH_R isH_31 | exact isH_K isH_31 | exact isH_E isH_31 (by omega)) rfl dX10_describeEngine_34 lkX10_117 ?_
      refine J_cv (b := f (7 + 52 * e)) hE1 ?_
      refine J_icmp_ge 52 40 (by decide) rfl dX10_describeEngine_37 (by omega) (by omega) (fun c37 => ?_) (fun c37 => ?_)
      · refine J_aload_n 53 rfl dX10_describeEngine_52 rfl ?_
        refine g_X10_line 56 rfl dX10_describeEngine_53 lkX10_60 ?_
        refine g_X5_length 59 rfl dX10_describeEngine_56 lkX10_372 ?_
        refine J_iret rfl dX10_describeEngine_59 ?_
        have e9 : k = f (7 + 52 * e) := by omega
        subst e9
        exact ⟨by unfold qE; rw [if_pos c2], by rw [hW.1.1]; rfl, hW⟩
      · refine J_aload_n 41 rfl dX10_describeEngine_40 rfl ?_
        refine J_aload_n 42 rfl dX10_describeEngine_41 rfl ?_
        refine J_iload_n 43 rfl dX10_describeEngine_42 rfl ?_
        refine J_callVvp (As := [_, _]) 46 _ rfl kalX10_writePlace lkX10_368 dX10_describeEngine_43 (lt_X10) (so_X10) rfl rfl rfl (by exact Nat.le_of_ble_eq_true rfl) (by omega) (S_X10_writePlace (CE_fr hE (fun c a b => hW.2 c (by omega))) hO (by omega) (by omega) hW.1 hb hB (by have := lenB (k + 1) (by omega); simp only [lnN] at this; rw [List.append_assoc, List.append_assoc]; exact this)) (fun J43 q43 => ?_)
        refine J_iinc 49 1 rfl dX10_describeEngine_46 ic_1 rfl (Nat.le_of_ble_eq_true rfl) ?_
        refine J_goto 32 (by decide) dX10_describeEngine_49 ?_
        refine ih _ (by omega) (k + 1) J43 rfl (by omega) ⟨?_, fun c hc => by rw [q43.2 c (by omega), hW.2 c (by omega)]⟩
        have z := q43.1
        rw [List.append_assoc, List.append_assoc] at z
        exact z
  exact loop _ 0 J27 rfl (Nat.zero_le _) w0

theorem S_X10_describeRota {g : Gn} {J : DJ} {n B : Nat} {fs : Nat → Nat → Nat} {f s : Nat → Nat} (h : CI J f n fs s B) : SJ g mX10_describeRota 16 0 0 [.ref (g.2 0)] J (QF 0 8 (fun J2 => Wr J J2 (rtN f 8))) NoX := by
  obtain ⟨hc, hw, hp, hsn, h350, hB⟩ := h
  have h0 := hw.1
  have h2 := hw.2.1
  have h3 := hw.2.2.1
  have h4 := hw.2.2.2.2.1.1
  have hr := hw.2.2.2.2.1
  have h6 := hw.2.2.2.1.1
  have s0 := hc.1.1.1
  have s3 := hc.1.1.2.1
  have s2 := hc.1.1.2.2.1
  have s1 := hc.1.1.2.2.2.1
  have s5 := hc.1.1.2.2.2.2
  have h5 := hw.2.2.2.2.2.2.2.2.2
  have hEn := hw.2.2.2.2.2.1
  have hCE := hc.1.2.2.2.2
  have hb := hw.2.2.2.2.2.2.2.2.1
  have hmo := hw.2.2.2.2.2.2.2.1
  have hv : ∀ m, m < 6 → J (1 + 2) m = fvig f m ∧ fvig f m < 256 := fun m hm => ⟨hc.1.2.1 m hm, (hmo m hm).1⟩
  have s4 : J (1 + 3) 3 = f 4 := hc.1.2.2.1.1
  have s7 : J (1 + 7) 2 = f 6 := hc.1.2.2.2.1.1
  have hh := hw.2.2.2.1
  refine SJ_of_VJ (by decide +kernel) (Nat.le_of_ble_eq_true rfl) ?_
  show VJ g mX10_describeRota 16 0 0 _ _ 0 [(0, .ref (g.2 0))] [] J
  refine J_aload_n 1 rfl dX10_describeRota_0 rfl ?_
  refine g_X10_rota 4 rfl dX10_describeRota_1 lkX10_39 ?_
  refine J_aload_n 5 rfl dX10_describeRota_4 rfl ?_
  refine g_X10_house 8 rfl dX10_describeRota_5 lkX10_10 ?_
  refine g_X3_vigilsOf 11 (by first | assumption | exact isH_1 | exact isH_31 | exact isH_61 | exact isH_p (by omega) | exact isH_E (by assumption) (by omega) | exact isH_R (by assumption) | exact isH_K (by assumption) | exact isH_E isH_1 (by omega) | exact isH_R isH_1 | exact isH_K isH_1 | exact isH_R isH_31 | exact isH_K isH_31 | exact isH_E isH_31 (by omega)) rfl dX10_describeRota_8 lkX10_249 ?_
  refine J_callVvp (As := [_]) 14 _ rfl kalX9_findBest lkX10_258 dX10_describeRota_11 (lt_X9) (so_X9) rfl rfl rfl (by exact Nat.le_of_ble_eq_true rfl) (by omega) (S_X9_findBest isH_1 hv) (fun J11 q11 => ?_)
  obtain ⟨T, r, rfl, qr⟩ := q11
  refine J_aload_n 15 rfl dX10_describeRota_14 rfl ?_
  refine g_X10_line 18 rfl dX10_describeRota_15 lkX10_60 ?_
  refine J_callVv (As := []) 21 _ rfl kalX5_empty lkX10_360 dX10_describeRota_18 (lt_X5) (so_X5) rfl rfl rfl (by exact Nat.le_of_ble_eq_true rfl) (by omega) (S_X5_empty) ?_
  refine J_iconst 22 0 rfl dX10_describeRota_21 ic_0 ?_
  refine J_istore_n 23 rfl dX10_describeRota_22 rfl (Nat.le_of_ble_eq_true rfl) ?_
  have loop : ∀ (n9 : Nat) (k : Nat) (J1 : DJ), 8 - k = n9 → k ≤ 8 → Wr J J1 (rtN f k) → J1 340 = r → VJ g mX10_describeRota 16 0 0 (QF 0 8 (fun J2 => Wr J J2 (rtN f 8))) NoX 23 [(0, .ref (g.2 0)), (1, .int (nI k))] [] J1 := by
    intro n9
    induction n9 using Nat.strongRecOn with
    | ind n9 ih =>
      intro k J1 hi hk hW h340
      have len := rtN_len f k
      have kv : k < 8 → J1 340 k = kp (fvig f) k := fun h => by rw [h340]; exact qr k h
      have kl := kp_lt (fvig f) k
      refine J_iload_n 24 rfl dX10_describeRota_23 rfl ?_
      refine J_bipush 26 8 rfl dX10_describeRota_24 bc_8 ?_
      refine J_icmp_ge 76 29 (by decide) rfl dX10_describeRota_26 (by omega) (by omega) (fun c26 => ?_) (fun c26 => ?_)
      · refine J_aload_n 77 rfl dX10_describeRota_76 rfl ?_
        refine g_X10_line 80 rfl dX10_describeRota_77 lkX10_60 ?_
        refine g_X5_length 83 rfl dX10_describeRota_80 lkX10_372 ?_
        refine J_iret rfl dX10_describeRota_83 ?_
        have e9 : k = 8 := by omega
        subst e9
        exact ⟨rfl, by rw [hW.1.1, len], hW⟩
      · refine J_aload_n 30 rfl dX10_describeRota_29 rfl ?_
        refine g_X10_rota 33 rfl dX10_describeRota_30 lkX10_39 ?_
        refine g_X9_keepers 36 rfl dX10_describeRota_33 lkX10_262 ?_
        refine J_iload_n 37 rfl dX10_describeRota_36 rfl ?_
        refine J_iald 38 rfl dX10_describeRota_37 (sa_X9_keepers) (by omega) ?_
        refine J_cv (b := kp (fvig f) k) (kv (by omega)) ?_
        refine J_iconst 39 4294967295 rfl dX10_describeRota_38 ic_m1 ?_
        refine J_icmp_ne 54 42 (by decide) rfl dX10_describeRota_39 (by omega) (by omega) (fun c39 => ?_) (fun c39 => ?_)
        · refine J_aload_n 55 rfl dX10_describeRota_54 rfl ?_
          refine g_X10_line 58 rfl dX10_describeRota_55 lkX10_60 ?_
          refine J_aload_n 59 rfl dX10_describeRota_58 rfl ?_
          refine g_X10_rota 62 rfl dX10_describeRota_59 lkX10_39 ?_
          refine g_X9_keepers 65 rfl dX10_describeRota_62 lkX10_262 ?_
          refine J_iload_n 66 rfl dX10_describeRota_65 rfl ?_
          refine J_iald 67 rfl dX10_describeRota_66 (sa_X9_keepers) (by omega) ?_
          refine J_cv (b := kp (fvig f) k) (kv (by omega)) ?_
          refine J_callVvp (As := [_]) 70 _ rfl kalX5_writeDigit lkX10_361 dX10_describeRota_67 (lt_X5) (so_X5) rfl rfl rfl (by exact Nat.le_of_ble_eq_true rfl) (by omega) (S_X5_writeDigit hW.1 (by omega) (by omega)) (fun J67 q67 => ?_)
          refine J_iinc 73 1 rfl dX10_describeRota_70 ic_1 rfl (Nat.le_of_ble_eq_true rfl) ?_
          refine J_goto 23 (by decide) dX10_describeRota_73 ?_
          first
            | exact ih _ (by omega) (k + 1) J48 rfl (by omega) ⟨by have z := q48.1; simp only [rtN]; unfold rtC; rw [if_pos (by omega)]; exact z, fun c hc => by rw [q48.2 c (by omega), hW.2 c (by omega)]⟩ (by rw [q48.2 340 (by omega)]; exact h340)
            | exact ih _ (by omega) (k + 1) J67 rfl (by omega) ⟨by have z := q67.1; simp only [rtN]; unfold rtC; rw [if_neg (by omega)]; exact z, fun c hc => by rw [q67.2 c (by omega), hW.2 c (by omega)]⟩ (by rw [q67.2 340 (by omega)]; exact h340)
        · refine J_aload_n 43 rfl dX10_describeRota_42 rfl ?_
          refine g_X10_line 46 rfl dX10_describeRota_43 lkX10_60 ?_
          refine J_bipush 48 45 rfl dX10_describeRota_46 bc_45 ?_
          refine J_callVvp (As := [_]) 51 _ rfl kalX5_write lkX10_364 dX10_describeRota_48 (lt_X5) (so_X5) rfl rfl rfl (by exact Nat.le_of_ble_eq_true rfl) (by omega) (S_X5_write hW.1 (by omega) (by omega)) (fun J48 q48 => ?_)
          refine J_goto 70 (by decide) dX10_describeRota_51 ?_
          refine J_iinc 73 1 rfl dX10_describeRota_70 ic_1 rfl (Nat.le_of_ble_eq_true rfl) ?_
          refine J_goto 23 (by decide) dX10_describeRota_73 ?_
          first
            | exact ih _ (by omega) (k + 1) J48 rfl (by omega) ⟨by have z := q48.1; simp only [rtN]; unfold rtC; rw [if_pos (by omega)]; exact z, fun c hc => by rw [q48.2 c (by omega), hW.2 c (by omega)]⟩ (by rw [q48.2 340 (by omega)]; exact h340)
            | exact ih _ (by omega) (k + 1) J67 rfl (by omega) ⟨by have z := q67.1; simp only [rtN]; unfold rtC; rw [if_neg (by omega)]; exact z, fun c hc => by rw [q67.2 c (by omega), hW.2 c (by omega)]⟩ (by rw [q67.2 340 (by omega)]; exact h340)
  exact loop _ 0 _ rfl (by omega) ⟨LnC.nil, fun c hc => by rw [up2_ne (by omega), sR_ne (by omega), sR_ne (by omega)]⟩ (by rw [up2_ne (by omega), sR_at])

theorem S_X10_lineAt {g : Gn} {J : DJ} {i : Nat} {l : List Nat} (h_i : i < 4294967296) (h : LnC J l) (hl : l.length ≤ 19) (hc : ∀ j, j < l.length → l.getD j 0 < 65536) : SJ g mX10_lineAt 16 1 6 [.ref (g.2 0), .int (nI (i))] J (QF (if i < l.length then 0 else 1) (l.getD i 0) (fun J2 => J2 = J)) (XF (if i < l.length then 0 else 1) J) := by
  have h1 := h.1
  refine SJ_of_VJ (by decide +kernel) (Nat.le_of_ble_eq_true rfl) ?_
  show VJ g mX10_lineAt 16 1 6 _ _ 0 [(0, .ref (g.2 0)), (1, .int (nI (i)))] [] J
  refine J_iload_n 1 rfl dX10_lineAt_0 rfl ?_
  refine J_iconst 2 0 rfl dX10_lineAt_1 ic_0 ?_
  refine J_aload_n 3 rfl dX10_lineAt_2 rfl ?_
  refine g_X10_line 6 rfl dX10_lineAt_3 lkX10_60 ?_
  refine g_X5_length 9 rfl dX10_lineAt_6 lkX10_372 ?_
  refine J_cv (b := l.length) h1 ?_
  refine J_iconst 10 1 rfl dX10_lineAt_9 ic_1 ?_
  refine J_isubR 11 rfl dX10_lineAt_10 ?_
  refine J_callSi (As := [_, _, _]) 14 rfl kalX10_isWithin lkX10_131 dX10_lineAt_11 rfl rfl (by exact Nat.le_of_ble_eq_true rfl) (by omega) (S_within_lt h_i (by omega) (by omega)) ?_
  refine J_reqIndex (hdp := _) 17 rfl dX10_lineAt_14 lkX10_124 (by exact Nat.le_of_ble_eq_true rfl) (by omega) (by omega) (by omega) (fun c14 => ⟨by rw [if_neg (by omega)]; omega, by rw [if_neg (by omega)]; rfl, Sc.refl⟩) (fun c14 => ?_)
  refine J_aload_n 18 rfl dX10_lineAt_17 rfl ?_
  refine g_X10_line 21 rfl dX10_lineAt_18 lkX10_60 ?_
  refine g_X5_characters 24 rfl dX10_lineAt_21 lkX10_375 ?_
  refine J_iload_n 25 rfl dX10_lineAt_24 rfl ?_
  refine J_cald 26 rfl dX10_lineAt_25 (sa_X5_characters) (by omega) ?_
  refine J_cv (b := l.getD i 0) (h.2 i (by omega)) ?_
  refine J_cret rfl dX10_lineAt_26 (hc i (by omega)) ?_
  exact ⟨by rw [if_pos (by omega)], rfl, rfl⟩

theorem S_X10_meanOil {g : Gn} {J : DJ} {n B : Nat} {fs : Nat → Nat → Nat} {f s : Nat → Nat} (h : CI J f n fs s B) : SJ g mX10_meanOil 16 1 6 [.ref (g.2 0)] J ((fun v J2 => 0 < cnt f ∧ v = some (.double (FP.ddiv (FP.i2d (nI (allOil f))) (FP.i2d (nI (cnt f))))) ∧ J2 = J)) ((fun E J2 => cnt f = 0 ∧ E = AE ∧ J2 = J)) := by
  obtain ⟨hc, hw, hp, hsn, h350, hB⟩ := h
  have h0 := hw.1
  have h2 := hw.2.1
  have h3 := hw.2.2.1
  have h4 := hw.2.2.2.2.1.1
  have hr := hw.2.2.2.2.1
  have h6 := hw.2.2.2.1.1
  have s0 := hc.1.1.1
  have s3 := hc.1.1.2.1
  have s2 := hc.1.1.2.2.1
  have s1 := hc.1.1.2.2.2.1
  have s5 := hc.1.1.2.2.2.2
  have h5 := hw.2.2.2.2.2.2.2.2.2
  have hEn := hw.2.2.2.2.2.1
  have hCE := hc.1.2.2.2.2
  have hb := hw.2.2.2.2.2.2.2.2.1
  have hmo := hw.2.2.2.2.2.2.2.1
  have hv : ∀ m, m < 6 → J (1 + 2) m = fvig f m ∧ fvig f m < 256 := fun m hm => ⟨hc.1.2.1 m hm, (hmo m hm).1⟩
  have s4 : J (1 + 3) 3 = f 4 := hc.1.2.2.1.1
  have s7 : J (1 + 7) 2 = f 6 := hc.1.2.2.2.1.1
  have hh := hw.2.2.2.1
  have c32 := cnt_le hw
  refine SJ_of_VJ (by decide +kernel) (Nat.le_of_ble_eq_true rfl) ?_
  show VJ g mX10_meanOil 16 1 6 _ _ 0 [(0, .ref (g.2 0))] [] J
  refine J_aload_n 1 rfl dX10_meanOil_0 rfl ?_
  refine g_X10_house 4 rfl dX10_meanOil_1 lkX10_10 ?_
  refine J_callVi (As := []) 7 _ rfl kalX3_allCylinders lkX10_379 dX10_meanOil_4 (lt_X3 (by first | assumption | exact isH_1 | exact isH_31 | exact isH_61 | exact isH_p (by omega) | exact isH_E (by assumption) (by omega) | exact isH_R (by assumption) | exact isH_K (by assumption) | exact isH_E isH_1 (by omega) | exact isH_R isH_1 | exact isH_K isH_1 | exact isH_R isH_31 | exact isH_K isH_31 | exact isH_E isH_31 (by omega))) (so_X3 (by first | assumption | exact isH_1 | exact isH_31 | exact isH_61 | exact isH_p (by omega) | exact isH_E (by assumption) (by omega) | exact isH_R (by assumption) | exact isH_K (by assumption) | exact isH_E isH_1 (by omega) | exact isH_R isH_1 | exact isH_K isH_1 | exact isH_R isH_31 | exact isH_K isH_31 | exact isH_E isH_31 (by omega))) rfl rfl rfl (by exact Nat.le_of_ble_eq_true rfl) (by omega) (S_X3_allCylinders isH_1 hc.1 hw) ?_
  refine J_istore_n 8 rfl dX10_meanOil_7 rfl (Nat.le_of_ble_eq_true rfl) ?_
  refine J_iload_n 9 rfl dX10_meanOil_8 rfl ?_
  refine J_if_ne 20 12 (by decide) rfl dX10_meanOil_9 (by omega) (fun c9 => ?_) (fun c9 => ?_)
  · refine J_aload_n 21 rfl dX10_meanOil_20 rfl ?_
    refine g_X10_house 24 rfl dX10_meanOil_21 lkX10_10 ?_
    refine J_callVi (As := []) 27 _ rfl kalX3_oilInCylinders lkX10_208 dX10_meanOil_24 (lt_X3 (by first | assumption | exact isH_1 | exact isH_31 | exact isH_61 | exact isH_p (by omega) | exact isH_E (by assumption) (by omega) | exact isH_R (by assumption) | exact isH_K (by assumption) | exact isH_E isH_1 (by omega) | exact isH_R isH_1 | exact isH_K isH_1 | exact isH_R isH_31 | exact isH_K isH_31 | exact isH_E isH_31 (by omega))) (so_X3 (by first | assumption | exact isH_1 | exact isH_31 | exact isH_61 | exact isH_p (by omega) | exact isH_E (by assumption) (by omega) | exact isH_R (by assumption) | exact isH_K (by assumption) | exact isH_E isH_1 (by omega) | exact isH_R isH_1 | exact isH_K isH_1 | exact isH_R isH_31 | exact isH_K isH_31 | exact isH_E isH_31 (by omega))) rfl rfl rfl (by exact Nat.le_of_ble_eq_true rfl) (by omega) (S_X3_oilInCylinders isH_1 hc.1 hw) ?_
    refine J_i2d 28 rfl dX10_meanOil_27 ?_
    refine J_iload_n 29 rfl dX10_meanOil_28 rfl ?_
    refine J_i2d 30 rfl dX10_meanOil_29 ?_
    refine J_ddiv 31 rfl dX10_meanOil_30 (div_nn (by omega) (by omega)) ?_
    refine J_dret rfl dX10_meanOil_31 ?_
    exact ⟨by omega, rfl, rfl⟩
  · exact th_AE rfl dX10_meanOil_12 dX10_meanOil_15 dX10_meanOil_16 dX10_meanOil_19 (by exact Nat.le_of_ble_eq_true rfl) (by omega) (by omega) (by omega) (⟨by omega, rfl, rfl⟩)

theorem S_X10_vigilShare {g : Gn} {J : DJ} {n B : Nat} {fs : Nat → Nat → Nat} {f s : Nat → Nat} (h : CI J f n fs s B) : SJ g mX10_vigilShare 16 0 0 [.ref (g.2 0)] J ((fun v J2 => v = some (.float (FP.fdiv (FP.i2f (nI (rW (fvig f) 8 0))) 1090519040)) ∧ Sc J J2)) NoX := by
  obtain ⟨hc, hw, hp, hsn, h350, hB⟩ := h
  have h0 := hw.1
  have h2 := hw.2.1
  have h3 := hw.2.2.1
  have h4 := hw.2.2.2.2.1.1
  have hr := hw.2.2.2.2.1
  have h6 := hw.2.2.2.1.1
  have s0 := hc.1.1.1
  have s3 := hc.1.1.2.1
  have s2 := hc.1.1.2.2.1
  have s1 := hc.1.1.2.2.2.1
  have s5 := hc.1.1.2.2.2.2
  have h5 := hw.2.2.2.2.2.2.2.2.2
  have hEn := hw.2.2.2.2.2.1
  have hCE := hc.1.2.2.2.2
  have hb := hw.2.2.2.2.2.2.2.2.1
  have hmo := hw.2.2.2.2.2.2.2.1
  have hv : ∀ m, m < 6 → J (1 + 2) m = fvig f m ∧ fvig f m < 256 := fun m hm => ⟨hc.1.2.1 m hm, (hmo m hm).1⟩
  have s4 : J (1 + 3) 3 = f 4 := hc.1.2.2.1.1
  have s7 : J (1 + 7) 2 = f 6 := hc.1.2.2.2.1.1
  have hh := hw.2.2.2.1
  have r8 := rW_le (fvig f) 8 0
  refine SJ_of_VJ (by decide +kernel) (Nat.le_of_ble_eq_true rfl) ?_
  show VJ g mX10_vigilShare 16 0 0 _ _ 0 [(0, .ref (g.2 0))] [] J
  refine J_aload_n 1 rfl dX10_vigilShare_0 rfl ?_
  refine g_X10_rota 4 rfl dX10_vigilShare_1 lkX10_39 ?_
  refine J_aload_n 5 rfl dX10_vigilShare_4 rfl ?_
  refine g_X10_house 8 rfl dX10_vigilShare_5 lkX10_10 ?_
  refine g_X3_vigilsOf 11 (by first | assumption | exact isH_1 | exact isH_31 | exact isH_61 | exact isH_p (by omega) | exact isH_E (by assumption) (by omega) | exact isH_R (by assumption) | exact isH_K (by assumption) | exact isH_E isH_1 (by omega) | exact isH_R isH_1 | exact isH_K isH_1 | exact isH_R isH_31 | exact isH_K isH_31 | exact isH_E isH_31 (by omega)) rfl dX10_vigilShare_8 lkX10_249 ?_
  refine J_callVip (As := [_]) 14 _ rfl kalX9_mostByTable lkX10_255 dX10_vigilShare_11 (lt_X9) (so_X9) rfl rfl rfl (by exact Nat.le_of_ble_eq_true rfl) (by omega) (S_X9_mostByTable isH_1 hv) (fun J11 q11 => ?_)
  obtain ⟨T, rfl, _⟩ := q11
  refine J_i2f 15 rfl dX10_vigilShare_14 ?_
  refine J_ldcwF 18 rfl dX10_vigilShare_15 lkX10_385 ?_
  refine J_fdiv 19 rfl dX10_vigilShare_18 (div8_nn _ (by omega)) ?_
  refine J_fret rfl dX10_vigilShare_19 ?_
  exact ⟨rfl, Sc.sR (by omega)⟩

theorem S_X10_oilAgrees {g : Gn} {J : DJ} {n B u : Nat} {fs : Nat → Nat → Nat} {f s : Nat → Nat} (h : CI J f n fs s B) (h_u : u < 4294967296) (hf : 0 < f 0) (hu : u ≤ 999) : SJ g mX10_oilAgrees 17 2 12 [.ref (g.2 0), .int (nI (u))] J (QF 0 1 (fun J2 => Sc J J2)) NoX := by
  have z9 : qLo f u = 0 := by unfold qLo; rw [if_pos hu, if_pos hf]
  refine SJ_of_VJ (by decide +kernel) (Nat.le_of_ble_eq_true rfl) ?_
  show VJ g mX10_oilAgrees 17 2 12 _ _ 0 [(0, .ref (g.2 0)), (1, .int (nI (u)))] [] J
  refine J_aload_n 1 rfl dX10_oilAgrees_0 rfl ?_
  refine J_iload_n 2 rfl dX10_oilAgrees_1 rfl ?_
  refine J_callV (As := [_]) 5 _ rfl kalX10_leastOilAfter lkX10_463 dX10_oilAgrees_2 (lt_X10) (so_X10) rfl rfl rfl (by exact Nat.le_of_ble_eq_true rfl) (by omega) (by omega) (by omega) (S_X10_leastOilAfter h h_u) (fun _ _ q => absurd z9 q.1) (fun v2 J2 q2 => ?_)
  obtain ⟨_, rfl, sc1⟩ := q2
  refine J_aload_n 6 rfl dX10_oilAgrees_5 rfl ?_
  refine J_iload_n 7 rfl dX10_oilAgrees_6 rfl ?_
  refine J_callV (As := [_]) 10 _ rfl kalX10_leastOilAfterByGiving lkX10_466 dX10_oilAgrees_7 (lt_X10) (so_X10) rfl rfl rfl (by exact Nat.le_of_ble_eq_true rfl) (by omega) (by omega) (by omega) (S_X10_leastOilAfterByGiving (h.sc sc1) h_u) (fun _ _ q => absurd z9 q.1) (fun v7 J7 q7 => ?_)
  obtain ⟨_, rfl, sc2⟩ := q7
  refine J_icmpR_ne 17 13 (by decide) rfl dX10_oilAgrees_10 (fun c => absurd rfl c) (fun _ => ?_)
  refine J_iconst 14 1 rfl dX10_oilAgrees_13 ic_1 ?_
  refine J_goto 18 (by decide) dX10_oilAgrees_14 ?_
  refine J_zret1 rfl dX10_oilAgrees_18 ?_
  exact ⟨rfl, rfl, sc1.trans sc2⟩

theorem S_X10_enginesAgree {g : Gn} {J : DJ} {n B : Nat} {fs : Nat → Nat → Nat} {f s : Nat → Nat} (h : CI J f n fs s B) : SJ g mX10_enginesAgree 17 28 168 [.ref (g.2 0)] J (QF 0 1 (fun J2 => Sc J J2)) NoX := by
  have hI0 := h
  obtain ⟨hc, hw, hp, hsn, h350, hB⟩ := h
  have h0 := hw.1
  have h2 := hw.2.1
  have h3 := hw.2.2.1
  have h4 := hw.2.2.2.2.1.1
  have hr := hw.2.2.2.2.1
  have h6 := hw.2.2.2.1.1
  have s0 := hc.1.1.1
  have s3 := hc.1.1.2.1
  have s2 := hc.1.1.2.2.1
  have s1 := hc.1.1.2.2.2.1
  have s5 := hc.1.1.2.2.2.2
  have h5 := hw.2.2.2.2.2.2.2.2.2
  have hEn := hw.2.2.2.2.2.1
  have hCE := hc.1.2.2.2.2
  have hb := hw.2.2.2.2.2.2.2.2.1
  have hmo := hw.2.2.2.2.2.2.2.1
  have hv : ∀ m, m < 6 → J (1 + 2) m = fvig f m ∧ fvig f m < 256 := fun m hm => ⟨hc.1.2.1 m hm, (hmo m hm).1⟩
  have s4 : J (1 + 3) 3 = f 4 := hc.1.2.2.1.1
  have s7 : J (1 + 7) 2 = f 6 := hc.1.2.2.2.1.1
  have hh := hw.2.2.2.1
  refine SJ_of_VJ (by decide +kernel) (Nat.le_of_ble_eq_true rfl) ?_
  show VJ g mX10_enginesAgree 17 28 168 _ _ 0 [(0, .ref (g.2 0))] [] J
  have loop : ∀ (n9 : Nat) (e : Nat) (J1 : DJ), f 0 - e = n9 → e ≤ f 0 → Sc J J1 → VJ g mX10_enginesAgree 17 (7 * (4 - e)) (42 * (4 - e)) (QF 0 1 (fun J2 => Sc J J2)) NoX 2 [(0, .ref (g.2 0)), (1, .int (nI e))] [] J1 := by
    intro n9
    induction n9 using Nat.strongRecOn with
    | ind n9 ih =>
      intro e J1 hi hle hS
      have hI := hI0.sc hS
      have j0 : J1 1 4 = f 0 := by rw [hS.1 1 (by omega)]; exact s0
      refine J_iload_n 3 rfl dX10_enginesAgree_2 rfl ?_
      refine J_aload_n 4 rfl dX10_enginesAgree_3 rfl ?_
      refine g_X10_house 7 rfl dX10_enginesAgree_4 lkX10_10 ?_
      refine g_X3_engineCount 10 (by first | assumption | exact isH_1 | exact isH_31 | exact isH_61 | exact isH_p (by omega) | exact isH_E (by assumption) (by omega) | exact isH_R (by assumption) | exact isH_K (by assumption) | exact isH_E isH_1 (by omega) | exact isH_R isH_1 | exact isH_K isH_1 | exact isH_R isH_31 | exact isH_K isH_31 | exact isH_E isH_31 (by omega)) rfl dX10_enginesAgree_7 lkX10_110 ?_
      refine J_cv (b := f 0) j0 ?_
      refine J_icmp_ge 72 13 (by decide) rfl dX10_enginesAgree_10 (by omega) (by omega) (fun c10 => ?_) (fun c10 => ?_)
      · refine J_iconst 73 1 rfl dX10_enginesAgree_72 ic_1 ?_
        refine J_zret1 rfl dX10_enginesAgree_73 ?_
        exact ⟨rfl, rfl, hS⟩
      · have hO := hEn e (by omega)
        have hO3 := hO.1
        have hO8 := hO.2.1
        have hO24 := hO.2.2.2.2.1
        have k10 : f (10 + 52 * e) = f (7 + 52 * e + 3) := by rw [show 10 + 52 * e = 7 + 52 * e + 3 by omega]
        have zE : qE f e = 0 := by unfold qE; rw [if_pos (by omega)]
        have zV : qEv f e 2 = 0 := by unfold qEv; rw [if_pos (by omega), if_pos (by omega)]
        have zK : 0 < f (7 + 52 * e + 3) → qKp f e = 0 := fun z => by unfold qKp; rw [if_pos (by omega), if_pos (by omega)]
        have pm : PM (ford f e) (f (7 + 52 * e)) := ⟨fun c hcc => by unfold ford; rw [show 11 + 52 * e + c = 7 + 52 * e + 4 + c by omega]; exact hO.2.2.2.2.2.1 c hcc, fun a b ha hbb z => by
          unfold ford at z
          rw [show 11 + 52 * e + a = 7 + 52 * e + 4 + a by omega, show 11 + 52 * e + b = 7 + 52 * e + 4 + b by omega] at z
          exact hO.2.2.2.2.2.2.1 a b ha hbb z⟩
        refine J_aload_n 14 rfl dX10_enginesAgree_13 rfl ?_
        refine J_iload_n 15 rfl dX10_enginesAgree_14 rfl ?_
        refine J_callV (As := [_]) 18 _ rfl kalX10_turnOf lkX10_442 dX10_enginesAgree_15 (lt_X10) (so_X10) rfl rfl rfl (by exact Nat.le_of_ble_eq_true rfl) (by omega) (by omega) (by omega) (S_X10_turnOf hI (by omega)) (fun _ _ q => absurd zE q.1) (fun v15 J15 q15 => ?_)
        obtain ⟨_, rfl, s15⟩ := q15
        refine J_aload_n 19 rfl dX10_enginesAgree_18 rfl ?_
        refine J_iload_n 20 rfl dX10_enginesAgree_19 rfl ?_
        refine J_callV (As := [_]) 23 _ rfl kalX10_turnByRepeating lkX10_445 dX10_enginesAgree_20 (lt_X10) (so_X10) rfl rfl rfl (by exact Nat.le_of_ble_eq_true rfl) (by omega) (by omega) (by omega) (S_X10_turnByRepeating (hI.sc s15) (by omega)) (fun _ _ q => absurd zE q.1) (fun v20 J20 q20 => ?_)
        obtain ⟨_, r20, rfl, t20, s20⟩ := q20
        have e20 := turnB_eq pm (by omega) (by omega) t20
        subst e20
        refine J_icmpR_ne 41 26 (by decide) rfl dX10_enginesAgree_23 (fun c => absurd rfl c) (fun _ => ?_)
        refine J_aload_n 27 rfl dX10_enginesAgree_26 rfl ?_
        refine J_iload_n 28 rfl dX10_enginesAgree_27 rfl ?_
        refine J_iconst 29 2 rfl dX10_enginesAgree_28 ic_2 ?_
        refine J_callV (As := [_, _]) 32 _ rfl kalX10_evenOrders lkX10_448 dX10_enginesAgree_29 (lt_X10) (so_X10) rfl rfl rfl (by exact Nat.le_of_ble_eq_true rfl) (by omega) (by omega) (by omega) (S_X10_evenOrders (hI.sc (s15.trans s20)) (by omega) (by omega)) (fun _ _ q => absurd zV q.1) (fun v29 J29 q29 => ?_)
        obtain ⟨_, rfl, s29⟩ := q29
        refine J_aload_n 33 rfl dX10_enginesAgree_32 rfl ?_
        refine J_iload_n 34 rfl dX10_enginesAgree_33 rfl ?_
        refine J_iconst 35 2 rfl dX10_enginesAgree_34 ic_2 ?_
        refine J_callV (As := [_, _]) 38 _ rfl kalX10_evenOrdersByTrying lkX10_451 dX10_enginesAgree_35 (lt_X10) (so_X10) rfl rfl rfl (by exact Nat.le_of_ble_eq_true rfl) (by omega) (by omega) (by omega) (S_X10_evenOrdersByTrying (hI.sc ((s15.trans s20).trans s29)) (by omega) (by omega)) (fun _ _ q => absurd zV q.1) (fun v35 J35 q35 => ?_)
        obtain ⟨_, rfl, s35⟩ := q35
        rw [← eoR_cF hO3 hO.2.1 (by omega : 1 ≤ 2) (by omega)]
        refine J_icmpR_eq 43 41 (by decide) rfl dX10_enginesAgree_38 (fun _ => ?_) (fun c => absurd rfl c)
        refine J_aload_n 44 rfl dX10_enginesAgree_43 rfl ?_
        refine J_iload_n 45 rfl dX10_enginesAgree_44 rfl ?_
        refine J_callV (As := [_]) 48 _ rfl kalX10_knockCount lkX10_454 dX10_enginesAgree_45 (lt_X10) (so_X10) rfl rfl rfl (by exact Nat.le_of_ble_eq_true rfl) (by omega) (by omega) (by omega) (S_X10_knockCount (hI.sc (((s15.trans s20).trans s29).trans s35)) (by omega)) (fun _ _ q => absurd zE q.1) (fun v45 J45 q45 => ?_)
        obtain ⟨_, rfl, s45⟩ := q45
        refine J_if_le 66 51 (by decide) rfl dX10_enginesAgree_48 (by omega) (fun c48 => ?_) (fun c48 => ?_)
        · refine J_iinc 69 1 rfl dX10_enginesAgree_66 ic_1 rfl (Nat.le_of_ble_eq_true rfl) ?_
          refine J_goto 2 (by decide) dX10_enginesAgree_69 ?_
          refine J_more (by omega) (by omega) (ih _ (by omega) (e + 1) _ rfl (by omega) ?_)
          first
            | exact hS.trans ((((((s15.trans s20).trans s29).trans s35).trans s45).trans s53).trans s58)
            | exact hS.trans ((((s15.trans s20).trans s29).trans s35).trans s45)
        · refine J_aload_n 52 rfl dX10_enginesAgree_51 rfl ?_
          refine J_iload_n 53 rfl dX10_enginesAgree_52 rfl ?_
          refine J_callV (As := [_]) 56 _ rfl kalX10_knockPeriod lkX10_457 dX10_enginesAgree_53 (lt_X10) (so_X10) rfl rfl rfl (by exact Nat.le_of_ble_eq_true rfl) (by omega) (by omega) (by omega) (S_X10_knockPeriod (hI.sc ((((s15.trans s20).trans s29).trans s35).trans s45)) (by omega)) (fun _ _ q => absurd (zK (by omega)) q.1) (fun v53 J53 q53 => ?_)
          obtain ⟨_, r53, rfl, p53, s53⟩ := q53
          refine J_aload_n 57 rfl dX10_enginesAgree_56 rfl ?_
          refine J_iload_n 58 rfl dX10_enginesAgree_57 rfl ?_
          refine J_callV (As := [_]) 61 _ rfl kalX10_knockPeriodByTrying lkX10_460 dX10_enginesAgree_58 (lt_X10) (so_X10) rfl rfl rfl (by exact Nat.le_of_ble_eq_true rfl) (by omega) (by omega) (by omega) (S_X10_knockPeriodByTrying (hI.sc (((((s15.trans s20).trans s29).trans s35).trans s45).trans s53)) (by omega)) (fun _ _ q => absurd (zK (by omega)) q.1) (fun v58 J58 q58 => ?_)
          obtain ⟨_, r58, rfl, p58, s58⟩ := q58
          have e58 := perP_eq p53 p58
          subst e58
          refine J_icmpR_eq 66 64 (by decide) rfl dX10_enginesAgree_61 (fun _ => ?_) (fun c => absurd rfl c)
          refine J_iinc 69 1 rfl dX10_enginesAgree_66 ic_1 rfl (Nat.le_of_ble_eq_true rfl) ?_
          refine J_goto 2 (by decide) dX10_enginesAgree_69 ?_
          refine J_more (by omega) (by omega) (ih _ (by omega) (e + 1) _ rfl (by omega) ?_)
          first
            | exact hS.trans ((((((s15.trans s20).trans s29).trans s35).trans s45).trans s53).trans s58)
            | exact hS.trans ((((s15.trans s20).trans s29).trans s35).trans s45)
  refine J_iconst 1 0 rfl dX10_enginesAgree_0 ic_0 ?_
  refine J_istore_n 2 rfl dX10_enginesAgree_1 rfl (Nat.le_of_ble_eq_true rfl) ?_
  exact loop _ 0 J rfl (Nat.zero_le _) Sc.refl

theorem S_X10_isConsistent {g : Gn} {J : DJ} {n B : Nat} {fs : Nat → Nat → Nat} {f s : Nat → Nat} (h : CI J f n fs s B) : SJ g mX10_isConsistent 18 34 204 [.ref (g.2 0)] J (QF 0 1 (fun J2 => Sc J J2)) NoX := by
  have hI0 := h
  obtain ⟨hc, hw, hp, hsn, h350, hB⟩ := h
  have h0 := hw.1
  have h2 := hw.2.1
  have h3 := hw.2.2.1
  have h4 := hw.2.2.2.2.1.1
  have hr := hw.2.2.2.2.1
  have h6 := hw.2.2.2.1.1
  have s0 := hc.1.1.1
  have s3 := hc.1.1.2.1
  have s2 := hc.1.1.2.2.1
  have s1 := hc.1.1.2.2.2.1
  have s5 := hc.1.1.2.2.2.2
  have h5 := hw.2.2.2.2.2.2.2.2.2
  have hEn := hw.2.2.2.2.2.1
  have hCE := hc.1.2.2.2.2
  have hb := hw.2.2.2.2.2.2.2.2.1
  have hmo := hw.2.2.2.2.2.2.2.1
  have hv : ∀ m, m < 6 → J (1 + 2) m = fvig f m ∧ fvig f m < 256 := fun m hm => ⟨hc.1.2.1 m hm, (hmo m hm).1⟩
  have s4 : J (1 + 3) 3 = f 4 := hc.1.2.2.1.1
  have s7 : J (1 + 7) 2 = f 6 := hc.1.2.2.2.1.1
  have hh := hw.2.2.2.1
  refine SJ_of_VJ (by decide +kernel) (Nat.le_of_ble_eq_true rfl) ?_
  show VJ g mX10_isConsistent 18 34 204 _ _ 0 [(0, .ref (g.2 0))] [] J
  have rest : ∀ (J43 : DJ), Sc J J43 → VJ g mX10_isConsistent 18 0 0 (QF 0 1 (fun J2 => Sc J J2)) NoX 43 [(0, .ref (g.2 0))] [] J43 := by
    intro J43 s43
    have I43 := hI0.sc s43
    refine J_aload_n 44 rfl dX10_isConsistent_43 rfl ?_
    refine J_callV (As := []) 47 _ rfl kalX10_mostVigils lkX10_392 dX10_isConsistent_44 (lt_X10) (so_X10) rfl rfl rfl (by exact Nat.le_of_ble_eq_true rfl) (by omega) (by omega) (by omega) (S_X10_mostVigils I43) (fun _ _ h => absurd h id) (fun v44 J44 q44 => ?_)
    obtain ⟨_, rfl, t44⟩ := q44
    have s44 := s43.trans t44
    have I44 := hI0.sc s44
    refine J_aload_n 48 rfl dX10_isConsistent_47 rfl ?_
    refine J_callV (As := []) 51 _ rfl kalX10_mostVigilsByTable lkX10_395 dX10_isConsistent_48 (lt_X10) (so_X10) rfl rfl rfl (by exact Nat.le_of_ble_eq_true rfl) (by omega) (by omega) (by omega) (S_X10_mostVigilsByTable I44) (fun _ _ h => absurd h id) (fun v48 J48 q48 => ?_)
    obtain ⟨_, rfl, t48⟩ := q48
    have s48 := s44.trans t48
    have I48 := hI0.sc s48
    refine J_icmpR_ne 80 54 (by decide) rfl dX10_isConsistent_51 (fun c => absurd rfl c) (fun _ => ?_)
    refine J_aload_n 55 rfl dX10_isConsistent_54 rfl ?_
    refine J_callV (As := []) 58 _ rfl kalX10_leastPenance lkX10_398 dX10_isConsistent_55 (lt_X10) (so_X10) rfl rfl rfl (by exact Nat.le_of_ble_eq_true rfl) (by omega) (by omega) (by omega) (S_X10_leastPenance I48) (fun _ _ h => absurd h id) (fun v55 J55 q55 => ?_)
    obtain ⟨_, rfl, t55⟩ := q55
    have s55 := s48.trans t55
    have I55 := hI0.sc s55
    refine J_aload_n 59 rfl dX10_isConsistent_58 rfl ?_
    refine J_callV (As := []) 62 _ rfl kalX10_leastPenanceByTable lkX10_401 dX10_isConsistent_59 (lt_X10) (so_X10) rfl rfl rfl (by exact Nat.le_of_ble_eq_true rfl) (by omega) (by omega) (by omega) (S_X10_leastPenanceByTable I55) (fun _ _ h => absurd h id) (fun v59 J59 q59 => ?_)
    obtain ⟨_, rfl, t59⟩ := q59
    have s59 := s55.trans t59
    have I59 := hI0.sc s59
    refine J_icmpR_ne 80 65 (by decide) rfl dX10_isConsistent_62 (fun c => absurd rfl c) (fun _ => ?_)
    refine J_aload_n 66 rfl dX10_isConsistent_65 rfl ?_
    refine J_callV (As := []) 69 _ rfl kalX10_allOil lkX10_404 dX10_isConsistent_66 (lt_X10) (so_X10) rfl rfl rfl (by exact Nat.le_of_ble_eq_true rfl) (by omega) (by omega) (by omega) (S_X10_allOil I59) (fun _ _ h => absurd h id) (fun v66 J66 q66 => ?_)
    obtain ⟨_, rfl, t66⟩ := q66
    have s66 := s59.trans t66
    have I66 := hI0.sc s66
    refine J_aload_n 70 rfl dX10_isConsistent_69 rfl ?_
    refine J_callV (As := []) 73 _ rfl kalX10_allOilByAccounts lkX10_407 dX10_isConsistent_70 (lt_X10) (so_X10) rfl rfl rfl (by exact Nat.le_of_ble_eq_true rfl) (by omega) (by omega) (by omega) (S_X10_allOilByAccounts I66) (fun _ _ h => absurd h id) (fun v70 J70 q70 => ?_)
    obtain ⟨_, rfl, t70⟩ := q70
    have s70 := s66.trans t70
    have I70 := hI0.sc s70
    refine J_icmpR_ne 80 76 (by decide) rfl dX10_isConsistent_73 (fun c => absurd rfl c) (fun _ => ?_)
    refine J_iconst 77 1 rfl dX10_isConsistent_76 ic_1 ?_
    refine J_goto 81 (by decide) dX10_isConsistent_77 ?_
    refine J_zret1 rfl dX10_isConsistent_81 ?_
    exact ⟨rfl, rfl, s70⟩
  refine J_aload_n 1 rfl dX10_isConsistent_0 rfl ?_
  refine J_callV (As := []) 4 _ rfl kalX10_enginesAgree lkX10_386 dX10_isConsistent_1 (lt_X10) (so_X10) rfl rfl rfl (by exact Nat.le_of_ble_eq_true rfl) (by omega) (by omega) (by omega) (S_X10_enginesAgree hI0) (fun _ _ h => absurd h id) (fun v1 J1 q1 => ?_)
  obtain ⟨_, rfl, s4⟩ := q1
  have I4 := hI0.sc s4
  have g0 : J1 1 4 = f 0 := by rw [s4.1 1 (by omega)]; exact s0
  refine J_ifR_eq 80 7 (by decide) rfl dX10_isConsistent_4 (fun c => absurd c (by decide)) (fun _ => ?_)
  refine J_aload_n 8 rfl dX10_isConsistent_7 rfl ?_
  refine g_X10_house 11 rfl dX10_isConsistent_8 lkX10_10 ?_
  refine g_X3_engineCount 14 (by first | assumption | exact isH_1 | exact isH_31 | exact isH_61 | exact isH_p (by omega) | exact isH_E (by assumption) (by omega) | exact isH_R (by assumption) | exact isH_K (by assumption) | exact isH_E isH_1 (by omega) | exact isH_R isH_1 | exact isH_K isH_1 | exact isH_R isH_31 | exact isH_K isH_31 | exact isH_E isH_31 (by omega)) rfl dX10_isConsistent_11 lkX10_110 ?_
  refine J_cv (b := f 0) g0 ?_
  refine J_if_eq 43 17 (by decide) rfl dX10_isConsistent_14 (by omega) (fun c14 => ?_) (fun c14 => ?_)
  · first
      | exact J_more (by omega) (by omega) (rest _ s37)
      | exact J_more (by omega) (by omega) (rest _ s4)
  · refine J_aload_n 18 rfl dX10_isConsistent_17 rfl ?_
    refine J_iconst 19 0 rfl dX10_isConsistent_18 ic_0 ?_
    refine J_callV (As := [_]) 22 _ rfl kalX10_oilAgrees lkX10_389 dX10_isConsistent_19 (lt_X10) (so_X10) rfl rfl rfl (by exact Nat.le_of_ble_eq_true rfl) (by omega) (by omega) (by omega) (S_X10_oilAgrees I4 (by omega) (by omega) (by omega)) (fun _ _ h => absurd h id) (fun v19 J19 q19 => ?_)
    obtain ⟨_, rfl, t19⟩ := q19
    have s19 := s4.trans t19
    have I19 := hI0.sc s19
    refine J_ifR_eq 80 25 (by decide) rfl dX10_isConsistent_22 (fun c => absurd c (by decide)) (fun _ => ?_)
    refine J_aload_n 26 rfl dX10_isConsistent_25 rfl ?_
    refine J_bipush 28 10 rfl dX10_isConsistent_26 bc_10 ?_
    refine J_callV (As := [_]) 31 _ rfl kalX10_oilAgrees lkX10_389 dX10_isConsistent_28 (lt_X10) (so_X10) rfl rfl rfl (by exact Nat.le_of_ble_eq_true rfl) (by omega) (by omega) (by omega) (S_X10_oilAgrees I19 (by omega) (by omega) (by omega)) (fun _ _ h => absurd h id) (fun v28 J28 q28 => ?_)
    obtain ⟨_, rfl, t28⟩ := q28
    have s28 := s19.trans t28
    have I28 := hI0.sc s28
    refine J_ifR_eq 80 34 (by decide) rfl dX10_isConsistent_31 (fun c => absurd c (by decide)) (fun _ => ?_)
    refine J_aload_n 35 rfl dX10_isConsistent_34 rfl ?_
    refine J_bipush 37 99 rfl dX10_isConsistent_35 bc_99 ?_
    refine J_callV (As := [_]) 40 _ rfl kalX10_oilAgrees lkX10_389 dX10_isConsistent_37 (lt_X10) (so_X10) rfl rfl rfl (by exact Nat.le_of_ble_eq_true rfl) (by omega) (by omega) (by omega) (S_X10_oilAgrees I28 (by omega) (by omega) (by omega)) (fun _ _ h => absurd h id) (fun v37 J37 q37 => ?_)
    obtain ⟨_, rfl, t37⟩ := q37
    have s37 := s28.trans t37
    have I37 := hI0.sc s37
    refine J_ifR_eq 80 43 (by decide) rfl dX10_isConsistent_40 (fun c => absurd c (by decide)) (fun _ => ?_)
    first
      | exact J_more (by omega) (by omega) (rest _ s37)
      | exact J_more (by omega) (by omega) (rest _ s4)

