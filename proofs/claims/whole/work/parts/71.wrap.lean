/-! THE LAW'S WRAPPERS (laid by wip/whole/src/p71.py) -/
abbrev HJ (g : Gn) (y : MI) (hh : HH) (d kc ks : Nat) (Q : Option Value → DJ → Prop) (pc : Nat) (L : List (Nat × Value)) (st : List Value) (J : DJ) : Prop :=
  VH g.1 y hh d kc ks (fun v ws => ∃ J', ws = wd g J' ∧ Q v J') pc L st (wd g J)
def SHJ (g : Gn) (y : MI) (hh : HH) (d kc ks : Nat) (av : List Value) (J : DJ) (Q : Option Value → DJ → Prop) : Prop :=
  SemH g.1 y hh d kc ks av (wd g J) (fun v ws => ∃ J', ws = wd g J' ∧ Q v J')
theorem SHJ_of {g : Gn} {y : MI} {hh : HH} {d kc ks : Nat} {av : List Value} {J : DJ} {Q : Option Value → DJ → Prop} (hy : plainName y.1.cls = true) (hn : (lg_sl av).length ≤ y.2.2.1) (h : HJ g y hh d kc ks Q 0 (lv_args 0 av) [] J) : SHJ g y hh d kc ks av J Q := SemH_of_VH hy hn h
def lgN (v : Int64) : Nat := v.toUInt64.toNat
theorem lgN_of (v : Int64) : Int64.ofNat (lgN v) = v := by
  show (⟨UInt64.ofNat v.toUInt64.toNat⟩ : Int64) = v
  rw [UInt64.ofNat_toNat]
theorem celR_l {u : Un} {ad row : Nat → Nat} {k N : Nat} (hs : shp k = .inl (4, N)) : celR u ad k row = .inl (u.2.2.2 4, N, .inr (.inl (fun j => Int64.ofNat (row j)))) := by
  unfold celR; rw [hs]; rfl
theorem celR_d {u : Un} {ad row : Nat → Nat} {k N : Nat} (hs : shp k = .inl (5, N)) : celR u ad k row = .inl (u.2.2.2 5, N, .inr (.inr (.inr (.inl (fun j => UInt64.ofNat (row j)))))) := by
  unfold celR; rw [hs]; rfl
theorem wd_l {g : Gn} {J : DJ} {v : Int64} : (wd g J).set 365 (g.2 365, .inl (g.1.2.2.2 4, 1, .inr (.inl (vp_updL (fun j => Int64.ofNat (J 365 j)) 0 v)))) = wd g (up2 J 365 0 (lgN v)) := by
  refine wd_set g J (up2 J 365 0 (lgN v)) ?_ (fun i hi => up2_ne hi)
  rw [celR_l (k := 365) (N := 1) rfl, up2_self]
  congr 5
  funext j
  unfold vp_updL
  show _ = Int64.ofNat (if j = 0 then lgN v else J 365 j)
  by_cases h : j = 0
  · rw [if_pos h, if_pos h, lgN_of]
  · rw [if_neg h, if_neg h]
theorem wd_d {g : Gn} {J : DJ} {v : UInt64} : (wd g J).set 366 (g.2 366, .inl (g.1.2.2.2 5, 1, .inr (.inr (.inr (.inl (vf_upd (fun j => UInt64.ofNat (J 366 j)) 0 v)))))) = wd g (up2 J 366 0 v.toNat) := by
  refine wd_set g J (up2 J 366 0 v.toNat) ?_ (fun i hi => up2_ne hi)
  rw [celR_d (k := 366) (N := 1) rfl, up2_self]
  congr 7
  funext j
  unfold vf_upd
  show _ = UInt64.ofNat (if j = 0 then v.toNat else J 366 j)
  by_cases h : j = 0
  · rw [if_pos h, if_pos h, UInt64.ofNat_toNat]
  · rw [if_neg h, if_neg h]
section HJR
variable {g : Gn} {y z : MI} {hh : HH} {d kc ks d' kc' ks' : Nat} {Q Q' : Option Value → DJ → Prop} {X' : String → DJ → Prop} {pc : Nat} {L : List (Nat × Value)} {st st0 As : List Value} {J : DJ}
theorem HJ_last (pc' : Nat) {v : Int64} (hp : pc + 1 = pc') (hd : decode y.2.1 pc = .ok (.lastore, 1)) (h : HJ g y hh d kc ks Q pc' L st (up2 J 365 0 (lgN v))) : HJ g y hh d kc ks Q pc L (.long v :: .int (nI 0) :: .ref (g.2 365) :: st) J := by
  refine H_last pc' hp hd ((wd_get g J (show 365 < 367 by omega)).trans (by rw [celR_l (k := 365) (N := 1) rfl])) (vp_in_nI (by omega) (by omega)) ?_
  rw [nI_clamp (by omega), wd_l]
  exact h
theorem HJ_dast (pc' : Nat) {v : UInt64} (hp : pc + 1 = pc') (hd : decode y.2.1 pc = .ok (.dastore, 1)) (h : HJ g y hh d kc ks Q pc' L st (up2 J 366 0 v.toNat)) : HJ g y hh d kc ks Q pc L (.double v :: .int (nI 0) :: .ref (g.2 366) :: st) J := by
  refine H_dast pc' hp hd ((wd_get g J (show 366 < 367 by omega)).trans (by rw [celR_d (k := 366) (N := 1) rfl])) (vp_in_nI (by omega) (by omega)) ?_
  rw [nI_clamp (by omega), wd_d]
  exact h
theorem HJ_call (pc' : Nat) {idx n : Nat} (hp : pc + 3 = pc') (k : CalV z n) (hl : Cond.methodLink y.1.cls idx z.1 ∈ WALL) (hd : decode y.2.1 pc = .ok (.invokevirtual idx, 3)) (hz : z.1.cls = RX10) (hn : As.length = n) (hst : st0 = As.reverse ++ .ref (g.2 0) :: st) (hcat : (st.map fun v => v.category).sum ≤ 8)
    (hdd : d' + 1 ≤ d) (hkc : kc' ≤ kc) (hks : ks' ≤ ks) (hSem : SJ g z d' kc' ks' (.ref (g.2 0) :: As) J Q' X')
    (kx : ∀ (E : String) (J' : DJ) (q : Nat), X' E J' → ∃ h, Lands y hh pc E h ∧ HJ g y hh d (kc - kc') (ks - ks') Q h L [.ref q] J')
    (kr : ∀ (v : Option Value) (J' : DJ), Q' v J' → HJ g y hh d (kc - kc') (ks - ks') Q pc' L (v.toList ++ st) J') : HJ g y hh d kc ks Q pc L st0 J := by
  obtain ⟨T, N, hc⟩ : ∃ T N, vwCl[12]? = some (z.1.cls, T, N) := by rw [hz]; exact ⟨_, _, rfl⟩
  exact H_callV hp k hl hd hSem ((wd_get g J (show 0 < 367 by omega)).trans (by rw [celR_obj (show shp 0 = .inr (12, _) from rfl)])) hc hn hst hcat hdd hkc hks (fun E ws q ⟨J', e, x⟩ => by rw [e]; exact kx E J' q x) (fun v ws ⟨J', e, x⟩ => by rw [e]; exact kr v J' x)
end HJR
/-- the code that stands for an exception: its place among those that are caught -/
def cdX : List String → String → Nat
  | [], _ => 0
  | c :: t, E => if E = c then 1 else cdX t E + 1
/-- a wrapper's answer: 0 and the number left in the array, or the exception's code -/
def WP (cs : List String) (Q : Option Value → DJ → Prop) (X : String → DJ → Prop) : Option Value → DJ → Prop := fun v J2 => (∃ J1 r, Q (some (.int r)) J1 ∧ v = some (.int (nI 0)) ∧ J2 = up2 J1 365 0 (lgN r.toInt64)) ∨ ∃ E, X E J2 ∧ E ∈ cs ∧ v = some (.int (nI (cdX cs E)))
def WD (cs : List String) (Q : Option Value → DJ → Prop) (X : String → DJ → Prop) : Option Value → DJ → Prop := fun v J2 => (∃ J1 r, Q (some (.double r)) J1 ∧ v = some (.int (nI 0)) ∧ J2 = up2 J1 366 0 r.toNat) ∨ ∃ E, X E J2 ∧ E ∈ cs ∧ v = some (.int (nI (cdX cs E)))
theorem clL_13 : Cond.classLink RL 13 IAE ∈ WALL := (inT4 (w := Cond.classLink RL 13 "java/lang/IllegalArgumentException") 26 rfl rfl)
theorem clL_15 : Cond.classLink RL 15 ISE ∈ WALL := (inT4 (w := Cond.classLink RL 15 "java/lang/IllegalStateException") 27 rfl rfl)
theorem clL_21 : Cond.classLink RL 21 IOOBE ∈ WALL := (inT4 (w := Cond.classLink RL 21 "java/lang/IndexOutOfBoundsException") 74 rfl rfl)
theorem clL_66 : Cond.classLink RL 66 NSEE ∈ WALL := (inT5 (w := Cond.classLink RL 66 "java/util/NoSuchElementException") 39 rfl rfl)
theorem clL_148 : Cond.classLink RL 148 AE ∈ WALL := (inT6 (w := Cond.classLink RL 148 "java/lang/ArithmeticException") 176 rfl rfl)
theorem inCast : IAE ∈ castL ∧ ISE ∈ castL ∧ IOOBE ∈ castL ∧ NSEE ∈ castL ∧ AE ∈ castL := by decide +kernel
abbrev mL_addEngine : MI := (yL_addEngine, cL_addEngine, 4, some .int)
def hL_addEngine : HH := [(0, 9, 12, 13), (0, 9, 15, 15)]
theorem kalL_addEngine : CalH mL_addEngine hL_addEngine 3 := ⟨(inT4 (w := Cond.codeWith yL_addEngine cL_addEngine 4 (some .int) [(0, 9, 12, 13), (0, 9, 15, 15)]) 25 rfl rfl), (inT1 (w := Cond.initialized RL) 0 rfl rfl), by decide, by decide +kernel, (inT4 (w := Cond.static yL_addEngine) 24 rfl rfl)⟩
theorem WL_addEngine {g : Gn} {J : DJ} {Q : Option Value → DJ → Prop} {X : String → DJ → Prop} {d' kc' ks' : Nat} {x1 : Int32} (h : SJ g mX10_addEngine d' kc' ks' [.ref (g.2 0), .int x1] J Q X) (hd : d' ≤ 16) (hkc : kc' ≤ 1) (hks : ks' ≤ 6) (hQ : ∀ v J', Q v J' → ∃ r, v = some (.int r)) (hX : ∀ E J', X E J' → E ∈ [IAE, ISE]) : SHJ g mL_addEngine hL_addEngine 17 1 6 [.ref (g.2 0), .int x1, .ref (g.2 365)] J (WP [IAE, ISE] Q X) := by
  refine SHJ_of (by decide +kernel) (Nat.le_of_ble_eq_true rfl) ?_
  show HJ g mL_addEngine hL_addEngine 17 1 6 _ 0 [(0, .ref (g.2 0)), (1, .int x1), (2, .ref (g.2 365))] [] J
  refine H_aload_n 1 rfl dL_addEngine_0 rfl ?_
  refine H_iconst 2 (nI 0) rfl dL_addEngine_1 ic_0 ?_
  refine H_aload_n 3 rfl dL_addEngine_2 rfl ?_
  refine H_iload_n 4 rfl dL_addEngine_3 rfl ?_
  refine HJ_call (As := [_]) 7 rfl kalX10_addEngine lkL_7 dL_addEngine_4 rfl rfl rfl (by exact Nat.le_of_ble_eq_true rfl) (by omega) (by omega) (by omega) h (fun E J' q hx => ?_) (fun v J' q => ?_)
  · have hm := hX E J' hx
    by_cases c0 : E = IAE
    · subst c0
      refine ⟨12, ⟨[], (0, 9, 12, 13), [(0, 9, 15, 15)], rfl, fun z hz => absurd hz List.not_mem_nil, by decide, by decide, rfl, clL_13, inCast.1⟩, ?_⟩
      refine H_astore_n 13 rfl dL_addEngine_12 rfl (by decide) ?_
      refine H_iconst 14 (nI 1) rfl dL_addEngine_13 ic_1 ?_
      exact H_iret rfl dL_addEngine_14 ⟨J', rfl, Or.inr ⟨_, hx, hm, rfl⟩⟩
    by_cases c1 : E = ISE
    · subst c1
      refine ⟨15, ⟨[(0, 9, 12, 13)], (0, 9, 15, 15), [], rfl, fun z hz => ?_, by decide, by decide, rfl, clL_15, inCast.2.1⟩, ?_⟩
      · have hz2 : z = (0, 9, 12, 13) := by simpa using hz
        have e := hz2
        · subst e
          exact ⟨by decide, IAE, clL_13, by decide +kernel⟩
      · refine H_astore_n 16 rfl dL_addEngine_15 rfl (by decide) ?_
        refine H_iconst 17 (nI 2) rfl dL_addEngine_16 ic_2 ?_
        exact H_iret rfl dL_addEngine_17 ⟨J', rfl, Or.inr ⟨_, hx, hm, rfl⟩⟩
    exact absurd hm (by
      intro hm2
      have hz : E = IAE ∨ E = ISE := by simpa using hm2
      rcases hz with z | z
      · exact c0 z
      · exact c1 z)
  · obtain ⟨r, rfl⟩ := hQ v J' q
    refine H_i2l 8 _ rfl dL_addEngine_7 rfl ?_
    refine HJ_last 9 rfl dL_addEngine_8 ?_
    refine H_goto 18 (by decide) dL_addEngine_9 ?_
    refine H_iconst 19 (nI 0) rfl dL_addEngine_18 ic_0 ?_
    exact H_iret rfl dL_addEngine_19 ⟨_, rfl, Or.inl ⟨J', _, q, rfl, rfl⟩⟩
abbrev mL_exchange : MI := (yL_exchange, cL_exchange, 6, some .int)
def hL_exchange : HH := [(0, 12, 15, 21)]
theorem kalL_exchange : CalH mL_exchange hL_exchange 5 := ⟨(inT4 (w := Cond.codeWith yL_exchange cL_exchange 6 (some .int) [(0, 12, 15, 21)]) 73 rfl rfl), (inT1 (w := Cond.initialized RL) 0 rfl rfl), by decide, by decide +kernel, (inT4 (w := Cond.static yL_exchange) 72 rfl rfl)⟩
theorem WL_exchange {g : Gn} {J : DJ} {Q : Option Value → DJ → Prop} {X : String → DJ → Prop} {d' kc' ks' : Nat} {x1 x2 x3 : Int32} (h : SJ g mX10_exchange d' kc' ks' [.ref (g.2 0), .int x1, .int x2, .int x3] J Q X) (hd : d' ≤ 16) (hkc : kc' ≤ 1) (hks : ks' ≤ 6) (hQ : ∀ v J', Q v J' → ∃ r, v = some (.int r)) (hX : ∀ E J', X E J' → E ∈ [IOOBE]) : SHJ g mL_exchange hL_exchange 17 1 6 [.ref (g.2 0), .int x1, .int x2, .int x3, .ref (g.2 365)] J (WP [IOOBE] Q X) := by
  refine SHJ_of (by decide +kernel) (Nat.le_of_ble_eq_true rfl) ?_
  show HJ g mL_exchange hL_exchange 17 1 6 _ 0 [(0, .ref (g.2 0)), (1, .int x1), (2, .int x2), (3, .int x3), (4, .ref (g.2 365))] [] J
  refine H_aload 2 rfl dL_exchange_0 rfl ?_
  refine H_iconst 3 (nI 0) rfl dL_exchange_2 ic_0 ?_
  refine H_aload_n 4 rfl dL_exchange_3 rfl ?_
  refine H_iload_n 5 rfl dL_exchange_4 rfl ?_
  refine H_iload_n 6 rfl dL_exchange_5 rfl ?_
  refine H_iload_n 7 rfl dL_exchange_6 rfl ?_
  refine HJ_call (As := [_, _, _]) 10 rfl kalX10_exchange lkL_17 dL_exchange_7 rfl rfl rfl (by exact Nat.le_of_ble_eq_true rfl) (by omega) (by omega) (by omega) h (fun E J' q hx => ?_) (fun v J' q => ?_)
  · have hm := hX E J' hx
    by_cases c0 : E = IOOBE
    · subst c0
      refine ⟨15, ⟨[], (0, 12, 15, 21), [], rfl, fun z hz => absurd hz List.not_mem_nil, by decide, by decide, rfl, clL_21, inCast.2.2.1⟩, ?_⟩
      refine H_astore 17 rfl dL_exchange_15 (by decide) ?_
      refine H_iconst 18 (nI 1) rfl dL_exchange_17 ic_1 ?_
      exact H_iret rfl dL_exchange_18 ⟨J', rfl, Or.inr ⟨_, hx, hm, rfl⟩⟩
    exact absurd hm (by
      intro hm2
      have hz : E = IOOBE := by simpa using hm2
      exact c0 hz)
  · obtain ⟨r, rfl⟩ := hQ v J' q
    refine H_i2l 11 _ rfl dL_exchange_10 rfl ?_
    refine HJ_last 12 rfl dL_exchange_11 ?_
    refine H_goto 19 (by decide) dL_exchange_12 ?_
    refine H_iconst 20 (nI 0) rfl dL_exchange_19 ic_0 ?_
    exact H_iret rfl dL_exchange_20 ⟨_, rfl, Or.inl ⟨J', _, q, rfl, rfl⟩⟩
abbrev mL_setRate : MI := (yL_setRate, cL_setRate, 5, some .int)
def hL_setRate : HH := [(0, 10, 13, 21), (0, 10, 17, 13)]
theorem kalL_setRate : CalH mL_setRate hL_setRate 4 := ⟨(inT4 (w := Cond.codeWith yL_setRate cL_setRate 5 (some .int) [(0, 10, 13, 21), (0, 10, 17, 13)]) 131 rfl rfl), (inT1 (w := Cond.initialized RL) 0 rfl rfl), by decide, by decide +kernel, (inT4 (w := Cond.static yL_setRate) 130 rfl rfl)⟩
theorem WL_setRate {g : Gn} {J : DJ} {Q : Option Value → DJ → Prop} {X : String → DJ → Prop} {d' kc' ks' : Nat} {x1 x2 : Int32} (h : SJ g mX10_setRate d' kc' ks' [.ref (g.2 0), .int x1, .int x2] J Q X) (hd : d' ≤ 16) (hkc : kc' ≤ 1) (hks : ks' ≤ 6) (hQ : ∀ v J', Q v J' → ∃ r, v = some (.int r)) (hX : ∀ E J', X E J' → E ∈ [IOOBE, IAE]) : SHJ g mL_setRate hL_setRate 17 1 6 [.ref (g.2 0), .int x1, .int x2, .ref (g.2 365)] J (WP [IOOBE, IAE] Q X) := by
  refine SHJ_of (by decide +kernel) (Nat.le_of_ble_eq_true rfl) ?_
  show HJ g mL_setRate hL_setRate 17 1 6 _ 0 [(0, .ref (g.2 0)), (1, .int x1), (2, .int x2), (3, .ref (g.2 365))] [] J
  refine H_aload_n 1 rfl dL_setRate_0 rfl ?_
  refine H_iconst 2 (nI 0) rfl dL_setRate_1 ic_0 ?_
  refine H_aload_n 3 rfl dL_setRate_2 rfl ?_
  refine H_iload_n 4 rfl dL_setRate_3 rfl ?_
  refine H_iload_n 5 rfl dL_setRate_4 rfl ?_
  refine HJ_call (As := [_, _]) 8 rfl kalX10_setRate lkL_23 dL_setRate_5 rfl rfl rfl (by exact Nat.le_of_ble_eq_true rfl) (by omega) (by omega) (by omega) h (fun E J' q hx => ?_) (fun v J' q => ?_)
  · have hm := hX E J' hx
    by_cases c0 : E = IOOBE
    · subst c0
      refine ⟨13, ⟨[], (0, 10, 13, 21), [(0, 10, 17, 13)], rfl, fun z hz => absurd hz List.not_mem_nil, by decide, by decide, rfl, clL_21, inCast.2.2.1⟩, ?_⟩
      refine H_astore 15 rfl dL_setRate_13 (by decide) ?_
      refine H_iconst 16 (nI 1) rfl dL_setRate_15 ic_1 ?_
      exact H_iret rfl dL_setRate_16 ⟨J', rfl, Or.inr ⟨_, hx, hm, rfl⟩⟩
    by_cases c1 : E = IAE
    · subst c1
      refine ⟨17, ⟨[(0, 10, 13, 21)], (0, 10, 17, 13), [], rfl, fun z hz => ?_, by decide, by decide, rfl, clL_13, inCast.1⟩, ?_⟩
      · have hz2 : z = (0, 10, 13, 21) := by simpa using hz
        have e := hz2
        · subst e
          exact ⟨by decide, IOOBE, clL_21, by decide +kernel⟩
      · refine H_astore 19 rfl dL_setRate_17 (by decide) ?_
        refine H_iconst 20 (nI 2) rfl dL_setRate_19 ic_2 ?_
        exact H_iret rfl dL_setRate_20 ⟨J', rfl, Or.inr ⟨_, hx, hm, rfl⟩⟩
    exact absurd hm (by
      intro hm2
      have hz : E = IOOBE ∨ E = IAE := by simpa using hm2
      rcases hz with z | z
      · exact c0 z
      · exact c1 z)
  · obtain ⟨r, rfl⟩ := hQ v J' q
    refine H_i2l 9 _ rfl dL_setRate_8 rfl ?_
    refine HJ_last 10 rfl dL_setRate_9 ?_
    refine H_goto 21 (by decide) dL_setRate_10 ?_
    refine H_iconst 22 (nI 0) rfl dL_setRate_21 ic_0 ?_
    exact H_iret rfl dL_setRate_22 ⟨_, rfl, Or.inl ⟨J', _, q, rfl, rfl⟩⟩
abbrev mL_cylinderCount : MI := (yL_cylinderCount, cL_cylinderCount, 4, some .int)
def hL_cylinderCount : HH := [(0, 9, 12, 21)]
theorem kalL_cylinderCount : CalH mL_cylinderCount hL_cylinderCount 3 := ⟨(inT4 (w := Cond.codeWith yL_cylinderCount cL_cylinderCount 4 (some .int) [(0, 9, 12, 21)]) 146 rfl rfl), (inT1 (w := Cond.initialized RL) 0 rfl rfl), by decide, by decide +kernel, (inT4 (w := Cond.static yL_cylinderCount) 145 rfl rfl)⟩
theorem WL_cylinderCount {g : Gn} {J : DJ} {Q : Option Value → DJ → Prop} {X : String → DJ → Prop} {d' kc' ks' : Nat} {x1 : Int32} (h : SJ g mX10_cylinderCount d' kc' ks' [.ref (g.2 0), .int x1] J Q X) (hd : d' ≤ 16) (hkc : kc' ≤ 1) (hks : ks' ≤ 6) (hQ : ∀ v J', Q v J' → ∃ r, v = some (.int r)) (hX : ∀ E J', X E J' → E ∈ [IOOBE]) : SHJ g mL_cylinderCount hL_cylinderCount 17 1 6 [.ref (g.2 0), .int x1, .ref (g.2 365)] J (WP [IOOBE] Q X) := by
  refine SHJ_of (by decide +kernel) (Nat.le_of_ble_eq_true rfl) ?_
  show HJ g mL_cylinderCount hL_cylinderCount 17 1 6 _ 0 [(0, .ref (g.2 0)), (1, .int x1), (2, .ref (g.2 365))] [] J
  refine H_aload_n 1 rfl dL_cylinderCount_0 rfl ?_
  refine H_iconst 2 (nI 0) rfl dL_cylinderCount_1 ic_0 ?_
  refine H_aload_n 3 rfl dL_cylinderCount_2 rfl ?_
  refine H_iload_n 4 rfl dL_cylinderCount_3 rfl ?_
  refine HJ_call (As := [_]) 7 rfl kalX10_cylinderCount lkL_27 dL_cylinderCount_4 rfl rfl rfl (by exact Nat.le_of_ble_eq_true rfl) (by omega) (by omega) (by omega) h (fun E J' q hx => ?_) (fun v J' q => ?_)
  · have hm := hX E J' hx
    by_cases c0 : E = IOOBE
    · subst c0
      refine ⟨12, ⟨[], (0, 9, 12, 21), [], rfl, fun z hz => absurd hz List.not_mem_nil, by decide, by decide, rfl, clL_21, inCast.2.2.1⟩, ?_⟩
      refine H_astore_n 13 rfl dL_cylinderCount_12 rfl (by decide) ?_
      refine H_iconst 14 (nI 1) rfl dL_cylinderCount_13 ic_1 ?_
      exact H_iret rfl dL_cylinderCount_14 ⟨J', rfl, Or.inr ⟨_, hx, hm, rfl⟩⟩
    exact absurd hm (by
      intro hm2
      have hz : E = IOOBE := by simpa using hm2
      exact c0 hz)
  · obtain ⟨r, rfl⟩ := hQ v J' q
    refine H_i2l 8 _ rfl dL_cylinderCount_7 rfl ?_
    refine HJ_last 9 rfl dL_cylinderCount_8 ?_
    refine H_goto 15 (by decide) dL_cylinderCount_9 ?_
    refine H_iconst 16 (nI 0) rfl dL_cylinderCount_15 ic_0 ?_
    exact H_iret rfl dL_cylinderCount_16 ⟨_, rfl, Or.inl ⟨J', _, q, rfl, rfl⟩⟩
abbrev mL_orderAt : MI := (yL_orderAt, cL_orderAt, 5, some .int)
def hL_orderAt : HH := [(0, 10, 13, 21)]
theorem kalL_orderAt : CalH mL_orderAt hL_orderAt 4 := ⟨(inT4 (w := Cond.codeWith yL_orderAt cL_orderAt 5 (some .int) [(0, 10, 13, 21)]) 153 rfl rfl), (inT1 (w := Cond.initialized RL) 0 rfl rfl), by decide, by decide +kernel, (inT4 (w := Cond.static yL_orderAt) 152 rfl rfl)⟩
theorem WL_orderAt {g : Gn} {J : DJ} {Q : Option Value → DJ → Prop} {X : String → DJ → Prop} {d' kc' ks' : Nat} {x1 x2 : Int32} (h : SJ g mX10_orderAt d' kc' ks' [.ref (g.2 0), .int x1, .int x2] J Q X) (hd : d' ≤ 16) (hkc : kc' ≤ 1) (hks : ks' ≤ 6) (hQ : ∀ v J', Q v J' → ∃ r, v = some (.int r)) (hX : ∀ E J', X E J' → E ∈ [IOOBE]) : SHJ g mL_orderAt hL_orderAt 17 1 6 [.ref (g.2 0), .int x1, .int x2, .ref (g.2 365)] J (WP [IOOBE] Q X) := by
  refine SHJ_of (by decide +kernel) (Nat.le_of_ble_eq_true rfl) ?_
  show HJ g mL_orderAt hL_orderAt 17 1 6 _ 0 [(0, .ref (g.2 0)), (1, .int x1), (2, .int x2), (3, .ref (g.2 365))] [] J
  refine H_aload_n 1 rfl dL_orderAt_0 rfl ?_
  refine H_iconst 2 (nI 0) rfl dL_orderAt_1 ic_0 ?_
  refine H_aload_n 3 rfl dL_orderAt_2 rfl ?_
  refine H_iload_n 4 rfl dL_orderAt_3 rfl ?_
  refine H_iload_n 5 rfl dL_orderAt_4 rfl ?_
  refine HJ_call (As := [_, _]) 8 rfl kalX10_orderAt lkL_30 dL_orderAt_5 rfl rfl rfl (by exact Nat.le_of_ble_eq_true rfl) (by omega) (by omega) (by omega) h (fun E J' q hx => ?_) (fun v J' q => ?_)
  · have hm := hX E J' hx
    by_cases c0 : E = IOOBE
    · subst c0
      refine ⟨13, ⟨[], (0, 10, 13, 21), [], rfl, fun z hz => absurd hz List.not_mem_nil, by decide, by decide, rfl, clL_21, inCast.2.2.1⟩, ?_⟩
      refine H_astore 15 rfl dL_orderAt_13 (by decide) ?_
      refine H_iconst 16 (nI 1) rfl dL_orderAt_15 ic_1 ?_
      exact H_iret rfl dL_orderAt_16 ⟨J', rfl, Or.inr ⟨_, hx, hm, rfl⟩⟩
    exact absurd hm (by
      intro hm2
      have hz : E = IOOBE := by simpa using hm2
      exact c0 hz)
  · obtain ⟨r, rfl⟩ := hQ v J' q
    refine H_i2l 9 _ rfl dL_orderAt_8 rfl ?_
    refine HJ_last 10 rfl dL_orderAt_9 ?_
    refine H_goto 17 (by decide) dL_orderAt_10 ?_
    refine H_iconst 18 (nI 0) rfl dL_orderAt_17 ic_0 ?_
    exact H_iret rfl dL_orderAt_18 ⟨_, rfl, Or.inl ⟨J', _, q, rfl, rfl⟩⟩
abbrev mL_dueAfter : MI := (yL_dueAfter, cL_dueAfter, 5, some .int)
def hL_dueAfter : HH := [(0, 10, 13, 21), (0, 10, 17, 13)]
theorem kalL_dueAfter : CalH mL_dueAfter hL_dueAfter 4 := ⟨(inT4 (w := Cond.codeWith yL_dueAfter cL_dueAfter 5 (some .int) [(0, 10, 13, 21), (0, 10, 17, 13)]) 161 rfl rfl), (inT1 (w := Cond.initialized RL) 0 rfl rfl), by decide, by decide +kernel, (inT4 (w := Cond.static yL_dueAfter) 160 rfl rfl)⟩
theorem WL_dueAfter {g : Gn} {J : DJ} {Q : Option Value → DJ → Prop} {X : String → DJ → Prop} {d' kc' ks' : Nat} {x1 x2 : Int32} (h : SJ g mX10_dueAfter d' kc' ks' [.ref (g.2 0), .int x1, .int x2] J Q X) (hd : d' ≤ 16) (hkc : kc' ≤ 1) (hks : ks' ≤ 6) (hQ : ∀ v J', Q v J' → ∃ r, v = some (.int r)) (hX : ∀ E J', X E J' → E ∈ [IOOBE, IAE]) : SHJ g mL_dueAfter hL_dueAfter 17 1 6 [.ref (g.2 0), .int x1, .int x2, .ref (g.2 365)] J (WP [IOOBE, IAE] Q X) := by
  refine SHJ_of (by decide +kernel) (Nat.le_of_ble_eq_true rfl) ?_
  show HJ g mL_dueAfter hL_dueAfter 17 1 6 _ 0 [(0, .ref (g.2 0)), (1, .int x1), (2, .int x2), (3, .ref (g.2 365))] [] J
  refine H_aload_n 1 rfl dL_dueAfter_0 rfl ?_
  refine H_iconst 2 (nI 0) rfl dL_dueAfter_1 ic_0 ?_
  refine H_aload_n 3 rfl dL_dueAfter_2 rfl ?_
  refine H_iload_n 4 rfl dL_dueAfter_3 rfl ?_
  refine H_iload_n 5 rfl dL_dueAfter_4 rfl ?_
  refine HJ_call (As := [_, _]) 8 rfl kalX10_dueAfter lkL_33 dL_dueAfter_5 rfl rfl rfl (by exact Nat.le_of_ble_eq_true rfl) (by omega) (by omega) (by omega) h (fun E J' q hx => ?_) (fun v J' q => ?_)
  · have hm := hX E J' hx
    by_cases c0 : E = IOOBE
    · subst c0
      refine ⟨13, ⟨[], (0, 10, 13, 21), [(0, 10, 17, 13)], rfl, fun z hz => absurd hz List.not_mem_nil, by decide, by decide, rfl, clL_21, inCast.2.2.1⟩, ?_⟩
      refine H_astore 15 rfl dL_dueAfter_13 (by decide) ?_
      refine H_iconst 16 (nI 1) rfl dL_dueAfter_15 ic_1 ?_
      exact H_iret rfl dL_dueAfter_16 ⟨J', rfl, Or.inr ⟨_, hx, hm, rfl⟩⟩
    by_cases c1 : E = IAE
    · subst c1
      refine ⟨17, ⟨[(0, 10, 13, 21)], (0, 10, 17, 13), [], rfl, fun z hz => ?_, by decide, by decide, rfl, clL_13, inCast.1⟩, ?_⟩
      · have hz2 : z = (0, 10, 13, 21) := by simpa using hz
        have e := hz2
        · subst e
          exact ⟨by decide, IOOBE, clL_21, by decide +kernel⟩
      · refine H_astore 19 rfl dL_dueAfter_17 (by decide) ?_
        refine H_iconst 20 (nI 2) rfl dL_dueAfter_19 ic_2 ?_
        exact H_iret rfl dL_dueAfter_20 ⟨J', rfl, Or.inr ⟨_, hx, hm, rfl⟩⟩
    exact absurd hm (by
      intro hm2
      have hz : E = IOOBE ∨ E = IAE := by simpa using hm2
      rcases hz with z | z
      · exact c0 z
      · exact c1 z)
  · obtain ⟨r, rfl⟩ := hQ v J' q
    refine H_i2l 9 _ rfl dL_dueAfter_8 rfl ?_
    refine HJ_last 10 rfl dL_dueAfter_9 ?_
    refine H_goto 21 (by decide) dL_dueAfter_10 ?_
    refine H_iconst 22 (nI 0) rfl dL_dueAfter_21 ic_0 ?_
    exact H_iret rfl dL_dueAfter_22 ⟨_, rfl, Or.inl ⟨J', _, q, rfl, rfl⟩⟩
abbrev mL_dueAfterByStrokes : MI := (yL_dueAfterByStrokes, cL_dueAfterByStrokes, 5, some .int)
def hL_dueAfterByStrokes : HH := [(0, 10, 13, 21), (0, 10, 17, 13)]
theorem kalL_dueAfterByStrokes : CalH mL_dueAfterByStrokes hL_dueAfterByStrokes 4 := ⟨(inT4 (w := Cond.codeWith yL_dueAfterByStrokes cL_dueAfterByStrokes 5 (some .int) [(0, 10, 13, 21), (0, 10, 17, 13)]) 172 rfl rfl), (inT1 (w := Cond.initialized RL) 0 rfl rfl), by decide, by decide +kernel, (inT4 (w := Cond.static yL_dueAfterByStrokes) 171 rfl rfl)⟩
theorem WL_dueAfterByStrokes {g : Gn} {J : DJ} {Q : Option Value → DJ → Prop} {X : String → DJ → Prop} {d' kc' ks' : Nat} {x1 x2 : Int32} (h : SJ g mX10_dueAfterByStrokes d' kc' ks' [.ref (g.2 0), .int x1, .int x2] J Q X) (hd : d' ≤ 16) (hkc : kc' ≤ 1) (hks : ks' ≤ 6) (hQ : ∀ v J', Q v J' → ∃ r, v = some (.int r)) (hX : ∀ E J', X E J' → E ∈ [IOOBE, IAE]) : SHJ g mL_dueAfterByStrokes hL_dueAfterByStrokes 17 1 6 [.ref (g.2 0), .int x1, .int x2, .ref (g.2 365)] J (WP [IOOBE, IAE] Q X) := by
  refine SHJ_of (by decide +kernel) (Nat.le_of_ble_eq_true rfl) ?_
  show HJ g mL_dueAfterByStrokes hL_dueAfterByStrokes 17 1 6 _ 0 [(0, .ref (g.2 0)), (1, .int x1), (2, .int x2), (3, .ref (g.2 365))] [] J
  refine H_aload_n 1 rfl dL_dueAfterByStrokes_0 rfl ?_
  refine H_iconst 2 (nI 0) rfl dL_dueAfterByStrokes_1 ic_0 ?_
  refine H_aload_n 3 rfl dL_dueAfterByStrokes_2 rfl ?_
  refine H_iload_n 4 rfl dL_dueAfterByStrokes_3 rfl ?_
  refine H_iload_n 5 rfl dL_dueAfterByStrokes_4 rfl ?_
  refine HJ_call (As := [_, _]) 8 rfl kalX10_dueAfterByStrokes lkL_36 dL_dueAfterByStrokes_5 rfl rfl rfl (by exact Nat.le_of_ble_eq_true rfl) (by omega) (by omega) (by omega) h (fun E J' q hx => ?_) (fun v J' q => ?_)
  · have hm := hX E J' hx
    by_cases c0 : E = IOOBE
    · subst c0
      refine ⟨13, ⟨[], (0, 10, 13, 21), [(0, 10, 17, 13)], rfl, fun z hz => absurd hz List.not_mem_nil, by decide, by decide, rfl, clL_21, inCast.2.2.1⟩, ?_⟩
      refine H_astore 15 rfl dL_dueAfterByStrokes_13 (by decide) ?_
      refine H_iconst 16 (nI 1) rfl dL_dueAfterByStrokes_15 ic_1 ?_
      exact H_iret rfl dL_dueAfterByStrokes_16 ⟨J', rfl, Or.inr ⟨_, hx, hm, rfl⟩⟩
    by_cases c1 : E = IAE
    · subst c1
      refine ⟨17, ⟨[(0, 10, 13, 21)], (0, 10, 17, 13), [], rfl, fun z hz => ?_, by decide, by decide, rfl, clL_13, inCast.1⟩, ?_⟩
      · have hz2 : z = (0, 10, 13, 21) := by simpa using hz
        have e := hz2
        · subst e
          exact ⟨by decide, IOOBE, clL_21, by decide +kernel⟩
      · refine H_astore 19 rfl dL_dueAfterByStrokes_17 (by decide) ?_
        refine H_iconst 20 (nI 2) rfl dL_dueAfterByStrokes_19 ic_2 ?_
        exact H_iret rfl dL_dueAfterByStrokes_20 ⟨J', rfl, Or.inr ⟨_, hx, hm, rfl⟩⟩
    exact absurd hm (by
      intro hm2
      have hz : E = IOOBE ∨ E = IAE := by simpa using hm2
      rcases hz with z | z
      · exact c0 z
      · exact c1 z)
  · obtain ⟨r, rfl⟩ := hQ v J' q
    refine H_i2l 9 _ rfl dL_dueAfterByStrokes_8 rfl ?_
    refine HJ_last 10 rfl dL_dueAfterByStrokes_9 ?_
    refine H_goto 21 (by decide) dL_dueAfterByStrokes_10 ?_
    refine H_iconst 22 (nI 0) rfl dL_dueAfterByStrokes_21 ic_0 ?_
    exact H_iret rfl dL_dueAfterByStrokes_22 ⟨_, rfl, Or.inl ⟨J', _, q, rfl, rfl⟩⟩
abbrev mL_turnOf : MI := (yL_turnOf, cL_turnOf, 4, some .int)
def hL_turnOf : HH := [(0, 9, 12, 21)]
theorem kalL_turnOf : CalH mL_turnOf hL_turnOf 3 := ⟨(inT4 (w := Cond.codeWith yL_turnOf cL_turnOf 4 (some .int) [(0, 9, 12, 21)]) 187 rfl rfl), (inT1 (w := Cond.initialized RL) 0 rfl rfl), by decide, by decide +kernel, (inT4 (w := Cond.static yL_turnOf) 186 rfl rfl)⟩
theorem WL_turnOf {g : Gn} {J : DJ} {Q : Option Value → DJ → Prop} {X : String → DJ → Prop} {d' kc' ks' : Nat} {x1 : Int32} (h : SJ g mX10_turnOf d' kc' ks' [.ref (g.2 0), .int x1] J Q X) (hd : d' ≤ 16) (hkc : kc' ≤ 1) (hks : ks' ≤ 6) (hQ : ∀ v J', Q v J' → ∃ r, v = some (.int r)) (hX : ∀ E J', X E J' → E ∈ [IOOBE]) : SHJ g mL_turnOf hL_turnOf 17 1 6 [.ref (g.2 0), .int x1, .ref (g.2 365)] J (WP [IOOBE] Q X) := by
  refine SHJ_of (by decide +kernel) (Nat.le_of_ble_eq_true rfl) ?_
  show HJ g mL_turnOf hL_turnOf 17 1 6 _ 0 [(0, .ref (g.2 0)), (1, .int x1), (2, .ref (g.2 365))] [] J
  refine H_aload_n 1 rfl dL_turnOf_0 rfl ?_
  refine H_iconst 2 (nI 0) rfl dL_turnOf_1 ic_0 ?_
  refine H_aload_n 3 rfl dL_turnOf_2 rfl ?_
  refine H_iload_n 4 rfl dL_turnOf_3 rfl ?_
  refine HJ_call (As := [_]) 7 rfl kalX10_turnOf lkL_39 dL_turnOf_4 rfl rfl rfl (by exact Nat.le_of_ble_eq_true rfl) (by omega) (by omega) (by omega) h (fun E J' q hx => ?_) (fun v J' q => ?_)
  · have hm := hX E J' hx
    by_cases c0 : E = IOOBE
    · subst c0
      refine ⟨12, ⟨[], (0, 9, 12, 21), [], rfl, fun z hz => absurd hz List.not_mem_nil, by decide, by decide, rfl, clL_21, inCast.2.2.1⟩, ?_⟩
      refine H_astore_n 13 rfl dL_turnOf_12 rfl (by decide) ?_
      refine H_iconst 14 (nI 1) rfl dL_turnOf_13 ic_1 ?_
      exact H_iret rfl dL_turnOf_14 ⟨J', rfl, Or.inr ⟨_, hx, hm, rfl⟩⟩
    exact absurd hm (by
      intro hm2
      have hz : E = IOOBE := by simpa using hm2
      exact c0 hz)
  · obtain ⟨r, rfl⟩ := hQ v J' q
    refine H_i2l 8 _ rfl dL_turnOf_7 rfl ?_
    refine HJ_last 9 rfl dL_turnOf_8 ?_
    refine H_goto 15 (by decide) dL_turnOf_9 ?_
    refine H_iconst 16 (nI 0) rfl dL_turnOf_15 ic_0 ?_
    exact H_iret rfl dL_turnOf_16 ⟨_, rfl, Or.inl ⟨J', _, q, rfl, rfl⟩⟩
abbrev mL_turnByRepeating : MI := (yL_turnByRepeating, cL_turnByRepeating, 4, some .int)
def hL_turnByRepeating : HH := [(0, 9, 12, 21)]
theorem kalL_turnByRepeating : CalH mL_turnByRepeating hL_turnByRepeating 3 := ⟨(inT4 (w := Cond.codeWith yL_turnByRepeating cL_turnByRepeating 4 (some .int) [(0, 9, 12, 21)]) 191 rfl rfl), (inT1 (w := Cond.initialized RL) 0 rfl rfl), by decide, by decide +kernel, (inT4 (w := Cond.static yL_turnByRepeating) 190 rfl rfl)⟩
theorem WL_turnByRepeating {g : Gn} {J : DJ} {Q : Option Value → DJ → Prop} {X : String → DJ → Prop} {d' kc' ks' : Nat} {x1 : Int32} (h : SJ g mX10_turnByRepeating d' kc' ks' [.ref (g.2 0), .int x1] J Q X) (hd : d' ≤ 16) (hkc : kc' ≤ 1) (hks : ks' ≤ 6) (hQ : ∀ v J', Q v J' → ∃ r, v = some (.int r)) (hX : ∀ E J', X E J' → E ∈ [IOOBE]) : SHJ g mL_turnByRepeating hL_turnByRepeating 17 1 6 [.ref (g.2 0), .int x1, .ref (g.2 365)] J (WP [IOOBE] Q X) := by
  refine SHJ_of (by decide +kernel) (Nat.le_of_ble_eq_true rfl) ?_
  show HJ g mL_turnByRepeating hL_turnByRepeating 17 1 6 _ 0 [(0, .ref (g.2 0)), (1, .int x1), (2, .ref (g.2 365))] [] J
  refine H_aload_n 1 rfl dL_turnByRepeating_0 rfl ?_
  refine H_iconst 2 (nI 0) rfl dL_turnByRepeating_1 ic_0 ?_
  refine H_aload_n 3 rfl dL_turnByRepeating_2 rfl ?_
  refine H_iload_n 4 rfl dL_turnByRepeating_3 rfl ?_
  refine HJ_call (As := [_]) 7 rfl kalX10_turnByRepeating lkL_42 dL_turnByRepeating_4 rfl rfl rfl (by exact Nat.le_of_ble_eq_true rfl) (by omega) (by omega) (by omega) h (fun E J' q hx => ?_) (fun v J' q => ?_)
  · have hm := hX E J' hx
    by_cases c0 : E = IOOBE
    · subst c0
      refine ⟨12, ⟨[], (0, 9, 12, 21), [], rfl, fun z hz => absurd hz List.not_mem_nil, by decide, by decide, rfl, clL_21, inCast.2.2.1⟩, ?_⟩
      refine H_astore_n 13 rfl dL_turnByRepeating_12 rfl (by decide) ?_
      refine H_iconst 14 (nI 1) rfl dL_turnByRepeating_13 ic_1 ?_
      exact H_iret rfl dL_turnByRepeating_14 ⟨J', rfl, Or.inr ⟨_, hx, hm, rfl⟩⟩
    exact absurd hm (by
      intro hm2
      have hz : E = IOOBE := by simpa using hm2
      exact c0 hz)
  · obtain ⟨r, rfl⟩ := hQ v J' q
    refine H_i2l 8 _ rfl dL_turnByRepeating_7 rfl ?_
    refine HJ_last 9 rfl dL_turnByRepeating_8 ?_
    refine H_goto 15 (by decide) dL_turnByRepeating_9 ?_
    refine H_iconst 16 (nI 0) rfl dL_turnByRepeating_15 ic_0 ?_
    exact H_iret rfl dL_turnByRepeating_16 ⟨_, rfl, Or.inl ⟨J', _, q, rfl, rfl⟩⟩
abbrev mL_evenness : MI := (yL_evenness, cL_evenness, 4, some .int)
def hL_evenness : HH := [(0, 9, 12, 21)]
theorem kalL_evenness : CalH mL_evenness hL_evenness 3 := ⟨(inT4 (w := Cond.codeWith yL_evenness cL_evenness 4 (some .int) [(0, 9, 12, 21)]) 195 rfl rfl), (inT1 (w := Cond.initialized RL) 0 rfl rfl), by decide, by decide +kernel, (inT4 (w := Cond.static yL_evenness) 194 rfl rfl)⟩
theorem WL_evenness {g : Gn} {J : DJ} {Q : Option Value → DJ → Prop} {X : String → DJ → Prop} {d' kc' ks' : Nat} {x1 : Int32} (h : SJ g mX10_evenness d' kc' ks' [.ref (g.2 0), .int x1] J Q X) (hd : d' ≤ 16) (hkc : kc' ≤ 1) (hks : ks' ≤ 6) (hQ : ∀ v J', Q v J' → ∃ r, v = some (.int r)) (hX : ∀ E J', X E J' → E ∈ [IOOBE]) : SHJ g mL_evenness hL_evenness 17 1 6 [.ref (g.2 0), .int x1, .ref (g.2 365)] J (WP [IOOBE] Q X) := by
  refine SHJ_of (by decide +kernel) (Nat.le_of_ble_eq_true rfl) ?_
  show HJ g mL_evenness hL_evenness 17 1 6 _ 0 [(0, .ref (g.2 0)), (1, .int x1), (2, .ref (g.2 365))] [] J
  refine H_aload_n 1 rfl dL_evenness_0 rfl ?_
  refine H_iconst 2 (nI 0) rfl dL_evenness_1 ic_0 ?_
  refine H_aload_n 3 rfl dL_evenness_2 rfl ?_
  refine H_iload_n 4 rfl dL_evenness_3 rfl ?_
  refine HJ_call (As := [_]) 7 rfl kalX10_evenness lkL_45 dL_evenness_4 rfl rfl rfl (by exact Nat.le_of_ble_eq_true rfl) (by omega) (by omega) (by omega) h (fun E J' q hx => ?_) (fun v J' q => ?_)
  · have hm := hX E J' hx
    by_cases c0 : E = IOOBE
    · subst c0
      refine ⟨12, ⟨[], (0, 9, 12, 21), [], rfl, fun z hz => absurd hz List.not_mem_nil, by decide, by decide, rfl, clL_21, inCast.2.2.1⟩, ?_⟩
      refine H_astore_n 13 rfl dL_evenness_12 rfl (by decide) ?_
      refine H_iconst 14 (nI 1) rfl dL_evenness_13 ic_1 ?_
      exact H_iret rfl dL_evenness_14 ⟨J', rfl, Or.inr ⟨_, hx, hm, rfl⟩⟩
    exact absurd hm (by
      intro hm2
      have hz : E = IOOBE := by simpa using hm2
      exact c0 hz)
  · obtain ⟨r, rfl⟩ := hQ v J' q
    refine H_i2l 8 _ rfl dL_evenness_7 rfl ?_
    refine HJ_last 9 rfl dL_evenness_8 ?_
    refine H_goto 15 (by decide) dL_evenness_9 ?_
    refine H_iconst 16 (nI 0) rfl dL_evenness_15 ic_0 ?_
    exact H_iret rfl dL_evenness_16 ⟨_, rfl, Or.inl ⟨J', _, q, rfl, rfl⟩⟩
abbrev mL_evenOrders : MI := (yL_evenOrders, cL_evenOrders, 5, some .int)
def hL_evenOrders : HH := [(0, 10, 13, 21), (0, 10, 17, 13)]
theorem kalL_evenOrders : CalH mL_evenOrders hL_evenOrders 4 := ⟨(inT4 (w := Cond.codeWith yL_evenOrders cL_evenOrders 5 (some .int) [(0, 10, 13, 21), (0, 10, 17, 13)]) 208 rfl rfl), (inT1 (w := Cond.initialized RL) 0 rfl rfl), by decide, by decide +kernel, (inT4 (w := Cond.static yL_evenOrders) 207 rfl rfl)⟩
theorem WL_evenOrders {g : Gn} {J : DJ} {Q : Option Value → DJ → Prop} {X : String → DJ → Prop} {d' kc' ks' : Nat} {x1 x2 : Int32} (h : SJ g mX10_evenOrders d' kc' ks' [.ref (g.2 0), .int x1, .int x2] J Q X) (hd : d' ≤ 16) (hkc : kc' ≤ 1) (hks : ks' ≤ 6) (hQ : ∀ v J', Q v J' → ∃ r, v = some (.int r)) (hX : ∀ E J', X E J' → E ∈ [IOOBE, IAE]) : SHJ g mL_evenOrders hL_evenOrders 17 1 6 [.ref (g.2 0), .int x1, .int x2, .ref (g.2 365)] J (WP [IOOBE, IAE] Q X) := by
  refine SHJ_of (by decide +kernel) (Nat.le_of_ble_eq_true rfl) ?_
  show HJ g mL_evenOrders hL_evenOrders 17 1 6 _ 0 [(0, .ref (g.2 0)), (1, .int x1), (2, .int x2), (3, .ref (g.2 365))] [] J
  refine H_aload_n 1 rfl dL_evenOrders_0 rfl ?_
  refine H_iconst 2 (nI 0) rfl dL_evenOrders_1 ic_0 ?_
  refine H_aload_n 3 rfl dL_evenOrders_2 rfl ?_
  refine H_iload_n 4 rfl dL_evenOrders_3 rfl ?_
  refine H_iload_n 5 rfl dL_evenOrders_4 rfl ?_
  refine HJ_call (As := [_, _]) 8 rfl kalX10_evenOrders lkL_48 dL_evenOrders_5 rfl rfl rfl (by exact Nat.le_of_ble_eq_true rfl) (by omega) (by omega) (by omega) h (fun E J' q hx => ?_) (fun v J' q => ?_)
  · have hm := hX E J' hx
    by_cases c0 : E = IOOBE
    · subst c0
      refine ⟨13, ⟨[], (0, 10, 13, 21), [(0, 10, 17, 13)], rfl, fun z hz => absurd hz List.not_mem_nil, by decide, by decide, rfl, clL_21, inCast.2.2.1⟩, ?_⟩
      refine H_astore 15 rfl dL_evenOrders_13 (by decide) ?_
      refine H_iconst 16 (nI 1) rfl dL_evenOrders_15 ic_1 ?_
      exact H_iret rfl dL_evenOrders_16 ⟨J', rfl, Or.inr ⟨_, hx, hm, rfl⟩⟩
    by_cases c1 : E = IAE
    · subst c1
      refine ⟨17, ⟨[(0, 10, 13, 21)], (0, 10, 17, 13), [], rfl, fun z hz => ?_, by decide, by decide, rfl, clL_13, inCast.1⟩, ?_⟩
      · have hz2 : z = (0, 10, 13, 21) := by simpa using hz
        have e := hz2
        · subst e
          exact ⟨by decide, IOOBE, clL_21, by decide +kernel⟩
      · refine H_astore 19 rfl dL_evenOrders_17 (by decide) ?_
        refine H_iconst 20 (nI 2) rfl dL_evenOrders_19 ic_2 ?_
        exact H_iret rfl dL_evenOrders_20 ⟨J', rfl, Or.inr ⟨_, hx, hm, rfl⟩⟩
    exact absurd hm (by
      intro hm2
      have hz : E = IOOBE ∨ E = IAE := by simpa using hm2
      rcases hz with z | z
      · exact c0 z
      · exact c1 z)
  · obtain ⟨r, rfl⟩ := hQ v J' q
    refine H_i2l 9 _ rfl dL_evenOrders_8 rfl ?_
    refine HJ_last 10 rfl dL_evenOrders_9 ?_
    refine H_goto 21 (by decide) dL_evenOrders_10 ?_
    refine H_iconst 22 (nI 0) rfl dL_evenOrders_21 ic_0 ?_
    exact H_iret rfl dL_evenOrders_22 ⟨_, rfl, Or.inl ⟨J', _, q, rfl, rfl⟩⟩
abbrev mL_evenOrdersByTrying : MI := (yL_evenOrdersByTrying, cL_evenOrdersByTrying, 5, some .int)
def hL_evenOrdersByTrying : HH := [(0, 10, 13, 21), (0, 10, 17, 13)]
theorem kalL_evenOrdersByTrying : CalH mL_evenOrdersByTrying hL_evenOrdersByTrying 4 := ⟨(inT4 (w := Cond.codeWith yL_evenOrdersByTrying cL_evenOrdersByTrying 5 (some .int) [(0, 10, 13, 21), (0, 10, 17, 13)]) 212 rfl rfl), (inT1 (w := Cond.initialized RL) 0 rfl rfl), by decide, by decide +kernel, (inT4 (w := Cond.static yL_evenOrdersByTrying) 211 rfl rfl)⟩
theorem WL_evenOrdersByTrying {g : Gn} {J : DJ} {Q : Option Value → DJ → Prop} {X : String → DJ → Prop} {d' kc' ks' : Nat} {x1 x2 : Int32} (h : SJ g mX10_evenOrdersByTrying d' kc' ks' [.ref (g.2 0), .int x1, .int x2] J Q X) (hd : d' ≤ 16) (hkc : kc' ≤ 1) (hks : ks' ≤ 6) (hQ : ∀ v J', Q v J' → ∃ r, v = some (.int r)) (hX : ∀ E J', X E J' → E ∈ [IOOBE, IAE]) : SHJ g mL_evenOrdersByTrying hL_evenOrdersByTrying 17 1 6 [.ref (g.2 0), .int x1, .int x2, .ref (g.2 365)] J (WP [IOOBE, IAE] Q X) := by
  refine SHJ_of (by decide +kernel) (Nat.le_of_ble_eq_true rfl) ?_
  show HJ g mL_evenOrdersByTrying hL_evenOrdersByTrying 17 1 6 _ 0 [(0, .ref (g.2 0)), (1, .int x1), (2, .int x2), (3, .ref (g.2 365))] [] J
  refine H_aload_n 1 rfl dL_evenOrdersByTrying_0 rfl ?_
  refine H_iconst 2 (nI 0) rfl dL_evenOrdersByTrying_1 ic_0 ?_
  refine H_aload_n 3 rfl dL_evenOrdersByTrying_2 rfl ?_
  refine H_iload_n 4 rfl dL_evenOrdersByTrying_3 rfl ?_
  refine H_iload_n 5 rfl dL_evenOrdersByTrying_4 rfl ?_
  refine HJ_call (As := [_, _]) 8 rfl kalX10_evenOrdersByTrying lkL_51 dL_evenOrdersByTrying_5 rfl rfl rfl (by exact Nat.le_of_ble_eq_true rfl) (by omega) (by omega) (by omega) h (fun E J' q hx => ?_) (fun v J' q => ?_)
  · have hm := hX E J' hx
    by_cases c0 : E = IOOBE
    · subst c0
      refine ⟨13, ⟨[], (0, 10, 13, 21), [(0, 10, 17, 13)], rfl, fun z hz => absurd hz List.not_mem_nil, by decide, by decide, rfl, clL_21, inCast.2.2.1⟩, ?_⟩
      refine H_astore 15 rfl dL_evenOrdersByTrying_13 (by decide) ?_
      refine H_iconst 16 (nI 1) rfl dL_evenOrdersByTrying_15 ic_1 ?_
      exact H_iret rfl dL_evenOrdersByTrying_16 ⟨J', rfl, Or.inr ⟨_, hx, hm, rfl⟩⟩
    by_cases c1 : E = IAE
    · subst c1
      refine ⟨17, ⟨[(0, 10, 13, 21)], (0, 10, 17, 13), [], rfl, fun z hz => ?_, by decide, by decide, rfl, clL_13, inCast.1⟩, ?_⟩
      · have hz2 : z = (0, 10, 13, 21) := by simpa using hz
        have e := hz2
        · subst e
          exact ⟨by decide, IOOBE, clL_21, by decide +kernel⟩
      · refine H_astore 19 rfl dL_evenOrdersByTrying_17 (by decide) ?_
        refine H_iconst 20 (nI 2) rfl dL_evenOrdersByTrying_19 ic_2 ?_
        exact H_iret rfl dL_evenOrdersByTrying_20 ⟨J', rfl, Or.inr ⟨_, hx, hm, rfl⟩⟩
    exact absurd hm (by
      intro hm2
      have hz : E = IOOBE ∨ E = IAE := by simpa using hm2
      rcases hz with z | z
      · exact c0 z
      · exact c1 z)
  · obtain ⟨r, rfl⟩ := hQ v J' q
    refine H_i2l 9 _ rfl dL_evenOrdersByTrying_8 rfl ?_
    refine HJ_last 10 rfl dL_evenOrdersByTrying_9 ?_
    refine H_goto 21 (by decide) dL_evenOrdersByTrying_10 ?_
    refine H_iconst 22 (nI 0) rfl dL_evenOrdersByTrying_21 ic_0 ?_
    exact H_iret rfl dL_evenOrdersByTrying_22 ⟨_, rfl, Or.inl ⟨J', _, q, rfl, rfl⟩⟩
abbrev mL_run : MI := (yL_run, cL_run, 5, some .int)
def hL_run : HH := [(0, 10, 13, 21), (0, 10, 17, 13)]
theorem kalL_run : CalH mL_run hL_run 4 := ⟨(inT4 (w := Cond.codeWith yL_run cL_run 5 (some .int) [(0, 10, 13, 21), (0, 10, 17, 13)]) 216 rfl rfl), (inT1 (w := Cond.initialized RL) 0 rfl rfl), by decide, by decide +kernel, (inT4 (w := Cond.static yL_run) 215 rfl rfl)⟩
theorem WL_run {g : Gn} {J : DJ} {Q : Option Value → DJ → Prop} {X : String → DJ → Prop} {d' kc' ks' : Nat} {x1 x2 : Int32} (h : SJ g mX10_run d' kc' ks' [.ref (g.2 0), .int x1, .int x2] J Q X) (hd : d' ≤ 16) (hkc : kc' ≤ 1) (hks : ks' ≤ 6) (hQ : ∀ v J', Q v J' → ∃ r, v = some (.int r)) (hX : ∀ E J', X E J' → E ∈ [IOOBE, IAE]) : SHJ g mL_run hL_run 17 1 6 [.ref (g.2 0), .int x1, .int x2, .ref (g.2 365)] J (WP [IOOBE, IAE] Q X) := by
  refine SHJ_of (by decide +kernel) (Nat.le_of_ble_eq_true rfl) ?_
  show HJ g mL_run hL_run 17 1 6 _ 0 [(0, .ref (g.2 0)), (1, .int x1), (2, .int x2), (3, .ref (g.2 365))] [] J
  refine H_aload_n 1 rfl dL_run_0 rfl ?_
  refine H_iconst 2 (nI 0) rfl dL_run_1 ic_0 ?_
  refine H_aload_n 3 rfl dL_run_2 rfl ?_
  refine H_iload_n 4 rfl dL_run_3 rfl ?_
  refine H_iload_n 5 rfl dL_run_4 rfl ?_
  refine HJ_call (As := [_, _]) 8 rfl kalX10_run lkL_54 dL_run_5 rfl rfl rfl (by exact Nat.le_of_ble_eq_true rfl) (by omega) (by omega) (by omega) h (fun E J' q hx => ?_) (fun v J' q => ?_)
  · have hm := hX E J' hx
    by_cases c0 : E = IOOBE
    · subst c0
      refine ⟨13, ⟨[], (0, 10, 13, 21), [(0, 10, 17, 13)], rfl, fun z hz => absurd hz List.not_mem_nil, by decide, by decide, rfl, clL_21, inCast.2.2.1⟩, ?_⟩
      refine H_astore 15 rfl dL_run_13 (by decide) ?_
      refine H_iconst 16 (nI 1) rfl dL_run_15 ic_1 ?_
      exact H_iret rfl dL_run_16 ⟨J', rfl, Or.inr ⟨_, hx, hm, rfl⟩⟩
    by_cases c1 : E = IAE
    · subst c1
      refine ⟨17, ⟨[(0, 10, 13, 21)], (0, 10, 17, 13), [], rfl, fun z hz => ?_, by decide, by decide, rfl, clL_13, inCast.1⟩, ?_⟩
      · have hz2 : z = (0, 10, 13, 21) := by simpa using hz
        have e := hz2
        · subst e
          exact ⟨by decide, IOOBE, clL_21, by decide +kernel⟩
      · refine H_astore 19 rfl dL_run_17 (by decide) ?_
        refine H_iconst 20 (nI 2) rfl dL_run_19 ic_2 ?_
        exact H_iret rfl dL_run_20 ⟨J', rfl, Or.inr ⟨_, hx, hm, rfl⟩⟩
    exact absurd hm (by
      intro hm2
      have hz : E = IOOBE ∨ E = IAE := by simpa using hm2
      rcases hz with z | z
      · exact c0 z
      · exact c1 z)
  · obtain ⟨r, rfl⟩ := hQ v J' q
    refine H_i2l 9 _ rfl dL_run_8 rfl ?_
    refine HJ_last 10 rfl dL_run_9 ?_
    refine H_goto 21 (by decide) dL_run_10 ?_
    refine H_iconst 22 (nI 0) rfl dL_run_21 ic_0 ?_
    exact H_iret rfl dL_run_22 ⟨_, rfl, Or.inl ⟨J', _, q, rfl, rfl⟩⟩
abbrev mL_oil : MI := (yL_oil, cL_oil, 6, some .int)
def hL_oil : HH := [(0, 12, 15, 21), (0, 12, 19, 13), (0, 12, 23, 15)]
theorem kalL_oil : CalH mL_oil hL_oil 5 := ⟨(inT5 (w := Cond.codeWith yL_oil cL_oil 6 (some .int) [(0, 12, 15, 21), (0, 12, 19, 13), (0, 12, 23, 15)]) 7 rfl rfl), (inT1 (w := Cond.initialized RL) 0 rfl rfl), by decide, by decide +kernel, (inT5 (w := Cond.static yL_oil) 6 rfl rfl)⟩
theorem WL_oil {g : Gn} {J : DJ} {Q : Option Value → DJ → Prop} {X : String → DJ → Prop} {d' kc' ks' : Nat} {x1 x2 x3 : Int32} (h : SJ g mX10_oil d' kc' ks' [.ref (g.2 0), .int x1, .int x2, .int x3] J Q X) (hd : d' ≤ 16) (hkc : kc' ≤ 1) (hks : ks' ≤ 6) (hQ : ∀ v J', Q v J' → ∃ r, v = some (.int r)) (hX : ∀ E J', X E J' → E ∈ [IOOBE, IAE, ISE]) : SHJ g mL_oil hL_oil 17 1 6 [.ref (g.2 0), .int x1, .int x2, .int x3, .ref (g.2 365)] J (WP [IOOBE, IAE, ISE] Q X) := by
  refine SHJ_of (by decide +kernel) (Nat.le_of_ble_eq_true rfl) ?_
  show HJ g mL_oil hL_oil 17 1 6 _ 0 [(0, .ref (g.2 0)), (1, .int x1), (2, .int x2), (3, .int x3), (4, .ref (g.2 365))] [] J
  refine H_aload 2 rfl dL_oil_0 rfl ?_
  refine H_iconst 3 (nI 0) rfl dL_oil_2 ic_0 ?_
  refine H_aload_n 4 rfl dL_oil_3 rfl ?_
  refine H_iload_n 5 rfl dL_oil_4 rfl ?_
  refine H_iload_n 6 rfl dL_oil_5 rfl ?_
  refine H_iload_n 7 rfl dL_oil_6 rfl ?_
  refine HJ_call (As := [_, _, _]) 10 rfl kalX10_oil lkL_57 dL_oil_7 rfl rfl rfl (by exact Nat.le_of_ble_eq_true rfl) (by omega) (by omega) (by omega) h (fun E J' q hx => ?_) (fun v J' q => ?_)
  · have hm := hX E J' hx
    by_cases c0 : E = IOOBE
    · subst c0
      refine ⟨15, ⟨[], (0, 12, 15, 21), [(0, 12, 19, 13), (0, 12, 23, 15)], rfl, fun z hz => absurd hz List.not_mem_nil, by decide, by decide, rfl, clL_21, inCast.2.2.1⟩, ?_⟩
      refine H_astore 17 rfl dL_oil_15 (by decide) ?_
      refine H_iconst 18 (nI 1) rfl dL_oil_17 ic_1 ?_
      exact H_iret rfl dL_oil_18 ⟨J', rfl, Or.inr ⟨_, hx, hm, rfl⟩⟩
    by_cases c1 : E = IAE
    · subst c1
      refine ⟨19, ⟨[(0, 12, 15, 21)], (0, 12, 19, 13), [(0, 12, 23, 15)], rfl, fun z hz => ?_, by decide, by decide, rfl, clL_13, inCast.1⟩, ?_⟩
      · have hz2 : z = (0, 12, 15, 21) := by simpa using hz
        have e := hz2
        · subst e
          exact ⟨by decide, IOOBE, clL_21, by decide +kernel⟩
      · refine H_astore 21 rfl dL_oil_19 (by decide) ?_
        refine H_iconst 22 (nI 2) rfl dL_oil_21 ic_2 ?_
        exact H_iret rfl dL_oil_22 ⟨J', rfl, Or.inr ⟨_, hx, hm, rfl⟩⟩
    by_cases c2 : E = ISE
    · subst c2
      refine ⟨23, ⟨[(0, 12, 15, 21), (0, 12, 19, 13)], (0, 12, 23, 15), [], rfl, fun z hz => ?_, by decide, by decide, rfl, clL_15, inCast.2.1⟩, ?_⟩
      · have hz2 : z = (0, 12, 15, 21) ∨ z = (0, 12, 19, 13) := by simpa using hz
        rcases hz2 with e | e
        · subst e
          exact ⟨by decide, IOOBE, clL_21, by decide +kernel⟩
        · subst e
          exact ⟨by decide, IAE, clL_13, by decide +kernel⟩
      · refine H_astore 25 rfl dL_oil_23 (by decide) ?_
        refine H_iconst 26 (nI 3) rfl dL_oil_25 ic_3 ?_
        exact H_iret rfl dL_oil_26 ⟨J', rfl, Or.inr ⟨_, hx, hm, rfl⟩⟩
    exact absurd hm (by
      intro hm2
      have hz : E = IOOBE ∨ E = IAE ∨ E = ISE := by simpa using hm2
      rcases hz with z | z | z
      · exact c0 z
      · exact c1 z
      · exact c2 z)
  · obtain ⟨r, rfl⟩ := hQ v J' q
    refine H_i2l 11 _ rfl dL_oil_10 rfl ?_
    refine HJ_last 12 rfl dL_oil_11 ?_
    refine H_goto 27 (by decide) dL_oil_12 ?_
    refine H_iconst 28 (nI 0) rfl dL_oil_27 ic_0 ?_
    exact H_iret rfl dL_oil_28 ⟨_, rfl, Or.inl ⟨J', _, q, rfl, rfl⟩⟩
abbrev mL_oilDriest : MI := (yL_oilDriest, cL_oilDriest, 4, some .int)
def hL_oilDriest : HH := [(0, 9, 12, 13), (0, 9, 15, 15)]
theorem kalL_oilDriest : CalH mL_oilDriest hL_oilDriest 3 := ⟨(inT5 (w := Cond.codeWith yL_oilDriest cL_oilDriest 4 (some .int) [(0, 9, 12, 13), (0, 9, 15, 15)]) 22 rfl rfl), (inT1 (w := Cond.initialized RL) 0 rfl rfl), by decide, by decide +kernel, (inT5 (w := Cond.static yL_oilDriest) 21 rfl rfl)⟩
theorem WL_oilDriest {g : Gn} {J : DJ} {Q : Option Value → DJ → Prop} {X : String → DJ → Prop} {d' kc' ks' : Nat} {x1 : Int32} (h : SJ g mX10_oilDriest d' kc' ks' [.ref (g.2 0), .int x1] J Q X) (hd : d' ≤ 16) (hkc : kc' ≤ 1) (hks : ks' ≤ 6) (hQ : ∀ v J', Q v J' → ∃ r, v = some (.int r)) (hX : ∀ E J', X E J' → E ∈ [IAE, ISE]) : SHJ g mL_oilDriest hL_oilDriest 17 1 6 [.ref (g.2 0), .int x1, .ref (g.2 365)] J (WP [IAE, ISE] Q X) := by
  refine SHJ_of (by decide +kernel) (Nat.le_of_ble_eq_true rfl) ?_
  show HJ g mL_oilDriest hL_oilDriest 17 1 6 _ 0 [(0, .ref (g.2 0)), (1, .int x1), (2, .ref (g.2 365))] [] J
  refine H_aload_n 1 rfl dL_oilDriest_0 rfl ?_
  refine H_iconst 2 (nI 0) rfl dL_oilDriest_1 ic_0 ?_
  refine H_aload_n 3 rfl dL_oilDriest_2 rfl ?_
  refine H_iload_n 4 rfl dL_oilDriest_3 rfl ?_
  refine HJ_call (As := [_]) 7 rfl kalX10_oilDriest lkL_60 dL_oilDriest_4 rfl rfl rfl (by exact Nat.le_of_ble_eq_true rfl) (by omega) (by omega) (by omega) h (fun E J' q hx => ?_) (fun v J' q => ?_)
  · have hm := hX E J' hx
    by_cases c0 : E = IAE
    · subst c0
      refine ⟨12, ⟨[], (0, 9, 12, 13), [(0, 9, 15, 15)], rfl, fun z hz => absurd hz List.not_mem_nil, by decide, by decide, rfl, clL_13, inCast.1⟩, ?_⟩
      refine H_astore_n 13 rfl dL_oilDriest_12 rfl (by decide) ?_
      refine H_iconst 14 (nI 1) rfl dL_oilDriest_13 ic_1 ?_
      exact H_iret rfl dL_oilDriest_14 ⟨J', rfl, Or.inr ⟨_, hx, hm, rfl⟩⟩
    by_cases c1 : E = ISE
    · subst c1
      refine ⟨15, ⟨[(0, 9, 12, 13)], (0, 9, 15, 15), [], rfl, fun z hz => ?_, by decide, by decide, rfl, clL_15, inCast.2.1⟩, ?_⟩
      · have hz2 : z = (0, 9, 12, 13) := by simpa using hz
        have e := hz2
        · subst e
          exact ⟨by decide, IAE, clL_13, by decide +kernel⟩
      · refine H_astore_n 16 rfl dL_oilDriest_15 rfl (by decide) ?_
        refine H_iconst 17 (nI 2) rfl dL_oilDriest_16 ic_2 ?_
        exact H_iret rfl dL_oilDriest_17 ⟨J', rfl, Or.inr ⟨_, hx, hm, rfl⟩⟩
    exact absurd hm (by
      intro hm2
      have hz : E = IAE ∨ E = ISE := by simpa using hm2
      rcases hz with z | z
      · exact c0 z
      · exact c1 z)
  · obtain ⟨r, rfl⟩ := hQ v J' q
    refine H_i2l 8 _ rfl dL_oilDriest_7 rfl ?_
    refine HJ_last 9 rfl dL_oilDriest_8 ?_
    refine H_goto 18 (by decide) dL_oilDriest_9 ?_
    refine H_iconst 19 (nI 0) rfl dL_oilDriest_18 ic_0 ?_
    exact H_iret rfl dL_oilDriest_19 ⟨_, rfl, Or.inl ⟨J', _, q, rfl, rfl⟩⟩
abbrev mL_leastOilAfter : MI := (yL_leastOilAfter, cL_leastOilAfter, 4, some .int)
def hL_leastOilAfter : HH := [(0, 9, 12, 13), (0, 9, 15, 66)]
theorem kalL_leastOilAfter : CalH mL_leastOilAfter hL_leastOilAfter 3 := ⟨(inT5 (w := Cond.codeWith yL_leastOilAfter cL_leastOilAfter 4 (some .int) [(0, 9, 12, 13), (0, 9, 15, 66)]) 38 rfl rfl), (inT1 (w := Cond.initialized RL) 0 rfl rfl), by decide, by decide +kernel, (inT5 (w := Cond.static yL_leastOilAfter) 37 rfl rfl)⟩
theorem WL_leastOilAfter {g : Gn} {J : DJ} {Q : Option Value → DJ → Prop} {X : String → DJ → Prop} {d' kc' ks' : Nat} {x1 : Int32} (h : SJ g mX10_leastOilAfter d' kc' ks' [.ref (g.2 0), .int x1] J Q X) (hd : d' ≤ 16) (hkc : kc' ≤ 1) (hks : ks' ≤ 6) (hQ : ∀ v J', Q v J' → ∃ r, v = some (.int r)) (hX : ∀ E J', X E J' → E ∈ [IAE, NSEE]) : SHJ g mL_leastOilAfter hL_leastOilAfter 17 1 6 [.ref (g.2 0), .int x1, .ref (g.2 365)] J (WP [IAE, NSEE] Q X) := by
  refine SHJ_of (by decide +kernel) (Nat.le_of_ble_eq_true rfl) ?_
  show HJ g mL_leastOilAfter hL_leastOilAfter 17 1 6 _ 0 [(0, .ref (g.2 0)), (1, .int x1), (2, .ref (g.2 365))] [] J
  refine H_aload_n 1 rfl dL_leastOilAfter_0 rfl ?_
  refine H_iconst 2 (nI 0) rfl dL_leastOilAfter_1 ic_0 ?_
  refine H_aload_n 3 rfl dL_leastOilAfter_2 rfl ?_
  refine H_iload_n 4 rfl dL_leastOilAfter_3 rfl ?_
  refine HJ_call (As := [_]) 7 rfl kalX10_leastOilAfter lkL_63 dL_leastOilAfter_4 rfl rfl rfl (by exact Nat.le_of_ble_eq_true rfl) (by omega) (by omega) (by omega) h (fun E J' q hx => ?_) (fun v J' q => ?_)
  · have hm := hX E J' hx
    by_cases c0 : E = IAE
    · subst c0
      refine ⟨12, ⟨[], (0, 9, 12, 13), [(0, 9, 15, 66)], rfl, fun z hz => absurd hz List.not_mem_nil, by decide, by decide, rfl, clL_13, inCast.1⟩, ?_⟩
      refine H_astore_n 13 rfl dL_leastOilAfter_12 rfl (by decide) ?_
      refine H_iconst 14 (nI 1) rfl dL_leastOilAfter_13 ic_1 ?_
      exact H_iret rfl dL_leastOilAfter_14 ⟨J', rfl, Or.inr ⟨_, hx, hm, rfl⟩⟩
    by_cases c1 : E = NSEE
    · subst c1
      refine ⟨15, ⟨[(0, 9, 12, 13)], (0, 9, 15, 66), [], rfl, fun z hz => ?_, by decide, by decide, rfl, clL_66, inCast.2.2.2.1⟩, ?_⟩
      · have hz2 : z = (0, 9, 12, 13) := by simpa using hz
        have e := hz2
        · subst e
          exact ⟨by decide, IAE, clL_13, by decide +kernel⟩
      · refine H_astore_n 16 rfl dL_leastOilAfter_15 rfl (by decide) ?_
        refine H_iconst 17 (nI 2) rfl dL_leastOilAfter_16 ic_2 ?_
        exact H_iret rfl dL_leastOilAfter_17 ⟨J', rfl, Or.inr ⟨_, hx, hm, rfl⟩⟩
    exact absurd hm (by
      intro hm2
      have hz : E = IAE ∨ E = NSEE := by simpa using hm2
      rcases hz with z | z
      · exact c0 z
      · exact c1 z)
  · obtain ⟨r, rfl⟩ := hQ v J' q
    refine H_i2l 8 _ rfl dL_leastOilAfter_7 rfl ?_
    refine HJ_last 9 rfl dL_leastOilAfter_8 ?_
    refine H_goto 18 (by decide) dL_leastOilAfter_9 ?_
    refine H_iconst 19 (nI 0) rfl dL_leastOilAfter_18 ic_0 ?_
    exact H_iret rfl dL_leastOilAfter_19 ⟨_, rfl, Or.inl ⟨J', _, q, rfl, rfl⟩⟩
abbrev mL_leastOilAfterByGiving : MI := (yL_leastOilAfterByGiving, cL_leastOilAfterByGiving, 4, some .int)
def hL_leastOilAfterByGiving : HH := [(0, 9, 12, 13), (0, 9, 15, 66)]
theorem kalL_leastOilAfterByGiving : CalH mL_leastOilAfterByGiving hL_leastOilAfterByGiving 3 := ⟨(inT5 (w := Cond.codeWith yL_leastOilAfterByGiving cL_leastOilAfterByGiving 4 (some .int) [(0, 9, 12, 13), (0, 9, 15, 66)]) 43 rfl rfl), (inT1 (w := Cond.initialized RL) 0 rfl rfl), by decide, by decide +kernel, (inT5 (w := Cond.static yL_leastOilAfterByGiving) 42 rfl rfl)⟩
theorem WL_leastOilAfterByGiving {g : Gn} {J : DJ} {Q : Option Value → DJ → Prop} {X : String → DJ → Prop} {d' kc' ks' : Nat} {x1 : Int32} (h : SJ g mX10_leastOilAfterByGiving d' kc' ks' [.ref (g.2 0), .int x1] J Q X) (hd : d' ≤ 16) (hkc : kc' ≤ 1) (hks : ks' ≤ 6) (hQ : ∀ v J', Q v J' → ∃ r, v = some (.int r)) (hX : ∀ E J', X E J' → E ∈ [IAE, NSEE]) : SHJ g mL_leastOilAfterByGiving hL_leastOilAfterByGiving 17 1 6 [.ref (g.2 0), .int x1, .ref (g.2 365)] J (WP [IAE, NSEE] Q X) := by
  refine SHJ_of (by decide +kernel) (Nat.le_of_ble_eq_true rfl) ?_
  show HJ g mL_leastOilAfterByGiving hL_leastOilAfterByGiving 17 1 6 _ 0 [(0, .ref (g.2 0)), (1, .int x1), (2, .ref (g.2 365))] [] J
  refine H_aload_n 1 rfl dL_leastOilAfterByGiving_0 rfl ?_
  refine H_iconst 2 (nI 0) rfl dL_leastOilAfterByGiving_1 ic_0 ?_
  refine H_aload_n 3 rfl dL_leastOilAfterByGiving_2 rfl ?_
  refine H_iload_n 4 rfl dL_leastOilAfterByGiving_3 rfl ?_
  refine HJ_call (As := [_]) 7 rfl kalX10_leastOilAfterByGiving lkL_68 dL_leastOilAfterByGiving_4 rfl rfl rfl (by exact Nat.le_of_ble_eq_true rfl) (by omega) (by omega) (by omega) h (fun E J' q hx => ?_) (fun v J' q => ?_)
  · have hm := hX E J' hx
    by_cases c0 : E = IAE
    · subst c0
      refine ⟨12, ⟨[], (0, 9, 12, 13), [(0, 9, 15, 66)], rfl, fun z hz => absurd hz List.not_mem_nil, by decide, by decide, rfl, clL_13, inCast.1⟩, ?_⟩
      refine H_astore_n 13 rfl dL_leastOilAfterByGiving_12 rfl (by decide) ?_
      refine H_iconst 14 (nI 1) rfl dL_leastOilAfterByGiving_13 ic_1 ?_
      exact H_iret rfl dL_leastOilAfterByGiving_14 ⟨J', rfl, Or.inr ⟨_, hx, hm, rfl⟩⟩
    by_cases c1 : E = NSEE
    · subst c1
      refine ⟨15, ⟨[(0, 9, 12, 13)], (0, 9, 15, 66), [], rfl, fun z hz => ?_, by decide, by decide, rfl, clL_66, inCast.2.2.2.1⟩, ?_⟩
      · have hz2 : z = (0, 9, 12, 13) := by simpa using hz
        have e := hz2
        · subst e
          exact ⟨by decide, IAE, clL_13, by decide +kernel⟩
      · refine H_astore_n 16 rfl dL_leastOilAfterByGiving_15 rfl (by decide) ?_
        refine H_iconst 17 (nI 2) rfl dL_leastOilAfterByGiving_16 ic_2 ?_
        exact H_iret rfl dL_leastOilAfterByGiving_17 ⟨J', rfl, Or.inr ⟨_, hx, hm, rfl⟩⟩
    exact absurd hm (by
      intro hm2
      have hz : E = IAE ∨ E = NSEE := by simpa using hm2
      rcases hz with z | z
      · exact c0 z
      · exact c1 z)
  · obtain ⟨r, rfl⟩ := hQ v J' q
    refine H_i2l 8 _ rfl dL_leastOilAfterByGiving_7 rfl ?_
    refine HJ_last 9 rfl dL_leastOilAfterByGiving_8 ?_
    refine H_goto 18 (by decide) dL_leastOilAfterByGiving_9 ?_
    refine H_iconst 19 (nI 0) rfl dL_leastOilAfterByGiving_18 ic_0 ?_
    exact H_iret rfl dL_leastOilAfterByGiving_19 ⟨_, rfl, Or.inl ⟨J', _, q, rfl, rfl⟩⟩
abbrev mL_buyOil : MI := (yL_buyOil, cL_buyOil, 4, some .int)
def hL_buyOil : HH := [(0, 9, 12, 13), (0, 9, 15, 15)]
theorem kalL_buyOil : CalH mL_buyOil hL_buyOil 3 := ⟨(inT5 (w := Cond.codeWith yL_buyOil cL_buyOil 4 (some .int) [(0, 9, 12, 13), (0, 9, 15, 15)]) 47 rfl rfl), (inT1 (w := Cond.initialized RL) 0 rfl rfl), by decide, by decide +kernel, (inT5 (w := Cond.static yL_buyOil) 46 rfl rfl)⟩
theorem WL_buyOil {g : Gn} {J : DJ} {Q : Option Value → DJ → Prop} {X : String → DJ → Prop} {d' kc' ks' : Nat} {x1 : Int32} (h : SJ g mX10_buyOil d' kc' ks' [.ref (g.2 0), .int x1] J Q X) (hd : d' ≤ 16) (hkc : kc' ≤ 1) (hks : ks' ≤ 6) (hQ : ∀ v J', Q v J' → ∃ r, v = some (.int r)) (hX : ∀ E J', X E J' → E ∈ [IAE, ISE]) : SHJ g mL_buyOil hL_buyOil 17 1 6 [.ref (g.2 0), .int x1, .ref (g.2 365)] J (WP [IAE, ISE] Q X) := by
  refine SHJ_of (by decide +kernel) (Nat.le_of_ble_eq_true rfl) ?_
  show HJ g mL_buyOil hL_buyOil 17 1 6 _ 0 [(0, .ref (g.2 0)), (1, .int x1), (2, .ref (g.2 365))] [] J
  refine H_aload_n 1 rfl dL_buyOil_0 rfl ?_
  refine H_iconst 2 (nI 0) rfl dL_buyOil_1 ic_0 ?_
  refine H_aload_n 3 rfl dL_buyOil_2 rfl ?_
  refine H_iload_n 4 rfl dL_buyOil_3 rfl ?_
  refine HJ_call (As := [_]) 7 rfl kalX10_buyOil lkL_71 dL_buyOil_4 rfl rfl rfl (by exact Nat.le_of_ble_eq_true rfl) (by omega) (by omega) (by omega) h (fun E J' q hx => ?_) (fun v J' q => ?_)
  · have hm := hX E J' hx
    by_cases c0 : E = IAE
    · subst c0
      refine ⟨12, ⟨[], (0, 9, 12, 13), [(0, 9, 15, 15)], rfl, fun z hz => absurd hz List.not_mem_nil, by decide, by decide, rfl, clL_13, inCast.1⟩, ?_⟩
      refine H_astore_n 13 rfl dL_buyOil_12 rfl (by decide) ?_
      refine H_iconst 14 (nI 1) rfl dL_buyOil_13 ic_1 ?_
      exact H_iret rfl dL_buyOil_14 ⟨J', rfl, Or.inr ⟨_, hx, hm, rfl⟩⟩
    by_cases c1 : E = ISE
    · subst c1
      refine ⟨15, ⟨[(0, 9, 12, 13)], (0, 9, 15, 15), [], rfl, fun z hz => ?_, by decide, by decide, rfl, clL_15, inCast.2.1⟩, ?_⟩
      · have hz2 : z = (0, 9, 12, 13) := by simpa using hz
        have e := hz2
        · subst e
          exact ⟨by decide, IAE, clL_13, by decide +kernel⟩
      · refine H_astore_n 16 rfl dL_buyOil_15 rfl (by decide) ?_
        refine H_iconst 17 (nI 2) rfl dL_buyOil_16 ic_2 ?_
        exact H_iret rfl dL_buyOil_17 ⟨J', rfl, Or.inr ⟨_, hx, hm, rfl⟩⟩
    exact absurd hm (by
      intro hm2
      have hz : E = IAE ∨ E = ISE := by simpa using hm2
      rcases hz with z | z
      · exact c0 z
      · exact c1 z)
  · obtain ⟨r, rfl⟩ := hQ v J' q
    refine H_i2l 8 _ rfl dL_buyOil_7 rfl ?_
    refine HJ_last 9 rfl dL_buyOil_8 ?_
    refine H_goto 18 (by decide) dL_buyOil_9 ?_
    refine H_iconst 19 (nI 0) rfl dL_buyOil_18 ic_0 ?_
    exact H_iret rfl dL_buyOil_19 ⟨_, rfl, Or.inl ⟨J', _, q, rfl, rfl⟩⟩
abbrev mL_oilOf : MI := (yL_oilOf, cL_oilOf, 5, some .int)
def hL_oilOf : HH := [(0, 10, 13, 21)]
theorem kalL_oilOf : CalH mL_oilOf hL_oilOf 4 := ⟨(inT5 (w := Cond.codeWith yL_oilOf cL_oilOf 5 (some .int) [(0, 10, 13, 21)]) 62 rfl rfl), (inT1 (w := Cond.initialized RL) 0 rfl rfl), by decide, by decide +kernel, (inT5 (w := Cond.static yL_oilOf) 61 rfl rfl)⟩
theorem WL_oilOf {g : Gn} {J : DJ} {Q : Option Value → DJ → Prop} {X : String → DJ → Prop} {d' kc' ks' : Nat} {x1 x2 : Int32} (h : SJ g mX10_oilOf d' kc' ks' [.ref (g.2 0), .int x1, .int x2] J Q X) (hd : d' ≤ 16) (hkc : kc' ≤ 1) (hks : ks' ≤ 6) (hQ : ∀ v J', Q v J' → ∃ r, v = some (.int r)) (hX : ∀ E J', X E J' → E ∈ [IOOBE]) : SHJ g mL_oilOf hL_oilOf 17 1 6 [.ref (g.2 0), .int x1, .int x2, .ref (g.2 365)] J (WP [IOOBE] Q X) := by
  refine SHJ_of (by decide +kernel) (Nat.le_of_ble_eq_true rfl) ?_
  show HJ g mL_oilOf hL_oilOf 17 1 6 _ 0 [(0, .ref (g.2 0)), (1, .int x1), (2, .int x2), (3, .ref (g.2 365))] [] J
  refine H_aload_n 1 rfl dL_oilOf_0 rfl ?_
  refine H_iconst 2 (nI 0) rfl dL_oilOf_1 ic_0 ?_
  refine H_aload_n 3 rfl dL_oilOf_2 rfl ?_
  refine H_iload_n 4 rfl dL_oilOf_3 rfl ?_
  refine H_iload_n 5 rfl dL_oilOf_4 rfl ?_
  refine HJ_call (As := [_, _]) 8 rfl kalX10_oilOf lkL_74 dL_oilOf_5 rfl rfl rfl (by exact Nat.le_of_ble_eq_true rfl) (by omega) (by omega) (by omega) h (fun E J' q hx => ?_) (fun v J' q => ?_)
  · have hm := hX E J' hx
    by_cases c0 : E = IOOBE
    · subst c0
      refine ⟨13, ⟨[], (0, 10, 13, 21), [], rfl, fun z hz => absurd hz List.not_mem_nil, by decide, by decide, rfl, clL_21, inCast.2.2.1⟩, ?_⟩
      refine H_astore 15 rfl dL_oilOf_13 (by decide) ?_
      refine H_iconst 16 (nI 1) rfl dL_oilOf_15 ic_1 ?_
      exact H_iret rfl dL_oilOf_16 ⟨J', rfl, Or.inr ⟨_, hx, hm, rfl⟩⟩
    exact absurd hm (by
      intro hm2
      have hz : E = IOOBE := by simpa using hm2
      exact c0 hz)
  · obtain ⟨r, rfl⟩ := hQ v J' q
    refine H_i2l 9 _ rfl dL_oilOf_8 rfl ?_
    refine HJ_last 10 rfl dL_oilOf_9 ?_
    refine H_goto 17 (by decide) dL_oilOf_10 ?_
    refine H_iconst 18 (nI 0) rfl dL_oilOf_17 ic_0 ?_
    exact H_iret rfl dL_oilOf_18 ⟨_, rfl, Or.inl ⟨J', _, q, rfl, rfl⟩⟩
abbrev mL_wearOf : MI := (yL_wearOf, cL_wearOf, 5, some .int)
def hL_wearOf : HH := [(0, 10, 13, 21)]
theorem kalL_wearOf : CalH mL_wearOf hL_wearOf 4 := ⟨(inT5 (w := Cond.codeWith yL_wearOf cL_wearOf 5 (some .int) [(0, 10, 13, 21)]) 69 rfl rfl), (inT1 (w := Cond.initialized RL) 0 rfl rfl), by decide, by decide +kernel, (inT5 (w := Cond.static yL_wearOf) 68 rfl rfl)⟩
theorem WL_wearOf {g : Gn} {J : DJ} {Q : Option Value → DJ → Prop} {X : String → DJ → Prop} {d' kc' ks' : Nat} {x1 x2 : Int32} (h : SJ g mX10_wearOf d' kc' ks' [.ref (g.2 0), .int x1, .int x2] J Q X) (hd : d' ≤ 16) (hkc : kc' ≤ 1) (hks : ks' ≤ 6) (hQ : ∀ v J', Q v J' → ∃ r, v = some (.int r)) (hX : ∀ E J', X E J' → E ∈ [IOOBE]) : SHJ g mL_wearOf hL_wearOf 17 1 6 [.ref (g.2 0), .int x1, .int x2, .ref (g.2 365)] J (WP [IOOBE] Q X) := by
  refine SHJ_of (by decide +kernel) (Nat.le_of_ble_eq_true rfl) ?_
  show HJ g mL_wearOf hL_wearOf 17 1 6 _ 0 [(0, .ref (g.2 0)), (1, .int x1), (2, .int x2), (3, .ref (g.2 365))] [] J
  refine H_aload_n 1 rfl dL_wearOf_0 rfl ?_
  refine H_iconst 2 (nI 0) rfl dL_wearOf_1 ic_0 ?_
  refine H_aload_n 3 rfl dL_wearOf_2 rfl ?_
  refine H_iload_n 4 rfl dL_wearOf_3 rfl ?_
  refine H_iload_n 5 rfl dL_wearOf_4 rfl ?_
  refine HJ_call (As := [_, _]) 8 rfl kalX10_wearOf lkL_77 dL_wearOf_5 rfl rfl rfl (by exact Nat.le_of_ble_eq_true rfl) (by omega) (by omega) (by omega) h (fun E J' q hx => ?_) (fun v J' q => ?_)
  · have hm := hX E J' hx
    by_cases c0 : E = IOOBE
    · subst c0
      refine ⟨13, ⟨[], (0, 10, 13, 21), [], rfl, fun z hz => absurd hz List.not_mem_nil, by decide, by decide, rfl, clL_21, inCast.2.2.1⟩, ?_⟩
      refine H_astore 15 rfl dL_wearOf_13 (by decide) ?_
      refine H_iconst 16 (nI 1) rfl dL_wearOf_15 ic_1 ?_
      exact H_iret rfl dL_wearOf_16 ⟨J', rfl, Or.inr ⟨_, hx, hm, rfl⟩⟩
    exact absurd hm (by
      intro hm2
      have hz : E = IOOBE := by simpa using hm2
      exact c0 hz)
  · obtain ⟨r, rfl⟩ := hQ v J' q
    refine H_i2l 9 _ rfl dL_wearOf_8 rfl ?_
    refine HJ_last 10 rfl dL_wearOf_9 ?_
    refine H_goto 17 (by decide) dL_wearOf_10 ?_
    refine H_iconst 18 (nI 0) rfl dL_wearOf_17 ic_0 ?_
    exact H_iret rfl dL_wearOf_18 ⟨_, rfl, Or.inl ⟨J', _, q, rfl, rfl⟩⟩
abbrev mL_knockCount : MI := (yL_knockCount, cL_knockCount, 4, some .int)
def hL_knockCount : HH := [(0, 9, 12, 21)]
theorem kalL_knockCount : CalH mL_knockCount hL_knockCount 3 := ⟨(inT5 (w := Cond.codeWith yL_knockCount cL_knockCount 4 (some .int) [(0, 9, 12, 21)]) 76 rfl rfl), (inT1 (w := Cond.initialized RL) 0 rfl rfl), by decide, by decide +kernel, (inT5 (w := Cond.static yL_knockCount) 75 rfl rfl)⟩
theorem WL_knockCount {g : Gn} {J : DJ} {Q : Option Value → DJ → Prop} {X : String → DJ → Prop} {d' kc' ks' : Nat} {x1 : Int32} (h : SJ g mX10_knockCount d' kc' ks' [.ref (g.2 0), .int x1] J Q X) (hd : d' ≤ 16) (hkc : kc' ≤ 1) (hks : ks' ≤ 6) (hQ : ∀ v J', Q v J' → ∃ r, v = some (.int r)) (hX : ∀ E J', X E J' → E ∈ [IOOBE]) : SHJ g mL_knockCount hL_knockCount 17 1 6 [.ref (g.2 0), .int x1, .ref (g.2 365)] J (WP [IOOBE] Q X) := by
  refine SHJ_of (by decide +kernel) (Nat.le_of_ble_eq_true rfl) ?_
  show HJ g mL_knockCount hL_knockCount 17 1 6 _ 0 [(0, .ref (g.2 0)), (1, .int x1), (2, .ref (g.2 365))] [] J
  refine H_aload_n 1 rfl dL_knockCount_0 rfl ?_
  refine H_iconst 2 (nI 0) rfl dL_knockCount_1 ic_0 ?_
  refine H_aload_n 3 rfl dL_knockCount_2 rfl ?_
  refine H_iload_n 4 rfl dL_knockCount_3 rfl ?_
  refine HJ_call (As := [_]) 7 rfl kalX10_knockCount lkL_80 dL_knockCount_4 rfl rfl rfl (by exact Nat.le_of_ble_eq_true rfl) (by omega) (by omega) (by omega) h (fun E J' q hx => ?_) (fun v J' q => ?_)
  · have hm := hX E J' hx
    by_cases c0 : E = IOOBE
    · subst c0
      refine ⟨12, ⟨[], (0, 9, 12, 21), [], rfl, fun z hz => absurd hz List.not_mem_nil, by decide, by decide, rfl, clL_21, inCast.2.2.1⟩, ?_⟩
      refine H_astore_n 13 rfl dL_knockCount_12 rfl (by decide) ?_
      refine H_iconst 14 (nI 1) rfl dL_knockCount_13 ic_1 ?_
      exact H_iret rfl dL_knockCount_14 ⟨J', rfl, Or.inr ⟨_, hx, hm, rfl⟩⟩
    exact absurd hm (by
      intro hm2
      have hz : E = IOOBE := by simpa using hm2
      exact c0 hz)
  · obtain ⟨r, rfl⟩ := hQ v J' q
    refine H_i2l 8 _ rfl dL_knockCount_7 rfl ?_
    refine HJ_last 9 rfl dL_knockCount_8 ?_
    refine H_goto 15 (by decide) dL_knockCount_9 ?_
    refine H_iconst 16 (nI 0) rfl dL_knockCount_15 ic_0 ?_
    exact H_iret rfl dL_knockCount_16 ⟨_, rfl, Or.inl ⟨J', _, q, rfl, rfl⟩⟩
abbrev mL_knockAt : MI := (yL_knockAt, cL_knockAt, 5, some .int)
def hL_knockAt : HH := [(0, 10, 13, 21), (0, 10, 17, 66)]
theorem kalL_knockAt : CalH mL_knockAt hL_knockAt 4 := ⟨(inT5 (w := Cond.codeWith yL_knockAt cL_knockAt 5 (some .int) [(0, 10, 13, 21), (0, 10, 17, 66)]) 80 rfl rfl), (inT1 (w := Cond.initialized RL) 0 rfl rfl), by decide, by decide +kernel, (inT5 (w := Cond.static yL_knockAt) 79 rfl rfl)⟩
theorem WL_knockAt {g : Gn} {J : DJ} {Q : Option Value → DJ → Prop} {X : String → DJ → Prop} {d' kc' ks' : Nat} {x1 x2 : Int32} (h : SJ g mX10_knockAt d' kc' ks' [.ref (g.2 0), .int x1, .int x2] J Q X) (hd : d' ≤ 16) (hkc : kc' ≤ 1) (hks : ks' ≤ 6) (hQ : ∀ v J', Q v J' → ∃ r, v = some (.int r)) (hX : ∀ E J', X E J' → E ∈ [IOOBE, NSEE]) : SHJ g mL_knockAt hL_knockAt 17 1 6 [.ref (g.2 0), .int x1, .int x2, .ref (g.2 365)] J (WP [IOOBE, NSEE] Q X) := by
  refine SHJ_of (by decide +kernel) (Nat.le_of_ble_eq_true rfl) ?_
  show HJ g mL_knockAt hL_knockAt 17 1 6 _ 0 [(0, .ref (g.2 0)), (1, .int x1), (2, .int x2), (3, .ref (g.2 365))] [] J
  refine H_aload_n 1 rfl dL_knockAt_0 rfl ?_
  refine H_iconst 2 (nI 0) rfl dL_knockAt_1 ic_0 ?_
  refine H_aload_n 3 rfl dL_knockAt_2 rfl ?_
  refine H_iload_n 4 rfl dL_knockAt_3 rfl ?_
  refine H_iload_n 5 rfl dL_knockAt_4 rfl ?_
  refine HJ_call (As := [_, _]) 8 rfl kalX10_knockAt lkL_83 dL_knockAt_5 rfl rfl rfl (by exact Nat.le_of_ble_eq_true rfl) (by omega) (by omega) (by omega) h (fun E J' q hx => ?_) (fun v J' q => ?_)
  · have hm := hX E J' hx
    by_cases c0 : E = IOOBE
    · subst c0
      refine ⟨13, ⟨[], (0, 10, 13, 21), [(0, 10, 17, 66)], rfl, fun z hz => absurd hz List.not_mem_nil, by decide, by decide, rfl, clL_21, inCast.2.2.1⟩, ?_⟩
      refine H_astore 15 rfl dL_knockAt_13 (by decide) ?_
      refine H_iconst 16 (nI 1) rfl dL_knockAt_15 ic_1 ?_
      exact H_iret rfl dL_knockAt_16 ⟨J', rfl, Or.inr ⟨_, hx, hm, rfl⟩⟩
    by_cases c1 : E = NSEE
    · subst c1
      refine ⟨17, ⟨[(0, 10, 13, 21)], (0, 10, 17, 66), [], rfl, fun z hz => ?_, by decide, by decide, rfl, clL_66, inCast.2.2.2.1⟩, ?_⟩
      · have hz2 : z = (0, 10, 13, 21) := by simpa using hz
        have e := hz2
        · subst e
          exact ⟨by decide, IOOBE, clL_21, by decide +kernel⟩
      · refine H_astore 19 rfl dL_knockAt_17 (by decide) ?_
        refine H_iconst 20 (nI 2) rfl dL_knockAt_19 ic_2 ?_
        exact H_iret rfl dL_knockAt_20 ⟨J', rfl, Or.inr ⟨_, hx, hm, rfl⟩⟩
    exact absurd hm (by
      intro hm2
      have hz : E = IOOBE ∨ E = NSEE := by simpa using hm2
      rcases hz with z | z
      · exact c0 z
      · exact c1 z)
  · obtain ⟨r, rfl⟩ := hQ v J' q
    refine H_i2l 9 _ rfl dL_knockAt_8 rfl ?_
    refine HJ_last 10 rfl dL_knockAt_9 ?_
    refine H_goto 21 (by decide) dL_knockAt_10 ?_
    refine H_iconst 22 (nI 0) rfl dL_knockAt_21 ic_0 ?_
    exact H_iret rfl dL_knockAt_22 ⟨_, rfl, Or.inl ⟨J', _, q, rfl, rfl⟩⟩
abbrev mL_knockPeriod : MI := (yL_knockPeriod, cL_knockPeriod, 4, some .int)
def hL_knockPeriod : HH := [(0, 9, 12, 21), (0, 9, 15, 66)]
theorem kalL_knockPeriod : CalH mL_knockPeriod hL_knockPeriod 3 := ⟨(inT5 (w := Cond.codeWith yL_knockPeriod cL_knockPeriod 4 (some .int) [(0, 9, 12, 21), (0, 9, 15, 66)]) 88 rfl rfl), (inT1 (w := Cond.initialized RL) 0 rfl rfl), by decide, by decide +kernel, (inT5 (w := Cond.static yL_knockPeriod) 87 rfl rfl)⟩
theorem WL_knockPeriod {g : Gn} {J : DJ} {Q : Option Value → DJ → Prop} {X : String → DJ → Prop} {d' kc' ks' : Nat} {x1 : Int32} (h : SJ g mX10_knockPeriod d' kc' ks' [.ref (g.2 0), .int x1] J Q X) (hd : d' ≤ 16) (hkc : kc' ≤ 1) (hks : ks' ≤ 6) (hQ : ∀ v J', Q v J' → ∃ r, v = some (.int r)) (hX : ∀ E J', X E J' → E ∈ [IOOBE, NSEE]) : SHJ g mL_knockPeriod hL_knockPeriod 17 1 6 [.ref (g.2 0), .int x1, .ref (g.2 365)] J (WP [IOOBE, NSEE] Q X) := by
  refine SHJ_of (by decide +kernel) (Nat.le_of_ble_eq_true rfl) ?_
  show HJ g mL_knockPeriod hL_knockPeriod 17 1 6 _ 0 [(0, .ref (g.2 0)), (1, .int x1), (2, .ref (g.2 365))] [] J
  refine H_aload_n 1 rfl dL_knockPeriod_0 rfl ?_
  refine H_iconst 2 (nI 0) rfl dL_knockPeriod_1 ic_0 ?_
  refine H_aload_n 3 rfl dL_knockPeriod_2 rfl ?_
  refine H_iload_n 4 rfl dL_knockPeriod_3 rfl ?_
  refine HJ_call (As := [_]) 7 rfl kalX10_knockPeriod lkL_86 dL_knockPeriod_4 rfl rfl rfl (by exact Nat.le_of_ble_eq_true rfl) (by omega) (by omega) (by omega) h (fun E J' q hx => ?_) (fun v J' q => ?_)
  · have hm := hX E J' hx
    by_cases c0 : E = IOOBE
    · subst c0
      refine ⟨12, ⟨[], (0, 9, 12, 21), [(0, 9, 15, 66)], rfl, fun z hz => absurd hz List.not_mem_nil, by decide, by decide, rfl, clL_21, inCast.2.2.1⟩, ?_⟩
      refine H_astore_n 13 rfl dL_knockPeriod_12 rfl (by decide) ?_
      refine H_iconst 14 (nI 1) rfl dL_knockPeriod_13 ic_1 ?_
      exact H_iret rfl dL_knockPeriod_14 ⟨J', rfl, Or.inr ⟨_, hx, hm, rfl⟩⟩
    by_cases c1 : E = NSEE
    · subst c1
      refine ⟨15, ⟨[(0, 9, 12, 21)], (0, 9, 15, 66), [], rfl, fun z hz => ?_, by decide, by decide, rfl, clL_66, inCast.2.2.2.1⟩, ?_⟩
      · have hz2 : z = (0, 9, 12, 21) := by simpa using hz
        have e := hz2
        · subst e
          exact ⟨by decide, IOOBE, clL_21, by decide +kernel⟩
      · refine H_astore_n 16 rfl dL_knockPeriod_15 rfl (by decide) ?_
        refine H_iconst 17 (nI 2) rfl dL_knockPeriod_16 ic_2 ?_
        exact H_iret rfl dL_knockPeriod_17 ⟨J', rfl, Or.inr ⟨_, hx, hm, rfl⟩⟩
    exact absurd hm (by
      intro hm2
      have hz : E = IOOBE ∨ E = NSEE := by simpa using hm2
      rcases hz with z | z
      · exact c0 z
      · exact c1 z)
  · obtain ⟨r, rfl⟩ := hQ v J' q
    refine H_i2l 8 _ rfl dL_knockPeriod_7 rfl ?_
    refine HJ_last 9 rfl dL_knockPeriod_8 ?_
    refine H_goto 18 (by decide) dL_knockPeriod_9 ?_
    refine H_iconst 19 (nI 0) rfl dL_knockPeriod_18 ic_0 ?_
    exact H_iret rfl dL_knockPeriod_19 ⟨_, rfl, Or.inl ⟨J', _, q, rfl, rfl⟩⟩
abbrev mL_knockPeriodByTrying : MI := (yL_knockPeriodByTrying, cL_knockPeriodByTrying, 4, some .int)
def hL_knockPeriodByTrying : HH := [(0, 9, 12, 21), (0, 9, 15, 66)]
theorem kalL_knockPeriodByTrying : CalH mL_knockPeriodByTrying hL_knockPeriodByTrying 3 := ⟨(inT5 (w := Cond.codeWith yL_knockPeriodByTrying cL_knockPeriodByTrying 4 (some .int) [(0, 9, 12, 21), (0, 9, 15, 66)]) 92 rfl rfl), (inT1 (w := Cond.initialized RL) 0 rfl rfl), by decide, by decide +kernel, (inT5 (w := Cond.static yL_knockPeriodByTrying) 91 rfl rfl)⟩
theorem WL_knockPeriodByTrying {g : Gn} {J : DJ} {Q : Option Value → DJ → Prop} {X : String → DJ → Prop} {d' kc' ks' : Nat} {x1 : Int32} (h : SJ g mX10_knockPeriodByTrying d' kc' ks' [.ref (g.2 0), .int x1] J Q X) (hd : d' ≤ 16) (hkc : kc' ≤ 1) (hks : ks' ≤ 6) (hQ : ∀ v J', Q v J' → ∃ r, v = some (.int r)) (hX : ∀ E J', X E J' → E ∈ [IOOBE, NSEE]) : SHJ g mL_knockPeriodByTrying hL_knockPeriodByTrying 17 1 6 [.ref (g.2 0), .int x1, .ref (g.2 365)] J (WP [IOOBE, NSEE] Q X) := by
  refine SHJ_of (by decide +kernel) (Nat.le_of_ble_eq_true rfl) ?_
  show HJ g mL_knockPeriodByTrying hL_knockPeriodByTrying 17 1 6 _ 0 [(0, .ref (g.2 0)), (1, .int x1), (2, .ref (g.2 365))] [] J
  refine H_aload_n 1 rfl dL_knockPeriodByTrying_0 rfl ?_
  refine H_iconst 2 (nI 0) rfl dL_knockPeriodByTrying_1 ic_0 ?_
  refine H_aload_n 3 rfl dL_knockPeriodByTrying_2 rfl ?_
  refine H_iload_n 4 rfl dL_knockPeriodByTrying_3 rfl ?_
  refine HJ_call (As := [_]) 7 rfl kalX10_knockPeriodByTrying lkL_89 dL_knockPeriodByTrying_4 rfl rfl rfl (by exact Nat.le_of_ble_eq_true rfl) (by omega) (by omega) (by omega) h (fun E J' q hx => ?_) (fun v J' q => ?_)
  · have hm := hX E J' hx
    by_cases c0 : E = IOOBE
    · subst c0
      refine ⟨12, ⟨[], (0, 9, 12, 21), [(0, 9, 15, 66)], rfl, fun z hz => absurd hz List.not_mem_nil, by decide, by decide, rfl, clL_21, inCast.2.2.1⟩, ?_⟩
      refine H_astore_n 13 rfl dL_knockPeriodByTrying_12 rfl (by decide) ?_
      refine H_iconst 14 (nI 1) rfl dL_knockPeriodByTrying_13 ic_1 ?_
      exact H_iret rfl dL_knockPeriodByTrying_14 ⟨J', rfl, Or.inr ⟨_, hx, hm, rfl⟩⟩
    by_cases c1 : E = NSEE
    · subst c1
      refine ⟨15, ⟨[(0, 9, 12, 21)], (0, 9, 15, 66), [], rfl, fun z hz => ?_, by decide, by decide, rfl, clL_66, inCast.2.2.2.1⟩, ?_⟩
      · have hz2 : z = (0, 9, 12, 21) := by simpa using hz
        have e := hz2
        · subst e
          exact ⟨by decide, IOOBE, clL_21, by decide +kernel⟩
      · refine H_astore_n 16 rfl dL_knockPeriodByTrying_15 rfl (by decide) ?_
        refine H_iconst 17 (nI 2) rfl dL_knockPeriodByTrying_16 ic_2 ?_
        exact H_iret rfl dL_knockPeriodByTrying_17 ⟨J', rfl, Or.inr ⟨_, hx, hm, rfl⟩⟩
    exact absurd hm (by
      intro hm2
      have hz : E = IOOBE ∨ E = NSEE := by simpa using hm2
      rcases hz with z | z
      · exact c0 z
      · exact c1 z)
  · obtain ⟨r, rfl⟩ := hQ v J' q
    refine H_i2l 8 _ rfl dL_knockPeriodByTrying_7 rfl ?_
    refine HJ_last 9 rfl dL_knockPeriodByTrying_8 ?_
    refine H_goto 18 (by decide) dL_knockPeriodByTrying_9 ?_
    refine H_iconst 19 (nI 0) rfl dL_knockPeriodByTrying_18 ic_0 ?_
    exact H_iret rfl dL_knockPeriodByTrying_19 ⟨_, rfl, Or.inl ⟨J', _, q, rfl, rfl⟩⟩
abbrev mL_engineAtRank : MI := (yL_engineAtRank, cL_engineAtRank, 4, some .int)
def hL_engineAtRank : HH := [(0, 9, 12, 66)]
theorem kalL_engineAtRank : CalH mL_engineAtRank hL_engineAtRank 3 := ⟨(inT5 (w := Cond.codeWith yL_engineAtRank cL_engineAtRank 4 (some .int) [(0, 9, 12, 66)]) 96 rfl rfl), (inT1 (w := Cond.initialized RL) 0 rfl rfl), by decide, by decide +kernel, (inT5 (w := Cond.static yL_engineAtRank) 95 rfl rfl)⟩
theorem WL_engineAtRank {g : Gn} {J : DJ} {Q : Option Value → DJ → Prop} {X : String → DJ → Prop} {d' kc' ks' : Nat} {x1 : Int32} (h : SJ g mX10_engineAtRank d' kc' ks' [.ref (g.2 0), .int x1] J Q X) (hd : d' ≤ 16) (hkc : kc' ≤ 1) (hks : ks' ≤ 6) (hQ : ∀ v J', Q v J' → ∃ r, v = some (.int r)) (hX : ∀ E J', X E J' → E ∈ [NSEE]) : SHJ g mL_engineAtRank hL_engineAtRank 17 1 6 [.ref (g.2 0), .int x1, .ref (g.2 365)] J (WP [NSEE] Q X) := by
  refine SHJ_of (by decide +kernel) (Nat.le_of_ble_eq_true rfl) ?_
  show HJ g mL_engineAtRank hL_engineAtRank 17 1 6 _ 0 [(0, .ref (g.2 0)), (1, .int x1), (2, .ref (g.2 365))] [] J
  refine H_aload_n 1 rfl dL_engineAtRank_0 rfl ?_
  refine H_iconst 2 (nI 0) rfl dL_engineAtRank_1 ic_0 ?_
  refine H_aload_n 3 rfl dL_engineAtRank_2 rfl ?_
  refine H_iload_n 4 rfl dL_engineAtRank_3 rfl ?_
  refine HJ_call (As := [_]) 7 rfl kalX10_engineAtRank lkL_92 dL_engineAtRank_4 rfl rfl rfl (by exact Nat.le_of_ble_eq_true rfl) (by omega) (by omega) (by omega) h (fun E J' q hx => ?_) (fun v J' q => ?_)
  · have hm := hX E J' hx
    by_cases c0 : E = NSEE
    · subst c0
      refine ⟨12, ⟨[], (0, 9, 12, 66), [], rfl, fun z hz => absurd hz List.not_mem_nil, by decide, by decide, rfl, clL_66, inCast.2.2.2.1⟩, ?_⟩
      refine H_astore_n 13 rfl dL_engineAtRank_12 rfl (by decide) ?_
      refine H_iconst 14 (nI 1) rfl dL_engineAtRank_13 ic_1 ?_
      exact H_iret rfl dL_engineAtRank_14 ⟨J', rfl, Or.inr ⟨_, hx, hm, rfl⟩⟩
    exact absurd hm (by
      intro hm2
      have hz : E = NSEE := by simpa using hm2
      exact c0 hz)
  · obtain ⟨r, rfl⟩ := hQ v J' q
    refine H_i2l 8 _ rfl dL_engineAtRank_7 rfl ?_
    refine HJ_last 9 rfl dL_engineAtRank_8 ?_
    refine H_goto 15 (by decide) dL_engineAtRank_9 ?_
    refine H_iconst 16 (nI 0) rfl dL_engineAtRank_15 ic_0 ?_
    exact H_iret rfl dL_engineAtRank_16 ⟨_, rfl, Or.inl ⟨J', _, q, rfl, rfl⟩⟩
abbrev mL_addMonk : MI := (yL_addMonk, cL_addMonk, 3, some .int)
def hL_addMonk : HH := [(0, 8, 11, 15)]
theorem kalL_addMonk : CalH mL_addMonk hL_addMonk 2 := ⟨(inT5 (w := Cond.codeWith yL_addMonk cL_addMonk 3 (some .int) [(0, 8, 11, 15)]) 111 rfl rfl), (inT1 (w := Cond.initialized RL) 0 rfl rfl), by decide, by decide +kernel, (inT5 (w := Cond.static yL_addMonk) 110 rfl rfl)⟩
theorem WL_addMonk {g : Gn} {J : DJ} {Q : Option Value → DJ → Prop} {X : String → DJ → Prop} {d' kc' ks' : Nat} (h : SJ g mX10_addMonk d' kc' ks' [.ref (g.2 0)] J Q X) (hd : d' ≤ 16) (hkc : kc' ≤ 1) (hks : ks' ≤ 6) (hQ : ∀ v J', Q v J' → ∃ r, v = some (.int r)) (hX : ∀ E J', X E J' → E ∈ [ISE]) : SHJ g mL_addMonk hL_addMonk 17 1 6 [.ref (g.2 0), .ref (g.2 365)] J (WP [ISE] Q X) := by
  refine SHJ_of (by decide +kernel) (Nat.le_of_ble_eq_true rfl) ?_
  show HJ g mL_addMonk hL_addMonk 17 1 6 _ 0 [(0, .ref (g.2 0)), (1, .ref (g.2 365))] [] J
  refine H_aload_n 1 rfl dL_addMonk_0 rfl ?_
  refine H_iconst 2 (nI 0) rfl dL_addMonk_1 ic_0 ?_
  refine H_aload_n 3 rfl dL_addMonk_2 rfl ?_
  refine HJ_call (As := []) 6 rfl kalX10_addMonk lkL_95 dL_addMonk_3 rfl rfl rfl (by exact Nat.le_of_ble_eq_true rfl) (by omega) (by omega) (by omega) h (fun E J' q hx => ?_) (fun v J' q => ?_)
  · have hm := hX E J' hx
    by_cases c0 : E = ISE
    · subst c0
      refine ⟨11, ⟨[], (0, 8, 11, 15), [], rfl, fun z hz => absurd hz List.not_mem_nil, by decide, by decide, rfl, clL_15, inCast.2.1⟩, ?_⟩
      refine H_astore_n 12 rfl dL_addMonk_11 rfl (by decide) ?_
      refine H_iconst 13 (nI 1) rfl dL_addMonk_12 ic_1 ?_
      exact H_iret rfl dL_addMonk_13 ⟨J', rfl, Or.inr ⟨_, hx, hm, rfl⟩⟩
    exact absurd hm (by
      intro hm2
      have hz : E = ISE := by simpa using hm2
      exact c0 hz)
  · obtain ⟨r, rfl⟩ := hQ v J' q
    refine H_i2l 7 _ rfl dL_addMonk_6 rfl ?_
    refine HJ_last 8 rfl dL_addMonk_7 ?_
    refine H_goto 14 (by decide) dL_addMonk_8 ?_
    refine H_iconst 15 (nI 0) rfl dL_addMonk_14 ic_0 ?_
    exact H_iret rfl dL_addMonk_15 ⟨_, rfl, Or.inl ⟨J', _, q, rfl, rfl⟩⟩
abbrev mL_setAble : MI := (yL_setAble, cL_setAble, 6, some .int)
def hL_setAble : HH := [(0, 19, 22, 21)]
theorem kalL_setAble : CalH mL_setAble hL_setAble 5 := ⟨(inT5 (w := Cond.codeWith yL_setAble cL_setAble 6 (some .int) [(0, 19, 22, 21)]) 126 rfl rfl), (inT1 (w := Cond.initialized RL) 0 rfl rfl), by decide, by decide +kernel, (inT5 (w := Cond.static yL_setAble) 125 rfl rfl)⟩
theorem WL_setAble {g : Gn} {J : DJ} {Q : Option Value → DJ → Prop} {X : String → DJ → Prop} {d' kc' ks' : Nat} {x1 x2 x3 : Int32} (h : SJ g mX10_setAble d' kc' ks' [.ref (g.2 0), .int x1, .int x2, .int x3] J Q X) (hd : d' ≤ 16) (hkc : kc' ≤ 1) (hks : ks' ≤ 6) (hQ : ∀ v J', Q v J' → ∃ r, r ≤ 1 ∧ v = some (.int (nI r))) (hX : ∀ E J', X E J' → E ∈ [IOOBE]) : SHJ g mL_setAble hL_setAble 17 1 6 [.ref (g.2 0), .int x1, .int x2, .int x3, .ref (g.2 365)] J (WP [IOOBE] Q X) := by
  refine SHJ_of (by decide +kernel) (Nat.le_of_ble_eq_true rfl) ?_
  show HJ g mL_setAble hL_setAble 17 1 6 _ 0 [(0, .ref (g.2 0)), (1, .int x1), (2, .int x2), (3, .int x3), (4, .ref (g.2 365))] [] J
  refine H_aload 2 rfl dL_setAble_0 rfl ?_
  refine H_iconst 3 (nI 0) rfl dL_setAble_2 ic_0 ?_
  refine H_aload_n 4 rfl dL_setAble_3 rfl ?_
  refine H_iload_n 5 rfl dL_setAble_4 rfl ?_
  refine H_iload_n 6 rfl dL_setAble_5 rfl ?_
  refine H_iload_n 7 rfl dL_setAble_6 rfl ?_
  refine HJ_call (As := [_, _, _]) 10 rfl kalX10_setAble lkL_99 dL_setAble_7 rfl rfl rfl (by exact Nat.le_of_ble_eq_true rfl) (by omega) (by omega) (by omega) h (fun E J' q hx => ?_) (fun v J' q => ?_)
  · have hm := hX E J' hx
    by_cases c0 : E = IOOBE
    · subst c0
      refine ⟨22, ⟨[], (0, 19, 22, 21), [], rfl, fun z hz => absurd hz List.not_mem_nil, by decide, by decide, rfl, clL_21, inCast.2.2.1⟩, ?_⟩
      refine H_astore 24 rfl dL_setAble_22 (by decide) ?_
      refine H_iconst 25 (nI 1) rfl dL_setAble_24 ic_1 ?_
      exact H_iret rfl dL_setAble_25 ⟨J', rfl, Or.inr ⟨_, hx, hm, rfl⟩⟩
    exact absurd hm (by
      intro hm2
      have hz : E = IOOBE := by simpa using hm2
      exact c0 hz)
  · obtain ⟨r, hr, rfl⟩ := hQ v J' q
    refine H_if_eq 17 13 (by decide) rfl dL_setAble_10 (fun c => ?_) (fun c => ?_)
    · have e : r = 0 := by
        rcases (show r = 0 ∨ r = 1 by omega) with z | z
        · exact z
        · rw [z] at c
          exact absurd c (by decide)
      subst e
      refine H_lconst 18 _ rfl dL_setAble_17 rfl ?_
      refine HJ_last 19 rfl dL_setAble_18 ?_
      refine H_goto 26 (by decide) dL_setAble_19 ?_
      refine H_iconst 27 (nI 0) rfl dL_setAble_26 ic_0 ?_
      exact H_iret rfl dL_setAble_27 ⟨_, rfl, Or.inl ⟨J', _, q, rfl, rfl⟩⟩
    · have e : r = 1 := by
        rcases (show r = 0 ∨ r = 1 by omega) with z | z
        · rw [z] at c
          exact absurd rfl c
        · exact z
      subst e
      refine H_lconst 14 _ rfl dL_setAble_13 rfl ?_
      refine H_goto 18 (by decide) dL_setAble_14 ?_
      refine HJ_last 19 rfl dL_setAble_18 ?_
      refine H_goto 26 (by decide) dL_setAble_19 ?_
      refine H_iconst 27 (nI 0) rfl dL_setAble_26 ic_0 ?_
      exact H_iret rfl dL_setAble_27 ⟨_, rfl, Or.inl ⟨J', _, q, rfl, rfl⟩⟩
abbrev mL_keeperOf : MI := (yL_keeperOf, cL_keeperOf, 4, some .int)
def hL_keeperOf : HH := [(0, 9, 12, 21), (0, 9, 15, 66)]
theorem kalL_keeperOf : CalH mL_keeperOf hL_keeperOf 3 := ⟨(inT5 (w := Cond.codeWith yL_keeperOf cL_keeperOf 4 (some .int) [(0, 9, 12, 21), (0, 9, 15, 66)]) 141 rfl rfl), (inT1 (w := Cond.initialized RL) 0 rfl rfl), by decide, by decide +kernel, (inT5 (w := Cond.static yL_keeperOf) 140 rfl rfl)⟩
theorem WL_keeperOf {g : Gn} {J : DJ} {Q : Option Value → DJ → Prop} {X : String → DJ → Prop} {d' kc' ks' : Nat} {x1 : Int32} (h : SJ g mX10_keeperOf d' kc' ks' [.ref (g.2 0), .int x1] J Q X) (hd : d' ≤ 16) (hkc : kc' ≤ 1) (hks : ks' ≤ 6) (hQ : ∀ v J', Q v J' → ∃ r, v = some (.int r)) (hX : ∀ E J', X E J' → E ∈ [IOOBE, NSEE]) : SHJ g mL_keeperOf hL_keeperOf 17 1 6 [.ref (g.2 0), .int x1, .ref (g.2 365)] J (WP [IOOBE, NSEE] Q X) := by
  refine SHJ_of (by decide +kernel) (Nat.le_of_ble_eq_true rfl) ?_
  show HJ g mL_keeperOf hL_keeperOf 17 1 6 _ 0 [(0, .ref (g.2 0)), (1, .int x1), (2, .ref (g.2 365))] [] J
  refine H_aload_n 1 rfl dL_keeperOf_0 rfl ?_
  refine H_iconst 2 (nI 0) rfl dL_keeperOf_1 ic_0 ?_
  refine H_aload_n 3 rfl dL_keeperOf_2 rfl ?_
  refine H_iload_n 4 rfl dL_keeperOf_3 rfl ?_
  refine HJ_call (As := [_]) 7 rfl kalX10_keeperOf lkL_103 dL_keeperOf_4 rfl rfl rfl (by exact Nat.le_of_ble_eq_true rfl) (by omega) (by omega) (by omega) h (fun E J' q hx => ?_) (fun v J' q => ?_)
  · have hm := hX E J' hx
    by_cases c0 : E = IOOBE
    · subst c0
      refine ⟨12, ⟨[], (0, 9, 12, 21), [(0, 9, 15, 66)], rfl, fun z hz => absurd hz List.not_mem_nil, by decide, by decide, rfl, clL_21, inCast.2.2.1⟩, ?_⟩
      refine H_astore_n 13 rfl dL_keeperOf_12 rfl (by decide) ?_
      refine H_iconst 14 (nI 1) rfl dL_keeperOf_13 ic_1 ?_
      exact H_iret rfl dL_keeperOf_14 ⟨J', rfl, Or.inr ⟨_, hx, hm, rfl⟩⟩
    by_cases c1 : E = NSEE
    · subst c1
      refine ⟨15, ⟨[(0, 9, 12, 21)], (0, 9, 15, 66), [], rfl, fun z hz => ?_, by decide, by decide, rfl, clL_66, inCast.2.2.2.1⟩, ?_⟩
      · have hz2 : z = (0, 9, 12, 21) := by simpa using hz
        have e := hz2
        · subst e
          exact ⟨by decide, IOOBE, clL_21, by decide +kernel⟩
      · refine H_astore_n 16 rfl dL_keeperOf_15 rfl (by decide) ?_
        refine H_iconst 17 (nI 2) rfl dL_keeperOf_16 ic_2 ?_
        exact H_iret rfl dL_keeperOf_17 ⟨J', rfl, Or.inr ⟨_, hx, hm, rfl⟩⟩
    exact absurd hm (by
      intro hm2
      have hz : E = IOOBE ∨ E = NSEE := by simpa using hm2
      rcases hz with z | z
      · exact c0 z
      · exact c1 z)
  · obtain ⟨r, rfl⟩ := hQ v J' q
    refine H_i2l 8 _ rfl dL_keeperOf_7 rfl ?_
    refine HJ_last 9 rfl dL_keeperOf_8 ?_
    refine H_goto 18 (by decide) dL_keeperOf_9 ?_
    refine H_iconst 19 (nI 0) rfl dL_keeperOf_18 ic_0 ?_
    exact H_iret rfl dL_keeperOf_19 ⟨_, rfl, Or.inl ⟨J', _, q, rfl, rfl⟩⟩
abbrev mL_addRepair : MI := (yL_addRepair, cL_addRepair, 6, some .int)
def hL_addRepair : HH := [(0, 12, 15, 21), (0, 12, 19, 13), (0, 12, 23, 15)]
theorem kalL_addRepair : CalH mL_addRepair hL_addRepair 5 := ⟨(inT5 (w := Cond.codeWith yL_addRepair cL_addRepair 6 (some .int) [(0, 12, 15, 21), (0, 12, 19, 13), (0, 12, 23, 15)]) 148 rfl rfl), (inT1 (w := Cond.initialized RL) 0 rfl rfl), by decide, by decide +kernel, (inT5 (w := Cond.static yL_addRepair) 147 rfl rfl)⟩
theorem WL_addRepair {g : Gn} {J : DJ} {Q : Option Value → DJ → Prop} {X : String → DJ → Prop} {d' kc' ks' : Nat} {x1 x2 x3 : Int32} (h : SJ g mX10_addRepair d' kc' ks' [.ref (g.2 0), .int x1, .int x2, .int x3] J Q X) (hd : d' ≤ 16) (hkc : kc' ≤ 1) (hks : ks' ≤ 6) (hQ : ∀ v J', Q v J' → ∃ r, v = some (.int r)) (hX : ∀ E J', X E J' → E ∈ [IOOBE, IAE, ISE]) : SHJ g mL_addRepair hL_addRepair 17 1 6 [.ref (g.2 0), .int x1, .int x2, .int x3, .ref (g.2 365)] J (WP [IOOBE, IAE, ISE] Q X) := by
  refine SHJ_of (by decide +kernel) (Nat.le_of_ble_eq_true rfl) ?_
  show HJ g mL_addRepair hL_addRepair 17 1 6 _ 0 [(0, .ref (g.2 0)), (1, .int x1), (2, .int x2), (3, .int x3), (4, .ref (g.2 365))] [] J
  refine H_aload 2 rfl dL_addRepair_0 rfl ?_
  refine H_iconst 3 (nI 0) rfl dL_addRepair_2 ic_0 ?_
  refine H_aload_n 4 rfl dL_addRepair_3 rfl ?_
  refine H_iload_n 5 rfl dL_addRepair_4 rfl ?_
  refine H_iload_n 6 rfl dL_addRepair_5 rfl ?_
  refine H_iload_n 7 rfl dL_addRepair_6 rfl ?_
  refine HJ_call (As := [_, _, _]) 10 rfl kalX10_addRepair lkL_106 dL_addRepair_7 rfl rfl rfl (by exact Nat.le_of_ble_eq_true rfl) (by omega) (by omega) (by omega) h (fun E J' q hx => ?_) (fun v J' q => ?_)
  · have hm := hX E J' hx
    by_cases c0 : E = IOOBE
    · subst c0
      refine ⟨15, ⟨[], (0, 12, 15, 21), [(0, 12, 19, 13), (0, 12, 23, 15)], rfl, fun z hz => absurd hz List.not_mem_nil, by decide, by decide, rfl, clL_21, inCast.2.2.1⟩, ?_⟩
      refine H_astore 17 rfl dL_addRepair_15 (by decide) ?_
      refine H_iconst 18 (nI 1) rfl dL_addRepair_17 ic_1 ?_
      exact H_iret rfl dL_addRepair_18 ⟨J', rfl, Or.inr ⟨_, hx, hm, rfl⟩⟩
    by_cases c1 : E = IAE
    · subst c1
      refine ⟨19, ⟨[(0, 12, 15, 21)], (0, 12, 19, 13), [(0, 12, 23, 15)], rfl, fun z hz => ?_, by decide, by decide, rfl, clL_13, inCast.1⟩, ?_⟩
      · have hz2 : z = (0, 12, 15, 21) := by simpa using hz
        have e := hz2
        · subst e
          exact ⟨by decide, IOOBE, clL_21, by decide +kernel⟩
      · refine H_astore 21 rfl dL_addRepair_19 (by decide) ?_
        refine H_iconst 22 (nI 2) rfl dL_addRepair_21 ic_2 ?_
        exact H_iret rfl dL_addRepair_22 ⟨J', rfl, Or.inr ⟨_, hx, hm, rfl⟩⟩
    by_cases c2 : E = ISE
    · subst c2
      refine ⟨23, ⟨[(0, 12, 15, 21), (0, 12, 19, 13)], (0, 12, 23, 15), [], rfl, fun z hz => ?_, by decide, by decide, rfl, clL_15, inCast.2.1⟩, ?_⟩
      · have hz2 : z = (0, 12, 15, 21) ∨ z = (0, 12, 19, 13) := by simpa using hz
        rcases hz2 with e | e
        · subst e
          exact ⟨by decide, IOOBE, clL_21, by decide +kernel⟩
        · subst e
          exact ⟨by decide, IAE, clL_13, by decide +kernel⟩
      · refine H_astore 25 rfl dL_addRepair_23 (by decide) ?_
        refine H_iconst 26 (nI 3) rfl dL_addRepair_25 ic_3 ?_
        exact H_iret rfl dL_addRepair_26 ⟨J', rfl, Or.inr ⟨_, hx, hm, rfl⟩⟩
    exact absurd hm (by
      intro hm2
      have hz : E = IOOBE ∨ E = IAE ∨ E = ISE := by simpa using hm2
      rcases hz with z | z | z
      · exact c0 z
      · exact c1 z
      · exact c2 z)
  · obtain ⟨r, rfl⟩ := hQ v J' q
    refine H_i2l 11 _ rfl dL_addRepair_10 rfl ?_
    refine HJ_last 12 rfl dL_addRepair_11 ?_
    refine H_goto 27 (by decide) dL_addRepair_12 ?_
    refine H_iconst 28 (nI 0) rfl dL_addRepair_27 ic_0 ?_
    exact H_iret rfl dL_addRepair_28 ⟨_, rfl, Or.inl ⟨J', _, q, rfl, rfl⟩⟩
abbrev mL_removeRepair : MI := (yL_removeRepair, cL_removeRepair, 4, some .int)
def hL_removeRepair : HH := [(0, 9, 12, 21)]
theorem kalL_removeRepair : CalH mL_removeRepair hL_removeRepair 3 := ⟨(inT5 (w := Cond.codeWith yL_removeRepair cL_removeRepair 4 (some .int) [(0, 9, 12, 21)]) 163 rfl rfl), (inT1 (w := Cond.initialized RL) 0 rfl rfl), by decide, by decide +kernel, (inT5 (w := Cond.static yL_removeRepair) 162 rfl rfl)⟩
theorem WL_removeRepair {g : Gn} {J : DJ} {Q : Option Value → DJ → Prop} {X : String → DJ → Prop} {d' kc' ks' : Nat} {x1 : Int32} (h : SJ g mX10_removeRepair d' kc' ks' [.ref (g.2 0), .int x1] J Q X) (hd : d' ≤ 16) (hkc : kc' ≤ 1) (hks : ks' ≤ 6) (hQ : ∀ v J', Q v J' → ∃ r, v = some (.int r)) (hX : ∀ E J', X E J' → E ∈ [IOOBE]) : SHJ g mL_removeRepair hL_removeRepair 17 1 6 [.ref (g.2 0), .int x1, .ref (g.2 365)] J (WP [IOOBE] Q X) := by
  refine SHJ_of (by decide +kernel) (Nat.le_of_ble_eq_true rfl) ?_
  show HJ g mL_removeRepair hL_removeRepair 17 1 6 _ 0 [(0, .ref (g.2 0)), (1, .int x1), (2, .ref (g.2 365))] [] J
  refine H_aload_n 1 rfl dL_removeRepair_0 rfl ?_
  refine H_iconst 2 (nI 0) rfl dL_removeRepair_1 ic_0 ?_
  refine H_aload_n 3 rfl dL_removeRepair_2 rfl ?_
  refine H_iload_n 4 rfl dL_removeRepair_3 rfl ?_
  refine HJ_call (As := [_]) 7 rfl kalX10_removeRepair lkL_109 dL_removeRepair_4 rfl rfl rfl (by exact Nat.le_of_ble_eq_true rfl) (by omega) (by omega) (by omega) h (fun E J' q hx => ?_) (fun v J' q => ?_)
  · have hm := hX E J' hx
    by_cases c0 : E = IOOBE
    · subst c0
      refine ⟨12, ⟨[], (0, 9, 12, 21), [], rfl, fun z hz => absurd hz List.not_mem_nil, by decide, by decide, rfl, clL_21, inCast.2.2.1⟩, ?_⟩
      refine H_astore_n 13 rfl dL_removeRepair_12 rfl (by decide) ?_
      refine H_iconst 14 (nI 1) rfl dL_removeRepair_13 ic_1 ?_
      exact H_iret rfl dL_removeRepair_14 ⟨J', rfl, Or.inr ⟨_, hx, hm, rfl⟩⟩
    exact absurd hm (by
      intro hm2
      have hz : E = IOOBE := by simpa using hm2
      exact c0 hz)
  · obtain ⟨r, rfl⟩ := hQ v J' q
    refine H_i2l 8 _ rfl dL_removeRepair_7 rfl ?_
    refine HJ_last 9 rfl dL_removeRepair_8 ?_
    refine H_goto 15 (by decide) dL_removeRepair_9 ?_
    refine H_iconst 16 (nI 0) rfl dL_removeRepair_15 ic_0 ?_
    exact H_iret rfl dL_removeRepair_16 ⟨_, rfl, Or.inl ⟨J', _, q, rfl, rfl⟩⟩
abbrev mL_repair : MI := (yL_repair, cL_repair, 3, some .int)
def hL_repair : HH := [(0, 8, 11, 15)]
theorem kalL_repair : CalH mL_repair hL_repair 2 := ⟨(inT5 (w := Cond.codeWith yL_repair cL_repair 3 (some .int) [(0, 8, 11, 15)]) 174 rfl rfl), (inT1 (w := Cond.initialized RL) 0 rfl rfl), by decide, by decide +kernel, (inT5 (w := Cond.static yL_repair) 173 rfl rfl)⟩
theorem WL_repair {g : Gn} {J : DJ} {Q : Option Value → DJ → Prop} {X : String → DJ → Prop} {d' kc' ks' : Nat} (h : SJ g mX10_repair d' kc' ks' [.ref (g.2 0)] J Q X) (hd : d' ≤ 16) (hkc : kc' ≤ 1) (hks : ks' ≤ 6) (hQ : ∀ v J', Q v J' → ∃ r, v = some (.int r)) (hX : ∀ E J', X E J' → E ∈ [ISE]) : SHJ g mL_repair hL_repair 17 1 6 [.ref (g.2 0), .ref (g.2 365)] J (WP [ISE] Q X) := by
  refine SHJ_of (by decide +kernel) (Nat.le_of_ble_eq_true rfl) ?_
  show HJ g mL_repair hL_repair 17 1 6 _ 0 [(0, .ref (g.2 0)), (1, .ref (g.2 365))] [] J
  refine H_aload_n 1 rfl dL_repair_0 rfl ?_
  refine H_iconst 2 (nI 0) rfl dL_repair_1 ic_0 ?_
  refine H_aload_n 3 rfl dL_repair_2 rfl ?_
  refine HJ_call (As := []) 6 rfl kalX10_repair lkL_112 dL_repair_3 rfl rfl rfl (by exact Nat.le_of_ble_eq_true rfl) (by omega) (by omega) (by omega) h (fun E J' q hx => ?_) (fun v J' q => ?_)
  · have hm := hX E J' hx
    by_cases c0 : E = ISE
    · subst c0
      refine ⟨11, ⟨[], (0, 8, 11, 15), [], rfl, fun z hz => absurd hz List.not_mem_nil, by decide, by decide, rfl, clL_15, inCast.2.1⟩, ?_⟩
      refine H_astore_n 12 rfl dL_repair_11 rfl (by decide) ?_
      refine H_iconst 13 (nI 1) rfl dL_repair_12 ic_1 ?_
      exact H_iret rfl dL_repair_13 ⟨J', rfl, Or.inr ⟨_, hx, hm, rfl⟩⟩
    exact absurd hm (by
      intro hm2
      have hz : E = ISE := by simpa using hm2
      exact c0 hz)
  · obtain ⟨r, rfl⟩ := hQ v J' q
    refine H_i2l 7 _ rfl dL_repair_6 rfl ?_
    refine HJ_last 8 rfl dL_repair_7 ?_
    refine H_goto 14 (by decide) dL_repair_8 ?_
    refine H_iconst 15 (nI 0) rfl dL_repair_14 ic_0 ?_
    exact H_iret rfl dL_repair_15 ⟨_, rfl, Or.inl ⟨J', _, q, rfl, rfl⟩⟩
abbrev mL_pass : MI := (yL_pass, cL_pass, 4, some .int)
def hL_pass : HH := [(0, 9, 12, 13)]
theorem kalL_pass : CalH mL_pass hL_pass 3 := ⟨(inT5 (w := Cond.codeWith yL_pass cL_pass 4 (some .int) [(0, 9, 12, 13)]) 208 rfl rfl), (inT1 (w := Cond.initialized RL) 0 rfl rfl), by decide, by decide +kernel, (inT5 (w := Cond.static yL_pass) 207 rfl rfl)⟩
theorem WL_pass {g : Gn} {J : DJ} {Q : Option Value → DJ → Prop} {X : String → DJ → Prop} {d' kc' ks' : Nat} {x1 : Int32} (h : SJ g mX10_pass d' kc' ks' [.ref (g.2 0), .int x1] J Q X) (hd : d' ≤ 16) (hkc : kc' ≤ 1) (hks : ks' ≤ 6) (hQ : ∀ v J', Q v J' → ∃ r, v = some (.int r)) (hX : ∀ E J', X E J' → E ∈ [IAE]) : SHJ g mL_pass hL_pass 17 1 6 [.ref (g.2 0), .int x1, .ref (g.2 365)] J (WP [IAE] Q X) := by
  refine SHJ_of (by decide +kernel) (Nat.le_of_ble_eq_true rfl) ?_
  show HJ g mL_pass hL_pass 17 1 6 _ 0 [(0, .ref (g.2 0)), (1, .int x1), (2, .ref (g.2 365))] [] J
  refine H_aload_n 1 rfl dL_pass_0 rfl ?_
  refine H_iconst 2 (nI 0) rfl dL_pass_1 ic_0 ?_
  refine H_aload_n 3 rfl dL_pass_2 rfl ?_
  refine H_iload_n 4 rfl dL_pass_3 rfl ?_
  refine HJ_call (As := [_]) 7 rfl kalX10_pass lkL_115 dL_pass_4 rfl rfl rfl (by exact Nat.le_of_ble_eq_true rfl) (by omega) (by omega) (by omega) h (fun E J' q hx => ?_) (fun v J' q => ?_)
  · have hm := hX E J' hx
    by_cases c0 : E = IAE
    · subst c0
      refine ⟨12, ⟨[], (0, 9, 12, 13), [], rfl, fun z hz => absurd hz List.not_mem_nil, by decide, by decide, rfl, clL_13, inCast.1⟩, ?_⟩
      refine H_astore_n 13 rfl dL_pass_12 rfl (by decide) ?_
      refine H_iconst 14 (nI 1) rfl dL_pass_13 ic_1 ?_
      exact H_iret rfl dL_pass_14 ⟨J', rfl, Or.inr ⟨_, hx, hm, rfl⟩⟩
    exact absurd hm (by
      intro hm2
      have hz : E = IAE := by simpa using hm2
      exact c0 hz)
  · obtain ⟨r, rfl⟩ := hQ v J' q
    refine H_i2l 8 _ rfl dL_pass_7 rfl ?_
    refine HJ_last 9 rfl dL_pass_8 ?_
    refine H_goto 15 (by decide) dL_pass_9 ?_
    refine H_iconst 16 (nI 0) rfl dL_pass_15 ic_0 ?_
    exact H_iret rfl dL_pass_16 ⟨_, rfl, Or.inl ⟨J', _, q, rfl, rfl⟩⟩
abbrev mL_knocksIn : MI := (yL_knocksIn, cL_knocksIn, 4, some .int)
def hL_knocksIn : HH := [(0, 9, 12, 66)]
theorem kalL_knocksIn : CalH mL_knocksIn hL_knocksIn 3 := ⟨(inT5 (w := Cond.codeWith yL_knocksIn cL_knocksIn 4 (some .int) [(0, 9, 12, 66)]) 220 rfl rfl), (inT1 (w := Cond.initialized RL) 0 rfl rfl), by decide, by decide +kernel, (inT5 (w := Cond.static yL_knocksIn) 219 rfl rfl)⟩
theorem WL_knocksIn {g : Gn} {J : DJ} {Q : Option Value → DJ → Prop} {X : String → DJ → Prop} {d' kc' ks' : Nat} {x1 : Int32} (h : SJ g mX10_knocksIn d' kc' ks' [.ref (g.2 0), .int x1] J Q X) (hd : d' ≤ 16) (hkc : kc' ≤ 1) (hks : ks' ≤ 6) (hQ : ∀ v J', Q v J' → ∃ r, v = some (.int r)) (hX : ∀ E J', X E J' → E ∈ [NSEE]) : SHJ g mL_knocksIn hL_knocksIn 17 1 6 [.ref (g.2 0), .int x1, .ref (g.2 365)] J (WP [NSEE] Q X) := by
  refine SHJ_of (by decide +kernel) (Nat.le_of_ble_eq_true rfl) ?_
  show HJ g mL_knocksIn hL_knocksIn 17 1 6 _ 0 [(0, .ref (g.2 0)), (1, .int x1), (2, .ref (g.2 365))] [] J
  refine H_aload_n 1 rfl dL_knocksIn_0 rfl ?_
  refine H_iconst 2 (nI 0) rfl dL_knocksIn_1 ic_0 ?_
  refine H_aload_n 3 rfl dL_knocksIn_2 rfl ?_
  refine H_iload_n 4 rfl dL_knocksIn_3 rfl ?_
  refine HJ_call (As := [_]) 7 rfl kalX10_knocksIn lkL_118 dL_knocksIn_4 rfl rfl rfl (by exact Nat.le_of_ble_eq_true rfl) (by omega) (by omega) (by omega) h (fun E J' q hx => ?_) (fun v J' q => ?_)
  · have hm := hX E J' hx
    by_cases c0 : E = NSEE
    · subst c0
      refine ⟨12, ⟨[], (0, 9, 12, 66), [], rfl, fun z hz => absurd hz List.not_mem_nil, by decide, by decide, rfl, clL_66, inCast.2.2.2.1⟩, ?_⟩
      refine H_astore_n 13 rfl dL_knocksIn_12 rfl (by decide) ?_
      refine H_iconst 14 (nI 1) rfl dL_knocksIn_13 ic_1 ?_
      exact H_iret rfl dL_knocksIn_14 ⟨J', rfl, Or.inr ⟨_, hx, hm, rfl⟩⟩
    exact absurd hm (by
      intro hm2
      have hz : E = NSEE := by simpa using hm2
      exact c0 hz)
  · obtain ⟨r, rfl⟩ := hQ v J' q
    refine H_i2l 8 _ rfl dL_knocksIn_7 rfl ?_
    refine HJ_last 9 rfl dL_knocksIn_8 ?_
    refine H_goto 15 (by decide) dL_knocksIn_9 ?_
    refine H_iconst 16 (nI 0) rfl dL_knocksIn_15 ic_0 ?_
    exact H_iret rfl dL_knocksIn_16 ⟨_, rfl, Or.inl ⟨J', _, q, rfl, rfl⟩⟩
abbrev mL_hourOfKnocks : MI := (yL_hourOfKnocks, cL_hourOfKnocks, 4, some .int)
def hL_hourOfKnocks : HH := [(0, 9, 12, 66)]
theorem kalL_hourOfKnocks : CalH mL_hourOfKnocks hL_hourOfKnocks 3 := ⟨(inT5 (w := Cond.codeWith yL_hourOfKnocks cL_hourOfKnocks 4 (some .int) [(0, 9, 12, 66)]) 231 rfl rfl), (inT1 (w := Cond.initialized RL) 0 rfl rfl), by decide, by decide +kernel, (inT5 (w := Cond.static yL_hourOfKnocks) 230 rfl rfl)⟩
theorem WL_hourOfKnocks {g : Gn} {J : DJ} {Q : Option Value → DJ → Prop} {X : String → DJ → Prop} {d' kc' ks' : Nat} {x1 : Int32} (h : SJ g mX10_hourOfKnocks d' kc' ks' [.ref (g.2 0), .int x1] J Q X) (hd : d' ≤ 16) (hkc : kc' ≤ 1) (hks : ks' ≤ 6) (hQ : ∀ v J', Q v J' → ∃ r, v = some (.int r)) (hX : ∀ E J', X E J' → E ∈ [NSEE]) : SHJ g mL_hourOfKnocks hL_hourOfKnocks 17 1 6 [.ref (g.2 0), .int x1, .ref (g.2 365)] J (WP [NSEE] Q X) := by
  refine SHJ_of (by decide +kernel) (Nat.le_of_ble_eq_true rfl) ?_
  show HJ g mL_hourOfKnocks hL_hourOfKnocks 17 1 6 _ 0 [(0, .ref (g.2 0)), (1, .int x1), (2, .ref (g.2 365))] [] J
  refine H_aload_n 1 rfl dL_hourOfKnocks_0 rfl ?_
  refine H_iconst 2 (nI 0) rfl dL_hourOfKnocks_1 ic_0 ?_
  refine H_aload_n 3 rfl dL_hourOfKnocks_2 rfl ?_
  refine H_iload_n 4 rfl dL_hourOfKnocks_3 rfl ?_
  refine HJ_call (As := [_]) 7 rfl kalX10_hourOfKnocks lkL_121 dL_hourOfKnocks_4 rfl rfl rfl (by exact Nat.le_of_ble_eq_true rfl) (by omega) (by omega) (by omega) h (fun E J' q hx => ?_) (fun v J' q => ?_)
  · have hm := hX E J' hx
    by_cases c0 : E = NSEE
    · subst c0
      refine ⟨12, ⟨[], (0, 9, 12, 66), [], rfl, fun z hz => absurd hz List.not_mem_nil, by decide, by decide, rfl, clL_66, inCast.2.2.2.1⟩, ?_⟩
      refine H_astore_n 13 rfl dL_hourOfKnocks_12 rfl (by decide) ?_
      refine H_iconst 14 (nI 1) rfl dL_hourOfKnocks_13 ic_1 ?_
      exact H_iret rfl dL_hourOfKnocks_14 ⟨J', rfl, Or.inr ⟨_, hx, hm, rfl⟩⟩
    exact absurd hm (by
      intro hm2
      have hz : E = NSEE := by simpa using hm2
      exact c0 hz)
  · obtain ⟨r, rfl⟩ := hQ v J' q
    refine H_i2l 8 _ rfl dL_hourOfKnocks_7 rfl ?_
    refine HJ_last 9 rfl dL_hourOfKnocks_8 ?_
    refine H_goto 15 (by decide) dL_hourOfKnocks_9 ?_
    refine H_iconst 16 (nI 0) rfl dL_hourOfKnocks_15 ic_0 ?_
    exact H_iret rfl dL_hourOfKnocks_16 ⟨_, rfl, Or.inl ⟨J', _, q, rfl, rfl⟩⟩
abbrev mL_append : MI := (yL_append, cL_append, 4, some .int)
def hL_append : HH := [(0, 9, 12, 13), (0, 9, 15, 15)]
theorem kalL_append : CalH mL_append hL_append 3 := ⟨(inT5 (w := Cond.codeWith yL_append cL_append 4 (some .int) [(0, 9, 12, 13), (0, 9, 15, 15)]) 238 rfl rfl), (inT1 (w := Cond.initialized RL) 0 rfl rfl), by decide, by decide +kernel, (inT5 (w := Cond.static yL_append) 237 rfl rfl)⟩
theorem WL_append {g : Gn} {J : DJ} {Q : Option Value → DJ → Prop} {X : String → DJ → Prop} {d' kc' ks' : Nat} {x1 : Int32} (h : SJ g mX10_append d' kc' ks' [.ref (g.2 0), .int x1] J Q X) (hd : d' ≤ 16) (hkc : kc' ≤ 1) (hks : ks' ≤ 6) (hQ : ∀ v J', Q v J' → ∃ r, v = some (.int r)) (hX : ∀ E J', X E J' → E ∈ [IAE, ISE]) : SHJ g mL_append hL_append 17 1 6 [.ref (g.2 0), .int x1, .ref (g.2 365)] J (WP [IAE, ISE] Q X) := by
  refine SHJ_of (by decide +kernel) (Nat.le_of_ble_eq_true rfl) ?_
  show HJ g mL_append hL_append 17 1 6 _ 0 [(0, .ref (g.2 0)), (1, .int x1), (2, .ref (g.2 365))] [] J
  refine H_aload_n 1 rfl dL_append_0 rfl ?_
  refine H_iconst 2 (nI 0) rfl dL_append_1 ic_0 ?_
  refine H_aload_n 3 rfl dL_append_2 rfl ?_
  refine H_iload_n 4 rfl dL_append_3 rfl ?_
  refine HJ_call (As := [_]) 7 rfl kalX10_append lkL_124 dL_append_4 rfl rfl rfl (by exact Nat.le_of_ble_eq_true rfl) (by omega) (by omega) (by omega) h (fun E J' q hx => ?_) (fun v J' q => ?_)
  · have hm := hX E J' hx
    by_cases c0 : E = IAE
    · subst c0
      refine ⟨12, ⟨[], (0, 9, 12, 13), [(0, 9, 15, 15)], rfl, fun z hz => absurd hz List.not_mem_nil, by decide, by decide, rfl, clL_13, inCast.1⟩, ?_⟩
      refine H_astore_n 13 rfl dL_append_12 rfl (by decide) ?_
      refine H_iconst 14 (nI 1) rfl dL_append_13 ic_1 ?_
      exact H_iret rfl dL_append_14 ⟨J', rfl, Or.inr ⟨_, hx, hm, rfl⟩⟩
    by_cases c1 : E = ISE
    · subst c1
      refine ⟨15, ⟨[(0, 9, 12, 13)], (0, 9, 15, 15), [], rfl, fun z hz => ?_, by decide, by decide, rfl, clL_15, inCast.2.1⟩, ?_⟩
      · have hz2 : z = (0, 9, 12, 13) := by simpa using hz
        have e := hz2
        · subst e
          exact ⟨by decide, IAE, clL_13, by decide +kernel⟩
      · refine H_astore_n 16 rfl dL_append_15 rfl (by decide) ?_
        refine H_iconst 17 (nI 2) rfl dL_append_16 ic_2 ?_
        exact H_iret rfl dL_append_17 ⟨J', rfl, Or.inr ⟨_, hx, hm, rfl⟩⟩
    exact absurd hm (by
      intro hm2
      have hz : E = IAE ∨ E = ISE := by simpa using hm2
      rcases hz with z | z
      · exact c0 z
      · exact c1 z)
  · obtain ⟨r, rfl⟩ := hQ v J' q
    refine H_i2l 8 _ rfl dL_append_7 rfl ?_
    refine HJ_last 9 rfl dL_append_8 ?_
    refine H_goto 18 (by decide) dL_append_9 ?_
    refine H_iconst 19 (nI 0) rfl dL_append_18 ic_0 ?_
    exact H_iret rfl dL_append_19 ⟨_, rfl, Or.inl ⟨J', _, q, rfl, rfl⟩⟩
abbrev mL_execute : MI := (yL_execute, cL_execute, 3, some .int)
def hL_execute : HH := [(0, 8, 11, 13), (0, 8, 14, 15)]
theorem kalL_execute : CalH mL_execute hL_execute 2 := ⟨(inT6 (w := Cond.codeWith yL_execute cL_execute 3 (some .int) [(0, 8, 11, 13), (0, 8, 14, 15)]) 13 rfl rfl), (inT1 (w := Cond.initialized RL) 0 rfl rfl), by decide, by decide +kernel, (inT6 (w := Cond.static yL_execute) 12 rfl rfl)⟩
theorem WL_execute {g : Gn} {J : DJ} {Q : Option Value → DJ → Prop} {X : String → DJ → Prop} {d' kc' ks' : Nat} (h : SJ g mX10_execute d' kc' ks' [.ref (g.2 0)] J Q X) (hd : d' ≤ 16) (hkc : kc' ≤ 1) (hks : ks' ≤ 6) (hQ : ∀ v J', Q v J' → ∃ r, v = some (.int r)) (hX : ∀ E J', X E J' → E ∈ [IAE, ISE]) : SHJ g mL_execute hL_execute 17 1 6 [.ref (g.2 0), .ref (g.2 365)] J (WP [IAE, ISE] Q X) := by
  refine SHJ_of (by decide +kernel) (Nat.le_of_ble_eq_true rfl) ?_
  show HJ g mL_execute hL_execute 17 1 6 _ 0 [(0, .ref (g.2 0)), (1, .ref (g.2 365))] [] J
  refine H_aload_n 1 rfl dL_execute_0 rfl ?_
  refine H_iconst 2 (nI 0) rfl dL_execute_1 ic_0 ?_
  refine H_aload_n 3 rfl dL_execute_2 rfl ?_
  refine HJ_call (As := []) 6 rfl kalX10_execute lkL_128 dL_execute_3 rfl rfl rfl (by exact Nat.le_of_ble_eq_true rfl) (by omega) (by omega) (by omega) h (fun E J' q hx => ?_) (fun v J' q => ?_)
  · have hm := hX E J' hx
    by_cases c0 : E = IAE
    · subst c0
      refine ⟨11, ⟨[], (0, 8, 11, 13), [(0, 8, 14, 15)], rfl, fun z hz => absurd hz List.not_mem_nil, by decide, by decide, rfl, clL_13, inCast.1⟩, ?_⟩
      refine H_astore_n 12 rfl dL_execute_11 rfl (by decide) ?_
      refine H_iconst 13 (nI 1) rfl dL_execute_12 ic_1 ?_
      exact H_iret rfl dL_execute_13 ⟨J', rfl, Or.inr ⟨_, hx, hm, rfl⟩⟩
    by_cases c1 : E = ISE
    · subst c1
      refine ⟨14, ⟨[(0, 8, 11, 13)], (0, 8, 14, 15), [], rfl, fun z hz => ?_, by decide, by decide, rfl, clL_15, inCast.2.1⟩, ?_⟩
      · have hz2 : z = (0, 8, 11, 13) := by simpa using hz
        have e := hz2
        · subst e
          exact ⟨by decide, IAE, clL_13, by decide +kernel⟩
      · refine H_astore_n 15 rfl dL_execute_14 rfl (by decide) ?_
        refine H_iconst 16 (nI 2) rfl dL_execute_15 ic_2 ?_
        exact H_iret rfl dL_execute_16 ⟨J', rfl, Or.inr ⟨_, hx, hm, rfl⟩⟩
    exact absurd hm (by
      intro hm2
      have hz : E = IAE ∨ E = ISE := by simpa using hm2
      rcases hz with z | z
      · exact c0 z
      · exact c1 z)
  · obtain ⟨r, rfl⟩ := hQ v J' q
    refine H_i2l 7 _ rfl dL_execute_6 rfl ?_
    refine HJ_last 8 rfl dL_execute_7 ?_
    refine H_goto 17 (by decide) dL_execute_8 ?_
    refine H_iconst 18 (nI 0) rfl dL_execute_17 ic_0 ?_
    exact H_iret rfl dL_execute_18 ⟨_, rfl, Or.inl ⟨J', _, q, rfl, rfl⟩⟩
abbrev mL_errorPosition : MI := (yL_errorPosition, cL_errorPosition, 3, some .int)
def hL_errorPosition : HH := [(0, 8, 11, 66)]
theorem kalL_errorPosition : CalH mL_errorPosition hL_errorPosition 2 := ⟨(inT6 (w := Cond.codeWith yL_errorPosition cL_errorPosition 3 (some .int) [(0, 8, 11, 66)]) 143 rfl rfl), (inT1 (w := Cond.initialized RL) 0 rfl rfl), by decide, by decide +kernel, (inT6 (w := Cond.static yL_errorPosition) 142 rfl rfl)⟩
theorem WL_errorPosition {g : Gn} {J : DJ} {Q : Option Value → DJ → Prop} {X : String → DJ → Prop} {d' kc' ks' : Nat} (h : SJ g mX10_errorPosition d' kc' ks' [.ref (g.2 0)] J Q X) (hd : d' ≤ 16) (hkc : kc' ≤ 1) (hks : ks' ≤ 6) (hQ : ∀ v J', Q v J' → ∃ r, v = some (.int r)) (hX : ∀ E J', X E J' → E ∈ [NSEE]) : SHJ g mL_errorPosition hL_errorPosition 17 1 6 [.ref (g.2 0), .ref (g.2 365)] J (WP [NSEE] Q X) := by
  refine SHJ_of (by decide +kernel) (Nat.le_of_ble_eq_true rfl) ?_
  show HJ g mL_errorPosition hL_errorPosition 17 1 6 _ 0 [(0, .ref (g.2 0)), (1, .ref (g.2 365))] [] J
  refine H_aload_n 1 rfl dL_errorPosition_0 rfl ?_
  refine H_iconst 2 (nI 0) rfl dL_errorPosition_1 ic_0 ?_
  refine H_aload_n 3 rfl dL_errorPosition_2 rfl ?_
  refine HJ_call (As := []) 6 rfl kalX10_errorPosition lkL_131 dL_errorPosition_3 rfl rfl rfl (by exact Nat.le_of_ble_eq_true rfl) (by omega) (by omega) (by omega) h (fun E J' q hx => ?_) (fun v J' q => ?_)
  · have hm := hX E J' hx
    by_cases c0 : E = NSEE
    · subst c0
      refine ⟨11, ⟨[], (0, 8, 11, 66), [], rfl, fun z hz => absurd hz List.not_mem_nil, by decide, by decide, rfl, clL_66, inCast.2.2.2.1⟩, ?_⟩
      refine H_astore_n 12 rfl dL_errorPosition_11 rfl (by decide) ?_
      refine H_iconst 13 (nI 1) rfl dL_errorPosition_12 ic_1 ?_
      exact H_iret rfl dL_errorPosition_13 ⟨J', rfl, Or.inr ⟨_, hx, hm, rfl⟩⟩
    exact absurd hm (by
      intro hm2
      have hz : E = NSEE := by simpa using hm2
      exact c0 hz)
  · obtain ⟨r, rfl⟩ := hQ v J' q
    refine H_i2l 7 _ rfl dL_errorPosition_6 rfl ?_
    refine HJ_last 8 rfl dL_errorPosition_7 ?_
    refine H_goto 14 (by decide) dL_errorPosition_8 ?_
    refine H_iconst 15 (nI 0) rfl dL_errorPosition_14 ic_0 ?_
    exact H_iret rfl dL_errorPosition_15 ⟨_, rfl, Or.inl ⟨J', _, q, rfl, rfl⟩⟩
abbrev mL_failedCommand : MI := (yL_failedCommand, cL_failedCommand, 3, some .int)
def hL_failedCommand : HH := [(0, 8, 11, 66)]
theorem kalL_failedCommand : CalH mL_failedCommand hL_failedCommand 2 := ⟨(inT6 (w := Cond.codeWith yL_failedCommand cL_failedCommand 3 (some .int) [(0, 8, 11, 66)]) 150 rfl rfl), (inT1 (w := Cond.initialized RL) 0 rfl rfl), by decide, by decide +kernel, (inT6 (w := Cond.static yL_failedCommand) 149 rfl rfl)⟩
theorem WL_failedCommand {g : Gn} {J : DJ} {Q : Option Value → DJ → Prop} {X : String → DJ → Prop} {d' kc' ks' : Nat} (h : SJ g mX10_failedCommand d' kc' ks' [.ref (g.2 0)] J Q X) (hd : d' ≤ 16) (hkc : kc' ≤ 1) (hks : ks' ≤ 6) (hQ : ∀ v J', Q v J' → ∃ r, v = some (.int r)) (hX : ∀ E J', X E J' → E ∈ [NSEE]) : SHJ g mL_failedCommand hL_failedCommand 17 1 6 [.ref (g.2 0), .ref (g.2 365)] J (WP [NSEE] Q X) := by
  refine SHJ_of (by decide +kernel) (Nat.le_of_ble_eq_true rfl) ?_
  show HJ g mL_failedCommand hL_failedCommand 17 1 6 _ 0 [(0, .ref (g.2 0)), (1, .ref (g.2 365))] [] J
  refine H_aload_n 1 rfl dL_failedCommand_0 rfl ?_
  refine H_iconst 2 (nI 0) rfl dL_failedCommand_1 ic_0 ?_
  refine H_aload_n 3 rfl dL_failedCommand_2 rfl ?_
  refine HJ_call (As := []) 6 rfl kalX10_failedCommand lkL_134 dL_failedCommand_3 rfl rfl rfl (by exact Nat.le_of_ble_eq_true rfl) (by omega) (by omega) (by omega) h (fun E J' q hx => ?_) (fun v J' q => ?_)
  · have hm := hX E J' hx
    by_cases c0 : E = NSEE
    · subst c0
      refine ⟨11, ⟨[], (0, 8, 11, 66), [], rfl, fun z hz => absurd hz List.not_mem_nil, by decide, by decide, rfl, clL_66, inCast.2.2.2.1⟩, ?_⟩
      refine H_astore_n 12 rfl dL_failedCommand_11 rfl (by decide) ?_
      refine H_iconst 13 (nI 1) rfl dL_failedCommand_12 ic_1 ?_
      exact H_iret rfl dL_failedCommand_13 ⟨J', rfl, Or.inr ⟨_, hx, hm, rfl⟩⟩
    exact absurd hm (by
      intro hm2
      have hz : E = NSEE := by simpa using hm2
      exact c0 hz)
  · obtain ⟨r, rfl⟩ := hQ v J' q
    refine H_i2l 7 _ rfl dL_failedCommand_6 rfl ?_
    refine HJ_last 8 rfl dL_failedCommand_7 ?_
    refine H_goto 14 (by decide) dL_failedCommand_8 ?_
    refine H_iconst 15 (nI 0) rfl dL_failedCommand_14 ic_0 ?_
    exact H_iret rfl dL_failedCommand_15 ⟨_, rfl, Or.inl ⟨J', _, q, rfl, rfl⟩⟩
abbrev mL_describeEngine : MI := (yL_describeEngine, cL_describeEngine, 4, some .int)
def hL_describeEngine : HH := [(0, 9, 12, 21)]
theorem kalL_describeEngine : CalH mL_describeEngine hL_describeEngine 3 := ⟨(inT6 (w := Cond.codeWith yL_describeEngine cL_describeEngine 4 (some .int) [(0, 9, 12, 21)]) 157 rfl rfl), (inT1 (w := Cond.initialized RL) 0 rfl rfl), by decide, by decide +kernel, (inT6 (w := Cond.static yL_describeEngine) 156 rfl rfl)⟩
theorem WL_describeEngine {g : Gn} {J : DJ} {Q : Option Value → DJ → Prop} {X : String → DJ → Prop} {d' kc' ks' : Nat} {x1 : Int32} (h : SJ g mX10_describeEngine d' kc' ks' [.ref (g.2 0), .int x1] J Q X) (hd : d' ≤ 16) (hkc : kc' ≤ 1) (hks : ks' ≤ 6) (hQ : ∀ v J', Q v J' → ∃ r, v = some (.int r)) (hX : ∀ E J', X E J' → E ∈ [IOOBE]) : SHJ g mL_describeEngine hL_describeEngine 17 1 6 [.ref (g.2 0), .int x1, .ref (g.2 365)] J (WP [IOOBE] Q X) := by
  refine SHJ_of (by decide +kernel) (Nat.le_of_ble_eq_true rfl) ?_
  show HJ g mL_describeEngine hL_describeEngine 17 1 6 _ 0 [(0, .ref (g.2 0)), (1, .int x1), (2, .ref (g.2 365))] [] J
  refine H_aload_n 1 rfl dL_describeEngine_0 rfl ?_
  refine H_iconst 2 (nI 0) rfl dL_describeEngine_1 ic_0 ?_
  refine H_aload_n 3 rfl dL_describeEngine_2 rfl ?_
  refine H_iload_n 4 rfl dL_describeEngine_3 rfl ?_
  refine HJ_call (As := [_]) 7 rfl kalX10_describeEngine lkL_137 dL_describeEngine_4 rfl rfl rfl (by exact Nat.le_of_ble_eq_true rfl) (by omega) (by omega) (by omega) h (fun E J' q hx => ?_) (fun v J' q => ?_)
  · have hm := hX E J' hx
    by_cases c0 : E = IOOBE
    · subst c0
      refine ⟨12, ⟨[], (0, 9, 12, 21), [], rfl, fun z hz => absurd hz List.not_mem_nil, by decide, by decide, rfl, clL_21, inCast.2.2.1⟩, ?_⟩
      refine H_astore_n 13 rfl dL_describeEngine_12 rfl (by decide) ?_
      refine H_iconst 14 (nI 1) rfl dL_describeEngine_13 ic_1 ?_
      exact H_iret rfl dL_describeEngine_14 ⟨J', rfl, Or.inr ⟨_, hx, hm, rfl⟩⟩
    exact absurd hm (by
      intro hm2
      have hz : E = IOOBE := by simpa using hm2
      exact c0 hz)
  · obtain ⟨r, rfl⟩ := hQ v J' q
    refine H_i2l 8 _ rfl dL_describeEngine_7 rfl ?_
    refine HJ_last 9 rfl dL_describeEngine_8 ?_
    refine H_goto 15 (by decide) dL_describeEngine_9 ?_
    refine H_iconst 16 (nI 0) rfl dL_describeEngine_15 ic_0 ?_
    exact H_iret rfl dL_describeEngine_16 ⟨_, rfl, Or.inl ⟨J', _, q, rfl, rfl⟩⟩
abbrev mL_lineAt : MI := (yL_lineAt, cL_lineAt, 4, some .int)
def hL_lineAt : HH := [(0, 9, 12, 21)]
theorem kalL_lineAt : CalH mL_lineAt hL_lineAt 3 := ⟨(inT6 (w := Cond.codeWith yL_lineAt cL_lineAt 4 (some .int) [(0, 9, 12, 21)]) 168 rfl rfl), (inT1 (w := Cond.initialized RL) 0 rfl rfl), by decide, by decide +kernel, (inT6 (w := Cond.static yL_lineAt) 167 rfl rfl)⟩
theorem WL_lineAt {g : Gn} {J : DJ} {Q : Option Value → DJ → Prop} {X : String → DJ → Prop} {d' kc' ks' : Nat} {x1 : Int32} (h : SJ g mX10_lineAt d' kc' ks' [.ref (g.2 0), .int x1] J Q X) (hd : d' ≤ 16) (hkc : kc' ≤ 1) (hks : ks' ≤ 6) (hQ : ∀ v J', Q v J' → ∃ r, v = some (.int r)) (hX : ∀ E J', X E J' → E ∈ [IOOBE]) : SHJ g mL_lineAt hL_lineAt 17 1 6 [.ref (g.2 0), .int x1, .ref (g.2 365)] J (WP [IOOBE] Q X) := by
  refine SHJ_of (by decide +kernel) (Nat.le_of_ble_eq_true rfl) ?_
  show HJ g mL_lineAt hL_lineAt 17 1 6 _ 0 [(0, .ref (g.2 0)), (1, .int x1), (2, .ref (g.2 365))] [] J
  refine H_aload_n 1 rfl dL_lineAt_0 rfl ?_
  refine H_iconst 2 (nI 0) rfl dL_lineAt_1 ic_0 ?_
  refine H_aload_n 3 rfl dL_lineAt_2 rfl ?_
  refine H_iload_n 4 rfl dL_lineAt_3 rfl ?_
  refine HJ_call (As := [_]) 7 rfl kalX10_lineAt lkL_140 dL_lineAt_4 rfl rfl rfl (by exact Nat.le_of_ble_eq_true rfl) (by omega) (by omega) (by omega) h (fun E J' q hx => ?_) (fun v J' q => ?_)
  · have hm := hX E J' hx
    by_cases c0 : E = IOOBE
    · subst c0
      refine ⟨12, ⟨[], (0, 9, 12, 21), [], rfl, fun z hz => absurd hz List.not_mem_nil, by decide, by decide, rfl, clL_21, inCast.2.2.1⟩, ?_⟩
      refine H_astore_n 13 rfl dL_lineAt_12 rfl (by decide) ?_
      refine H_iconst 14 (nI 1) rfl dL_lineAt_13 ic_1 ?_
      exact H_iret rfl dL_lineAt_14 ⟨J', rfl, Or.inr ⟨_, hx, hm, rfl⟩⟩
    exact absurd hm (by
      intro hm2
      have hz : E = IOOBE := by simpa using hm2
      exact c0 hz)
  · obtain ⟨r, rfl⟩ := hQ v J' q
    refine H_i2l 8 _ rfl dL_lineAt_7 rfl ?_
    refine HJ_last 9 rfl dL_lineAt_8 ?_
    refine H_goto 15 (by decide) dL_lineAt_9 ?_
    refine H_iconst 16 (nI 0) rfl dL_lineAt_15 ic_0 ?_
    exact H_iret rfl dL_lineAt_16 ⟨_, rfl, Or.inl ⟨J', _, q, rfl, rfl⟩⟩
abbrev mL_meanOil : MI := (yL_meanOil, cL_meanOil, 3, some .int)
def hL_meanOil : HH := [(0, 7, 10, 148)]
theorem kalL_meanOil : CalH mL_meanOil hL_meanOil 2 := ⟨(inT6 (w := Cond.codeWith yL_meanOil cL_meanOil 3 (some .int) [(0, 7, 10, 148)]) 175 rfl rfl), (inT1 (w := Cond.initialized RL) 0 rfl rfl), by decide, by decide +kernel, (inT6 (w := Cond.static yL_meanOil) 174 rfl rfl)⟩
theorem WL_meanOil {g : Gn} {J : DJ} {Q : Option Value → DJ → Prop} {X : String → DJ → Prop} {d' kc' ks' : Nat} (h : SJ g mX10_meanOil d' kc' ks' [.ref (g.2 0)] J Q X) (hd : d' ≤ 16) (hkc : kc' ≤ 1) (hks : ks' ≤ 6) (hQ : ∀ v J', Q v J' → ∃ r, v = some (.double r)) (hX : ∀ E J', X E J' → E ∈ [AE]) : SHJ g mL_meanOil hL_meanOil 17 1 6 [.ref (g.2 0), .ref (g.2 366)] J (WD [AE] Q X) := by
  refine SHJ_of (by decide +kernel) (Nat.le_of_ble_eq_true rfl) ?_
  show HJ g mL_meanOil hL_meanOil 17 1 6 _ 0 [(0, .ref (g.2 0)), (1, .ref (g.2 366))] [] J
  refine H_aload_n 1 rfl dL_meanOil_0 rfl ?_
  refine H_iconst 2 (nI 0) rfl dL_meanOil_1 ic_0 ?_
  refine H_aload_n 3 rfl dL_meanOil_2 rfl ?_
  refine HJ_call (As := []) 6 rfl kalX10_meanOil lkL_144 dL_meanOil_3 rfl rfl rfl (by exact Nat.le_of_ble_eq_true rfl) (by omega) (by omega) (by omega) h (fun E J' q hx => ?_) (fun v J' q => ?_)
  · have hm := hX E J' hx
    by_cases c0 : E = AE
    · subst c0
      refine ⟨10, ⟨[], (0, 7, 10, 148), [], rfl, fun z hz => absurd hz List.not_mem_nil, by decide, by decide, rfl, clL_148, inCast.2.2.2.2⟩, ?_⟩
      refine H_astore_n 11 rfl dL_meanOil_10 rfl (by decide) ?_
      refine H_iconst 12 (nI 1) rfl dL_meanOil_11 ic_1 ?_
      exact H_iret rfl dL_meanOil_12 ⟨J', rfl, Or.inr ⟨_, hx, hm, rfl⟩⟩
    exact absurd hm (by
      intro hm2
      have hz : E = AE := by simpa using hm2
      exact c0 hz)
  · obtain ⟨r, rfl⟩ := hQ v J' q
    refine HJ_dast 7 rfl dL_meanOil_6 ?_
    refine H_goto 13 (by decide) dL_meanOil_7 ?_
    refine H_iconst 14 (nI 0) rfl dL_meanOil_13 ic_0 ?_
    exact H_iret rfl dL_meanOil_14 ⟨_, rfl, Or.inl ⟨J', _, q, rfl, rfl⟩⟩
abbrev mL_undo : MI := (yL_undo, cL_undo, 3, some .int)
def hL_undo : HH := [(0, 8, 11, 15)]
theorem kalL_undo : CalH mL_undo hL_undo 2 := ⟨(inT6 (w := Cond.codeWith yL_undo cL_undo 3 (some .int) [(0, 8, 11, 15)]) 205 rfl rfl), (inT1 (w := Cond.initialized RL) 0 rfl rfl), by decide, by decide +kernel, (inT6 (w := Cond.static yL_undo) 204 rfl rfl)⟩
theorem WL_undo {g : Gn} {J : DJ} {Q : Option Value → DJ → Prop} {X : String → DJ → Prop} {d' kc' ks' : Nat} (h : SJ g mX10_undo d' kc' ks' [.ref (g.2 0)] J Q X) (hd : d' ≤ 16) (hkc : kc' ≤ 1) (hks : ks' ≤ 6) (hQ : ∀ v J', Q v J' → ∃ r, v = some (.int r)) (hX : ∀ E J', X E J' → E ∈ [ISE]) : SHJ g mL_undo hL_undo 17 1 6 [.ref (g.2 0), .ref (g.2 365)] J (WP [ISE] Q X) := by
  refine SHJ_of (by decide +kernel) (Nat.le_of_ble_eq_true rfl) ?_
  show HJ g mL_undo hL_undo 17 1 6 _ 0 [(0, .ref (g.2 0)), (1, .ref (g.2 365))] [] J
  refine H_aload_n 1 rfl dL_undo_0 rfl ?_
  refine H_iconst 2 (nI 0) rfl dL_undo_1 ic_0 ?_
  refine H_aload_n 3 rfl dL_undo_2 rfl ?_
  refine HJ_call (As := []) 6 rfl kalX10_undo lkL_150 dL_undo_3 rfl rfl rfl (by exact Nat.le_of_ble_eq_true rfl) (by omega) (by omega) (by omega) h (fun E J' q hx => ?_) (fun v J' q => ?_)
  · have hm := hX E J' hx
    by_cases c0 : E = ISE
    · subst c0
      refine ⟨11, ⟨[], (0, 8, 11, 15), [], rfl, fun z hz => absurd hz List.not_mem_nil, by decide, by decide, rfl, clL_15, inCast.2.1⟩, ?_⟩
      refine H_astore_n 12 rfl dL_undo_11 rfl (by decide) ?_
      refine H_iconst 13 (nI 1) rfl dL_undo_12 ic_1 ?_
      exact H_iret rfl dL_undo_13 ⟨J', rfl, Or.inr ⟨_, hx, hm, rfl⟩⟩
    exact absurd hm (by
      intro hm2
      have hz : E = ISE := by simpa using hm2
      exact c0 hz)
  · obtain ⟨r, rfl⟩ := hQ v J' q
    refine H_i2l 7 _ rfl dL_undo_6 rfl ?_
    refine HJ_last 8 rfl dL_undo_7 ?_
    refine H_goto 14 (by decide) dL_undo_8 ?_
    refine H_iconst 15 (nI 0) rfl dL_undo_14 ic_0 ?_
    exact H_iret rfl dL_undo_15 ⟨_, rfl, Or.inl ⟨J', _, q, rfl, rfl⟩⟩
abbrev mL_restore : MI := (yL_restore, cL_restore, 3, some .int)
def hL_restore : HH := [(0, 8, 11, 15)]
theorem kalL_restore : CalH mL_restore hL_restore 2 := ⟨(inT6 (w := Cond.codeWith yL_restore cL_restore 3 (some .int) [(0, 8, 11, 15)]) 216 rfl rfl), (inT1 (w := Cond.initialized RL) 0 rfl rfl), by decide, by decide +kernel, (inT6 (w := Cond.static yL_restore) 215 rfl rfl)⟩
theorem WL_restore {g : Gn} {J : DJ} {Q : Option Value → DJ → Prop} {X : String → DJ → Prop} {d' kc' ks' : Nat} (h : SJ g mX10_restore d' kc' ks' [.ref (g.2 0)] J Q X) (hd : d' ≤ 16) (hkc : kc' ≤ 1) (hks : ks' ≤ 6) (hQ : ∀ v J', Q v J' → ∃ r, v = some (.int r)) (hX : ∀ E J', X E J' → E ∈ [ISE]) : SHJ g mL_restore hL_restore 17 1 6 [.ref (g.2 0), .ref (g.2 365)] J (WP [ISE] Q X) := by
  refine SHJ_of (by decide +kernel) (Nat.le_of_ble_eq_true rfl) ?_
  show HJ g mL_restore hL_restore 17 1 6 _ 0 [(0, .ref (g.2 0)), (1, .ref (g.2 365))] [] J
  refine H_aload_n 1 rfl dL_restore_0 rfl ?_
  refine H_iconst 2 (nI 0) rfl dL_restore_1 ic_0 ?_
  refine H_aload_n 3 rfl dL_restore_2 rfl ?_
  refine HJ_call (As := []) 6 rfl kalX10_restore lkL_153 dL_restore_3 rfl rfl rfl (by exact Nat.le_of_ble_eq_true rfl) (by omega) (by omega) (by omega) h (fun E J' q hx => ?_) (fun v J' q => ?_)
  · have hm := hX E J' hx
    by_cases c0 : E = ISE
    · subst c0
      refine ⟨11, ⟨[], (0, 8, 11, 15), [], rfl, fun z hz => absurd hz List.not_mem_nil, by decide, by decide, rfl, clL_15, inCast.2.1⟩, ?_⟩
      refine H_astore_n 12 rfl dL_restore_11 rfl (by decide) ?_
      refine H_iconst 13 (nI 1) rfl dL_restore_12 ic_1 ?_
      exact H_iret rfl dL_restore_13 ⟨J', rfl, Or.inr ⟨_, hx, hm, rfl⟩⟩
    exact absurd hm (by
      intro hm2
      have hz : E = ISE := by simpa using hm2
      exact c0 hz)
  · obtain ⟨r, rfl⟩ := hQ v J' q
    refine H_i2l 7 _ rfl dL_restore_6 rfl ?_
    refine HJ_last 8 rfl dL_restore_7 ?_
    refine H_goto 14 (by decide) dL_restore_8 ?_
    refine H_iconst 15 (nI 0) rfl dL_restore_14 ic_0 ?_
    exact H_iret rfl dL_restore_15 ⟨_, rfl, Or.inl ⟨J', _, q, rfl, rfl⟩⟩
