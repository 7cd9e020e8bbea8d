/-! THE CLASS ITSELF: what its cells say, refusals, an existing engine -/
def exc (k : Nat) : String := if k = 1 then IOOBE else if k = 2 then IAE else if k = 3 then ISE else if k = 4 then NSEE else AE
/-- what questions may change -/
def Sc (J J2 : DJ) : Prop := (∀ c, c < 31 ∨ (61 ≤ c ∧ c < 334) ∨ c = 336 ∨ c = 341 ∨ (344 ≤ c ∧ c < 350) ∨ 351 ≤ c → J2 c = J c) ∧ J2 350 0 = J 350 0
theorem Sc.refl {J : DJ} : Sc J J := ⟨fun _ _ => rfl, rfl⟩
theorem Sc.trans {J J1 J2 : DJ} (h : Sc J J1) (h2 : Sc J1 J2) : Sc J J2 := ⟨fun c hc => (h2.1 c hc).trans (h.1 c hc), h2.2.trans h.2⟩
theorem Sc.sR {J : DJ} {k : Nat} {r : Nat → Nat} (hk : (31 ≤ k ∧ k < 61) ∨ k = 334 ∨ k = 335 ∨ (337 ≤ k ∧ k < 341) ∨ k = 342 ∨ k = 343) : Sc J (sR J k r) := ⟨fun c hc => sR_ne (by omega), by rw [sR_ne (by omega)]⟩
def QF (F r : Nat) (P : DJ → Prop) : Option Value → DJ → Prop := fun v J2 => F = 0 ∧ v = some (.int (nI r)) ∧ P J2
def QN (F : Nat) (P : Nat → DJ → Prop) : Option Value → DJ → Prop := fun v J2 => F = 0 ∧ ∃ r, v = some (.int (nI r)) ∧ P r J2
def XF (F : Nat) (J : DJ) : String → DJ → Prop := fun E J2 => F ≠ 0 ∧ E = exc F ∧ Sc J J2
/-- the class's state: the house is f, the n kept houses fs, the snapshot s -/
def CI (J : DJ) (f : Nat → Nat) (n : Nat) (fs : Nat → Nat → Nat) (s : Nat → Nat) (B : Nat) : Prop := CP J 1 f B ∧ WF f B ∧ PP J B n fs ∧ (J 0 12 = 0 ∨ (J 0 12 = 1 ∧ CP J 61 s B ∧ WF s B)) ∧ J 350 0 = 0 ∧ B < 40000000
theorem CI.sc {J J2 : DJ} {f s : Nat → Nat} {n B : Nat} {fs : Nat → Nat → Nat} (h : CI J f n fs s B) (q : Sc J J2) : CI J2 f n fs s B := by
  obtain ⟨h1, h2, h3, h4, h5, h6⟩ := h
  refine ⟨CP_fr h1 h2.1 (fun c x y => q.1 c (by omega)), h2, PP_fr h3 (fun c x y => q.1 c (by omega)), ?_, by rw [q.2]; exact h5, h6⟩
  rw [q.1 0 (by omega)]
  rcases h4 with z | ⟨z1, z2, z3⟩
  · exact Or.inl z
  · exact Or.inr ⟨z1, CP_fr z2 z3.1 (fun c x y => q.1 c (by omega)), z3⟩
/-- a change: the house becomes f2, the old one is kept -/
def Ch (J : DJ) (n : Nat) (fs : Nat → Nat → Nat) (f f2 : Nat → Nat) (B : Nat) (J2 : DJ) : Prop := (∀ c, c < 1 ∨ (31 ≤ c ∧ c < 91) ∨ 333 ≤ c → J2 c = J c) ∧ CP J2 1 f2 (B + 100) ∧ PP J2 (B + 100) (min (n + 1) 8) (psh n fs f)
theorem Ch.of {J J1 J2 : DJ} {n B : Nat} {fs : Nat → Nat → Nat} {f f2 : Nat → Nat} (q1 : Fr 91 242 J J1) (q2 : PP J1 B (min (n + 1) 8) (psh n fs f)) (q3 : Fr 1 30 J1 J2) (q4 : CP J2 1 f2 (B + 100)) : Ch J n fs f f2 B J2 := ⟨fun c hc => by rw [q3 c (by omega), q1 c (by omega)], q4, PP_fr (PP_le q2 (by omega)) (fun c x y => q3 c (by omega))⟩
section EMR
variable {g : Gn} {y : MI} {d kc ks : Nat} {Q : Option Value → DJ → Prop} {X : String → DJ → Prop} {pc : Nat} {L : List (Nat × Value)} {st : List Value} {J : DJ}
theorem S_X10_refuse : SJ g mX10_refuse 1 0 0 [.int (nI 0)] J (Rv J) NoX := by
  refine SJ_of_VJ (by decide +kernel) (Nat.le_of_ble_eq_true rfl) ?_
  show VJ g mX10_refuse 1 0 0 _ _ 0 [(0, .int (nI 0))] [] J
  refine J_iload_n 1 rfl dX10_refuse_0 rfl ?_
  refine J_iconst 2 1 rfl dX10_refuse_1 ic_1 ?_
  refine J_icmp_eq 9 5 (by decide) rfl dX10_refuse_2 (by omega) (by omega) (fun h => absurd h (by omega)) (fun _ => ?_)
  refine J_iconst 6 1 rfl dX10_refuse_5 ic_1 ?_
  refine J_goto 10 (by decide) dX10_refuse_6 ?_
  refine J_callSv (As := [_]) 13 rfl kalX10_requireIndex lkX10_124 dX10_refuse_10 rfl rfl (by exact Nat.le_of_ble_eq_true rfl) (by omega) (S_X10_requireIndex (p := True) trivial) ?_
  refine J_iload_n 14 rfl dX10_refuse_13 rfl ?_
  refine J_iconst 15 2 rfl dX10_refuse_14 ic_2 ?_
  refine J_icmp_eq 22 18 (by decide) rfl dX10_refuse_15 (by omega) (by omega) (fun h => absurd h (by omega)) (fun _ => ?_)
  refine J_iconst 19 1 rfl dX10_refuse_18 ic_1 ?_
  refine J_goto 23 (by decide) dX10_refuse_19 ?_
  refine J_callSv (As := [_]) 26 rfl kalX10_requireArgument lkX10_135 dX10_refuse_23 rfl rfl (by exact Nat.le_of_ble_eq_true rfl) (by omega) (S_X10_requireArgument (p := True) trivial) ?_
  refine J_iload_n 27 rfl dX10_refuse_26 rfl ?_
  refine J_iconst 28 3 rfl dX10_refuse_27 ic_3 ?_
  refine J_icmp_eq 35 31 (by decide) rfl dX10_refuse_28 (by omega) (by omega) (fun h => absurd h (by omega)) (fun _ => ?_)
  refine J_iconst 32 1 rfl dX10_refuse_31 ic_1 ?_
  refine J_goto 36 (by decide) dX10_refuse_32 ?_
  refine J_callSv (As := [_]) 39 rfl kalX10_requireState lkX10_330 dX10_refuse_36 rfl rfl (by exact Nat.le_of_ble_eq_true rfl) (by omega) (S_X10_requireState (p := True) trivial) ?_
  exact J_vret rfl dX10_refuse_39 ⟨rfl, rfl⟩
theorem X_X10_refuse {k : Nat} (h1 : 1 ≤ k) (h3 : k ≤ 3) : SJ g mX10_refuse 7 1 6 [.int (nI k)] J (fun _ _ => False) (fun E J2 => E = exc k ∧ J2 = J) := by
  refine SJ_of_VJ (by decide +kernel) (Nat.le_of_ble_eq_true rfl) ?_
  show VJ g mX10_refuse 7 1 6 _ _ 0 [(0, .int (nI k))] [] J
  refine J_iload_n 1 rfl dX10_refuse_0 rfl ?_
  refine J_iconst 2 1 rfl dX10_refuse_1 ic_1 ?_
  refine J_icmp_eq 9 5 (by decide) rfl dX10_refuse_2 (by omega) (by omega) (fun c => ?_) (fun c => ?_)
  · subst c
    refine J_iconst 10 0 rfl dX10_refuse_9 ic_0 ?_
    refine J_cv (b := bt False) rfl ?_
    exact J_reqIndex (hdp := _) 13 rfl dX10_refuse_10 lkX10_124 (by exact Nat.le_of_ble_eq_true rfl) (by omega) (by omega) (by omega) (fun _ => ⟨rfl, rfl⟩) (fun c => absurd c id)
  · refine J_iconst 6 1 rfl dX10_refuse_5 ic_1 ?_
    refine J_goto 10 (by decide) dX10_refuse_6 ?_
    refine J_callSv (As := [_]) 13 rfl kalX10_requireIndex lkX10_124 dX10_refuse_10 rfl rfl (by exact Nat.le_of_ble_eq_true rfl) (by omega) (S_X10_requireIndex (p := True) trivial) ?_
    refine J_iload_n 14 rfl dX10_refuse_13 rfl ?_
    refine J_iconst 15 2 rfl dX10_refuse_14 ic_2 ?_
    refine J_icmp_eq 22 18 (by decide) rfl dX10_refuse_15 (by omega) (by omega) (fun c2 => ?_) (fun c2 => ?_)
    · subst c2
      refine J_iconst 23 0 rfl dX10_refuse_22 ic_0 ?_
      refine J_cv (b := bt False) rfl ?_
      exact J_reqArgument (hdp := _) 26 rfl dX10_refuse_23 lkX10_135 (by exact Nat.le_of_ble_eq_true rfl) (by omega) (by omega) (by omega) (fun _ => ⟨rfl, rfl⟩) (fun c => absurd c id)
    · refine J_iconst 19 1 rfl dX10_refuse_18 ic_1 ?_
      refine J_goto 23 (by decide) dX10_refuse_19 ?_
      refine J_callSv (As := [_]) 26 rfl kalX10_requireArgument lkX10_135 dX10_refuse_23 rfl rfl (by exact Nat.le_of_ble_eq_true rfl) (by omega) (S_X10_requireArgument (p := True) trivial) ?_
      refine J_iload_n 27 rfl dX10_refuse_26 rfl ?_
      refine J_iconst 28 3 rfl dX10_refuse_27 ic_3 ?_
      refine J_icmp_eq 35 31 (by decide) rfl dX10_refuse_28 (by omega) (by omega) (fun c3 => ?_) (fun c3 => absurd h3 (by omega))
      subst c3
      refine J_iconst 36 0 rfl dX10_refuse_35 ic_0 ?_
      refine J_cv (b := bt False) rfl ?_
      exact J_reqState (hdp := _) 39 rfl dX10_refuse_36 lkX10_330 (by exact Nat.le_of_ble_eq_true rfl) (by omega) (by omega) (by omega) (fun _ => ⟨rfl, rfl⟩) (fun c => absurd c id)
theorem J_refuse (pc' : Nat) {idx k : Nat} (hp : pc + 3 = pc') (hd : decode y.2.1 pc = .ok (.invokestatic idx, 3)) (hl : Cond.methodLink y.1.cls idx mX10_refuse.1 ∈ WALL) (hcat : (st.map fun v => v.category).sum ≤ 8) (hdd : 8 ≤ d) (hkc : 1 ≤ kc) (hks : 6 ≤ ks) (hX : k ≠ 0 → k ≤ 3 ∧ X (exc k) J) (kr : k = 0 → VJ g y d kc ks Q X pc' L st J) : VJ g y d kc ks Q X pc L (.int (nI k) :: st) J := by
  by_cases h : k = 0
  · subst h
    exact J_callS (As := [_]) pc' hp kalX10_refuse hl hd rfl rfl hcat (by omega) (Nat.zero_le _) (Nat.zero_le _) S_X10_refuse (fun _ _ h => absurd h id) (fun v J' ⟨e1, e2⟩ => by rw [e1, e2]; exact kr rfl)
  · have q := hX h
    exact J_callS (As := [_]) pc' hp kalX10_refuse hl hd rfl rfl hcat (by omega) hkc hks (X_X10_refuse (by omega) q.1) (fun E J' ⟨e1, e2⟩ => by rw [e1, e2]; exact q.2) (fun v J' q => absurd q id)
theorem S_X10_existing {e : Nat} {f : Nat → Nat} (hc : J 1 4 = f 0) (h0 : f 0 ≤ 4) (he : e < f 0) : SJ g mX10_existing 2 0 0 [.ref (g.2 0), .int (nI e)] J (Rr (g.2 (1 + 10 + 5 * e)) J) NoX := by
  refine SJ_of_VJ (by decide +kernel) (Nat.le_of_ble_eq_true rfl) ?_
  show VJ g mX10_existing 2 0 0 _ _ 0 [(0, .ref (g.2 0)), (1, .int (nI e))] [] J
  refine J_aload_n 1 rfl dX10_existing_0 rfl ?_
  refine g_X10_house 4 rfl dX10_existing_1 lkX10_10 ?_
  refine J_iload_n 5 rfl dX10_existing_4 rfl ?_
  refine J_callVi (As := [_]) 8 _ rfl kalX3_hasEngine lkX10_422 dX10_existing_5 (lt_X3 isH_1) (so_X3 isH_1) rfl rfl rfl (by exact Nat.le_of_ble_eq_true rfl) (by omega) (S_X3_hasEngine isH_1 (by omega) (by omega)) ?_
  refine J_callSv (As := [_]) 11 rfl kalX10_requireIndex lkX10_124 dX10_existing_8 rfl rfl (by exact Nat.le_of_ble_eq_true rfl) (by omega) (S_X10_requireIndex (by omega)) ?_
  refine J_aload_n 12 rfl dX10_existing_11 rfl ?_
  refine g_X10_house 15 rfl dX10_existing_12 lkX10_10 ?_
  refine g_X3_engines 18 isH_1 rfl dX10_existing_15 lkX10_94 ?_
  refine J_iload_n 19 rfl dX10_existing_18 rfl ?_
  refine J_aaldE 20 _ rfl dX10_existing_19 isH_1 (by omega) ?_
  exact J_aret rfl dX10_existing_20 ⟨rfl, rfl⟩
theorem X_X10_existing {e : Nat} {f : Nat → Nat} (hc : J 1 4 = f 0) (h0 : f 0 ≤ 4) (he : e < 4294967296) (hn : ¬ e < f 0) : SJ g mX10_existing 7 1 6 [.ref (g.2 0), .int (nI e)] J (fun _ _ => False) (Xo IOOBE J) := by
  refine SJ_of_VJ (by decide +kernel) (Nat.le_of_ble_eq_true rfl) ?_
  show VJ g mX10_existing 7 1 6 _ _ 0 [(0, .ref (g.2 0)), (1, .int (nI e))] [] J
  refine J_aload_n 1 rfl dX10_existing_0 rfl ?_
  refine g_X10_house 4 rfl dX10_existing_1 lkX10_10 ?_
  refine J_iload_n 5 rfl dX10_existing_4 rfl ?_
  refine J_callVi (As := [_]) 8 _ rfl kalX3_hasEngine lkX10_422 dX10_existing_5 (lt_X3 isH_1) (so_X3 isH_1) rfl rfl rfl (by exact Nat.le_of_ble_eq_true rfl) (by omega) (S_X3_hasEngine isH_1 he (by omega)) ?_
  exact J_reqIndex (hdp := _) 11 rfl dX10_existing_8 lkX10_124 (by exact Nat.le_of_ble_eq_true rfl) (by omega) (by omega) (by omega) (fun _ => ⟨rfl, rfl⟩) (fun c => absurd c (by omega))
theorem J_existing (pc' : Nat) {idx e : Nat} {f : Nat → Nat} (hp : pc + 3 = pc') (hd : decode y.2.1 pc = .ok (.invokevirtual idx, 3)) (hl : Cond.methodLink y.1.cls idx mX10_existing.1 ∈ WALL) (hcat : (st.map fun v => v.category).sum ≤ 8) (hdd : 8 ≤ d) (hkc : 1 ≤ kc) (hks : 6 ≤ ks) (he : e < 4294967296) (hc : J 1 4 = f 0) (h0 : f 0 ≤ 4) (hX : ¬ e < f 0 → X IOOBE J) (kr : e < f 0 → VJ g y d kc ks Q X pc' L (.ref (g.2 (1 + 10 + 5 * e)) :: st) J) : VJ g y d kc ks Q X pc L (.int (nI e) :: .ref (g.2 0) :: st) J := by
  by_cases h : e < f 0
  · exact J_callV (As := [_]) pc' 0 hp kalX10_existing hl hd lt_X10 so_X10 rfl rfl rfl hcat (by omega) (Nat.zero_le _) (Nat.zero_le _) (S_X10_existing hc h0 h) (fun _ _ h => absurd h id) (fun v J' ⟨e1, e2⟩ => by rw [e1, e2]; exact kr h)
  · exact J_callV (As := [_]) pc' 0 hp kalX10_existing hl hd lt_X10 so_X10 rfl rfl rfl hcat (by omega) hkc hks (X_X10_existing hc h0 he h) (fun E J' ⟨e1, e2⟩ => by rw [e1, e2]; exact hX h) (fun v J' q => absurd q id)
end EMR
