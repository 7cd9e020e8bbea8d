/-! STRING CONSTANTS: rows and the four methods of String that are reached; table switches -/
section STR
variable {u : Un} {y z : MI} {d d' kc ks kc' ks' : Nat} {Q Q' : Option Value → va_W → Prop} {X X' : String → va_W → Prop} {pc idx n : Nat} {L : List (Nat × Value)} {st st0 As : List Value} {ws : va_W}
theorem Cx.sk {p : Program} {s : State} {m : MethodId} {args : Array Value} {meth : Method} {c : Code} (C : Cx u y p s m args meth c) : Sk u s s.heap := C.2.2.2.2.2.2.2.2.2.2.2.2.2.2
theorem V_ldcS (pc' i : Nat) (hy : y.1.cls = "EngineMonastery$CommandText") (hi : i < 12) (hp : pc + 2 = pc') (hd : decode y.2.1 pc = .ok (.ldc (70 + 2 * i), 2)) (k : V u y d kc ks Q X pc' L (.ref (kS u i) :: st) ws) : V u y d kc ks Q X pc L st ws := by
  subst hp
  intro p e R s m args below meth c H locs cells slots ls C q1 q2 q3 q4 hw hS hl
  exact va_ldcS C.1 C.2.1 C.2.2.2.2.2.1 (by rw [hy]; exact (Cx.sk C).2.1 i hi) hd (k p e R s m args below meth c H locs cells slots ls C q1 q2 q3 q4 hw hS hl)
theorem V_strV (pc' i : Nat) (hi : i < 12) (hp : pc + 3 = pc') (hd : decode y.2.1 pc = .ok (.getfield idx, 3)) (hl0 : Cond.fieldLink y.1.cls idx "java/lang/String" "value" "[B" ∈ WALL) (k : V u y d kc ks Q X pc' L (.ref (vS u i) :: st) ws) : V u y d kc ks Q X pc L (.ref (kS u i) :: st) ws := by
  subst hp
  intro p e R s m args below meth c H locs cells slots ls C q1 q2 q3 q4 hw hS hl
  exact vk_getf C.1 C.2.1 ((Cx.sk C).1.1 i hi).2.2.1 hS C.2.2.2.2.2.1 (C.word hl0) (fun _ h => h) hd (k p e R s m args below meth c H locs cells slots ls C q1 q2 q3 q4 hw hS hl)
theorem V_strC (pc' i : Nat) (hi : i < 12) (hp : pc + 3 = pc') (hd : decode y.2.1 pc = .ok (.getfield idx, 3)) (hl0 : Cond.fieldLink y.1.cls idx "java/lang/String" "coder" "B" ∈ WALL) (k : V u y d kc ks Q X pc' L (.int 0 :: st) ws) : V u y d kc ks Q X pc L (.ref (kS u i) :: st) ws := by
  subst hp
  intro p e R s m args below meth c H locs cells slots ls C q1 q2 q3 q4 hw hS hl
  exact vk_getf C.1 C.2.1 ((Cx.sk C).1.1 i hi).2.1 hS C.2.2.2.2.2.1 (C.word hl0) (fun _ h => h) hd (k p e R s m args below meth c H locs cells slots ls C q1 q2 q3 q4 hw hS hl)
theorem V_strN (pc' i : Nat) (hi : i < 12) (hp : pc + 1 = pc') (hd : decode y.2.1 pc = .ok (.arraylength, 1)) (k : V u y d kc ks Q X pc' L (.int (nI (lnS.getD i 0)) :: st) ws) : V u y d kc ks Q X pc L (.ref (vS u i) :: st) ws := by
  subst hp
  intro p e R s m args below meth c H locs cells slots ls C q1 q2 q3 q4 hw hS hl
  exact va_tlen C.1 C.2.1 ((Cx.sk C).1.1 i hi).2.2.2 hS rfl hd (k p e R s m args below meth c H locs cells slots ls C q1 q2 q3 q4 hw hS hl)
theorem V_strB (pc' i j : Nat) (hi : i < 12) (hj : j < lnS.getD i 0) (hN : lnS.getD i 0 < 100) (hp : pc + 1 = pc') (hd : decode y.2.1 pc = .ok (.baload, 1)) (k : V u y d kc ks Q X pc' L (.int ((byS.getD i []).getD j 0) :: st) ws) : V u y d kc ks Q X pc L (.int (nI j) :: .ref (vS u i) :: st) ws := by
  subst hp
  intro p e R s m args below meth c H locs cells slots ls C q1 q2 q3 q4 hw hS hl
  refine va_tb C.1 C.2.1 ((Cx.sk C).1.1 i hi).2.2.2 hS (vp_in_nI hj (by omega)) ?_ hd (k p e R s m args below meth c H locs cells slots ls C q1 q2 q3 q4 hw hS hl)
  rw [nI_clamp (by omega)]
theorem V_strZ (pc' : Nat) (hp : pc + 3 = pc') (hd : decode y.2.1 pc = .ok (.getstatic idx, 3)) (hl0 : Cond.fieldLink y.1.cls idx "java/lang/String" "COMPACT_STRINGS" "Z" ∈ WALL) (k : V u y d kc ks Q X pc' L (.int 1 :: st) ws) : V u y d kc ks Q X pc L st ws := by
  subst hp
  intro p e R s m args below meth c H locs cells slots ls C q1 q2 q3 q4 hw hS hl
  exact va_gets C.1 C.2.1 (Cx.sk C).2.2.1 hS C.2.2.2.2.2.1 (C.word hl0) (fun _ h => h) hd (k p e R s m args below meth c H locs cells slots ls C q1 q2 q3 q4 hw hS hl)
theorem V_strQ (pc' : Nat) (hp : pc + 3 = pc') (hd : decode y.2.1 pc = .ok (.getstatic idx, 3)) (hl0 : Cond.fieldLink y.1.cls idx "jdk/internal/util/Preconditions" "SIOOBE_FORMATTER" "Ljava/util/function/BiFunction;" ∈ WALL) (k : ∀ v : Value, v = .null ∨ (∃ t, v = .ref t) → V u y d kc ks Q X pc' L (v :: st) ws) : V u y d kc ks Q X pc L st ws := by
  subst hp
  intro p e R s m args below meth c H locs cells slots ls C q1 q2 q3 q4 hw hS hl
  rcases (Cx.sk C).2.2.2 with h | ⟨t, h⟩
  · exact va_gets C.1 C.2.1 h hS C.2.2.2.2.2.1 (C.word hl0) (fun _ h => h) hd (k _ (Or.inl rfl) p e R s m args below meth c H locs cells slots ls C q1 q2 q3 q4 hw hS hl)
  · exact va_gets C.1 C.2.1 h hS C.2.2.2.2.2.1 (C.word hl0) (fun _ h => h) hd (k _ (Or.inr ⟨t, rfl⟩) p e R s m args below meth c H locs cells slots ls C q1 q2 q3 q4 hw hS hl)
/-- a call of a method of String at a constant -/
theorem V_callO (pc' i : Nat) (hi : i < 12) (hp : pc + 3 = pc') (k : CalV z n) (hz : z.1.cls = "java/lang/String") (hl : Cond.methodLink y.1.cls idx z.1 ∈ WALL) (hd : decode y.2.1 pc = .ok (.invokevirtual idx, 3)) (hSem : Sem u z d' kc' ks' (.ref (kS u i) :: As) ws Q' X')
    (hn : As.length = n) (hst : st0 = As.reverse ++ .ref (kS u i) :: st) (hcat : (st.map fun v => v.category).sum ≤ 8)
    (hdd : d' + 1 ≤ d) (hkc : kc' ≤ kc) (hks : ks' ≤ ks) (kx : ∀ (E : String) (ws' : va_W), X' E ws' → X E ws')
    (kr : ∀ (v : Option Value) (ws' : va_W), Q' v ws' → V u y d (kc - kc') (ks - ks') Q X pc' L (v.toList ++ st) ws') : V u y d kc ks Q X pc L st0 ws := by
  subst hp
  intro p e R s m args below meth c H locs cells slots ls C q1 q2 q3 q4 hw hS hls
  have hr := vx_runV (g := F0 m pc ls st0) (locs := locs) (cells := cells) (slots := slots) (below := below) (meth := meth) (e := e) (As := As) (rest := st) (b := kS u i) (C := z.1.cls) ⟨C.1, C.2.1, C.2.2.1, C.2.2.2.2.2.1, C.2.2.2.2.1⟩ (hSem C.2.2.2.2.2.2.2.2.1.2) ⟨k.1.b C hl hdd q1 q2, C.word k.2.1, C.word k.2.2⟩
    ⟨cPc_blind _ _ _, by rw [hz]; exact vk_recv (Cx.sk C).1 hi hS, fun U hU hW => ⟨rfl, by rw [hU]; exact hw, C.kt hS hU hW⟩⟩ rfl hn hls.1 hst (lv_room hcat) hd ⟨by omega, by omega⟩
  exact V_run hr C hS (by omega) (by omega) (fun v ws' H1 locs1 hq hw1 hS1 => kr v ws' hq p e R s m args below meth c H1 locs1 _ _ ls C q1 q2 (by omega) (by omega) hw1 hS1 hls) kx
theorem V_tabOut {dflt lo hi : Int} {offs : Array Int} {len : Nat} {x : Int32} (tgt : Nat) (hd : decode y.2.1 pc = .ok (.tableswitch dflt lo hi offs, len)) (h : x.toInt < lo ∨ hi < x.toInt) (ht : (pc : Int) + dflt = (tgt : Int)) (k : V u y d kc ks Q X tgt L st ws) : V u y d kc ks Q X pc L (.int x :: st) ws := by
  intro p e R s m args below meth c H locs cells slots ls C q1 q2 q3 q4 hw hS hl
  exact lv_tableOut C.1 C.2.1 hd h ht (k p e R s m args below meth c H locs cells slots ls C q1 q2 q3 q4 hw hS hl)
theorem V_tabIn {dflt lo hi : Int} {offs : Array Int} {len : Nat} {x : Int32} {off : Int} (tgt : Nat) (hd : decode y.2.1 pc = .ok (.tableswitch dflt lo hi offs, len)) (h1 : ¬ x.toInt < lo) (h2 : ¬ hi < x.toInt) (ho : offs[(x.toInt - lo).toNat]? = some off) (ht : (pc : Int) + off = (tgt : Int)) (k : V u y d kc ks Q X tgt L st ws) : V u y d kc ks Q X pc L (.int x :: st) ws := by
  intro p e R s m args below meth c H locs cells slots ls C q1 q2 q3 q4 hw hS hl
  exact lv_tableIn C.1 C.2.1 hd h1 h2 ho ht (k p e R s m args below meth c H locs cells slots ls C q1 q2 q3 q4 hw hS hl)
end STR
section JSTR
variable {g : Gn} {y z : MI} {d d' kc ks kc' ks' : Nat} {Q : Option Value → DJ → Prop} {X : String → DJ → Prop} {pc idx n : Nat} {L : List (Nat × Value)} {st st0 As : List Value} {J : DJ}
theorem J_tabOut {dflt lo hi : Int} {offs : Array Int} {len a : Nat} (tgt : Nat) (hd : decode y.2.1 pc = .ok (.tableswitch dflt lo hi offs, len)) (ha : a < 2147483648) (h : (a : Int) < lo ∨ hi < (a : Int)) (ht : (pc : Int) + dflt = (tgt : Int)) (k : VJ g y d kc ks Q X tgt L st J) : VJ g y d kc ks Q X pc L (.int (nI a) :: st) J := V_tabOut tgt hd (by rw [nI_toInt ha]; exact h) ht k
theorem J_tabIn {dflt hi : Int} {offs : Array Int} {len a : Nat} {off : Int} (tgt : Nat) (hd : decode y.2.1 pc = .ok (.tableswitch dflt 0 hi offs, len)) (ha : a < 2147483648) (h : (a : Int) ≤ hi) (ho : offs[a]? = some off) (ht : (pc : Int) + off = (tgt : Int)) (k : VJ g y d kc ks Q X tgt L st J) : VJ g y d kc ks Q X pc L (.int (nI a) :: st) J := V_tabIn tgt hd (by rw [nI_toInt ha]; omega) (by rw [nI_toInt ha]; omega) (by rw [nI_toInt ha, show ((a : Int) - 0).toNat = a by omega]; exact ho) ht k
theorem J_callOi (pc' i : Nat) {r : Nat} {J0 : DJ} (hi : i < 12) (hp : pc + 3 = pc') (k : CalV z n) (hz : z.1.cls = "java/lang/String") (hl : Cond.methodLink y.1.cls idx z.1 ∈ WALL) (hd : decode y.2.1 pc = .ok (.invokevirtual idx, 3)) (hn : As.length = n) (hst : st0 = As.reverse ++ .ref (kS g.1 i) :: st) (hcat : (st.map fun v => v.category).sum ≤ 8) (hdd : d' + 1 ≤ d) (hSem : SJ g z d' 0 0 (.ref (kS g.1 i) :: As) J (Ri r J0) NoX) (kr : VJ g y d kc ks Q X pc' L (.int (nI r) :: st) J0) : VJ g y d kc ks Q X pc L st0 J :=
  V_callO pc' i hi hp k hz hl hd hSem hn hst hcat hdd (Nat.zero_le _) (Nat.zero_le _) (fun _ _ ⟨_, _, h⟩ => absurd h id) (fun v ws ⟨J', e, e1, e2⟩ => by rw [e, e1, e2]; exact kr)
end JSTR
theorem lnS_lt : ∀ i, i < 12 → lnS.getD i 0 < 100 := by decide
theorem byS_ch : ∀ i, i < 12 → ∀ j, j < lnS.getD i 0 → (((byS.getD i []).getD j 0 &&& nI 255).toUInt32 % 65536).toInt32 = nI ((chS.getD i []).getD j 0) ∧ narrow .char (.int (nI ((chS.getD i []).getD j 0))) = .int (nI ((chS.getD i []).getD j 0)) ∧ (chS.getD i []).getD j 0 < 128 := by decide +kernel
section SSTR
variable {g : Gn} {J : DJ}
theorem S_coder {i : Nat} (hi : i < 12) : SJ g mJ0_coder_7d493 0 0 0 [.ref (kS g.1 i)] J (Ri 0 J) NoX := by
  refine SJ_of_VJ (by decide +kernel) (Nat.le_of_ble_eq_true rfl) ?_
  show VJ g mJ0_coder_7d493 0 0 0 _ _ 0 [(0, .ref (kS g.1 i))] [] J
  refine V_strZ 3 rfl dJ0_coder_7d493_0 lkJ0_38 ?_
  refine V_if_eq 13 6 (by decide) rfl dJ0_coder_7d493_3 (fun h => absurd h (by decide)) (fun _ => ?_)
  refine J_aload_n 7 rfl dJ0_coder_7d493_6 rfl ?_
  refine V_strC 10 i hi rfl dJ0_coder_7d493_7 lkJ0_15 ?_
  refine J_goto 14 (by decide) dJ0_coder_7d493_10 ?_
  exact V_zret rfl (by decide) dJ0_coder_7d493_14 ⟨J, rfl, rfl, rfl⟩
theorem S_isLatin1 {i : Nat} (hi : i < 12) : SJ g mJ0_isLatin1_aae02 0 0 0 [.ref (kS g.1 i)] J (Ri 1 J) NoX := by
  refine SJ_of_VJ (by decide +kernel) (Nat.le_of_ble_eq_true rfl) ?_
  show VJ g mJ0_isLatin1_aae02 0 0 0 _ _ 0 [(0, .ref (kS g.1 i))] [] J
  refine V_strZ 3 rfl dJ0_isLatin1_aae02_0 lkJ0_38 ?_
  refine V_if_eq 17 6 (by decide) rfl dJ0_isLatin1_aae02_3 (fun h => absurd h (by decide)) (fun _ => ?_)
  refine J_aload_n 7 rfl dJ0_isLatin1_aae02_6 rfl ?_
  refine V_strC 10 i hi rfl dJ0_isLatin1_aae02_7 lkJ0_15 ?_
  refine V_if_ne 17 13 (by decide) rfl dJ0_isLatin1_aae02_10 (fun h => absurd rfl h) (fun _ => ?_)
  refine J_iconst 14 1 rfl dJ0_isLatin1_aae02_13 ic_1 ?_
  refine J_goto 18 (by decide) dJ0_isLatin1_aae02_14 ?_
  exact J_zret1 rfl dJ0_isLatin1_aae02_18 ⟨rfl, rfl⟩
theorem S_length {i : Nat} (hi : i < 12) : SJ g mJ0_length_8abf5 1 0 0 [.ref (kS g.1 i)] J (Ri (lnS.getD i 0) J) NoX := by
  refine SJ_of_VJ (by decide +kernel) (Nat.le_of_ble_eq_true rfl) ?_
  show VJ g mJ0_length_8abf5 1 0 0 _ _ 0 [(0, .ref (kS g.1 i))] [] J
  refine J_aload_n 1 rfl dJ0_length_8abf5_0 rfl ?_
  refine V_strV 4 i hi rfl dJ0_length_8abf5_1 lkJ0_9 ?_
  refine V_strN 5 i hi rfl dJ0_length_8abf5_4 ?_
  refine J_aload_n 6 rfl dJ0_length_8abf5_5 rfl ?_
  refine J_callOi (As := []) 9 i hi rfl kalJ0_coder_7d493 rfl lkJ0_335 dJ0_length_8abf5_6 rfl rfl (by exact Nat.le_of_ble_eq_true rfl) (by omega) (S_coder hi) ?_
  refine J_ishr 10 (lnS.getD i 0) rfl dJ0_length_8abf5_9 ?_ ?_
  · have : ∀ i, i < 12 → nI (lnS.getD i 0) >>> (nI 0 &&& 31) = nI (lnS.getD i 0) := by decide +kernel
    exact this i hi
  · exact J_iret rfl dJ0_length_8abf5_10 ⟨rfl, rfl⟩
theorem S_J3check {k N : Nat} {v : Value} (hv : v = .null ∨ ∃ t, v = .ref t) (hk : k < N) (hN : N < 100) : SJ g mJ3_checkIndex_8e157 0 0 0 [.int (nI k), .int (nI N), v] J (Ri k J) NoX := by
  have body : VJ g mJ3_checkIndex_8e157 0 0 0 (Ri k J) NoX 0 [(0, .int (nI k)), (1, .int (nI N)), (2, v)] [] J := by
    refine J_iload_n 1 rfl dJ3_checkIndex_8e157_0 rfl ?_
    refine J_if_lt 9 4 (by decide) rfl dJ3_checkIndex_8e157_1 (by omega) ?_
    refine J_iload_n 5 rfl dJ3_checkIndex_8e157_4 rfl ?_
    refine J_iload_n 6 rfl dJ3_checkIndex_8e157_5 rfl ?_
    refine J_icmp_lt 16 9 (by decide) rfl dJ3_checkIndex_8e157_6 (by omega) (by omega) (fun _ => ?_) (fun h => absurd hk (by omega))
    refine J_iload_n 17 rfl dJ3_checkIndex_8e157_16 rfl ?_
    exact J_iret rfl dJ3_checkIndex_8e157_17 ⟨rfl, rfl⟩
  rcases hv with rfl | ⟨t, rfl⟩
  · exact SJ_of_VJ (by decide +kernel) (Nat.le_of_ble_eq_true rfl) body
  · exact SJ_of_VJ (by decide +kernel) (Nat.le_of_ble_eq_true rfl) body
theorem S_J0check {k N : Nat} (hk : k < N) (hN : N < 100) : SJ g mJ0_checkIndex_df160 1 0 0 [.int (nI k), .int (nI N)] J (Rv J) NoX := by
  refine SJ_of_VJ (by decide +kernel) (Nat.le_of_ble_eq_true rfl) ?_
  show VJ g mJ0_checkIndex_df160 1 0 0 _ _ 0 [(0, .int (nI k)), (1, .int (nI N))] [] J
  refine J_iload_n 1 rfl dJ0_checkIndex_df160_0 rfl ?_
  refine J_iload_n 2 rfl dJ0_checkIndex_df160_1 rfl ?_
  refine V_strQ 5 rfl dJ0_checkIndex_df160_2 lkJ0_1053 (fun v hv => ?_)
  refine J_callSi (As := [_, _, _]) 8 rfl kalJ3_checkIndex_8e157 lkJ0_1059 dJ0_checkIndex_df160_5 rfl rfl (by exact Nat.le_of_ble_eq_true rfl) (by omega) (S_J3check hv hk hN) ?_
  refine J_pop 9 rfl dJ0_checkIndex_df160_8 rfl ?_
  exact J_vret rfl dJ0_checkIndex_df160_9 ⟨rfl, rfl⟩
theorem S_J1charAt {i k : Nat} (hi : i < 12) (hk : k < lnS.getD i 0) : SJ g mJ1_charAt_3b067 2 0 0 [.ref (vS g.1 i), .int (nI k)] J (Ri ((chS.getD i []).getD k 0) J) NoX := by
  have hN := lnS_lt i hi
  have hc := byS_ch i hi k hk
  refine SJ_of_VJ (by decide +kernel) (Nat.le_of_ble_eq_true rfl) ?_
  show VJ g mJ1_charAt_3b067 2 0 0 _ _ 0 [(0, .ref (vS g.1 i)), (1, .int (nI k))] [] J
  refine J_iload_n 1 rfl dJ1_charAt_3b067_0 rfl ?_
  refine J_aload_n 2 rfl dJ1_charAt_3b067_1 rfl ?_
  refine V_strN 3 i hi rfl dJ1_charAt_3b067_2 ?_
  refine J_callSv (As := [_, _]) 6 rfl kalJ0_checkIndex_df160 lkJ1_9 dJ1_charAt_3b067_3 rfl rfl (by exact Nat.le_of_ble_eq_true rfl) (by omega) (S_J0check hk hN) ?_
  refine J_aload_n 7 rfl dJ1_charAt_3b067_6 rfl ?_
  refine J_iload_n 8 rfl dJ1_charAt_3b067_7 rfl ?_
  refine V_strB 9 i k hi hk hN rfl dJ1_charAt_3b067_8 ?_
  refine J_sipush 12 255 rfl dJ1_charAt_3b067_9 (by decide) ?_
  refine J_iandR 13 rfl dJ1_charAt_3b067_12 ?_
  refine J_i2c 14 _ rfl dJ1_charAt_3b067_13 hc.1 ?_
  exact V_zret rfl hc.2.1 dJ1_charAt_3b067_14 ⟨J, rfl, rfl, rfl⟩
theorem S_charAt {i k : Nat} (hi : i < 12) (hk : k < lnS.getD i 0) : SJ g mJ0_charAt_5068e 3 0 0 [.ref (kS g.1 i), .int (nI k)] J (Ri ((chS.getD i []).getD k 0) J) NoX := by
  have hc := byS_ch i hi k hk
  refine SJ_of_VJ (by decide +kernel) (Nat.le_of_ble_eq_true rfl) ?_
  show VJ g mJ0_charAt_5068e 3 0 0 _ _ 0 [(0, .ref (kS g.1 i)), (1, .int (nI k))] [] J
  refine J_aload_n 1 rfl dJ0_charAt_5068e_0 rfl ?_
  refine J_callOi (As := []) 4 i hi rfl kalJ0_isLatin1_aae02 rfl lkJ0_492 dJ0_charAt_5068e_1 rfl rfl (by exact Nat.le_of_ble_eq_true rfl) (by omega) (S_isLatin1 hi) ?_
  refine J_if_eq 16 7 (by decide) rfl dJ0_charAt_5068e_4 (by omega) (fun h => absurd h (by omega)) (fun _ => ?_)
  refine J_aload_n 8 rfl dJ0_charAt_5068e_7 rfl ?_
  refine V_strV 11 i hi rfl dJ0_charAt_5068e_8 lkJ0_9 ?_
  refine J_iload_n 12 rfl dJ0_charAt_5068e_11 rfl ?_
  refine J_callSi (As := [_, _]) 15 rfl kalJ1_charAt_3b067 lkJ0_495 dJ0_charAt_5068e_12 rfl rfl (by exact Nat.le_of_ble_eq_true rfl) (by omega) (S_J1charAt hi hk) ?_
  exact V_zret rfl hc.2.1 dJ0_charAt_5068e_15 ⟨J, rfl, rfl, rfl⟩
end SSTR
