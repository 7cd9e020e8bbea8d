/-! ROTAS (laid by wip/whole/src/p42.py) -/
theorem S_X9_canKeep {g : Gn} {J : DJ} {b m u : Nat} {v : Nat → Nat} (hb : isH b) (hv : ∀ m, m < 6 → J (b + 2) m = v m ∧ v m < 256) (hm : m < 6) (hu : u < 8) : SJ g mX9_canKeep 0 0 0 [.ref (g.2 (b + 2)), .int (nI (m)), .int (nI (u))] J (Ri (bt ((v m).testBit u = true)) J) NoX := by
  have vm := hv m hm
  have pu := Nat.two_pow_pos u
  have p8 := Nat.pow_lt_pow_right (show 1 < 2 by omega) hu
  have p2 : (if (v m).testBit u then 2 ^ u else 0) < 4294967296 := by
    split <;> omega
  refine SJ_of_VJ (by decide +kernel) (Nat.le_of_ble_eq_true rfl) ?_
  show VJ g mX9_canKeep 0 0 0 _ _ 0 [(0, .ref (g.2 (b + 2))), (1, .int (nI (m))), (2, .int (nI (u)))] [] J
  refine J_aload_n 1 rfl dX9_canKeep_0 rfl ?_
  refine J_iload_n 2 rfl dX9_canKeep_1 rfl ?_
  refine J_iald 3 rfl dX9_canKeep_2 (sa_X3_vigilsOf hb) (by omega) ?_
  refine J_cv (b := v m) vm.1 ?_
  refine J_iconst 4 1 rfl dX9_canKeep_3 ic_1 ?_
  refine J_iload_n 5 rfl dX9_canKeep_4 rfl ?_
  refine J_ishl 6 (2 ^ u) rfl dX9_canKeep_5 (sh1 u (by omega)) ?_
  refine J_iand 7 (if (v m).testBit u then 2 ^ u else 0) rfl dX9_canKeep_6 (and_bit u hu _ vm.2) ?_
  refine J_if_eq 14 10 (by decide) rfl dX9_canKeep_7 p2 (fun c7 => ?_) (fun c7 => ?_)
  · refine J_iconst 15 0 rfl dX9_canKeep_14 ic_0 ?_
    refine J_zret0 rfl dX9_canKeep_15 ?_
    by_cases hb2 : (v m).testBit u = true
    · first
        | exact ⟨congrArg (fun z => some (Value.int (nI z))) (bt_t hb2).symm, rfl⟩
        | (exfalso; rw [if_pos hb2] at c7; omega)
    · first
        | exact ⟨congrArg (fun z => some (Value.int (nI z))) (bt_f hb2).symm, rfl⟩
        | (exfalso; rw [if_neg hb2] at c7; exact c7 rfl)
  · refine J_iconst 11 1 rfl dX9_canKeep_10 ic_1 ?_
    refine J_goto 15 (by decide) dX9_canKeep_11 ?_
    refine J_zret1 rfl dX9_canKeep_15 ?_
    by_cases hb2 : (v m).testBit u = true
    · first
        | exact ⟨congrArg (fun z => some (Value.int (nI z))) (bt_t hb2).symm, rfl⟩
        | (exfalso; rw [if_pos hb2] at c7; omega)
    · first
        | exact ⟨congrArg (fun z => some (Value.int (nI z))) (bt_f hb2).symm, rfl⟩
        | (exfalso; rw [if_neg hb2] at c7; exact c7 rfl)

theorem S_X9_isFree {g : Gn} {J : DJ} {t m : Nat} (ht : t < 256) (hm : m < 8) : SJ g mX9_isFree 0 0 0 [.int (nI (t)), .int (nI (m))] J (Ri (bt (t.testBit m = false)) J) NoX := by
  have pu := Nat.two_pow_pos m
  have p8 := Nat.pow_lt_pow_right (show 1 < 2 by omega) hm
  have p2 : (if t.testBit m then 2 ^ m else 0) < 4294967296 := by
    split <;> omega
  refine SJ_of_VJ (by decide +kernel) (Nat.le_of_ble_eq_true rfl) ?_
  show VJ g mX9_isFree 0 0 0 _ _ 0 [(0, .int (nI (t))), (1, .int (nI (m)))] [] J
  refine J_iload_n 1 rfl dX9_isFree_0 rfl ?_
  refine J_iconst 2 1 rfl dX9_isFree_1 ic_1 ?_
  refine J_iload_n 3 rfl dX9_isFree_2 rfl ?_
  refine J_ishl 4 (2 ^ m) rfl dX9_isFree_3 (sh1 m (by omega)) ?_
  refine J_iand 5 (if t.testBit m then 2 ^ m else 0) rfl dX9_isFree_4 (and_bit m hm _ ht) ?_
  refine J_if_ne 12 8 (by decide) rfl dX9_isFree_5 p2 (fun c5 => ?_) (fun c5 => ?_)
  · refine J_iconst 13 0 rfl dX9_isFree_12 ic_0 ?_
    refine J_zret0 rfl dX9_isFree_13 ?_
    by_cases hb2 : t.testBit m = true
    · have nb : ¬ t.testBit m = false := by rw [hb2]; decide
      first
        | exact ⟨congrArg (fun z => some (Value.int (nI z))) (bt_f nb).symm, rfl⟩
        | (exfalso; rw [if_pos hb2] at c5; omega)
    · first
        | exact ⟨congrArg (fun z => some (Value.int (nI z))) (bt_t (Bool.eq_false_iff.mpr hb2)).symm, rfl⟩
        | (exfalso; rw [if_neg hb2] at c5; exact c5 rfl)
  · refine J_iconst 9 1 rfl dX9_isFree_8 ic_1 ?_
    refine J_goto 13 (by decide) dX9_isFree_9 ?_
    refine J_zret1 rfl dX9_isFree_13 ?_
    by_cases hb2 : t.testBit m = true
    · have nb : ¬ t.testBit m = false := by rw [hb2]; decide
      first
        | exact ⟨congrArg (fun z => some (Value.int (nI z))) (bt_f nb).symm, rfl⟩
        | (exfalso; rw [if_pos hb2] at c5; omega)
    · first
        | exact ⟨congrArg (fun z => some (Value.int (nI z))) (bt_t (Bool.eq_false_iff.mpr hb2)).symm, rfl⟩
        | (exfalso; rw [if_neg hb2] at c5; exact c5 rfl)

theorem S_X9_mostFrom {g : Gn} {J : DJ} {b u t : Nat} {v : Nat → Nat} (hb : isH b) (hv : ∀ m, m < 6 → J (b + 2) m = v m ∧ v m < 256) (hu : u < 8) (ht : t < 64) (hT : ∀ s, s < 64 → J 337 ((u + 1) * 64 + s) = rW v (7 - u) s) : SJ g mX9_mostFrom 1 0 0 [.ref (g.2 336), .int (nI (u)), .int (nI (t)), .ref (g.2 (b + 2))] J (Ri (rM v (rW v (7 - u)) u t 6) J) NoX := by
  refine SJ_of_VJ (by decide +kernel) (Nat.le_of_ble_eq_true rfl) ?_
  show VJ g mX9_mostFrom 1 0 0 _ _ 0 [(0, .ref (g.2 336)), (1, .int (nI (u))), (2, .int (nI (t))), (3, .ref (g.2 (b + 2)))] [] J
  have loop : ∀ (n9 : Nat) (j : Nat), 6 - j = n9 → j ≤ 6 → VJ g mX9_mostFrom 1 0 0 (Ri (rM v (rW v (7 - u)) u t 6) J) NoX 22 [(0, .ref (g.2 336)), (1, .int (nI (u))), (2, .int (nI (t))), (3, .ref (g.2 (b + 2))), (4, .int (nI ((u + 1) * 64))), (5, .int (nI (rM v (rW v (7 - u)) u t j))), (6, .int (nI (j)))] [] J := by
    intro n9
    induction n9 using Nat.strongRecOn with
    | ind n9 ih =>
    intro j hi hle
    refine J_iload 24 rfl dX9_mostFrom_22 rfl ?_
    refine J_bipush 26 6 rfl dX9_mostFrom_24 bc_6 ?_
    refine J_icmp_ge 77 29 (by decide) rfl dX9_mostFrom_26 (by omega) (by omega) (fun c26 => ?_) (fun c26 => ?_)
    · refine J_iload 79 rfl dX9_mostFrom_77 rfl ?_
      refine J_iret rfl dX9_mostFrom_79 ?_
      have e : j = 6 := by omega
      subst e
      exact ⟨rfl, rfl⟩
    · refine J_iload_n 30 rfl dX9_mostFrom_29 rfl ?_
      refine J_iload 32 rfl dX9_mostFrom_30 rfl ?_
      refine J_callSi (As := [_, _]) 35 rfl kalX9_isFree lkX9_36 dX9_mostFrom_32 rfl rfl (by exact Nat.le_of_ble_eq_true rfl) (by omega) (S_X9_isFree (by omega) (by omega)) ?_
      refine J_ifb_eq (hdp := _) 71 38 (by decide) rfl dX9_mostFrom_35 (fun c35 => ?_) (fun c35 => ?_)
      · refine J_iinc 74 1 rfl dX9_mostFrom_71 ic_1 rfl (Nat.le_of_ble_eq_true rfl) ?_
        refine J_goto 22 (by decide) dX9_mostFrom_74 ?_
        have nx := ih _ (by omega) (j + 1) rfl (by omega)
        rw [show rM v (rW v (7 - u)) u t (j + 1) = if t.testBit j = false ∧ (v j).testBit u = true then max (rM v (rW v (7 - u)) u t j) (1 + rW v (7 - u) (t ||| 2 ^ j)) else rM v (rW v (7 - u)) u t j from rfl] at nx
        first
          | rw [if_pos ⟨by assumption, by assumption⟩] at nx; exact nx
          | (rw [if_neg (fun z => absurd z.1 (by assumption))] at nx; exact nx)
          | (rw [if_neg (fun z => absurd z.2 (by assumption))] at nx; exact nx)
      · refine J_aload_n 39 rfl dX9_mostFrom_38 rfl ?_
        refine J_iload 41 rfl dX9_mostFrom_39 rfl ?_
        refine J_iload_n 42 rfl dX9_mostFrom_41 rfl ?_
        refine J_callSi (As := [_, _, _]) 45 rfl kalX9_canKeep lkX9_28 dX9_mostFrom_42 rfl rfl (by exact Nat.le_of_ble_eq_true rfl) (by omega) (S_X9_canKeep hb hv (by omega) hu) ?_
        refine J_ifb_eq (hdp := _) 71 48 (by decide) rfl dX9_mostFrom_45 (fun c45 => ?_) (fun c45 => ?_)
        · refine J_iinc 74 1 rfl dX9_mostFrom_71 ic_1 rfl (Nat.le_of_ble_eq_true rfl) ?_
          refine J_goto 22 (by decide) dX9_mostFrom_74 ?_
          have nx := ih _ (by omega) (j + 1) rfl (by omega)
          rw [show rM v (rW v (7 - u)) u t (j + 1) = if t.testBit j = false ∧ (v j).testBit u = true then max (rM v (rW v (7 - u)) u t j) (1 + rW v (7 - u) (t ||| 2 ^ j)) else rM v (rW v (7 - u)) u t j from rfl] at nx
          first
            | rw [if_pos ⟨by assumption, by assumption⟩] at nx; exact nx
            | (rw [if_neg (fun z => absurd z.1 (by assumption))] at nx; exact nx)
            | (rw [if_neg (fun z => absurd z.2 (by assumption))] at nx; exact nx)
        · have o6 := or64 ht (show j < 6 by omega)
          have wl := rW_le v (7 - u) (t ||| 2 ^ j)
          have ml : rM v (rW v (7 - u)) u t j ≤ 8 := rM_le (by have := rW_le v (7 - u) t; omega) j (fun i _ _ _ => by have := rW_le v (7 - u) (t ||| 2 ^ i); omega)
          refine J_iload 50 rfl dX9_mostFrom_48 rfl ?_
          refine J_iconst 51 1 rfl dX9_mostFrom_50 ic_1 ?_
          refine J_aload_n 52 rfl dX9_mostFrom_51 rfl ?_
          refine g_X9_table 55 rfl dX9_mostFrom_52 lkX9_11 ?_
          refine J_iload 57 rfl dX9_mostFrom_55 rfl ?_
          refine J_iload_n 58 rfl dX9_mostFrom_57 rfl ?_
          refine J_iconst 59 1 rfl dX9_mostFrom_58 ic_1 ?_
          refine J_iload 61 rfl dX9_mostFrom_59 rfl ?_
          refine J_ishl 62 (2 ^ j) rfl dX9_mostFrom_61 (sh1 j (by omega)) ?_
          refine J_ior 63 (t ||| 2 ^ j) rfl dX9_mostFrom_62 (or_bit j (by omega) _ (by omega)).1 ?_
          refine J_iadd 64 rfl dX9_mostFrom_63 ?_
          refine J_iald 65 rfl dX9_mostFrom_64 (sa_X9_table) (by omega) ?_
          refine J_cv (b := rW v (7 - u) (t ||| 2 ^ j)) (hT _ o6) ?_
          refine J_iadd 66 rfl dX9_mostFrom_65 ?_
          refine J_mmax 69 rfl dX9_mostFrom_66 lkX9_40 (by exact Nat.le_of_ble_eq_true rfl) (by omega) (by omega) (by omega) ?_
          refine J_istore 71 rfl dX9_mostFrom_69 (Nat.le_of_ble_eq_true rfl) ?_
          refine J_iinc 74 1 rfl dX9_mostFrom_71 ic_1 rfl (Nat.le_of_ble_eq_true rfl) ?_
          refine J_goto 22 (by decide) dX9_mostFrom_74 ?_
          have nx := ih _ (by omega) (j + 1) rfl (by omega)
          rw [show rM v (rW v (7 - u)) u t (j + 1) = if t.testBit j = false ∧ (v j).testBit u = true then max (rM v (rW v (7 - u)) u t j) (1 + rW v (7 - u) (t ||| 2 ^ j)) else rM v (rW v (7 - u)) u t j from rfl] at nx
          first
            | rw [if_pos ⟨by assumption, by assumption⟩] at nx; exact nx
            | (rw [if_neg (fun z => absurd z.1 (by assumption))] at nx; exact nx)
            | (rw [if_neg (fun z => absurd z.2 (by assumption))] at nx; exact nx)
  refine J_iload_n 1 rfl dX9_mostFrom_0 rfl ?_
  refine J_iconst 2 1 rfl dX9_mostFrom_1 ic_1 ?_
  refine J_iadd 3 rfl dX9_mostFrom_2 ?_
  refine J_bipush 5 64 rfl dX9_mostFrom_3 bc_64 ?_
  refine J_imul 6 rfl dX9_mostFrom_5 ?_
  refine J_istore 8 rfl dX9_mostFrom_6 (Nat.le_of_ble_eq_true rfl) ?_
  refine J_aload_n 9 rfl dX9_mostFrom_8 rfl ?_
  refine g_X9_table 12 rfl dX9_mostFrom_9 lkX9_11 ?_
  refine J_iload 14 rfl dX9_mostFrom_12 rfl ?_
  refine J_iload_n 15 rfl dX9_mostFrom_14 rfl ?_
  refine J_iadd 16 rfl dX9_mostFrom_15 ?_
  refine J_iald 17 rfl dX9_mostFrom_16 (sa_X9_table) (by omega) ?_
  refine J_cv (b := rW v (7 - u) t) (hT _ ht) ?_
  refine J_istore 19 rfl dX9_mostFrom_17 (Nat.le_of_ble_eq_true rfl) ?_
  refine J_iconst 20 0 rfl dX9_mostFrom_19 ic_0 ?_
  refine J_istore 22 rfl dX9_mostFrom_20 (Nat.le_of_ble_eq_true rfl) ?_
  exact loop _ 0 rfl (Nat.zero_le _)

theorem S_X9_mostByTable {g : Gn} {J : DJ} {b : Nat} {v : Nat → Nat} (hb : isH b) (hv : ∀ m, m < 6 → J (b + 2) m = v m ∧ v m < 256) : SJ g mX9_mostByTable 2 0 0 [.ref (g.2 336), .ref (g.2 (b + 2))] J (Rp (rW v 8 0) (fun J2 => ∃ T, J2 = sR J 337 T ∧ ∀ u, u ≤ 8 → ∀ s, s < 64 → T (u * 64 + s) = rW v (8 - u) s)) NoX := by
  have hb3 := isH_le hb
  refine SJ_of_VJ (by decide +kernel) (Nat.le_of_ble_eq_true rfl) ?_
  show VJ g mX9_mostByTable 2 0 0 _ _ 0 [(0, .ref (g.2 336)), (1, .ref (g.2 (b + 2)))] [] J
  have kend : ∀ T : Nat → Nat, (∀ u, 0 ≤ u → u ≤ 8 → ∀ s, s < 64 → T (u * 64 + s) = rW v (8 - u) s) → VJ g mX9_mostByTable 2 0 0 (Rp (rW v 8 0) (fun J2 => ∃ T, J2 = sR J 337 T ∧ ∀ u, u ≤ 8 → ∀ s, s < 64 → T (u * 64 + s) = rW v (8 - u) s)) NoX 28 [(0, .ref (g.2 336)), (1, .ref (g.2 (b + 2))), (2, .int (nI 4294967295))] [] (sR J 337 T) := by
    intro T hT
    refine J_iload_n 29 rfl dX9_mostByTable_28 rfl ?_
    refine J_ifR_lt 70 32 (by decide) rfl dX9_mostByTable_29 (fun _ => ?_) (fun c => absurd (by decide) c)
    refine J_aload_n 71 rfl dX9_mostByTable_70 rfl ?_
    refine g_X9_table 74 rfl dX9_mostByTable_71 lkX9_11 ?_
    refine J_iconst 75 0 rfl dX9_mostByTable_74 ic_0 ?_
    refine J_iald 76 rfl dX9_mostByTable_75 (sa_X9_table) (by omega) ?_
    refine J_cv (b := rW v 8 0) (hT 0 (by omega) (by omega) 0 (by omega)) ?_
    refine J_iret rfl dX9_mostByTable_76 ?_
    exact ⟨rfl, T, rfl, fun u h => hT u (Nat.zero_le u) h⟩
  have loop : ∀ (k : Nat) (T : Nat → Nat), k < 8 → (∀ u, k + 1 ≤ u → u ≤ 8 → ∀ s, s < 64 → T (u * 64 + s) = rW v (8 - u) s) → VJ g mX9_mostByTable 2 0 0 (Rp (rW v 8 0) (fun J2 => ∃ T, J2 = sR J 337 T ∧ ∀ u, u ≤ 8 → ∀ s, s < 64 → T (u * 64 + s) = rW v (8 - u) s)) NoX 28 [(0, .ref (g.2 336)), (1, .ref (g.2 (b + 2))), (2, .int (nI (k)))] [] (sR J 337 T) := by
    intro k9
    have aux : ∀ (n9 k : Nat) (T : Nat → Nat), k = n9 → k < 8 → (∀ u, k + 1 ≤ u → u ≤ 8 → ∀ s, s < 64 → T (u * 64 + s) = rW v (8 - u) s) → VJ g mX9_mostByTable 2 0 0 (Rp (rW v 8 0) (fun J2 => ∃ T, J2 = sR J 337 T ∧ ∀ u, u ≤ 8 → ∀ s, s < 64 → T (u * 64 + s) = rW v (8 - u) s)) NoX 28 [(0, .ref (g.2 336)), (1, .ref (g.2 (b + 2))), (2, .int (nI (k)))] [] (sR J 337 T) := by
      intro n9
      induction n9 using Nat.strongRecOn with
      | ind n9 ih =>
      intro k T hk hk8 hT0
      have kont : ∀ T : Nat → Nat, (∀ u, k ≤ u → u ≤ 8 → ∀ s, s < 64 → T (u * 64 + s) = rW v (8 - u) s) → VJ g mX9_mostByTable 2 0 0 (Rp (rW v 8 0) (fun J2 => ∃ T, J2 = sR J 337 T ∧ ∀ u, u ≤ 8 → ∀ s, s < 64 → T (u * 64 + s) = rW v (8 - u) s)) NoX 64 [(0, .ref (g.2 336)), (1, .ref (g.2 (b + 2))), (2, .int (nI k)), (3, .int (nI 64))] [] (sR J 337 T) := by
        intro T hT
        by_cases k0 : k = 0
        · subst k0
          refine J_iincM0 67 rfl dX9_mostByTable_64 rfl (Nat.le_of_ble_eq_true rfl) ?_
          refine J_goto 28 (by decide) dX9_mostByTable_67 ?_
          refine J_keep [0, 1, 2] ?_
          exact kend T hT
        · skip
          refine J_iincM 67 rfl dX9_mostByTable_64 rfl (Nat.le_of_ble_eq_true rfl) (by omega) ?_
          refine J_goto 28 (by decide) dX9_mostByTable_67 ?_
          refine J_keep [0, 1, 2] ?_
          refine ih (k - 1) (by omega) (k - 1) T (by omega) (by omega) (fun u hu => ?_)
          exact hT u (by omega)
      have inner : ∀ (n9 : Nat) (t : Nat) (T : Nat → Nat), 64 - t = n9 → t ≤ 64 → (∀ u, k + 1 ≤ u → u ≤ 8 → ∀ s, s < 64 → T (u * 64 + s) = rW v (8 - u) s) → (∀ s, s < t → T (k * 64 + s) = rW v (8 - k) s) → VJ g mX9_mostByTable 2 0 0 (Rp (rW v 8 0) (fun J2 => ∃ T, J2 = sR J 337 T ∧ ∀ u, u ≤ 8 → ∀ s, s < 64 → T (u * 64 + s) = rW v (8 - u) s)) NoX 34 [(0, .ref (g.2 336)), (1, .ref (g.2 (b + 2))), (2, .int (nI (k))), (3, .int (nI (t)))] [] (sR J 337 T) := by
        intro n9
        induction n9 using Nat.strongRecOn with
        | ind n9 iht =>
        intro t T hi2 hle2 hT hs64
        refine J_iload_n 35 rfl dX9_mostByTable_34 rfl ?_
        refine J_bipush 37 64 rfl dX9_mostByTable_35 bc_64 ?_
        refine J_icmp_ge 64 40 (by decide) rfl dX9_mostByTable_37 (by omega) (by omega) (fun c37 => ?_) (fun c37 => ?_)
        · have e : t = 64 := by omega
          subst e
          refine kont T (fun u hu hu8 s hs => ?_)
          by_cases z : u = k
          · rw [z]; exact hs64 s hs
          · exact hT u (by omega) hu8 s hs
        · refine J_aload_n 41 rfl dX9_mostByTable_40 rfl ?_
          refine g_X9_table 44 rfl dX9_mostByTable_41 lkX9_11 ?_
          refine J_iload_n 45 rfl dX9_mostByTable_44 rfl ?_
          refine J_bipush 47 64 rfl dX9_mostByTable_45 bc_64 ?_
          refine J_imul 48 rfl dX9_mostByTable_47 ?_
          refine J_iload_n 49 rfl dX9_mostByTable_48 rfl ?_
          refine J_iadd 50 rfl dX9_mostByTable_49 ?_
          refine J_aload_n 51 rfl dX9_mostByTable_50 rfl ?_
          refine J_iload_n 52 rfl dX9_mostByTable_51 rfl ?_
          refine J_iload_n 53 rfl dX9_mostByTable_52 rfl ?_
          refine J_aload_n 54 rfl dX9_mostByTable_53 rfl ?_
          refine J_callVi (As := [_, _, _]) 57 _ rfl kalX9_mostFrom lkX9_32 dX9_mostByTable_54 (lt_X9) (so_X9) rfl rfl rfl (by exact Nat.le_of_ble_eq_true rfl) (by omega) (S_X9_mostFrom hb (fun m hm => by rw [sR_ne (by omega)]; exact hv m hm) (by omega) (by omega) (fun s hs => by rw [sR_at, hT (k + 1) (by omega) (by omega) s hs, show 8 - (k + 1) = 7 - k by omega])) ?_
          refine J_iast 58 rfl dX9_mostByTable_57 (sa_X9_table) (by omega) ?_
          refine J_iinc 61 1 rfl dX9_mostByTable_58 ic_1 rfl (Nat.le_of_ble_eq_true rfl) ?_
          refine J_goto 34 (by decide) dX9_mostByTable_61 ?_
          rw [up2_in]
          refine iht _ (by omega) (t + 1) _ rfl (by omega) (fun u hu hu8 s hs => ?_) (fun s hs => ?_)
          · rw [up1_ne (by omega)]; exact hT u hu hu8 s hs
          · rw [up1_app]
            by_cases z : s = t
            · rw [z, if_pos rfl, show 8 - k = (7 - k) + 1 by omega]
              show rM v (rW v (7 - k)) k t 6 = rM v (rW v (7 - k)) (7 - (7 - k)) t 6
              rw [show 7 - (7 - k) = k by omega]
            · rw [if_neg (by omega)]; exact hs64 s (by omega)
      refine J_iload_n 29 rfl dX9_mostByTable_28 rfl ?_
      refine J_if_lt 70 32 (by decide) rfl dX9_mostByTable_29 (by omega) ?_
      refine J_iconst 33 0 rfl dX9_mostByTable_32 ic_0 ?_
      refine J_istore_n 34 rfl dX9_mostByTable_33 rfl (Nat.le_of_ble_eq_true rfl) ?_
      exact inner _ 0 T rfl (Nat.zero_le _) hT0 (fun s hs => absurd hs (by omega))
    exact fun T hk hT => aux k9 k9 T rfl hk hT
  have zero : ∀ (n9 : Nat) (i : Nat) (T : Nat → Nat), 64 - i = n9 → i ≤ 64 → (∀ s, s < i → T (512 + s) = 0) → VJ g mX9_mostByTable 2 0 0 (Rp (rW v 8 0) (fun J2 => ∃ T, J2 = sR J 337 T ∧ ∀ u, u ≤ 8 → ∀ s, s < 64 → T (u * 64 + s) = rW v (8 - u) s)) NoX 2 [(0, .ref (g.2 336)), (1, .ref (g.2 (b + 2))), (2, .int (nI (i)))] [] (sR J 337 T) := by
    intro n9
    induction n9 using Nat.strongRecOn with
    | ind n9 ihz =>
    intro i T hi hle hz
    refine J_iload_n 3 rfl dX9_mostByTable_2 rfl ?_
    refine J_bipush 5 64 rfl dX9_mostByTable_3 bc_64 ?_
    refine J_icmp_ge 25 8 (by decide) rfl dX9_mostByTable_5 (by omega) (by omega) (fun c5 => ?_) (fun c5 => ?_)
    · refine J_bipush 27 7 rfl dX9_mostByTable_25 bc_7 ?_
      refine J_istore_n 28 rfl dX9_mostByTable_27 rfl (Nat.le_of_ble_eq_true rfl) ?_
      refine J_keep [0, 1, 2] ?_
      refine loop 7 T (by omega) (fun u h1 h2 s hs => ?_)
      rw [show u = 8 by omega, show 8 * 64 + s = 512 + s by omega, hz s (by omega)]
      rfl
    · refine J_aload_n 9 rfl dX9_mostByTable_8 rfl ?_
      refine g_X9_table 12 rfl dX9_mostByTable_9 lkX9_11 ?_
      refine J_sipush 15 512 rfl dX9_mostByTable_12 sc_512 ?_
      refine J_iload_n 16 rfl dX9_mostByTable_15 rfl ?_
      refine J_iadd 17 rfl dX9_mostByTable_16 ?_
      refine J_iconst 18 0 rfl dX9_mostByTable_17 ic_0 ?_
      refine J_iast 19 rfl dX9_mostByTable_18 (sa_X9_table) (by omega) ?_
      refine J_iinc 22 1 rfl dX9_mostByTable_19 ic_1 rfl (Nat.le_of_ble_eq_true rfl) ?_
      refine J_goto 2 (by decide) dX9_mostByTable_22 ?_
      rw [up2_in]
      refine ihz _ (by omega) (i + 1) _ rfl (by omega) (fun s hs => ?_)
      rw [up1_app]
      by_cases z : s = i
      · rw [if_pos (by omega)]
      · rw [if_neg (by omega)]; exact hz s (by omega)
  refine J_iconst 1 0 rfl dX9_mostByTable_0 ic_0 ?_
  refine J_istore_n 2 rfl dX9_mostByTable_1 rfl (Nat.le_of_ble_eq_true rfl) ?_
  have l9 := zero _ 0 (J 337) rfl (Nat.zero_le _) (fun j hj => absurd hj (by omega))
  rw [sR_id] at l9
  exact l9

theorem S_X9_lowestKeeper {g : Gn} {J : DJ} {b u t : Nat} {v : Nat → Nat} (hb : isH b) (hv : ∀ m, m < 6 → J (b + 2) m = v m ∧ v m < 256) (hu : u < 8) (ht : t < 64) (hT : ∀ u, u ≤ 8 → ∀ s, s < 64 → J 337 (u * 64 + s) = rW v (8 - u) s) : SJ g mX9_lowestKeeper 1 0 0 [.ref (g.2 336), .int (nI (u)), .int (nI (t)), .ref (g.2 (b + 2))] J (Ri (lkF v u t 6) J) NoX := by
  refine SJ_of_VJ (by decide +kernel) (Nat.le_of_ble_eq_true rfl) ?_
  show VJ g mX9_lowestKeeper 1 0 0 _ _ 0 [(0, .ref (g.2 336)), (1, .int (nI (u))), (2, .int (nI (t))), (3, .ref (g.2 (b + 2)))] [] J
  have loop : ∀ (n9 : Nat) (j : Nat), 6 - j = n9 → j ≤ 6 → lkF v u t 6 = lkF v u t (6 - j) → VJ g mX9_lowestKeeper 1 0 0 (Ri (lkF v u t 6) J) NoX 16 [(0, .ref (g.2 336)), (1, .int (nI (u))), (2, .int (nI (t))), (3, .ref (g.2 (b + 2))), (4, .int (nI (rW v (8 - u) t))), (5, .int (nI (j)))] [] J := by
    intro n9
    induction n9 using Nat.strongRecOn with
    | ind n9 ih =>
    intro j hi hle hl
    refine J_iload 18 rfl dX9_lowestKeeper_16 rfl ?_
    refine J_bipush 20 6 rfl dX9_lowestKeeper_18 bc_6 ?_
    refine J_icmp_ge 76 23 (by decide) rfl dX9_lowestKeeper_20 (by omega) (by omega) (fun c20 => ?_) (fun c20 => ?_)
    · refine J_iconst 77 4294967295 rfl dX9_lowestKeeper_76 ic_m1 ?_
      refine J_iret rfl dX9_lowestKeeper_77 ?_
      refine ⟨?_, rfl⟩
      rw [hl, show 6 - j = 0 by omega]
      rfl
    · have lk : lkF v u t (6 - j) = if t.testBit j = false ∧ (v j).testBit u = true ∧ 1 + rW v (7 - u) (t ||| 2 ^ j) = rW v (8 - u) t then j else lkF v u t (5 - j) := by
        rw [show 6 - j = (5 - j) + 1 by omega]
        simp only [lkF]
        rw [show 5 - (5 - j) = j by omega]
      refine J_iload_n 24 rfl dX9_lowestKeeper_23 rfl ?_
      refine J_iload 26 rfl dX9_lowestKeeper_24 rfl ?_
      refine J_callSi (As := [_, _]) 29 rfl kalX9_isFree lkX9_36 dX9_lowestKeeper_26 rfl rfl (by exact Nat.le_of_ble_eq_true rfl) (by omega) (S_X9_isFree (by omega) (by omega)) ?_
      refine J_ifb_eq (hdp := _) 70 32 (by decide) rfl dX9_lowestKeeper_29 (fun c29 => ?_) (fun c29 => ?_)
      · refine J_iinc 73 1 rfl dX9_lowestKeeper_70 ic_1 rfl (Nat.le_of_ble_eq_true rfl) ?_
        refine J_goto 16 (by decide) dX9_lowestKeeper_73 ?_
        refine ih _ (by omega) (j + 1) rfl (by omega) ?_
        rw [hl, lk, if_neg, show 6 - (j + 1) = 5 - j by omega]
        rintro ⟨z1, z2, z3⟩
        first
          | exact absurd z1 (by assumption)
          | exact absurd z2 (by assumption)
          | exact absurd z3 (by assumption)
      · refine J_aload_n 33 rfl dX9_lowestKeeper_32 rfl ?_
        refine J_iload 35 rfl dX9_lowestKeeper_33 rfl ?_
        refine J_iload_n 36 rfl dX9_lowestKeeper_35 rfl ?_
        refine J_callSi (As := [_, _, _]) 39 rfl kalX9_canKeep lkX9_28 dX9_lowestKeeper_36 rfl rfl (by exact Nat.le_of_ble_eq_true rfl) (by omega) (S_X9_canKeep hb hv (by omega) hu) ?_
        refine J_ifb_eq (hdp := _) 70 42 (by decide) rfl dX9_lowestKeeper_39 (fun c39 => ?_) (fun c39 => ?_)
        · refine J_iinc 73 1 rfl dX9_lowestKeeper_70 ic_1 rfl (Nat.le_of_ble_eq_true rfl) ?_
          refine J_goto 16 (by decide) dX9_lowestKeeper_73 ?_
          refine ih _ (by omega) (j + 1) rfl (by omega) ?_
          rw [hl, lk, if_neg, show 6 - (j + 1) = 5 - j by omega]
          rintro ⟨z1, z2, z3⟩
          first
            | exact absurd z1 (by assumption)
            | exact absurd z2 (by assumption)
            | exact absurd z3 (by assumption)
        · have o6 := or64 ht (show j < 6 by omega)
          have wl := rW_le v (7 - u) (t ||| 2 ^ j)
          have wl2 := rW_le v (8 - u) t
          refine J_iconst 43 1 rfl dX9_lowestKeeper_42 ic_1 ?_
          refine J_aload_n 44 rfl dX9_lowestKeeper_43 rfl ?_
          refine g_X9_table 47 rfl dX9_lowestKeeper_44 lkX9_11 ?_
          refine J_iload_n 48 rfl dX9_lowestKeeper_47 rfl ?_
          refine J_iconst 49 1 rfl dX9_lowestKeeper_48 ic_1 ?_
          refine J_iadd 50 rfl dX9_lowestKeeper_49 ?_
          refine J_bipush 52 64 rfl dX9_lowestKeeper_50 bc_64 ?_
          refine J_imul 53 rfl dX9_lowestKeeper_52 ?_
          refine J_iload_n 54 rfl dX9_lowestKeeper_53 rfl ?_
          refine J_iconst 55 1 rfl dX9_lowestKeeper_54 ic_1 ?_
          refine J_iload 57 rfl dX9_lowestKeeper_55 rfl ?_
          refine J_ishl 58 (2 ^ j) rfl dX9_lowestKeeper_57 (sh1 j (by omega)) ?_
          refine J_ior 59 (t ||| 2 ^ j) rfl dX9_lowestKeeper_58 (or_bit j (by omega) _ (by omega)).1 ?_
          refine J_iadd 60 rfl dX9_lowestKeeper_59 ?_
          refine J_iald 61 rfl dX9_lowestKeeper_60 (sa_X9_table) (by omega) ?_
          refine J_cv (b := rW v (7 - u) (t ||| 2 ^ j)) (by rw [hT (u + 1) (by omega) _ o6, show 8 - (u + 1) = 7 - u by omega]) ?_
          refine J_iadd 62 rfl dX9_lowestKeeper_61 ?_
          refine J_iload 64 rfl dX9_lowestKeeper_62 rfl ?_
          refine J_icmp_ne 70 67 (by decide) rfl dX9_lowestKeeper_64 (by omega) (by omega) (fun c64 => ?_) (fun c64 => ?_)
          · refine J_iinc 73 1 rfl dX9_lowestKeeper_70 ic_1 rfl (Nat.le_of_ble_eq_true rfl) ?_
            refine J_goto 16 (by decide) dX9_lowestKeeper_73 ?_
            refine ih _ (by omega) (j + 1) rfl (by omega) ?_
            rw [hl, lk, if_neg, show 6 - (j + 1) = 5 - j by omega]
            rintro ⟨z1, z2, z3⟩
            first
              | exact absurd z1 (by assumption)
              | exact absurd z2 (by assumption)
              | exact absurd z3 (by assumption)
          · refine J_iload 69 rfl dX9_lowestKeeper_67 rfl ?_
            refine J_iret rfl dX9_lowestKeeper_69 ?_
            refine ⟨?_, rfl⟩
            rw [hl, lk, if_pos ⟨by assumption, by assumption, by assumption⟩]
  refine J_aload_n 1 rfl dX9_lowestKeeper_0 rfl ?_
  refine g_X9_table 4 rfl dX9_lowestKeeper_1 lkX9_11 ?_
  refine J_iload_n 5 rfl dX9_lowestKeeper_4 rfl ?_
  refine J_bipush 7 64 rfl dX9_lowestKeeper_5 bc_64 ?_
  refine J_imul 8 rfl dX9_lowestKeeper_7 ?_
  refine J_iload_n 9 rfl dX9_lowestKeeper_8 rfl ?_
  refine J_iadd 10 rfl dX9_lowestKeeper_9 ?_
  refine J_iald 11 rfl dX9_lowestKeeper_10 (sa_X9_table) (by omega) ?_
  refine J_cv (b := rW v (8 - u) t) (hT u (by omega) t ht) ?_
  refine J_istore 13 rfl dX9_lowestKeeper_11 (Nat.le_of_ble_eq_true rfl) ?_
  refine J_iconst 14 0 rfl dX9_lowestKeeper_13 ic_0 ?_
  refine J_istore 16 rfl dX9_lowestKeeper_14 (Nat.le_of_ble_eq_true rfl) ?_
  exact loop _ 0 rfl (Nat.zero_le _) rfl

theorem S_X9_findBest {g : Gn} {J : DJ} {b : Nat} {v : Nat → Nat} (hb : isH b) (hv : ∀ m, m < 6 → J (b + 2) m = v m ∧ v m < 256) : SJ g mX9_findBest 3 0 0 [.ref (g.2 336), .ref (g.2 (b + 2))] J (Rq (fun J2 => ∃ T r, J2 = sR (sR J 337 T) 340 r ∧ ∀ u, u < 8 → r u = kp v u)) NoX := by
  have hb3 := isH_le hb
  refine SJ_of_VJ (by decide +kernel) (Nat.le_of_ble_eq_true rfl) ?_
  show VJ g mX9_findBest 3 0 0 _ _ 0 [(0, .ref (g.2 336)), (1, .ref (g.2 (b + 2)))] [] J
  refine J_aload_n 1 rfl dX9_findBest_0 rfl ?_
  refine J_aload_n 2 rfl dX9_findBest_1 rfl ?_
  refine J_callVip (As := [_]) 5 _ rfl kalX9_mostByTable lkX9_46 dX9_findBest_2 (lt_X9) (so_X9) rfl rfl rfl (by exact Nat.le_of_ble_eq_true rfl) (by omega) (S_X9_mostByTable hb hv) (fun J2 q2 => ?_)
  obtain ⟨T, eT, hT⟩ := q2
  subst eT
  refine J_pop 6 rfl dX9_findBest_5 rfl ?_
  refine J_iconst 7 0 rfl dX9_findBest_6 ic_0 ?_
  refine J_istore_n 8 rfl dX9_findBest_7 rfl (Nat.le_of_ble_eq_true rfl) ?_
  refine J_iconst 9 0 rfl dX9_findBest_8 ic_0 ?_
  refine J_istore_n 10 rfl dX9_findBest_9 rfl (Nat.le_of_ble_eq_true rfl) ?_
  have loop : ∀ (n9 : Nat) (u : Nat) (r : Nat → Nat), 8 - u = n9 → u ≤ 8 → (∀ w, w < u → r w = kp v w) → VJ g mX9_findBest 3 0 0 (Rq (fun J2 => ∃ T r, J2 = sR (sR J 337 T) 340 r ∧ ∀ u, u < 8 → r u = kp v u)) NoX 10 [(0, .ref (g.2 336)), (1, .ref (g.2 (b + 2))), (2, .int (nI (kpT v u))), (3, .int (nI u))] [] (sR (sR J 337 T) 340 r) := by
    intro n9
    induction n9 using Nat.strongRecOn with
    | ind n9 ih =>
    intro u r hi hle hr
    refine J_iload_n 11 rfl dX9_findBest_10 rfl ?_
    refine J_bipush 13 8 rfl dX9_findBest_11 bc_8 ?_
    refine J_icmp_ge 52 16 (by decide) rfl dX9_findBest_13 (by omega) (by omega) (fun c13 => ?_) (fun c13 => ?_)
    · refine J_vret rfl dX9_findBest_52 ?_
      exact ⟨rfl, T, r, rfl, fun w hw => hr w (by omega)⟩
    · have kt := kpT_lt v u
      have kl := lkF_lt v u (kpT v u) 6
      refine J_aload_n 17 rfl dX9_findBest_16 rfl ?_
      refine J_iload_n 18 rfl dX9_findBest_17 rfl ?_
      refine J_iload_n 19 rfl dX9_findBest_18 rfl ?_
      refine J_aload_n 20 rfl dX9_findBest_19 rfl ?_
      refine J_callVi (As := [_, _, _]) 23 _ rfl kalX9_lowestKeeper lkX9_50 dX9_findBest_20 (lt_X9) (so_X9) rfl rfl rfl (by exact Nat.le_of_ble_eq_true rfl) (by omega) (S_X9_lowestKeeper hb (fun m hm => by rw [sR_ne (by omega), sR_ne (by omega)]; exact hv m hm) (by omega) kt (fun u hu s hs => by rw [sR_ne (by omega), sR_at]; exact hT u hu s hs)) ?_
      refine J_istore 25 rfl dX9_findBest_23 (Nat.le_of_ble_eq_true rfl) ?_
      refine J_aload_n 26 rfl dX9_findBest_25 rfl ?_
      refine g_X9_keepers 29 rfl dX9_findBest_26 lkX9_21 ?_
      refine J_iload_n 30 rfl dX9_findBest_29 rfl ?_
      refine J_iload 32 rfl dX9_findBest_30 rfl ?_
      refine J_iast 33 rfl dX9_findBest_32 (sa_X9_keepers) (by omega) ?_
      refine J_iload 35 rfl dX9_findBest_33 rfl ?_
      refine J_iconst 36 4294967295 rfl dX9_findBest_35 ic_m1 ?_
      refine J_icmp_eq 46 39 (by decide) rfl dX9_findBest_36 (by omega) (by omega) (fun c36 => ?_) (fun c36 => ?_)
      · have nx := ih _ (by omega) (u + 1) (up1 r u (kp v u)) rfl (by omega) (fun w hw => by
          rw [up1_app]
          split
          · next e => rw [e]
          · exact hr w (by omega))
        rw [show kpT v (u + 1) = if lkF v u (kpT v u) 6 = 4294967295 then kpT v u else kpT v u ||| 2 ^ lkF v u (kpT v u) 6 from rfl] at nx
        refine J_iinc 49 1 rfl dX9_findBest_46 ic_1 rfl (Nat.le_of_ble_eq_true rfl) ?_
        refine J_goto 10 (by decide) dX9_findBest_49 ?_
        rw [up2_in]
        refine J_keep [0, 1, 2, 3] ?_
        first
          | rw [if_pos (by assumption)] at nx; exact nx
          | (rw [if_neg (by assumption)] at nx; exact nx)
      · refine J_iload_n 40 rfl dX9_findBest_39 rfl ?_
        refine J_iconst 41 1 rfl dX9_findBest_40 ic_1 ?_
        refine J_iload 43 rfl dX9_findBest_41 rfl ?_
        refine J_ishl 44 (2 ^ lkF v u (kpT v u) 6) rfl dX9_findBest_43 (sh1 _ (by omega)) ?_
        refine J_ior 45 (kpT v u ||| 2 ^ lkF v u (kpT v u) 6) rfl dX9_findBest_44 (or_bit _ (by omega) _ (by omega)).1 ?_
        refine J_istore_n 46 rfl dX9_findBest_45 rfl (Nat.le_of_ble_eq_true rfl) ?_
        have nx := ih _ (by omega) (u + 1) (up1 r u (kp v u)) rfl (by omega) (fun w hw => by
          rw [up1_app]
          split
          · next e => rw [e]
          · exact hr w (by omega))
        rw [show kpT v (u + 1) = if lkF v u (kpT v u) 6 = 4294967295 then kpT v u else kpT v u ||| 2 ^ lkF v u (kpT v u) 6 from rfl] at nx
        refine J_iinc 49 1 rfl dX9_findBest_46 ic_1 rfl (Nat.le_of_ble_eq_true rfl) ?_
        refine J_goto 10 (by decide) dX9_findBest_49 ?_
        rw [up2_in]
        refine J_keep [0, 1, 2, 3] ?_
        first
          | rw [if_pos (by assumption)] at nx; exact nx
          | (rw [if_neg (by assumption)] at nx; exact nx)
  have l9 := loop _ 0 (sR J 337 T 340) rfl (Nat.zero_le _) (fun w hw => absurd hw (by omega))
  rw [sR_id] at l9
  exact l9

theorem sR_KA {J : DJ} {K A K2 A2 : Nat → Nat} : sR (sR (sR (sR J 338 K) 339 A) 338 K2) 339 A2 = sR (sR J 338 K2) 339 A2 := by
  rw [sR_comm (show 339 ≠ 338 by omega), sR_sR, sR_sR]
theorem S_X9_findKeeper {g : Gn} {v : Nat → Nat} : ∀ (k b dep u : Nat) (J : DJ) (K A : Nat → Nat), isH b → (∀ m, m < 6 → J (b + 2) m = v m ∧ v m < 256) → J 338 = K → J 339 = A → u < 8 → 6 - dep = k → fkPre v K A u → dep ≤ sumN A 6 → SJ g mX9_findKeeper (1 + k) 0 0 [.int (nI u), .ref (g.2 (b + 2)), .ref (g.2 338), .ref (g.2 339), .int (nI dep)] J (Re (fun r J2 => ∃ K2 A2, J2 = sR (sR J 338 K2) 339 A2 ∧ A01 A2 ∧ (∀ i, i < 6 → A i = 1 → A2 i = 1) ∧ ((r = 0 ∧ K2 = K ∧ fkF v K A u A2) ∨ (r = 1 ∧ fkS v K A u K2)))) NoX := by
  intro k
  induction k using Nat.strongRecOn with
  | ind k ihk0 =>
  intro b dep u J K A hb hv hK hA hu hk hp hd
  have hb3 := isH_le hb
  have nA := NA_le hp.1
  refine SJ_of_VJ (by decide +kernel) (Nat.le_of_ble_eq_true rfl) ?_
  show VJ g mX9_findKeeper (1 + k) 0 0 _ _ 0 [(0, .int (nI u)), (1, .ref (g.2 (b + 2))), (2, .ref (g.2 338)), (3, .ref (g.2 339)), (4, .int (nI dep))] [] J
  have loop : ∀ (n9 : Nat) (j : Nat) (A2 : Nat → Nat), 6 - j = n9 → j ≤ 6 → fkL v K A u j A2 → VJ g mX9_findKeeper (1 + k) 0 0 (Re (fun r J2 => ∃ K2 A2, J2 = sR (sR J 338 K2) 339 A2 ∧ A01 A2 ∧ (∀ i, i < 6 → A i = 1 → A2 i = 1) ∧ ((r = 0 ∧ K2 = K ∧ fkF v K A u A2) ∨ (r = 1 ∧ fkS v K A u K2)))) NoX 12 [(0, .int (nI (u))), (1, .ref (g.2 (b + 2))), (2, .ref (g.2 338)), (3, .ref (g.2 339)), (4, .int (nI (dep))), (5, .int (nI (j)))] [] (sR J 339 A2) := by
    intro n9
    induction n9 using Nat.strongRecOn with
    | ind n9 ih =>
    intro j A2 hi hle hl
    refine J_iload 14 rfl dX9_findKeeper_12 rfl ?_
    refine J_bipush 16 6 rfl dX9_findKeeper_14 bc_6 ?_
    refine J_icmp_ge 79 19 (by decide) rfl dX9_findKeeper_16 (by omega) (by omega) (fun c16 => ?_) (fun c16 => ?_)
    · refine J_iconst 80 0 rfl dX9_findKeeper_79 ic_0 ?_
      refine J_zret0 rfl dX9_findKeeper_80 ?_
      have e : j = 6 := by omega
      subst e
      exact ⟨0, rfl, K, A2, by rw [← hK, sR_id], hl.1, hl.2.1, Or.inl ⟨rfl, rfl, fkL_end hl⟩⟩
    · have a01j := hl.1 j (by omega)
      have kj := hp.2.1 j (by omega)
      have kj32 : K j < 4294967296 := by omega
      refine J_aload_n 20 rfl dX9_findKeeper_19 rfl ?_
      refine J_iload 22 rfl dX9_findKeeper_20 rfl ?_
      refine J_iald 23 rfl dX9_findKeeper_22 (sa_X9_asked) (by omega) ?_
      refine J_cv (b := A2 j) (by rw [sR_at]) ?_
      refine J_if_ne 73 26 (by decide) rfl dX9_findKeeper_23 (by omega) (fun c23 => ?_) (fun c23 => ?_)
      · refine J_iinc 76 1 rfl dX9_findKeeper_73 ic_1 rfl (Nat.le_of_ble_eq_true rfl) ?_
        refine J_goto 12 (by decide) dX9_findKeeper_76 ?_
        first
          | rcases hres with ⟨_, z, hf⟩ | ⟨z, _⟩
            · have e9 : sR J 338 K = J := by rw [← hK, sR_id]
              rw [z, e9]
              exact ih _ (by omega) (j + 1) A3 rfl (by omega) (fkL_fail hl (by omega) c46 a01 ale hf)
            · omega
          | exact ih _ (by omega) (j + 1) A2 rfl (by omega) (fkL_skip hl (Or.inl c23) (by omega))
          | exact ih _ (by omega) (j + 1) A2 rfl (by omega) (fkL_skip hl (Or.inr (Bool.eq_false_iff.mpr (by assumption))) (by omega))
      · refine J_aload_n 27 rfl dX9_findKeeper_26 rfl ?_
        refine J_iload 29 rfl dX9_findKeeper_27 rfl ?_
        refine J_iload_n 30 rfl dX9_findKeeper_29 rfl ?_
        refine J_callSi (As := [_, _, _]) 33 rfl kalX9_canKeep lkX9_28 dX9_findKeeper_30 rfl rfl (by exact Nat.le_of_ble_eq_true rfl) (by omega) (S_X9_canKeep hb (fun m hm => by rw [sR_ne (by omega)]; exact hv m hm) (by omega) hu) ?_
        refine J_ifb_eq (hdp := _) 73 36 (by decide) rfl dX9_findKeeper_33 (fun c33 => ?_) (fun c33 => ?_)
        · refine J_iinc 76 1 rfl dX9_findKeeper_73 ic_1 rfl (Nat.le_of_ble_eq_true rfl) ?_
          refine J_goto 12 (by decide) dX9_findKeeper_76 ?_
          first
            | rcases hres with ⟨_, z, hf⟩ | ⟨z, _⟩
              · have e9 : sR J 338 K = J := by rw [← hK, sR_id]
                rw [z, e9]
                exact ih _ (by omega) (j + 1) A3 rfl (by omega) (fkL_fail hl (by omega) c46 a01 ale hf)
              · omega
            | exact ih _ (by omega) (j + 1) A2 rfl (by omega) (fkL_skip hl (Or.inl c23) (by omega))
            | exact ih _ (by omega) (j + 1) A2 rfl (by omega) (fkL_skip hl (Or.inr (Bool.eq_false_iff.mpr (by assumption))) (by omega))
        · refine J_aload_n 37 rfl dX9_findKeeper_36 rfl ?_
          refine J_iload 39 rfl dX9_findKeeper_37 rfl ?_
          refine J_iconst 40 1 rfl dX9_findKeeper_39 ic_1 ?_
          refine J_iast 41 rfl dX9_findKeeper_40 (sa_X9_asked) (by omega) ?_
          rw [up2_in]
          refine J_aload_n 42 rfl dX9_findKeeper_41 rfl ?_
          refine J_iload 44 rfl dX9_findKeeper_42 rfl ?_
          refine J_iald 45 rfl dX9_findKeeper_44 (sa_X9_vigilKept) (by omega) ?_
          refine J_cv (b := K j) (by rw [sR_ne (by omega), hK]) ?_
          refine J_iconst 46 4294967295 rfl dX9_findKeeper_45 ic_m1 ?_
          refine J_icmp_eq 66 49 (by decide) rfl dX9_findKeeper_46 (by omega) (by omega) (fun c46 => ?_) (fun c46 => ?_)
          · refine J_aload_n 67 rfl dX9_findKeeper_66 rfl ?_
            refine J_iload 69 rfl dX9_findKeeper_67 rfl ?_
            refine J_iload_n 70 rfl dX9_findKeeper_69 rfl ?_
            refine J_iast 71 rfl dX9_findKeeper_70 (sa_X9_vigilKept) (by omega) ?_
            refine J_iconst 72 1 rfl dX9_findKeeper_71 ic_1 ?_
            refine J_zret1 rfl dX9_findKeeper_72 ?_
            first
              | rcases hres with ⟨z, _⟩ | ⟨_, hs⟩
                · exact absurd z c63
                · rw [up2_out (by omega), up2_in]
                  exact ⟨1, rfl, up1 K3 j u, A3, rfl, a01, fun i hi h1 => ale i hi (by rw [up1_app]; split <;> first | rfl | exact hl.2.1 i hi h1), Or.inr ⟨rfl, fk_rec hp hu hl (by omega) (by omega) c46 (by assumption) hs⟩⟩
              | rw [up2_out (by omega), up2_sR, hK]
                refine ⟨1, rfl, up1 K j u, up1 A2 j 1, rfl, fun i hi => ?_, fun i hi h1 => ?_, Or.inr ⟨rfl, fk_free hp hu (by omega) ?_ c46 (by assumption)⟩⟩
                · rw [up1_app]
                  split
                  · exact Or.inr rfl
                  · exact hl.1 i hi
                · rw [up1_app]
                  split
                  · rfl
                  · exact hl.2.1 i hi h1
                · rcases hp.1 j (by omega) with z | z
                  · exact z
                  · have := hl.2.1 j (by omega) z
                    omega
          · have kj8 : K j < 8 := by omega
            have fp := fkL_pre hp hl (by omega) (by omega) c46
            have nu := NA_up (A := A2) (j := j) (by omega) (by omega)
            have nl := NA_le fp.1
            have nmn := NA_mono hp.1 hl.2.1
            have k1 : 1 ≤ k := by omega
            obtain ⟨k, rfl⟩ : ∃ k2, k = k2 + 1 := ⟨k - 1, by omega⟩
            have ihk := ihk0 k (by omega)
            refine J_aload_n 50 rfl dX9_findKeeper_49 rfl ?_
            refine J_iload 52 rfl dX9_findKeeper_50 rfl ?_
            refine J_iald 53 rfl dX9_findKeeper_52 (sa_X9_vigilKept) (by omega) ?_
            refine J_cv (b := K j) (by rw [sR_ne (by omega), hK]) ?_
            refine J_aload_n 54 rfl dX9_findKeeper_53 rfl ?_
            refine J_aload_n 55 rfl dX9_findKeeper_54 rfl ?_
            refine J_aload_n 56 rfl dX9_findKeeper_55 rfl ?_
            refine J_iload 58 rfl dX9_findKeeper_56 rfl ?_
            refine J_iconst 59 1 rfl dX9_findKeeper_58 ic_1 ?_
            refine J_iadd 60 rfl dX9_findKeeper_59 ?_
            refine J_callSie (As := [_, _, _, _, _]) 63 rfl kalX9_findKeeper lkX9_24 dX9_findKeeper_60 rfl rfl (by exact Nat.le_of_ble_eq_true rfl) (by omega) (ihk b (dep + 1) (K j) (sR J 339 (up1 A2 j 1)) K (up1 A2 j 1) hb (fun m hm => by rw [sR_ne (by omega)]; exact hv m hm) (by rw [sR_ne (by omega)]; exact hK) sR_at kj8 (by omega) fp (by omega)) (fun r60 J60 q60 => ?_)
            obtain ⟨K3, A3, eJ, a01, ale, hres⟩ := q60
            subst eJ
            have r60b : r60 < 2 := by rcases hres with ⟨z, _⟩ | ⟨z, _⟩ <;> omega
            rw [show sR J 339 (up1 A2 j 1) = sR (sR J 338 K) 339 (up1 A2 j 1) by rw [← hK, sR_id], sR_KA]
            refine J_if_eq 73 66 (by decide) rfl dX9_findKeeper_63 (by omega) (fun c63 => ?_) (fun c63 => ?_)
            · refine J_iinc 76 1 rfl dX9_findKeeper_73 ic_1 rfl (Nat.le_of_ble_eq_true rfl) ?_
              refine J_goto 12 (by decide) dX9_findKeeper_76 ?_
              first
                | rcases hres with ⟨_, z, hf⟩ | ⟨z, _⟩
                  · have e9 : sR J 338 K = J := by rw [← hK, sR_id]
                    rw [z, e9]
                    exact ih _ (by omega) (j + 1) A3 rfl (by omega) (fkL_fail hl (by omega) c46 a01 ale hf)
                  · omega
                | exact ih _ (by omega) (j + 1) A2 rfl (by omega) (fkL_skip hl (Or.inl c23) (by omega))
                | exact ih _ (by omega) (j + 1) A2 rfl (by omega) (fkL_skip hl (Or.inr (Bool.eq_false_iff.mpr (by assumption))) (by omega))
            · refine J_aload_n 67 rfl dX9_findKeeper_66 rfl ?_
              refine J_iload 69 rfl dX9_findKeeper_67 rfl ?_
              refine J_iload_n 70 rfl dX9_findKeeper_69 rfl ?_
              refine J_iast 71 rfl dX9_findKeeper_70 (sa_X9_vigilKept) (by omega) ?_
              refine J_iconst 72 1 rfl dX9_findKeeper_71 ic_1 ?_
              refine J_zret1 rfl dX9_findKeeper_72 ?_
              first
                | rcases hres with ⟨z, _⟩ | ⟨_, hs⟩
                  · exact absurd z c63
                  · rw [up2_out (by omega), up2_in]
                    exact ⟨1, rfl, up1 K3 j u, A3, rfl, a01, fun i hi h1 => ale i hi (by rw [up1_app]; split <;> first | rfl | exact hl.2.1 i hi h1), Or.inr ⟨rfl, fk_rec hp hu hl (by omega) (by omega) c46 (by assumption) hs⟩⟩
                | rw [up2_out (by omega), up2_sR, hK]
                  refine ⟨1, rfl, up1 K j u, up1 A2 j 1, rfl, fun i hi => ?_, fun i hi h1 => ?_, Or.inr ⟨rfl, fk_free hp hu (by omega) ?_ c46 (by assumption)⟩⟩
                  · rw [up1_app]
                    split
                    · exact Or.inr rfl
                    · exact hl.1 i hi
                  · rw [up1_app]
                    split
                    · rfl
                    · exact hl.2.1 i hi h1
                  · rcases hp.1 j (by omega) with z | z
                    · exact z
                    · have := hl.2.1 j (by omega) z
                      omega
  refine J_iload 2 rfl dX9_findKeeper_0 rfl ?_
  refine J_bipush 4 6 rfl dX9_findKeeper_2 bc_6 ?_
  refine J_icmp_le 9 7 (by decide) rfl dX9_findKeeper_4 (by omega) (by omega) (fun c4 => ?_) (fun c4 => ?_)
  · refine J_iconst 10 0 rfl dX9_findKeeper_9 ic_0 ?_
    refine J_istore 12 rfl dX9_findKeeper_10 (Nat.le_of_ble_eq_true rfl) ?_
    have l9 := loop _ 0 A rfl (Nat.zero_le _) ⟨hp.1, fun i hi h => h, fun i hi => absurd hi (by omega), fun i hi h0 h1 => by omega⟩
    rw [← hA, sR_id] at l9
    rw [hA] at l9
    exact l9
  · exfalso
    omega

theorem S_X9_mostByChains {g : Gn} {J : DJ} {b : Nat} {v : Nat → Nat} (hb : isH b) (hv : ∀ m, m < 6 → J (b + 2) m = v m ∧ v m < 256) : SJ g mX9_mostByChains 8 0 0 [.ref (g.2 336), .ref (g.2 (b + 2))] J (Rp (rW v 8 0) (fun J2 => ∃ K A, J2 = sR (sR J 338 K) 339 A)) NoX := by
  have hb3 := isH_le hb
  refine SJ_of_VJ (by decide +kernel) (Nat.le_of_ble_eq_true rfl) ?_
  show VJ g mX9_mostByChains 8 0 0 _ _ 0 [(0, .ref (g.2 336)), (1, .ref (g.2 (b + 2)))] [] J
  have loop : ∀ (n9 : Nat) (u : Nat) (K A C : Nat → Nat), 8 - u = n9 → u ≤ 8 → chI v K C u → VJ g mX9_mostByChains 8 0 0 (Rp (rW v 8 0) (fun J2 => ∃ K A, J2 = sR (sR J 338 K) 339 A)) NoX 25 [(0, .ref (g.2 336)), (1, .ref (g.2 (b + 2))), (2, .int (nI (nm K))), (3, .int (nI (u)))] [] (sR (sR J 338 K) 339 A) := by
    intro n9
    induction n9 using Nat.strongRecOn with
    | ind n9 ih =>
    intro u K A C hi hle hI
    refine J_iload_n 26 rfl dX9_mostByChains_25 rfl ?_
    refine J_bipush 28 8 rfl dX9_mostByChains_26 bc_8 ?_
    refine J_icmp_ge 81 31 (by decide) rfl dX9_mostByChains_28 (by omega) (by omega) (fun c28 => ?_) (fun c28 => ?_)
    · refine J_iload_n 82 rfl dX9_mostByChains_81 rfl ?_
      refine J_iret rfl dX9_mostByChains_82 ?_
      have e : u = 8 := by omega
      subst e
      exact ⟨by rw [chains_opt hI], K, A, rfl⟩
    · have inner : ∀ (n9 : Nat) (a : Nat) (A : Nat → Nat), 6 - a = n9 → a ≤ 6 → (∀ i, i < a → A i = 0) → VJ g mX9_mostByChains 8 0 0 (Rp (rW v 8 0) (fun J2 => ∃ K A, J2 = sR (sR J 338 K) 339 A)) NoX 34 [(0, .ref (g.2 336)), (1, .ref (g.2 (b + 2))), (2, .int (nI (nm K))), (3, .int (nI u)), (4, .int (nI a))] [] (sR (sR J 338 K) 339 A) := by
        intro n9
        induction n9 using Nat.strongRecOn with
        | ind n9 iha =>
        intro a A hi2 hle2 hz
        refine J_iload 36 rfl dX9_mostByChains_34 rfl ?_
        refine J_bipush 38 6 rfl dX9_mostByChains_36 bc_6 ?_
        refine J_icmp_ge 55 41 (by decide) rfl dX9_mostByChains_38 (by omega) (by omega) (fun c38 => ?_) (fun c38 => ?_)
        · have e6 : a = 6 := by omega
          subst e6
          refine J_iload_n 56 rfl dX9_mostByChains_55 rfl ?_
          refine J_aload_n 57 rfl dX9_mostByChains_56 rfl ?_
          refine J_aload_n 58 rfl dX9_mostByChains_57 rfl ?_
          refine g_X9_vigilKept 61 rfl dX9_mostByChains_58 lkX9_15 ?_
          refine J_aload_n 62 rfl dX9_mostByChains_61 rfl ?_
          refine g_X9_asked 65 rfl dX9_mostByChains_62 lkX9_18 ?_
          refine J_iconst 66 0 rfl dX9_mostByChains_65 ic_0 ?_
          refine J_callSie (As := [_, _, _, _, _]) 69 rfl kalX9_findKeeper lkX9_24 dX9_mostByChains_66 rfl rfl (by exact Nat.le_of_ble_eq_true rfl) (by omega) (S_X9_findKeeper 6 b 0 u (sR (sR J 338 K) 339 A) K A hb (fun m hm => by rw [sR_ne (by omega), sR_ne (by omega)]; exact hv m hm) (by rw [sR_ne (by omega), sR_at]) sR_at (by omega) rfl (ch_pre hI hz (by omega)) (Nat.zero_le _)) (fun r66 J66 q66 => ?_)
          obtain ⟨K3, A3, eJ, a01, ale, hres⟩ := q66
          subst eJ
          have r66b : r66 < 2 := by rcases hres with ⟨z, _⟩ | ⟨z, _⟩ <;> omega
          rw [sR_KA]
          refine J_if_eq 75 72 (by decide) rfl dX9_mostByChains_69 (by omega) (fun c69 => ?_) (fun c69 => ?_)
          · refine J_iinc 78 1 rfl dX9_mostByChains_75 ic_1 rfl (Nat.le_of_ble_eq_true rfl) ?_
            refine J_goto 25 (by decide) dX9_mostByChains_78 ?_
            refine J_keep [0, 1, 2, 3] ?_
            rcases hres with ⟨z, z2, hf⟩ | ⟨z, hs⟩
            · first
                | exact absurd z c69
                | (subst z2; exact ih _ (by omega) (u + 1) _ A3 _ rfl (by omega) (ch_F hI hz hf))
            · first
                | omega
                | (have nx := ih _ (by omega) (u + 1) K3 A3 C rfl (by omega) (ch_S hI hz (by omega) hs)
                   rw [hs.2.2.2.2.1] at nx
                   exact nx)
          · refine J_iinc 75 1 rfl dX9_mostByChains_72 ic_1 rfl (Nat.le_of_ble_eq_true rfl) ?_
            refine J_iinc 78 1 rfl dX9_mostByChains_75 ic_1 rfl (Nat.le_of_ble_eq_true rfl) ?_
            refine J_goto 25 (by decide) dX9_mostByChains_78 ?_
            refine J_keep [0, 1, 2, 3] ?_
            rcases hres with ⟨z, z2, hf⟩ | ⟨z, hs⟩
            · first
                | exact absurd z c69
                | (subst z2; exact ih _ (by omega) (u + 1) _ A3 _ rfl (by omega) (ch_F hI hz hf))
            · first
                | omega
                | (have nx := ih _ (by omega) (u + 1) K3 A3 C rfl (by omega) (ch_S hI hz (by omega) hs)
                   rw [hs.2.2.2.2.1] at nx
                   exact nx)
        · refine J_aload_n 42 rfl dX9_mostByChains_41 rfl ?_
          refine g_X9_asked 45 rfl dX9_mostByChains_42 lkX9_18 ?_
          refine J_iload 47 rfl dX9_mostByChains_45 rfl ?_
          refine J_iconst 48 0 rfl dX9_mostByChains_47 ic_0 ?_
          refine J_iast 49 rfl dX9_mostByChains_48 (sa_X9_asked) (by omega) ?_
          refine J_iinc 52 1 rfl dX9_mostByChains_49 ic_1 rfl (Nat.le_of_ble_eq_true rfl) ?_
          refine J_goto 34 (by decide) dX9_mostByChains_52 ?_
          rw [up2_in]
          refine iha _ (by omega) (a + 1) _ rfl (by omega) (fun i hi => ?_)
          rw [up1_app]
          split
          · rfl
          · exact hz i (by omega)
      refine J_iconst 32 0 rfl dX9_mostByChains_31 ic_0 ?_
      refine J_istore 34 rfl dX9_mostByChains_32 (Nat.le_of_ble_eq_true rfl) ?_
      exact inner _ 0 A rfl (Nat.zero_le _) (fun i hi => absurd hi (by omega))
  have init : ∀ (n9 : Nat) (i : Nat) (K : Nat → Nat), 6 - i = n9 → i ≤ 6 → (∀ j, j < i → K j = 4294967295) → VJ g mX9_mostByChains 8 0 0 (Rp (rW v 8 0) (fun J2 => ∃ K A, J2 = sR (sR J 338 K) 339 A)) NoX 2 [(0, .ref (g.2 336)), (1, .ref (g.2 (b + 2))), (2, .int (nI (i)))] [] (sR J 338 K) := by
    intro n9
    induction n9 using Nat.strongRecOn with
    | ind n9 ihz =>
    intro i K hi hle hz
    refine J_iload_n 3 rfl dX9_mostByChains_2 rfl ?_
    refine J_bipush 5 6 rfl dX9_mostByChains_3 bc_6 ?_
    refine J_icmp_ge 21 8 (by decide) rfl dX9_mostByChains_5 (by omega) (by omega) (fun c5 => ?_) (fun c5 => ?_)
    · refine J_iconst 22 0 rfl dX9_mostByChains_21 ic_0 ?_
      refine J_istore_n 23 rfl dX9_mostByChains_22 rfl (Nat.le_of_ble_eq_true rfl) ?_
      refine J_iconst 24 0 rfl dX9_mostByChains_23 ic_0 ?_
      refine J_istore_n 25 rfl dX9_mostByChains_24 rfl (Nat.le_of_ble_eq_true rfl) ?_
      refine J_keep [0, 1, 2, 3] ?_
      have n0 : nm K = 0 := by
        have := sumN_le (f := fun j => if K j = 4294967295 then 0 else 1) (B := 0) 6 (fun j hj => by rw [if_pos (hz j (by omega))]; exact Nat.le_refl _)
        unfold nm
        omega
      have l9 := loop _ 0 K (sR J 338 K 339) (fun _ => 0) rfl (Nat.zero_le _) (ch_0 (fun j hj => hz j (by omega)))
      rw [sR_id, n0] at l9
      exact l9
    · refine J_aload_n 9 rfl dX9_mostByChains_8 rfl ?_
      refine g_X9_vigilKept 12 rfl dX9_mostByChains_9 lkX9_15 ?_
      refine J_iload_n 13 rfl dX9_mostByChains_12 rfl ?_
      refine J_iconst 14 4294967295 rfl dX9_mostByChains_13 ic_m1 ?_
      refine J_iast 15 rfl dX9_mostByChains_14 (sa_X9_vigilKept) (by omega) ?_
      refine J_iinc 18 1 rfl dX9_mostByChains_15 ic_1 rfl (Nat.le_of_ble_eq_true rfl) ?_
      refine J_goto 2 (by decide) dX9_mostByChains_18 ?_
      rw [up2_in]
      refine ihz _ (by omega) (i + 1) _ rfl (by omega) (fun j hj => ?_)
      rw [up1_app]
      split
      · rfl
      · exact hz j (by omega)
  refine J_iconst 1 0 rfl dX9_mostByChains_0 ic_0 ?_
  refine J_istore_n 2 rfl dX9_mostByChains_1 rfl (Nat.le_of_ble_eq_true rfl) ?_
  have l9 := init _ 0 (J 338) rfl (Nat.zero_le _) (fun j hj => absurd hj (by omega))
  rw [sR_id] at l9
  exact l9

