/-! EVEN ORDERS (laid by wip/whole/src/p39.py) -/
theorem eoX_0 {n ev S l : Nat} {T : Nat → Nat} (h : nI (T (S * 8 + l)) = 0) (hS : S < 2 ^ n) (hl : l < 8) : ∀ k, k ≤ n → IEq (2 ^ n * 8) T (eoX n ev T S l k)
  | 0, _ => fun _ _ => rfl
  | k + 1, hk => by
    have ih := eoX_0 (ev := ev) h hS hl k (by omega)
    show IEq _ T (eoS n ev (eoX n ev T S l k) S l k)
    unfold eoS
    split
    · next q =>
      intro j hj
      rw [up1_app]
      split
      · next e =>
        have z := ih (S * 8 + l) (by omega)
        rw [← nI_add, z, h, e, ih _ (by have := or_lt hS (show k < n by omega); omega)]
        exact Int32.add_zero _
      · exact ih j hj
    · exact ih
theorem IEq.symm {N : Nat} {T U : Nat → Nat} (h : IEq N T U) : IEq N U T := fun i hi => (h i hi).symm
theorem IEq.trans {N : Nat} {T U V : Nat → Nat} (h : IEq N T U) (h2 : IEq N U V) : IEq N T V := fun i hi => (h2 i hi).trans (h i hi)
theorem S_X2_goOn {g : Gn} {J : DJ} {S l n ev : Nat} {T : Nat → Nat} (h3 : 3 ≤ n) (h8 : n ≤ 8) (hev : ev ≤ 4) (hS : S < 2 ^ n) (hl : l < n) (hT : IEq (2 ^ n * 8) T (J 334)) : SJ g mX2_goOn 2 0 0 [.ref (g.2 333), .int (nI (S)), .int (nI (l)), .int (nI (n)), .int (nI (ev))] J (Rq (fun J2 => ∃ r, J2 = sR J 334 r ∧ IEq (2 ^ n * 8) (eoX n ev T S l n) r)) NoX := by
  have p8 : 2 ^ n ≤ 256 := Nat.le_trans (Nat.pow_le_pow_right (by omega) h8) (by decide)
  refine SJ_of_VJ (by decide +kernel) (Nat.le_of_ble_eq_true rfl) ?_
  show VJ g mX2_goOn 2 0 0 _ _ 0 [(0, .ref (g.2 333)), (1, .int (nI (S))), (2, .int (nI (l))), (3, .int (nI (n))), (4, .int (nI (ev)))] [] J
  have loop : ∀ (n9 : Nat) (k : Nat) (r : Nat → Nat), n - k = n9 → k ≤ n → IEq (2 ^ n * 8) (eoX n ev T S l k) r → nI (r (S * 8 + l)) = nI (J 334 (S * 8 + l)) → VJ g mX2_goOn 2 0 0 (Rq (fun J2 => ∃ r, J2 = sR J 334 r ∧ IEq (2 ^ n * 8) (eoX n ev T S l n) r)) NoX 22 [(0, .ref (g.2 333)), (1, .int (nI (S))), (2, .int (nI (l))), (3, .int (nI (n))), (4, .int (nI (ev))), (5, .int (nI (J 334 (S * 8 + l)))), (6, .int (nI (k)))] [] (sR J 334 r) := by
    intro n9
    induction n9 using Nat.strongRecOn with
    | ind n9 ih =>
    intro k r hi hle hr hv
    have pk : 0 < 2 ^ k := Nat.two_pow_pos k
    refine J_iload 24 rfl dX2_goOn_22 rfl ?_
    refine J_iload_n 25 rfl dX2_goOn_24 rfl ?_
    refine J_icmp_ge 79 28 (by decide) rfl dX2_goOn_25 (by omega) (by omega) (fun c25 => ?_) (fun c25 => ?_)
    · refine J_vret rfl dX2_goOn_79 ?_
      have e : k = n := by omega
      subst e
      exact ⟨rfl, r, rfl, hr⟩
    · refine J_iconst 29 1 rfl dX2_goOn_28 ic_1 ?_
      refine J_iload 31 rfl dX2_goOn_29 rfl ?_
      refine J_ishl 32 (2 ^ k) rfl dX2_goOn_31 (sh1 k (by omega)) ?_
      refine J_istore 34 rfl dX2_goOn_32 (Nat.le_of_ble_eq_true rfl) ?_
      have p2 : (if S.testBit k then 2 ^ k else 0) < 4294967296 := by
        have := Nat.pow_lt_pow_right (show 1 < 2 by omega) (show k < 8 by omega)
        split <;> omega
      refine J_iload_n 35 rfl dX2_goOn_34 rfl ?_
      refine J_iload 37 rfl dX2_goOn_35 rfl ?_
      refine J_iand 38 (if S.testBit k then 2 ^ k else 0) rfl dX2_goOn_37 (and_bit k (by omega) S (by omega)) ?_
      refine J_if_ne 73 41 (by decide) rfl dX2_goOn_38 p2 (fun c38 => ?_) (fun c38 => ?_)
      · refine J_iinc 76 1 rfl dX2_goOn_73 ic_1 rfl (Nat.le_of_ble_eq_true rfl) ?_
        refine J_goto 22 (by decide) dX2_goOn_76 ?_
        refine J_keep [0, 1, 2, 3, 4, 5, 6] ?_
        first
          | rw [up2_in]
            have tb : S.testBit k = false := by
              rcases hb : S.testBit k with _ | _
              · rfl
              · rw [if_pos hb] at c38; omega
            refine ih _ (by omega) (k + 1) _ rfl (by omega) ?_ ?_
            · show IEq _ (eoS n ev (eoX n ev T S l k) S l k) _
              unfold eoS
              rw [if_pos ⟨tb, by omega⟩]
              refine hr.up ?_
              rw [← nI_add, ← nI_add, hr _ (by omega), ← hv, hr _ (by omega)]
            · rw [up1_ne (by have := or_ne tb; omega)]
              exact hv
          | refine ih _ (by omega) (k + 1) r rfl (by omega) ?_ hv
            show IEq _ (eoS n ev (eoX n ev T S l k) S l k) r
            unfold eoS
            rw [if_neg]
            · exact hr
            · intro q
              first
                | (rw [if_neg (by rw [q.1]; decide)] at c38; exact absurd rfl c38)
                | omega
      · have db := dist_le l k n
        have ol := or_lt hS (show k < n by omega)
        refine J_iload_n 42 rfl dX2_goOn_41 rfl ?_
        refine J_iload 44 rfl dX2_goOn_42 rfl ?_
        refine J_iload_n 45 rfl dX2_goOn_44 rfl ?_
        refine J_callSNi (As := [_, _, _]) (host := "EngineMonastery") 48 rfl kalX10_distance (by decide) dX2_goOn_45 rfl rfl (by exact Nat.le_of_ble_eq_true rfl) (by omega) (S_X10_distance (by omega) (by omega) (by omega)) ?_
        refine J_iload 50 rfl dX2_goOn_48 rfl ?_
        refine J_icmp_lt 73 53 (by decide) rfl dX2_goOn_50 (by omega) (by omega) (fun c50 => ?_) (fun c50 => ?_)
        · refine J_iinc 76 1 rfl dX2_goOn_73 ic_1 rfl (Nat.le_of_ble_eq_true rfl) ?_
          refine J_goto 22 (by decide) dX2_goOn_76 ?_
          refine J_keep [0, 1, 2, 3, 4, 5, 6] ?_
          first
            | rw [up2_in]
              have tb : S.testBit k = false := by
                rcases hb : S.testBit k with _ | _
                · rfl
                · rw [if_pos hb] at c38; omega
              refine ih _ (by omega) (k + 1) _ rfl (by omega) ?_ ?_
              · show IEq _ (eoS n ev (eoX n ev T S l k) S l k) _
                unfold eoS
                rw [if_pos ⟨tb, by omega⟩]
                refine hr.up ?_
                rw [← nI_add, ← nI_add, hr _ (by omega), ← hv, hr _ (by omega)]
              · rw [up1_ne (by have := or_ne tb; omega)]
                exact hv
            | refine ih _ (by omega) (k + 1) r rfl (by omega) ?_ hv
              show IEq _ (eoS n ev (eoX n ev T S l k) S l k) r
              unfold eoS
              rw [if_neg]
              · exact hr
              · intro q
                first
                  | (rw [if_neg (by rw [q.1]; decide)] at c38; exact absurd rfl c38)
                  | omega
        · refine J_aload_n 54 rfl dX2_goOn_53 rfl ?_
          refine g_X2_table 57 rfl dX2_goOn_54 lkX2_9 ?_
          refine J_iload_n 58 rfl dX2_goOn_57 rfl ?_
          refine J_iload 60 rfl dX2_goOn_58 rfl ?_
          refine J_ior 61 (S ||| 2 ^ k) rfl dX2_goOn_60 (or_bit k (by omega) S (by omega)).1 ?_
          refine J_bipush 63 8 rfl dX2_goOn_61 bc_8 ?_
          refine J_imul 64 rfl dX2_goOn_63 ?_
          refine J_iload 66 rfl dX2_goOn_64 rfl ?_
          refine J_iadd 67 rfl dX2_goOn_66 ?_
          refine J_dup2 68 rfl dX2_goOn_67 rfl rfl ?_
          refine J_iald 69 rfl dX2_goOn_68 (sa_X2_table) (by omega) ?_
          refine J_cv (b := r ((S ||| 2 ^ k) * 8 + k)) rfl ?_
          refine J_iload 71 rfl dX2_goOn_69 rfl ?_
          refine J_iadd 72 rfl dX2_goOn_71 ?_
          refine J_iast 73 rfl dX2_goOn_72 (sa_X2_table) (by omega) ?_
          refine J_iinc 76 1 rfl dX2_goOn_73 ic_1 rfl (Nat.le_of_ble_eq_true rfl) ?_
          refine J_goto 22 (by decide) dX2_goOn_76 ?_
          refine J_keep [0, 1, 2, 3, 4, 5, 6] ?_
          first
            | rw [up2_in]
              have tb : S.testBit k = false := by
                rcases hb : S.testBit k with _ | _
                · rfl
                · rw [if_pos hb] at c38; omega
              refine ih _ (by omega) (k + 1) _ rfl (by omega) ?_ ?_
              · show IEq _ (eoS n ev (eoX n ev T S l k) S l k) _
                unfold eoS
                rw [if_pos ⟨tb, by omega⟩]
                refine hr.up ?_
                rw [← nI_add, ← nI_add, hr _ (by omega), ← hv, hr _ (by omega)]
              · rw [up1_ne (by have := or_ne tb; omega)]
                exact hv
            | refine ih _ (by omega) (k + 1) r rfl (by omega) ?_ hv
              show IEq _ (eoS n ev (eoX n ev T S l k) S l k) r
              unfold eoS
              rw [if_neg]
              · exact hr
              · intro q
                first
                  | (rw [if_neg (by rw [q.1]; decide)] at c38; exact absurd rfl c38)
                  | omega
  refine J_aload_n 1 rfl dX2_goOn_0 rfl ?_
  refine g_X2_table 4 rfl dX2_goOn_1 lkX2_9 ?_
  refine J_iload_n 5 rfl dX2_goOn_4 rfl ?_
  refine J_bipush 7 8 rfl dX2_goOn_5 bc_8 ?_
  refine J_imul 8 rfl dX2_goOn_7 ?_
  refine J_iload_n 9 rfl dX2_goOn_8 rfl ?_
  refine J_iadd 10 rfl dX2_goOn_9 ?_
  refine J_iald 11 rfl dX2_goOn_10 (sa_X2_table) (by omega) ?_
  refine J_istore 13 rfl dX2_goOn_11 (Nat.le_of_ble_eq_true rfl) ?_
  refine J_iload 15 rfl dX2_goOn_13 rfl ?_
  refine J_ifR_ne 19 18 (by decide) rfl dX2_goOn_15 (fun c15 => ?_) (fun c15 => ?_)
  · skip
    refine J_iconst 20 0 rfl dX2_goOn_19 ic_0 ?_
    refine J_istore 22 rfl dX2_goOn_20 (Nat.le_of_ble_eq_true rfl) ?_
    have l9 := loop _ 0 (J 334) rfl (Nat.zero_le _) hT rfl
    rw [sR_id] at l9
    exact l9
  · skip
    refine J_vret rfl dX2_goOn_18 ?_
    refine ⟨rfl, J 334, sR_id.symm, ?_⟩
    exact (eoX_0 (by rw [← hT _ (by omega)]; exact c15) hS (by omega) n (Nat.le_refl _)).symm.trans hT

theorem S_X2_sumOfEnds {g : Gn} {J : DJ} {n ev : Nat} {T : Nat → Nat} (h3 : 3 ≤ n) (h8 : n ≤ 8) (hev : ev ≤ 4) (hT : IEq (2 ^ n * 8) T (J 334)) : SJ g mX2_sumOfEnds 2 0 0 [.ref (g.2 333), .int (nI (n)), .int (nI (ev))] J (Ri (eoE n ev T n) J) NoX := by
  have p8 : 2 ^ n ≤ 256 := Nat.le_trans (Nat.pow_le_pow_right (by omega) h8) (by decide)
  have p1 := Nat.two_pow_pos n
  refine SJ_of_VJ (by decide +kernel) (Nat.le_of_ble_eq_true rfl) ?_
  show VJ g mX2_sumOfEnds 2 0 0 _ _ 0 [(0, .ref (g.2 333)), (1, .int (nI (n))), (2, .int (nI (ev)))] [] J
  have loop : ∀ (n9 : Nat) (k a : Nat), n - k = n9 → 1 ≤ k → k ≤ n → nI a = nI (eoE n ev T k) → VJ g mX2_sumOfEnds 2 0 0 (Ri (eoE n ev T n) J) NoX 12 [(0, .ref (g.2 333)), (1, .int (nI (n))), (2, .int (nI (ev))), (3, .int (nI (2 ^ n - 1))), (4, .int (nI (a))), (5, .int (nI (k)))] [] J := by
    intro n9
    induction n9 using Nat.strongRecOn with
    | ind n9 ih =>
    intro k a hi h1 hle ha
    refine J_iload 14 rfl dX2_sumOfEnds_12 rfl ?_
    refine J_iload_n 15 rfl dX2_sumOfEnds_14 rfl ?_
    refine J_icmp_ge 52 18 (by decide) rfl dX2_sumOfEnds_15 (by omega) (by omega) (fun c15 => ?_) (fun c15 => ?_)
    · refine J_iload 54 rfl dX2_sumOfEnds_52 rfl ?_
      refine J_iret rfl dX2_sumOfEnds_54 ?_
      have e : k = n := by omega
      subst e
      exact ⟨by rw [ha], rfl⟩
    · have db := dist_le k 0 n
      refine J_iload 20 rfl dX2_sumOfEnds_18 rfl ?_
      refine J_iconst 21 0 rfl dX2_sumOfEnds_20 ic_0 ?_
      refine J_iload_n 22 rfl dX2_sumOfEnds_21 rfl ?_
      refine J_callSNi (As := [_, _, _]) (host := "EngineMonastery") 25 rfl kalX10_distance (by decide) dX2_sumOfEnds_22 rfl rfl (by exact Nat.le_of_ble_eq_true rfl) (by omega) (S_X10_distance (by omega) (by omega) (by omega)) ?_
      refine J_iload_n 26 rfl dX2_sumOfEnds_25 rfl ?_
      refine J_icmp_lt 46 29 (by decide) rfl dX2_sumOfEnds_26 (by omega) (by omega) (fun c26 => ?_) (fun c26 => ?_)
      · refine J_iinc 49 1 rfl dX2_sumOfEnds_46 ic_1 rfl (Nat.le_of_ble_eq_true rfl) ?_
        refine J_goto 12 (by decide) dX2_sumOfEnds_49 ?_
        refine ih _ (by omega) (k + 1) _ rfl (by omega) (by omega) ?_
        show _ = nI (eoE n ev T k + (if 1 ≤ k ∧ ev ≤ dist k 0 n then T ((2 ^ n - 1) * 8 + k) else 0))
        first
          | rw [if_neg (by omega), Nat.add_zero]; exact ha
          | rw [if_pos (by omega), ← nI_add, ← nI_add, ha, hT _ (by omega)]
      · refine J_iload 31 rfl dX2_sumOfEnds_29 rfl ?_
        refine J_aload_n 32 rfl dX2_sumOfEnds_31 rfl ?_
        refine g_X2_table 35 rfl dX2_sumOfEnds_32 lkX2_9 ?_
        refine J_iload_n 36 rfl dX2_sumOfEnds_35 rfl ?_
        refine J_bipush 38 8 rfl dX2_sumOfEnds_36 bc_8 ?_
        refine J_imul 39 rfl dX2_sumOfEnds_38 ?_
        refine J_iload 41 rfl dX2_sumOfEnds_39 rfl ?_
        refine J_iadd 42 rfl dX2_sumOfEnds_41 ?_
        refine J_iald 43 rfl dX2_sumOfEnds_42 (sa_X2_table) (by omega) ?_
        refine J_iadd 44 rfl dX2_sumOfEnds_43 ?_
        refine J_istore 46 rfl dX2_sumOfEnds_44 (Nat.le_of_ble_eq_true rfl) ?_
        refine J_iinc 49 1 rfl dX2_sumOfEnds_46 ic_1 rfl (Nat.le_of_ble_eq_true rfl) ?_
        refine J_goto 12 (by decide) dX2_sumOfEnds_49 ?_
        refine ih _ (by omega) (k + 1) _ rfl (by omega) (by omega) ?_
        show _ = nI (eoE n ev T k + (if 1 ≤ k ∧ ev ≤ dist k 0 n then T ((2 ^ n - 1) * 8 + k) else 0))
        first
          | rw [if_neg (by omega), Nat.add_zero]; exact ha
          | rw [if_pos (by omega), ← nI_add, ← nI_add, ha, hT _ (by omega)]
  refine J_iconst 1 1 rfl dX2_sumOfEnds_0 ic_1 ?_
  refine J_iload_n 2 rfl dX2_sumOfEnds_1 rfl ?_
  refine J_ishl 3 (2 ^ n) rfl dX2_sumOfEnds_2 (sh1 n (by omega)) ?_
  refine J_iconst 4 1 rfl dX2_sumOfEnds_3 ic_1 ?_
  refine J_isub 5 rfl dX2_sumOfEnds_4 (by omega) ?_
  refine J_istore_n 6 rfl dX2_sumOfEnds_5 rfl (Nat.le_of_ble_eq_true rfl) ?_
  refine J_iconst 7 0 rfl dX2_sumOfEnds_6 ic_0 ?_
  refine J_istore 9 rfl dX2_sumOfEnds_7 (Nat.le_of_ble_eq_true rfl) ?_
  refine J_iconst 10 1 rfl dX2_sumOfEnds_9 ic_1 ?_
  refine J_istore 12 rfl dX2_sumOfEnds_10 (Nat.le_of_ble_eq_true rfl) ?_
  exact loop _ 1 0 rfl (by omega) (by omega) rfl

theorem S_X2_countByTable {g : Gn} {J : DJ} {n ev : Nat} (h3 : 3 ≤ n) (h8 : n ≤ 8) (hev : ev ≤ 4) : SJ g mX2_countByTable 3 0 0 [.ref (g.2 333), .int (nI (n)), .int (nI (ev))] J (Rp (eoR n ev) (fun J2 => ∃ r, J2 = sR J 334 r)) NoX := by
  have p8 : 2 ^ n ≤ 256 := Nat.le_trans (Nat.pow_le_pow_right (by omega) h8) (by decide)
  have pn : 2 ^ n = 2 * 2 ^ (n - 1) := by rw [Nat.mul_comm, ← Nat.pow_succ]; congr 1; omega
  have p1 := Nat.two_pow_pos (n - 1)
  refine SJ_of_VJ (by decide +kernel) (Nat.le_of_ble_eq_true rfl) ?_
  show VJ g mX2_countByTable 3 0 0 _ _ 0 [(0, .ref (g.2 333)), (1, .int (nI (n))), (2, .int (nI (ev)))] [] J
  have loop : ∀ (n9 : Nat) (i : Nat) (r : Nat → Nat), 2 ^ n - i = n9 → i ≤ 2 ^ (n - 1) → IEq (2 ^ n * 8) (eoT n ev i) r → VJ g mX2_countByTable 3 0 0 (Rp (eoR n ev) (fun J2 => ∃ r, J2 = sR J 334 r)) NoX 41 [(0, .ref (g.2 333)), (1, .int (nI (n))), (2, .int (nI (ev))), (3, .int (nI (2 ^ n))), (4, .int (nI (2 * i + 1)))] [] (sR J 334 r) := by
    intro n9
    induction n9 using Nat.strongRecOn with
    | ind n9 ih =>
    intro i r hi hin hr
    refine J_iload 43 rfl dX2_countByTable_41 rfl ?_
    refine J_iload_n 44 rfl dX2_countByTable_43 rfl ?_
    refine J_icmp_ge 78 47 (by decide) rfl dX2_countByTable_44 (by omega) (by omega) (fun c44 => ?_) (fun c44 => ?_)
    · refine J_aload_n 79 rfl dX2_countByTable_78 rfl ?_
      refine J_iload_n 80 rfl dX2_countByTable_79 rfl ?_
      refine J_iload_n 81 rfl dX2_countByTable_80 rfl ?_
      refine J_callVi (As := [_, _]) 84 _ rfl kalX2_sumOfEnds lkX2_22 dX2_countByTable_81 (lt_X2) (so_X2) rfl rfl rfl (by exact Nat.le_of_ble_eq_true rfl) (by omega) (S_X2_sumOfEnds (T := eoT n ev i) h3 h8 hev hr) ?_
      refine J_iret rfl dX2_countByTable_84 ?_
      have e : i = 2 ^ (n - 1) := by omega
      subst e
      exact ⟨rfl, r, rfl⟩
    · have hS : 2 * i + 1 < 2 ^ n := by omega
      have kont : ∀ (r : Nat → Nat), IEq (2 ^ n * 8) (eoL n ev (eoT n ev i) (2 * i + 1) n) r → VJ g mX2_countByTable 3 0 0 (Rp (eoR n ev) (fun J2 => ∃ r, J2 = sR J 334 r)) NoX 72 [(0, .ref (g.2 333)), (1, .int (nI (n))), (2, .int (nI (ev))), (3, .int (nI (2 ^ n))), (4, .int (nI (2 * i + 1))), (5, .int (nI (n)))] [] (sR J 334 r) := by
        intro r hr
        refine J_iinc 75 2 rfl dX2_countByTable_72 ic_2 rfl (Nat.le_of_ble_eq_true rfl) ?_
        refine J_goto 41 (by decide) dX2_countByTable_75 ?_
        refine J_keep [0, 1, 2, 3, 4] ?_
        exact ih _ (by omega) (i + 1) _ rfl (by omega) hr
      have inner : ∀ (n9 : Nat) (l : Nat) (r : Nat → Nat), n - l = n9 → l ≤ n → IEq (2 ^ n * 8) (eoL n ev (eoT n ev i) (2 * i + 1) l) r → VJ g mX2_countByTable 3 0 0 (Rp (eoR n ev) (fun J2 => ∃ r, J2 = sR J 334 r)) NoX 50 [(0, .ref (g.2 333)), (1, .int (nI (n))), (2, .int (nI (ev))), (3, .int (nI (2 ^ n))), (4, .int (nI (2 * i + 1))), (5, .int (nI (l)))] [] (sR J 334 r) := by
        intro n9
        induction n9 using Nat.strongRecOn with
        | ind n9 ihe =>
        intro l r hi2 hle2 hr
        refine J_iload 52 rfl dX2_countByTable_50 rfl ?_
        refine J_iload_n 53 rfl dX2_countByTable_52 rfl ?_
        refine J_icmp_ge 72 56 (by decide) rfl dX2_countByTable_53 (by omega) (by omega) (fun c53 => ?_) (fun c53 => ?_)
        · have e : l = n := by omega
          subst e
          exact kont r hr
        · refine J_aload_n 57 rfl dX2_countByTable_56 rfl ?_
          refine J_iload 59 rfl dX2_countByTable_57 rfl ?_
          refine J_iload 61 rfl dX2_countByTable_59 rfl ?_
          refine J_iload_n 62 rfl dX2_countByTable_61 rfl ?_
          refine J_iload_n 63 rfl dX2_countByTable_62 rfl ?_
          refine J_callVvp (As := [_, _, _, _]) 66 _ rfl kalX2_goOn lkX2_18 dX2_countByTable_63 (lt_X2) (so_X2) rfl rfl rfl (by exact Nat.le_of_ble_eq_true rfl) (by omega) (S_X2_goOn h3 h8 hev hS (by omega) hr) (fun J63 q63 => ?_)
          obtain ⟨r2, e2, h2⟩ := q63
          rw [e2, sR_sR]
          refine J_iinc 69 1 rfl dX2_countByTable_66 ic_1 rfl (Nat.le_of_ble_eq_true rfl) ?_
          refine J_goto 50 (by decide) dX2_countByTable_69 ?_
          exact ihe _ (by omega) (l + 1) r2 rfl (by omega) h2
      refine J_iconst 48 0 rfl dX2_countByTable_47 ic_0 ?_
      refine J_istore 50 rfl dX2_countByTable_48 (Nat.le_of_ble_eq_true rfl) ?_
      exact inner _ 0 r rfl (Nat.zero_le _) hr
  have zero : ∀ (n9 : Nat) (k : Nat) (r : Nat → Nat), 2 ^ n * 8 - k = n9 → k ≤ 2 ^ n * 8 → (∀ j, j < k → r j = 0) → VJ g mX2_countByTable 3 0 0 (Rp (eoR n ev) (fun J2 => ∃ r, J2 = sR J 334 r)) NoX 7 [(0, .ref (g.2 333)), (1, .int (nI (n))), (2, .int (nI (ev))), (3, .int (nI (2 ^ n))), (4, .int (nI (k)))] [] (sR J 334 r) := by
    intro n9
    induction n9 using Nat.strongRecOn with
    | ind n9 ihz =>
    intro k r hi hle hz
    refine J_iload 9 rfl dX2_countByTable_7 rfl ?_
    refine J_iload_n 10 rfl dX2_countByTable_9 rfl ?_
    refine J_bipush 12 8 rfl dX2_countByTable_10 bc_8 ?_
    refine J_imul 13 rfl dX2_countByTable_12 ?_
    refine J_icmp_ge 30 16 (by decide) rfl dX2_countByTable_13 (by omega) (by omega) (fun c13 => ?_) (fun c13 => ?_)
    · refine J_aload_n 31 rfl dX2_countByTable_30 rfl ?_
      refine g_X2_table 34 rfl dX2_countByTable_31 lkX2_9 ?_
      refine J_bipush 36 8 rfl dX2_countByTable_34 bc_8 ?_
      refine J_iconst 37 1 rfl dX2_countByTable_36 ic_1 ?_
      refine J_iast 38 rfl dX2_countByTable_37 (sa_X2_table) (by omega) ?_
      refine J_iconst 39 1 rfl dX2_countByTable_38 ic_1 ?_
      refine J_istore 41 rfl dX2_countByTable_39 (Nat.le_of_ble_eq_true rfl) ?_
      rw [up2_in]
      refine J_keep [0, 1, 2, 3, 4] ?_
      refine loop _ 0 _ rfl (Nat.zero_le _) (fun j hj => ?_)
      rw [up1_app]
      show _ = nI (if j = 8 then 1 else 0)
      by_cases e : j = 8
      · rw [if_pos e, if_pos e]
      · rw [if_neg e, if_neg e, hz j (by omega)]
    · refine J_aload_n 17 rfl dX2_countByTable_16 rfl ?_
      refine g_X2_table 20 rfl dX2_countByTable_17 lkX2_9 ?_
      refine J_iload 22 rfl dX2_countByTable_20 rfl ?_
      refine J_iconst 23 0 rfl dX2_countByTable_22 ic_0 ?_
      refine J_iast 24 rfl dX2_countByTable_23 (sa_X2_table) (by omega) ?_
      refine J_iinc 27 1 rfl dX2_countByTable_24 ic_1 rfl (Nat.le_of_ble_eq_true rfl) ?_
      refine J_goto 7 (by decide) dX2_countByTable_27 ?_
      rw [up2_in]
      refine ihz _ (by omega) (k + 1) _ rfl (by omega) (fun j hj => ?_)
      rw [up1_app]
      split
      · rfl
      · exact hz j (by omega)
  refine J_iconst 1 1 rfl dX2_countByTable_0 ic_1 ?_
  refine J_iload_n 2 rfl dX2_countByTable_1 rfl ?_
  refine J_ishl 3 (2 ^ n) rfl dX2_countByTable_2 (sh1 n (by omega)) ?_
  refine J_istore_n 4 rfl dX2_countByTable_3 rfl (Nat.le_of_ble_eq_true rfl) ?_
  refine J_iconst 5 0 rfl dX2_countByTable_4 ic_0 ?_
  refine J_istore 7 rfl dX2_countByTable_5 (Nat.le_of_ble_eq_true rfl) ?_
  have l9 := zero _ 0 (J 334) rfl (Nat.zero_le _) (fun j hj => absurd hj (by omega))
  rw [sR_id] at l9
  exact l9

theorem S_X2_countFrom {g : Gn} {n ev : Nat} (h3 : 3 ≤ n) (h8 : n ≤ 8) (hev : ev ≤ 4) : ∀ (k p : Nat) (J : DJ), n - p = k → 1 ≤ p → p ≤ n → (∀ i, i < n → J 335 i < n) → SJ g mX2_countFrom (2 + k) 0 0 [.int (nI p), .ref (g.2 335), .int (nI n), .int (nI ev)] J (Ri (cF n ev k p (J 335)) J) NoX := by
  intro k
  induction k with
  | zero =>
    intro p J hk h1 hp hw
    refine SJ_of_VJ (by decide +kernel) (Nat.le_of_ble_eq_true rfl) ?_
    show VJ g mX2_countFrom (2 + 0) 0 0 _ _ 0 [(0, .int (nI p)), (1, .ref (g.2 335)), (2, .int (nI n)), (3, .int (nI ev))] [] J
    have q0 := hw 0 (by omega)
    have q1 := hw (p - 1) (by omega)
    have db := dist_le (J 335 (p - 1)) (J 335 0) n
    refine J_iload_n 1 rfl dX2_countFrom_0 rfl ?_
    refine J_iload_n 2 rfl dX2_countFrom_1 rfl ?_
    refine J_icmp_lt 27 5 (by decide) rfl dX2_countFrom_2 (by omega) (by omega) (fun c2 => ?_) (fun c2 => ?_)
    · exfalso
      omega
    · refine J_aload_n 6 rfl dX2_countFrom_5 rfl ?_
      refine J_iload_n 7 rfl dX2_countFrom_6 rfl ?_
      refine J_iconst 8 1 rfl dX2_countFrom_7 ic_1 ?_
      refine J_isub 9 rfl dX2_countFrom_8 (by omega) ?_
      refine J_iald 10 rfl dX2_countFrom_9 (sa_X2_order) (by omega) ?_
      refine J_aload_n 11 rfl dX2_countFrom_10 rfl ?_
      refine J_iconst 12 0 rfl dX2_countFrom_11 ic_0 ?_
      refine J_iald 13 rfl dX2_countFrom_12 (sa_X2_order) (by omega) ?_
      refine J_iload_n 14 rfl dX2_countFrom_13 rfl ?_
      refine J_callSNi (As := [_, _, _]) (host := "EngineMonastery") 17 rfl kalX10_distance (by decide) dX2_countFrom_14 rfl rfl (by exact Nat.le_of_ble_eq_true rfl) (by omega) (S_X10_distance q1 q0 (by omega)) ?_
      refine J_iload_n 18 rfl dX2_countFrom_17 rfl ?_
      refine J_icmp_lt 25 21 (by decide) rfl dX2_countFrom_18 (by omega) (by omega) (fun c18 => ?_) (fun c18 => ?_)
      · refine J_iconst 26 0 rfl dX2_countFrom_25 ic_0 ?_
        refine J_iret rfl dX2_countFrom_26 ?_
        refine ⟨?_, rfl⟩
        unfold cF
        first
          | rw [if_pos (by omega)]
          | rw [if_neg (by omega)]
      · refine J_iconst 22 1 rfl dX2_countFrom_21 ic_1 ?_
        refine J_goto 26 (by decide) dX2_countFrom_22 ?_
        refine J_iret rfl dX2_countFrom_26 ?_
        refine ⟨?_, rfl⟩
        unfold cF
        first
          | rw [if_pos (by omega)]
          | rw [if_neg (by omega)]
  | succ k ihk =>
    intro p J hk h1 hp hw
    refine SJ_of_VJ (by decide +kernel) (Nat.le_of_ble_eq_true rfl) ?_
    show VJ g mX2_countFrom (2 + (k + 1)) 0 0 _ _ 0 [(0, .int (nI p)), (1, .ref (g.2 335)), (2, .int (nI n)), (3, .int (nI ev))] [] J
    have loop : ∀ (n9 : Nat) (j : Nat), n - j = n9 → p + j ≤ n → VJ g mX2_countFrom (2 + (k + 1)) 0 0 (Ri (cF n ev (k + 1) p (J 335)) J) NoX 33 [(0, .int (nI (p))), (1, .ref (g.2 335)), (2, .int (nI (n))), (3, .int (nI (ev))), (4, .int (nI (sumN (fun j => if ev ≤ dist (J 335 (p - 1)) (J 335 (p + j)) n then cF n ev k (p + 1) (swp (J 335) p (p + j)) else 0) j))), (5, .int (nI (p + j)))] [] J := by
      intro n9
      induction n9 using Nat.strongRecOn with
      | ind n9 ih =>
      intro j hi hle
      refine J_iload 35 rfl dX2_countFrom_33 rfl ?_
      refine J_iload_n 36 rfl dX2_countFrom_35 rfl ?_
      refine J_icmp_ge 105 39 (by decide) rfl dX2_countFrom_36 (by omega) (by omega) (fun c36 => ?_) (fun c36 => ?_)
      · refine J_iload 107 rfl dX2_countFrom_105 rfl ?_
        refine J_iret rfl dX2_countFrom_107 ?_
        refine ⟨?_, rfl⟩
        have e : j = n - p := by omega
        subst e
        rfl
      · have q0 := hw (p - 1) (by omega)
        have q1 := hw (p + j) (by omega)
        have db := dist_le (J 335 (p - 1)) (J 335 (p + j)) n
        refine J_aload_n 40 rfl dX2_countFrom_39 rfl ?_
        refine J_iload 42 rfl dX2_countFrom_40 rfl ?_
        refine J_iald 43 rfl dX2_countFrom_42 (sa_X2_order) (by omega) ?_
        refine J_istore 45 rfl dX2_countFrom_43 (Nat.le_of_ble_eq_true rfl) ?_
        refine J_aload_n 46 rfl dX2_countFrom_45 rfl ?_
        refine J_iload_n 47 rfl dX2_countFrom_46 rfl ?_
        refine J_iconst 48 1 rfl dX2_countFrom_47 ic_1 ?_
        refine J_isub 49 rfl dX2_countFrom_48 (by omega) ?_
        refine J_iald 50 rfl dX2_countFrom_49 (sa_X2_order) (by omega) ?_
        refine J_iload 52 rfl dX2_countFrom_50 rfl ?_
        refine J_iload_n 53 rfl dX2_countFrom_52 rfl ?_
        refine J_callSNi (As := [_, _, _]) (host := "EngineMonastery") 56 rfl kalX10_distance (by decide) dX2_countFrom_53 rfl rfl (by exact Nat.le_of_ble_eq_true rfl) (by omega) (S_X10_distance q0 q1 (by omega)) ?_
        refine J_iload_n 57 rfl dX2_countFrom_56 rfl ?_
        refine J_icmp_lt 99 60 (by decide) rfl dX2_countFrom_57 (by omega) (by omega) (fun c57 => ?_) (fun c57 => ?_)
        · refine J_iinc 102 1 rfl dX2_countFrom_99 ic_1 rfl (Nat.le_of_ble_eq_true rfl) ?_
          refine J_goto 33 (by decide) dX2_countFrom_102 ?_
          refine J_keep [0, 1, 2, 3, 4, 5] ?_
          have nx := ih _ (by omega) (j + 1) rfl (by omega)
          simp only [sumN] at nx
          first
            | rw [if_neg (by omega), Nat.add_zero] at nx; exact nx
            | rw [if_pos (by omega)] at nx
              rw [up2_in, up2_in, sR_at, swp_back, sR_id]
              exact nx
        · refine J_aload_n 61 rfl dX2_countFrom_60 rfl ?_
          refine J_iload 63 rfl dX2_countFrom_61 rfl ?_
          refine J_aload_n 64 rfl dX2_countFrom_63 rfl ?_
          refine J_iload_n 65 rfl dX2_countFrom_64 rfl ?_
          refine J_iald 66 rfl dX2_countFrom_65 (sa_X2_order) (by omega) ?_
          refine J_iast 67 rfl dX2_countFrom_66 (sa_X2_order) (by omega) ?_
          refine J_aload_n 68 rfl dX2_countFrom_67 rfl ?_
          refine J_iload_n 69 rfl dX2_countFrom_68 rfl ?_
          refine J_iload 71 rfl dX2_countFrom_69 rfl ?_
          refine J_iast 72 rfl dX2_countFrom_71 (sa_X2_order) (by omega) ?_
          rw [up2_swp]
          have hw2 : ∀ i, i < n → sR J 335 (swp (J 335) p (p + j)) 335 i < n := fun i hi => by
            rw [sR_at]
            unfold swp
            rw [up1_app, up1_app]
            split
            · exact hw _ (by omega)
            · split
              · exact hw _ (by omega)
              · exact hw i hi
          refine J_iload 74 rfl dX2_countFrom_72 rfl ?_
          refine J_iload_n 75 rfl dX2_countFrom_74 rfl ?_
          refine J_iconst 76 1 rfl dX2_countFrom_75 ic_1 ?_
          refine J_iadd 77 rfl dX2_countFrom_76 ?_
          refine J_aload_n 78 rfl dX2_countFrom_77 rfl ?_
          refine J_iload_n 79 rfl dX2_countFrom_78 rfl ?_
          refine J_iload_n 80 rfl dX2_countFrom_79 rfl ?_
          refine J_callSi (As := [_, _, _, _]) 83 rfl kalX2_countFrom lkX2_30 dX2_countFrom_80 rfl rfl (by exact Nat.le_of_ble_eq_true rfl) (by omega) (ihk (p + 1) (sR J 335 (swp (J 335) p (p + j))) (by omega) (by omega) (by omega) hw2) ?_
          refine J_cv (b := cF n ev k (p + 1) (swp (J 335) p (p + j))) (by rw [sR_at]) ?_
          refine J_iadd 84 rfl dX2_countFrom_83 ?_
          refine J_istore 86 rfl dX2_countFrom_84 (Nat.le_of_ble_eq_true rfl) ?_
          refine J_aload_n 87 rfl dX2_countFrom_86 rfl ?_
          refine J_iload_n 88 rfl dX2_countFrom_87 rfl ?_
          refine J_aload_n 89 rfl dX2_countFrom_88 rfl ?_
          refine J_iload 91 rfl dX2_countFrom_89 rfl ?_
          refine J_iald 92 rfl dX2_countFrom_91 (sa_X2_order) (by omega) ?_
          refine J_iast 93 rfl dX2_countFrom_92 (sa_X2_order) (by omega) ?_
          refine J_aload_n 94 rfl dX2_countFrom_93 rfl ?_
          refine J_iload 96 rfl dX2_countFrom_94 rfl ?_
          refine J_iload 98 rfl dX2_countFrom_96 rfl ?_
          refine J_iast 99 rfl dX2_countFrom_98 (sa_X2_order) (by omega) ?_
          refine J_iinc 102 1 rfl dX2_countFrom_99 ic_1 rfl (Nat.le_of_ble_eq_true rfl) ?_
          refine J_goto 33 (by decide) dX2_countFrom_102 ?_
          refine J_keep [0, 1, 2, 3, 4, 5] ?_
          have nx := ih _ (by omega) (j + 1) rfl (by omega)
          simp only [sumN] at nx
          first
            | rw [if_neg (by omega), Nat.add_zero] at nx; exact nx
            | rw [if_pos (by omega)] at nx
              rw [up2_in, up2_in, sR_at, swp_back, sR_id]
              exact nx
    refine J_iload_n 1 rfl dX2_countFrom_0 rfl ?_
    refine J_iload_n 2 rfl dX2_countFrom_1 rfl ?_
    refine J_icmp_lt 27 5 (by decide) rfl dX2_countFrom_2 (by omega) (by omega) (fun c2 => ?_) (fun c2 => ?_)
    · refine J_iconst 28 0 rfl dX2_countFrom_27 ic_0 ?_
      refine J_istore 30 rfl dX2_countFrom_28 (Nat.le_of_ble_eq_true rfl) ?_
      refine J_iload_n 31 rfl dX2_countFrom_30 rfl ?_
      refine J_istore 33 rfl dX2_countFrom_31 (Nat.le_of_ble_eq_true rfl) ?_
      exact loop _ 0 rfl (by omega)
    · exfalso
      omega

theorem cF_congr {n ev : Nat} (hn : 1 ≤ n) : ∀ (k p : Nat) (w w' : Nat → Nat), n - p = k → 1 ≤ p → p ≤ n → (∀ i, i < n → w' i = w i) → cF n ev k p w' = cF n ev k p w
  | 0, p, w, w', hk, h1, hp, h => by
    unfold cF
    rw [h 0 (by omega), h (p - 1) (by omega)]
  | k + 1, p, w, w', hk, h1, hp, h => by
    unfold cF
    refine sumN_congr _ (fun j hj => ?_)
    rw [h (p - 1) (by omega), h (p + j) (by omega), cF_congr hn k (p + 1) (swp w p (p + j)) (swp w' p (p + j)) (by omega) (by omega) (by omega) (fun i hi => ?_)]
    unfold swp
    simp only [up1_app]
    rw [h p (by omega), h (p + j) (by omega), h i hi]
theorem S_X2_countBySwapping {g : Gn} {J : DJ} {n ev : Nat} (h3 : 3 ≤ n) (h8 : n ≤ 8) (hev : ev ≤ 4) : SJ g mX2_countBySwapping 12 0 0 [.ref (g.2 333), .int (nI (n)), .int (nI (ev))] J (Rp (cF n ev (n - 1) 1 (fun i => i)) (fun J2 => ∃ r, J2 = sR J 335 r)) NoX := by
  refine SJ_of_VJ (by decide +kernel) (Nat.le_of_ble_eq_true rfl) ?_
  show VJ g mX2_countBySwapping 12 0 0 _ _ 0 [(0, .ref (g.2 333)), (1, .int (nI (n))), (2, .int (nI (ev)))] [] J
  have loop : ∀ (n9 : Nat) (k : Nat) (r : Nat → Nat), n - k = n9 → k ≤ n → (∀ j, j < k → r j = j) → VJ g mX2_countBySwapping 12 0 0 (Rp (cF n ev (n - 1) 1 (fun i => i)) (fun J2 => ∃ r, J2 = sR J 335 r)) NoX 2 [(0, .ref (g.2 333)), (1, .int (nI (n))), (2, .int (nI (ev))), (3, .int (nI (k)))] [] (sR J 335 r) := by
    intro n9
    induction n9 using Nat.strongRecOn with
    | ind n9 ih =>
    intro k r hi hle hz
    refine J_iload_n 3 rfl dX2_countBySwapping_2 rfl ?_
    refine J_iload_n 4 rfl dX2_countBySwapping_3 rfl ?_
    refine J_icmp_ge 20 7 (by decide) rfl dX2_countBySwapping_4 (by omega) (by omega) (fun c4 => ?_) (fun c4 => ?_)
    · refine J_iconst 21 1 rfl dX2_countBySwapping_20 ic_1 ?_
      refine J_aload_n 22 rfl dX2_countBySwapping_21 rfl ?_
      refine g_X2_order 25 rfl dX2_countBySwapping_22 lkX2_15 ?_
      refine J_iload_n 26 rfl dX2_countBySwapping_25 rfl ?_
      refine J_iload_n 27 rfl dX2_countBySwapping_26 rfl ?_
      refine J_callSi (As := [_, _, _, _]) 30 rfl kalX2_countFrom lkX2_30 dX2_countBySwapping_27 rfl rfl (by exact Nat.le_of_ble_eq_true rfl) (by omega) (S_X2_countFrom h3 h8 hev (n - 1) 1 (sR J 335 r) rfl (by omega) (by omega) (fun i hi => by rw [sR_at, hz i (by omega)]; exact hi)) ?_
      refine J_iret rfl dX2_countBySwapping_30 ?_
      refine ⟨?_, r, rfl⟩
      rw [sR_at, cF_congr (by omega) _ 1 (fun i => i) r rfl (by omega) (by omega) (fun i hi => hz i (by omega))]
    · refine J_aload_n 8 rfl dX2_countBySwapping_7 rfl ?_
      refine g_X2_order 11 rfl dX2_countBySwapping_8 lkX2_15 ?_
      refine J_iload_n 12 rfl dX2_countBySwapping_11 rfl ?_
      refine J_iload_n 13 rfl dX2_countBySwapping_12 rfl ?_
      refine J_iast 14 rfl dX2_countBySwapping_13 (sa_X2_order) (by omega) ?_
      refine J_iinc 17 1 rfl dX2_countBySwapping_14 ic_1 rfl (Nat.le_of_ble_eq_true rfl) ?_
      refine J_goto 2 (by decide) dX2_countBySwapping_17 ?_
      rw [up2_in]
      refine ih _ (by omega) (k + 1) _ rfl (by omega) (fun j hj => ?_)
      rw [up1_app]
      split
      · next e => exact e.symm
      · exact hz j (by omega)
  refine J_iconst 1 0 rfl dX2_countBySwapping_0 ic_0 ?_
  refine J_istore_n 2 rfl dX2_countBySwapping_1 rfl (Nat.le_of_ble_eq_true rfl) ?_
  have l9 := loop _ 0 (J 335) rfl (Nat.zero_le _) (fun j hj => absurd hj (by omega))
  rw [sR_id] at l9
  exact l9

