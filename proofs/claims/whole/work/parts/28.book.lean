/-! STROKES, KNOCK BOOK, REPAIRS (laid by wip/whole/src/p28.py) -/
theorem S_X1_turnOver {g : Gn} {J : DJ} {k n o B : Nat} {f : Nat → Nat} (hb : isE k) (h : CE J k f o) (hok : EOk f o) (hB : EB f o B) (h24 : 24 ≤ B) (hBn : B + n < 1000000000) : SJ g mX1_turnOver 1 0 0 [.ref (g.2 k), .int (nI (n))] J (Rp (eKn f o n) (fun J2 => Fr k 5 J J2 ∧ CE J2 k (eStN f o n) o)) NoX := by
  refine SJ_of_VJ (by decide +kernel) (Nat.le_of_ble_eq_true rfl) ?_
  show VJ g mX1_turnOver 1 0 0 _ _ 0 [(0, .ref (g.2 k)), (1, .int (nI (n)))] [] J
  have loop : ∀ (n9 : Nat) (i : Nat) (J1 : DJ), n - i = n9 → i ≤ n → Fr k 5 J J1 → CE J1 k (eStN f o i) o → VJ g mX1_turnOver 1 0 0 (Rp (eKn f o n) (fun J2 => Fr k 5 J J2 ∧ CE J2 k (eStN f o n) o)) NoX 4 [(0, .ref (g.2 k)), (1, .int (nI (n))), (2, .int (nI (eKn f o i))), (3, .int (nI (i)))] [] J1 := by
    intro n9
    induction n9 using Nat.strongRecOn with
    | ind n9 ih =>
    intro i J1 hi hle f1 c1
    have oki := eStN_ok hok i
    have tail : ∀ (kn : Nat) (J2 : DJ), i < n → kn = eKn f o (i + 1) → Fr k 5 J J2 → CE J2 k (eDo (eStN f o i) o) o → VJ g mX1_turnOver 1 0 0 (Rp (eKn f o n) (fun J2 => Fr k 5 J J2 ∧ CE J2 k (eStN f o n) o)) NoX 64 [(0, .ref (g.2 k)), (1, .int (nI (n))), (2, .int (nI (kn))), (3, .int (nI (i)))] [] J2 := by
      intro kn J2 hin hkn hf2 hc2
      have e6 : J2 k 6 = eStN f o i o := by rw [hc2.1, eDo_lo oki (by omega) (by omega)]
      have e7 : J2 k 7 = eStN f o i (o + 1) := by rw [hc2.2.1, eDo_lo oki (by omega) (by omega)]
      have l7 := oki.2.2.1
      have l8 := oki.2.1
      have l0 := oki.1
      refine J_aload_n 65 rfl dX1_turnOver_64 rfl ?_
      refine J_aload_n 66 rfl dX1_turnOver_65 rfl ?_
      refine J_aload_n 67 rfl dX1_turnOver_66 rfl ?_
      refine g_X1_due 70 (by first | assumption | exact isH_1 | exact isH_31 | exact isH_61 | exact isH_p (by omega) | exact isH_E (by assumption) (by omega) | exact isH_R (by assumption) | exact isH_K (by assumption) | exact isH_E isH_1 (by omega) | exact isH_R isH_1 | exact isH_K isH_1 | exact isH_R isH_31 | exact isH_K isH_31 | exact isH_E isH_31 (by omega)) rfl dX1_turnOver_67 lkX1_28 ?_
      refine J_callVi (As := [_]) 73 _ rfl kalX1_placeAfter lkX1_50 dX1_turnOver_70 (lt_X1 (by first | assumption | exact isH_1 | exact isH_31 | exact isH_61 | exact isH_p (by omega) | exact isH_E (by assumption) (by omega) | exact isH_R (by assumption) | exact isH_K (by assumption) | exact isH_E isH_1 (by omega) | exact isH_R isH_1 | exact isH_K isH_1 | exact isH_R isH_31 | exact isH_K isH_31 | exact isH_E isH_31 (by omega))) (so_X1 (by first | assumption | exact isH_1 | exact isH_31 | exact isH_61 | exact isH_p (by omega) | exact isH_E (by assumption) (by omega) | exact isH_R (by assumption) | exact isH_K (by assumption) | exact isH_E isH_1 (by omega) | exact isH_R isH_1 | exact isH_K isH_1 | exact isH_R isH_31 | exact isH_K isH_31 | exact isH_E isH_31 (by omega))) rfl rfl rfl (by exact Nat.le_of_ble_eq_true rfl) (by omega) (S_X1_placeAfter hb (by omega) (by omega)) ?_
      refine p_X1_due 76 (by first | assumption | exact isH_1 | exact isH_31 | exact isH_61 | exact isH_p (by omega) | exact isH_E (by assumption) (by omega) | exact isH_R (by assumption) | exact isH_K (by assumption) | exact isH_E isH_1 (by omega) | exact isH_R isH_1 | exact isH_K isH_1 | exact isH_R isH_31 | exact isH_K isH_31 | exact isH_E isH_31 (by omega)) rfl dX1_turnOver_73 lkX1_28 ?_
      refine J_iinc 79 1 rfl dX1_turnOver_76 ic_1 rfl (Nat.le_of_ble_eq_true rfl) ?_
      refine J_goto 4 (by decide) dX1_turnOver_79 ?_
      rw [hkn]
      refine ih _ (by omega) (i + 1) _ rfl (by omega) (hf2.up (by omega)) ?_
      have e9 : (if J2 k 7 + 1 < J2 k 6 then J2 k 7 + 1 else 0) = (eStN f o i (o + 1) + 1) % eStN f o i o := by
        rw [e7, e6, ← mod_step (by omega), Nat.mod_eq_of_lt oki.2.2.1]
      rw [e9]
      exact CE_due hc2

    have oki := eStN_ok hok i
    have hcy := eCy_lt oki
    have l7 := oki.2.2.1
    have l8 := oki.2.1
    have Bi := eStN_B hok hB h24 i
    have b12 := Bi (o + 12 + eCy (eStN f o i) o) (by omega) (by omega)
    refine J_iload_n 5 rfl dX1_turnOver_4 rfl ?_
    refine J_iload_n 6 rfl dX1_turnOver_5 rfl ?_
    refine J_icmp_ge 82 9 (by decide) rfl dX1_turnOver_6 (by omega) (by omega) (fun c6 => ?_) (fun c6 => ?_)
    · refine J_iload_n 83 rfl dX1_turnOver_82 rfl ?_
      refine J_iret rfl dX1_turnOver_83 ?_
      have e : i = n := by omega
      subst e
      exact ⟨rfl, f1, c1⟩
    · refine J_aload_n 10 rfl dX1_turnOver_9 rfl ?_
      refine g_X1_order 13 (by first | assumption | exact isH_1 | exact isH_31 | exact isH_61 | exact isH_p (by omega) | exact isH_E (by assumption) (by omega) | exact isH_R (by assumption) | exact isH_K (by assumption) | exact isH_E isH_1 (by omega) | exact isH_R isH_1 | exact isH_K isH_1 | exact isH_R isH_31 | exact isH_K isH_31 | exact isH_E isH_31 (by omega)) rfl dX1_turnOver_10 lkX1_9 ?_
      refine J_aload_n 14 rfl dX1_turnOver_13 rfl ?_
      refine g_X1_due 17 (by first | assumption | exact isH_1 | exact isH_31 | exact isH_61 | exact isH_p (by omega) | exact isH_E (by assumption) (by omega) | exact isH_R (by assumption) | exact isH_K (by assumption) | exact isH_E isH_1 (by omega) | exact isH_R isH_1 | exact isH_K isH_1 | exact isH_R isH_31 | exact isH_K isH_31 | exact isH_E isH_31 (by omega)) rfl dX1_turnOver_14 lkX1_28 ?_
      refine J_cv (b := eStN f o i (o + 1)) c1.2.1 ?_
      refine J_iald 18 rfl dX1_turnOver_17 (sa_X1_order (by first | assumption | exact isH_1 | exact isH_31 | exact isH_61 | exact isH_p (by omega) | exact isH_E (by assumption) (by omega) | exact isH_R (by assumption) | exact isH_K (by assumption) | exact isH_E isH_1 (by omega) | exact isH_R isH_1 | exact isH_K isH_1 | exact isH_R isH_31 | exact isH_K isH_31 | exact isH_E isH_31 (by omega))) (by omega) ?_
      refine J_cv (b := eCy (eStN f o i) o) ((c1.2.2.2.2.2.1 _ oki.2.2.1).1) ?_
      refine J_istore 20 rfl dX1_turnOver_18 (Nat.le_of_ble_eq_true rfl) ?_
      refine J_aload_n 21 rfl dX1_turnOver_20 rfl ?_
      refine g_X1_oil 24 (by first | assumption | exact isH_1 | exact isH_31 | exact isH_61 | exact isH_p (by omega) | exact isH_E (by assumption) (by omega) | exact isH_R (by assumption) | exact isH_K (by assumption) | exact isH_E isH_1 (by omega) | exact isH_R isH_1 | exact isH_K isH_1 | exact isH_R isH_31 | exact isH_K isH_31 | exact isH_E isH_31 (by omega)) rfl dX1_turnOver_21 lkX1_15 ?_
      refine J_iload 26 rfl dX1_turnOver_24 rfl ?_
      refine J_iald 27 rfl dX1_turnOver_26 (sa_X1_oil (by first | assumption | exact isH_1 | exact isH_31 | exact isH_61 | exact isH_p (by omega) | exact isH_E (by assumption) (by omega) | exact isH_R (by assumption) | exact isH_K (by assumption) | exact isH_E isH_1 (by omega) | exact isH_R isH_1 | exact isH_K isH_1 | exact isH_R isH_31 | exact isH_K isH_31 | exact isH_E isH_31 (by omega))) (by omega) ?_
      refine J_cv (b := eStN f o i (o + 12 + eCy (eStN f o i) o)) ((c1.2.2.2.2.2.1 _ hcy).2.1) ?_
      refine J_if_le 55 30 (by decide) rfl dX1_turnOver_27 (by omega) (fun c27 => ?_) (fun c27 => ?_)
      · refine J_aload_n 56 rfl dX1_turnOver_55 rfl ?_
        refine J_iload 58 rfl dX1_turnOver_56 rfl ?_
        refine J_callVv (As := [_]) 61 _ rfl kalX1_keepKnock lkX1_74 dX1_turnOver_58 (lt_X1 (by first | assumption | exact isH_1 | exact isH_31 | exact isH_61 | exact isH_p (by omega) | exact isH_E (by assumption) (by omega) | exact isH_R (by assumption) | exact isH_K (by assumption) | exact isH_E isH_1 (by omega) | exact isH_R isH_1 | exact isH_K isH_1 | exact isH_R isH_31 | exact isH_K isH_31 | exact isH_E isH_31 (by omega))) (so_X1 (by first | assumption | exact isH_1 | exact isH_31 | exact isH_61 | exact isH_p (by omega) | exact isH_E (by assumption) (by omega) | exact isH_R (by assumption) | exact isH_K (by assumption) | exact isH_E isH_1 (by omega) | exact isH_R isH_1 | exact isH_K isH_1 | exact isH_R isH_31 | exact isH_K isH_31 | exact isH_E isH_31 (by omega))) rfl rfl rfl (by exact Nat.le_of_ble_eq_true rfl) (by omega) (S_X1_keepKnock hb c1.2.2.2.2.1 (by rw [c1.2.2.2.1]; exact oki.2.2.2.2.1)) ?_
        refine J_iinc 64 1 rfl dX1_turnOver_61 ic_1 rfl (Nat.le_of_ble_eq_true rfl) ?_
        refine J_keep [0, 1, 2, 3] ?_
        first
          | exact tail _ _ (by omega) (by show _ = eKn f o i + eK1 _ o; unfold eK1; rw [if_pos (by omega)]; rfl) ((f1.up (by omega)).up (by omega)) (CE_oil c1 oki rfl (by omega))
          | refine tail _ _ (by omega) (by show _ = eKn f o i + eK1 _ o; unfold eK1; rw [if_neg (by omega)]) ?_ (CE_kn c1 oki (by omega))
            split
            · exact (f1.up (by omega)).up (by omega)
            · exact (f1.up (by omega)).up (by omega)
      · refine J_aload_n 31 rfl dX1_turnOver_30 rfl ?_
        refine g_X1_oil 34 (by first | assumption | exact isH_1 | exact isH_31 | exact isH_61 | exact isH_p (by omega) | exact isH_E (by assumption) (by omega) | exact isH_R (by assumption) | exact isH_K (by assumption) | exact isH_E isH_1 (by omega) | exact isH_R isH_1 | exact isH_K isH_1 | exact isH_R isH_31 | exact isH_K isH_31 | exact isH_E isH_31 (by omega)) rfl dX1_turnOver_31 lkX1_15 ?_
        refine J_iload 36 rfl dX1_turnOver_34 rfl ?_
        refine J_dup2 37 rfl dX1_turnOver_36 rfl rfl ?_
        refine J_iald 38 rfl dX1_turnOver_37 (sa_X1_oil (by first | assumption | exact isH_1 | exact isH_31 | exact isH_61 | exact isH_p (by omega) | exact isH_E (by assumption) (by omega) | exact isH_R (by assumption) | exact isH_K (by assumption) | exact isH_E isH_1 (by omega) | exact isH_R isH_1 | exact isH_K isH_1 | exact isH_R isH_31 | exact isH_K isH_31 | exact isH_E isH_31 (by omega))) (by omega) ?_
        refine J_cv (b := eStN f o i (o + 12 + eCy (eStN f o i) o)) ((c1.2.2.2.2.2.1 _ hcy).2.1) ?_
        refine J_iconst 39 1 rfl dX1_turnOver_38 ic_1 ?_
        refine J_isub 40 rfl dX1_turnOver_39 (by omega) ?_
        refine J_iast 41 rfl dX1_turnOver_40 (sa_X1_oil (by first | assumption | exact isH_1 | exact isH_31 | exact isH_61 | exact isH_p (by omega) | exact isH_E (by assumption) (by omega) | exact isH_R (by assumption) | exact isH_K (by assumption) | exact isH_E isH_1 (by omega) | exact isH_R isH_1 | exact isH_K isH_1 | exact isH_R isH_31 | exact isH_K isH_31 | exact isH_E isH_31 (by omega))) (by omega) ?_
        refine J_aload_n 42 rfl dX1_turnOver_41 rfl ?_
        refine g_X1_wear 45 (by first | assumption | exact isH_1 | exact isH_31 | exact isH_61 | exact isH_p (by omega) | exact isH_E (by assumption) (by omega) | exact isH_R (by assumption) | exact isH_K (by assumption) | exact isH_E isH_1 (by omega) | exact isH_R isH_1 | exact isH_K isH_1 | exact isH_R isH_31 | exact isH_K isH_31 | exact isH_E isH_31 (by omega)) rfl dX1_turnOver_42 lkX1_18 ?_
        refine J_iload 47 rfl dX1_turnOver_45 rfl ?_
        refine J_dup2 48 rfl dX1_turnOver_47 rfl rfl ?_
        refine J_iald 49 rfl dX1_turnOver_48 (sa_X1_wear (by first | assumption | exact isH_1 | exact isH_31 | exact isH_61 | exact isH_p (by omega) | exact isH_E (by assumption) (by omega) | exact isH_R (by assumption) | exact isH_K (by assumption) | exact isH_E isH_1 (by omega) | exact isH_R isH_1 | exact isH_K isH_1 | exact isH_R isH_31 | exact isH_K isH_31 | exact isH_E isH_31 (by omega))) (by omega) ?_
        refine J_cv (b := eStN f o i (o + 20 + eCy (eStN f o i) o)) (by rw [up2_ne (by omega)]; exact (c1.2.2.2.2.2.1 _ hcy).2.2) ?_
        refine J_iconst 50 1 rfl dX1_turnOver_49 ic_1 ?_
        refine J_iadd 51 rfl dX1_turnOver_50 ?_
        refine J_iast 52 rfl dX1_turnOver_51 (sa_X1_wear (by first | assumption | exact isH_1 | exact isH_31 | exact isH_61 | exact isH_p (by omega) | exact isH_E (by assumption) (by omega) | exact isH_R (by assumption) | exact isH_K (by assumption) | exact isH_E isH_1 (by omega) | exact isH_R isH_1 | exact isH_K isH_1 | exact isH_R isH_31 | exact isH_K isH_31 | exact isH_E isH_31 (by omega))) (by omega) ?_
        refine J_goto 64 (by decide) dX1_turnOver_52 ?_
        refine J_keep [0, 1, 2, 3] ?_
        first
          | exact tail _ _ (by omega) (by show _ = eKn f o i + eK1 _ o; unfold eK1; rw [if_pos (by omega)]; rfl) ((f1.up (by omega)).up (by omega)) (CE_oil c1 oki rfl (by omega))
          | refine tail _ _ (by omega) (by show _ = eKn f o i + eK1 _ o; unfold eK1; rw [if_neg (by omega)]) ?_ (CE_kn c1 oki (by omega))
            split
            · exact (f1.up (by omega)).up (by omega)
            · exact (f1.up (by omega)).up (by omega)
  refine J_iconst 1 0 rfl dX1_turnOver_0 ic_0 ?_
  refine J_istore_n 2 rfl dX1_turnOver_1 rfl (Nat.le_of_ble_eq_true rfl) ?_
  refine J_iconst 3 0 rfl dX1_turnOver_2 ic_0 ?_
  refine J_istore_n 4 rfl dX1_turnOver_3 rfl (Nat.le_of_ble_eq_true rfl) ?_
  exact loop _ 0 J rfl (Nat.zero_le _) Fr.refl h

theorem S_X4_become {g : Gn} {J : DJ} {k c : Nat} (hk : isK k) (hc : isK c) (hne : k + 3 ≤ c ∨ c + 3 ≤ k) : SJ g mX4_become 1 0 0 [.ref (g.2 k), .ref (g.2 c)] J (Rq (fun J2 => Fr k 3 J J2 ∧ ∀ f, CB J c f → f 6 ≤ 12 → CB J2 k f)) NoX := by
  refine SJ_of_VJ (by decide +kernel) (Nat.le_of_ble_eq_true rfl) ?_
  show VJ g mX4_become 1 0 0 _ _ 0 [(0, .ref (g.2 k)), (1, .ref (g.2 c))] [] J
  refine J_aload_n 1 rfl dX4_become_0 rfl ?_
  refine g_X4_hours 4 (by first | assumption | exact isH_1 | exact isH_31 | exact isH_61 | exact isH_p (by omega) | exact isH_E (by assumption) (by omega) | exact isH_R (by assumption) | exact isH_K (by assumption) | exact isH_E isH_1 (by omega) | exact isH_R isH_1 | exact isH_K isH_1 | exact isH_R isH_31 | exact isH_K isH_31 | exact isH_E isH_31 (by omega)) rfl dX4_become_1 lkX4_9 ?_
  refine J_iconst 5 0 rfl dX4_become_4 ic_0 ?_
  refine J_aload_n 6 rfl dX4_become_5 rfl ?_
  refine g_X4_hours 9 (by first | assumption | exact isH_1 | exact isH_31 | exact isH_61 | exact isH_p (by omega) | exact isH_E (by assumption) (by omega) | exact isH_R (by assumption) | exact isH_K (by assumption) | exact isH_E isH_1 (by omega) | exact isH_R isH_1 | exact isH_K isH_1 | exact isH_R isH_31 | exact isH_K isH_31 | exact isH_E isH_31 (by omega)) rfl dX4_become_6 lkX4_9 ?_
  refine J_iconst 10 0 rfl dX4_become_9 ic_0 ?_
  refine J_bipush 12 12 rfl dX4_become_10 bc_12 ?_
  refine J_copy 15 rfl dX4_become_12 lkX4_18 (sa_X4_hours (by first | assumption | exact isH_1 | exact isH_31 | exact isH_61 | exact isH_p (by omega) | exact isH_E (by assumption) (by omega) | exact isH_R (by assumption) | exact isH_K (by assumption) | exact isH_E isH_1 (by omega) | exact isH_R isH_1 | exact isH_K isH_1 | exact isH_R isH_31 | exact isH_K isH_31 | exact isH_E isH_31 (by omega))) (sa_X4_hours (by first | assumption | exact isH_1 | exact isH_31 | exact isH_61 | exact isH_p (by omega) | exact isH_E (by assumption) (by omega) | exact isH_R (by assumption) | exact isH_K (by assumption) | exact isH_E isH_1 (by omega) | exact isH_R isH_1 | exact isH_K isH_1 | exact isH_R isH_31 | exact isH_K isH_31 | exact isH_E isH_31 (by omega))) (by omega) (by omega) (by exact Nat.le_of_ble_eq_true rfl) (by omega) ?_
  refine J_aload_n 16 rfl dX4_become_15 rfl ?_
  refine g_X4_knocks 19 (by first | assumption | exact isH_1 | exact isH_31 | exact isH_61 | exact isH_p (by omega) | exact isH_E (by assumption) (by omega) | exact isH_R (by assumption) | exact isH_K (by assumption) | exact isH_E isH_1 (by omega) | exact isH_R isH_1 | exact isH_K isH_1 | exact isH_R isH_31 | exact isH_K isH_31 | exact isH_E isH_31 (by omega)) rfl dX4_become_16 lkX4_15 ?_
  refine J_iconst 20 0 rfl dX4_become_19 ic_0 ?_
  refine J_aload_n 21 rfl dX4_become_20 rfl ?_
  refine g_X4_knocks 24 (by first | assumption | exact isH_1 | exact isH_31 | exact isH_61 | exact isH_p (by omega) | exact isH_E (by assumption) (by omega) | exact isH_R (by assumption) | exact isH_K (by assumption) | exact isH_E isH_1 (by omega) | exact isH_R isH_1 | exact isH_K isH_1 | exact isH_R isH_31 | exact isH_K isH_31 | exact isH_E isH_31 (by omega)) rfl dX4_become_21 lkX4_15 ?_
  refine J_iconst 25 0 rfl dX4_become_24 ic_0 ?_
  refine J_bipush 27 12 rfl dX4_become_25 bc_12 ?_
  refine J_copy 30 rfl dX4_become_27 lkX4_18 (sa_X4_knocks (by first | assumption | exact isH_1 | exact isH_31 | exact isH_61 | exact isH_p (by omega) | exact isH_E (by assumption) (by omega) | exact isH_R (by assumption) | exact isH_K (by assumption) | exact isH_E isH_1 (by omega) | exact isH_R isH_1 | exact isH_K isH_1 | exact isH_R isH_31 | exact isH_K isH_31 | exact isH_E isH_31 (by omega))) (sa_X4_knocks (by first | assumption | exact isH_1 | exact isH_31 | exact isH_61 | exact isH_p (by omega) | exact isH_E (by assumption) (by omega) | exact isH_R (by assumption) | exact isH_K (by assumption) | exact isH_E isH_1 (by omega) | exact isH_R isH_1 | exact isH_K isH_1 | exact isH_R isH_31 | exact isH_K isH_31 | exact isH_E isH_31 (by omega))) (by omega) (by omega) (by exact Nat.le_of_ble_eq_true rfl) (by omega) ?_
  refine J_aload_n 31 rfl dX4_become_30 rfl ?_
  refine J_aload_n 32 rfl dX4_become_31 rfl ?_
  refine g_X4_kept 35 (by first | assumption | exact isH_1 | exact isH_31 | exact isH_61 | exact isH_p (by omega) | exact isH_E (by assumption) (by omega) | exact isH_R (by assumption) | exact isH_K (by assumption) | exact isH_E isH_1 (by omega) | exact isH_R isH_1 | exact isH_K isH_1 | exact isH_R isH_31 | exact isH_K isH_31 | exact isH_E isH_31 (by omega)) rfl dX4_become_32 lkX4_24 ?_
  refine p_X4_kept 38 (by first | assumption | exact isH_1 | exact isH_31 | exact isH_61 | exact isH_p (by omega) | exact isH_E (by assumption) (by omega) | exact isH_R (by assumption) | exact isH_K (by assumption) | exact isH_E isH_1 (by omega) | exact isH_R isH_1 | exact isH_K isH_1 | exact isH_R isH_31 | exact isH_K isH_31 | exact isH_E isH_31 (by omega)) rfl dX4_become_35 lkX4_24 ?_
  refine J_vret rfl dX4_become_38 ?_
  refine ⟨rfl, ((Fr.refl.cp (by omega)).cp (by omega)).up (by omega), fun f q h6 => ⟨?_, fun i hi => ?_⟩⟩
  · rw [up2_app, if_pos ⟨rfl, rfl⟩, cp2_ne (by omega), cp2_ne (by omega)]; exact q.1
  · have z := q.2 i hi
    refine ⟨?_, ?_⟩
    · rw [up2_ne (show k + 1 ≠ k by omega), cp2_ne (show k + 1 ≠ k + 2 by omega), cp2_app, if_pos ⟨rfl, by omega, by omega⟩]
      simpa using z.1
    · rw [up2_ne (show k + 2 ≠ k by omega), cp2_app, if_pos ⟨rfl, by omega, by omega⟩, cp2_ne (show c + 2 ≠ k + 1 by omega)]
      simpa using z.2

theorem S_X4_openHour {g : Gn} {J : DJ} {k : Nat} {f : Nat → Nat} (hk : isK k) (h : CB J k f) (h6 : f 6 ≤ 12) : SJ g mX4_openHour 1 0 0 [.ref (g.2 k), .int (nI (f 1))] J (Rq (fun J2 => Fr k 3 J J2 ∧ CB J2 k (mOpn (if f 6 = 12 then mSh f else f)))) NoX := by
  refine SJ_of_VJ (by decide +kernel) (Nat.le_of_ble_eq_true rfl) ?_
  show VJ g mX4_openHour 1 0 0 _ _ 0 [(0, .ref (g.2 k)), (1, .int (nI (f 1)))] [] J
  have tail : ∀ (J1 : DJ) (f1 : Nat → Nat), Fr k 3 J J1 → CB J1 k f1 → f1 6 < 12 → f 1 = f1 1 → (if f 6 = 12 then mSh f else f) = f1 → VJ g mX4_openHour 1 0 0 (Rq (fun J2 => Fr k 3 J J2 ∧ CB J2 k (mOpn (if f 6 = 12 then mSh f else f)))) NoX 49 [(0, .ref (g.2 k)), (1, .int (nI (f 1)))] [] J1 := by
    intro J1 f1 fr c1 h12 hv e1
    refine J_aload_n 50 rfl dX4_openHour_49 rfl ?_
    refine g_X4_hours 53 (by first | assumption | exact isH_1 | exact isH_31 | exact isH_61 | exact isH_p (by omega) | exact isH_E (by assumption) (by omega) | exact isH_R (by assumption) | exact isH_K (by assumption) | exact isH_E isH_1 (by omega) | exact isH_R isH_1 | exact isH_K isH_1 | exact isH_R isH_31 | exact isH_K isH_31 | exact isH_E isH_31 (by omega)) rfl dX4_openHour_50 lkX4_9 ?_
    refine J_aload_n 54 rfl dX4_openHour_53 rfl ?_
    refine g_X4_kept 57 (by first | assumption | exact isH_1 | exact isH_31 | exact isH_61 | exact isH_p (by omega) | exact isH_E (by assumption) (by omega) | exact isH_R (by assumption) | exact isH_K (by assumption) | exact isH_E isH_1 (by omega) | exact isH_R isH_1 | exact isH_K isH_1 | exact isH_R isH_31 | exact isH_K isH_31 | exact isH_E isH_31 (by omega)) rfl dX4_openHour_54 lkX4_24 ?_
    refine J_cv (b := f1 6) c1.1 ?_
    refine J_iload_n 58 rfl dX4_openHour_57 rfl ?_
    refine J_iast 59 rfl dX4_openHour_58 (sa_X4_hours (by first | assumption | exact isH_1 | exact isH_31 | exact isH_61 | exact isH_p (by omega) | exact isH_E (by assumption) (by omega) | exact isH_R (by assumption) | exact isH_K (by assumption) | exact isH_E isH_1 (by omega) | exact isH_R isH_1 | exact isH_K isH_1 | exact isH_R isH_31 | exact isH_K isH_31 | exact isH_E isH_31 (by omega))) (by omega) ?_
    refine J_aload_n 60 rfl dX4_openHour_59 rfl ?_
    refine g_X4_knocks 63 (by first | assumption | exact isH_1 | exact isH_31 | exact isH_61 | exact isH_p (by omega) | exact isH_E (by assumption) (by omega) | exact isH_R (by assumption) | exact isH_K (by assumption) | exact isH_E isH_1 (by omega) | exact isH_R isH_1 | exact isH_K isH_1 | exact isH_R isH_31 | exact isH_K isH_31 | exact isH_E isH_31 (by omega)) rfl dX4_openHour_60 lkX4_15 ?_
    refine J_aload_n 64 rfl dX4_openHour_63 rfl ?_
    refine g_X4_kept 67 (by first | assumption | exact isH_1 | exact isH_31 | exact isH_61 | exact isH_p (by omega) | exact isH_E (by assumption) (by omega) | exact isH_R (by assumption) | exact isH_K (by assumption) | exact isH_E isH_1 (by omega) | exact isH_R isH_1 | exact isH_K isH_1 | exact isH_R isH_31 | exact isH_K isH_31 | exact isH_E isH_31 (by omega)) rfl dX4_openHour_64 lkX4_24 ?_
    refine J_cv (b := f1 6) (by rw [up2_ne (by omega)]; exact c1.1) ?_
    refine J_iconst 68 0 rfl dX4_openHour_67 ic_0 ?_
    refine J_iast 69 rfl dX4_openHour_68 (sa_X4_knocks (by first | assumption | exact isH_1 | exact isH_31 | exact isH_61 | exact isH_p (by omega) | exact isH_E (by assumption) (by omega) | exact isH_R (by assumption) | exact isH_K (by assumption) | exact isH_E isH_1 (by omega) | exact isH_R isH_1 | exact isH_K isH_1 | exact isH_R isH_31 | exact isH_K isH_31 | exact isH_E isH_31 (by omega))) (by omega) ?_
    refine J_aload_n 70 rfl dX4_openHour_69 rfl ?_
    refine J_dup 71 rfl dX4_openHour_70 rfl ?_
    refine g_X4_kept 74 (by first | assumption | exact isH_1 | exact isH_31 | exact isH_61 | exact isH_p (by omega) | exact isH_E (by assumption) (by omega) | exact isH_R (by assumption) | exact isH_K (by assumption) | exact isH_E isH_1 (by omega) | exact isH_R isH_1 | exact isH_K isH_1 | exact isH_R isH_31 | exact isH_K isH_31 | exact isH_E isH_31 (by omega)) rfl dX4_openHour_71 lkX4_24 ?_
    refine J_cv (b := f1 6) (by rw [up2_ne (by omega), up2_ne (by omega)]; exact c1.1) ?_
    refine J_iconst 75 1 rfl dX4_openHour_74 ic_1 ?_
    refine J_iadd 76 rfl dX4_openHour_75 ?_
    refine p_X4_kept 79 (by first | assumption | exact isH_1 | exact isH_31 | exact isH_61 | exact isH_p (by omega) | exact isH_E (by assumption) (by omega) | exact isH_R (by assumption) | exact isH_K (by assumption) | exact isH_E isH_1 (by omega) | exact isH_R isH_1 | exact isH_K isH_1 | exact isH_R isH_31 | exact isH_K isH_31 | exact isH_E isH_31 (by omega)) rfl dX4_openHour_76 lkX4_24 ?_
    refine J_vret rfl dX4_openHour_79 ?_
    refine ⟨rfl, (((fr.up (by omega)).up (by omega)).up (by omega)), ?_⟩
    rw [e1]
    exact CB_opn c1 h12 rfl hv
  refine J_aload_n 1 rfl dX4_openHour_0 rfl ?_
  refine g_X4_kept 4 (by first | assumption | exact isH_1 | exact isH_31 | exact isH_61 | exact isH_p (by omega) | exact isH_E (by assumption) (by omega) | exact isH_R (by assumption) | exact isH_K (by assumption) | exact isH_E isH_1 (by omega) | exact isH_R isH_1 | exact isH_K isH_1 | exact isH_R isH_31 | exact isH_K isH_31 | exact isH_E isH_31 (by omega)) rfl dX4_openHour_1 lkX4_24 ?_
  refine J_cv (b := f 6) h.1 ?_
  refine J_bipush 6 12 rfl dX4_openHour_4 bc_12 ?_
  refine J_icmp_ne 49 9 (by decide) rfl dX4_openHour_6 (by omega) (by omega) (fun c6 => ?_) (fun c6 => ?_)
  · first
      | exact tail _ f Fr.refl h (by omega) rfl (if_neg (by omega))
      | exact tail _ (mSh f) (((Fr.refl.cp (by omega)).cp (by omega)).up (by omega)) (CB_sh h (by omega)) (by show (11 : Nat) < 12; omega) rfl (if_pos (by omega))
  · refine J_aload_n 10 rfl dX4_openHour_9 rfl ?_
    refine g_X4_hours 13 (by first | assumption | exact isH_1 | exact isH_31 | exact isH_61 | exact isH_p (by omega) | exact isH_E (by assumption) (by omega) | exact isH_R (by assumption) | exact isH_K (by assumption) | exact isH_E isH_1 (by omega) | exact isH_R isH_1 | exact isH_K isH_1 | exact isH_R isH_31 | exact isH_K isH_31 | exact isH_E isH_31 (by omega)) rfl dX4_openHour_10 lkX4_9 ?_
    refine J_iconst 14 1 rfl dX4_openHour_13 ic_1 ?_
    refine J_aload_n 15 rfl dX4_openHour_14 rfl ?_
    refine g_X4_hours 18 (by first | assumption | exact isH_1 | exact isH_31 | exact isH_61 | exact isH_p (by omega) | exact isH_E (by assumption) (by omega) | exact isH_R (by assumption) | exact isH_K (by assumption) | exact isH_E isH_1 (by omega) | exact isH_R isH_1 | exact isH_K isH_1 | exact isH_R isH_31 | exact isH_K isH_31 | exact isH_E isH_31 (by omega)) rfl dX4_openHour_15 lkX4_9 ?_
    refine J_iconst 19 0 rfl dX4_openHour_18 ic_0 ?_
    refine J_bipush 21 11 rfl dX4_openHour_19 bc_11 ?_
    refine J_copy 24 rfl dX4_openHour_21 lkX4_18 (sa_X4_hours (by first | assumption | exact isH_1 | exact isH_31 | exact isH_61 | exact isH_p (by omega) | exact isH_E (by assumption) (by omega) | exact isH_R (by assumption) | exact isH_K (by assumption) | exact isH_E isH_1 (by omega) | exact isH_R isH_1 | exact isH_K isH_1 | exact isH_R isH_31 | exact isH_K isH_31 | exact isH_E isH_31 (by omega))) (sa_X4_hours (by first | assumption | exact isH_1 | exact isH_31 | exact isH_61 | exact isH_p (by omega) | exact isH_E (by assumption) (by omega) | exact isH_R (by assumption) | exact isH_K (by assumption) | exact isH_E isH_1 (by omega) | exact isH_R isH_1 | exact isH_K isH_1 | exact isH_R isH_31 | exact isH_K isH_31 | exact isH_E isH_31 (by omega))) (by omega) (by omega) (by exact Nat.le_of_ble_eq_true rfl) (by omega) ?_
    refine J_aload_n 25 rfl dX4_openHour_24 rfl ?_
    refine g_X4_knocks 28 (by first | assumption | exact isH_1 | exact isH_31 | exact isH_61 | exact isH_p (by omega) | exact isH_E (by assumption) (by omega) | exact isH_R (by assumption) | exact isH_K (by assumption) | exact isH_E isH_1 (by omega) | exact isH_R isH_1 | exact isH_K isH_1 | exact isH_R isH_31 | exact isH_K isH_31 | exact isH_E isH_31 (by omega)) rfl dX4_openHour_25 lkX4_15 ?_
    refine J_iconst 29 1 rfl dX4_openHour_28 ic_1 ?_
    refine J_aload_n 30 rfl dX4_openHour_29 rfl ?_
    refine g_X4_knocks 33 (by first | assumption | exact isH_1 | exact isH_31 | exact isH_61 | exact isH_p (by omega) | exact isH_E (by assumption) (by omega) | exact isH_R (by assumption) | exact isH_K (by assumption) | exact isH_E isH_1 (by omega) | exact isH_R isH_1 | exact isH_K isH_1 | exact isH_R isH_31 | exact isH_K isH_31 | exact isH_E isH_31 (by omega)) rfl dX4_openHour_30 lkX4_15 ?_
    refine J_iconst 34 0 rfl dX4_openHour_33 ic_0 ?_
    refine J_bipush 36 11 rfl dX4_openHour_34 bc_11 ?_
    refine J_copy 39 rfl dX4_openHour_36 lkX4_18 (sa_X4_knocks (by first | assumption | exact isH_1 | exact isH_31 | exact isH_61 | exact isH_p (by omega) | exact isH_E (by assumption) (by omega) | exact isH_R (by assumption) | exact isH_K (by assumption) | exact isH_E isH_1 (by omega) | exact isH_R isH_1 | exact isH_K isH_1 | exact isH_R isH_31 | exact isH_K isH_31 | exact isH_E isH_31 (by omega))) (sa_X4_knocks (by first | assumption | exact isH_1 | exact isH_31 | exact isH_61 | exact isH_p (by omega) | exact isH_E (by assumption) (by omega) | exact isH_R (by assumption) | exact isH_K (by assumption) | exact isH_E isH_1 (by omega) | exact isH_R isH_1 | exact isH_K isH_1 | exact isH_R isH_31 | exact isH_K isH_31 | exact isH_E isH_31 (by omega))) (by omega) (by omega) (by exact Nat.le_of_ble_eq_true rfl) (by omega) ?_
    refine J_aload_n 40 rfl dX4_openHour_39 rfl ?_
    refine J_dup 41 rfl dX4_openHour_40 rfl ?_
    refine g_X4_kept 44 (by first | assumption | exact isH_1 | exact isH_31 | exact isH_61 | exact isH_p (by omega) | exact isH_E (by assumption) (by omega) | exact isH_R (by assumption) | exact isH_K (by assumption) | exact isH_E isH_1 (by omega) | exact isH_R isH_1 | exact isH_K isH_1 | exact isH_R isH_31 | exact isH_K isH_31 | exact isH_E isH_31 (by omega)) rfl dX4_openHour_41 lkX4_24 ?_
    refine J_cv (b := 12) (by rw [cp2_ne (by omega), cp2_ne (by omega), h.1]; omega) ?_
    refine J_iconst 45 1 rfl dX4_openHour_44 ic_1 ?_
    refine J_isub 46 rfl dX4_openHour_45 (by omega) ?_
    refine p_X4_kept 49 (by first | assumption | exact isH_1 | exact isH_31 | exact isH_61 | exact isH_p (by omega) | exact isH_E (by assumption) (by omega) | exact isH_R (by assumption) | exact isH_K (by assumption) | exact isH_E isH_1 (by omega) | exact isH_R isH_1 | exact isH_K isH_1 | exact isH_R isH_31 | exact isH_K isH_31 | exact isH_E isH_31 (by omega)) rfl dX4_openHour_46 lkX4_24 ?_
    first
      | exact tail _ f Fr.refl h (by omega) rfl (if_neg (by omega))
      | exact tail _ (mSh f) (((Fr.refl.cp (by omega)).cp (by omega)).up (by omega)) (CB_sh h (by omega)) (by show (11 : Nat) < 12; omega) rfl (if_pos (by omega))

theorem S_X4_note {g : Gn} {J : DJ} {k n B : Nat} {f : Nat → Nat} (hk : isK k) (h : CB J k f) (h6 : f 6 ≤ 12) (hB : HB f B) (hB2 : B < 1000000000) (hn : n < 1000000000) : SJ g mX4_note 2 0 0 [.ref (g.2 k), .int (nI (f 1)), .int (nI (n))] J (Rq (fun J2 => Fr k 3 J J2 ∧ CB J2 k (mHourN f n))) NoX := by
  refine SJ_of_VJ (by decide +kernel) (Nat.le_of_ble_eq_true rfl) ?_
  show VJ g mX4_note 2 0 0 _ _ 0 [(0, .ref (g.2 k)), (1, .int (nI (f 1))), (2, .int (nI (n)))] [] J
  have tail : ∀ (J1 : DJ), 0 < n → Fr k 3 J J1 → CB J1 k (mOp f) → VJ g mX4_note 2 0 0 (Rq (fun J2 => Fr k 3 J J2 ∧ CB J2 k (mHourN f n))) NoX 32 [(0, .ref (g.2 k)), (1, .int (nI (f 1))), (2, .int (nI (n)))] [] J1 := by
    intro J1 hn fr c1
    have is := mOp_is h6
    have i0 := is.1.1
    have i6 := is.2.2
    refine J_aload_n 33 rfl dX4_note_32 rfl ?_
    refine g_X4_knocks 36 (by first | assumption | exact isH_1 | exact isH_31 | exact isH_61 | exact isH_p (by omega) | exact isH_E (by assumption) (by omega) | exact isH_R (by assumption) | exact isH_K (by assumption) | exact isH_E isH_1 (by omega) | exact isH_R isH_1 | exact isH_K isH_1 | exact isH_R isH_31 | exact isH_K isH_31 | exact isH_E isH_31 (by omega)) rfl dX4_note_33 lkX4_15 ?_
    refine J_aload_n 37 rfl dX4_note_36 rfl ?_
    refine g_X4_kept 40 (by first | assumption | exact isH_1 | exact isH_31 | exact isH_61 | exact isH_p (by omega) | exact isH_E (by assumption) (by omega) | exact isH_R (by assumption) | exact isH_K (by assumption) | exact isH_E isH_1 (by omega) | exact isH_R isH_1 | exact isH_K isH_1 | exact isH_R isH_31 | exact isH_K isH_31 | exact isH_E isH_31 (by omega)) rfl dX4_note_37 lkX4_24 ?_
    refine J_cv (b := mOp f 6) c1.1 ?_
    refine J_iconst 41 1 rfl dX4_note_40 ic_1 ?_
    refine J_isub 42 rfl dX4_note_41 (by omega) ?_
    refine J_dup2 43 rfl dX4_note_42 rfl rfl ?_
    refine J_iald 44 rfl dX4_note_43 (sa_X4_knocks (by first | assumption | exact isH_1 | exact isH_31 | exact isH_61 | exact isH_p (by omega) | exact isH_E (by assumption) (by omega) | exact isH_R (by assumption) | exact isH_K (by assumption) | exact isH_E isH_1 (by omega) | exact isH_R isH_1 | exact isH_K isH_1 | exact isH_R isH_31 | exact isH_K isH_31 | exact isH_E isH_31 (by omega))) (by omega) ?_
    refine J_cv (b := mOp f (244 + 2 * mOp f 6)) (by rw [(c1.2 (mOp f 6 - 1) (by omega)).2, show 246 + 2 * (mOp f 6 - 1) = 244 + 2 * mOp f 6 by omega]) ?_
    refine J_iload_n 45 rfl dX4_note_44 rfl ?_
    refine J_iadd 46 rfl dX4_note_45 ?_
    refine J_iast 47 rfl dX4_note_46 (sa_X4_knocks (by first | assumption | exact isH_1 | exact isH_31 | exact isH_61 | exact isH_p (by omega) | exact isH_E (by assumption) (by omega) | exact isH_R (by assumption) | exact isH_K (by assumption) | exact isH_E isH_1 (by omega) | exact isH_R isH_1 | exact isH_K isH_1 | exact isH_R isH_31 | exact isH_K isH_31 | exact isH_E isH_31 (by omega))) (by omega) ?_
    refine J_vret rfl dX4_note_47 ?_
    refine ⟨rfl, (fr.up (by omega)), ?_⟩
    obtain ⟨n, rfl⟩ : ∃ n2, n = n2 + 1 := ⟨n - 1, by omega⟩
    rw [mHourN_succ h6]
    exact CB_add c1 i0 rfl
  refine J_iload_n 1 rfl dX4_note_0 rfl ?_
  refine J_if_ne 5 4 (by decide) rfl dX4_note_1 (by omega) (fun c1 => ?_) (fun c1 => ?_)
  · refine J_aload_n 6 rfl dX4_note_5 rfl ?_
    refine g_X4_kept 9 (by first | assumption | exact isH_1 | exact isH_31 | exact isH_61 | exact isH_p (by omega) | exact isH_E (by assumption) (by omega) | exact isH_R (by assumption) | exact isH_K (by assumption) | exact isH_E isH_1 (by omega) | exact isH_R isH_1 | exact isH_K isH_1 | exact isH_R isH_31 | exact isH_K isH_31 | exact isH_E isH_31 (by omega)) rfl dX4_note_6 lkX4_24 ?_
    refine J_cv (b := f 6) h.1 ?_
    refine J_if_eq 27 12 (by decide) rfl dX4_note_9 (by omega) (fun c9 => ?_) (fun c9 => ?_)
    · refine J_aload_n 28 rfl dX4_note_27 rfl ?_
      refine J_iload_n 29 rfl dX4_note_28 rfl ?_
      refine J_callVvp (As := [_]) 32 _ rfl kalX4_openHour lkX4_28 dX4_note_29 (lt_X4 (by first | assumption | exact isH_1 | exact isH_31 | exact isH_61 | exact isH_p (by omega) | exact isH_E (by assumption) (by omega) | exact isH_R (by assumption) | exact isH_K (by assumption) | exact isH_E isH_1 (by omega) | exact isH_R isH_1 | exact isH_K isH_1 | exact isH_R isH_31 | exact isH_K isH_31 | exact isH_E isH_31 (by omega))) (so_X4 (by first | assumption | exact isH_1 | exact isH_31 | exact isH_61 | exact isH_p (by omega) | exact isH_E (by assumption) (by omega) | exact isH_R (by assumption) | exact isH_K (by assumption) | exact isH_E isH_1 (by omega) | exact isH_R isH_1 | exact isH_K isH_1 | exact isH_R isH_31 | exact isH_K isH_31 | exact isH_E isH_31 (by omega))) rfl rfl rfl (by exact Nat.le_of_ble_eq_true rfl) (by omega) (S_X4_openHour hk h h6) (fun J29 q29 => ?_)
      first
        | exact tail J (by omega) Fr.refl (by unfold mOp; rw [if_pos (by omega)]; exact h)
        | exact tail _ (by omega) q29.1 (by unfold mOp; rw [if_neg (by omega)]; exact q29.2)
    · refine J_aload_n 13 rfl dX4_note_12 rfl ?_
      refine g_X4_hours 16 (by first | assumption | exact isH_1 | exact isH_31 | exact isH_61 | exact isH_p (by omega) | exact isH_E (by assumption) (by omega) | exact isH_R (by assumption) | exact isH_K (by assumption) | exact isH_E isH_1 (by omega) | exact isH_R isH_1 | exact isH_K isH_1 | exact isH_R isH_31 | exact isH_K isH_31 | exact isH_E isH_31 (by omega)) rfl dX4_note_13 lkX4_9 ?_
      refine J_aload_n 17 rfl dX4_note_16 rfl ?_
      refine g_X4_kept 20 (by first | assumption | exact isH_1 | exact isH_31 | exact isH_61 | exact isH_p (by omega) | exact isH_E (by assumption) (by omega) | exact isH_R (by assumption) | exact isH_K (by assumption) | exact isH_E isH_1 (by omega) | exact isH_R isH_1 | exact isH_K isH_1 | exact isH_R isH_31 | exact isH_K isH_31 | exact isH_E isH_31 (by omega)) rfl dX4_note_17 lkX4_24 ?_
      refine J_cv (b := f 6) h.1 ?_
      refine J_iconst 21 1 rfl dX4_note_20 ic_1 ?_
      refine J_isub 22 rfl dX4_note_21 (by omega) ?_
      refine J_iald 23 rfl dX4_note_22 (sa_X4_hours (by first | assumption | exact isH_1 | exact isH_31 | exact isH_61 | exact isH_p (by omega) | exact isH_E (by assumption) (by omega) | exact isH_R (by assumption) | exact isH_K (by assumption) | exact isH_E isH_1 (by omega) | exact isH_R isH_1 | exact isH_K isH_1 | exact isH_R isH_31 | exact isH_K isH_31 | exact isH_E isH_31 (by omega))) (by omega) ?_
      refine J_cv (b := f (243 + 2 * f 6)) (by rw [(h.2 (f 6 - 1) (by omega)).1, show 245 + 2 * (f 6 - 1) = 243 + 2 * f 6 by omega]) ?_
      refine J_iload_n 24 rfl dX4_note_23 rfl ?_
      refine J_icmp_eq 32 27 (by decide) rfl dX4_note_24 (by have := hB.2 (243 + 2 * f 6) (by omega) (by omega); omega) (by have := hB.1; omega) (fun c24 => ?_) (fun c24 => ?_)
      · first
          | exact tail J (by omega) Fr.refl (by unfold mOp; rw [if_pos (by omega)]; exact h)
          | exact tail _ (by omega) q29.1 (by unfold mOp; rw [if_neg (by omega)]; exact q29.2)
      · refine J_aload_n 28 rfl dX4_note_27 rfl ?_
        refine J_iload_n 29 rfl dX4_note_28 rfl ?_
        refine J_callVvp (As := [_]) 32 _ rfl kalX4_openHour lkX4_28 dX4_note_29 (lt_X4 (by first | assumption | exact isH_1 | exact isH_31 | exact isH_61 | exact isH_p (by omega) | exact isH_E (by assumption) (by omega) | exact isH_R (by assumption) | exact isH_K (by assumption) | exact isH_E isH_1 (by omega) | exact isH_R isH_1 | exact isH_K isH_1 | exact isH_R isH_31 | exact isH_K isH_31 | exact isH_E isH_31 (by omega))) (so_X4 (by first | assumption | exact isH_1 | exact isH_31 | exact isH_61 | exact isH_p (by omega) | exact isH_E (by assumption) (by omega) | exact isH_R (by assumption) | exact isH_K (by assumption) | exact isH_E isH_1 (by omega) | exact isH_R isH_1 | exact isH_K isH_1 | exact isH_R isH_31 | exact isH_K isH_31 | exact isH_E isH_31 (by omega))) rfl rfl rfl (by exact Nat.le_of_ble_eq_true rfl) (by omega) (S_X4_openHour hk h h6) (fun J29 q29 => ?_)
        first
          | exact tail J (by omega) Fr.refl (by unfold mOp; rw [if_pos (by omega)]; exact h)
          | exact tail _ (by omega) q29.1 (by unfold mOp; rw [if_neg (by omega)]; exact q29.2)
  · refine J_vret rfl dX4_note_4 ?_
    have e : n = 0 := by omega
    subst e
    exact ⟨rfl, Fr.refl, h⟩

theorem S_X4_placeFrom {g : Gn} {J : DJ} {k h : Nat} (hk : isK k) (h2 : J k 2 ≤ 12) : SJ g mX4_placeFrom 0 0 0 [.ref (g.2 k), .int (nI (h))] J (Rn (fun r => r ≤ J k 2 ∧ (∀ i, i < r → ¬ nI h ≤ nI (J (k + 1) i)) ∧ (r < J k 2 → nI h ≤ nI (J (k + 1) r))) J) NoX := by
  refine SJ_of_VJ (by decide +kernel) (Nat.le_of_ble_eq_true rfl) ?_
  show VJ g mX4_placeFrom 0 0 0 _ _ 0 [(0, .ref (g.2 k)), (1, .int (nI (h)))] [] J
  have loop : ∀ (n9 : Nat) (i : Nat), J k 2 - i = n9 → i ≤ J k 2 → (∀ a, a < i → ¬ nI h ≤ nI (J (k + 1) a)) → VJ g mX4_placeFrom 0 0 0 (Rn (fun r => r ≤ J k 2 ∧ (∀ i, i < r → ¬ nI h ≤ nI (J (k + 1) i)) ∧ (r < J k 2 → nI h ≤ nI (J (k + 1) r))) J) NoX 2 [(0, .ref (g.2 k)), (1, .int (nI (h))), (2, .int (nI (i)))] [] J := by
    intro n9
    induction n9 using Nat.strongRecOn with
    | ind n9 ih =>
    intro i hi hle hm
    refine J_iload_n 3 rfl dX4_placeFrom_2 rfl ?_
    refine J_aload_n 4 rfl dX4_placeFrom_3 rfl ?_
    refine g_X4_kept 7 (by first | assumption | exact isH_1 | exact isH_31 | exact isH_61 | exact isH_p (by omega) | exact isH_E (by assumption) (by omega) | exact isH_R (by assumption) | exact isH_K (by assumption) | exact isH_E isH_1 (by omega) | exact isH_R isH_1 | exact isH_K isH_1 | exact isH_R isH_31 | exact isH_K isH_31 | exact isH_E isH_31 (by omega)) rfl dX4_placeFrom_4 lkX4_24 ?_
    refine J_icmp_ge 26 10 (by decide) rfl dX4_placeFrom_7 (by omega) (by omega) (fun c7 => ?_) (fun c7 => ?_)
    · refine J_iload_n 27 rfl dX4_placeFrom_26 rfl ?_
      refine J_iret rfl dX4_placeFrom_27 ?_
      first
        | exact ⟨i, rfl, ⟨hle, hm, fun q => absurd q (by omega)⟩, rfl⟩
        | exact ⟨i, rfl, ⟨hle, hm, fun _ => by assumption⟩, rfl⟩
    · refine J_aload_n 11 rfl dX4_placeFrom_10 rfl ?_
      refine g_X4_hours 14 (by first | assumption | exact isH_1 | exact isH_31 | exact isH_61 | exact isH_p (by omega) | exact isH_E (by assumption) (by omega) | exact isH_R (by assumption) | exact isH_K (by assumption) | exact isH_E isH_1 (by omega) | exact isH_R isH_1 | exact isH_K isH_1 | exact isH_R isH_31 | exact isH_K isH_31 | exact isH_E isH_31 (by omega)) rfl dX4_placeFrom_11 lkX4_9 ?_
      refine J_iload_n 15 rfl dX4_placeFrom_14 rfl ?_
      refine J_iald 16 rfl dX4_placeFrom_15 (sa_X4_hours (by first | assumption | exact isH_1 | exact isH_31 | exact isH_61 | exact isH_p (by omega) | exact isH_E (by assumption) (by omega) | exact isH_R (by assumption) | exact isH_K (by assumption) | exact isH_E isH_1 (by omega) | exact isH_R isH_1 | exact isH_K isH_1 | exact isH_R isH_31 | exact isH_K isH_31 | exact isH_E isH_31 (by omega))) (by omega) ?_
      refine J_iload_n 17 rfl dX4_placeFrom_16 rfl ?_
      refine J_icmpR_ge 26 20 (by decide) rfl dX4_placeFrom_17 (fun c17 => ?_) (fun c17 => ?_)
      · refine J_iload_n 27 rfl dX4_placeFrom_26 rfl ?_
        refine J_iret rfl dX4_placeFrom_27 ?_
        first
          | exact ⟨i, rfl, ⟨hle, hm, fun q => absurd q (by omega)⟩, rfl⟩
          | exact ⟨i, rfl, ⟨hle, hm, fun _ => by assumption⟩, rfl⟩
      · refine J_iinc 23 1 rfl dX4_placeFrom_20 ic_1 rfl (Nat.le_of_ble_eq_true rfl) ?_
        refine J_goto 2 (by decide) dX4_placeFrom_23 ?_
        exact ih _ (by omega) (i + 1) rfl (by omega) (fun a q => (Nat.lt_or_eq_of_le (Nat.le_of_lt_succ q)).elim (fun q => hm a q) (fun e => by rw [e]; assumption))
  refine J_iconst 1 0 rfl dX4_placeFrom_0 ic_0 ?_
  refine J_istore_n 2 rfl dX4_placeFrom_1 rfl (Nat.le_of_ble_eq_true rfl) ?_
  exact loop _ 0 rfl (Nat.zero_le _) (fun a q => absurd q (by omega))

theorem S_X8_become {g : Gn} {J : DJ} {k c : Nat} (hk : isR k) (hc : isR c) (hne : k + 4 ≤ c ∨ c + 4 ≤ k) : SJ g mX8_become 1 0 0 [.ref (g.2 k), .ref (g.2 c)] J (Rq (fun J2 => Fr k 4 J J2 ∧ ∀ f, CR J c f → f 4 ≤ 8 → CR J2 k f)) NoX := by
  refine SJ_of_VJ (by decide +kernel) (Nat.le_of_ble_eq_true rfl) ?_
  show VJ g mX8_become 1 0 0 _ _ 0 [(0, .ref (g.2 k)), (1, .ref (g.2 c))] [] J
  refine J_aload_n 1 rfl dX8_become_0 rfl ?_
  refine g_X8_engines 4 (by first | assumption | exact isH_1 | exact isH_31 | exact isH_61 | exact isH_p (by omega) | exact isH_E (by assumption) (by omega) | exact isH_R (by assumption) | exact isH_K (by assumption) | exact isH_E isH_1 (by omega) | exact isH_R isH_1 | exact isH_K isH_1 | exact isH_R isH_31 | exact isH_K isH_31 | exact isH_E isH_31 (by omega)) rfl dX8_become_1 lkX8_9 ?_
  refine J_iconst 5 0 rfl dX8_become_4 ic_0 ?_
  refine J_aload_n 6 rfl dX8_become_5 rfl ?_
  refine g_X8_engines 9 (by first | assumption | exact isH_1 | exact isH_31 | exact isH_61 | exact isH_p (by omega) | exact isH_E (by assumption) (by omega) | exact isH_R (by assumption) | exact isH_K (by assumption) | exact isH_E isH_1 (by omega) | exact isH_R isH_1 | exact isH_K isH_1 | exact isH_R isH_31 | exact isH_K isH_31 | exact isH_E isH_31 (by omega)) rfl dX8_become_6 lkX8_9 ?_
  refine J_iconst 10 0 rfl dX8_become_9 ic_0 ?_
  refine J_bipush 12 8 rfl dX8_become_10 bc_8 ?_
  refine J_copy 15 rfl dX8_become_12 lkX8_21 (sa_X8_engines (by first | assumption | exact isH_1 | exact isH_31 | exact isH_61 | exact isH_p (by omega) | exact isH_E (by assumption) (by omega) | exact isH_R (by assumption) | exact isH_K (by assumption) | exact isH_E isH_1 (by omega) | exact isH_R isH_1 | exact isH_K isH_1 | exact isH_R isH_31 | exact isH_K isH_31 | exact isH_E isH_31 (by omega))) (sa_X8_engines (by first | assumption | exact isH_1 | exact isH_31 | exact isH_61 | exact isH_p (by omega) | exact isH_E (by assumption) (by omega) | exact isH_R (by assumption) | exact isH_K (by assumption) | exact isH_E isH_1 (by omega) | exact isH_R isH_1 | exact isH_K isH_1 | exact isH_R isH_31 | exact isH_K isH_31 | exact isH_E isH_31 (by omega))) (by omega) (by omega) (by exact Nat.le_of_ble_eq_true rfl) (by omega) ?_
  refine J_aload_n 16 rfl dX8_become_15 rfl ?_
  refine g_X8_hours 19 (by first | assumption | exact isH_1 | exact isH_31 | exact isH_61 | exact isH_p (by omega) | exact isH_E (by assumption) (by omega) | exact isH_R (by assumption) | exact isH_K (by assumption) | exact isH_E isH_1 (by omega) | exact isH_R isH_1 | exact isH_K isH_1 | exact isH_R isH_31 | exact isH_K isH_31 | exact isH_E isH_31 (by omega)) rfl dX8_become_16 lkX8_15 ?_
  refine J_iconst 20 0 rfl dX8_become_19 ic_0 ?_
  refine J_aload_n 21 rfl dX8_become_20 rfl ?_
  refine g_X8_hours 24 (by first | assumption | exact isH_1 | exact isH_31 | exact isH_61 | exact isH_p (by omega) | exact isH_E (by assumption) (by omega) | exact isH_R (by assumption) | exact isH_K (by assumption) | exact isH_E isH_1 (by omega) | exact isH_R isH_1 | exact isH_K isH_1 | exact isH_R isH_31 | exact isH_K isH_31 | exact isH_E isH_31 (by omega)) rfl dX8_become_21 lkX8_15 ?_
  refine J_iconst 25 0 rfl dX8_become_24 ic_0 ?_
  refine J_bipush 27 8 rfl dX8_become_25 bc_8 ?_
  refine J_copy 30 rfl dX8_become_27 lkX8_21 (sa_X8_hours (by first | assumption | exact isH_1 | exact isH_31 | exact isH_61 | exact isH_p (by omega) | exact isH_E (by assumption) (by omega) | exact isH_R (by assumption) | exact isH_K (by assumption) | exact isH_E isH_1 (by omega) | exact isH_R isH_1 | exact isH_K isH_1 | exact isH_R isH_31 | exact isH_K isH_31 | exact isH_E isH_31 (by omega))) (sa_X8_hours (by first | assumption | exact isH_1 | exact isH_31 | exact isH_61 | exact isH_p (by omega) | exact isH_E (by assumption) (by omega) | exact isH_R (by assumption) | exact isH_K (by assumption) | exact isH_E isH_1 (by omega) | exact isH_R isH_1 | exact isH_K isH_1 | exact isH_R isH_31 | exact isH_K isH_31 | exact isH_E isH_31 (by omega))) (by omega) (by omega) (by exact Nat.le_of_ble_eq_true rfl) (by omega) ?_
  refine J_aload_n 31 rfl dX8_become_30 rfl ?_
  refine g_X8_penances 34 (by first | assumption | exact isH_1 | exact isH_31 | exact isH_61 | exact isH_p (by omega) | exact isH_E (by assumption) (by omega) | exact isH_R (by assumption) | exact isH_K (by assumption) | exact isH_E isH_1 (by omega) | exact isH_R isH_1 | exact isH_K isH_1 | exact isH_R isH_31 | exact isH_K isH_31 | exact isH_E isH_31 (by omega)) rfl dX8_become_31 lkX8_18 ?_
  refine J_iconst 35 0 rfl dX8_become_34 ic_0 ?_
  refine J_aload_n 36 rfl dX8_become_35 rfl ?_
  refine g_X8_penances 39 (by first | assumption | exact isH_1 | exact isH_31 | exact isH_61 | exact isH_p (by omega) | exact isH_E (by assumption) (by omega) | exact isH_R (by assumption) | exact isH_K (by assumption) | exact isH_E isH_1 (by omega) | exact isH_R isH_1 | exact isH_K isH_1 | exact isH_R isH_31 | exact isH_K isH_31 | exact isH_E isH_31 (by omega)) rfl dX8_become_36 lkX8_18 ?_
  refine J_iconst 40 0 rfl dX8_become_39 ic_0 ?_
  refine J_bipush 42 8 rfl dX8_become_40 bc_8 ?_
  refine J_copy 45 rfl dX8_become_42 lkX8_21 (sa_X8_penances (by first | assumption | exact isH_1 | exact isH_31 | exact isH_61 | exact isH_p (by omega) | exact isH_E (by assumption) (by omega) | exact isH_R (by assumption) | exact isH_K (by assumption) | exact isH_E isH_1 (by omega) | exact isH_R isH_1 | exact isH_K isH_1 | exact isH_R isH_31 | exact isH_K isH_31 | exact isH_E isH_31 (by omega))) (sa_X8_penances (by first | assumption | exact isH_1 | exact isH_31 | exact isH_61 | exact isH_p (by omega) | exact isH_E (by assumption) (by omega) | exact isH_R (by assumption) | exact isH_K (by assumption) | exact isH_E isH_1 (by omega) | exact isH_R isH_1 | exact isH_K isH_1 | exact isH_R isH_31 | exact isH_K isH_31 | exact isH_E isH_31 (by omega))) (by omega) (by omega) (by exact Nat.le_of_ble_eq_true rfl) (by omega) ?_
  refine J_aload_n 46 rfl dX8_become_45 rfl ?_
  refine J_aload_n 47 rfl dX8_become_46 rfl ?_
  refine g_X8_count 50 (by first | assumption | exact isH_1 | exact isH_31 | exact isH_61 | exact isH_p (by omega) | exact isH_E (by assumption) (by omega) | exact isH_R (by assumption) | exact isH_K (by assumption) | exact isH_E isH_1 (by omega) | exact isH_R isH_1 | exact isH_K isH_1 | exact isH_R isH_31 | exact isH_K isH_31 | exact isH_E isH_31 (by omega)) rfl dX8_become_47 lkX8_27 ?_
  refine p_X8_count 53 (by first | assumption | exact isH_1 | exact isH_31 | exact isH_61 | exact isH_p (by omega) | exact isH_E (by assumption) (by omega) | exact isH_R (by assumption) | exact isH_K (by assumption) | exact isH_E isH_1 (by omega) | exact isH_R isH_1 | exact isH_K isH_1 | exact isH_R isH_31 | exact isH_K isH_31 | exact isH_E isH_31 (by omega)) rfl dX8_become_50 lkX8_27 ?_
  refine J_vret rfl dX8_become_53 ?_
  refine ⟨rfl, (((Fr.refl.cp (by omega)).cp (by omega)).cp (by omega)).up (by omega), fun f q h6 => ⟨?_, fun i hi => ?_⟩⟩
  · rw [up2_app, if_pos ⟨rfl, rfl⟩, cp2_ne (by omega), cp2_ne (by omega), cp2_ne (by omega)]; exact q.1
  · have z := q.2 i hi
    refine ⟨?_, ?_, ?_⟩
    · rw [up2_ne (show k + 1 ≠ k by omega), cp2_ne (show k + 1 ≠ k + 3 by omega), cp2_ne (show k + 1 ≠ k + 2 by omega), cp2_app, if_pos ⟨rfl, by omega, by omega⟩]
      simpa using z.1
    · rw [up2_ne (show k + 2 ≠ k by omega), cp2_ne (show k + 2 ≠ k + 3 by omega), cp2_app, if_pos ⟨rfl, by omega, by omega⟩, cp2_ne (show c + 2 ≠ k + 1 by omega)]
      simpa using z.2.1
    · rw [up2_ne (show k + 3 ≠ k by omega), cp2_app, if_pos ⟨rfl, by omega, by omega⟩, cp2_ne (show c + 3 ≠ k + 2 by omega), cp2_ne (show c + 3 ≠ k + 1 by omega)]
      simpa using z.2.2

theorem S_X8_ask {g : Gn} {J : DJ} {k e t p : Nat} {f : Nat → Nat} (hk : isR k) (h : CR J k f) (h8 : f 4 < 8) : SJ g mX8_ask 1 0 0 [.ref (g.2 k), .int (nI (e)), .int (nI (t)), .int (nI (p))] J (Rp (f 4) (fun J2 => Fr k 4 J J2 ∧ CR J2 k (mAsk f e t p))) NoX := by
  refine SJ_of_VJ (by decide +kernel) (Nat.le_of_ble_eq_true rfl) ?_
  show VJ g mX8_ask 1 0 0 _ _ 0 [(0, .ref (g.2 k)), (1, .int (nI (e))), (2, .int (nI (t))), (3, .int (nI (p)))] [] J
  refine J_aload_n 1 rfl dX8_ask_0 rfl ?_
  refine g_X8_engines 4 (by first | assumption | exact isH_1 | exact isH_31 | exact isH_61 | exact isH_p (by omega) | exact isH_E (by assumption) (by omega) | exact isH_R (by assumption) | exact isH_K (by assumption) | exact isH_E isH_1 (by omega) | exact isH_R isH_1 | exact isH_K isH_1 | exact isH_R isH_31 | exact isH_K isH_31 | exact isH_E isH_31 (by omega)) rfl dX8_ask_1 lkX8_9 ?_
  refine J_aload_n 5 rfl dX8_ask_4 rfl ?_
  refine g_X8_count 8 (by first | assumption | exact isH_1 | exact isH_31 | exact isH_61 | exact isH_p (by omega) | exact isH_E (by assumption) (by omega) | exact isH_R (by assumption) | exact isH_K (by assumption) | exact isH_E isH_1 (by omega) | exact isH_R isH_1 | exact isH_K isH_1 | exact isH_R isH_31 | exact isH_K isH_31 | exact isH_E isH_31 (by omega)) rfl dX8_ask_5 lkX8_27 ?_
  refine J_cv (b := f 4) h.1 ?_
  refine J_iload_n 9 rfl dX8_ask_8 rfl ?_
  refine J_iast 10 rfl dX8_ask_9 (sa_X8_engines (by first | assumption | exact isH_1 | exact isH_31 | exact isH_61 | exact isH_p (by omega) | exact isH_E (by assumption) (by omega) | exact isH_R (by assumption) | exact isH_K (by assumption) | exact isH_E isH_1 (by omega) | exact isH_R isH_1 | exact isH_K isH_1 | exact isH_R isH_31 | exact isH_K isH_31 | exact isH_E isH_31 (by omega))) (by omega) ?_
  refine J_aload_n 11 rfl dX8_ask_10 rfl ?_
  refine g_X8_hours 14 (by first | assumption | exact isH_1 | exact isH_31 | exact isH_61 | exact isH_p (by omega) | exact isH_E (by assumption) (by omega) | exact isH_R (by assumption) | exact isH_K (by assumption) | exact isH_E isH_1 (by omega) | exact isH_R isH_1 | exact isH_K isH_1 | exact isH_R isH_31 | exact isH_K isH_31 | exact isH_E isH_31 (by omega)) rfl dX8_ask_11 lkX8_15 ?_
  refine J_aload_n 15 rfl dX8_ask_14 rfl ?_
  refine g_X8_count 18 (by first | assumption | exact isH_1 | exact isH_31 | exact isH_61 | exact isH_p (by omega) | exact isH_E (by assumption) (by omega) | exact isH_R (by assumption) | exact isH_K (by assumption) | exact isH_E isH_1 (by omega) | exact isH_R isH_1 | exact isH_K isH_1 | exact isH_R isH_31 | exact isH_K isH_31 | exact isH_E isH_31 (by omega)) rfl dX8_ask_15 lkX8_27 ?_
  refine J_cv (b := f 4) (by rw [up2_ne (by omega)]; exact h.1) ?_
  refine J_iload_n 19 rfl dX8_ask_18 rfl ?_
  refine J_iast 20 rfl dX8_ask_19 (sa_X8_hours (by first | assumption | exact isH_1 | exact isH_31 | exact isH_61 | exact isH_p (by omega) | exact isH_E (by assumption) (by omega) | exact isH_R (by assumption) | exact isH_K (by assumption) | exact isH_E isH_1 (by omega) | exact isH_R isH_1 | exact isH_K isH_1 | exact isH_R isH_31 | exact isH_K isH_31 | exact isH_E isH_31 (by omega))) (by omega) ?_
  refine J_aload_n 21 rfl dX8_ask_20 rfl ?_
  refine g_X8_penances 24 (by first | assumption | exact isH_1 | exact isH_31 | exact isH_61 | exact isH_p (by omega) | exact isH_E (by assumption) (by omega) | exact isH_R (by assumption) | exact isH_K (by assumption) | exact isH_E isH_1 (by omega) | exact isH_R isH_1 | exact isH_K isH_1 | exact isH_R isH_31 | exact isH_K isH_31 | exact isH_E isH_31 (by omega)) rfl dX8_ask_21 lkX8_18 ?_
  refine J_aload_n 25 rfl dX8_ask_24 rfl ?_
  refine g_X8_count 28 (by first | assumption | exact isH_1 | exact isH_31 | exact isH_61 | exact isH_p (by omega) | exact isH_E (by assumption) (by omega) | exact isH_R (by assumption) | exact isH_K (by assumption) | exact isH_E isH_1 (by omega) | exact isH_R isH_1 | exact isH_K isH_1 | exact isH_R isH_31 | exact isH_K isH_31 | exact isH_E isH_31 (by omega)) rfl dX8_ask_25 lkX8_27 ?_
  refine J_cv (b := f 4) (by rw [up2_ne (by omega)]; rw [up2_ne (by omega)]; exact h.1) ?_
  refine J_iload_n 29 rfl dX8_ask_28 rfl ?_
  refine J_iast 30 rfl dX8_ask_29 (sa_X8_penances (by first | assumption | exact isH_1 | exact isH_31 | exact isH_61 | exact isH_p (by omega) | exact isH_E (by assumption) (by omega) | exact isH_R (by assumption) | exact isH_K (by assumption) | exact isH_E isH_1 (by omega) | exact isH_R isH_1 | exact isH_K isH_1 | exact isH_R isH_31 | exact isH_K isH_31 | exact isH_E isH_31 (by omega))) (by omega) ?_
  refine J_aload_n 31 rfl dX8_ask_30 rfl ?_
  refine J_dup 32 rfl dX8_ask_31 rfl ?_
  refine g_X8_count 35 (by first | assumption | exact isH_1 | exact isH_31 | exact isH_61 | exact isH_p (by omega) | exact isH_E (by assumption) (by omega) | exact isH_R (by assumption) | exact isH_K (by assumption) | exact isH_E isH_1 (by omega) | exact isH_R isH_1 | exact isH_K isH_1 | exact isH_R isH_31 | exact isH_K isH_31 | exact isH_E isH_31 (by omega)) rfl dX8_ask_32 lkX8_27 ?_
  refine J_cv (b := f 4) (by rw [up2_ne (by omega)]; rw [up2_ne (by omega)]; rw [up2_ne (by omega)]; exact h.1) ?_
  refine J_iconst 36 1 rfl dX8_ask_35 ic_1 ?_
  refine J_iadd 37 rfl dX8_ask_36 ?_
  refine p_X8_count 40 (by first | assumption | exact isH_1 | exact isH_31 | exact isH_61 | exact isH_p (by omega) | exact isH_E (by assumption) (by omega) | exact isH_R (by assumption) | exact isH_K (by assumption) | exact isH_E isH_1 (by omega) | exact isH_R isH_1 | exact isH_K isH_1 | exact isH_R isH_31 | exact isH_K isH_31 | exact isH_E isH_31 (by omega)) rfl dX8_ask_37 lkX8_27 ?_
  refine J_aload_n 41 rfl dX8_ask_40 rfl ?_
  refine g_X8_count 44 (by first | assumption | exact isH_1 | exact isH_31 | exact isH_61 | exact isH_p (by omega) | exact isH_E (by assumption) (by omega) | exact isH_R (by assumption) | exact isH_K (by assumption) | exact isH_E isH_1 (by omega) | exact isH_R isH_1 | exact isH_K isH_1 | exact isH_R isH_31 | exact isH_K isH_31 | exact isH_E isH_31 (by omega)) rfl dX8_ask_41 lkX8_27 ?_
  refine J_cv (b := f 4 + 1) (by rw [up2_self]; rfl) ?_
  refine J_iconst 45 1 rfl dX8_ask_44 ic_1 ?_
  refine J_isub 46 rfl dX8_ask_45 (by omega) ?_
  refine J_iret rfl dX8_ask_46 ?_
  exact ⟨rfl, ((((Fr.refl.up (by omega)).up (by omega)).up (by omega)).up (by omega)), CR_ask h rfl h8⟩

theorem S_X8_withdraw {g : Gn} {J : DJ} {k p : Nat} {f : Nat → Nat} (hk : isR k) (h : CR J k f) (h8 : f 4 ≤ 8) (hp : p < f 4) : SJ g mX8_withdraw 1 0 0 [.ref (g.2 k), .int (nI (p))] J (Rp (f 4 - 1) (fun J2 => Fr k 4 J J2 ∧ CR J2 k (mDrop f p))) NoX := by
  refine SJ_of_VJ (by decide +kernel) (Nat.le_of_ble_eq_true rfl) ?_
  show VJ g mX8_withdraw 1 0 0 _ _ 0 [(0, .ref (g.2 k)), (1, .int (nI (p)))] [] J
  have loop : ∀ (n9 : Nat) (i : Nat) (J1 : DJ), 8 - i = n9 → p ≤ i → i < f 4 → Fr k 4 J J1 → J1 k 3 = f 4 → (∀ r, 1 ≤ r → r ≤ 3 → ∀ j, j < 8 → J1 (k + r) j = if p ≤ j ∧ j < i then J (k + r) (j + 1) else J (k + r) j) → VJ g mX8_withdraw 1 0 0 (Rp (f 4 - 1) (fun J2 => Fr k 4 J J2 ∧ CR J2 k (mDrop f p))) NoX 2 [(0, .ref (g.2 k)), (1, .int (nI (p))), (2, .int (nI (i)))] [] J1 := by
    intro n9
    induction n9 using Nat.strongRecOn with
    | ind n9 ih =>
    intro i J1 hi hpi hle fr h3 hr
    refine J_iload_n 3 rfl dX8_withdraw_2 rfl ?_
    refine J_iconst 4 1 rfl dX8_withdraw_3 ic_1 ?_
    refine J_iadd 5 rfl dX8_withdraw_4 ?_
    refine J_aload_n 6 rfl dX8_withdraw_5 rfl ?_
    refine g_X8_count 9 (by first | assumption | exact isH_1 | exact isH_31 | exact isH_61 | exact isH_p (by omega) | exact isH_E (by assumption) (by omega) | exact isH_R (by assumption) | exact isH_K (by assumption) | exact isH_E isH_1 (by omega) | exact isH_R isH_1 | exact isH_K isH_1 | exact isH_R isH_31 | exact isH_K isH_31 | exact isH_E isH_31 (by omega)) rfl dX8_withdraw_6 lkX8_27 ?_
    refine J_cv (b := f 4) h3 ?_
    refine J_icmp_ge 60 12 (by decide) rfl dX8_withdraw_9 (by omega) (by omega) (fun c9 => ?_) (fun c9 => ?_)
    · refine J_aload_n 61 rfl dX8_withdraw_60 rfl ?_
      refine J_dup 62 rfl dX8_withdraw_61 rfl ?_
      refine g_X8_count 65 (by first | assumption | exact isH_1 | exact isH_31 | exact isH_61 | exact isH_p (by omega) | exact isH_E (by assumption) (by omega) | exact isH_R (by assumption) | exact isH_K (by assumption) | exact isH_E isH_1 (by omega) | exact isH_R isH_1 | exact isH_K isH_1 | exact isH_R isH_31 | exact isH_K isH_31 | exact isH_E isH_31 (by omega)) rfl dX8_withdraw_62 lkX8_27 ?_
      refine J_cv (b := f 4) h3 ?_
      refine J_iconst 66 1 rfl dX8_withdraw_65 ic_1 ?_
      refine J_isub 67 rfl dX8_withdraw_66 (by omega) ?_
      refine p_X8_count 70 (by first | assumption | exact isH_1 | exact isH_31 | exact isH_61 | exact isH_p (by omega) | exact isH_E (by assumption) (by omega) | exact isH_R (by assumption) | exact isH_K (by assumption) | exact isH_E isH_1 (by omega) | exact isH_R isH_1 | exact isH_K isH_1 | exact isH_R isH_31 | exact isH_K isH_31 | exact isH_E isH_31 (by omega)) rfl dX8_withdraw_67 lkX8_27 ?_
      refine J_aload_n 71 rfl dX8_withdraw_70 rfl ?_
      refine g_X8_count 74 (by first | assumption | exact isH_1 | exact isH_31 | exact isH_61 | exact isH_p (by omega) | exact isH_E (by assumption) (by omega) | exact isH_R (by assumption) | exact isH_K (by assumption) | exact isH_E isH_1 (by omega) | exact isH_R isH_1 | exact isH_K isH_1 | exact isH_R isH_31 | exact isH_K isH_31 | exact isH_E isH_31 (by omega)) rfl dX8_withdraw_71 lkX8_27 ?_
      refine J_cv (b := f 4 - 1) (by rw [up2_self]; rfl) ?_
      refine J_iret rfl dX8_withdraw_74 ?_
      refine ⟨rfl, fr.up (by omega), CR_drop h h8 hp (by rw [up2_self]; rfl) (fun r r1 r3 j hj => ?_)⟩
      rw [up2_ne (by omega), hr r r1 r3 j (by omega)]
      by_cases q : p ≤ j
      · rw [if_pos ⟨q, by omega⟩, if_pos q]
      · rw [if_neg (fun z => q z.1), if_neg q]
    · refine J_aload_n 13 rfl dX8_withdraw_12 rfl ?_
      refine g_X8_engines 16 (by first | assumption | exact isH_1 | exact isH_31 | exact isH_61 | exact isH_p (by omega) | exact isH_E (by assumption) (by omega) | exact isH_R (by assumption) | exact isH_K (by assumption) | exact isH_E isH_1 (by omega) | exact isH_R isH_1 | exact isH_K isH_1 | exact isH_R isH_31 | exact isH_K isH_31 | exact isH_E isH_31 (by omega)) rfl dX8_withdraw_13 lkX8_9 ?_
      refine J_iload_n 17 rfl dX8_withdraw_16 rfl ?_
      refine J_aload_n 18 rfl dX8_withdraw_17 rfl ?_
      refine g_X8_engines 21 (by first | assumption | exact isH_1 | exact isH_31 | exact isH_61 | exact isH_p (by omega) | exact isH_E (by assumption) (by omega) | exact isH_R (by assumption) | exact isH_K (by assumption) | exact isH_E isH_1 (by omega) | exact isH_R isH_1 | exact isH_K isH_1 | exact isH_R isH_31 | exact isH_K isH_31 | exact isH_E isH_31 (by omega)) rfl dX8_withdraw_18 lkX8_9 ?_
      refine J_iload_n 22 rfl dX8_withdraw_21 rfl ?_
      refine J_iconst 23 1 rfl dX8_withdraw_22 ic_1 ?_
      refine J_iadd 24 rfl dX8_withdraw_23 ?_
      refine J_iald 25 rfl dX8_withdraw_24 (sa_X8_engines (by first | assumption | exact isH_1 | exact isH_31 | exact isH_61 | exact isH_p (by omega) | exact isH_E (by assumption) (by omega) | exact isH_R (by assumption) | exact isH_K (by assumption) | exact isH_E isH_1 (by omega) | exact isH_R isH_1 | exact isH_K isH_1 | exact isH_R isH_31 | exact isH_K isH_31 | exact isH_E isH_31 (by omega))) (by omega) ?_
      refine J_cv (b := J (k + 1) (i + 1)) (by rw [hr 1 (by omega) (by omega) (i + 1) (by omega), if_neg (by omega)]) ?_
      refine J_iast 26 rfl dX8_withdraw_25 (sa_X8_engines (by first | assumption | exact isH_1 | exact isH_31 | exact isH_61 | exact isH_p (by omega) | exact isH_E (by assumption) (by omega) | exact isH_R (by assumption) | exact isH_K (by assumption) | exact isH_E isH_1 (by omega) | exact isH_R isH_1 | exact isH_K isH_1 | exact isH_R isH_31 | exact isH_K isH_31 | exact isH_E isH_31 (by omega))) (by omega) ?_
      refine J_aload_n 27 rfl dX8_withdraw_26 rfl ?_
      refine g_X8_hours 30 (by first | assumption | exact isH_1 | exact isH_31 | exact isH_61 | exact isH_p (by omega) | exact isH_E (by assumption) (by omega) | exact isH_R (by assumption) | exact isH_K (by assumption) | exact isH_E isH_1 (by omega) | exact isH_R isH_1 | exact isH_K isH_1 | exact isH_R isH_31 | exact isH_K isH_31 | exact isH_E isH_31 (by omega)) rfl dX8_withdraw_27 lkX8_15 ?_
      refine J_iload_n 31 rfl dX8_withdraw_30 rfl ?_
      refine J_aload_n 32 rfl dX8_withdraw_31 rfl ?_
      refine g_X8_hours 35 (by first | assumption | exact isH_1 | exact isH_31 | exact isH_61 | exact isH_p (by omega) | exact isH_E (by assumption) (by omega) | exact isH_R (by assumption) | exact isH_K (by assumption) | exact isH_E isH_1 (by omega) | exact isH_R isH_1 | exact isH_K isH_1 | exact isH_R isH_31 | exact isH_K isH_31 | exact isH_E isH_31 (by omega)) rfl dX8_withdraw_32 lkX8_15 ?_
      refine J_iload_n 36 rfl dX8_withdraw_35 rfl ?_
      refine J_iconst 37 1 rfl dX8_withdraw_36 ic_1 ?_
      refine J_iadd 38 rfl dX8_withdraw_37 ?_
      refine J_iald 39 rfl dX8_withdraw_38 (sa_X8_hours (by first | assumption | exact isH_1 | exact isH_31 | exact isH_61 | exact isH_p (by omega) | exact isH_E (by assumption) (by omega) | exact isH_R (by assumption) | exact isH_K (by assumption) | exact isH_E isH_1 (by omega) | exact isH_R isH_1 | exact isH_K isH_1 | exact isH_R isH_31 | exact isH_K isH_31 | exact isH_E isH_31 (by omega))) (by omega) ?_
      refine J_cv (b := J (k + 2) (i + 1)) (by rw [up2_ne (by omega), hr 2 (by omega) (by omega) (i + 1) (by omega), if_neg (by omega)]) ?_
      refine J_iast 40 rfl dX8_withdraw_39 (sa_X8_hours (by first | assumption | exact isH_1 | exact isH_31 | exact isH_61 | exact isH_p (by omega) | exact isH_E (by assumption) (by omega) | exact isH_R (by assumption) | exact isH_K (by assumption) | exact isH_E isH_1 (by omega) | exact isH_R isH_1 | exact isH_K isH_1 | exact isH_R isH_31 | exact isH_K isH_31 | exact isH_E isH_31 (by omega))) (by omega) ?_
      refine J_aload_n 41 rfl dX8_withdraw_40 rfl ?_
      refine g_X8_penances 44 (by first | assumption | exact isH_1 | exact isH_31 | exact isH_61 | exact isH_p (by omega) | exact isH_E (by assumption) (by omega) | exact isH_R (by assumption) | exact isH_K (by assumption) | exact isH_E isH_1 (by omega) | exact isH_R isH_1 | exact isH_K isH_1 | exact isH_R isH_31 | exact isH_K isH_31 | exact isH_E isH_31 (by omega)) rfl dX8_withdraw_41 lkX8_18 ?_
      refine J_iload_n 45 rfl dX8_withdraw_44 rfl ?_
      refine J_aload_n 46 rfl dX8_withdraw_45 rfl ?_
      refine g_X8_penances 49 (by first | assumption | exact isH_1 | exact isH_31 | exact isH_61 | exact isH_p (by omega) | exact isH_E (by assumption) (by omega) | exact isH_R (by assumption) | exact isH_K (by assumption) | exact isH_E isH_1 (by omega) | exact isH_R isH_1 | exact isH_K isH_1 | exact isH_R isH_31 | exact isH_K isH_31 | exact isH_E isH_31 (by omega)) rfl dX8_withdraw_46 lkX8_18 ?_
      refine J_iload_n 50 rfl dX8_withdraw_49 rfl ?_
      refine J_iconst 51 1 rfl dX8_withdraw_50 ic_1 ?_
      refine J_iadd 52 rfl dX8_withdraw_51 ?_
      refine J_iald 53 rfl dX8_withdraw_52 (sa_X8_penances (by first | assumption | exact isH_1 | exact isH_31 | exact isH_61 | exact isH_p (by omega) | exact isH_E (by assumption) (by omega) | exact isH_R (by assumption) | exact isH_K (by assumption) | exact isH_E isH_1 (by omega) | exact isH_R isH_1 | exact isH_K isH_1 | exact isH_R isH_31 | exact isH_K isH_31 | exact isH_E isH_31 (by omega))) (by omega) ?_
      refine J_cv (b := J (k + 3) (i + 1)) (by rw [up2_ne (by omega), up2_ne (by omega), hr 3 (by omega) (by omega) (i + 1) (by omega), if_neg (by omega)]) ?_
      refine J_iast 54 rfl dX8_withdraw_53 (sa_X8_penances (by first | assumption | exact isH_1 | exact isH_31 | exact isH_61 | exact isH_p (by omega) | exact isH_E (by assumption) (by omega) | exact isH_R (by assumption) | exact isH_K (by assumption) | exact isH_E isH_1 (by omega) | exact isH_R isH_1 | exact isH_K isH_1 | exact isH_R isH_31 | exact isH_K isH_31 | exact isH_E isH_31 (by omega))) (by omega) ?_
      refine J_iinc 57 1 rfl dX8_withdraw_54 ic_1 rfl (Nat.le_of_ble_eq_true rfl) ?_
      refine J_goto 2 (by decide) dX8_withdraw_57 ?_
      refine ih _ (by omega) (i + 1) _ rfl (by omega) (by omega) (((fr.up (by omega)).up (by omega)).up (by omega)) ?_ ?_
      · rw [up2_ne (by omega), up2_ne (by omega), up2_ne (by omega)]; exact h3
      · intro r r1 r3 j hj
        have q := hr r r1 r3 j hj
        have r0 : r = 1 ∨ r = 2 ∨ r = 3 := by omega
        by_cases e : j = i
        · subst e
          rw [if_pos ⟨hpi, by omega⟩]
          rcases r0 with rfl | rfl | rfl
          · rw [up2_ne (by omega), up2_ne (by omega), up2_app, if_pos ⟨rfl, rfl⟩]
          · rw [up2_ne (by omega), up2_app, if_pos ⟨rfl, rfl⟩]
          · rw [up2_app, if_pos ⟨rfl, rfl⟩]
        · have c : (p ≤ j ∧ j < i + 1) ↔ (p ≤ j ∧ j < i) := by omega
          simp only [c]
          rw [← q]
          simp only [up2_app]
          rw [if_neg (fun z => e z.2), if_neg (fun z => e z.2), if_neg (fun z => e z.2)]
  refine J_iload_n 1 rfl dX8_withdraw_0 rfl ?_
  refine J_istore_n 2 rfl dX8_withdraw_1 rfl (Nat.le_of_ble_eq_true rfl) ?_
  exact loop _ p J rfl (Nat.le_refl _) hp Fr.refl h.1 (fun r _ _ j _ => by rw [if_neg (by omega)])

theorem S_X8_isBefore {g : Gn} {J : DJ} {k a c : Nat} {f : Nat → Nat} (hk : isR k) (h : CR J k f) (hr : ROk f) (ha : a < f 4) (hc : c < f 4) : SJ g mX8_isBefore 0 0 0 [.ref (g.2 k), .int (nI (a)), .int (nI (c))] J (Ri (bt (f (222 + 3 * a) * f (223 + 3 * c) < f (222 + 3 * c) * f (223 + 3 * a) ∨ (f (222 + 3 * a) * f (223 + 3 * c) = f (222 + 3 * c) * f (223 + 3 * a) ∧ a < c))) J) NoX := by
  refine SJ_of_VJ (by decide +kernel) (Nat.le_of_ble_eq_true rfl) ?_
  show VJ g mX8_isBefore 0 0 0 _ _ 0 [(0, .ref (g.2 k)), (1, .int (nI (a))), (2, .int (nI (c)))] [] J
  have h8 := hr.1
  have za := h.2 a ha
  have zc := h.2 c hc
  have ra := hr.2 a ha
  have rc := hr.2 c hc
  have p1 : f (222 + 3 * a) * f (223 + 3 * c) ≤ 9 * 9 := Nat.mul_le_mul (by omega) (by omega)
  have p2 : f (222 + 3 * c) * f (223 + 3 * a) ≤ 9 * 9 := Nat.mul_le_mul (by omega) (by omega)
  refine J_aload_n 1 rfl dX8_isBefore_0 rfl ?_
  refine g_X8_hours 4 (by first | assumption | exact isH_1 | exact isH_31 | exact isH_61 | exact isH_p (by omega) | exact isH_E (by assumption) (by omega) | exact isH_R (by assumption) | exact isH_K (by assumption) | exact isH_E isH_1 (by omega) | exact isH_R isH_1 | exact isH_K isH_1 | exact isH_R isH_31 | exact isH_K isH_31 | exact isH_E isH_31 (by omega)) rfl dX8_isBefore_1 lkX8_15 ?_
  refine J_iload_n 5 rfl dX8_isBefore_4 rfl ?_
  refine J_iald 6 rfl dX8_isBefore_5 (sa_X8_hours (by first | assumption | exact isH_1 | exact isH_31 | exact isH_61 | exact isH_p (by omega) | exact isH_E (by assumption) (by omega) | exact isH_R (by assumption) | exact isH_K (by assumption) | exact isH_E isH_1 (by omega) | exact isH_R isH_1 | exact isH_K isH_1 | exact isH_R isH_31 | exact isH_K isH_31 | exact isH_E isH_31 (by omega))) (by omega) ?_
  refine J_cv (b := f (222 + 3 * a)) za.2.1 ?_
  refine J_aload_n 7 rfl dX8_isBefore_6 rfl ?_
  refine g_X8_penances 10 (by first | assumption | exact isH_1 | exact isH_31 | exact isH_61 | exact isH_p (by omega) | exact isH_E (by assumption) (by omega) | exact isH_R (by assumption) | exact isH_K (by assumption) | exact isH_E isH_1 (by omega) | exact isH_R isH_1 | exact isH_K isH_1 | exact isH_R isH_31 | exact isH_K isH_31 | exact isH_E isH_31 (by omega)) rfl dX8_isBefore_7 lkX8_18 ?_
  refine J_iload_n 11 rfl dX8_isBefore_10 rfl ?_
  refine J_iald 12 rfl dX8_isBefore_11 (sa_X8_penances (by first | assumption | exact isH_1 | exact isH_31 | exact isH_61 | exact isH_p (by omega) | exact isH_E (by assumption) (by omega) | exact isH_R (by assumption) | exact isH_K (by assumption) | exact isH_E isH_1 (by omega) | exact isH_R isH_1 | exact isH_K isH_1 | exact isH_R isH_31 | exact isH_K isH_31 | exact isH_E isH_31 (by omega))) (by omega) ?_
  refine J_cv (b := f (223 + 3 * c)) zc.2.2 ?_
  refine J_imul 13 rfl dX8_isBefore_12 ?_
  refine J_istore_n 14 rfl dX8_isBefore_13 rfl (Nat.le_of_ble_eq_true rfl) ?_
  refine J_aload_n 15 rfl dX8_isBefore_14 rfl ?_
  refine g_X8_hours 18 (by first | assumption | exact isH_1 | exact isH_31 | exact isH_61 | exact isH_p (by omega) | exact isH_E (by assumption) (by omega) | exact isH_R (by assumption) | exact isH_K (by assumption) | exact isH_E isH_1 (by omega) | exact isH_R isH_1 | exact isH_K isH_1 | exact isH_R isH_31 | exact isH_K isH_31 | exact isH_E isH_31 (by omega)) rfl dX8_isBefore_15 lkX8_15 ?_
  refine J_iload_n 19 rfl dX8_isBefore_18 rfl ?_
  refine J_iald 20 rfl dX8_isBefore_19 (sa_X8_hours (by first | assumption | exact isH_1 | exact isH_31 | exact isH_61 | exact isH_p (by omega) | exact isH_E (by assumption) (by omega) | exact isH_R (by assumption) | exact isH_K (by assumption) | exact isH_E isH_1 (by omega) | exact isH_R isH_1 | exact isH_K isH_1 | exact isH_R isH_31 | exact isH_K isH_31 | exact isH_E isH_31 (by omega))) (by omega) ?_
  refine J_cv (b := f (222 + 3 * c)) zc.2.1 ?_
  refine J_aload_n 21 rfl dX8_isBefore_20 rfl ?_
  refine g_X8_penances 24 (by first | assumption | exact isH_1 | exact isH_31 | exact isH_61 | exact isH_p (by omega) | exact isH_E (by assumption) (by omega) | exact isH_R (by assumption) | exact isH_K (by assumption) | exact isH_E isH_1 (by omega) | exact isH_R isH_1 | exact isH_K isH_1 | exact isH_R isH_31 | exact isH_K isH_31 | exact isH_E isH_31 (by omega)) rfl dX8_isBefore_21 lkX8_18 ?_
  refine J_iload_n 25 rfl dX8_isBefore_24 rfl ?_
  refine J_iald 26 rfl dX8_isBefore_25 (sa_X8_penances (by first | assumption | exact isH_1 | exact isH_31 | exact isH_61 | exact isH_p (by omega) | exact isH_E (by assumption) (by omega) | exact isH_R (by assumption) | exact isH_K (by assumption) | exact isH_E isH_1 (by omega) | exact isH_R isH_1 | exact isH_K isH_1 | exact isH_R isH_31 | exact isH_K isH_31 | exact isH_E isH_31 (by omega))) (by omega) ?_
  refine J_cv (b := f (223 + 3 * a)) za.2.2 ?_
  refine J_imul 27 rfl dX8_isBefore_26 ?_
  refine J_istore 29 rfl dX8_isBefore_27 (Nat.le_of_ble_eq_true rfl) ?_
  refine J_iload_n 30 rfl dX8_isBefore_29 rfl ?_
  refine J_iload 32 rfl dX8_isBefore_30 rfl ?_
  refine J_icmp_lt 46 35 (by decide) rfl dX8_isBefore_32 (by omega) (by omega) (fun c32 => ?_) (fun c32 => ?_)
  · refine J_iconst 47 1 rfl dX8_isBefore_46 ic_1 ?_
    refine J_goto 51 (by decide) dX8_isBefore_47 ?_
    refine J_zret1 rfl dX8_isBefore_51 ?_
    first
      | exact ⟨by rw [bt_t (by omega)], rfl⟩
      | exact ⟨by rw [bt_f (by omega)], rfl⟩
  · refine J_iload_n 36 rfl dX8_isBefore_35 rfl ?_
    refine J_iload 38 rfl dX8_isBefore_36 rfl ?_
    refine J_icmp_ne 50 41 (by decide) rfl dX8_isBefore_38 (by omega) (by omega) (fun c38 => ?_) (fun c38 => ?_)
    · refine J_iconst 51 0 rfl dX8_isBefore_50 ic_0 ?_
      refine J_zret0 rfl dX8_isBefore_51 ?_
      first
        | exact ⟨by rw [bt_t (by omega)], rfl⟩
        | exact ⟨by rw [bt_f (by omega)], rfl⟩
    · refine J_iload_n 42 rfl dX8_isBefore_41 rfl ?_
      refine J_iload_n 43 rfl dX8_isBefore_42 rfl ?_
      refine J_icmp_ge 50 46 (by decide) rfl dX8_isBefore_43 (by omega) (by omega) (fun c43 => ?_) (fun c43 => ?_)
      · refine J_iconst 51 0 rfl dX8_isBefore_50 ic_0 ?_
        refine J_zret0 rfl dX8_isBefore_51 ?_
        first
          | exact ⟨by rw [bt_t (by omega)], rfl⟩
          | exact ⟨by rw [bt_f (by omega)], rfl⟩
      · refine J_iconst 47 1 rfl dX8_isBefore_46 ic_1 ?_
        refine J_goto 51 (by decide) dX8_isBefore_47 ?_
        refine J_zret1 rfl dX8_isBefore_51 ?_
        first
          | exact ⟨by rw [bt_t (by omega)], rfl⟩
          | exact ⟨by rw [bt_f (by omega)], rfl⟩

theorem S_X8_firstOfBest {g : Gn} {J : DJ} {k : Nat} {f : Nat → Nat} (hk : isR k) (h : CR J k f) (hr : ROk f) (h1 : 1 ≤ f 4) : SJ g mX8_firstOfBest 1 0 0 [.ref (g.2 k)] J (Ri (fBst f (f 4)) J) NoX := by
  refine SJ_of_VJ (by decide +kernel) (Nat.le_of_ble_eq_true rfl) ?_
  show VJ g mX8_firstOfBest 1 0 0 _ _ 0 [(0, .ref (g.2 k))] [] J
  have loop : ∀ (n9 : Nat) (i : Nat), f 4 - i = n9 → 1 ≤ i → i ≤ f 4 → VJ g mX8_firstOfBest 1 0 0 (Ri (fBst f (f 4)) J) NoX 4 [(0, .ref (g.2 k)), (1, .int (nI (fBst f i))), (2, .int (nI (i)))] [] J := by
    intro n9
    induction n9 using Nat.strongRecOn with
    | ind n9 ih =>
    intro i hi h1i hle
    have h8 := hr.1
    have hl := fBst_lt f i
    refine J_iload_n 5 rfl dX8_firstOfBest_4 rfl ?_
    refine J_aload_n 6 rfl dX8_firstOfBest_5 rfl ?_
    refine g_X8_count 9 (by first | assumption | exact isH_1 | exact isH_31 | exact isH_61 | exact isH_p (by omega) | exact isH_E (by assumption) (by omega) | exact isH_R (by assumption) | exact isH_K (by assumption) | exact isH_E isH_1 (by omega) | exact isH_R isH_1 | exact isH_K isH_1 | exact isH_R isH_31 | exact isH_K isH_31 | exact isH_E isH_31 (by omega)) rfl dX8_firstOfBest_6 lkX8_27 ?_
    refine J_cv (b := f 4) h.1 ?_
    refine J_icmp_ge 29 12 (by decide) rfl dX8_firstOfBest_9 (by omega) (by omega) (fun c9 => ?_) (fun c9 => ?_)
    · refine J_iload_n 30 rfl dX8_firstOfBest_29 rfl ?_
      refine J_iret rfl dX8_firstOfBest_30 ?_
      have e : i = f 4 := by omega
      subst e
      exact ⟨rfl, rfl⟩
    · refine J_aload_n 13 rfl dX8_firstOfBest_12 rfl ?_
      refine J_iload_n 14 rfl dX8_firstOfBest_13 rfl ?_
      refine J_iload_n 15 rfl dX8_firstOfBest_14 rfl ?_
      refine J_callVi (As := [_, _]) 18 _ rfl kalX8_isBefore lkX8_31 dX8_firstOfBest_15 (lt_X8 (by first | assumption | exact isH_1 | exact isH_31 | exact isH_61 | exact isH_p (by omega) | exact isH_E (by assumption) (by omega) | exact isH_R (by assumption) | exact isH_K (by assumption) | exact isH_E isH_1 (by omega) | exact isH_R isH_1 | exact isH_K isH_1 | exact isH_R isH_31 | exact isH_K isH_31 | exact isH_E isH_31 (by omega))) (so_X8 (by first | assumption | exact isH_1 | exact isH_31 | exact isH_61 | exact isH_p (by omega) | exact isH_E (by assumption) (by omega) | exact isH_R (by assumption) | exact isH_K (by assumption) | exact isH_E isH_1 (by omega) | exact isH_R isH_1 | exact isH_K isH_1 | exact isH_R isH_31 | exact isH_K isH_31 | exact isH_E isH_31 (by omega))) rfl rfl rfl (by exact Nat.le_of_ble_eq_true rfl) (by omega) (S_X8_isBefore hk h hr (by omega) (by omega)) ?_
      refine J_ifb_eq (hdp := _) 23 21 (by decide) rfl dX8_firstOfBest_18 (fun c18 => ?_) (fun c18 => ?_)
      · refine J_iinc 26 1 rfl dX8_firstOfBest_23 ic_1 rfl (Nat.le_of_ble_eq_true rfl) ?_
        refine J_goto 4 (by decide) dX8_firstOfBest_26 ?_
        have nx := ih _ (by omega) (i + 1) rfl (by omega) (by omega)
        simp only [fBst] at nx
        first
          | rw [if_pos (by assumption)] at nx; exact nx
          | rw [if_neg (by assumption)] at nx; exact nx
      · refine J_iload_n 22 rfl dX8_firstOfBest_21 rfl ?_
        refine J_istore_n 23 rfl dX8_firstOfBest_22 rfl (Nat.le_of_ble_eq_true rfl) ?_
        refine J_iinc 26 1 rfl dX8_firstOfBest_23 ic_1 rfl (Nat.le_of_ble_eq_true rfl) ?_
        refine J_goto 4 (by decide) dX8_firstOfBest_26 ?_
        have nx := ih _ (by omega) (i + 1) rfl (by omega) (by omega)
        simp only [fBst] at nx
        first
          | rw [if_pos (by assumption)] at nx; exact nx
          | rw [if_neg (by assumption)] at nx; exact nx
  refine J_iconst 1 0 rfl dX8_firstOfBest_0 ic_0 ?_
  refine J_istore_n 2 rfl dX8_firstOfBest_1 rfl (Nat.le_of_ble_eq_true rfl) ?_
  refine J_iconst 3 1 rfl dX8_firstOfBest_2 ic_1 ?_
  refine J_istore_n 4 rfl dX8_firstOfBest_3 rfl (Nat.le_of_ble_eq_true rfl) ?_
  have l := loop _ 1 rfl (by omega) h1
  rw [fBst_1] at l
  exact l

theorem S_X8_penanceOfAnHour {g : Gn} {J : DJ} {k : Nat} {f : Nat → Nat} (hk : isR k) (h : CR J k f) (hr : ROk f) : SJ g mX8_penanceOfAnHour 1 0 0 [.ref (g.2 k)] J (Ri (sumN (fun i => f (223 + 3 * i)) (f 4)) J) NoX := by
  refine SJ_of_VJ (by decide +kernel) (Nat.le_of_ble_eq_true rfl) ?_
  show VJ g mX8_penanceOfAnHour 1 0 0 _ _ 0 [(0, .ref (g.2 k))] [] J
  have loop : ∀ (n9 : Nat) (i : Nat), f 4 - i = n9 → i ≤ f 4 → VJ g mX8_penanceOfAnHour 1 0 0 (Ri (sumN (fun i => f (223 + 3 * i)) (f 4)) J) NoX 4 [(0, .ref (g.2 k)), (1, .int (nI (sumN (fun i => f (223 + 3 * i)) i))), (2, .int (nI (i)))] [] J := by
    intro n9
    induction n9 using Nat.strongRecOn with
    | ind n9 ih =>
    intro i hi hle
    have h8 := hr.1
    refine J_iload_n 5 rfl dX8_penanceOfAnHour_4 rfl ?_
    refine J_aload_n 6 rfl dX8_penanceOfAnHour_5 rfl ?_
    refine g_X8_count 9 (by first | assumption | exact isH_1 | exact isH_31 | exact isH_61 | exact isH_p (by omega) | exact isH_E (by assumption) (by omega) | exact isH_R (by assumption) | exact isH_K (by assumption) | exact isH_E isH_1 (by omega) | exact isH_R isH_1 | exact isH_K isH_1 | exact isH_R isH_31 | exact isH_K isH_31 | exact isH_E isH_31 (by omega)) rfl dX8_penanceOfAnHour_6 lkX8_27 ?_
    refine J_cv (b := f 4) h.1 ?_
    refine J_icmp_ge 27 12 (by decide) rfl dX8_penanceOfAnHour_9 (by omega) (by omega) (fun c9 => ?_) (fun c9 => ?_)
    · refine J_iload_n 28 rfl dX8_penanceOfAnHour_27 rfl ?_
      refine J_iret rfl dX8_penanceOfAnHour_28 ?_
      have e : i = f 4 := by omega
      subst e
      exact ⟨rfl, rfl⟩
    · refine J_iload_n 13 rfl dX8_penanceOfAnHour_12 rfl ?_
      refine J_aload_n 14 rfl dX8_penanceOfAnHour_13 rfl ?_
      refine g_X8_penances 17 (by first | assumption | exact isH_1 | exact isH_31 | exact isH_61 | exact isH_p (by omega) | exact isH_E (by assumption) (by omega) | exact isH_R (by assumption) | exact isH_K (by assumption) | exact isH_E isH_1 (by omega) | exact isH_R isH_1 | exact isH_K isH_1 | exact isH_R isH_31 | exact isH_K isH_31 | exact isH_E isH_31 (by omega)) rfl dX8_penanceOfAnHour_14 lkX8_18 ?_
      refine J_iload_n 18 rfl dX8_penanceOfAnHour_17 rfl ?_
      refine J_iald 19 rfl dX8_penanceOfAnHour_18 (sa_X8_penances (by first | assumption | exact isH_1 | exact isH_31 | exact isH_61 | exact isH_p (by omega) | exact isH_E (by assumption) (by omega) | exact isH_R (by assumption) | exact isH_K (by assumption) | exact isH_E isH_1 (by omega) | exact isH_R isH_1 | exact isH_K isH_1 | exact isH_R isH_31 | exact isH_K isH_31 | exact isH_E isH_31 (by omega))) (by omega) ?_
      refine J_cv (b := f (223 + 3 * i)) ((h.2 i (by omega)).2.2) ?_
      refine J_iadd 20 rfl dX8_penanceOfAnHour_19 ?_
      refine J_istore_n 21 rfl dX8_penanceOfAnHour_20 rfl (Nat.le_of_ble_eq_true rfl) ?_
      refine J_iinc 24 1 rfl dX8_penanceOfAnHour_21 ic_1 rfl (Nat.le_of_ble_eq_true rfl) ?_
      refine J_goto 4 (by decide) dX8_penanceOfAnHour_24 ?_
      exact ih _ (by omega) (i + 1) rfl (by omega)
  refine J_iconst 1 0 rfl dX8_penanceOfAnHour_0 ic_0 ?_
  refine J_istore_n 2 rfl dX8_penanceOfAnHour_1 rfl (Nat.le_of_ble_eq_true rfl) ?_
  refine J_iconst 3 0 rfl dX8_penanceOfAnHour_2 ic_0 ?_
  refine J_istore_n 4 rfl dX8_penanceOfAnHour_3 rfl (Nat.le_of_ble_eq_true rfl) ?_
  exact loop _ 0 rfl (Nat.zero_le _)

