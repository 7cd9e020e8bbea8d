/-! THE ENGINE, SECOND (laid by wip/whole/src/p22.py) -/
def backAt (w : Nat → Nat) (n t : Nat) : Prop := ∀ c, c < n → itN w t c = c
def turnB (w : Nat → Nat) (n r : Nat) : Prop := 1 ≤ r ∧ r ≤ 64 ∧ (r = 64 ∨ backAt w n r) ∧ ∀ t, 1 ≤ t → t < r → ¬ backAt w n t
theorem S_X1_turnBySteps {g : Gn} {J : DJ} {b : Nat} (hb : isE b) (h1 : 1 ≤ J b 6) (h8 : J b 6 ≤ 8) (hw : ∀ c, c < J b 6 → J (b + 1) c < J b 6) : SJ g mX1_turnBySteps 1 0 0 [.ref (g.2 b)] J (Rn (turnB (J (b + 1)) (J b 6)) J) NoX := by
  refine SJ_of_VJ (by decide +kernel) (Nat.le_of_ble_eq_true rfl) ?_
  show VJ g mX1_turnBySteps 1 0 0 _ _ 0 [(0, .ref (g.2 b))] [] J
  have loop : ∀ (n9 : Nat) (t : Nat), 64 - t = n9 → 1 ≤ t → t ≤ 64 → (∀ s, 1 ≤ s → s < t → ¬ backAt (J (b + 1)) (J b 6) s) → VJ g mX1_turnBySteps 1 0 0 (Rn (turnB (J (b + 1)) (J b 6)) J) NoX 5 [(0, .ref (g.2 b)), (1, .int (nI (64))), (2, .int (nI (t)))] [] J := by
    intro n9
    induction n9 using Nat.strongRecOn with
    | ind n9 ih =>
    intro t hi h1t ht hm
    refine J_iload_n 6 rfl dX1_turnBySteps_5 rfl ?_
    refine J_iload_n 7 rfl dX1_turnBySteps_6 rfl ?_
    refine J_icmp_ge 24 10 (by decide) rfl dX1_turnBySteps_7 (by omega) (by omega) (fun c7 => ?_) (fun c7 => ?_)
    · refine J_iload_n 25 rfl dX1_turnBySteps_24 rfl ?_
      refine J_iret rfl dX1_turnBySteps_25 ?_
      first | exact ⟨t, rfl, ⟨h1t, ht, Or.inl (by omega), hm⟩, rfl⟩ | exact ⟨t, rfl, ⟨h1t, ht, Or.inr (by assumption), hm⟩, rfl⟩
    · refine J_aload_n 11 rfl dX1_turnBySteps_10 rfl ?_
      refine J_iload_n 12 rfl dX1_turnBySteps_11 rfl ?_
      refine J_callVi (As := [_]) 15 _ rfl kalX1_leadsBackAfter lkX1_61 dX1_turnBySteps_12 (lt_X1 (by first | assumption | exact isH_1 | exact isH_31 | exact isH_61 | exact isH_p (by omega) | exact isH_E (by assumption) (by omega) | exact isH_R (by assumption) | exact isH_K (by assumption) | exact isH_E isH_1 (by omega) | exact isH_R isH_1 | exact isH_K isH_1 | exact isH_R isH_31 | exact isH_K isH_31 | exact isH_E isH_31 (by omega))) (so_X1 (by first | assumption | exact isH_1 | exact isH_31 | exact isH_61 | exact isH_p (by omega) | exact isH_E (by assumption) (by omega) | exact isH_R (by assumption) | exact isH_K (by assumption) | exact isH_E isH_1 (by omega) | exact isH_R isH_1 | exact isH_K isH_1 | exact isH_R isH_31 | exact isH_K isH_31 | exact isH_E isH_31 (by omega))) rfl rfl rfl (by exact Nat.le_of_ble_eq_true rfl) (by omega) (S_X1_leadsBackAfter hb h1 h8 hw (by omega)) ?_
      refine J_ifb_ne (hdp := _) 24 18 (by decide) rfl dX1_turnBySteps_15 (fun c15 => ?_) (fun c15 => ?_)
      · refine J_iload_n 25 rfl dX1_turnBySteps_24 rfl ?_
        refine J_iret rfl dX1_turnBySteps_25 ?_
        first | exact ⟨t, rfl, ⟨h1t, ht, Or.inl (by omega), hm⟩, rfl⟩ | exact ⟨t, rfl, ⟨h1t, ht, Or.inr (by assumption), hm⟩, rfl⟩
      · refine J_iinc 21 1 rfl dX1_turnBySteps_18 ic_1 rfl (Nat.le_of_ble_eq_true rfl) ?_
        refine J_goto 5 (by decide) dX1_turnBySteps_21 ?_
        exact ih _ (by omega) (t + 1) rfl (by omega) (by omega) (fun s q1 q2 => (Nat.lt_or_eq_of_le (Nat.le_of_lt_succ q2)).elim (fun q => hm s q1 q) (fun e => by rw [e]; assumption))
  refine J_bipush 2 64 rfl dX1_turnBySteps_0 bc_64 ?_
  refine J_istore_n 3 rfl dX1_turnBySteps_2 rfl (Nat.le_of_ble_eq_true rfl) ?_
  refine J_iconst 4 1 rfl dX1_turnBySteps_3 ic_1 ?_
  refine J_istore_n 5 rfl dX1_turnBySteps_4 rfl (Nat.le_of_ble_eq_true rfl) ?_
  exact loop _ 1 rfl (by omega) (by omega) (fun s q1 q2 => absurd q2 (by omega))

theorem S_X1_leastDistance {g : Gn} {J : DJ} {b : Nat} (hb : isE b) (h1 : 1 ≤ J b 6) (h8 : J b 6 ≤ 8) (hw : ∀ c, c < J b 6 → J (b + 1) c < J b 6) : SJ g mX1_leastDistance 2 0 0 [.ref (g.2 b)] J (Ri (ldN (J (b + 1)) (J b 6) (J b 6)) J) NoX := by
  refine SJ_of_VJ (by decide +kernel) (Nat.le_of_ble_eq_true rfl) ?_
  show VJ g mX1_leastDistance 2 0 0 _ _ 0 [(0, .ref (g.2 b))] [] J
  have loop : ∀ (n9 : Nat) (i : Nat), J b 6 - i = n9 → i ≤ J b 6 → VJ g mX1_leastDistance 2 0 0 (Ri (ldN (J (b + 1)) (J b 6) (J b 6)) J) NoX 7 [(0, .ref (g.2 b)), (1, .int (nI (ldN (J (b + 1)) (J b 6) i))), (2, .int (nI (i)))] [] J := by
    intro n9
    induction n9 using Nat.strongRecOn with
    | ind n9 ih =>
    intro i hi hle
    refine J_iload_n 8 rfl dX1_leastDistance_7 rfl ?_
    refine J_aload_n 9 rfl dX1_leastDistance_8 rfl ?_
    refine g_X1_cylinders 12 (by first | assumption | exact isH_1 | exact isH_31 | exact isH_61 | exact isH_p (by omega) | exact isH_E (by assumption) (by omega) | exact isH_R (by assumption) | exact isH_K (by assumption) | exact isH_E isH_1 (by omega) | exact isH_R isH_1 | exact isH_K isH_1 | exact isH_R isH_31 | exact isH_K isH_31 | exact isH_E isH_31 (by omega)) rfl dX1_leastDistance_9 lkX1_24 ?_
    refine J_icmp_ge 51 15 (by decide) rfl dX1_leastDistance_12 (by omega) (by omega) (fun c12 => ?_) (fun c12 => ?_)
    · refine J_iload_n 52 rfl dX1_leastDistance_51 rfl ?_
      refine J_iret rfl dX1_leastDistance_52 ?_
      have e : i = J b 6 := by omega
      rw [e]
      exact ⟨rfl, rfl⟩
    · refine J_aload_n 16 rfl dX1_leastDistance_15 rfl ?_
      refine g_X1_order 19 (by first | assumption | exact isH_1 | exact isH_31 | exact isH_61 | exact isH_p (by omega) | exact isH_E (by assumption) (by omega) | exact isH_R (by assumption) | exact isH_K (by assumption) | exact isH_E isH_1 (by omega) | exact isH_R isH_1 | exact isH_K isH_1 | exact isH_R isH_31 | exact isH_K isH_31 | exact isH_E isH_31 (by omega)) rfl dX1_leastDistance_16 lkX1_9 ?_
      refine J_aload_n 20 rfl dX1_leastDistance_19 rfl ?_
      refine J_iload_n 21 rfl dX1_leastDistance_20 rfl ?_
      refine J_callVi (As := [_]) 24 _ rfl kalX1_placeAfter lkX1_50 dX1_leastDistance_21 (lt_X1 (by first | assumption | exact isH_1 | exact isH_31 | exact isH_61 | exact isH_p (by omega) | exact isH_E (by assumption) (by omega) | exact isH_R (by assumption) | exact isH_K (by assumption) | exact isH_E isH_1 (by omega) | exact isH_R isH_1 | exact isH_K isH_1 | exact isH_R isH_31 | exact isH_K isH_31 | exact isH_E isH_31 (by omega))) (so_X1 (by first | assumption | exact isH_1 | exact isH_31 | exact isH_61 | exact isH_p (by omega) | exact isH_E (by assumption) (by omega) | exact isH_R (by assumption) | exact isH_K (by assumption) | exact isH_E isH_1 (by omega) | exact isH_R isH_1 | exact isH_K isH_1 | exact isH_R isH_31 | exact isH_K isH_31 | exact isH_E isH_31 (by omega))) rfl rfl rfl (by exact Nat.le_of_ble_eq_true rfl) (by omega) (S_X1_placeAfter hb (by omega) (by omega)) ?_
      have hlt : (if i + 1 < J b 6 then i + 1 else 0) < J b 6 := by split <;> omega
      have hd := ldN_le (J (b + 1)) (J b 6) i
      have hif : (if i + 1 < J b 6 then i + 1 else 0) = (if i + 1 < J b 6 then i + 1 else 0) := rfl
      have hdi := dist_le (J (b + 1) i) (J (b + 1) (if i + 1 < J b 6 then i + 1 else 0)) (J b 6)
      refine J_iald 25 rfl dX1_leastDistance_24 (sa_X1_order (by first | assumption | exact isH_1 | exact isH_31 | exact isH_61 | exact isH_p (by omega) | exact isH_E (by assumption) (by omega) | exact isH_R (by assumption) | exact isH_K (by assumption) | exact isH_E isH_1 (by omega) | exact isH_R isH_1 | exact isH_K isH_1 | exact isH_R isH_31 | exact isH_K isH_31 | exact isH_E isH_31 (by omega))) (by omega) ?_
      refine J_istore_n 26 rfl dX1_leastDistance_25 rfl (Nat.le_of_ble_eq_true rfl) ?_
      refine J_iload_n 27 rfl dX1_leastDistance_26 rfl ?_
      refine J_aload_n 28 rfl dX1_leastDistance_27 rfl ?_
      refine g_X1_order 31 (by first | assumption | exact isH_1 | exact isH_31 | exact isH_61 | exact isH_p (by omega) | exact isH_E (by assumption) (by omega) | exact isH_R (by assumption) | exact isH_K (by assumption) | exact isH_E isH_1 (by omega) | exact isH_R isH_1 | exact isH_K isH_1 | exact isH_R isH_31 | exact isH_K isH_31 | exact isH_E isH_31 (by omega)) rfl dX1_leastDistance_28 lkX1_9 ?_
      refine J_iload_n 32 rfl dX1_leastDistance_31 rfl ?_
      refine J_iald 33 rfl dX1_leastDistance_32 (sa_X1_order (by first | assumption | exact isH_1 | exact isH_31 | exact isH_61 | exact isH_p (by omega) | exact isH_E (by assumption) (by omega) | exact isH_R (by assumption) | exact isH_K (by assumption) | exact isH_E isH_1 (by omega) | exact isH_R isH_1 | exact isH_K isH_1 | exact isH_R isH_31 | exact isH_K isH_31 | exact isH_E isH_31 (by omega))) (by omega) ?_
      refine J_iload_n 34 rfl dX1_leastDistance_33 rfl ?_
      refine J_aload_n 35 rfl dX1_leastDistance_34 rfl ?_
      refine g_X1_cylinders 38 (by first | assumption | exact isH_1 | exact isH_31 | exact isH_61 | exact isH_p (by omega) | exact isH_E (by assumption) (by omega) | exact isH_R (by assumption) | exact isH_K (by assumption) | exact isH_E isH_1 (by omega) | exact isH_R isH_1 | exact isH_K isH_1 | exact isH_R isH_31 | exact isH_K isH_31 | exact isH_E isH_31 (by omega)) rfl dX1_leastDistance_35 lkX1_24 ?_
      refine J_callSNi (As := [_, _, _]) (host := "EngineMonastery") 41 rfl kalX10_distance (by decide) dX1_leastDistance_38 rfl rfl (by exact Nat.le_of_ble_eq_true rfl) (by omega) (S_X10_distance (hw i (by omega)) (by rw [hif]; exact hw _ hlt) (by omega)) ?_
      refine J_mmin 44 rfl dX1_leastDistance_41 lkX1_69 (by exact Nat.le_of_ble_eq_true rfl) (by omega) (by have := hw i (by omega); omega) (by have := hw i (by omega); have := hw _ hlt; omega) ?_
      refine J_istore_n 45 rfl dX1_leastDistance_44 rfl (Nat.le_of_ble_eq_true rfl) ?_
      refine J_iinc 48 1 rfl dX1_leastDistance_45 ic_1 rfl (Nat.le_of_ble_eq_true rfl) ?_
      refine J_goto 7 (by decide) dX1_leastDistance_48 ?_
      exact (fun k => J_keep [0, 1, 2] k) (ih _ (by omega) (i + 1) rfl (by omega))
  refine J_aload_n 1 rfl dX1_leastDistance_0 rfl ?_
  refine g_X1_cylinders 4 (by first | assumption | exact isH_1 | exact isH_31 | exact isH_61 | exact isH_p (by omega) | exact isH_E (by assumption) (by omega) | exact isH_R (by assumption) | exact isH_K (by assumption) | exact isH_E isH_1 (by omega) | exact isH_R isH_1 | exact isH_K isH_1 | exact isH_R isH_31 | exact isH_K isH_31 | exact isH_E isH_31 (by omega)) rfl dX1_leastDistance_1 lkX1_24 ?_
  refine J_istore_n 5 rfl dX1_leastDistance_4 rfl (Nat.le_of_ble_eq_true rfl) ?_
  refine J_iconst 6 0 rfl dX1_leastDistance_5 ic_0 ?_
  refine J_istore_n 7 rfl dX1_leastDistance_6 rfl (Nat.le_of_ble_eq_true rfl) ?_
  exact loop _ 0 rfl (Nat.zero_le _)

theorem S_X1_begin {g : Gn} {J : DJ} {b n : Nat} (hb : isE b) : SJ g mX1_begin 0 0 0 [.ref (g.2 b), .int (nI (n))] J (Rq (fun J2 => Fr b 5 J J2 ∧ J2 (b + 4) = J (b + 4) ∧ J2 b 6 = n ∧ J2 b 7 = 0 ∧ J2 b 8 = 0 ∧ J2 b 4 = 0 ∧ J2 b 5 = 0 ∧ ∀ c, c < 8 → J2 (b + 1) c = c ∧ J2 (b + 2) c = 5 ∧ J2 (b + 3) c = 0)) NoX := by
  refine SJ_of_VJ (by decide +kernel) (Nat.le_of_ble_eq_true rfl) ?_
  show VJ g mX1_begin 0 0 0 _ _ 0 [(0, .ref (g.2 b)), (1, .int (nI (n)))] [] J
  have loop : ∀ (n9 : Nat) (i : Nat) (J1 : DJ), 8 - i = n9 → i ≤ 8 → Fr b 5 J J1 → J1 (b + 4) = J (b + 4) → J1 b 6 = n ∧ J1 b 7 = 0 ∧ J1 b 8 = 0 ∧ J1 b 4 = 0 ∧ J1 b 5 = 0 → (∀ c, c < i → J1 (b + 1) c = c ∧ J1 (b + 2) c = 5 ∧ J1 (b + 3) c = 0) → VJ g mX1_begin 0 0 0 (Rq (fun J2 => Fr b 5 J J2 ∧ J2 (b + 4) = J (b + 4) ∧ J2 b 6 = n ∧ J2 b 7 = 0 ∧ J2 b 8 = 0 ∧ J2 b 4 = 0 ∧ J2 b 5 = 0 ∧ ∀ c, c < 8 → J2 (b + 1) c = c ∧ J2 (b + 2) c = 5 ∧ J2 (b + 3) c = 0)) NoX 27 [(0, .ref (g.2 b)), (1, .int (nI (n))), (2, .int (nI (i)))] [] J1 := by
    intro n9
    induction n9 using Nat.strongRecOn with
    | ind n9 ih =>
    intro i J1 hi hle hf h4 hs hr
    refine J_iload_n 28 rfl dX1_begin_27 rfl ?_
    refine J_bipush 30 8 rfl dX1_begin_28 bc_8 ?_
    refine J_icmp_ge 60 33 (by decide) rfl dX1_begin_30 (by omega) (by omega) (fun c30 => ?_) (fun c30 => ?_)
    · refine J_vret rfl dX1_begin_60 ?_
      have e : i = 8 := by omega
      subst e
      exact ⟨rfl, hf, h4, hs.1, hs.2.1, hs.2.2.1, hs.2.2.2.1, hs.2.2.2.2, hr⟩
    · refine J_aload_n 34 rfl dX1_begin_33 rfl ?_
      refine g_X1_order 37 (by first | assumption | exact isH_1 | exact isH_31 | exact isH_61 | exact isH_p (by omega) | exact isH_E (by assumption) (by omega) | exact isH_R (by assumption) | exact isH_K (by assumption) | exact isH_E isH_1 (by omega) | exact isH_R isH_1 | exact isH_K isH_1 | exact isH_R isH_31 | exact isH_K isH_31 | exact isH_E isH_31 (by omega)) rfl dX1_begin_34 lkX1_9 ?_
      refine J_iload_n 38 rfl dX1_begin_37 rfl ?_
      refine J_iload_n 39 rfl dX1_begin_38 rfl ?_
      refine J_iast 40 rfl dX1_begin_39 (sa_X1_order (by first | assumption | exact isH_1 | exact isH_31 | exact isH_61 | exact isH_p (by omega) | exact isH_E (by assumption) (by omega) | exact isH_R (by assumption) | exact isH_K (by assumption) | exact isH_E isH_1 (by omega) | exact isH_R isH_1 | exact isH_K isH_1 | exact isH_R isH_31 | exact isH_K isH_31 | exact isH_E isH_31 (by omega))) (by omega) ?_
      refine J_aload_n 41 rfl dX1_begin_40 rfl ?_
      refine g_X1_oil 44 (by first | assumption | exact isH_1 | exact isH_31 | exact isH_61 | exact isH_p (by omega) | exact isH_E (by assumption) (by omega) | exact isH_R (by assumption) | exact isH_K (by assumption) | exact isH_E isH_1 (by omega) | exact isH_R isH_1 | exact isH_K isH_1 | exact isH_R isH_31 | exact isH_K isH_31 | exact isH_E isH_31 (by omega)) rfl dX1_begin_41 lkX1_15 ?_
      refine J_iload_n 45 rfl dX1_begin_44 rfl ?_
      refine J_iconst 46 5 rfl dX1_begin_45 ic_5 ?_
      refine J_iast 47 rfl dX1_begin_46 (sa_X1_oil (by first | assumption | exact isH_1 | exact isH_31 | exact isH_61 | exact isH_p (by omega) | exact isH_E (by assumption) (by omega) | exact isH_R (by assumption) | exact isH_K (by assumption) | exact isH_E isH_1 (by omega) | exact isH_R isH_1 | exact isH_K isH_1 | exact isH_R isH_31 | exact isH_K isH_31 | exact isH_E isH_31 (by omega))) (by omega) ?_
      refine J_aload_n 48 rfl dX1_begin_47 rfl ?_
      refine g_X1_wear 51 (by first | assumption | exact isH_1 | exact isH_31 | exact isH_61 | exact isH_p (by omega) | exact isH_E (by assumption) (by omega) | exact isH_R (by assumption) | exact isH_K (by assumption) | exact isH_E isH_1 (by omega) | exact isH_R isH_1 | exact isH_K isH_1 | exact isH_R isH_31 | exact isH_K isH_31 | exact isH_E isH_31 (by omega)) rfl dX1_begin_48 lkX1_18 ?_
      refine J_iload_n 52 rfl dX1_begin_51 rfl ?_
      refine J_iconst 53 0 rfl dX1_begin_52 ic_0 ?_
      refine J_iast 54 rfl dX1_begin_53 (sa_X1_wear (by first | assumption | exact isH_1 | exact isH_31 | exact isH_61 | exact isH_p (by omega) | exact isH_E (by assumption) (by omega) | exact isH_R (by assumption) | exact isH_K (by assumption) | exact isH_E isH_1 (by omega) | exact isH_R isH_1 | exact isH_K isH_1 | exact isH_R isH_31 | exact isH_K isH_31 | exact isH_E isH_31 (by omega))) (by omega) ?_
      refine J_iinc 57 1 rfl dX1_begin_54 ic_1 rfl (Nat.le_of_ble_eq_true rfl) ?_
      refine J_goto 27 (by decide) dX1_begin_57 ?_
      refine ih _ (by omega) (i + 1) _ rfl (by omega) (((hf.up (by omega)).up (by omega)).up (by omega)) ?_ ?_ ?_
      · rw [up2_ne (by omega), up2_ne (by omega), up2_ne (by omega)]; exact h4
      · simp only [up2_ne (show b ≠ b + 1 by omega), up2_ne (show b ≠ b + 2 by omega), up2_ne (show b ≠ b + 3 by omega)]; exact hs
      · intro c hc
        have q := hr c
        simp only [up2_app]
        by_cases e : c = i
        · subst e; simp
        · have q := q (by omega)
          simp [e, q]
  refine J_aload_n 1 rfl dX1_begin_0 rfl ?_
  refine J_iload_n 2 rfl dX1_begin_1 rfl ?_
  refine p_X1_cylinders 5 (by first | assumption | exact isH_1 | exact isH_31 | exact isH_61 | exact isH_p (by omega) | exact isH_E (by assumption) (by omega) | exact isH_R (by assumption) | exact isH_K (by assumption) | exact isH_E isH_1 (by omega) | exact isH_R isH_1 | exact isH_K isH_1 | exact isH_R isH_31 | exact isH_K isH_31 | exact isH_E isH_31 (by omega)) rfl dX1_begin_2 lkX1_24 ?_
  refine J_aload_n 6 rfl dX1_begin_5 rfl ?_
  refine J_iconst 7 0 rfl dX1_begin_6 ic_0 ?_
  refine p_X1_due 10 (by first | assumption | exact isH_1 | exact isH_31 | exact isH_61 | exact isH_p (by omega) | exact isH_E (by assumption) (by omega) | exact isH_R (by assumption) | exact isH_K (by assumption) | exact isH_E isH_1 (by omega) | exact isH_R isH_1 | exact isH_K isH_1 | exact isH_R isH_31 | exact isH_K isH_31 | exact isH_E isH_31 (by omega)) rfl dX1_begin_7 lkX1_28 ?_
  refine J_aload_n 11 rfl dX1_begin_10 rfl ?_
  refine J_iconst 12 0 rfl dX1_begin_11 ic_0 ?_
  refine p_X1_rate 15 (by first | assumption | exact isH_1 | exact isH_31 | exact isH_61 | exact isH_p (by omega) | exact isH_E (by assumption) (by omega) | exact isH_R (by assumption) | exact isH_K (by assumption) | exact isH_E isH_1 (by omega) | exact isH_R isH_1 | exact isH_K isH_1 | exact isH_R isH_31 | exact isH_K isH_31 | exact isH_E isH_31 (by omega)) rfl dX1_begin_12 lkX1_31 ?_
  refine J_aload_n 16 rfl dX1_begin_15 rfl ?_
  refine J_iconst 17 0 rfl dX1_begin_16 ic_0 ?_
  refine p_X1_oldestKnock 20 (by first | assumption | exact isH_1 | exact isH_31 | exact isH_61 | exact isH_p (by omega) | exact isH_E (by assumption) (by omega) | exact isH_R (by assumption) | exact isH_K (by assumption) | exact isH_E isH_1 (by omega) | exact isH_R isH_1 | exact isH_K isH_1 | exact isH_R isH_31 | exact isH_K isH_31 | exact isH_E isH_31 (by omega)) rfl dX1_begin_17 lkX1_34 ?_
  refine J_aload_n 21 rfl dX1_begin_20 rfl ?_
  refine J_iconst 22 0 rfl dX1_begin_21 ic_0 ?_
  refine p_X1_knocksKept 25 (by first | assumption | exact isH_1 | exact isH_31 | exact isH_61 | exact isH_p (by omega) | exact isH_E (by assumption) (by omega) | exact isH_R (by assumption) | exact isH_K (by assumption) | exact isH_E isH_1 (by omega) | exact isH_R isH_1 | exact isH_K isH_1 | exact isH_R isH_31 | exact isH_K isH_31 | exact isH_E isH_31 (by omega)) rfl dX1_begin_22 lkX1_37 ?_
  refine J_iconst 26 0 rfl dX1_begin_25 ic_0 ?_
  refine J_istore_n 27 rfl dX1_begin_26 rfl (Nat.le_of_ble_eq_true rfl) ?_
  refine loop _ 0 _ rfl (Nat.zero_le _) (((((Fr.refl.up (by omega)).up (by omega)).up (by omega)).up (by omega)).up (by omega)) ?_ ?_ (fun c hc => absurd hc (by omega))
  · simp only [up2_ne (show b + 4 ≠ b by omega)]
  · simp [up2_app]

theorem S_X1_become {g : Gn} {J : DJ} {b k : Nat} (hb : isE b) (hk : isE k) (hne : b + 5 ≤ k ∨ k + 5 ≤ b) : SJ g mX1_become 1 0 0 [.ref (g.2 b), .ref (g.2 k)] J (Rq (fun J2 => Fr b 5 J J2 ∧ (∀ i, 4 ≤ i → i ≤ 8 → J2 b i = J k i) ∧ (∀ i, i < 8 → J2 (b + 1) i = J (k + 1) i ∧ J2 (b + 2) i = J (k + 2) i ∧ J2 (b + 3) i = J (k + 3) i) ∧ ∀ i, i < 24 → J2 (b + 4) i = J (k + 4) i)) NoX := by
  refine SJ_of_VJ (by decide +kernel) (Nat.le_of_ble_eq_true rfl) ?_
  show VJ g mX1_become 1 0 0 _ _ 0 [(0, .ref (g.2 b)), (1, .ref (g.2 k))] [] J
  refine J_aload_n 1 rfl dX1_become_0 rfl ?_
  refine g_X1_order 4 (by first | assumption | exact isH_1 | exact isH_31 | exact isH_61 | exact isH_p (by omega) | exact isH_E (by assumption) (by omega) | exact isH_R (by assumption) | exact isH_K (by assumption) | exact isH_E isH_1 (by omega) | exact isH_R isH_1 | exact isH_K isH_1 | exact isH_R isH_31 | exact isH_K isH_31 | exact isH_E isH_31 (by omega)) rfl dX1_become_1 lkX1_9 ?_
  refine J_iconst 5 0 rfl dX1_become_4 ic_0 ?_
  refine J_aload_n 6 rfl dX1_become_5 rfl ?_
  refine g_X1_order 9 (by first | assumption | exact isH_1 | exact isH_31 | exact isH_61 | exact isH_p (by omega) | exact isH_E (by assumption) (by omega) | exact isH_R (by assumption) | exact isH_K (by assumption) | exact isH_E isH_1 (by omega) | exact isH_R isH_1 | exact isH_K isH_1 | exact isH_R isH_31 | exact isH_K isH_31 | exact isH_E isH_31 (by omega)) rfl dX1_become_6 lkX1_9 ?_
  refine J_iconst 10 0 rfl dX1_become_9 ic_0 ?_
  refine J_bipush 12 8 rfl dX1_become_10 bc_8 ?_
  refine J_copy 15 rfl dX1_become_12 lkX1_40 (sa_X1_order (by first | assumption | exact isH_1 | exact isH_31 | exact isH_61 | exact isH_p (by omega) | exact isH_E (by assumption) (by omega) | exact isH_R (by assumption) | exact isH_K (by assumption) | exact isH_E isH_1 (by omega) | exact isH_R isH_1 | exact isH_K isH_1 | exact isH_R isH_31 | exact isH_K isH_31 | exact isH_E isH_31 (by omega))) (sa_X1_order (by first | assumption | exact isH_1 | exact isH_31 | exact isH_61 | exact isH_p (by omega) | exact isH_E (by assumption) (by omega) | exact isH_R (by assumption) | exact isH_K (by assumption) | exact isH_E isH_1 (by omega) | exact isH_R isH_1 | exact isH_K isH_1 | exact isH_R isH_31 | exact isH_K isH_31 | exact isH_E isH_31 (by omega))) (by omega) (by omega) (by exact Nat.le_of_ble_eq_true rfl) (by omega) ?_
  refine J_aload_n 16 rfl dX1_become_15 rfl ?_
  refine g_X1_oil 19 (by first | assumption | exact isH_1 | exact isH_31 | exact isH_61 | exact isH_p (by omega) | exact isH_E (by assumption) (by omega) | exact isH_R (by assumption) | exact isH_K (by assumption) | exact isH_E isH_1 (by omega) | exact isH_R isH_1 | exact isH_K isH_1 | exact isH_R isH_31 | exact isH_K isH_31 | exact isH_E isH_31 (by omega)) rfl dX1_become_16 lkX1_15 ?_
  refine J_iconst 20 0 rfl dX1_become_19 ic_0 ?_
  refine J_aload_n 21 rfl dX1_become_20 rfl ?_
  refine g_X1_oil 24 (by first | assumption | exact isH_1 | exact isH_31 | exact isH_61 | exact isH_p (by omega) | exact isH_E (by assumption) (by omega) | exact isH_R (by assumption) | exact isH_K (by assumption) | exact isH_E isH_1 (by omega) | exact isH_R isH_1 | exact isH_K isH_1 | exact isH_R isH_31 | exact isH_K isH_31 | exact isH_E isH_31 (by omega)) rfl dX1_become_21 lkX1_15 ?_
  refine J_iconst 25 0 rfl dX1_become_24 ic_0 ?_
  refine J_bipush 27 8 rfl dX1_become_25 bc_8 ?_
  refine J_copy 30 rfl dX1_become_27 lkX1_40 (sa_X1_oil (by first | assumption | exact isH_1 | exact isH_31 | exact isH_61 | exact isH_p (by omega) | exact isH_E (by assumption) (by omega) | exact isH_R (by assumption) | exact isH_K (by assumption) | exact isH_E isH_1 (by omega) | exact isH_R isH_1 | exact isH_K isH_1 | exact isH_R isH_31 | exact isH_K isH_31 | exact isH_E isH_31 (by omega))) (sa_X1_oil (by first | assumption | exact isH_1 | exact isH_31 | exact isH_61 | exact isH_p (by omega) | exact isH_E (by assumption) (by omega) | exact isH_R (by assumption) | exact isH_K (by assumption) | exact isH_E isH_1 (by omega) | exact isH_R isH_1 | exact isH_K isH_1 | exact isH_R isH_31 | exact isH_K isH_31 | exact isH_E isH_31 (by omega))) (by omega) (by omega) (by exact Nat.le_of_ble_eq_true rfl) (by omega) ?_
  refine J_aload_n 31 rfl dX1_become_30 rfl ?_
  refine g_X1_wear 34 (by first | assumption | exact isH_1 | exact isH_31 | exact isH_61 | exact isH_p (by omega) | exact isH_E (by assumption) (by omega) | exact isH_R (by assumption) | exact isH_K (by assumption) | exact isH_E isH_1 (by omega) | exact isH_R isH_1 | exact isH_K isH_1 | exact isH_R isH_31 | exact isH_K isH_31 | exact isH_E isH_31 (by omega)) rfl dX1_become_31 lkX1_18 ?_
  refine J_iconst 35 0 rfl dX1_become_34 ic_0 ?_
  refine J_aload_n 36 rfl dX1_become_35 rfl ?_
  refine g_X1_wear 39 (by first | assumption | exact isH_1 | exact isH_31 | exact isH_61 | exact isH_p (by omega) | exact isH_E (by assumption) (by omega) | exact isH_R (by assumption) | exact isH_K (by assumption) | exact isH_E isH_1 (by omega) | exact isH_R isH_1 | exact isH_K isH_1 | exact isH_R isH_31 | exact isH_K isH_31 | exact isH_E isH_31 (by omega)) rfl dX1_become_36 lkX1_18 ?_
  refine J_iconst 40 0 rfl dX1_become_39 ic_0 ?_
  refine J_bipush 42 8 rfl dX1_become_40 bc_8 ?_
  refine J_copy 45 rfl dX1_become_42 lkX1_40 (sa_X1_wear (by first | assumption | exact isH_1 | exact isH_31 | exact isH_61 | exact isH_p (by omega) | exact isH_E (by assumption) (by omega) | exact isH_R (by assumption) | exact isH_K (by assumption) | exact isH_E isH_1 (by omega) | exact isH_R isH_1 | exact isH_K isH_1 | exact isH_R isH_31 | exact isH_K isH_31 | exact isH_E isH_31 (by omega))) (sa_X1_wear (by first | assumption | exact isH_1 | exact isH_31 | exact isH_61 | exact isH_p (by omega) | exact isH_E (by assumption) (by omega) | exact isH_R (by assumption) | exact isH_K (by assumption) | exact isH_E isH_1 (by omega) | exact isH_R isH_1 | exact isH_K isH_1 | exact isH_R isH_31 | exact isH_K isH_31 | exact isH_E isH_31 (by omega))) (by omega) (by omega) (by exact Nat.le_of_ble_eq_true rfl) (by omega) ?_
  refine J_aload_n 46 rfl dX1_become_45 rfl ?_
  refine g_X1_knocks 49 (by first | assumption | exact isH_1 | exact isH_31 | exact isH_61 | exact isH_p (by omega) | exact isH_E (by assumption) (by omega) | exact isH_R (by assumption) | exact isH_K (by assumption) | exact isH_E isH_1 (by omega) | exact isH_R isH_1 | exact isH_K isH_1 | exact isH_R isH_31 | exact isH_K isH_31 | exact isH_E isH_31 (by omega)) rfl dX1_become_46 lkX1_21 ?_
  refine J_iconst 50 0 rfl dX1_become_49 ic_0 ?_
  refine J_aload_n 51 rfl dX1_become_50 rfl ?_
  refine g_X1_knocks 54 (by first | assumption | exact isH_1 | exact isH_31 | exact isH_61 | exact isH_p (by omega) | exact isH_E (by assumption) (by omega) | exact isH_R (by assumption) | exact isH_K (by assumption) | exact isH_E isH_1 (by omega) | exact isH_R isH_1 | exact isH_K isH_1 | exact isH_R isH_31 | exact isH_K isH_31 | exact isH_E isH_31 (by omega)) rfl dX1_become_51 lkX1_21 ?_
  refine J_iconst 55 0 rfl dX1_become_54 ic_0 ?_
  refine J_bipush 57 24 rfl dX1_become_55 bc_24 ?_
  refine J_copy 60 rfl dX1_become_57 lkX1_40 (sa_X1_knocks (by first | assumption | exact isH_1 | exact isH_31 | exact isH_61 | exact isH_p (by omega) | exact isH_E (by assumption) (by omega) | exact isH_R (by assumption) | exact isH_K (by assumption) | exact isH_E isH_1 (by omega) | exact isH_R isH_1 | exact isH_K isH_1 | exact isH_R isH_31 | exact isH_K isH_31 | exact isH_E isH_31 (by omega))) (sa_X1_knocks (by first | assumption | exact isH_1 | exact isH_31 | exact isH_61 | exact isH_p (by omega) | exact isH_E (by assumption) (by omega) | exact isH_R (by assumption) | exact isH_K (by assumption) | exact isH_E isH_1 (by omega) | exact isH_R isH_1 | exact isH_K isH_1 | exact isH_R isH_31 | exact isH_K isH_31 | exact isH_E isH_31 (by omega))) (by omega) (by omega) (by exact Nat.le_of_ble_eq_true rfl) (by omega) ?_
  refine J_aload_n 61 rfl dX1_become_60 rfl ?_
  refine J_aload_n 62 rfl dX1_become_61 rfl ?_
  refine g_X1_oldestKnock 65 (by first | assumption | exact isH_1 | exact isH_31 | exact isH_61 | exact isH_p (by omega) | exact isH_E (by assumption) (by omega) | exact isH_R (by assumption) | exact isH_K (by assumption) | exact isH_E isH_1 (by omega) | exact isH_R isH_1 | exact isH_K isH_1 | exact isH_R isH_31 | exact isH_K isH_31 | exact isH_E isH_31 (by omega)) rfl dX1_become_62 lkX1_34 ?_
  refine p_X1_oldestKnock 68 (by first | assumption | exact isH_1 | exact isH_31 | exact isH_61 | exact isH_p (by omega) | exact isH_E (by assumption) (by omega) | exact isH_R (by assumption) | exact isH_K (by assumption) | exact isH_E isH_1 (by omega) | exact isH_R isH_1 | exact isH_K isH_1 | exact isH_R isH_31 | exact isH_K isH_31 | exact isH_E isH_31 (by omega)) rfl dX1_become_65 lkX1_34 ?_
  refine J_aload_n 69 rfl dX1_become_68 rfl ?_
  refine J_aload_n 70 rfl dX1_become_69 rfl ?_
  refine g_X1_knocksKept 73 (by first | assumption | exact isH_1 | exact isH_31 | exact isH_61 | exact isH_p (by omega) | exact isH_E (by assumption) (by omega) | exact isH_R (by assumption) | exact isH_K (by assumption) | exact isH_E isH_1 (by omega) | exact isH_R isH_1 | exact isH_K isH_1 | exact isH_R isH_31 | exact isH_K isH_31 | exact isH_E isH_31 (by omega)) rfl dX1_become_70 lkX1_37 ?_
  refine p_X1_knocksKept 76 (by first | assumption | exact isH_1 | exact isH_31 | exact isH_61 | exact isH_p (by omega) | exact isH_E (by assumption) (by omega) | exact isH_R (by assumption) | exact isH_K (by assumption) | exact isH_E isH_1 (by omega) | exact isH_R isH_1 | exact isH_K isH_1 | exact isH_R isH_31 | exact isH_K isH_31 | exact isH_E isH_31 (by omega)) rfl dX1_become_73 lkX1_37 ?_
  refine J_aload_n 77 rfl dX1_become_76 rfl ?_
  refine J_aload_n 78 rfl dX1_become_77 rfl ?_
  refine g_X1_cylinders 81 (by first | assumption | exact isH_1 | exact isH_31 | exact isH_61 | exact isH_p (by omega) | exact isH_E (by assumption) (by omega) | exact isH_R (by assumption) | exact isH_K (by assumption) | exact isH_E isH_1 (by omega) | exact isH_R isH_1 | exact isH_K isH_1 | exact isH_R isH_31 | exact isH_K isH_31 | exact isH_E isH_31 (by omega)) rfl dX1_become_78 lkX1_24 ?_
  refine p_X1_cylinders 84 (by first | assumption | exact isH_1 | exact isH_31 | exact isH_61 | exact isH_p (by omega) | exact isH_E (by assumption) (by omega) | exact isH_R (by assumption) | exact isH_K (by assumption) | exact isH_E isH_1 (by omega) | exact isH_R isH_1 | exact isH_K isH_1 | exact isH_R isH_31 | exact isH_K isH_31 | exact isH_E isH_31 (by omega)) rfl dX1_become_81 lkX1_24 ?_
  refine J_aload_n 85 rfl dX1_become_84 rfl ?_
  refine J_aload_n 86 rfl dX1_become_85 rfl ?_
  refine g_X1_due 89 (by first | assumption | exact isH_1 | exact isH_31 | exact isH_61 | exact isH_p (by omega) | exact isH_E (by assumption) (by omega) | exact isH_R (by assumption) | exact isH_K (by assumption) | exact isH_E isH_1 (by omega) | exact isH_R isH_1 | exact isH_K isH_1 | exact isH_R isH_31 | exact isH_K isH_31 | exact isH_E isH_31 (by omega)) rfl dX1_become_86 lkX1_28 ?_
  refine p_X1_due 92 (by first | assumption | exact isH_1 | exact isH_31 | exact isH_61 | exact isH_p (by omega) | exact isH_E (by assumption) (by omega) | exact isH_R (by assumption) | exact isH_K (by assumption) | exact isH_E isH_1 (by omega) | exact isH_R isH_1 | exact isH_K isH_1 | exact isH_R isH_31 | exact isH_K isH_31 | exact isH_E isH_31 (by omega)) rfl dX1_become_89 lkX1_28 ?_
  refine J_aload_n 93 rfl dX1_become_92 rfl ?_
  refine J_aload_n 94 rfl dX1_become_93 rfl ?_
  refine g_X1_rate 97 (by first | assumption | exact isH_1 | exact isH_31 | exact isH_61 | exact isH_p (by omega) | exact isH_E (by assumption) (by omega) | exact isH_R (by assumption) | exact isH_K (by assumption) | exact isH_E isH_1 (by omega) | exact isH_R isH_1 | exact isH_K isH_1 | exact isH_R isH_31 | exact isH_K isH_31 | exact isH_E isH_31 (by omega)) rfl dX1_become_94 lkX1_31 ?_
  refine p_X1_rate 100 (by first | assumption | exact isH_1 | exact isH_31 | exact isH_61 | exact isH_p (by omega) | exact isH_E (by assumption) (by omega) | exact isH_R (by assumption) | exact isH_K (by assumption) | exact isH_E isH_1 (by omega) | exact isH_R isH_1 | exact isH_K isH_1 | exact isH_R isH_31 | exact isH_K isH_31 | exact isH_E isH_31 (by omega)) rfl dX1_become_97 lkX1_31 ?_
  refine J_vret rfl dX1_become_100 ?_
  refine ⟨rfl, (((((((((Fr.refl.cp (by omega)).cp (by omega)).cp (by omega)).cp (by omega)).up (by omega)).up (by omega)).up (by omega)).up (by omega)).up (by omega)), ?_, ?_, ?_⟩
  · intro i h1 h2
    have q : i = 4 ∨ i = 5 ∨ i = 6 ∨ i = 7 ∨ i = 8 := by omega
    rcases q with rfl | rfl | rfl | rfl | rfl <;> simp [up2_app, cp2_app, show ¬ k = b by omega, show ¬ k = b + 1 by omega, show ¬ k = b + 2 by omega, show ¬ k = b + 3 by omega, show ¬ k = b + 4 by omega]
  · intro i hi
    refine ⟨?_, ?_, ?_⟩ <;> simp [up2_app, cp2_app, hi, show ¬ k = b by omega, show ¬ k + 2 = b + 1 by omega, show ¬ k + 3 = b + 1 by omega, show ¬ k + 3 = b + 2 by omega, show ¬ b + 1 = b by omega]
  · intro i hi
    simp [up2_app, cp2_app, hi, show ¬ k + 4 = b + 1 by omega, show ¬ k + 4 = b + 2 by omega, show ¬ k + 4 = b + 3 by omega]

theorem S_X1_renew {g : Gn} {J : DJ} {b : Nat} (hb : isE b) (h8 : J b 6 ≤ 8) : SJ g mX1_renew 0 0 0 [.ref (g.2 b)] J (Rq (fun J2 => Fr (b + 3) 1 J J2 ∧ ∀ c, c < J b 6 → J2 (b + 3) c = 0)) NoX := by
  refine SJ_of_VJ (by decide +kernel) (Nat.le_of_ble_eq_true rfl) ?_
  show VJ g mX1_renew 0 0 0 _ _ 0 [(0, .ref (g.2 b))] [] J
  have loop : ∀ (n9 : Nat) (i : Nat) (J1 : DJ), J b 6 - i = n9 → i ≤ J b 6 → Fr (b + 3) 1 J J1 → (∀ c, c < i → J1 (b + 3) c = 0) → VJ g mX1_renew 0 0 0 (Rq (fun J2 => Fr (b + 3) 1 J J2 ∧ ∀ c, c < J b 6 → J2 (b + 3) c = 0)) NoX 2 [(0, .ref (g.2 b)), (1, .int (nI (i)))] [] J1 := by
    intro n9
    induction n9 using Nat.strongRecOn with
    | ind n9 ih =>
    intro i J1 hi hle hf hr
    have e6 : J1 b 6 = J b 6 := by rw [hf b (by omega)]
    refine J_iload_n 3 rfl dX1_renew_2 rfl ?_
    refine J_aload_n 4 rfl dX1_renew_3 rfl ?_
    refine g_X1_cylinders 7 (by first | assumption | exact isH_1 | exact isH_31 | exact isH_61 | exact isH_p (by omega) | exact isH_E (by assumption) (by omega) | exact isH_R (by assumption) | exact isH_K (by assumption) | exact isH_E isH_1 (by omega) | exact isH_R isH_1 | exact isH_K isH_1 | exact isH_R isH_31 | exact isH_K isH_31 | exact isH_E isH_31 (by omega)) rfl dX1_renew_4 lkX1_24 ?_
    refine J_icmp_ge 23 10 (by decide) rfl dX1_renew_7 (by omega) (by omega) (fun c7 => ?_) (fun c7 => ?_)
    · refine J_vret rfl dX1_renew_23 ?_
      have e : i = J b 6 := by omega
      subst e
      exact ⟨rfl, hf, hr⟩
    · refine J_aload_n 11 rfl dX1_renew_10 rfl ?_
      refine g_X1_wear 14 (by first | assumption | exact isH_1 | exact isH_31 | exact isH_61 | exact isH_p (by omega) | exact isH_E (by assumption) (by omega) | exact isH_R (by assumption) | exact isH_K (by assumption) | exact isH_E isH_1 (by omega) | exact isH_R isH_1 | exact isH_K isH_1 | exact isH_R isH_31 | exact isH_K isH_31 | exact isH_E isH_31 (by omega)) rfl dX1_renew_11 lkX1_18 ?_
      refine J_iload_n 15 rfl dX1_renew_14 rfl ?_
      refine J_iconst 16 0 rfl dX1_renew_15 ic_0 ?_
      refine J_iast 17 rfl dX1_renew_16 (sa_X1_wear (by first | assumption | exact isH_1 | exact isH_31 | exact isH_61 | exact isH_p (by omega) | exact isH_E (by assumption) (by omega) | exact isH_R (by assumption) | exact isH_K (by assumption) | exact isH_E isH_1 (by omega) | exact isH_R isH_1 | exact isH_K isH_1 | exact isH_R isH_31 | exact isH_K isH_31 | exact isH_E isH_31 (by omega))) (by omega) ?_
      refine J_iinc 20 1 rfl dX1_renew_17 ic_1 rfl (Nat.le_of_ble_eq_true rfl) ?_
      refine J_goto 2 (by decide) dX1_renew_20 ?_
      refine ih _ (by omega) (i + 1) _ rfl (by omega) (hf.up (by omega)) ?_
      intro c hc
      have q := hr c
      rw [up2_app]
      by_cases e : c = i
      · subst e; simp
      · have q := q (by omega)
        simp [e, q]
  refine J_iconst 1 0 rfl dX1_renew_0 ic_0 ?_
  refine J_istore_n 2 rfl dX1_renew_1 rfl (Nat.le_of_ble_eq_true rfl) ?_
  exact loop _ 0 _ rfl (Nat.zero_le _) Fr.refl (fun c hc => absurd hc (by omega))

def knk (J : DJ) (b i : Nat) : Nat := J (b + 4) ((J b 4 + i) % 24)
def repP (w : Nat → Nat) (n p : Nat) : Prop := ∀ i, p ≤ i → i < n → w i = w (i - p)
def perP (w : Nat → Nat) (n r : Nat) : Prop := 1 ≤ r ∧ r ≤ n ∧ repP w n r ∧ ∀ t, 1 ≤ t → t < r → ¬ repP w n t
theorem S_X1_repeatsAfter {g : Gn} {J : DJ} {b p : Nat} (hb : isE b) (h4 : J b 4 < 24) (h5 : J b 5 ≤ 24) (hw : ∀ i, i < J b 5 → knk J b i < 1000) (hp : 1 ≤ p) (hp2 : p < 1000) [hdp : Decidable (repP (knk J b) (J b 5) p)] : SJ g mX1_repeatsAfter 1 0 0 [.ref (g.2 b), .int (nI (p))] J (Ri (bt (repP (knk J b) (J b 5) p)) J) NoX := by
  refine SJ_of_VJ (by decide +kernel) (Nat.le_of_ble_eq_true rfl) ?_
  show VJ g mX1_repeatsAfter 1 0 0 _ _ 0 [(0, .ref (g.2 b)), (1, .int (nI (p)))] [] J
  have loop : ∀ (n9 : Nat) (i : Nat), J b 5 - i = n9 → p ≤ i → i < 1000 → (∀ a, p ≤ a → a < i → a < J b 5 → knk J b a = knk J b (a - p)) → VJ g mX1_repeatsAfter 1 0 0 (Ri (bt (repP (knk J b) (J b 5) p)) J) NoX 2 [(0, .ref (g.2 b)), (1, .int (nI (p))), (2, .int (nI (i)))] [] J := by
    intro n9
    induction n9 using Nat.strongRecOn with
    | ind n9 ih =>
    intro i hi hle h10 hm
    refine J_iload_n 3 rfl dX1_repeatsAfter_2 rfl ?_
    refine J_aload_n 4 rfl dX1_repeatsAfter_3 rfl ?_
    refine g_X1_knocksKept 7 (by first | assumption | exact isH_1 | exact isH_31 | exact isH_61 | exact isH_p (by omega) | exact isH_E (by assumption) (by omega) | exact isH_R (by assumption) | exact isH_K (by assumption) | exact isH_E isH_1 (by omega) | exact isH_R isH_1 | exact isH_K isH_1 | exact isH_R isH_31 | exact isH_K isH_31 | exact isH_E isH_31 (by omega)) rfl dX1_repeatsAfter_4 lkX1_37 ?_
    refine J_icmp_ge 33 10 (by decide) rfl dX1_repeatsAfter_7 (by omega) (by omega) (fun c7 => ?_) (fun c7 => ?_)
    · refine J_iconst 34 1 rfl dX1_repeatsAfter_33 ic_1 ?_
      refine J_zret1 rfl dX1_repeatsAfter_34 ?_
      refine ⟨?_, rfl⟩
      rw [bt_t]
      intro a h1 h2
      exact hm a h1 (by omega) h2
    · refine J_aload_n 11 rfl dX1_repeatsAfter_10 rfl ?_
      refine J_iload_n 12 rfl dX1_repeatsAfter_11 rfl ?_
      refine J_callVi (As := [_]) 15 _ rfl kalX1_keptKnock lkX1_78 dX1_repeatsAfter_12 (lt_X1 (by first | assumption | exact isH_1 | exact isH_31 | exact isH_61 | exact isH_p (by omega) | exact isH_E (by assumption) (by omega) | exact isH_R (by assumption) | exact isH_K (by assumption) | exact isH_E isH_1 (by omega) | exact isH_R isH_1 | exact isH_K isH_1 | exact isH_R isH_31 | exact isH_K isH_31 | exact isH_E isH_31 (by omega))) (so_X1 (by first | assumption | exact isH_1 | exact isH_31 | exact isH_61 | exact isH_p (by omega) | exact isH_E (by assumption) (by omega) | exact isH_R (by assumption) | exact isH_K (by assumption) | exact isH_E isH_1 (by omega) | exact isH_R isH_1 | exact isH_K isH_1 | exact isH_R isH_31 | exact isH_K isH_31 | exact isH_E isH_31 (by omega))) rfl rfl rfl (by exact Nat.le_of_ble_eq_true rfl) (by omega) (S_X1_keptKnock hb h4 (by omega)) ?_
      refine J_aload_n 16 rfl dX1_repeatsAfter_15 rfl ?_
      refine J_iload_n 17 rfl dX1_repeatsAfter_16 rfl ?_
      refine J_iload_n 18 rfl dX1_repeatsAfter_17 rfl ?_
      refine J_isub 19 rfl dX1_repeatsAfter_18 (by omega) ?_
      refine J_callVi (As := [_]) 22 _ rfl kalX1_keptKnock lkX1_78 dX1_repeatsAfter_19 (lt_X1 (by first | assumption | exact isH_1 | exact isH_31 | exact isH_61 | exact isH_p (by omega) | exact isH_E (by assumption) (by omega) | exact isH_R (by assumption) | exact isH_K (by assumption) | exact isH_E isH_1 (by omega) | exact isH_R isH_1 | exact isH_K isH_1 | exact isH_R isH_31 | exact isH_K isH_31 | exact isH_E isH_31 (by omega))) (so_X1 (by first | assumption | exact isH_1 | exact isH_31 | exact isH_61 | exact isH_p (by omega) | exact isH_E (by assumption) (by omega) | exact isH_R (by assumption) | exact isH_K (by assumption) | exact isH_E isH_1 (by omega) | exact isH_R isH_1 | exact isH_K isH_1 | exact isH_R isH_31 | exact isH_K isH_31 | exact isH_E isH_31 (by omega))) rfl rfl rfl (by exact Nat.le_of_ble_eq_true rfl) (by omega) (S_X1_keptKnock hb h4 (by omega)) ?_
      refine J_icmp_eq 27 25 (by decide) rfl dX1_repeatsAfter_22 (Nat.lt_trans (hw i (by omega)) (by omega)) (Nat.lt_trans (hw (i - p) (by omega)) (by omega)) (fun c22 => ?_) (fun c22 => ?_)
      · refine J_iinc 30 1 rfl dX1_repeatsAfter_27 ic_1 rfl (Nat.le_of_ble_eq_true rfl) ?_
        refine J_goto 2 (by decide) dX1_repeatsAfter_30 ?_
        refine ih _ (by omega) (i + 1) rfl (by omega) (by omega) ?_
        intro a h1 h2 h3
        by_cases e : a = i
        · subst e; assumption
        · exact hm a h1 (by omega) h3
      · refine J_iconst 26 0 rfl dX1_repeatsAfter_25 ic_0 ?_
        refine J_zret0 rfl dX1_repeatsAfter_26 ?_
        refine ⟨?_, rfl⟩
        rw [bt_f]
        intro q
        exact absurd (q i (by omega) (by omega)) (by assumption)
  refine J_iload_n 1 rfl dX1_repeatsAfter_0 rfl ?_
  refine J_istore_n 2 rfl dX1_repeatsAfter_1 rfl (Nat.le_of_ble_eq_true rfl) ?_
  exact loop _ p rfl (Nat.le_refl _) hp2 (fun a q1 q2 => absurd q2 (by omega))

theorem S_X1_periodByTrials {g : Gn} {J : DJ} {b : Nat} (hb : isE b) (h4 : J b 4 < 24) (h5 : J b 5 ≤ 24) (hw : ∀ i, i < J b 5 → knk J b i < 1000) (h1 : 1 ≤ J b 5) : SJ g mX1_periodByTrials 2 0 0 [.ref (g.2 b)] J (Rn (perP (knk J b) (J b 5)) J) NoX := by
  refine SJ_of_VJ (by decide +kernel) (Nat.le_of_ble_eq_true rfl) ?_
  show VJ g mX1_periodByTrials 2 0 0 _ _ 0 [(0, .ref (g.2 b))] [] J
  have loop : ∀ (n9 : Nat) (t : Nat), J b 5 - t = n9 → 1 ≤ t → t ≤ J b 5 → (∀ s, 1 ≤ s → s < t → ¬ repP (knk J b) (J b 5) s) → VJ g mX1_periodByTrials 2 0 0 (Rn (perP (knk J b) (J b 5)) J) NoX 2 [(0, .ref (g.2 b)), (1, .int (nI (t)))] [] J := by
    intro n9
    induction n9 using Nat.strongRecOn with
    | ind n9 ih =>
    intro t hi h1t ht hm
    refine J_iload_n 3 rfl dX1_periodByTrials_2 rfl ?_
    refine J_aload_n 4 rfl dX1_periodByTrials_3 rfl ?_
    refine g_X1_knocksKept 7 (by first | assumption | exact isH_1 | exact isH_31 | exact isH_61 | exact isH_p (by omega) | exact isH_E (by assumption) (by omega) | exact isH_R (by assumption) | exact isH_K (by assumption) | exact isH_E isH_1 (by omega) | exact isH_R isH_1 | exact isH_K isH_1 | exact isH_R isH_31 | exact isH_K isH_31 | exact isH_E isH_31 (by omega)) rfl dX1_periodByTrials_4 lkX1_37 ?_
    refine J_icmp_ge 26 10 (by decide) rfl dX1_periodByTrials_7 (by omega) (by omega) (fun c7 => ?_) (fun c7 => ?_)
    · refine J_aload_n 27 rfl dX1_periodByTrials_26 rfl ?_
      refine g_X1_knocksKept 30 (by first | assumption | exact isH_1 | exact isH_31 | exact isH_61 | exact isH_p (by omega) | exact isH_E (by assumption) (by omega) | exact isH_R (by assumption) | exact isH_K (by assumption) | exact isH_E isH_1 (by omega) | exact isH_R isH_1 | exact isH_K isH_1 | exact isH_R isH_31 | exact isH_K isH_31 | exact isH_E isH_31 (by omega)) rfl dX1_periodByTrials_27 lkX1_37 ?_
      refine J_iret rfl dX1_periodByTrials_30 ?_
      have e : t = J b 5 := by omega
      subst e
      exact ⟨_, rfl, ⟨h1t, ht, fun i q1 q2 => absurd q2 (by omega), hm⟩, rfl⟩
    · refine J_aload_n 11 rfl dX1_periodByTrials_10 rfl ?_
      refine J_iload_n 12 rfl dX1_periodByTrials_11 rfl ?_
      refine J_callVi (As := [_]) 15 _ rfl kalX1_repeatsAfter lkX1_81 dX1_periodByTrials_12 (lt_X1 (by first | assumption | exact isH_1 | exact isH_31 | exact isH_61 | exact isH_p (by omega) | exact isH_E (by assumption) (by omega) | exact isH_R (by assumption) | exact isH_K (by assumption) | exact isH_E isH_1 (by omega) | exact isH_R isH_1 | exact isH_K isH_1 | exact isH_R isH_31 | exact isH_K isH_31 | exact isH_E isH_31 (by omega))) (so_X1 (by first | assumption | exact isH_1 | exact isH_31 | exact isH_61 | exact isH_p (by omega) | exact isH_E (by assumption) (by omega) | exact isH_R (by assumption) | exact isH_K (by assumption) | exact isH_E isH_1 (by omega) | exact isH_R isH_1 | exact isH_K isH_1 | exact isH_R isH_31 | exact isH_K isH_31 | exact isH_E isH_31 (by omega))) rfl rfl rfl (by exact Nat.le_of_ble_eq_true rfl) (by omega) (S_X1_repeatsAfter (hdp := Classical.propDecidable _) hb h4 h5 hw (by omega) (by omega)) ?_
      refine J_ifb_eq (hdp := _) 20 18 (by decide) rfl dX1_periodByTrials_15 (fun c15 => ?_) (fun c15 => ?_)
      · refine J_iinc 23 1 rfl dX1_periodByTrials_20 ic_1 rfl (Nat.le_of_ble_eq_true rfl) ?_
        refine J_goto 2 (by decide) dX1_periodByTrials_23 ?_
        exact ih _ (by omega) (t + 1) rfl (by omega) (by omega) (fun s q1 q2 => (Nat.lt_or_eq_of_le (Nat.le_of_lt_succ q2)).elim (fun q => hm s q1 q) (fun e => by rw [e]; assumption))
      · refine J_iload_n 19 rfl dX1_periodByTrials_18 rfl ?_
        refine J_iret rfl dX1_periodByTrials_19 ?_
        exact ⟨t, rfl, ⟨h1t, ht, by assumption, hm⟩, rfl⟩
  refine J_iconst 1 1 rfl dX1_periodByTrials_0 ic_1 ?_
  refine J_istore_n 2 rfl dX1_periodByTrials_1 rfl (Nat.le_of_ble_eq_true rfl) ?_
  exact loop _ 1 rfl (by omega) h1 (fun s q1 q2 => absurd q2 (by omega))

