/-! A HOUSE BECOMES ANOTHER; THE PAST (laid by wip/whole/src/p37.py) -/
theorem CE_copy {J J2 : DJ} {k c o : Nat} {f : Nat → Nat} (h : CE J c f o) (h8 : f o ≤ 8) (q1 : ∀ i, 4 ≤ i → i ≤ 8 → J2 k i = J c i) (q2 : ∀ i, i < 8 → J2 (k + 1) i = J (c + 1) i ∧ J2 (k + 2) i = J (c + 2) i ∧ J2 (k + 3) i = J (c + 3) i) (q3 : ∀ i, i < 24 → J2 (k + 4) i = J (c + 4) i) : CE J2 k f o := by
  obtain ⟨a0, a1, a2, a3, a4, a5, a6⟩ := h
  unfold CE
  rw [q1 6 (by omega) (by omega), q1 7 (by omega) (by omega), q1 8 (by omega) (by omega), q1 5 (by omega) (by omega), q1 4 (by omega) (by omega)]
  refine ⟨a0, a1, a2, a3, a4, fun d hd => ?_, fun i hi => ?_⟩
  · rw [(q2 d (by omega)).1, (q2 d (by omega)).2.1, (q2 d (by omega)).2.2]
    exact a5 d hd
  · rw [q3 _ (Nat.mod_lt _ (by omega))]
    exact a6 i hi
theorem S_X3_become {g : Gn} {J : DJ} {b k B B0 : Nat} {f : Nat → Nat} (hb : isH b) (hk : isH k) (hne : b + 30 ≤ k ∨ k + 30 ≤ b) (h : CP J k f B0) (hw : WF f B) : SJ g mX3_become 2 0 0 [.ref (g.2 b), .ref (g.2 k)] J (Rq (fun J2 => Fr b 30 J J2 ∧ CP J2 b f B0)) NoX := by
  have h0 := hw.1
  have s0 := h.1.1.1
  have ho := hw.2.2.2.2.2.1
  have e3 := hw.2.2.2.2.1.1
  have e6 := hw.2.2.2.1.1
  refine SJ_of_VJ (by decide +kernel) (Nat.le_of_ble_eq_true rfl) ?_
  show VJ g mX3_become 2 0 0 _ _ 0 [(0, .ref (g.2 b)), (1, .ref (g.2 k))] [] J
  have loop : ∀ (n9 : Nat) (i : Nat) (J1 : DJ), f 0 - i = n9 → i ≤ f 0 → Fr (b + 10) 20 J J1 → (∀ a, a < i → CE J1 (b + 10 + 5 * a) f (7 + 52 * a)) → VJ g mX3_become 2 0 0 (Rq (fun J2 => Fr b 30 J J2 ∧ CP J2 b f B0)) NoX 2 [(0, .ref (g.2 b)), (1, .ref (g.2 k)), (2, .int (nI (i)))] [] J1 := by
    intro n9
    induction n9 using Nat.strongRecOn with
    | ind n9 ih =>
    intro i J1 hi hle f1 hce
    refine J_iload_n 3 rfl dX3_become_2 rfl ?_
    refine J_aload_n 4 rfl dX3_become_3 rfl ?_
    refine g_X3_engineCount 7 (by first | assumption | exact isH_1 | exact isH_31 | exact isH_61 | exact isH_p (by omega) | exact isH_E (by assumption) (by omega) | exact isH_R (by assumption) | exact isH_K (by assumption) | exact isH_E isH_1 (by omega) | exact isH_R isH_1 | exact isH_K isH_1 | exact isH_R isH_31 | exact isH_K isH_31 | exact isH_E isH_31 (by omega)) rfl dX3_become_4 lkX3_43 ?_
    refine J_cv (b := f 0) (by rw [f1 k (by omega)]; exact s0) ?_
    refine J_icmp_ge 31 10 (by decide) rfl dX3_become_7 (by omega) (by omega) (fun c7 => ?_) (fun c7 => ?_)
    · refine J_aload_n 32 rfl dX3_become_31 rfl ?_
      refine g_X3_vigilsOf 35 (by first | assumption | exact isH_1 | exact isH_31 | exact isH_61 | exact isH_p (by omega) | exact isH_E (by assumption) (by omega) | exact isH_R (by assumption) | exact isH_K (by assumption) | exact isH_E isH_1 (by omega) | exact isH_R isH_1 | exact isH_K isH_1 | exact isH_R isH_31 | exact isH_K isH_31 | exact isH_E isH_31 (by omega)) rfl dX3_become_32 lkX3_17 ?_
      refine J_iconst 36 0 rfl dX3_become_35 ic_0 ?_
      refine J_aload_n 37 rfl dX3_become_36 rfl ?_
      refine g_X3_vigilsOf 40 (by first | assumption | exact isH_1 | exact isH_31 | exact isH_61 | exact isH_p (by omega) | exact isH_E (by assumption) (by omega) | exact isH_R (by assumption) | exact isH_K (by assumption) | exact isH_E isH_1 (by omega) | exact isH_R isH_1 | exact isH_K isH_1 | exact isH_R isH_31 | exact isH_K isH_31 | exact isH_E isH_31 (by omega)) rfl dX3_become_37 lkX3_17 ?_
      refine J_iconst 41 0 rfl dX3_become_40 ic_0 ?_
      refine J_bipush 43 6 rfl dX3_become_41 bc_6 ?_
      refine J_copy 46 rfl dX3_become_43 lkX3_50 (sa_X3_vigilsOf (by first | assumption | exact isH_1 | exact isH_31 | exact isH_61 | exact isH_p (by omega) | exact isH_E (by assumption) (by omega) | exact isH_R (by assumption) | exact isH_K (by assumption) | exact isH_E isH_1 (by omega) | exact isH_R isH_1 | exact isH_K isH_1 | exact isH_R isH_31 | exact isH_K isH_31 | exact isH_E isH_31 (by omega))) (sa_X3_vigilsOf (by first | assumption | exact isH_1 | exact isH_31 | exact isH_61 | exact isH_p (by omega) | exact isH_E (by assumption) (by omega) | exact isH_R (by assumption) | exact isH_K (by assumption) | exact isH_E isH_1 (by omega) | exact isH_R isH_1 | exact isH_K isH_1 | exact isH_R isH_31 | exact isH_K isH_31 | exact isH_E isH_31 (by omega))) (by omega) (by omega) (by exact Nat.le_of_ble_eq_true rfl) (by omega) ?_
      refine J_aload_n 47 rfl dX3_become_46 rfl ?_
      refine g_X3_repairs 50 (by first | assumption | exact isH_1 | exact isH_31 | exact isH_61 | exact isH_p (by omega) | exact isH_E (by assumption) (by omega) | exact isH_R (by assumption) | exact isH_K (by assumption) | exact isH_E isH_1 (by omega) | exact isH_R isH_1 | exact isH_K isH_1 | exact isH_R isH_31 | exact isH_K isH_31 | exact isH_E isH_31 (by omega)) rfl dX3_become_47 lkX3_24 ?_
      refine J_aload_n 51 rfl dX3_become_50 rfl ?_
      refine g_X3_repairs 54 (by first | assumption | exact isH_1 | exact isH_31 | exact isH_61 | exact isH_p (by omega) | exact isH_E (by assumption) (by omega) | exact isH_R (by assumption) | exact isH_K (by assumption) | exact isH_E isH_1 (by omega) | exact isH_R isH_1 | exact isH_K isH_1 | exact isH_R isH_31 | exact isH_K isH_31 | exact isH_E isH_31 (by omega)) rfl dX3_become_51 lkX3_24 ?_
      refine J_callVvp (As := [_]) 57 _ rfl kalX8_become lkX3_56 dX3_become_54 (lt_X8 (by first | assumption | exact isH_1 | exact isH_31 | exact isH_61 | exact isH_p (by omega) | exact isH_E (by assumption) (by omega) | exact isH_R (by assumption) | exact isH_K (by assumption) | exact isH_E isH_1 (by omega) | exact isH_R isH_1 | exact isH_K isH_1 | exact isH_R isH_31 | exact isH_K isH_31 | exact isH_E isH_31 (by omega))) (so_X8 (by first | assumption | exact isH_1 | exact isH_31 | exact isH_61 | exact isH_p (by omega) | exact isH_E (by assumption) (by omega) | exact isH_R (by assumption) | exact isH_K (by assumption) | exact isH_E isH_1 (by omega) | exact isH_R isH_1 | exact isH_K isH_1 | exact isH_R isH_31 | exact isH_K isH_31 | exact isH_E isH_31 (by omega))) rfl rfl rfl (by exact Nat.le_of_ble_eq_true rfl) (by omega) (S_X8_become (isH_R hb) (isH_R hk) (by omega)) (fun J54 q54 => ?_)
      refine J_aload_n 58 rfl dX3_become_57 rfl ?_
      refine g_X3_knockBook 61 (by first | assumption | exact isH_1 | exact isH_31 | exact isH_61 | exact isH_p (by omega) | exact isH_E (by assumption) (by omega) | exact isH_R (by assumption) | exact isH_K (by assumption) | exact isH_E isH_1 (by omega) | exact isH_R isH_1 | exact isH_K isH_1 | exact isH_R isH_31 | exact isH_K isH_31 | exact isH_E isH_31 (by omega)) rfl dX3_become_58 lkX3_31 ?_
      refine J_aload_n 62 rfl dX3_become_61 rfl ?_
      refine g_X3_knockBook 65 (by first | assumption | exact isH_1 | exact isH_31 | exact isH_61 | exact isH_p (by omega) | exact isH_E (by assumption) (by omega) | exact isH_R (by assumption) | exact isH_K (by assumption) | exact isH_E isH_1 (by omega) | exact isH_R isH_1 | exact isH_K isH_1 | exact isH_R isH_31 | exact isH_K isH_31 | exact isH_E isH_31 (by omega)) rfl dX3_become_62 lkX3_31 ?_
      refine J_callVvp (As := [_]) 68 _ rfl kalX4_become lkX3_59 dX3_become_65 (lt_X4 (by first | assumption | exact isH_1 | exact isH_31 | exact isH_61 | exact isH_p (by omega) | exact isH_E (by assumption) (by omega) | exact isH_R (by assumption) | exact isH_K (by assumption) | exact isH_E isH_1 (by omega) | exact isH_R isH_1 | exact isH_K isH_1 | exact isH_R isH_31 | exact isH_K isH_31 | exact isH_E isH_31 (by omega))) (so_X4 (by first | assumption | exact isH_1 | exact isH_31 | exact isH_61 | exact isH_p (by omega) | exact isH_E (by assumption) (by omega) | exact isH_R (by assumption) | exact isH_K (by assumption) | exact isH_E isH_1 (by omega) | exact isH_R isH_1 | exact isH_K isH_1 | exact isH_R isH_31 | exact isH_K isH_31 | exact isH_E isH_31 (by omega))) rfl rfl rfl (by exact Nat.le_of_ble_eq_true rfl) (by omega) (S_X4_become (isH_K hb) (isH_K hk) (by omega)) (fun J65 q65 => ?_)
      have kk : J65 k = J k := by rw [q65.1 k (by omega), q54.1 k (by omega), cp2_ne (by omega), f1 k (by omega)]
      refine J_aload_n 69 rfl dX3_become_68 rfl ?_
      refine J_aload_n 70 rfl dX3_become_69 rfl ?_
      refine g_X3_engineCount 73 (by first | assumption | exact isH_1 | exact isH_31 | exact isH_61 | exact isH_p (by omega) | exact isH_E (by assumption) (by omega) | exact isH_R (by assumption) | exact isH_K (by assumption) | exact isH_E isH_1 (by omega) | exact isH_R isH_1 | exact isH_K isH_1 | exact isH_R isH_31 | exact isH_K isH_31 | exact isH_E isH_31 (by omega)) rfl dX3_become_70 lkX3_43 ?_
      refine J_cv (b := J k 4) (by rw [kk]) ?_
      refine p_X3_engineCount 76 (by first | assumption | exact isH_1 | exact isH_31 | exact isH_61 | exact isH_p (by omega) | exact isH_E (by assumption) (by omega) | exact isH_R (by assumption) | exact isH_K (by assumption) | exact isH_E isH_1 (by omega) | exact isH_R isH_1 | exact isH_K isH_1 | exact isH_R isH_31 | exact isH_K isH_31 | exact isH_E isH_31 (by omega)) rfl dX3_become_73 lkX3_43 ?_
      refine J_aload_n 77 rfl dX3_become_76 rfl ?_
      refine J_aload_n 78 rfl dX3_become_77 rfl ?_
      refine g_X3_monkCount 81 (by first | assumption | exact isH_1 | exact isH_31 | exact isH_61 | exact isH_p (by omega) | exact isH_E (by assumption) (by omega) | exact isH_R (by assumption) | exact isH_K (by assumption) | exact isH_E isH_1 (by omega) | exact isH_R isH_1 | exact isH_K isH_1 | exact isH_R isH_31 | exact isH_K isH_31 | exact isH_E isH_31 (by omega)) rfl dX3_become_78 lkX3_62 ?_
      refine J_cv (b := J k 5) (by rw [up2_ne (show k ≠ b by omega), kk]) ?_
      refine p_X3_monkCount 84 (by first | assumption | exact isH_1 | exact isH_31 | exact isH_61 | exact isH_p (by omega) | exact isH_E (by assumption) (by omega) | exact isH_R (by assumption) | exact isH_K (by assumption) | exact isH_E isH_1 (by omega) | exact isH_R isH_1 | exact isH_K isH_1 | exact isH_R isH_31 | exact isH_K isH_31 | exact isH_E isH_31 (by omega)) rfl dX3_become_81 lkX3_62 ?_
      refine J_aload_n 85 rfl dX3_become_84 rfl ?_
      refine J_aload_n 86 rfl dX3_become_85 rfl ?_
      refine g_X3_store 89 (by first | assumption | exact isH_1 | exact isH_31 | exact isH_61 | exact isH_p (by omega) | exact isH_E (by assumption) (by omega) | exact isH_R (by assumption) | exact isH_K (by assumption) | exact isH_E isH_1 (by omega) | exact isH_R isH_1 | exact isH_K isH_1 | exact isH_R isH_31 | exact isH_K isH_31 | exact isH_E isH_31 (by omega)) rfl dX3_become_86 lkX3_35 ?_
      refine J_cv (b := J k 6) (by rw [up2_ne (show k ≠ b by omega), up2_ne (show k ≠ b by omega), kk]) ?_
      refine p_X3_store 92 (by first | assumption | exact isH_1 | exact isH_31 | exact isH_61 | exact isH_p (by omega) | exact isH_E (by assumption) (by omega) | exact isH_R (by assumption) | exact isH_K (by assumption) | exact isH_E isH_1 (by omega) | exact isH_R isH_1 | exact isH_K isH_1 | exact isH_R isH_31 | exact isH_K isH_31 | exact isH_E isH_31 (by omega)) rfl dX3_become_89 lkX3_35 ?_
      refine J_aload_n 93 rfl dX3_become_92 rfl ?_
      refine J_aload_n 94 rfl dX3_become_93 rfl ?_
      refine g_X3_initialOil 97 (by first | assumption | exact isH_1 | exact isH_31 | exact isH_61 | exact isH_p (by omega) | exact isH_E (by assumption) (by omega) | exact isH_R (by assumption) | exact isH_K (by assumption) | exact isH_E isH_1 (by omega) | exact isH_R isH_1 | exact isH_K isH_1 | exact isH_R isH_31 | exact isH_K isH_31 | exact isH_E isH_31 (by omega)) rfl dX3_become_94 lkX3_39 ?_
      refine J_cv (b := J k 7) (by rw [up2_ne (show k ≠ b by omega), up2_ne (show k ≠ b by omega), up2_ne (show k ≠ b by omega), kk]) ?_
      refine p_X3_initialOil 100 (by first | assumption | exact isH_1 | exact isH_31 | exact isH_61 | exact isH_p (by omega) | exact isH_E (by assumption) (by omega) | exact isH_R (by assumption) | exact isH_K (by assumption) | exact isH_E isH_1 (by omega) | exact isH_R isH_1 | exact isH_K isH_1 | exact isH_R isH_31 | exact isH_K isH_31 | exact isH_E isH_31 (by omega)) rfl dX3_become_97 lkX3_39 ?_
      refine J_aload_n 101 rfl dX3_become_100 rfl ?_
      refine J_aload_n 102 rfl dX3_become_101 rfl ?_
      refine g_X3_boughtOil 105 (by first | assumption | exact isH_1 | exact isH_31 | exact isH_61 | exact isH_p (by omega) | exact isH_E (by assumption) (by omega) | exact isH_R (by assumption) | exact isH_K (by assumption) | exact isH_E isH_1 (by omega) | exact isH_R isH_1 | exact isH_K isH_1 | exact isH_R isH_31 | exact isH_K isH_31 | exact isH_E isH_31 (by omega)) rfl dX3_become_102 lkX3_65 ?_
      refine J_cv (b := J k 8) (by rw [up2_ne (show k ≠ b by omega), up2_ne (show k ≠ b by omega), up2_ne (show k ≠ b by omega), up2_ne (show k ≠ b by omega), kk]) ?_
      refine p_X3_boughtOil 108 (by first | assumption | exact isH_1 | exact isH_31 | exact isH_61 | exact isH_p (by omega) | exact isH_E (by assumption) (by omega) | exact isH_R (by assumption) | exact isH_K (by assumption) | exact isH_E isH_1 (by omega) | exact isH_R isH_1 | exact isH_K isH_1 | exact isH_R isH_31 | exact isH_K isH_31 | exact isH_E isH_31 (by omega)) rfl dX3_become_105 lkX3_65 ?_
      refine J_aload_n 109 rfl dX3_become_108 rfl ?_
      refine J_aload_n 110 rfl dX3_become_109 rfl ?_
      refine g_X3_burnedOil 113 (by first | assumption | exact isH_1 | exact isH_31 | exact isH_61 | exact isH_p (by omega) | exact isH_E (by assumption) (by omega) | exact isH_R (by assumption) | exact isH_K (by assumption) | exact isH_E isH_1 (by omega) | exact isH_R isH_1 | exact isH_K isH_1 | exact isH_R isH_31 | exact isH_K isH_31 | exact isH_E isH_31 (by omega)) rfl dX3_become_110 lkX3_68 ?_
      refine J_cv (b := J k 9) (by rw [up2_ne (show k ≠ b by omega), up2_ne (show k ≠ b by omega), up2_ne (show k ≠ b by omega), up2_ne (show k ≠ b by omega), up2_ne (show k ≠ b by omega), kk]) ?_
      refine p_X3_burnedOil 116 (by first | assumption | exact isH_1 | exact isH_31 | exact isH_61 | exact isH_p (by omega) | exact isH_E (by assumption) (by omega) | exact isH_R (by assumption) | exact isH_K (by assumption) | exact isH_E isH_1 (by omega) | exact isH_R isH_1 | exact isH_K isH_1 | exact isH_R isH_31 | exact isH_K isH_31 | exact isH_E isH_31 (by omega)) rfl dX3_become_113 lkX3_68 ?_
      refine J_aload_n 117 rfl dX3_become_116 rfl ?_
      refine J_aload_n 118 rfl dX3_become_117 rfl ?_
      refine g_X3_hour 121 (by first | assumption | exact isH_1 | exact isH_31 | exact isH_61 | exact isH_p (by omega) | exact isH_E (by assumption) (by omega) | exact isH_R (by assumption) | exact isH_K (by assumption) | exact isH_E isH_1 (by omega) | exact isH_R isH_1 | exact isH_K isH_1 | exact isH_R isH_31 | exact isH_K isH_31 | exact isH_E isH_31 (by omega)) rfl dX3_become_118 lkX3_71 ?_
      refine J_cv (b := J k 10) (by rw [up2_ne (show k ≠ b by omega), up2_ne (show k ≠ b by omega), up2_ne (show k ≠ b by omega), up2_ne (show k ≠ b by omega), up2_ne (show k ≠ b by omega), up2_ne (show k ≠ b by omega), kk]) ?_
      refine p_X3_hour 124 (by first | assumption | exact isH_1 | exact isH_31 | exact isH_61 | exact isH_p (by omega) | exact isH_E (by assumption) (by omega) | exact isH_R (by assumption) | exact isH_K (by assumption) | exact isH_E isH_1 (by omega) | exact isH_R isH_1 | exact isH_K isH_1 | exact isH_R isH_31 | exact isH_K isH_31 | exact isH_E isH_31 (by omega)) rfl dX3_become_121 lkX3_71 ?_
      refine J_aload_n 125 rfl dX3_become_124 rfl ?_
      refine J_aload_n 126 rfl dX3_become_125 rfl ?_
      refine g_X3_penanceDone 129 (by first | assumption | exact isH_1 | exact isH_31 | exact isH_61 | exact isH_p (by omega) | exact isH_E (by assumption) (by omega) | exact isH_R (by assumption) | exact isH_K (by assumption) | exact isH_E isH_1 (by omega) | exact isH_R isH_1 | exact isH_K isH_1 | exact isH_R isH_31 | exact isH_K isH_31 | exact isH_E isH_31 (by omega)) rfl dX3_become_126 lkX3_74 ?_
      refine J_cv (b := J k 11) (by rw [up2_ne (show k ≠ b by omega), up2_ne (show k ≠ b by omega), up2_ne (show k ≠ b by omega), up2_ne (show k ≠ b by omega), up2_ne (show k ≠ b by omega), up2_ne (show k ≠ b by omega), up2_ne (show k ≠ b by omega), kk]) ?_
      refine p_X3_penanceDone 132 (by first | assumption | exact isH_1 | exact isH_31 | exact isH_61 | exact isH_p (by omega) | exact isH_E (by assumption) (by omega) | exact isH_R (by assumption) | exact isH_K (by assumption) | exact isH_E isH_1 (by omega) | exact isH_R isH_1 | exact isH_K isH_1 | exact isH_R isH_31 | exact isH_K isH_31 | exact isH_E isH_31 (by omega)) rfl dX3_become_129 lkX3_74 ?_
      refine J_vret rfl dX3_become_132 ?_
      have e : i = f 0 := by omega
      subst e
      have rn : ∀ c, c ≠ b → up2 (up2 (up2 (up2 (up2 (up2 (up2 (up2 J65 b 4 (J k 4)) b 5 (J k 5)) b 6 (J k 6)) b 7 (J k 7)) b 8 (J k 8)) b 9 (J k 9)) b 10 (J k 10)) b 11 (J k 11) c = J65 c := fun c hc => by
        rw [up2_ne hc, up2_ne hc, up2_ne hc, up2_ne hc, up2_ne hc, up2_ne hc, up2_ne hc, up2_ne hc]
      have rs : ∀ j, 4 ≤ j → j ≤ 11 → up2 (up2 (up2 (up2 (up2 (up2 (up2 (up2 J65 b 4 (J k 4)) b 5 (J k 5)) b 6 (J k 6)) b 7 (J k 7)) b 8 (J k 8)) b 9 (J k 9)) b 10 (J k 10)) b 11 (J k 11) b j = J k j := fun j h1 h2 => by
        have q : j = 4 ∨ j = 5 ∨ j = 6 ∨ j = 7 ∨ j = 8 ∨ j = 9 ∨ j = 10 ∨ j = 11 := by omega
        rcases q with rfl | rfl | rfl | rfl | rfl | rfl | rfl | rfl <;> simp [up2_app]
      refine ⟨rfl, fun c hc => ?_, ⟨⟨?_, ?_, ?_, ?_, ?_⟩, ?_⟩⟩
      · rw [rn c (by omega), q65.1 c (by omega), q54.1 c (by omega), cp2_ne (by omega), f1 c (by omega)]
      · rw [rs 4 (by omega) (by omega), rs 5 (by omega) (by omega), rs 6 (by omega) (by omega), rs 10 (by omega) (by omega), rs 11 (by omega) (by omega)]
        exact h.1.1
      · intro a ha
        rw [rn (b + 2) (by omega), q65.1 (b + 2) (by omega), q54.1 (b + 2) (by omega), cp2_app, if_pos ⟨rfl, by omega, by omega⟩, f1 (k + 2) (by omega), show 0 + (a - 0) = a by omega]
        exact h.1.2.1 a ha
      · refine CR_fr (q54.2 f (CR_fr h.1.2.2.1 (fun c x y => by rw [cp2_ne (by omega), f1 c (by omega)])) e3) (fun c x y => by rw [rn c (by omega), q65.1 c (by omega)])
      · refine CB_fr (q65.2 f (CB_fr h.1.2.2.2.1 (fun c x y => by rw [q54.1 c (by omega), cp2_ne (by omega), f1 c (by omega)])) e6) (fun c x y => by rw [rn c (by omega)])
      · intro a ha
        exact CE_fr (hce a ha) (fun c x y => by rw [rn c (by omega), q65.1 c (by omega), q54.1 c (by omega), cp2_ne (by omega)])
      · unfold CA
        rw [rs 7 (by omega) (by omega), rs 8 (by omega) (by omega), rs 9 (by omega) (by omega)]
        exact h.2
    · have ok8 := (ho i (by omega)).2.1
      refine J_aload_n 11 rfl dX3_become_10 rfl ?_
      refine g_X3_engines 14 (by first | assumption | exact isH_1 | exact isH_31 | exact isH_61 | exact isH_p (by omega) | exact isH_E (by assumption) (by omega) | exact isH_R (by assumption) | exact isH_K (by assumption) | exact isH_E isH_1 (by omega) | exact isH_R isH_1 | exact isH_K isH_1 | exact isH_R isH_31 | exact isH_K isH_31 | exact isH_E isH_31 (by omega)) rfl dX3_become_11 lkX3_11 ?_
      refine J_iload_n 15 rfl dX3_become_14 rfl ?_
      refine J_aaldE 16 _ rfl dX3_become_15 (by first | assumption | exact isH_1 | exact isH_31 | exact isH_61 | exact isH_p (by omega) | exact isH_E (by assumption) (by omega) | exact isH_R (by assumption) | exact isH_K (by assumption) | exact isH_E isH_1 (by omega) | exact isH_R isH_1 | exact isH_K isH_1 | exact isH_R isH_31 | exact isH_K isH_31 | exact isH_E isH_31 (by omega)) (by omega) ?_
      refine J_aload_n 17 rfl dX3_become_16 rfl ?_
      refine g_X3_engines 20 (by first | assumption | exact isH_1 | exact isH_31 | exact isH_61 | exact isH_p (by omega) | exact isH_E (by assumption) (by omega) | exact isH_R (by assumption) | exact isH_K (by assumption) | exact isH_E isH_1 (by omega) | exact isH_R isH_1 | exact isH_K isH_1 | exact isH_R isH_31 | exact isH_K isH_31 | exact isH_E isH_31 (by omega)) rfl dX3_become_17 lkX3_11 ?_
      refine J_iload_n 21 rfl dX3_become_20 rfl ?_
      refine J_aaldE 22 _ rfl dX3_become_21 (by first | assumption | exact isH_1 | exact isH_31 | exact isH_61 | exact isH_p (by omega) | exact isH_E (by assumption) (by omega) | exact isH_R (by assumption) | exact isH_K (by assumption) | exact isH_E isH_1 (by omega) | exact isH_R isH_1 | exact isH_K isH_1 | exact isH_R isH_31 | exact isH_K isH_31 | exact isH_E isH_31 (by omega)) (by omega) ?_
      refine J_callVvp (As := [_]) 25 _ rfl kalX1_become lkX3_46 dX3_become_22 (lt_X1 (by first | assumption | exact isH_1 | exact isH_31 | exact isH_61 | exact isH_p (by omega) | exact isH_E (by assumption) (by omega) | exact isH_R (by assumption) | exact isH_K (by assumption) | exact isH_E isH_1 (by omega) | exact isH_R isH_1 | exact isH_K isH_1 | exact isH_R isH_31 | exact isH_K isH_31 | exact isH_E isH_31 (by omega))) (so_X1 (by first | assumption | exact isH_1 | exact isH_31 | exact isH_61 | exact isH_p (by omega) | exact isH_E (by assumption) (by omega) | exact isH_R (by assumption) | exact isH_K (by assumption) | exact isH_E isH_1 (by omega) | exact isH_R isH_1 | exact isH_K isH_1 | exact isH_R isH_31 | exact isH_K isH_31 | exact isH_E isH_31 (by omega))) rfl rfl rfl (by exact Nat.le_of_ble_eq_true rfl) (by omega) (S_X1_become (isH_E hb (by omega)) (isH_E hk (by omega)) (by omega)) (fun J22 q22 => ?_)
      refine J_iinc 28 1 rfl dX3_become_25 ic_1 rfl (Nat.le_of_ble_eq_true rfl) ?_
      refine J_goto 2 (by decide) dX3_become_28 ?_
      refine ih _ (by omega) (i + 1) _ rfl (by omega) (f1.trans (q22.1.sub (by omega))) ?_
      intro a ha
      by_cases z : a = i
      · subst z
        exact CE_copy (CE_fr (h.1.2.2.2.2 a (by omega)) (fun c x y => f1 c (by omega))) ok8 q22.2.1 q22.2.2.1 q22.2.2.2
      · exact CE_fr (hce a (by omega)) (fun c x y => q22.1 c (by omega))
  refine J_iconst 1 0 rfl dX3_become_0 ic_0 ?_
  refine J_istore_n 2 rfl dX3_become_1 rfl (Nat.le_of_ble_eq_true rfl) ?_
  exact loop _ 0 J rfl (Nat.zero_le _) Fr.refl (fun a ha => absurd ha (by omega))

def PP (J : DJ) (B n : Nat) (fs : Nat → Nat → Nat) : Prop := J 91 2 = n ∧ n ≤ 8 ∧ J 91 1 < 8 ∧ ∀ i, i < n → CP J (93 + 30 * ((J 91 1 + 8 - n + i) % 8)) (fs i) B ∧ WF (fs i) B
def psh (n : Nat) (fs : Nat → Nat → Nat) (f : Nat → Nat) : Nat → Nat → Nat := fun i => if n < 8 then (if i = n then f else fs i) else (if i = 7 then f else fs (i + 1))
theorem PP_fr {J J2 : DJ} {B n : Nat} {fs : Nat → Nat → Nat} (h : PP J B n fs) (e : ∀ c, 91 ≤ c → c < 333 → J2 c = J c) : PP J2 B n fs := by
  unfold PP
  rw [e 91 (by omega) (by omega)]
  refine ⟨h.1, h.2.1, h.2.2.1, fun i hi => ?_⟩
  have q := h.2.2.2 i hi
  have m8 := Nat.mod_lt (J 91 1 + 8 - n + i) (show 8 > 0 by omega)
  exact ⟨CP_fr q.1 q.2.1 (fun c x y => e c (by omega) (by omega)), q.2⟩
theorem PP_le {J : DJ} {B B2 n : Nat} {fs : Nat → Nat → Nat} (h : PP J B n fs) (q : B ≤ B2) : PP J B2 n fs := ⟨h.1, h.2.1, h.2.2.1, fun i hi => ⟨CP_le (h.2.2.2 i hi).1 q, WF_le (h.2.2.2 i hi).2 q⟩⟩
theorem S_X6_keep {g : Gn} {J : DJ} {n B : Nat} {fs : Nat → Nat → Nat} {f : Nat → Nat} (hp : PP J B n fs) (h : CP J 1 f B) (hw : WF f B) : SJ g mX6_keep 3 0 0 [.ref (g.2 91), .ref (g.2 1)] J (Rq (fun J2 => Fr 91 242 J J2 ∧ PP J2 B (min (n + 1) 8) (psh n fs f))) NoX := by
  have p1 := hp.1
  have p2 := hp.2.1
  have p3 := hp.2.2.1
  refine SJ_of_VJ (by decide +kernel) (Nat.le_of_ble_eq_true rfl) ?_
  show VJ g mX6_keep 3 0 0 _ _ 0 [(0, .ref (g.2 91)), (1, .ref (g.2 1))] [] J
  refine J_aload_n 1 rfl dX6_keep_0 rfl ?_
  refine g_X6_houses 4 rfl dX6_keep_1 lkX6_11 ?_
  refine J_aload_n 5 rfl dX6_keep_4 rfl ?_
  refine g_X6_next 8 rfl dX6_keep_5 lkX6_18 ?_
  refine J_aaldH 9 rfl dX6_keep_8 (by omega) ?_
  refine J_aload_n 10 rfl dX6_keep_9 rfl ?_
  refine J_callVvp (As := [_]) 13 _ rfl kalX3_become lkX6_22 dX6_keep_10 (lt_X3 (by first | assumption | exact isH_1 | exact isH_31 | exact isH_61 | exact isH_p (by omega) | exact isH_E (by assumption) (by omega) | exact isH_R (by assumption) | exact isH_K (by assumption) | exact isH_E isH_1 (by omega) | exact isH_R isH_1 | exact isH_K isH_1 | exact isH_R isH_31 | exact isH_K isH_31 | exact isH_E isH_31 (by omega))) (so_X3 (by first | assumption | exact isH_1 | exact isH_31 | exact isH_61 | exact isH_p (by omega) | exact isH_E (by assumption) (by omega) | exact isH_R (by assumption) | exact isH_K (by assumption) | exact isH_E isH_1 (by omega) | exact isH_R isH_1 | exact isH_K isH_1 | exact isH_R isH_31 | exact isH_K isH_31 | exact isH_E isH_31 (by omega))) rfl rfl rfl (by exact Nat.le_of_ble_eq_true rfl) (by omega) (S_X3_become (isH_p p3) isH_1 (by omega) h hw) (fun J10 q10 => ?_)
  have r91 : J10 91 = J 91 := q10.1 91 (by omega)
  refine J_aload_n 14 rfl dX6_keep_13 rfl ?_
  refine J_aload_n 15 rfl dX6_keep_14 rfl ?_
  refine g_X6_next 18 rfl dX6_keep_15 lkX6_18 ?_
  refine J_cv (b := J 91 1) (by rw [r91]) ?_
  refine J_iconst 19 1 rfl dX6_keep_18 ic_1 ?_
  refine J_iadd 20 rfl dX6_keep_19 ?_
  refine J_bipush 22 8 rfl dX6_keep_20 bc_8 ?_
  refine J_irem 23 rfl dX6_keep_22 (by omega) (by omega) (by omega) ?_
  refine p_X6_next 26 rfl dX6_keep_23 lkX6_18 ?_
  refine J_aload_n 27 rfl dX6_keep_26 rfl ?_
  refine J_aload_n 28 rfl dX6_keep_27 rfl ?_
  refine g_X6_kept 31 rfl dX6_keep_28 lkX6_26 ?_
  refine J_cv (b := n) (by rw [up2_app, if_neg (by omega), r91]; exact p1) ?_
  refine J_iconst 32 1 rfl dX6_keep_31 ic_1 ?_
  refine J_iadd 33 rfl dX6_keep_32 ?_
  refine J_bipush 35 8 rfl dX6_keep_33 bc_8 ?_
  refine J_mmin 38 rfl dX6_keep_35 lkX6_29 (by exact Nat.le_of_ble_eq_true rfl) (by omega) (by omega) (by omega) ?_
  refine p_X6_kept 41 rfl dX6_keep_38 lkX6_26 ?_
  refine J_vret rfl dX6_keep_41 ?_
  refine ⟨rfl, ((q10.1.sub (by omega)).up (by omega)).up (by omega), ?_⟩
  have ra : ∀ c, c ≠ 91 → up2 (up2 J10 91 1 ((J 91 1 + 1) % 8)) 91 2 (min (n + 1) 8) c = J10 c := fun c hc => by rw [up2_ne hc, up2_ne hc]
  have r1 : up2 (up2 J10 91 1 ((J 91 1 + 1) % 8)) 91 2 (min (n + 1) 8) 91 1 = (J 91 1 + 1) % 8 := by rw [up2_app, if_neg (by omega), up2_app, if_pos ⟨rfl, rfl⟩]
  have r2 : up2 (up2 J10 91 1 ((J 91 1 + 1) % 8)) 91 2 (min (n + 1) 8) 91 2 = min (n + 1) 8 := by rw [up2_app, if_pos ⟨rfl, rfl⟩]
  unfold PP
  rw [r1, r2]
  refine ⟨rfl, by omega, by omega, fun i hi => ?_⟩
  unfold psh
  by_cases z : n < 8
  · rw [if_pos z]
    by_cases zi : i = n
    · rw [if_pos zi, show ((J 91 1 + 1) % 8 + 8 - min (n + 1) 8 + i) % 8 = J 91 1 by omega]
      exact ⟨CP_fr q10.2 hw.1 (fun c x y => ra c (by omega)), hw⟩
    · rw [if_neg zi]
      have q := hp.2.2.2 i (by omega)
      rw [show ((J 91 1 + 1) % 8 + 8 - min (n + 1) 8 + i) % 8 = (J 91 1 + 8 - n + i) % 8 by omega]
      refine ⟨CP_fr q.1 q.2.1 (fun c x y => ?_), q.2⟩
      rw [ra c (by omega), q10.1 c (by omega)]
  · rw [if_neg z]
    by_cases zi : i = 7
    · rw [if_pos zi, show ((J 91 1 + 1) % 8 + 8 - min (n + 1) 8 + i) % 8 = J 91 1 by omega]
      exact ⟨CP_fr q10.2 hw.1 (fun c x y => ra c (by omega)), hw⟩
    · rw [if_neg zi]
      have q := hp.2.2.2 (i + 1) (by omega)
      rw [show ((J 91 1 + 1) % 8 + 8 - min (n + 1) 8 + i) % 8 = (J 91 1 + 8 - n + (i + 1)) % 8 by omega]
      refine ⟨CP_fr q.1 q.2.1 (fun c x y => ?_), q.2⟩
      rw [ra c (by omega), q10.1 c (by omega)]

theorem S_X6_takeBack {g : Gn} {J : DJ} {n B : Nat} {fs : Nat → Nat → Nat} (hp : PP J B n fs) (hn : 1 ≤ n) : SJ g mX6_takeBack 3 0 0 [.ref (g.2 91), .ref (g.2 1)] J (Rp (n - 1) (fun J2 => (∀ c, c < 1 ∨ 333 ≤ c ∨ (31 ≤ c ∧ c < 91) → J2 c = J c) ∧ CP J2 1 (fs (n - 1)) B ∧ PP J2 B (n - 1) fs)) NoX := by
  have p1 := hp.1
  have p2 := hp.2.1
  have p3 := hp.2.2.1
  have q := hp.2.2.2 (n - 1) (by omega)
  rw [show (J 91 1 + 8 - n + (n - 1)) % 8 = (J 91 1 + 8 - 1) % 8 by omega] at q
  have m8 := Nat.mod_lt (J 91 1 + 8 - 1) (show 8 > 0 by omega)
  have q2 : CP (up2 J 91 1 ((J 91 1 + 8 - 1) % 8)) (93 + 30 * ((J 91 1 + 8 - 1) % 8)) (fs (n - 1)) B := CP_fr q.1 q.2.1 (fun c x y => up2_ne (by omega))
  refine SJ_of_VJ (by decide +kernel) (Nat.le_of_ble_eq_true rfl) ?_
  show VJ g mX6_takeBack 3 0 0 _ _ 0 [(0, .ref (g.2 91)), (1, .ref (g.2 1))] [] J
  refine J_aload_n 1 rfl dX6_takeBack_0 rfl ?_
  refine J_aload_n 2 rfl dX6_takeBack_1 rfl ?_
  refine g_X6_next 5 rfl dX6_takeBack_2 lkX6_18 ?_
  refine J_bipush 7 8 rfl dX6_takeBack_5 bc_8 ?_
  refine J_iadd 8 rfl dX6_takeBack_7 ?_
  refine J_iconst 9 1 rfl dX6_takeBack_8 ic_1 ?_
  refine J_isub 10 rfl dX6_takeBack_9 (by omega) ?_
  refine J_bipush 12 8 rfl dX6_takeBack_10 bc_8 ?_
  refine J_irem 13 rfl dX6_takeBack_12 (by omega) (by omega) (by omega) ?_
  refine p_X6_next 16 rfl dX6_takeBack_13 lkX6_18 ?_
  refine J_aload_n 17 rfl dX6_takeBack_16 rfl ?_
  refine J_aload_n 18 rfl dX6_takeBack_17 rfl ?_
  refine g_X6_houses 21 rfl dX6_takeBack_18 lkX6_11 ?_
  refine J_aload_n 22 rfl dX6_takeBack_21 rfl ?_
  refine g_X6_next 25 rfl dX6_takeBack_22 lkX6_18 ?_
  refine J_cv (b := (J 91 1 + 8 - 1) % 8) (by rw [up2_app, if_pos ⟨rfl, rfl⟩]) ?_
  refine J_aaldH 26 rfl dX6_takeBack_25 (by omega) ?_
  refine J_callVvp (As := [_]) 29 _ rfl kalX3_become lkX6_22 dX6_takeBack_26 (lt_X3 (by first | assumption | exact isH_1 | exact isH_31 | exact isH_61 | exact isH_p (by omega) | exact isH_E (by assumption) (by omega) | exact isH_R (by assumption) | exact isH_K (by assumption) | exact isH_E isH_1 (by omega) | exact isH_R isH_1 | exact isH_K isH_1 | exact isH_R isH_31 | exact isH_K isH_31 | exact isH_E isH_31 (by omega))) (so_X3 (by first | assumption | exact isH_1 | exact isH_31 | exact isH_61 | exact isH_p (by omega) | exact isH_E (by assumption) (by omega) | exact isH_R (by assumption) | exact isH_K (by assumption) | exact isH_E isH_1 (by omega) | exact isH_R isH_1 | exact isH_K isH_1 | exact isH_R isH_31 | exact isH_K isH_31 | exact isH_E isH_31 (by omega))) rfl rfl rfl (by exact Nat.le_of_ble_eq_true rfl) (by omega) (S_X3_become isH_1 (isH_p m8) (by omega) q2 q.2) (fun J26 q26 => ?_)
  refine J_aload_n 30 rfl dX6_takeBack_29 rfl ?_
  refine J_dup 31 rfl dX6_takeBack_30 rfl ?_
  refine g_X6_kept 34 rfl dX6_takeBack_31 lkX6_26 ?_
  refine J_cv (b := n) (by rw [q26.1 91 (by omega), up2_app, if_neg (by omega)]; exact p1) ?_
  refine J_iconst 35 1 rfl dX6_takeBack_34 ic_1 ?_
  refine J_isub 36 rfl dX6_takeBack_35 (by omega) ?_
  refine p_X6_kept 39 rfl dX6_takeBack_36 lkX6_26 ?_
  refine J_aload_n 40 rfl dX6_takeBack_39 rfl ?_
  refine g_X6_kept 43 rfl dX6_takeBack_40 lkX6_26 ?_
  refine J_cv (b := n - 1) (by rw [up2_app, if_pos ⟨rfl, rfl⟩]) ?_
  refine J_iret rfl dX6_takeBack_43 ?_
  refine ⟨rfl, ⟨fun c hc => ?_, CP_fr q26.2 q.2.1 (fun c x y => up2_ne (by omega)), ?_⟩⟩
  · rw [up2_ne (by omega), q26.1 c (by omega), up2_ne (by omega)]
  have r1 : up2 J26 91 2 (n - 1) 91 1 = (J 91 1 + 8 - 1) % 8 := by rw [up2_app, if_neg (by omega), q26.1 91 (by omega), up2_app, if_pos ⟨rfl, rfl⟩]
  have r2 : up2 J26 91 2 (n - 1) 91 2 = n - 1 := by rw [up2_app, if_pos ⟨rfl, rfl⟩]
  unfold PP
  rw [r1, r2]
  refine ⟨rfl, by omega, m8, fun i hi => ?_⟩
  have z := hp.2.2.2 i (by omega)
  rw [show ((J 91 1 + 8 - 1) % 8 + 8 - (n - 1) + i) % 8 = (J 91 1 + 8 - n + i) % 8 by omega]
  refine ⟨CP_fr z.1 z.2.1 (fun c x y => ?_), z.2⟩
  rw [up2_ne (by omega), q26.1 c (by omega), up2_ne (by omega)]

theorem S_X6_forget {g : Gn} {J : DJ} : SJ g mX6_forget 0 0 0 [.ref (g.2 91)] J (Rq (fun J2 => J2 = up2 J 91 2 0)) NoX := by
  refine SJ_of_VJ (by decide +kernel) (Nat.le_of_ble_eq_true rfl) ?_
  show VJ g mX6_forget 0 0 0 _ _ 0 [(0, .ref (g.2 91))] [] J
  refine J_aload_n 1 rfl dX6_forget_0 rfl ?_
  refine J_iconst 2 0 rfl dX6_forget_1 ic_0 ?_
  refine p_X6_kept 5 rfl dX6_forget_2 lkX6_26 ?_
  refine J_vret rfl dX6_forget_5 ?_
  exact ⟨rfl, rfl⟩

