/-! THE MODEL: hours, undo, snapshot, even orders (laid by wip/whole/src/p65.py) -/
theorem S_X11_knocksIn {g : Gn} {J : DJ} {f : Nat → Nat} {B t : Nat} (hw : WF f B) (hB9 : B < 600000000) (h_t : t < 4294967296) : SJ g mX11_knocksIn 3 0 0 [.ref (g.2 351), .int (nI (t))] (sR J 352 f) (MoQ (sR J 352 f) (if qKi f t < f 6 then 0 else 4) 1 (f (246 + 2 * qKi f t))) NoX := by
  have h0 := hw.1
  have h2 := hw.2.1
  have h3 := hw.2.2.1
  have hO := hw.2.2.2.2.2.1
  have h4 := hw.2.2.2.2.1.1
  have hB := hw.2.2.2.2.2.2.2.2.1
  have h6 := hw.2.2.2.1.1
  have hb6 : ∀ i, i < f 6 → f (245 + 2 * i) ≤ B := fun i hi => hB _ (by omega)
  refine SJ_of_VJ (by decide +kernel) (Nat.le_of_ble_eq_true rfl) ?_
  show VJ g mX11_knocksIn 3 0 0 _ _ 0 [(0, .ref (g.2 351)), (1, .int (nI (t)))] [] (sR J 352 f)
  have loop : ∀ (n9 : Nat) (k : Nat), f 6 - k = n9 → k ≤ f 6 → (∀ i, i < k → f (245 + 2 * i) ≠ t) → VJ g mX11_knocksIn 3 0 0 (MoQ (sR J 352 f) (if qKi f t < f 6 then 0 else 4) 1 (f (246 + 2 * qKi f t))) NoX 7 [(0, .ref (g.2 351)), (1, .int (nI t)), (2, .int (nI k))] [] (sR (up2 J 351 8 0) 352 f) := by
    intro n9
    induction n9 using Nat.strongRecOn with
    | ind n9 ih =>
      intro k hi hk hne
      refine J_iload_n 8 rfl dX11_knocksIn_7 rfl ?_
      refine J_aload_n 9 rfl dX11_knocksIn_8 rfl ?_
      refine g_X11_m 12 rfl dX11_knocksIn_9 lkX11_9 ?_
      refine J_bipush 14 6 rfl dX11_knocksIn_12 bc_6 ?_
      refine J_mald 15 rfl dX11_knocksIn_14 (by omega) ?_
      refine J_icmp_ge 55 18 (by decide) rfl dX11_knocksIn_15 (by omega) (by omega) (fun c15 => ?_) (fun c15 => ?_)
      · refine J_aload_n 56 rfl dX11_knocksIn_55 rfl ?_
        refine J_iconst 57 1 rfl dX11_knocksIn_56 ic_1 ?_
        refine J_callVi (As := [_]) 60 _ rfl kalX11_throwing lkX11_125 dX11_knocksIn_57 (lt_X11) (so_X11) rfl rfl rfl (by exact Nat.le_of_ble_eq_true rfl) (by omega) (S_X11_throwing) ?_
        refine J_iret rfl dX11_knocksIn_60 ?_
        have e9 : qKi f t = f 6 := fstN_is (Nat.le_refl _) (fun i hi => decide_eq_false (hne i (by omega))) (fun z => absurd z (by omega))
        refine ⟨_, rfl, Or.inr ⟨by rw [e9, if_neg (by omega)]; omega, rfl, ?_⟩⟩
        rw [up2_out (by omega)]
        exact MNo_2 rfl
      · refine J_aload_n 19 rfl dX11_knocksIn_18 rfl ?_
        refine g_X11_m 22 rfl dX11_knocksIn_19 lkX11_9 ?_
        refine J_sipush 25 245 rfl dX11_knocksIn_22 sc_245 ?_
        refine J_iconst 26 2 rfl dX11_knocksIn_25 ic_2 ?_
        refine J_iload_n 27 rfl dX11_knocksIn_26 rfl ?_
        refine J_imul 28 rfl dX11_knocksIn_27 ?_
        refine J_iadd 29 rfl dX11_knocksIn_28 ?_
        refine J_mald 30 rfl dX11_knocksIn_29 (by omega) ?_
        refine J_iload_n 31 rfl dX11_knocksIn_30 rfl ?_
        refine J_icmp_ne 49 34 (by decide) rfl dX11_knocksIn_31 (by have := hb6 k (by omega); omega) h_t (fun hx => ?_) (fun hh => ?_)
        · skip
          refine J_iinc 52 1 rfl dX11_knocksIn_49 ic_1 rfl (Nat.le_of_ble_eq_true rfl) ?_
          refine J_goto 7 (by decide) dX11_knocksIn_52 ?_
          refine ih _ (by omega) (k + 1) rfl (by omega) (fun i hi2 => ?_)
          by_cases z : i = k
          · rw [z]; exact hx
          · exact hne i (by omega)
        · skip
          refine J_aload_n 35 rfl dX11_knocksIn_34 rfl ?_
          refine g_X11_m 38 rfl dX11_knocksIn_35 lkX11_9 ?_
          refine J_sipush 41 245 rfl dX11_knocksIn_38 sc_245 ?_
          refine J_iconst 42 2 rfl dX11_knocksIn_41 ic_2 ?_
          refine J_iload_n 43 rfl dX11_knocksIn_42 rfl ?_
          refine J_imul 44 rfl dX11_knocksIn_43 ?_
          refine J_iadd 45 rfl dX11_knocksIn_44 ?_
          refine J_iconst 46 1 rfl dX11_knocksIn_45 ic_1 ?_
          refine J_iadd 47 rfl dX11_knocksIn_46 ?_
          refine J_mald 48 rfl dX11_knocksIn_47 (by omega) ?_
          refine J_iret rfl dX11_knocksIn_48 ?_
          have e9 : qKi f t = k := fstN_is (by omega) (fun i hi => decide_eq_false (hne i hi)) (fun _ => decide_eq_true (hh))
          exact ⟨_, rfl, Or.inl ⟨by rw [e9, if_pos (by omega)], by rw [e9, show 245 + 2 * k + 1 = 246 + 2 * k by omega], MNo_1⟩⟩
  refine J_aload_n 1 rfl dX11_knocksIn_0 rfl ?_
  refine J_iconst 2 0 rfl dX11_knocksIn_1 ic_0 ?_
  refine p_X11_thrown 5 rfl dX11_knocksIn_2 lkX11_57 ?_
  rw [up2_out (by omega)]
  refine J_iconst 6 0 rfl dX11_knocksIn_5 ic_0 ?_
  refine J_istore_n 7 rfl dX11_knocksIn_6 rfl (Nat.le_of_ble_eq_true rfl) ?_
  exact loop _ 0 rfl (Nat.zero_le _) (fun i h => absurd h (Nat.not_lt_zero _))

theorem S_X11_hourOfKnocks {g : Gn} {J : DJ} {f : Nat → Nat} {B t : Nat} (hw : WF f B) (hB9 : B < 600000000) (h_t : t < 4294967296) : SJ g mX11_hourOfKnocks 3 0 0 [.ref (g.2 351), .int (nI (t))] (sR J 352 f) (MoQ (sR J 352 f) (if qHo f t < f 6 then 0 else 4) 1 (f (245 + 2 * qHo f t))) NoX := by
  have h0 := hw.1
  have h2 := hw.2.1
  have h3 := hw.2.2.1
  have hO := hw.2.2.2.2.2.1
  have h4 := hw.2.2.2.2.1.1
  have hB := hw.2.2.2.2.2.2.2.2.1
  have h6 := hw.2.2.2.1.1
  have hb6 : ∀ i, i < f 6 → f (245 + 2 * i) ≤ B := fun i hi => hB _ (by omega)
  refine SJ_of_VJ (by decide +kernel) (Nat.le_of_ble_eq_true rfl) ?_
  show VJ g mX11_hourOfKnocks 3 0 0 _ _ 0 [(0, .ref (g.2 351)), (1, .int (nI (t)))] [] (sR J 352 f)
  have loop : ∀ (n9 : Nat) (k : Nat), f 6 - k = n9 → k ≤ f 6 → (∀ i, i < k → ¬ nI t ≤ nI (f (245 + 2 * i))) → VJ g mX11_hourOfKnocks 3 0 0 (MoQ (sR J 352 f) (if qHo f t < f 6 then 0 else 4) 1 (f (245 + 2 * qHo f t))) NoX 7 [(0, .ref (g.2 351)), (1, .int (nI t)), (2, .int (nI k))] [] (sR (up2 J 351 8 0) 352 f) := by
    intro n9
    induction n9 using Nat.strongRecOn with
    | ind n9 ih =>
      intro k hi hk hne
      refine J_iload_n 8 rfl dX11_hourOfKnocks_7 rfl ?_
      refine J_aload_n 9 rfl dX11_hourOfKnocks_8 rfl ?_
      refine g_X11_m 12 rfl dX11_hourOfKnocks_9 lkX11_9 ?_
      refine J_bipush 14 6 rfl dX11_hourOfKnocks_12 bc_6 ?_
      refine J_mald 15 rfl dX11_hourOfKnocks_14 (by omega) ?_
      refine J_icmp_ge 53 18 (by decide) rfl dX11_hourOfKnocks_15 (by omega) (by omega) (fun c15 => ?_) (fun c15 => ?_)
      · refine J_aload_n 54 rfl dX11_hourOfKnocks_53 rfl ?_
        refine J_iconst 55 1 rfl dX11_hourOfKnocks_54 ic_1 ?_
        refine J_callVi (As := [_]) 58 _ rfl kalX11_throwing lkX11_125 dX11_hourOfKnocks_55 (lt_X11) (so_X11) rfl rfl rfl (by exact Nat.le_of_ble_eq_true rfl) (by omega) (S_X11_throwing) ?_
        refine J_iret rfl dX11_hourOfKnocks_58 ?_
        have e9 : qHo f t = f 6 := fstN_is (Nat.le_refl _) (fun i hi => decide_eq_false (hne i (by omega))) (fun z => absurd z (by omega))
        refine ⟨_, rfl, Or.inr ⟨by rw [e9, if_neg (by omega)]; omega, rfl, ?_⟩⟩
        rw [up2_out (by omega)]
        exact MNo_2 rfl
      · refine J_aload_n 19 rfl dX11_hourOfKnocks_18 rfl ?_
        refine g_X11_m 22 rfl dX11_hourOfKnocks_19 lkX11_9 ?_
        refine J_sipush 25 245 rfl dX11_hourOfKnocks_22 sc_245 ?_
        refine J_iconst 26 2 rfl dX11_hourOfKnocks_25 ic_2 ?_
        refine J_iload_n 27 rfl dX11_hourOfKnocks_26 rfl ?_
        refine J_imul 28 rfl dX11_hourOfKnocks_27 ?_
        refine J_iadd 29 rfl dX11_hourOfKnocks_28 ?_
        refine J_mald 30 rfl dX11_hourOfKnocks_29 (by omega) ?_
        refine J_iload_n 31 rfl dX11_hourOfKnocks_30 rfl ?_
        refine J_icmpR_lt 47 34 (by decide) rfl dX11_hourOfKnocks_31 (fun c31 => ?_) (fun c31 => ?_)
        · have hx : ¬ nI t ≤ nI (f (245 + 2 * k)) := Int32.not_le.mpr c31
          refine J_iinc 50 1 rfl dX11_hourOfKnocks_47 ic_1 rfl (Nat.le_of_ble_eq_true rfl) ?_
          refine J_goto 7 (by decide) dX11_hourOfKnocks_50 ?_
          refine ih _ (by omega) (k + 1) rfl (by omega) (fun i hi2 => ?_)
          by_cases z : i = k
          · rw [z]; exact hx
          · exact hne i (by omega)
        · have hh : nI t ≤ nI (f (245 + 2 * k)) := Int32.not_lt.mp c31
          refine J_aload_n 35 rfl dX11_hourOfKnocks_34 rfl ?_
          refine g_X11_m 38 rfl dX11_hourOfKnocks_35 lkX11_9 ?_
          refine J_sipush 41 245 rfl dX11_hourOfKnocks_38 sc_245 ?_
          refine J_iconst 42 2 rfl dX11_hourOfKnocks_41 ic_2 ?_
          refine J_iload_n 43 rfl dX11_hourOfKnocks_42 rfl ?_
          refine J_imul 44 rfl dX11_hourOfKnocks_43 ?_
          refine J_iadd 45 rfl dX11_hourOfKnocks_44 ?_
          refine J_mald 46 rfl dX11_hourOfKnocks_45 (by omega) ?_
          refine J_iret rfl dX11_hourOfKnocks_46 ?_
          have e9 : qHo f t = k := fstN_is (by omega) (fun i hi => decide_eq_false (hne i hi)) (fun _ => decide_eq_true (hh))
          exact ⟨_, rfl, Or.inl ⟨by rw [e9, if_pos (by omega)], by rw [e9], MNo_1⟩⟩
  refine J_aload_n 1 rfl dX11_hourOfKnocks_0 rfl ?_
  refine J_iconst 2 0 rfl dX11_hourOfKnocks_1 ic_0 ?_
  refine p_X11_thrown 5 rfl dX11_hourOfKnocks_2 lkX11_57 ?_
  rw [up2_out (by omega)]
  refine J_iconst 6 0 rfl dX11_hourOfKnocks_5 ic_0 ?_
  refine J_istore_n 7 rfl dX11_hourOfKnocks_6 rfl (Nat.le_of_ble_eq_true rfl) ?_
  exact loop _ 0 rfl (Nat.zero_le _) (fun i h => absurd h (Nat.not_lt_zero _))

theorem S_X11_errorPosition {g : Gn} {J : DJ} {f : Nat → Nat} (h_x : J 351 6 < 4294967296) : SJ g mX11_errorPosition 3 0 0 [.ref (g.2 351)] (sR J 352 f) (MoQ (sR J 352 f) (if J 351 6 = 4294967295 then 4 else 0) 1 (J 351 6)) NoX := by
  refine SJ_of_VJ (by decide +kernel) (Nat.le_of_ble_eq_true rfl) ?_
  show VJ g mX11_errorPosition 3 0 0 _ _ 0 [(0, .ref (g.2 351))] [] (sR J 352 f)
  refine J_aload_n 1 rfl dX11_errorPosition_0 rfl ?_
  refine J_iconst 2 0 rfl dX11_errorPosition_1 ic_0 ?_
  refine p_X11_thrown 5 rfl dX11_errorPosition_2 lkX11_57 ?_
  rw [up2_out (by omega)]
  refine J_aload_n 6 rfl dX11_errorPosition_5 rfl ?_
  refine g_X11_errorAt 9 rfl dX11_errorPosition_6 lkX11_22 ?_
  refine J_cv (b := J 351 6) (by rw [sR_ne (by omega), up2_app, if_neg (by omega)]) ?_
  refine J_iconst 10 4294967295 rfl dX11_errorPosition_9 ic_m1 ?_
  refine J_icmp_ne 21 13 (by decide) rfl dX11_errorPosition_10 h_x (by omega) (fun c10 => ?_) (fun c10 => ?_)
  · refine J_aload_n 22 rfl dX11_errorPosition_21 rfl ?_
    refine g_X11_errorAt 25 rfl dX11_errorPosition_22 lkX11_22 ?_
    refine J_cv (b := J 351 6) (by rw [sR_ne (by omega), up2_app, if_neg (by omega)]) ?_
    refine J_iret rfl dX11_errorPosition_25 ?_
    first
      | (exact ⟨_, rfl, Or.inl ⟨by rw [if_neg (by omega)], rfl, MNo_1⟩⟩)
      | (refine ⟨_, rfl, Or.inr ⟨by rw [if_pos (by omega)]; omega, rfl, ?_⟩⟩
         rw [up2_out (by omega)]
         exact MNo_2 rfl)
  · refine J_aload_n 14 rfl dX11_errorPosition_13 rfl ?_
    refine J_iconst 15 1 rfl dX11_errorPosition_14 ic_1 ?_
    refine J_callVi (As := [_]) 18 _ rfl kalX11_throwing lkX11_125 dX11_errorPosition_15 (lt_X11) (so_X11) rfl rfl rfl (by exact Nat.le_of_ble_eq_true rfl) (by omega) (S_X11_throwing) ?_
    refine J_goto 25 (by decide) dX11_errorPosition_18 ?_
    refine J_iret rfl dX11_errorPosition_25 ?_
    first
      | (exact ⟨_, rfl, Or.inl ⟨by rw [if_neg (by omega)], rfl, MNo_1⟩⟩)
      | (refine ⟨_, rfl, Or.inr ⟨by rw [if_pos (by omega)]; omega, rfl, ?_⟩⟩
         rw [up2_out (by omega)]
         exact MNo_2 rfl)

theorem S_X11_failedCommand {g : Gn} {J : DJ} {f : Nat → Nat} (h_x : J 351 7 < 4294967296) : SJ g mX11_failedCommand 3 0 0 [.ref (g.2 351)] (sR J 352 f) (MoQ (sR J 352 f) (if J 351 7 = 4294967295 then 4 else 0) 1 (J 351 7)) NoX := by
  refine SJ_of_VJ (by decide +kernel) (Nat.le_of_ble_eq_true rfl) ?_
  show VJ g mX11_failedCommand 3 0 0 _ _ 0 [(0, .ref (g.2 351))] [] (sR J 352 f)
  refine J_aload_n 1 rfl dX11_failedCommand_0 rfl ?_
  refine J_iconst 2 0 rfl dX11_failedCommand_1 ic_0 ?_
  refine p_X11_thrown 5 rfl dX11_failedCommand_2 lkX11_57 ?_
  rw [up2_out (by omega)]
  refine J_aload_n 6 rfl dX11_failedCommand_5 rfl ?_
  refine g_X11_failed 9 rfl dX11_failedCommand_6 lkX11_26 ?_
  refine J_cv (b := J 351 7) (by rw [sR_ne (by omega), up2_app, if_neg (by omega)]) ?_
  refine J_iconst 10 4294967295 rfl dX11_failedCommand_9 ic_m1 ?_
  refine J_icmp_ne 21 13 (by decide) rfl dX11_failedCommand_10 h_x (by omega) (fun c10 => ?_) (fun c10 => ?_)
  · refine J_aload_n 22 rfl dX11_failedCommand_21 rfl ?_
    refine g_X11_failed 25 rfl dX11_failedCommand_22 lkX11_26 ?_
    refine J_cv (b := J 351 7) (by rw [sR_ne (by omega), up2_app, if_neg (by omega)]) ?_
    refine J_iret rfl dX11_failedCommand_25 ?_
    first
      | (exact ⟨_, rfl, Or.inl ⟨by rw [if_neg (by omega)], rfl, MNo_1⟩⟩)
      | (refine ⟨_, rfl, Or.inr ⟨by rw [if_pos (by omega)]; omega, rfl, ?_⟩⟩
         rw [up2_out (by omega)]
         exact MNo_2 rfl)
  · refine J_aload_n 14 rfl dX11_failedCommand_13 rfl ?_
    refine J_iconst 15 1 rfl dX11_failedCommand_14 ic_1 ?_
    refine J_callVi (As := [_]) 18 _ rfl kalX11_throwing lkX11_125 dX11_failedCommand_15 (lt_X11) (so_X11) rfl rfl rfl (by exact Nat.le_of_ble_eq_true rfl) (by omega) (S_X11_throwing) ?_
    refine J_goto 25 (by decide) dX11_failedCommand_18 ?_
    refine J_iret rfl dX11_failedCommand_25 ?_
    first
      | (exact ⟨_, rfl, Or.inl ⟨by rw [if_neg (by omega)], rfl, MNo_1⟩⟩)
      | (refine ⟨_, rfl, Or.inr ⟨by rw [if_pos (by omega)]; omega, rfl, ?_⟩⟩
         rw [up2_out (by omega)]
         exact MNo_2 rfl)

theorem S_X11_undo {g : Gn} {J : DJ} {f : Nat → Nat} {n : Nat} (hn : J 351 5 = n) (hn8 : n ≤ 8) : SJ g mX11_undo 3 0 0 [.ref (g.2 351)] (sR J 352 f) (Re (fun r J2 => (0 < n ∧ r = n - 1 ∧ ∃ h, J2 = sR (up2 (up2 J 351 8 0) 351 5 (n - 1)) 352 h ∧ ∀ i, i < 269 → h i = J 355 (269 * (n - 1) + i)) ∨ (n = 0 ∧ r = 4294967295 ∧ MNo (sR J 352 f) J2 1))) NoX := by
  refine SJ_of_VJ (by decide +kernel) (Nat.le_of_ble_eq_true rfl) ?_
  show VJ g mX11_undo 3 0 0 _ _ 0 [(0, .ref (g.2 351))] [] (sR J 352 f)
  have loop : 0 < n → ∀ (n9 : Nat) (k : Nat) (h : Nat → Nat), 269 - k = n9 → k ≤ 269 → (∀ i, i < k → h i = J 355 (269 * (n - 1) + i)) → VJ g mX11_undo 3 0 0 (Re (fun r J2 => (0 < n ∧ r = n - 1 ∧ ∃ h, J2 = sR (up2 (up2 J 351 8 0) 351 5 (n - 1)) 352 h ∧ ∀ i, i < 269 → h i = J 355 (269 * (n - 1) + i)) ∨ (n = 0 ∧ r = 4294967295 ∧ MNo (sR J 352 f) J2 1))) NoX 30 [(0, .ref (g.2 351)), (1, .int (nI k))] [] (sR (up2 (up2 J 351 8 0) 351 5 (n - 1)) 352 h) := by
    intro hn0 n9
    induction n9 using Nat.strongRecOn with
    | ind n9 ih =>
      intro k h hi hk hh
      refine J_iload_n 31 rfl dX11_undo_30 rfl ?_
      refine J_sipush 34 269 rfl dX11_undo_31 sc_269 ?_
      refine J_icmp_ge 64 37 (by decide) rfl dX11_undo_34 (by omega) (by omega) (fun c34 => ?_) (fun c34 => ?_)
      · refine J_aload_n 65 rfl dX11_undo_64 rfl ?_
        refine g_X11_changes 68 rfl dX11_undo_65 lkX11_60 ?_
        refine J_cv (b := n - 1) (by rw [sR_ne (by omega), up2_app, if_pos ⟨rfl, rfl⟩]) ?_
        refine J_iret rfl dX11_undo_68 ?_
        exact ⟨_, rfl, Or.inl ⟨hn0, rfl, h, rfl, fun i hi2 => hh i (by omega)⟩⟩
      · refine J_aload_n 38 rfl dX11_undo_37 rfl ?_
        refine g_X11_m 41 rfl dX11_undo_38 lkX11_9 ?_
        refine J_iload_n 42 rfl dX11_undo_41 rfl ?_
        refine J_aload_n 43 rfl dX11_undo_42 rfl ?_
        refine g_X11_past 46 rfl dX11_undo_43 lkX11_19 ?_
        refine J_sipush 49 269 rfl dX11_undo_46 sc_269 ?_
        refine J_aload_n 50 rfl dX11_undo_49 rfl ?_
        refine g_X11_changes 53 rfl dX11_undo_50 lkX11_60 ?_
        refine J_cv (b := n - 1) (by rw [sR_ne (by omega), up2_app, if_pos ⟨rfl, rfl⟩]) ?_
        refine J_imul 54 rfl dX11_undo_53 ?_
        refine J_iload_n 55 rfl dX11_undo_54 rfl ?_
        refine J_iadd 56 rfl dX11_undo_55 ?_
        refine J_iald 57 rfl dX11_undo_56 (sa_X11_past) (by omega) ?_
        refine J_cv (b := J 355 (269 * (n - 1) + k)) (by rw [sR_ne (by omega), up2_ne (by omega), up2_ne (by omega)]) ?_
        refine J_mast 58 rfl dX11_undo_57 (by omega) ?_
        refine J_iinc 61 1 rfl dX11_undo_58 ic_1 rfl (Nat.le_of_ble_eq_true rfl) ?_
        refine J_goto 30 (by decide) dX11_undo_61 ?_
        refine ih _ (by omega) (k + 1) _ rfl (by omega) (fun i hi2 => ?_)
        rw [up1_app]
        split
        · next z => rw [z]
        · exact hh i (by omega)
  refine J_aload_n 1 rfl dX11_undo_0 rfl ?_
  refine J_iconst 2 0 rfl dX11_undo_1 ic_0 ?_
  refine p_X11_thrown 5 rfl dX11_undo_2 lkX11_57 ?_
  rw [up2_out (by omega)]
  refine J_aload_n 6 rfl dX11_undo_5 rfl ?_
  refine g_X11_changes 9 rfl dX11_undo_6 lkX11_60 ?_
  refine J_cv (b := n) (by rw [sR_ne (by omega), up2_app, if_neg (by omega), hn]) ?_
  refine J_if_ne 18 12 (by decide) rfl dX11_undo_9 (by omega) (fun c9 => ?_) (fun c9 => ?_)
  · refine J_aload_n 19 rfl dX11_undo_18 rfl ?_
    refine J_dup 20 rfl dX11_undo_19 rfl ?_
    refine g_X11_changes 23 rfl dX11_undo_20 lkX11_60 ?_
    refine J_cv (b := n) (by rw [sR_ne (by omega), up2_app, if_neg (by omega), hn]) ?_
    refine J_iconst 24 1 rfl dX11_undo_23 ic_1 ?_
    refine J_isub 25 rfl dX11_undo_24 (by omega) ?_
    refine p_X11_changes 28 rfl dX11_undo_25 lkX11_60 ?_
    rw [up2_out (by omega)]
    refine J_iconst 29 0 rfl dX11_undo_28 ic_0 ?_
    refine J_istore_n 30 rfl dX11_undo_29 rfl (Nat.le_of_ble_eq_true rfl) ?_
    exact loop (by omega) _ 0 f rfl (by omega) (fun i hi => absurd hi (Nat.not_lt_zero _))
  · refine J_aload_n 13 rfl dX11_undo_12 rfl ?_
    refine J_iconst 14 1 rfl dX11_undo_13 ic_1 ?_
    refine J_callVi (As := [_]) 17 _ rfl kalX11_throwing lkX11_125 dX11_undo_14 (lt_X11) (so_X11) rfl rfl rfl (by exact Nat.le_of_ble_eq_true rfl) (by omega) (S_X11_throwing) ?_
    refine J_iret rfl dX11_undo_17 ?_
    refine ⟨_, rfl, Or.inr ⟨by omega, rfl, ?_⟩⟩
    rw [up2_out (by omega)]
    exact MNo_2 rfl

theorem S_X11_save {g : Gn} {J : DJ} {f : Nat → Nat} : SJ g mX11_save 1 0 0 [.ref (g.2 351)] (sR J 352 f) (Rp (f 0) (fun J2 => ∃ S, J2 = sR (sR (up2 (up2 J 351 8 0) 351 3 1) 354 S) 352 f ∧ ∀ i, i < 269 → S i = f i)) NoX := by
  refine SJ_of_VJ (by decide +kernel) (Nat.le_of_ble_eq_true rfl) ?_
  show VJ g mX11_save 1 0 0 _ _ 0 [(0, .ref (g.2 351))] [] (sR J 352 f)
  have loop : ∀ (n9 : Nat) (k : Nat) (S : Nat → Nat), 269 - k = n9 → k ≤ 269 → (∀ i, i < k → S i = f i) → VJ g mX11_save 1 0 0 (Rp (f 0) (fun J2 => ∃ S, J2 = sR (sR (up2 (up2 J 351 8 0) 351 3 1) 354 S) 352 f ∧ ∀ i, i < 269 → S i = f i)) NoX 7 [(0, .ref (g.2 351)), (1, .int (nI k))] [] (sR (sR (up2 J 351 8 0) 354 S) 352 f) := by
    intro n9
    induction n9 using Nat.strongRecOn with
    | ind n9 ih =>
      intro k S hi hk hh
      refine J_iload_n 8 rfl dX11_save_7 rfl ?_
      refine J_sipush 11 269 rfl dX11_save_8 sc_269 ?_
      refine J_icmp_ge 32 14 (by decide) rfl dX11_save_11 (by omega) (by omega) (fun c11 => ?_) (fun c11 => ?_)
      · refine J_aload_n 33 rfl dX11_save_32 rfl ?_
        refine J_iconst 34 1 rfl dX11_save_33 ic_1 ?_
        refine p_X11_isSaved 37 (by omega) rfl dX11_save_34 lkX11_311 ?_
        rw [up2_out (by omega)]
        refine J_aload_n 38 rfl dX11_save_37 rfl ?_
        refine g_X11_m 41 rfl dX11_save_38 lkX11_9 ?_
        refine J_iconst 42 0 rfl dX11_save_41 ic_0 ?_
        refine J_mald 43 rfl dX11_save_42 (by omega) ?_
        refine J_iret rfl dX11_save_43 ?_
        exact ⟨rfl, S, by rw [up2_out (by omega)], fun i hi2 => hh i (by omega)⟩
      · refine J_aload_n 15 rfl dX11_save_14 rfl ?_
        refine g_X11_saved 18 rfl dX11_save_15 lkX11_16 ?_
        refine J_iload_n 19 rfl dX11_save_18 rfl ?_
        refine J_aload_n 20 rfl dX11_save_19 rfl ?_
        refine g_X11_m 23 rfl dX11_save_20 lkX11_9 ?_
        refine J_iload_n 24 rfl dX11_save_23 rfl ?_
        refine J_mald 25 rfl dX11_save_24 (by omega) ?_
        refine J_iast 26 rfl dX11_save_25 (sa_X11_saved) (by omega) ?_
        rw [up2_out (by omega)]
        refine J_iinc 29 1 rfl dX11_save_26 ic_1 rfl (Nat.le_of_ble_eq_true rfl) ?_
        refine J_goto 7 (by decide) dX11_save_29 ?_
        rw [up2_in]
        refine ih _ (by omega) (k + 1) _ rfl (by omega) (fun i hi2 => ?_)
        rw [up1_app]
        split
        · next z => rw [z]
        · exact hh i (by omega)
  refine J_aload_n 1 rfl dX11_save_0 rfl ?_
  refine J_iconst 2 0 rfl dX11_save_1 ic_0 ?_
  refine p_X11_thrown 5 rfl dX11_save_2 lkX11_57 ?_
  rw [up2_out (by omega)]
  refine J_iconst 6 0 rfl dX11_save_5 ic_0 ?_
  refine J_istore_n 7 rfl dX11_save_6 rfl (Nat.le_of_ble_eq_true rfl) ?_
  have z := loop _ 0 (J 354) rfl (by omega) (fun i hi => absurd hi (Nat.not_lt_zero _))
  rw [← up2_ne (J := J) (k := 351) (j := 8) (v := 0) (show 354 ≠ 351 by omega), sR_id] at z
  exact z

theorem S_X11_restore {g : Gn} {J : DJ} {f : Nat → Nat} {q : Nat} (hq : J 351 3 = q) (hq2 : q < 2) : SJ g mX11_restore 3 0 0 [.ref (g.2 351)] (sR J 352 f) (Re (fun r J2 => (q = 1 ∧ r = J 354 0 ∧ ∃ h, J2 = sR (up2 (up2 J 351 8 0) 351 5 0) 352 h ∧ ∀ i, i < 269 → h i = J 354 i) ∨ (q = 0 ∧ r = 4294967295 ∧ MNo (sR J 352 f) J2 1))) NoX := by
  refine SJ_of_VJ (by decide +kernel) (Nat.le_of_ble_eq_true rfl) ?_
  show VJ g mX11_restore 3 0 0 _ _ 0 [(0, .ref (g.2 351))] [] (sR J 352 f)
  have loop : q = 1 → ∀ (n9 : Nat) (k : Nat) (h : Nat → Nat), 269 - k = n9 → k ≤ 269 → (∀ i, i < k → h i = J 354 i) → VJ g mX11_restore 3 0 0 (Re (fun r J2 => (q = 1 ∧ r = J 354 0 ∧ ∃ h, J2 = sR (up2 (up2 J 351 8 0) 351 5 0) 352 h ∧ ∀ i, i < 269 → h i = J 354 i) ∨ (q = 0 ∧ r = 4294967295 ∧ MNo (sR J 352 f) J2 1))) NoX 20 [(0, .ref (g.2 351)), (1, .int (nI k))] [] (sR (up2 J 351 8 0) 352 h) := by
    intro hq1 n9
    induction n9 using Nat.strongRecOn with
    | ind n9 ih =>
      intro k h hi hk hh
      refine J_iload_n 21 rfl dX11_restore_20 rfl ?_
      refine J_sipush 24 269 rfl dX11_restore_21 sc_269 ?_
      refine J_icmp_ge 45 27 (by decide) rfl dX11_restore_24 (by omega) (by omega) (fun c24 => ?_) (fun c24 => ?_)
      · refine J_aload_n 46 rfl dX11_restore_45 rfl ?_
        refine J_iconst 47 0 rfl dX11_restore_46 ic_0 ?_
        refine p_X11_changes 50 rfl dX11_restore_47 lkX11_60 ?_
        rw [up2_out (by omega)]
        refine J_aload_n 51 rfl dX11_restore_50 rfl ?_
        refine g_X11_m 54 rfl dX11_restore_51 lkX11_9 ?_
        refine J_iconst 55 0 rfl dX11_restore_54 ic_0 ?_
        refine J_mald 56 rfl dX11_restore_55 (by omega) ?_
        refine J_cv (b := J 354 0) (hh 0 (by omega)) ?_
        refine J_iret rfl dX11_restore_56 ?_
        exact ⟨_, rfl, Or.inl ⟨hq1, rfl, h, rfl, fun i hi2 => hh i (by omega)⟩⟩
      · refine J_aload_n 28 rfl dX11_restore_27 rfl ?_
        refine g_X11_m 31 rfl dX11_restore_28 lkX11_9 ?_
        refine J_iload_n 32 rfl dX11_restore_31 rfl ?_
        refine J_aload_n 33 rfl dX11_restore_32 rfl ?_
        refine g_X11_saved 36 rfl dX11_restore_33 lkX11_16 ?_
        refine J_iload_n 37 rfl dX11_restore_36 rfl ?_
        refine J_iald 38 rfl dX11_restore_37 (sa_X11_saved) (by omega) ?_
        refine J_cv (b := J 354 k) (by rw [sR_ne (by omega), up2_ne (by omega)]) ?_
        refine J_mast 39 rfl dX11_restore_38 (by omega) ?_
        refine J_iinc 42 1 rfl dX11_restore_39 ic_1 rfl (Nat.le_of_ble_eq_true rfl) ?_
        refine J_goto 20 (by decide) dX11_restore_42 ?_
        refine ih _ (by omega) (k + 1) _ rfl (by omega) (fun i hi2 => ?_)
        rw [up1_app]
        split
        · next z => rw [z]
        · exact hh i (by omega)
  refine J_aload_n 1 rfl dX11_restore_0 rfl ?_
  refine J_iconst 2 0 rfl dX11_restore_1 ic_0 ?_
  refine p_X11_thrown 5 rfl dX11_restore_2 lkX11_57 ?_
  rw [up2_out (by omega)]
  refine J_aload_n 6 rfl dX11_restore_5 rfl ?_
  refine g_X11_isSaved 9 rfl dX11_restore_6 lkX11_311 ?_
  refine J_cv (b := q) (by rw [sR_ne (by omega), up2_app, if_neg (by omega), hq]) ?_
  refine J_if_ne 18 12 (by decide) rfl dX11_restore_9 (by omega) (fun c9 => ?_) (fun c9 => ?_)
  · skip
    refine J_iconst 19 0 rfl dX11_restore_18 ic_0 ?_
    refine J_istore_n 20 rfl dX11_restore_19 rfl (Nat.le_of_ble_eq_true rfl) ?_
    exact loop (by omega) _ 0 f rfl (by omega) (fun i hi => absurd hi (Nat.not_lt_zero _))
  · skip
    refine J_aload_n 13 rfl dX11_restore_12 rfl ?_
    refine J_iconst 14 1 rfl dX11_restore_13 ic_1 ?_
    refine J_callVi (As := [_]) 17 _ rfl kalX11_throwing lkX11_125 dX11_restore_14 (lt_X11) (so_X11) rfl rfl rfl (by exact Nat.le_of_ble_eq_true rfl) (by omega) (S_X11_throwing) ?_
    refine J_iret rfl dX11_restore_17 ?_
    refine ⟨_, rfl, Or.inr ⟨by omega, rfl, ?_⟩⟩
    rw [up2_out (by omega)]
    exact MNo_2 rfl

def AEq (N : Nat) (T U : Nat → Nat) : Prop := ∀ i, i < N → U i = T i
theorem eoX_1 {n ev S l : Nat} {T : Nat → Nat} (ho : S % 2 = 1) : eoX n ev T S l 1 = T := by
  simp only [eoX]
  unfold eoS
  have : S.testBit 0 = true := by rw [Nat.testBit_zero]; simp [ho]
  rw [if_neg (fun z => by rw [this] at z; exact absurd z.1 (by decide))]
theorem MNo_c {J : DJ} {f O : Nat → Nat} {c : Nat} (hc : 357 ≤ c ∧ c < 361) : MNo (sR J 352 f) (sR (sR (up2 J 351 8 0) c O) 352 f) 0 := by
  have e : sR (sR (up2 J 351 8 0) c O) 352 f = sR (up2 (sR J 352 f) 351 8 0) c O := by
    rw [up2_out (by omega), sR_comm (by omega)]
  rw [e]
  exact (MNo.rf.th).sc (Or.inr hc)
theorem S_X11_evenOrders {g : Gn} {J : DJ} {f : Nat → Nat} {B e v : Nat} (hw : WF f B) (hB9 : B < 600000000) (h_e : e < 4294967296) (h_v : v < 4294967296) : SJ g mX11_evenOrders 3 0 0 [.ref (g.2 351), .int (nI (e)), .int (nI (v))] (sR J 352 f) (MoQ (sR J 352 f) (qEv f e v) (qEv f e v) (eoR (f (7 + 52 * e)) v)) NoX := by
  have h0 := hw.1
  have h2 := hw.2.1
  have h3 := hw.2.2.1
  have hO := hw.2.2.2.2.2.1
  have h4 := hw.2.2.2.2.1.1
  have hB := hw.2.2.2.2.2.2.2.2.1
  refine SJ_of_VJ (by decide +kernel) (Nat.le_of_ble_eq_true rfl) ?_
  show VJ g mX11_evenOrders 3 0 0 _ _ 0 [(0, .ref (g.2 351)), (1, .int (nI (e))), (2, .int (nI (v)))] [] (sR J 352 f)
  have main : ∀ (n : Nat), n = (f (7 + 52 * e)) → 3 ≤ n → n ≤ 8 → 1 ≤ v → v ≤ 4 → e < f 0 → VJ g mX11_evenOrders 3 0 0 (MoQ (sR J 352 f) (qEv f e v) (qEv f e v) (eoR (f (7 + 52 * e)) v)) NoX 43 [(0, .ref (g.2 351)), (1, .int (nI e)), (2, .int (nI v)), (3, .int (nI n))] [] (sR (up2 J 351 8 0) 352 f) := by
    intro n hn n3 n8 v1 v4 hef
    have zq : qEv f e v = 0 := by unfold qEv; rw [if_pos hef, if_pos ⟨v1, v4⟩]
    have p8 : 2 ^ n ≤ 256 := Nat.le_trans (Nat.pow_le_pow_right (by omega) n8) (by decide)
    have pp := Nat.two_pow_pos n
    have p2 : 2 ^ n = 2 * 2 ^ (n - 1) := by rw [show n = (n - 1) + 1 by omega, Nat.pow_succ]; simp; omega
    have fin : ∀ (n9 : Nat) (k : Nat) (O : Nat → Nat), n - k = n9 → 1 ≤ k → k ≤ n → AEq (2 ^ n * 8) (eoT n v (2 ^ (n - 1))) O → VJ g mX11_evenOrders 3 0 0 (MoQ (sR J 352 f) (qEv f e v) (qEv f e v) (eoR (f (7 + 52 * e)) v)) NoX 188 [(0, .ref (g.2 351)), (1, .int (nI e)), (2, .int (nI v)), (3, .int (nI n)), (4, .int (nI (eoE n v (eoT n v (2 ^ (n - 1))) k))), (5, .int (nI k))] [] (sR (sR (up2 J 351 8 0) 360 O) 352 f) := by
      intro n9
      induction n9 using Nat.strongRecOn with
      | ind n9 ih =>
        intro k O hi hk1 hk hO2
        have db := dist_le k 0 n
        have st : eoE n v (eoT n v (2 ^ (n - 1))) (k + 1) = eoE n v (eoT n v (2 ^ (n - 1))) k + (if 1 ≤ k ∧ v ≤ dist k 0 n then (eoT n v (2 ^ (n - 1))) ((2 ^ n - 1) * 8 + k) else 0) := rfl
        refine J_iload 190 rfl dX11_evenOrders_188 rfl ?_
        refine J_iload_n 191 rfl dX11_evenOrders_190 rfl ?_
        refine J_icmp_ge 236 194 (by decide) rfl dX11_evenOrders_191 (by omega) (by omega) (fun c191 => ?_) (fun c191 => ?_)
        · refine J_iload 238 rfl dX11_evenOrders_236 rfl ?_
          refine J_iret rfl dX11_evenOrders_238 ?_
          have e9 : k = n := by omega
          subst e9
          refine ⟨_, rfl, Or.inl ⟨zq, ?_, MNo_c (by omega)⟩⟩
          rw [← hn]
          rfl
        · refine J_iload 196 rfl dX11_evenOrders_194 rfl ?_
          refine J_iload 198 rfl dX11_evenOrders_196 rfl ?_
          refine J_iconst 199 0 rfl dX11_evenOrders_198 ic_0 ?_
          refine J_iload_n 200 rfl dX11_evenOrders_199 rfl ?_
          refine J_callSi (As := [_, _, _]) 203 rfl kalX11_far lkX11_212 dX11_evenOrders_200 rfl rfl (by exact Nat.le_of_ble_eq_true rfl) (by omega) (S_X11_far (by omega) (by omega) (by omega)) ?_
          refine J_iload_n 204 rfl dX11_evenOrders_203 rfl ?_
          refine J_icmp_lt 226 207 (by decide) rfl dX11_evenOrders_204 (by omega) (by omega) (fun c204 => ?_) (fun c204 => ?_)
          · refine J_iconst 227 0 rfl dX11_evenOrders_226 ic_0 ?_
            refine J_iadd 228 rfl dX11_evenOrders_227 ?_
            refine J_istore 230 rfl dX11_evenOrders_228 (Nat.le_of_ble_eq_true rfl) ?_
            refine J_iinc 233 1 rfl dX11_evenOrders_230 ic_1 rfl (Nat.le_of_ble_eq_true rfl) ?_
            refine J_goto 188 (by decide) dX11_evenOrders_233 ?_
            have z := ih _ (by omega) (k + 1) O rfl (by omega) (by omega) hO2
            rw [st] at z
            first
              | (rw [if_pos ⟨by omega, by omega⟩] at z; exact z)
              | (rw [if_neg (by omega)] at z; exact z)
          · refine J_aload_n 208 rfl dX11_evenOrders_207 rfl ?_
            refine g_X11_orders 211 rfl dX11_evenOrders_208 lkX11_41 ?_
            refine J_bipush 213 8 rfl dX11_evenOrders_211 bc_8 ?_
            refine J_iconst 214 1 rfl dX11_evenOrders_213 ic_1 ?_
            refine J_iload_n 215 rfl dX11_evenOrders_214 rfl ?_
            refine J_ishl 216 (2 ^ n) rfl dX11_evenOrders_215 (sh1 n (by omega)) ?_
            refine J_iconst 217 1 rfl dX11_evenOrders_216 ic_1 ?_
            refine J_isub 218 rfl dX11_evenOrders_217 (by omega) ?_
            refine J_imul 219 rfl dX11_evenOrders_218 ?_
            refine J_iload 221 rfl dX11_evenOrders_219 rfl ?_
            refine J_iadd 222 rfl dX11_evenOrders_221 ?_
            refine J_iald 223 rfl dX11_evenOrders_222 (sa_X11_orders) (by omega) ?_
            refine J_cv (b := (eoT n v (2 ^ (n - 1))) ((2 ^ n - 1) * 8 + k)) (by rw [sR_ne (by omega), sR_at, Nat.mul_comm 8]; exact hO2 _ (by omega)) ?_
            refine J_goto 227 (by decide) dX11_evenOrders_223 ?_
            refine J_iadd 228 rfl dX11_evenOrders_227 ?_
            refine J_istore 230 rfl dX11_evenOrders_228 (Nat.le_of_ble_eq_true rfl) ?_
            refine J_iinc 233 1 rfl dX11_evenOrders_230 ic_1 rfl (Nat.le_of_ble_eq_true rfl) ?_
            refine J_goto 188 (by decide) dX11_evenOrders_233 ?_
            have z := ih _ (by omega) (k + 1) O rfl (by omega) (by omega) hO2
            rw [st] at z
            first
              | (rw [if_pos ⟨by omega, by omega⟩] at z; exact z)
              | (rw [if_neg (by omega)] at z; exact z)
    have outer : ∀ (n9 : Nat) (j : Nat) (S : Nat) (O : Nat → Nat), 2 ^ (n - 1) - j = n9 → j ≤ 2 ^ (n - 1) → S = 2 * j + 1 → AEq (2 ^ n * 8) (eoT n v j) O → VJ g mX11_evenOrders 3 0 0 (MoQ (sR J 352 f) (qEv f e v) (qEv f e v) (eoR (f (7 + 52 * e)) v)) NoX 82 [(0, .ref (g.2 351)), (1, .int (nI e)), (2, .int (nI v)), (3, .int (nI n)), (4, .int (nI S))] [] (sR (sR (up2 J 351 8 0) 360 O) 352 f) := by
      intro n9
      induction n9 using Nat.strongRecOn with
      | ind n9 ih =>
        intro j S O hi hj hS hO2
        have mid : j < 2 ^ (n - 1) → ∀ (m9 : Nat) (l : Nat) (O : Nat → Nat), n - l = m9 → l ≤ n → AEq (2 ^ n * 8) (eoL n v (eoT n v j) S l) O → VJ g mX11_evenOrders 3 0 0 (MoQ (sR J 352 f) (qEv f e v) (qEv f e v) (eoR (f (7 + 52 * e)) v)) NoX 93 [(0, .ref (g.2 351)), (1, .int (nI e)), (2, .int (nI v)), (3, .int (nI n)), (4, .int (nI S)), (5, .int (nI l))] [] (sR (sR (up2 J 351 8 0) 360 O) 352 f) := by
          intro hjl m9
          induction m9 using Nat.strongRecOn with
          | ind m9 ih2 =>
            intro l O hi2 hl hO3
            have inner : l < n → ∀ (l9 : Nat) (x : Nat) (O : Nat → Nat), n - x = l9 → 1 ≤ x → x ≤ n → AEq (2 ^ n * 8) (eoX n v (eoL n v (eoT n v j) S l) S l x) O → VJ g mX11_evenOrders 3 0 0 (MoQ (sR J 352 f) (qEv f e v) (qEv f e v) (eoR (f (7 + 52 * e)) v)) NoX 102 [(0, .ref (g.2 351)), (1, .int (nI e)), (2, .int (nI v)), (3, .int (nI n)), (4, .int (nI S)), (5, .int (nI l)), (6, .int (nI x))] [] (sR (sR (up2 J 351 8 0) 360 O) 352 f) := by
              intro hln l9
              induction l9 using Nat.strongRecOn with
              | ind l9 ih3 =>
                intro x O hi3 hx1 hx hO4
                have sb := fun h : x < 8 => shr_bit x h S (by omega)
                have db := dist_le l x n
                have px := fun h : x < n => or_lt (show S < 2 ^ n by omega) h
                have stp : eoX n v (eoL n v (eoT n v j) S l) S l (x + 1) = eoS n v (eoX n v (eoL n v (eoT n v j) S l) S l x) S l x := rfl
                refine J_iload 104 rfl dX11_evenOrders_102 rfl ?_
                refine J_iload_n 105 rfl dX11_evenOrders_104 rfl ?_
                refine J_icmp_ge 170 108 (by decide) rfl dX11_evenOrders_105 (by omega) (by omega) (fun c105 => ?_) (fun c105 => ?_)
                · refine J_iinc 173 1 rfl dX11_evenOrders_170 ic_1 rfl (Nat.le_of_ble_eq_true rfl) ?_
                  refine J_goto 93 (by decide) dX11_evenOrders_173 ?_
                  refine J_keep [0, 1, 2, 3, 4, 5] ?_
                  have e9 : x = n := by omega
                  subst e9
                  exact ih2 _ (by omega) (l + 1) O rfl (by omega) hO4
                · refine J_iload 110 rfl dX11_evenOrders_108 rfl ?_
                  refine J_iload 112 rfl dX11_evenOrders_110 rfl ?_
                  refine J_ishr 113 (S / 2 ^ x) rfl dX11_evenOrders_112 (sb (by omega)).1 ?_
                  refine J_iconst 114 1 rfl dX11_evenOrders_113 ic_1 ?_
                  refine J_iand 115 (if S.testBit x then 1 else 0) rfl dX11_evenOrders_114 (sb (by omega)).2 ?_
                  refine J_if_ne 164 118 (by decide) rfl dX11_evenOrders_115 (by split <;> omega) (fun c115 => ?_) (fun c115 => ?_)
                  · refine J_iinc 167 1 rfl dX11_evenOrders_164 ic_1 rfl (Nat.le_of_ble_eq_true rfl) ?_
                    refine J_goto 102 (by decide) dX11_evenOrders_167 ?_
                    have wb : S.testBit x = true ∨ S.testBit x = false := by cases S.testBit x <;> simp
                    first
                      | (have tb : S.testBit x = false := by
                           rcases wb with z | z
                           · rw [if_pos z] at c115; omega
                           · exact z
                         rw [up2_in]
                         refine ih3 _ (by omega) (x + 1) _ rfl (by omega) (by omega) (fun i hi4 => ?_)
                         rw [stp]
                         unfold eoS
                         have pl := px (by omega)
                         rw [if_pos ⟨tb, by omega⟩, up1_app, up1_app, hO4 _ (show 8 * (S ||| 2 ^ x) + x < 2 ^ n * 8 by omega), hO4 _ (show 8 * S + l < 2 ^ n * 8 by omega), Nat.mul_comm 8 (S ||| 2 ^ x), Nat.mul_comm 8 S]
                         split
                         · rfl
                         · exact hO4 i hi4)
                      | (refine ih3 _ (by omega) (x + 1) O rfl (by omega) (by omega) ?_
                         rw [stp]
                         unfold eoS
                         rw [if_neg (fun z => by
                           have z1 := z.1
                           have z2 := z.2
                           first
                             | omega
                             | (rw [if_neg (by rw [z1]; decide)] at c115; omega))]
                         exact hO4)
                  · refine J_iload 120 rfl dX11_evenOrders_118 rfl ?_
                    refine J_iload 122 rfl dX11_evenOrders_120 rfl ?_
                    refine J_iload_n 123 rfl dX11_evenOrders_122 rfl ?_
                    refine J_callSi (As := [_, _, _]) 126 rfl kalX11_far lkX11_212 dX11_evenOrders_123 rfl rfl (by exact Nat.le_of_ble_eq_true rfl) (by omega) (S_X11_far (by omega) (by omega) (by omega)) ?_
                    refine J_iload_n 127 rfl dX11_evenOrders_126 rfl ?_
                    refine J_icmp_lt 164 130 (by decide) rfl dX11_evenOrders_127 (by omega) (by omega) (fun c127 => ?_) (fun c127 => ?_)
                    · refine J_iinc 167 1 rfl dX11_evenOrders_164 ic_1 rfl (Nat.le_of_ble_eq_true rfl) ?_
                      refine J_goto 102 (by decide) dX11_evenOrders_167 ?_
                      have wb : S.testBit x = true ∨ S.testBit x = false := by cases S.testBit x <;> simp
                      first
                        | (have tb : S.testBit x = false := by
                             rcases wb with z | z
                             · rw [if_pos z] at c115; omega
                             · exact z
                           rw [up2_in]
                           refine ih3 _ (by omega) (x + 1) _ rfl (by omega) (by omega) (fun i hi4 => ?_)
                           rw [stp]
                           unfold eoS
                           have pl := px (by omega)
                           rw [if_pos ⟨tb, by omega⟩, up1_app, up1_app, hO4 _ (show 8 * (S ||| 2 ^ x) + x < 2 ^ n * 8 by omega), hO4 _ (show 8 * S + l < 2 ^ n * 8 by omega), Nat.mul_comm 8 (S ||| 2 ^ x), Nat.mul_comm 8 S]
                           split
                           · rfl
                           · exact hO4 i hi4)
                        | (refine ih3 _ (by omega) (x + 1) O rfl (by omega) (by omega) ?_
                           rw [stp]
                           unfold eoS
                           rw [if_neg (fun z => by
                             have z1 := z.1
                             have z2 := z.2
                             first
                               | omega
                               | (rw [if_neg (by rw [z1]; decide)] at c115; omega))]
                           exact hO4)
                    · refine J_aload_n 131 rfl dX11_evenOrders_130 rfl ?_
                      refine g_X11_orders 134 rfl dX11_evenOrders_131 lkX11_41 ?_
                      refine J_bipush 136 8 rfl dX11_evenOrders_134 bc_8 ?_
                      refine J_iload 138 rfl dX11_evenOrders_136 rfl ?_
                      refine J_iconst 139 1 rfl dX11_evenOrders_138 ic_1 ?_
                      refine J_iload 141 rfl dX11_evenOrders_139 rfl ?_
                      refine J_ishl 142 (2 ^ x) rfl dX11_evenOrders_141 (sh1 x (by omega)) ?_
                      refine J_ior 143 (S ||| 2 ^ x) rfl dX11_evenOrders_142 (or_bit x (by omega) S (by omega)).1 ?_
                      refine J_imul 144 rfl dX11_evenOrders_143 ?_
                      refine J_iload 146 rfl dX11_evenOrders_144 rfl ?_
                      refine J_iadd 147 rfl dX11_evenOrders_146 ?_
                      refine J_dup2 148 rfl dX11_evenOrders_147 rfl rfl ?_
                      refine J_iald 149 rfl dX11_evenOrders_148 (sa_X11_orders) (by have := px (by omega); omega) ?_
                      refine J_cv (b := O (8 * (S ||| 2 ^ x) + x)) (by rw [sR_ne (by omega), sR_at]) ?_
                      refine J_aload_n 150 rfl dX11_evenOrders_149 rfl ?_
                      refine g_X11_orders 153 rfl dX11_evenOrders_150 lkX11_41 ?_
                      refine J_bipush 155 8 rfl dX11_evenOrders_153 bc_8 ?_
                      refine J_iload 157 rfl dX11_evenOrders_155 rfl ?_
                      refine J_imul 158 rfl dX11_evenOrders_157 ?_
                      refine J_iload 160 rfl dX11_evenOrders_158 rfl ?_
                      refine J_iadd 161 rfl dX11_evenOrders_160 ?_
                      refine J_iald 162 rfl dX11_evenOrders_161 (sa_X11_orders) (by omega) ?_
                      refine J_cv (b := O (8 * S + l)) (by rw [sR_ne (by omega), sR_at]) ?_
                      refine J_iadd 163 rfl dX11_evenOrders_162 ?_
                      refine J_iast 164 rfl dX11_evenOrders_163 (sa_X11_orders) (by have := px (by omega); omega) ?_
                      rw [up2_out (by omega)]
                      refine J_iinc 167 1 rfl dX11_evenOrders_164 ic_1 rfl (Nat.le_of_ble_eq_true rfl) ?_
                      refine J_goto 102 (by decide) dX11_evenOrders_167 ?_
                      have wb : S.testBit x = true ∨ S.testBit x = false := by cases S.testBit x <;> simp
                      first
                        | (have tb : S.testBit x = false := by
                             rcases wb with z | z
                             · rw [if_pos z] at c115; omega
                             · exact z
                           rw [up2_in]
                           refine ih3 _ (by omega) (x + 1) _ rfl (by omega) (by omega) (fun i hi4 => ?_)
                           rw [stp]
                           unfold eoS
                           have pl := px (by omega)
                           rw [if_pos ⟨tb, by omega⟩, up1_app, up1_app, hO4 _ (show 8 * (S ||| 2 ^ x) + x < 2 ^ n * 8 by omega), hO4 _ (show 8 * S + l < 2 ^ n * 8 by omega), Nat.mul_comm 8 (S ||| 2 ^ x), Nat.mul_comm 8 S]
                           split
                           · rfl
                           · exact hO4 i hi4)
                        | (refine ih3 _ (by omega) (x + 1) O rfl (by omega) (by omega) ?_
                           rw [stp]
                           unfold eoS
                           rw [if_neg (fun z => by
                             have z1 := z.1
                             have z2 := z.2
                             first
                               | omega
                               | (rw [if_neg (by rw [z1]; decide)] at c115; omega))]
                           exact hO4)
            refine J_iload 95 rfl dX11_evenOrders_93 rfl ?_
            refine J_iload_n 96 rfl dX11_evenOrders_95 rfl ?_
            refine J_icmp_ge 176 99 (by decide) rfl dX11_evenOrders_96 (by omega) (by omega) (fun c96 => ?_) (fun c96 => ?_)
            · refine J_keep [0, 1, 2, 3, 4, 5] ?_
              refine J_keep [0, 1, 2, 3, 4] ?_
              have e9 : l = n := by omega
              subst e9
              refine J_iinc 179 2 rfl dX11_evenOrders_176 ic_2 rfl (Nat.le_of_ble_eq_true rfl) ?_
              refine J_goto 82 (by decide) dX11_evenOrders_179 ?_
              exact ih _ (by omega) (j + 1) (S + 2) O rfl (by omega) (by omega) (by have z := hO3; rw [hS] at z; exact z)
            · refine J_iconst 100 1 rfl dX11_evenOrders_99 ic_1 ?_
              refine J_istore 102 rfl dX11_evenOrders_100 (Nat.le_of_ble_eq_true rfl) ?_
              exact inner (by omega) _ 1 O rfl (by omega) (by omega) (by rw [eoX_1 (by omega)]; exact hO3)
        refine J_iload 84 rfl dX11_evenOrders_82 rfl ?_
        refine J_iconst 85 1 rfl dX11_evenOrders_84 ic_1 ?_
        refine J_iload_n 86 rfl dX11_evenOrders_85 rfl ?_
        refine J_ishl 87 (2 ^ n) rfl dX11_evenOrders_86 (sh1 n (by omega)) ?_
        refine J_icmp_ge 182 90 (by decide) rfl dX11_evenOrders_87 (by omega) (by omega) (fun c87 => ?_) (fun c87 => ?_)
        · refine J_iconst 183 0 rfl dX11_evenOrders_182 ic_0 ?_
          refine J_istore 185 rfl dX11_evenOrders_183 (Nat.le_of_ble_eq_true rfl) ?_
          refine J_iconst 186 1 rfl dX11_evenOrders_185 ic_1 ?_
          refine J_istore 188 rfl dX11_evenOrders_186 (Nat.le_of_ble_eq_true rfl) ?_
          refine J_keep [0, 1, 2, 3, 4, 5] ?_
          have e9 : j = 2 ^ (n - 1) := by omega
          subst e9
          exact fin _ 1 O rfl (by omega) (by omega) hO2
        · refine J_iconst 91 0 rfl dX11_evenOrders_90 ic_0 ?_
          refine J_istore 93 rfl dX11_evenOrders_91 (Nat.le_of_ble_eq_true rfl) ?_
          exact mid (by omega) _ 0 O rfl (Nat.zero_le _) hO2
    have init : ∀ (n9 : Nat) (k : Nat) (O : Nat → Nat), 2048 - k = n9 → k ≤ 2048 → (∀ i, i < k → O i = if i = 8 then 1 else 0) → VJ g mX11_evenOrders 3 0 0 (MoQ (sR J 352 f) (qEv f e v) (qEv f e v) (eoR (f (7 + 52 * e)) v)) NoX 46 [(0, .ref (g.2 351)), (1, .int (nI e)), (2, .int (nI v)), (3, .int (nI n)), (4, .int (nI k))] [] (sR (sR (up2 J 351 8 0) 360 O) 352 f) := by
      intro n9
      induction n9 using Nat.strongRecOn with
      | ind n9 ih =>
        intro k O hi hk hO2
        refine J_iload 48 rfl dX11_evenOrders_46 rfl ?_
        refine J_sipush 51 2048 rfl dX11_evenOrders_48 sc_2048 ?_
        refine J_icmp_ge 79 54 (by decide) rfl dX11_evenOrders_51 (by omega) (by omega) (fun c51 => ?_) (fun c51 => ?_)
        · refine J_iconst 80 1 rfl dX11_evenOrders_79 ic_1 ?_
          refine J_istore 82 rfl dX11_evenOrders_80 (Nat.le_of_ble_eq_true rfl) ?_
          exact outer _ 0 1 O rfl (Nat.zero_le _) rfl (fun i hi2 => hO2 i (by omega))
        · refine J_aload_n 55 rfl dX11_evenOrders_54 rfl ?_
          refine g_X11_orders 58 rfl dX11_evenOrders_55 lkX11_41 ?_
          refine J_iload 60 rfl dX11_evenOrders_58 rfl ?_
          refine J_iload 62 rfl dX11_evenOrders_60 rfl ?_
          refine J_bipush 64 8 rfl dX11_evenOrders_62 bc_8 ?_
          refine J_icmp_ne 71 67 (by decide) rfl dX11_evenOrders_64 (by omega) (by omega) (fun c64 => ?_) (fun c64 => ?_)
          · refine J_iconst 72 0 rfl dX11_evenOrders_71 ic_0 ?_
            refine J_iast 73 rfl dX11_evenOrders_72 (sa_X11_orders) (by omega) ?_
            rw [up2_out (by omega)]
            refine J_iinc 76 1 rfl dX11_evenOrders_73 ic_1 rfl (Nat.le_of_ble_eq_true rfl) ?_
            refine J_goto 46 (by decide) dX11_evenOrders_76 ?_
            rw [up2_in]
            refine ih _ (by omega) (k + 1) _ rfl (by omega) (fun i hi2 => ?_)
            rw [up1_app]
            by_cases z : i = k
            · rw [if_pos z]
              first
                | rw [if_pos (show i = 8 by omega)]
                | rw [if_neg (show ¬ i = 8 by omega)]
            · rw [if_neg z]
              exact hO2 i (by omega)
          · refine J_iconst 68 1 rfl dX11_evenOrders_67 ic_1 ?_
            refine J_goto 72 (by decide) dX11_evenOrders_68 ?_
            refine J_iast 73 rfl dX11_evenOrders_72 (sa_X11_orders) (by omega) ?_
            rw [up2_out (by omega)]
            refine J_iinc 76 1 rfl dX11_evenOrders_73 ic_1 rfl (Nat.le_of_ble_eq_true rfl) ?_
            refine J_goto 46 (by decide) dX11_evenOrders_76 ?_
            rw [up2_in]
            refine ih _ (by omega) (k + 1) _ rfl (by omega) (fun i hi2 => ?_)
            rw [up1_app]
            by_cases z : i = k
            · rw [if_pos z]
              first
                | rw [if_pos (show i = 8 by omega)]
                | rw [if_neg (show ¬ i = 8 by omega)]
            · rw [if_neg z]
              exact hO2 i (by omega)
    refine J_iconst 44 0 rfl dX11_evenOrders_43 ic_0 ?_
    refine J_istore 46 rfl dX11_evenOrders_44 (Nat.le_of_ble_eq_true rfl) ?_
    have z := init _ 0 (J 360) rfl (by omega) (fun i hi => absurd hi (Nat.not_lt_zero _))
    rw [← up2_ne (J := J) (k := 351) (j := 8) (v := 0) (show 360 ≠ 351 by omega), sR_id] at z
    exact z
  refine J_aload_n 1 rfl dX11_evenOrders_0 rfl ?_
  refine J_iconst 2 0 rfl dX11_evenOrders_1 ic_0 ?_
  refine p_X11_thrown 5 rfl dX11_evenOrders_2 lkX11_57 ?_
  rw [up2_out (by omega)]
  refine J_aload_n 6 rfl dX11_evenOrders_5 rfl ?_
  refine J_iload_n 7 rfl dX11_evenOrders_6 rfl ?_
  refine J_callVi (As := [_]) 10 _ rfl kalX11_isEngine lkX11_71 dX11_evenOrders_7 (lt_X11) (so_X11) rfl rfl rfl (by exact Nat.le_of_ble_eq_true rfl) (by omega) (S_X11_isEngine (by assumption) h0) ?_
  refine J_ifb_ne (hdp := _) 19 13 (by decide) rfl dX11_evenOrders_10 (fun c10 => ?_) (fun c10 => ?_)
  · refine J_iload_n 20 rfl dX11_evenOrders_19 rfl ?_
    refine J_i2l 21 _ rfl dX11_evenOrders_20 rfl ?_
    refine J_lconst 22 _ rfl dX11_evenOrders_21 rfl ?_
    refine J_ldc2 25 rfl dX11_evenOrders_22 lkX11_215 ?_
    refine J_callSi (As := [_, _, _]) 28 rfl kalX11_in lkX11_63 dX11_evenOrders_25 rfl rfl (by exact Nat.le_of_ble_eq_true rfl) (by omega) (S_in_le 1 4 (by decide) (by decide) h_v (by omega) (by omega)) ?_
    refine J_ifb_ne (hdp := _) 37 31 (by decide) rfl dX11_evenOrders_28 (fun c28 => ?_) (fun c28 => ?_)
    · refine J_aload_n 38 rfl dX11_evenOrders_37 rfl ?_
      refine J_iload_n 39 rfl dX11_evenOrders_38 rfl ?_
      refine J_callVi (As := [_]) 42 _ rfl kalX11_many lkX11_75 dX11_evenOrders_39 (lt_X11) (so_X11) rfl rfl rfl (by exact Nat.le_of_ble_eq_true rfl) (by omega) (S_X11_many (by omega)) ?_
      refine J_istore_n 43 rfl dX11_evenOrders_42 rfl (Nat.le_of_ble_eq_true rfl) ?_
      exact main _ rfl (hO e (by omega)).1 (hO e (by omega)).2.1 (by omega) (by omega) (by omega)
    · refine J_aload_n 32 rfl dX11_evenOrders_31 rfl ?_
      refine J_iconst 33 2 rfl dX11_evenOrders_32 ic_2 ?_
      refine J_callVi (As := [_]) 36 _ rfl kalX11_throwing lkX11_125 dX11_evenOrders_33 (lt_X11) (so_X11) rfl rfl rfl (by exact Nat.le_of_ble_eq_true rfl) (by omega) (S_X11_throwing) ?_
      refine J_iret rfl dX11_evenOrders_36 ?_
      refine ⟨_, rfl, Or.inr ⟨by unfold qEv; (repeat' split) <;> omega, rfl, ?_⟩⟩
      rw [up2_out (by omega)]
      exact MNo_2 (by first | rfl | (unfold qEv; (repeat' split) <;> omega))
  · refine J_aload_n 14 rfl dX11_evenOrders_13 rfl ?_
    refine J_iconst 15 1 rfl dX11_evenOrders_14 ic_1 ?_
    refine J_callVi (As := [_]) 18 _ rfl kalX11_throwing lkX11_125 dX11_evenOrders_15 (lt_X11) (so_X11) rfl rfl rfl (by exact Nat.le_of_ble_eq_true rfl) (by omega) (S_X11_throwing) ?_
    refine J_iret rfl dX11_evenOrders_18 ?_
    refine ⟨_, rfl, Or.inr ⟨by unfold qEv; (repeat' split) <;> omega, rfl, ?_⟩⟩
    rw [up2_out (by omega)]
    exact MNo_2 (by first | rfl | (unfold qEv; (repeat' split) <;> omega))

theorem S_X11_evenOrdersByTrying {g : Gn} {J : DJ} {f : Nat → Nat} {B : Nat} (hw : WF f B) (hB9 : B < 600000000) {e : Nat} {v : Nat} (h_e : e < 4294967296) (h_v : v < 4294967296) : SJ g mX11_evenOrdersByTrying 4 0 0 [.ref (g.2 351), .int (nI (e)), .int (nI (v))] (sR J 352 f) (MoQ (sR J 352 f) (qEv f e v) (qEv f e v) (eoR (f (7 + 52 * e)) v)) NoX := by
  have h0 := hw.1
  have h2 := hw.2.1
  have h3 := hw.2.2.1
  have hO := hw.2.2.2.2.2.1
  have h4 := hw.2.2.2.2.1.1
  have hB := hw.2.2.2.2.2.2.2.2.1
  refine SJ_of_VJ (by decide +kernel) (Nat.le_of_ble_eq_true rfl) ?_
  show VJ g mX11_evenOrdersByTrying 4 0 0 _ _ 0 [(0, .ref (g.2 351)), (1, .int (nI (e))), (2, .int (nI (v)))] [] (sR J 352 f)
  refine J_aload_n 1 rfl dX11_evenOrdersByTrying_0 rfl ?_
  refine J_iload_n 2 rfl dX11_evenOrdersByTrying_1 rfl ?_
  refine J_iload_n 3 rfl dX11_evenOrdersByTrying_2 rfl ?_
  refine J_callVie (As := [_, _]) 6 _ rfl kalX11_evenOrders lkX11_217 dX11_evenOrdersByTrying_3 (lt_X11) (so_X11) rfl rfl rfl (by exact Nat.le_of_ble_eq_true rfl) (by omega) (S_X11_evenOrders hw hB9 h_e h_v) (fun r3 J3 q3 => ?_)
  refine J_iret rfl dX11_evenOrdersByTrying_6 ?_
  exact ⟨_, rfl, q3⟩

