/-! THE MODEL: append, a command done, execute (laid by wip/whole/src/p69b.py) -/
theorem S_X11_append {g : Gn} {J : DJ} {n c : Nat} (hn : J 351 10 = n) (h60 : n ≤ 60) (hc : c < 65536) : SJ g mX11_append 1 0 0 [.ref (g.2 351), .int (nI (c))] J (Re (fun r J2 => (fApp n c = 0 ∧ r = n + 1 ∧ J2 = up2 (up2 (up2 J 351 8 0) 356 n c) 351 10 (n + 1)) ∨ (fApp n c ≠ 0 ∧ r = 4294967295 ∧ J2 = up2 (up2 J 351 8 0) 351 8 (fApp n c - 1)))) NoX := by
  refine SJ_of_VJ (by decide +kernel) (Nat.le_of_ble_eq_true rfl) ?_
  show VJ g mX11_append 1 0 0 _ _ 0 [(0, .ref (g.2 351)), (1, .int (nI (c)))] [] J
  refine J_aload_n 1 rfl dX11_append_0 rfl ?_
  refine J_iconst 2 0 rfl dX11_append_1 ic_0 ?_
  refine p_X11_thrown 5 rfl dX11_append_2 lkX11_57 ?_
  refine J_iload_n 6 rfl dX11_append_5 rfl ?_
  refine J_i2l 7 _ rfl dX11_append_6 rfl ?_
  refine J_ldc2 10 rfl dX11_append_7 lkX11_252 ?_
  refine J_ldc2 13 rfl dX11_append_10 lkX11_254 ?_
  refine J_callSi (As := [_, _, _]) 16 rfl kalX11_in lkX11_63 dX11_append_13 rfl rfl (by exact Nat.le_of_ble_eq_true rfl) (by omega) (S_in_le 32 126 (by decide) (by decide) (by omega) (by omega) (by omega)) ?_
  refine J_ifb_ne (hdp := _) 25 19 (by decide) rfl dX11_append_16 (fun c16 => ?_) (fun c16 => ?_)
  · refine J_aload_n 26 rfl dX11_append_25 rfl ?_
    refine g_X11_inputMany 29 rfl dX11_append_26 lkX11_256 ?_
    refine J_cv (b := n) (by rw [up2_app, if_neg (by omega)]; exact hn) ?_
    refine J_bipush 31 60 rfl dX11_append_29 bc_60 ?_
    refine J_icmp_ne 40 34 (by decide) rfl dX11_append_31 (by omega) (by omega) (fun c31 => ?_) (fun c31 => ?_)
    · refine J_aload_n 41 rfl dX11_append_40 rfl ?_
      refine g_X11_input 44 rfl dX11_append_41 lkX11_29 ?_
      refine J_aload_n 45 rfl dX11_append_44 rfl ?_
      refine g_X11_inputMany 48 rfl dX11_append_45 lkX11_256 ?_
      refine J_cv (b := n) (by rw [up2_app, if_neg (by omega)]; exact hn) ?_
      refine J_iload_n 49 rfl dX11_append_48 rfl ?_
      refine J_iast 50 rfl dX11_append_49 (sa_X11_input) (by omega) ?_
      refine J_aload_n 51 rfl dX11_append_50 rfl ?_
      refine J_dup 52 rfl dX11_append_51 rfl ?_
      refine g_X11_inputMany 55 rfl dX11_append_52 lkX11_256 ?_
      refine J_cv (b := n) (by rw [up2_ne (by omega), up2_app, if_neg (by omega)]; exact hn) ?_
      refine J_iconst 56 1 rfl dX11_append_55 ic_1 ?_
      refine J_iadd 57 rfl dX11_append_56 ?_
      refine p_X11_inputMany 60 rfl dX11_append_57 lkX11_256 ?_
      refine J_aload_n 61 rfl dX11_append_60 rfl ?_
      refine g_X11_inputMany 64 rfl dX11_append_61 lkX11_256 ?_
      refine J_cv (b := n + 1) (by rw [up2_app, if_pos ⟨rfl, rfl⟩]) ?_
      refine J_iret rfl dX11_append_64 ?_
      exact ⟨_, rfl, Or.inl ⟨by unfold fApp; (repeat' split) <;> omega, rfl, rfl⟩⟩
    · refine J_aload_n 35 rfl dX11_append_34 rfl ?_
      refine J_iconst 36 2 rfl dX11_append_35 ic_2 ?_
      refine J_callVi (As := [_]) 39 _ rfl kalX11_throwing lkX11_125 dX11_append_36 (lt_X11) (so_X11) rfl rfl rfl (by exact Nat.le_of_ble_eq_true rfl) (by omega) (S_X11_throwing) ?_
      refine J_iret rfl dX11_append_39 ?_
      exact ⟨_, rfl, Or.inr ⟨by unfold fApp; (repeat' split) <;> omega, rfl, by rw [show fApp n c - 1 = 2 by unfold fApp; (repeat' split) <;> omega]⟩⟩
  · refine J_aload_n 20 rfl dX11_append_19 rfl ?_
    refine J_iconst 21 1 rfl dX11_append_20 ic_1 ?_
    refine J_callVi (As := [_]) 24 _ rfl kalX11_throwing lkX11_125 dX11_append_21 (lt_X11) (so_X11) rfl rfl rfl (by exact Nat.le_of_ble_eq_true rfl) (by omega) (S_X11_throwing) ?_
    refine J_iret rfl dX11_append_24 ?_
    exact ⟨_, rfl, Or.inr ⟨by unfold fApp; (repeat' split) <;> omega, rfl, by rw [show fApp n c - 1 = 1 by unfold fApp; (repeat' split) <;> omega]⟩⟩

theorem S_X11_does {g : Gn} {J : DJ} {k i B : Nat} {f l : Nat → Nat} (hw : WF f B) (hB : B < 600000000) (hi : i < 60) (hk : k < 12) (hK : J 363 (4 * i) = k) (hl : ∀ j, j < ndF (chS.getD k []) → J 363 (4 * i + 1 + j) = l j ∧ l j ≤ 99) : SJ g mX11_does 6 0 0 [.ref (g.2 351), .int (nI (4 * i))] (sR J 352 f) (Rq (fun J2 => ∃ J1 p, Sm J J1 ∧ ((fC f k l = 0 ∧ J2 = sR J1 352 (xC f k l)) ∨ (fC f k l ≠ 0 ∧ 0 < p ∧ p < 10 ∧ J2 = sR (up2 J1 351 8 p) 352 f)))) NoX := by
  refine SJ_of_VJ (by decide +kernel) (Nat.le_of_ble_eq_true rfl) ?_
  show VJ g mX11_does 6 0 0 _ _ 0 [(0, .ref (g.2 351)), (1, .int (nI (4 * i)))] [] (sR J 352 f)
  have k12 : k = 0 ∨ k = 1 ∨ k = 2 ∨ k = 3 ∨ k = 4 ∨ k = 5 ∨ k = 6 ∨ k = 7 ∨ k = 8 ∨ k = 9 ∨ k = 10 ∨ k = 11 := by omega
  rcases k12 with e | e | e | e | e | e | e | e | e | e | e | e <;> subst e
  · have n0 := hl 0 (by decide)
    refine J_aload_n 1 rfl dX11_does_0 rfl ?_
    refine g_X11_commands 4 rfl dX11_does_1 lkX11_51 ?_
    refine J_iload_n 5 rfl dX11_does_4 rfl ?_
    refine J_iconst 6 1 rfl dX11_does_5 ic_1 ?_
    refine J_iadd 7 rfl dX11_does_6 ?_
    refine J_iald 8 rfl dX11_does_7 (sa_X11_commands) (by omega) ?_
    refine J_cv (b := l 0) (by rw [sR_ne (by omega), show 4 * i + 1 = 4 * i + 1 + 0 by omega]; exact n0.1) ?_
    refine J_istore_n 9 rfl dX11_does_8 rfl (Nat.le_of_ble_eq_true rfl) ?_
    refine J_aload_n 10 rfl dX11_does_9 rfl ?_
    refine g_X11_commands 13 rfl dX11_does_10 lkX11_51 ?_
    refine J_iload_n 14 rfl dX11_does_13 rfl ?_
    refine J_iconst 15 2 rfl dX11_does_14 ic_2 ?_
    refine J_iadd 16 rfl dX11_does_15 ?_
    refine J_iald 17 rfl dX11_does_16 (sa_X11_commands) (by omega) ?_
    refine J_istore_n 18 rfl dX11_does_17 rfl (Nat.le_of_ble_eq_true rfl) ?_
    refine J_aload_n 19 rfl dX11_does_18 rfl ?_
    refine g_X11_commands 22 rfl dX11_does_19 lkX11_51 ?_
    refine J_iload_n 23 rfl dX11_does_22 rfl ?_
    refine J_iconst 24 3 rfl dX11_does_23 ic_3 ?_
    refine J_iadd 25 rfl dX11_does_24 ?_
    refine J_iald 26 rfl dX11_does_25 (sa_X11_commands) (by omega) ?_
    refine J_istore 28 rfl dX11_does_26 (Nat.le_of_ble_eq_true rfl) ?_
    refine J_aload_n 29 rfl dX11_does_28 rfl ?_
    refine g_X11_commands 32 rfl dX11_does_29 lkX11_51 ?_
    refine J_iload_n 33 rfl dX11_does_32 rfl ?_
    refine J_iald 34 rfl dX11_does_33 (sa_X11_commands) (by omega) ?_
    refine J_cv (b := 0) (by rw [sR_ne (by omega)]; exact hK) ?_
    refine J_tabIn 92 dX11_does_34 (by omega) (by decide) rfl (by decide) ?_
    refine J_aload_n 93 rfl dX11_does_92 rfl ?_
    refine J_iload_n 94 rfl dX11_does_93 rfl ?_
    refine J_callVie (As := [_]) 97 _ rfl kalX11_engineIt lkX11_131 dX11_does_94 (lt_X11) (so_X11) rfl rfl rfl (by exact Nat.le_of_ble_eq_true rfl) (by omega) (SJ.mo (S_X11_engineIt hw hB (by omega))) (fun r94 J94 q94 => ?_)
    refine J_pop 98 rfl dX11_does_97 rfl ?_
    refine J_goto 208 (by decide) dX11_does_98 ?_
    refine J_vret rfl dX11_does_208 ?_
    obtain ⟨J1, hs, hq⟩ := q94
    rcases hq with ⟨qa, qb, qc⟩ | ⟨qa, qb, qc⟩
    · exact ⟨rfl, J1, 1, hs, Or.inl ⟨qa, qc⟩⟩
    · exact ⟨rfl, J1, _, hs, Or.inr ⟨qa, (by first | omega | (revert qa; unfold fE; (repeat' split) <;> omega)), (by first | omega | (unfold fE; (repeat' split) <;> omega)), qc⟩⟩
  · have n0 := hl 0 (by decide)
    have n1 := hl 1 (by decide)
    have n2 := hl 2 (by decide)
    refine J_aload_n 1 rfl dX11_does_0 rfl ?_
    refine g_X11_commands 4 rfl dX11_does_1 lkX11_51 ?_
    refine J_iload_n 5 rfl dX11_does_4 rfl ?_
    refine J_iconst 6 1 rfl dX11_does_5 ic_1 ?_
    refine J_iadd 7 rfl dX11_does_6 ?_
    refine J_iald 8 rfl dX11_does_7 (sa_X11_commands) (by omega) ?_
    refine J_cv (b := l 0) (by rw [sR_ne (by omega), show 4 * i + 1 = 4 * i + 1 + 0 by omega]; exact n0.1) ?_
    refine J_istore_n 9 rfl dX11_does_8 rfl (Nat.le_of_ble_eq_true rfl) ?_
    refine J_aload_n 10 rfl dX11_does_9 rfl ?_
    refine g_X11_commands 13 rfl dX11_does_10 lkX11_51 ?_
    refine J_iload_n 14 rfl dX11_does_13 rfl ?_
    refine J_iconst 15 2 rfl dX11_does_14 ic_2 ?_
    refine J_iadd 16 rfl dX11_does_15 ?_
    refine J_iald 17 rfl dX11_does_16 (sa_X11_commands) (by omega) ?_
    refine J_cv (b := l 1) (by rw [sR_ne (by omega), show 4 * i + 2 = 4 * i + 1 + 1 by omega]; exact n1.1) ?_
    refine J_istore_n 18 rfl dX11_does_17 rfl (Nat.le_of_ble_eq_true rfl) ?_
    refine J_aload_n 19 rfl dX11_does_18 rfl ?_
    refine g_X11_commands 22 rfl dX11_does_19 lkX11_51 ?_
    refine J_iload_n 23 rfl dX11_does_22 rfl ?_
    refine J_iconst 24 3 rfl dX11_does_23 ic_3 ?_
    refine J_iadd 25 rfl dX11_does_24 ?_
    refine J_iald 26 rfl dX11_does_25 (sa_X11_commands) (by omega) ?_
    refine J_cv (b := l 2) (by rw [sR_ne (by omega), show 4 * i + 3 = 4 * i + 1 + 2 by omega]; exact n2.1) ?_
    refine J_istore 28 rfl dX11_does_26 (Nat.le_of_ble_eq_true rfl) ?_
    refine J_aload_n 29 rfl dX11_does_28 rfl ?_
    refine g_X11_commands 32 rfl dX11_does_29 lkX11_51 ?_
    refine J_iload_n 33 rfl dX11_does_32 rfl ?_
    refine J_iald 34 rfl dX11_does_33 (sa_X11_commands) (by omega) ?_
    refine J_cv (b := 1) (by rw [sR_ne (by omega)]; exact hK) ?_
    refine J_tabIn 101 dX11_does_34 (by omega) (by decide) rfl (by decide) ?_
    refine J_aload_n 102 rfl dX11_does_101 rfl ?_
    refine J_iload_n 103 rfl dX11_does_102 rfl ?_
    refine J_iload_n 104 rfl dX11_does_103 rfl ?_
    refine J_iload 106 rfl dX11_does_104 rfl ?_
    refine J_callVie (As := [_, _, _]) 109 _ rfl kalX11_swapIt lkX11_140 dX11_does_106 (lt_X11) (so_X11) rfl rfl rfl (by exact Nat.le_of_ble_eq_true rfl) (by omega) (SJ.mo (S_X11_swapIt hw hB (by omega) (by omega) (by omega))) (fun r106 J106 q106 => ?_)
    refine J_pop 110 rfl dX11_does_109 rfl ?_
    refine J_goto 208 (by decide) dX11_does_110 ?_
    refine J_vret rfl dX11_does_208 ?_
    obtain ⟨J1, hs, hq⟩ := q106
    rcases hq with ⟨qa, qb, qc⟩ | ⟨qa, qb, qc⟩
    · exact ⟨rfl, J1, 1, hs, Or.inl ⟨qa, qc⟩⟩
    · exact ⟨rfl, J1, _, hs, Or.inr ⟨qa, (by first | omega | (revert qa; unfold fSwap; (repeat' split) <;> omega)), (by first | omega | (unfold fSwap; (repeat' split) <;> omega)), qc⟩⟩
  · have n0 := hl 0 (by decide)
    have n1 := hl 1 (by decide)
    refine J_aload_n 1 rfl dX11_does_0 rfl ?_
    refine g_X11_commands 4 rfl dX11_does_1 lkX11_51 ?_
    refine J_iload_n 5 rfl dX11_does_4 rfl ?_
    refine J_iconst 6 1 rfl dX11_does_5 ic_1 ?_
    refine J_iadd 7 rfl dX11_does_6 ?_
    refine J_iald 8 rfl dX11_does_7 (sa_X11_commands) (by omega) ?_
    refine J_cv (b := l 0) (by rw [sR_ne (by omega), show 4 * i + 1 = 4 * i + 1 + 0 by omega]; exact n0.1) ?_
    refine J_istore_n 9 rfl dX11_does_8 rfl (Nat.le_of_ble_eq_true rfl) ?_
    refine J_aload_n 10 rfl dX11_does_9 rfl ?_
    refine g_X11_commands 13 rfl dX11_does_10 lkX11_51 ?_
    refine J_iload_n 14 rfl dX11_does_13 rfl ?_
    refine J_iconst 15 2 rfl dX11_does_14 ic_2 ?_
    refine J_iadd 16 rfl dX11_does_15 ?_
    refine J_iald 17 rfl dX11_does_16 (sa_X11_commands) (by omega) ?_
    refine J_cv (b := l 1) (by rw [sR_ne (by omega), show 4 * i + 2 = 4 * i + 1 + 1 by omega]; exact n1.1) ?_
    refine J_istore_n 18 rfl dX11_does_17 rfl (Nat.le_of_ble_eq_true rfl) ?_
    refine J_aload_n 19 rfl dX11_does_18 rfl ?_
    refine g_X11_commands 22 rfl dX11_does_19 lkX11_51 ?_
    refine J_iload_n 23 rfl dX11_does_22 rfl ?_
    refine J_iconst 24 3 rfl dX11_does_23 ic_3 ?_
    refine J_iadd 25 rfl dX11_does_24 ?_
    refine J_iald 26 rfl dX11_does_25 (sa_X11_commands) (by omega) ?_
    refine J_istore 28 rfl dX11_does_26 (Nat.le_of_ble_eq_true rfl) ?_
    refine J_aload_n 29 rfl dX11_does_28 rfl ?_
    refine g_X11_commands 32 rfl dX11_does_29 lkX11_51 ?_
    refine J_iload_n 33 rfl dX11_does_32 rfl ?_
    refine J_iald 34 rfl dX11_does_33 (sa_X11_commands) (by omega) ?_
    refine J_cv (b := 2) (by rw [sR_ne (by omega)]; exact hK) ?_
    refine J_tabIn 113 dX11_does_34 (by omega) (by decide) rfl (by decide) ?_
    refine J_aload_n 114 rfl dX11_does_113 rfl ?_
    refine J_iload_n 115 rfl dX11_does_114 rfl ?_
    refine J_iload_n 116 rfl dX11_does_115 rfl ?_
    refine J_callVie (As := [_, _]) 119 _ rfl kalX11_rateIt lkX11_145 dX11_does_116 (lt_X11) (so_X11) rfl rfl rfl (by exact Nat.le_of_ble_eq_true rfl) (by omega) (SJ.mo (S_X11_rateIt hw hB (by omega) (by omega))) (fun r116 J116 q116 => ?_)
    refine J_pop 120 rfl dX11_does_119 rfl ?_
    refine J_goto 208 (by decide) dX11_does_120 ?_
    refine J_vret rfl dX11_does_208 ?_
    obtain ⟨J1, hs, hq⟩ := q116
    rcases hq with ⟨qa, qb, qc⟩ | ⟨qa, qb, qc⟩
    · exact ⟨rfl, J1, 1, hs, Or.inl ⟨qa, qc⟩⟩
    · exact ⟨rfl, J1, _, hs, Or.inr ⟨qa, (by first | omega | (revert qa; unfold fRate; (repeat' split) <;> omega)), (by first | omega | (unfold fRate; (repeat' split) <;> omega)), qc⟩⟩
  · have n0 := hl 0 (by decide)
    have n1 := hl 1 (by decide)
    refine J_aload_n 1 rfl dX11_does_0 rfl ?_
    refine g_X11_commands 4 rfl dX11_does_1 lkX11_51 ?_
    refine J_iload_n 5 rfl dX11_does_4 rfl ?_
    refine J_iconst 6 1 rfl dX11_does_5 ic_1 ?_
    refine J_iadd 7 rfl dX11_does_6 ?_
    refine J_iald 8 rfl dX11_does_7 (sa_X11_commands) (by omega) ?_
    refine J_cv (b := l 0) (by rw [sR_ne (by omega), show 4 * i + 1 = 4 * i + 1 + 0 by omega]; exact n0.1) ?_
    refine J_istore_n 9 rfl dX11_does_8 rfl (Nat.le_of_ble_eq_true rfl) ?_
    refine J_aload_n 10 rfl dX11_does_9 rfl ?_
    refine g_X11_commands 13 rfl dX11_does_10 lkX11_51 ?_
    refine J_iload_n 14 rfl dX11_does_13 rfl ?_
    refine J_iconst 15 2 rfl dX11_does_14 ic_2 ?_
    refine J_iadd 16 rfl dX11_does_15 ?_
    refine J_iald 17 rfl dX11_does_16 (sa_X11_commands) (by omega) ?_
    refine J_cv (b := l 1) (by rw [sR_ne (by omega), show 4 * i + 2 = 4 * i + 1 + 1 by omega]; exact n1.1) ?_
    refine J_istore_n 18 rfl dX11_does_17 rfl (Nat.le_of_ble_eq_true rfl) ?_
    refine J_aload_n 19 rfl dX11_does_18 rfl ?_
    refine g_X11_commands 22 rfl dX11_does_19 lkX11_51 ?_
    refine J_iload_n 23 rfl dX11_does_22 rfl ?_
    refine J_iconst 24 3 rfl dX11_does_23 ic_3 ?_
    refine J_iadd 25 rfl dX11_does_24 ?_
    refine J_iald 26 rfl dX11_does_25 (sa_X11_commands) (by omega) ?_
    refine J_istore 28 rfl dX11_does_26 (Nat.le_of_ble_eq_true rfl) ?_
    refine J_aload_n 29 rfl dX11_does_28 rfl ?_
    refine g_X11_commands 32 rfl dX11_does_29 lkX11_51 ?_
    refine J_iload_n 33 rfl dX11_does_32 rfl ?_
    refine J_iald 34 rfl dX11_does_33 (sa_X11_commands) (by omega) ?_
    refine J_cv (b := 3) (by rw [sR_ne (by omega)]; exact hK) ?_
    refine J_tabIn 123 dX11_does_34 (by omega) (by decide) rfl (by decide) ?_
    refine J_aload_n 124 rfl dX11_does_123 rfl ?_
    refine J_iload_n 125 rfl dX11_does_124 rfl ?_
    refine J_iload_n 126 rfl dX11_does_125 rfl ?_
    refine J_callVie (As := [_, _]) 129 _ rfl kalX11_runIt lkX11_150 dX11_does_126 (lt_X11) (so_X11) rfl rfl rfl (by exact Nat.le_of_ble_eq_true rfl) (by omega) (SJ.mo (S_X11_runIt hw hB (by omega) (by omega))) (fun r126 J126 q126 => ?_)
    refine J_pop 130 rfl dX11_does_129 rfl ?_
    refine J_goto 208 (by decide) dX11_does_130 ?_
    refine J_vret rfl dX11_does_208 ?_
    obtain ⟨J1, hs, hq⟩ := q126
    rcases hq with ⟨qa, qb, qc⟩ | ⟨qa, qb, qc⟩
    · exact ⟨rfl, J1, 1, hs, Or.inl ⟨qa, qc⟩⟩
    · exact ⟨rfl, J1, _, hs, Or.inr ⟨qa, (by first | omega | (revert qa; unfold fRun; (repeat' split) <;> omega)), (by first | omega | (unfold fRun; (repeat' split) <;> omega)), qc⟩⟩
  · have n0 := hl 0 (by decide)
    have n1 := hl 1 (by decide)
    have n2 := hl 2 (by decide)
    refine J_aload_n 1 rfl dX11_does_0 rfl ?_
    refine g_X11_commands 4 rfl dX11_does_1 lkX11_51 ?_
    refine J_iload_n 5 rfl dX11_does_4 rfl ?_
    refine J_iconst 6 1 rfl dX11_does_5 ic_1 ?_
    refine J_iadd 7 rfl dX11_does_6 ?_
    refine J_iald 8 rfl dX11_does_7 (sa_X11_commands) (by omega) ?_
    refine J_cv (b := l 0) (by rw [sR_ne (by omega), show 4 * i + 1 = 4 * i + 1 + 0 by omega]; exact n0.1) ?_
    refine J_istore_n 9 rfl dX11_does_8 rfl (Nat.le_of_ble_eq_true rfl) ?_
    refine J_aload_n 10 rfl dX11_does_9 rfl ?_
    refine g_X11_commands 13 rfl dX11_does_10 lkX11_51 ?_
    refine J_iload_n 14 rfl dX11_does_13 rfl ?_
    refine J_iconst 15 2 rfl dX11_does_14 ic_2 ?_
    refine J_iadd 16 rfl dX11_does_15 ?_
    refine J_iald 17 rfl dX11_does_16 (sa_X11_commands) (by omega) ?_
    refine J_cv (b := l 1) (by rw [sR_ne (by omega), show 4 * i + 2 = 4 * i + 1 + 1 by omega]; exact n1.1) ?_
    refine J_istore_n 18 rfl dX11_does_17 rfl (Nat.le_of_ble_eq_true rfl) ?_
    refine J_aload_n 19 rfl dX11_does_18 rfl ?_
    refine g_X11_commands 22 rfl dX11_does_19 lkX11_51 ?_
    refine J_iload_n 23 rfl dX11_does_22 rfl ?_
    refine J_iconst 24 3 rfl dX11_does_23 ic_3 ?_
    refine J_iadd 25 rfl dX11_does_24 ?_
    refine J_iald 26 rfl dX11_does_25 (sa_X11_commands) (by omega) ?_
    refine J_cv (b := l 2) (by rw [sR_ne (by omega), show 4 * i + 3 = 4 * i + 1 + 2 by omega]; exact n2.1) ?_
    refine J_istore 28 rfl dX11_does_26 (Nat.le_of_ble_eq_true rfl) ?_
    refine J_aload_n 29 rfl dX11_does_28 rfl ?_
    refine g_X11_commands 32 rfl dX11_does_29 lkX11_51 ?_
    refine J_iload_n 33 rfl dX11_does_32 rfl ?_
    refine J_iald 34 rfl dX11_does_33 (sa_X11_commands) (by omega) ?_
    refine J_cv (b := 4) (by rw [sR_ne (by omega)]; exact hK) ?_
    refine J_tabIn 133 dX11_does_34 (by omega) (by decide) rfl (by decide) ?_
    refine J_aload_n 134 rfl dX11_does_133 rfl ?_
    refine J_iload_n 135 rfl dX11_does_134 rfl ?_
    refine J_iload_n 136 rfl dX11_does_135 rfl ?_
    refine J_iload 138 rfl dX11_does_136 rfl ?_
    refine J_callVie (As := [_, _, _]) 141 _ rfl kalX11_oilIt lkX11_153 dX11_does_138 (lt_X11) (so_X11) rfl rfl rfl (by exact Nat.le_of_ble_eq_true rfl) (by omega) (SJ.mo (S_X11_oilIt hw hB (by omega) (by omega) (by omega))) (fun r138 J138 q138 => ?_)
    refine J_pop 142 rfl dX11_does_141 rfl ?_
    refine J_goto 208 (by decide) dX11_does_142 ?_
    refine J_vret rfl dX11_does_208 ?_
    obtain ⟨J1, hs, hq⟩ := q138
    rcases hq with ⟨qa, qb, qc⟩ | ⟨qa, qb, qc⟩
    · exact ⟨rfl, J1, 1, hs, Or.inl ⟨qa, qc⟩⟩
    · exact ⟨rfl, J1, _, hs, Or.inr ⟨qa, (by first | omega | (revert qa; unfold fOil; (repeat' split) <;> omega)), (by first | omega | (unfold fOil; (repeat' split) <;> omega)), qc⟩⟩
  · have n0 := hl 0 (by decide)
    refine J_aload_n 1 rfl dX11_does_0 rfl ?_
    refine g_X11_commands 4 rfl dX11_does_1 lkX11_51 ?_
    refine J_iload_n 5 rfl dX11_does_4 rfl ?_
    refine J_iconst 6 1 rfl dX11_does_5 ic_1 ?_
    refine J_iadd 7 rfl dX11_does_6 ?_
    refine J_iald 8 rfl dX11_does_7 (sa_X11_commands) (by omega) ?_
    refine J_cv (b := l 0) (by rw [sR_ne (by omega), show 4 * i + 1 = 4 * i + 1 + 0 by omega]; exact n0.1) ?_
    refine J_istore_n 9 rfl dX11_does_8 rfl (Nat.le_of_ble_eq_true rfl) ?_
    refine J_aload_n 10 rfl dX11_does_9 rfl ?_
    refine g_X11_commands 13 rfl dX11_does_10 lkX11_51 ?_
    refine J_iload_n 14 rfl dX11_does_13 rfl ?_
    refine J_iconst 15 2 rfl dX11_does_14 ic_2 ?_
    refine J_iadd 16 rfl dX11_does_15 ?_
    refine J_iald 17 rfl dX11_does_16 (sa_X11_commands) (by omega) ?_
    refine J_istore_n 18 rfl dX11_does_17 rfl (Nat.le_of_ble_eq_true rfl) ?_
    refine J_aload_n 19 rfl dX11_does_18 rfl ?_
    refine g_X11_commands 22 rfl dX11_does_19 lkX11_51 ?_
    refine J_iload_n 23 rfl dX11_does_22 rfl ?_
    refine J_iconst 24 3 rfl dX11_does_23 ic_3 ?_
    refine J_iadd 25 rfl dX11_does_24 ?_
    refine J_iald 26 rfl dX11_does_25 (sa_X11_commands) (by omega) ?_
    refine J_istore 28 rfl dX11_does_26 (Nat.le_of_ble_eq_true rfl) ?_
    refine J_aload_n 29 rfl dX11_does_28 rfl ?_
    refine g_X11_commands 32 rfl dX11_does_29 lkX11_51 ?_
    refine J_iload_n 33 rfl dX11_does_32 rfl ?_
    refine J_iald 34 rfl dX11_does_33 (sa_X11_commands) (by omega) ?_
    refine J_cv (b := 5) (by rw [sR_ne (by omega)]; exact hK) ?_
    refine J_tabIn 145 dX11_does_34 (by omega) (by decide) rfl (by decide) ?_
    refine J_aload_n 146 rfl dX11_does_145 rfl ?_
    refine J_iload_n 147 rfl dX11_does_146 rfl ?_
    refine J_callVie (As := [_]) 150 _ rfl kalX11_fillIt lkX11_162 dX11_does_147 (lt_X11) (so_X11) rfl rfl rfl (by exact Nat.le_of_ble_eq_true rfl) (by omega) (S_X11_fillIt hw hB (by omega)) (fun r147 J147 q147 => ?_)
    refine J_pop 151 rfl dX11_does_150 rfl ?_
    refine J_goto 208 (by decide) dX11_does_151 ?_
    refine J_vret rfl dX11_does_208 ?_
    obtain ⟨J1, hs, hq⟩ := q147
    rcases hq with ⟨qa, qb, qc⟩ | ⟨qa, qb, qc⟩
    · exact ⟨rfl, J1, 1, hs, Or.inl ⟨qa, qc⟩⟩
    · exact ⟨rfl, J1, _, hs, Or.inr ⟨qa, (by first | omega | (revert qa; unfold fFill; (repeat' split) <;> omega)), (by first | omega | (unfold fFill; (repeat' split) <;> omega)), qc⟩⟩
  · have n0 := hl 0 (by decide)
    refine J_aload_n 1 rfl dX11_does_0 rfl ?_
    refine g_X11_commands 4 rfl dX11_does_1 lkX11_51 ?_
    refine J_iload_n 5 rfl dX11_does_4 rfl ?_
    refine J_iconst 6 1 rfl dX11_does_5 ic_1 ?_
    refine J_iadd 7 rfl dX11_does_6 ?_
    refine J_iald 8 rfl dX11_does_7 (sa_X11_commands) (by omega) ?_
    refine J_cv (b := l 0) (by rw [sR_ne (by omega), show 4 * i + 1 = 4 * i + 1 + 0 by omega]; exact n0.1) ?_
    refine J_istore_n 9 rfl dX11_does_8 rfl (Nat.le_of_ble_eq_true rfl) ?_
    refine J_aload_n 10 rfl dX11_does_9 rfl ?_
    refine g_X11_commands 13 rfl dX11_does_10 lkX11_51 ?_
    refine J_iload_n 14 rfl dX11_does_13 rfl ?_
    refine J_iconst 15 2 rfl dX11_does_14 ic_2 ?_
    refine J_iadd 16 rfl dX11_does_15 ?_
    refine J_iald 17 rfl dX11_does_16 (sa_X11_commands) (by omega) ?_
    refine J_istore_n 18 rfl dX11_does_17 rfl (Nat.le_of_ble_eq_true rfl) ?_
    refine J_aload_n 19 rfl dX11_does_18 rfl ?_
    refine g_X11_commands 22 rfl dX11_does_19 lkX11_51 ?_
    refine J_iload_n 23 rfl dX11_does_22 rfl ?_
    refine J_iconst 24 3 rfl dX11_does_23 ic_3 ?_
    refine J_iadd 25 rfl dX11_does_24 ?_
    refine J_iald 26 rfl dX11_does_25 (sa_X11_commands) (by omega) ?_
    refine J_istore 28 rfl dX11_does_26 (Nat.le_of_ble_eq_true rfl) ?_
    refine J_aload_n 29 rfl dX11_does_28 rfl ?_
    refine g_X11_commands 32 rfl dX11_does_29 lkX11_51 ?_
    refine J_iload_n 33 rfl dX11_does_32 rfl ?_
    refine J_iald 34 rfl dX11_does_33 (sa_X11_commands) (by omega) ?_
    refine J_cv (b := 6) (by rw [sR_ne (by omega)]; exact hK) ?_
    refine J_tabIn 154 dX11_does_34 (by omega) (by decide) rfl (by decide) ?_
    refine J_aload_n 155 rfl dX11_does_154 rfl ?_
    refine J_iload_n 156 rfl dX11_does_155 rfl ?_
    refine J_callVie (As := [_]) 159 _ rfl kalX11_buyIt lkX11_165 dX11_does_156 (lt_X11) (so_X11) rfl rfl rfl (by exact Nat.le_of_ble_eq_true rfl) (by omega) (SJ.mo (S_X11_buyIt hw hB (by omega))) (fun r156 J156 q156 => ?_)
    refine J_pop 160 rfl dX11_does_159 rfl ?_
    refine J_goto 208 (by decide) dX11_does_160 ?_
    refine J_vret rfl dX11_does_208 ?_
    obtain ⟨J1, hs, hq⟩ := q156
    rcases hq with ⟨qa, qb, qc⟩ | ⟨qa, qb, qc⟩
    · exact ⟨rfl, J1, 1, hs, Or.inl ⟨qa, qc⟩⟩
    · exact ⟨rfl, J1, _, hs, Or.inr ⟨qa, (by first | omega | (revert qa; unfold fBuy; (repeat' split) <;> omega)), (by first | omega | (unfold fBuy; (repeat' split) <;> omega)), qc⟩⟩
  · refine J_aload_n 1 rfl dX11_does_0 rfl ?_
    refine g_X11_commands 4 rfl dX11_does_1 lkX11_51 ?_
    refine J_iload_n 5 rfl dX11_does_4 rfl ?_
    refine J_iconst 6 1 rfl dX11_does_5 ic_1 ?_
    refine J_iadd 7 rfl dX11_does_6 ?_
    refine J_iald 8 rfl dX11_does_7 (sa_X11_commands) (by omega) ?_
    refine J_istore_n 9 rfl dX11_does_8 rfl (Nat.le_of_ble_eq_true rfl) ?_
    refine J_aload_n 10 rfl dX11_does_9 rfl ?_
    refine g_X11_commands 13 rfl dX11_does_10 lkX11_51 ?_
    refine J_iload_n 14 rfl dX11_does_13 rfl ?_
    refine J_iconst 15 2 rfl dX11_does_14 ic_2 ?_
    refine J_iadd 16 rfl dX11_does_15 ?_
    refine J_iald 17 rfl dX11_does_16 (sa_X11_commands) (by omega) ?_
    refine J_istore_n 18 rfl dX11_does_17 rfl (Nat.le_of_ble_eq_true rfl) ?_
    refine J_aload_n 19 rfl dX11_does_18 rfl ?_
    refine g_X11_commands 22 rfl dX11_does_19 lkX11_51 ?_
    refine J_iload_n 23 rfl dX11_does_22 rfl ?_
    refine J_iconst 24 3 rfl dX11_does_23 ic_3 ?_
    refine J_iadd 25 rfl dX11_does_24 ?_
    refine J_iald 26 rfl dX11_does_25 (sa_X11_commands) (by omega) ?_
    refine J_istore 28 rfl dX11_does_26 (Nat.le_of_ble_eq_true rfl) ?_
    refine J_aload_n 29 rfl dX11_does_28 rfl ?_
    refine g_X11_commands 32 rfl dX11_does_29 lkX11_51 ?_
    refine J_iload_n 33 rfl dX11_does_32 rfl ?_
    refine J_iald 34 rfl dX11_does_33 (sa_X11_commands) (by omega) ?_
    refine J_cv (b := 7) (by rw [sR_ne (by omega)]; exact hK) ?_
    refine J_tabIn 163 dX11_does_34 (by omega) (by decide) rfl (by decide) ?_
    refine J_aload_n 164 rfl dX11_does_163 rfl ?_
    refine J_callVie (As := []) 167 _ rfl kalX11_monkIt lkX11_168 dX11_does_164 (lt_X11) (so_X11) rfl rfl rfl (by exact Nat.le_of_ble_eq_true rfl) (by omega) (SJ.mo (S_X11_monkIt hw hB)) (fun r164 J164 q164 => ?_)
    refine J_pop 168 rfl dX11_does_167 rfl ?_
    refine J_goto 208 (by decide) dX11_does_168 ?_
    refine J_vret rfl dX11_does_208 ?_
    obtain ⟨J1, hs, hq⟩ := q164
    rcases hq with ⟨qa, qb, qc⟩ | ⟨qa, qb, qc⟩
    · exact ⟨rfl, J1, 1, hs, Or.inl ⟨qa, qc⟩⟩
    · exact ⟨rfl, J1, _, hs, Or.inr ⟨qa, (by first | omega | (revert qa; unfold fMonk; (repeat' split) <;> omega)), (by first | omega | (unfold fMonk; (repeat' split) <;> omega)), qc⟩⟩
  · have n0 := hl 0 (by decide)
    have n1 := hl 1 (by decide)
    refine J_aload_n 1 rfl dX11_does_0 rfl ?_
    refine g_X11_commands 4 rfl dX11_does_1 lkX11_51 ?_
    refine J_iload_n 5 rfl dX11_does_4 rfl ?_
    refine J_iconst 6 1 rfl dX11_does_5 ic_1 ?_
    refine J_iadd 7 rfl dX11_does_6 ?_
    refine J_iald 8 rfl dX11_does_7 (sa_X11_commands) (by omega) ?_
    refine J_cv (b := l 0) (by rw [sR_ne (by omega), show 4 * i + 1 = 4 * i + 1 + 0 by omega]; exact n0.1) ?_
    refine J_istore_n 9 rfl dX11_does_8 rfl (Nat.le_of_ble_eq_true rfl) ?_
    refine J_aload_n 10 rfl dX11_does_9 rfl ?_
    refine g_X11_commands 13 rfl dX11_does_10 lkX11_51 ?_
    refine J_iload_n 14 rfl dX11_does_13 rfl ?_
    refine J_iconst 15 2 rfl dX11_does_14 ic_2 ?_
    refine J_iadd 16 rfl dX11_does_15 ?_
    refine J_iald 17 rfl dX11_does_16 (sa_X11_commands) (by omega) ?_
    refine J_cv (b := l 1) (by rw [sR_ne (by omega), show 4 * i + 2 = 4 * i + 1 + 1 by omega]; exact n1.1) ?_
    refine J_istore_n 18 rfl dX11_does_17 rfl (Nat.le_of_ble_eq_true rfl) ?_
    refine J_aload_n 19 rfl dX11_does_18 rfl ?_
    refine g_X11_commands 22 rfl dX11_does_19 lkX11_51 ?_
    refine J_iload_n 23 rfl dX11_does_22 rfl ?_
    refine J_iconst 24 3 rfl dX11_does_23 ic_3 ?_
    refine J_iadd 25 rfl dX11_does_24 ?_
    refine J_iald 26 rfl dX11_does_25 (sa_X11_commands) (by omega) ?_
    refine J_istore 28 rfl dX11_does_26 (Nat.le_of_ble_eq_true rfl) ?_
    refine J_aload_n 29 rfl dX11_does_28 rfl ?_
    refine g_X11_commands 32 rfl dX11_does_29 lkX11_51 ?_
    refine J_iload_n 33 rfl dX11_does_32 rfl ?_
    refine J_iald 34 rfl dX11_does_33 (sa_X11_commands) (by omega) ?_
    refine J_cv (b := 8) (by rw [sR_ne (by omega)]; exact hK) ?_
    refine J_tabIn 171 dX11_does_34 (by omega) (by decide) rfl (by decide) ?_
    refine J_aload_n 172 rfl dX11_does_171 rfl ?_
    refine J_iload_n 173 rfl dX11_does_172 rfl ?_
    refine J_iload_n 174 rfl dX11_does_173 rfl ?_
    refine J_iconst 175 1 rfl dX11_does_174 ic_1 ?_
    refine J_callVie (As := [_, _, _]) 178 _ rfl kalX11_ableIt lkX11_173 dX11_does_175 (lt_X11) (so_X11) rfl rfl rfl (by exact Nat.le_of_ble_eq_true rfl) (by omega) (SJ.mo (S_X11_ableIt hw hB (by omega) (by omega) (by omega))) (fun r175 J175 q175 => ?_)
    refine J_pop 179 rfl dX11_does_178 rfl ?_
    refine J_goto 208 (by decide) dX11_does_179 ?_
    refine J_vret rfl dX11_does_208 ?_
    obtain ⟨J1, hs, hq⟩ := q175
    rcases hq with ⟨qa, qb, qc⟩ | ⟨qa, qb, qc⟩
    · exact ⟨rfl, J1, 1, hs, Or.inl ⟨qa, qc⟩⟩
    · exact ⟨rfl, J1, _, hs, Or.inr ⟨qa, (by first | omega | (revert qa; unfold fAble; (repeat' split) <;> omega)), (by first | omega | (unfold fAble; (repeat' split) <;> omega)), qc⟩⟩
  · have n0 := hl 0 (by decide)
    have n1 := hl 1 (by decide)
    have n2 := hl 2 (by decide)
    refine J_aload_n 1 rfl dX11_does_0 rfl ?_
    refine g_X11_commands 4 rfl dX11_does_1 lkX11_51 ?_
    refine J_iload_n 5 rfl dX11_does_4 rfl ?_
    refine J_iconst 6 1 rfl dX11_does_5 ic_1 ?_
    refine J_iadd 7 rfl dX11_does_6 ?_
    refine J_iald 8 rfl dX11_does_7 (sa_X11_commands) (by omega) ?_
    refine J_cv (b := l 0) (by rw [sR_ne (by omega), show 4 * i + 1 = 4 * i + 1 + 0 by omega]; exact n0.1) ?_
    refine J_istore_n 9 rfl dX11_does_8 rfl (Nat.le_of_ble_eq_true rfl) ?_
    refine J_aload_n 10 rfl dX11_does_9 rfl ?_
    refine g_X11_commands 13 rfl dX11_does_10 lkX11_51 ?_
    refine J_iload_n 14 rfl dX11_does_13 rfl ?_
    refine J_iconst 15 2 rfl dX11_does_14 ic_2 ?_
    refine J_iadd 16 rfl dX11_does_15 ?_
    refine J_iald 17 rfl dX11_does_16 (sa_X11_commands) (by omega) ?_
    refine J_cv (b := l 1) (by rw [sR_ne (by omega), show 4 * i + 2 = 4 * i + 1 + 1 by omega]; exact n1.1) ?_
    refine J_istore_n 18 rfl dX11_does_17 rfl (Nat.le_of_ble_eq_true rfl) ?_
    refine J_aload_n 19 rfl dX11_does_18 rfl ?_
    refine g_X11_commands 22 rfl dX11_does_19 lkX11_51 ?_
    refine J_iload_n 23 rfl dX11_does_22 rfl ?_
    refine J_iconst 24 3 rfl dX11_does_23 ic_3 ?_
    refine J_iadd 25 rfl dX11_does_24 ?_
    refine J_iald 26 rfl dX11_does_25 (sa_X11_commands) (by omega) ?_
    refine J_cv (b := l 2) (by rw [sR_ne (by omega), show 4 * i + 3 = 4 * i + 1 + 2 by omega]; exact n2.1) ?_
    refine J_istore 28 rfl dX11_does_26 (Nat.le_of_ble_eq_true rfl) ?_
    refine J_aload_n 29 rfl dX11_does_28 rfl ?_
    refine g_X11_commands 32 rfl dX11_does_29 lkX11_51 ?_
    refine J_iload_n 33 rfl dX11_does_32 rfl ?_
    refine J_iald 34 rfl dX11_does_33 (sa_X11_commands) (by omega) ?_
    refine J_cv (b := 9) (by rw [sR_ne (by omega)]; exact hK) ?_
    refine J_tabIn 182 dX11_does_34 (by omega) (by decide) rfl (by decide) ?_
    refine J_aload_n 183 rfl dX11_does_182 rfl ?_
    refine J_iload_n 184 rfl dX11_does_183 rfl ?_
    refine J_iload_n 185 rfl dX11_does_184 rfl ?_
    refine J_iload 187 rfl dX11_does_185 rfl ?_
    refine J_callVie (As := [_, _, _]) 190 _ rfl kalX11_mendIt lkX11_177 dX11_does_187 (lt_X11) (so_X11) rfl rfl rfl (by exact Nat.le_of_ble_eq_true rfl) (by omega) (SJ.mo (S_X11_mendIt hw hB (by omega) (by omega) (by omega))) (fun r187 J187 q187 => ?_)
    refine J_pop 191 rfl dX11_does_190 rfl ?_
    refine J_goto 208 (by decide) dX11_does_191 ?_
    refine J_vret rfl dX11_does_208 ?_
    obtain ⟨J1, hs, hq⟩ := q187
    rcases hq with ⟨qa, qb, qc⟩ | ⟨qa, qb, qc⟩
    · exact ⟨rfl, J1, 1, hs, Or.inl ⟨qa, qc⟩⟩
    · exact ⟨rfl, J1, _, hs, Or.inr ⟨qa, (by first | omega | (revert qa; unfold fMend; (repeat' split) <;> omega)), (by first | omega | (unfold fMend; (repeat' split) <;> omega)), qc⟩⟩
  · refine J_aload_n 1 rfl dX11_does_0 rfl ?_
    refine g_X11_commands 4 rfl dX11_does_1 lkX11_51 ?_
    refine J_iload_n 5 rfl dX11_does_4 rfl ?_
    refine J_iconst 6 1 rfl dX11_does_5 ic_1 ?_
    refine J_iadd 7 rfl dX11_does_6 ?_
    refine J_iald 8 rfl dX11_does_7 (sa_X11_commands) (by omega) ?_
    refine J_istore_n 9 rfl dX11_does_8 rfl (Nat.le_of_ble_eq_true rfl) ?_
    refine J_aload_n 10 rfl dX11_does_9 rfl ?_
    refine g_X11_commands 13 rfl dX11_does_10 lkX11_51 ?_
    refine J_iload_n 14 rfl dX11_does_13 rfl ?_
    refine J_iconst 15 2 rfl dX11_does_14 ic_2 ?_
    refine J_iadd 16 rfl dX11_does_15 ?_
    refine J_iald 17 rfl dX11_does_16 (sa_X11_commands) (by omega) ?_
    refine J_istore_n 18 rfl dX11_does_17 rfl (Nat.le_of_ble_eq_true rfl) ?_
    refine J_aload_n 19 rfl dX11_does_18 rfl ?_
    refine g_X11_commands 22 rfl dX11_does_19 lkX11_51 ?_
    refine J_iload_n 23 rfl dX11_does_22 rfl ?_
    refine J_iconst 24 3 rfl dX11_does_23 ic_3 ?_
    refine J_iadd 25 rfl dX11_does_24 ?_
    refine J_iald 26 rfl dX11_does_25 (sa_X11_commands) (by omega) ?_
    refine J_istore 28 rfl dX11_does_26 (Nat.le_of_ble_eq_true rfl) ?_
    refine J_aload_n 29 rfl dX11_does_28 rfl ?_
    refine g_X11_commands 32 rfl dX11_does_29 lkX11_51 ?_
    refine J_iload_n 33 rfl dX11_does_32 rfl ?_
    refine J_iald 34 rfl dX11_does_33 (sa_X11_commands) (by omega) ?_
    refine J_cv (b := 10) (by rw [sR_ne (by omega)]; exact hK) ?_
    refine J_tabIn 194 dX11_does_34 (by omega) (by decide) rfl (by decide) ?_
    refine J_aload_n 195 rfl dX11_does_194 rfl ?_
    refine J_callVie (As := []) 198 _ rfl kalX11_repairIt lkX11_187 dX11_does_195 (lt_X11) (so_X11) rfl rfl rfl (by exact Nat.le_of_ble_eq_true rfl) (by omega) (SJ.mo (S_X11_repairIt hw hB)) (fun r195 J195 q195 => ?_)
    refine J_pop 199 rfl dX11_does_198 rfl ?_
    refine J_goto 208 (by decide) dX11_does_199 ?_
    refine J_vret rfl dX11_does_208 ?_
    obtain ⟨J1, hs, hq⟩ := q195
    rcases hq with ⟨qa, qb, qc⟩ | ⟨qa, qb, qc⟩
    · exact ⟨rfl, J1, 1, hs, Or.inl ⟨qa, qc⟩⟩
    · exact ⟨rfl, J1, _, hs, Or.inr ⟨qa, (by first | omega | (revert qa; unfold fRep; (repeat' split) <;> omega)), (by first | omega | (unfold fRep; (repeat' split) <;> omega)), qc⟩⟩
  · have n0 := hl 0 (by decide)
    refine J_aload_n 1 rfl dX11_does_0 rfl ?_
    refine g_X11_commands 4 rfl dX11_does_1 lkX11_51 ?_
    refine J_iload_n 5 rfl dX11_does_4 rfl ?_
    refine J_iconst 6 1 rfl dX11_does_5 ic_1 ?_
    refine J_iadd 7 rfl dX11_does_6 ?_
    refine J_iald 8 rfl dX11_does_7 (sa_X11_commands) (by omega) ?_
    refine J_cv (b := l 0) (by rw [sR_ne (by omega), show 4 * i + 1 = 4 * i + 1 + 0 by omega]; exact n0.1) ?_
    refine J_istore_n 9 rfl dX11_does_8 rfl (Nat.le_of_ble_eq_true rfl) ?_
    refine J_aload_n 10 rfl dX11_does_9 rfl ?_
    refine g_X11_commands 13 rfl dX11_does_10 lkX11_51 ?_
    refine J_iload_n 14 rfl dX11_does_13 rfl ?_
    refine J_iconst 15 2 rfl dX11_does_14 ic_2 ?_
    refine J_iadd 16 rfl dX11_does_15 ?_
    refine J_iald 17 rfl dX11_does_16 (sa_X11_commands) (by omega) ?_
    refine J_istore_n 18 rfl dX11_does_17 rfl (Nat.le_of_ble_eq_true rfl) ?_
    refine J_aload_n 19 rfl dX11_does_18 rfl ?_
    refine g_X11_commands 22 rfl dX11_does_19 lkX11_51 ?_
    refine J_iload_n 23 rfl dX11_does_22 rfl ?_
    refine J_iconst 24 3 rfl dX11_does_23 ic_3 ?_
    refine J_iadd 25 rfl dX11_does_24 ?_
    refine J_iald 26 rfl dX11_does_25 (sa_X11_commands) (by omega) ?_
    refine J_istore 28 rfl dX11_does_26 (Nat.le_of_ble_eq_true rfl) ?_
    refine J_aload_n 29 rfl dX11_does_28 rfl ?_
    refine g_X11_commands 32 rfl dX11_does_29 lkX11_51 ?_
    refine J_iload_n 33 rfl dX11_does_32 rfl ?_
    refine J_iald 34 rfl dX11_does_33 (sa_X11_commands) (by omega) ?_
    refine J_cv (b := 11) (by rw [sR_ne (by omega)]; exact hK) ?_
    refine J_tabOut 202 dX11_does_34 (by omega) (Or.inr (by decide)) (by decide) ?_
    refine J_aload_n 203 rfl dX11_does_202 rfl ?_
    refine J_iload_n 204 rfl dX11_does_203 rfl ?_
    refine J_callVie (As := [_]) 207 _ rfl kalX11_passIt lkX11_192 dX11_does_204 (lt_X11) (so_X11) rfl rfl rfl (by exact Nat.le_of_ble_eq_true rfl) (by omega) (SJ.mo (S_X11_passIt hw hB (by omega))) (fun r204 J204 q204 => ?_)
    refine J_pop 208 rfl dX11_does_207 rfl ?_
    refine J_vret rfl dX11_does_208 ?_
    obtain ⟨J1, hs, hq⟩ := q204
    rcases hq with ⟨qa, qb, qc⟩ | ⟨qa, qb, qc⟩
    · exact ⟨rfl, J1, 1, hs, Or.inl ⟨qa, qc⟩⟩
    · exact ⟨rfl, J1, _, hs, Or.inr ⟨qa, (by first | omega | (revert qa; unfold fPass; (repeat' split) <;> omega)), (by first | omega | (unfold fPass; (repeat' split) <;> omega)), qc⟩⟩

theorem mst_id {J : DJ} {w p : Nat} (h1 : J 351 22 = w) (h2 : J 351 20 = p) : mst J w p = J := by
  funext k j
  unfold mst
  simp only [up2_app]
  by_cases a : k = 351 ∧ j = 20
  · rw [if_pos a, a.1, a.2, h2]
  · rw [if_neg a]
    by_cases b : k = 351 ∧ j = 22
    · rw [if_pos b, b.1, b.2, h1]
    · rw [if_neg b]
def PE (Jf : DJ) (P : Nat × List (Nat × List Nat)) : Prop := (P.1 = 4294967295 ∧ Jf 351 22 = 0 ∧ Jf 351 19 = P.2.length ∧ ∀ i, i < P.2.length → St Jf i (P.2.getD i (0, []))) ∨ (P.1 ≠ 4294967295 ∧ Jf 351 22 = 1 ∧ Jf 351 20 = P.1)
theorem ex_out {g : Gn} {Q : Option Value → DJ → Prop} {J : DJ} (h : VJ g mX11_execute 9 0 0 Q NoX 92 [(0, .ref (g.2 351)), (1, .int (nI (0)))] [] J) : VJ g mX11_execute 9 0 0 Q NoX 34 [(0, .ref (g.2 351)), (1, .int (nI (0)))] [] J := by
  refine J_iload_n 35 rfl dX11_execute_34 rfl ?_
  exact J_if_eq 92 38 (by decide) rfl dX11_execute_35 (by omega) (fun _ => h) (fun c => absurd rfl c)
theorem St.mst {J : DJ} {w p i : Nat} {x : Nat × List Nat} (h : St J i x) : St (mst J w p) i x := by
  unfold St
  rw [mst_ne (by omega)]
  exact h
theorem ex_parse {g : Gn} {Q : Option Value → DJ → Prop} {J0 : DJ} {s : Nat → Nat} {n : Nat} {P : Nat × List (Nat × List Nat)} (t : TM J0 s n) (lt : LT J0) (l3P : ∀ i, i < P.2.length → (P.2.getD i (0, [])).2.length ≤ 3) (fin : ∀ Jf, Rc J0 Jf → PE Jf P → VJ g mX11_execute 9 0 0 Q NoX 92 [(0, .ref (g.2 351)), (1, .int (nI (0)))] [] Jf) : ∀ (k c p : Nat) (Jc : DJ), c + k = 13 → p ≤ n → 5 * c ≤ p → Rc J0 Jc → Jc 351 22 = 0 → Jc 351 20 = p → Jc 351 19 = c → P.1 = (prsN s n k p).1 → P.2.length = c + (prsN s n k p).2.length →
    (∀ i, i < (prsN s n k p).2.length → P.2.getD (c + i) (0, []) = (prsN s n k p).2.getD i (0, [])) → (∀ i, i < c → St Jc i (P.2.getD i (0, []))) → VJ g mX11_execute 9 0 0 Q NoX 34 [(0, .ref (g.2 351)), (1, .int (nI (1)))] [] Jc := by
  intro k
  induction k with
  | zero => exact fun c p Jc hk ha h5 => absurd t.2.2.1 (by omega)
  | succ k ih =>
    intro c p Jc hk ha h5 rcc hw hp hc hP1 hP2 hP3 hs
    have tn := t.2.2.1
    have st := prsN_eq (s := s) (n := n) (k := k) (a := p)
    obtain ⟨K, eK⟩ : ∃ K, K = ckN s n p := ⟨_, rfl⟩
    obtain ⟨A, eA⟩ : ∃ A, A = ckA s n p := ⟨_, rfl⟩
    obtain ⟨Ls, eL⟩ : ∃ Ls, Ls = ckL s n p := ⟨_, rfl⟩
    have fac := ck_facts (s := s) ha
    rw [← eK, ← eA, ← eL] at st fac
    refine J_iload_n 35 rfl dX11_execute_34 rfl ?_
    refine J_if_eq 92 38 (by decide) rfl dX11_execute_35 (by omega) (fun c => absurd c (by omega)) (fun _ => ?_)
    refine J_aload_n 39 rfl dX11_execute_38 rfl ?_
    refine J_callVvp (As := []) 42 _ rfl kalX11_readCommand lkX11_298 dX11_execute_39 (lt_X11) (so_X11) rfl rfl rfl (by exact Nat.le_of_ble_eq_true rfl) (by omega) (S_X11_readCommand (rcc.tm t) (rcc.lt lt) hp ha hc (by omega)) (fun J39 q39 => ?_)
    obtain ⟨qR, q363, qq⟩ := q39
    rw [← eK, ← eA, ← eL] at qq
    have rc1 := rcc.trans qR
    have t1 := rc1.tm t
    have low : ∀ i, i < c → St J39 i (P.2.getD i (0, [])) := fun i hi => by
      have z := hs i hi
      refine ⟨by rw [q363 _ (by omega)]; exact z.1, fun j hj => ?_⟩
      have l3 : (P.2.getD i (0, [])).2.length ≤ 3 := l3P i (by omega)
      rw [q363 _ (by omega)]
      exact z.2 j hj
    rcases qq with ⟨k12, ft, w0, pA, c1, stn⟩ | ⟨k12, w1, pF⟩
    · have fA := fac k12 ft
      refine J_aload_n 43 rfl dX11_execute_42 rfl ?_
      refine g_X11_isWrong 46 rfl dX11_execute_43 lkX11_265 ?_
      refine J_cv (b := 0) w0 ?_
      refine J_if_ne 64 49 (by decide) rfl dX11_execute_46 (by omega) (fun c => absurd c (by omega)) (fun _ => ?_)
      refine J_aload_n 50 rfl dX11_execute_49 rfl ?_
      refine g_X11_place0 53 rfl dX11_execute_50 lkX11_259 ?_
      refine J_cv (b := A) pA ?_
      refine J_aload_n 54 rfl dX11_execute_53 rfl ?_
      refine g_X11_size0 57 rfl dX11_execute_54 lkX11_262 ?_
      refine J_cv (b := n) t1.2.1 ?_
      refine J_icmp_ge 64 60 (by decide) rfl dX11_execute_57 (by omega) (by omega) (fun c57 => ?_) (fun c57 => ?_)
      · refine J_iconst 65 0 rfl dX11_execute_64 ic_0 ?_
        refine J_istore_n 66 rfl dX11_execute_65 rfl (Nat.le_of_ble_eq_true rfl) ?_
        refine J_iload_n 67 rfl dX11_execute_66 rfl ?_
        refine J_if_eq 34 70 (by decide) rfl dX11_execute_67 (by omega) (fun _ => ?_) (fun c => absurd c (by omega))
        rw [if_neg (by omega), if_pos (by omega)] at st
        rw [st] at hP1 hP2 hP3
        refine ex_out (fin _ rc1 (Or.inl ⟨hP1, w0, by rw [c1, hP2]; rfl, fun i hi => ?_⟩))
        have hi2 : i < c + 1 := by rw [hP2] at hi; exact hi
        by_cases e : i = c
        · subst e
          have z := hP3 0 (Nat.zero_lt_one)
          rw [Nat.add_zero] at z
          rw [z]
          exact stn
        · exact low i (by omega)
      · refine J_iconst 61 1 rfl dX11_execute_60 ic_1 ?_
        refine J_goto 65 (by decide) dX11_execute_61 ?_
        refine J_istore_n 66 rfl dX11_execute_65 rfl (Nat.le_of_ble_eq_true rfl) ?_
        refine J_iload_n 67 rfl dX11_execute_66 rfl ?_
        refine J_if_eq 34 70 (by decide) rfl dX11_execute_67 (by omega) (fun c => absurd c (by omega)) (fun _ => ?_)
        rw [← mst_id w0 pA]
        refine J_aload_n 71 rfl dX11_execute_70 rfl ?_
        refine J_bipush 73 59 rfl dX11_execute_71 bc_59 ?_
        refine J_callVv (As := [_]) 76 _ rfl kalX11_expects lkX11_277 dX11_execute_73 (lt_X11) (so_X11) rfl rfl rfl (by exact Nat.le_of_ble_eq_true rfl) (by omega) (S_X11_expects (c := 59) t1 (by omega) fA.2.1 (by omega)) ?_
        refine J_aload_n 77 rfl dX11_execute_76 rfl ?_
        refine g_X11_isWrong 80 rfl dX11_execute_77 lkX11_265 ?_
        refine J_cv (b := wL s n 59 0 A) mst_w ?_
        refine J_if_ne 87 83 (by decide) rfl dX11_execute_80 (by have := wL_le (s := s) (n := n) (c := 59) (w := 0) (p := A); omega) (fun c80 => ?_) (fun c80 => ?_)
        · have wle := wL_le (s := s) (n := n) (c := 59) (w := 0) (p := A)
          refine J_iconst 88 0 rfl dX11_execute_87 ic_0 ?_
          refine J_istore_n 89 rfl dX11_execute_88 rfl (Nat.le_of_ble_eq_true rfl) ?_
          refine J_goto 34 (by decide) dX11_execute_89 ?_
          have w1 : wL s n 59 0 A = 1 := by omega
          have ns : s A ≠ 59 := fun z => absurd w1 (by unfold wL; rw [if_neg (fun x => x.elim (by omega) (fun x => x ⟨by omega, z⟩))]; omega)
          rw [if_neg (by omega), if_neg (by omega), if_pos ns] at st
          rw [st] at hP1
          refine ex_out (fin _ (rc1.trans Rc.mst) (Or.inr ⟨by rw [hP1]; dsimp only; omega, by rw [mst_w]; exact w1, by rw [mst_p, w1, hP1]; exact if_pos rfl⟩))
        · have wle := wL_le (s := s) (n := n) (c := 59) (w := 0) (p := A)
          refine J_iconst 84 1 rfl dX11_execute_83 ic_1 ?_
          refine J_goto 88 (by decide) dX11_execute_84 ?_
          refine J_istore_n 89 rfl dX11_execute_88 rfl (Nat.le_of_ble_eq_true rfl) ?_
          refine J_goto 34 (by decide) dX11_execute_89 ?_
          have w1 : wL s n 59 0 A = 0 := by omega
          have ns : s A = 59 := Decidable.byContradiction (fun z => absurd w1 (by unfold wL; rw [if_pos (Or.inr (fun x => z x.2))]; omega))
          have np : pL (wL s n 59 0 A) A 1 = A + 1 := by rw [w1]; exact if_neg (by omega)
          rw [if_neg (by omega), if_neg (by omega), if_neg (fun z => z ns)] at st
          rw [st] at hP1 hP2 hP3
          refine ih (c + 1) (A + 1) _ (by omega) (by omega) (by omega) (rc1.trans Rc.mst) (by rw [mst_w]; exact w1) (by rw [mst_p]; exact np) (by rw [mst_o (by omega) (by omega)]; exact c1) hP1 (by rw [hP2, List.length_cons]; omega) (fun i hi => ?_) (fun i hi => ?_)
          · have z := hP3 (i + 1) (by rw [List.length_cons]; omega)
            rw [show c + 1 + i = c + (i + 1) by omega, z]
            rfl
          · refine St.mst ?_
            by_cases e : i = c
            · subst e
              have z := hP3 0 (by rw [List.length_cons]; omega)
              rw [Nat.add_zero] at z
              rw [z]
              exact stn
            · exact low i (by omega)
    · refine J_aload_n 43 rfl dX11_execute_42 rfl ?_
      refine g_X11_isWrong 46 rfl dX11_execute_43 lkX11_265 ?_
      refine J_cv (b := 1) w1 ?_
      refine J_if_ne 64 49 (by decide) rfl dX11_execute_46 (by omega) (fun _ => ?_) (fun c => absurd c (by omega))
      refine J_iconst 65 0 rfl dX11_execute_64 ic_0 ?_
      refine J_istore_n 66 rfl dX11_execute_65 rfl (Nat.le_of_ble_eq_true rfl) ?_
      refine J_iload_n 67 rfl dX11_execute_66 rfl ?_
      refine J_if_eq 34 70 (by decide) rfl dX11_execute_67 (by omega) (fun _ => ?_) (fun c => absurd c (by omega))
      rw [if_pos k12] at st
      rw [st] at hP1
      have fl := furN_le (s := s) ha 12
      refine ex_out (fin _ rc1 (Or.inr ⟨by rw [hP1]; dsimp only; omega, w1, by rw [pF, hP1]⟩))
def ECh (J1 J2 : DJ) (x f : Nat → Nat) : Prop := (∀ c, c ≠ 351 → c ≠ 352 → c ≠ 355 → c ≠ 357 → J2 c = J1 c) ∧ J2 352 = x ∧ (∀ j, j ≠ 5 → j ≠ 12 → J2 351 j = J1 351 j) ∧ J2 351 5 = min (J1 351 5 + 1) 8 ∧ ∀ c, c < min (J1 351 5 + 1) 8 → ∀ i, i < 269 → J2 355 (269 * c + i) = psh (J1 351 5) (pfs J1) f c i
def ENo (J1 J2 : DJ) (k : Nat) (f : Nat → Nat) : Prop := (∀ c, c ≠ 351 → c ≠ 352 → c ≠ 357 → J2 c = J1 c) ∧ (∀ j, j ≠ 7 → j ≠ 8 → j ≠ 12 → J2 351 j = J1 351 j) ∧ J2 351 7 = k ∧ J2 351 8 = 2 ∧ ∀ i, i < 269 → J2 352 i = f i
/-- what a run of the commands may change besides the house -/
def Xr (J J2 : DJ) : Prop := (∀ c, c ≠ 351 → c ≠ 352 → c ≠ 357 → J2 c = J c) ∧ ∀ j, j ≠ 12 → J2 351 j = J 351 j
theorem Xr.sm {J J1 J2 : DJ} (h : Xr J J1) (h2 : Sm J1 J2) : Xr J J2 := ⟨fun c a b d => (h2.1 c a d).trans (h.1 c a b d), fun j a => (h2.2 j a).trans (h.2 j a)⟩
theorem ex_run {g : Gn} {J1 : DJ} {P : Nat × List (Nat × List Nat)} {f : Nat → Nat} {B : Nat} (hB : B < 500000000) (l13 : P.2.length ≤ 13) (ok : ∀ i, i < P.2.length → cOk (P.2.getD i (0, []))) (hst : ∀ i, i < P.2.length → St J1 i (P.2.getD i (0, []))) (h8 : J1 351 8 = 0) (h19 : J1 351 19 = P.2.length) (h353 : ∀ i, i < 269 → J1 353 i = f i) (h5 : J1 351 5 ≤ 8) : ∀ (k i : Nat) (fi : Nat → Nat) (Jd : DJ), k + i = P.2.length → WF fi (B + 3000 * i) → Xr J1 Jd → exN P.2 k i fi = (exN P.2 P.2.length 0 f) → VJ g mX11_execute 9 0 0 (Re (fun r J2 => ((exN P.2 P.2.length 0 f).1 = true ∧ r = P.2.length ∧ ECh J1 J2 (exN P.2 P.2.length 0 f).2.2 f) ∨ ((exN P.2 P.2.length 0 f).1 = false ∧ r = 4294967295 ∧ ENo J1 J2 (exN P.2 P.2.length 0 f).2.1 f))) NoX 115 [(0, .ref (g.2 351)), (1, .int (nI (0))), (2, .int (nI (i)))] [] (sR Jd 352 fi) := by
  intro k
  induction k using Nat.strongRecOn with
  | ind k ih =>
    intro i fi Jd hk wfi xr ex
    refine J_iload_n 116 rfl dX11_execute_115 rfl ?_
    refine J_aload_n 117 rfl dX11_execute_116 rfl ?_
    refine g_X11_commandMany 120 rfl dX11_execute_117 lkX11_289 ?_
    refine J_cv (b := P.2.length) (by rw [sR_ne (by omega), xr.2 19 (by omega)]; exact h19) ?_
    refine J_icmp_ge 181 123 (by decide) rfl dX11_execute_120 (by omega) (by omega) (fun c120 => ?_) (fun c120 => ?_)
    · have e0 : k = 0 := by omega
      subst e0
      have ei : i = P.2.length := by omega
      have e9 : exN P.2 P.2.length 0 f = (true, i, fi) := ex.symm
      refine J_aload_n 182 rfl dX11_execute_181 rfl ?_
      refine J_aload_n 183 rfl dX11_execute_182 rfl ?_
      refine g_X11_commandMany 186 rfl dX11_execute_183 lkX11_289 ?_
      refine J_cv (b := P.2.length) (by rw [sR_ne (by omega), xr.2 19 (by omega)]; exact h19) ?_
      refine J_callVip (As := [_]) 189 _ rfl kalX11_changed lkX11_134 dX11_execute_186 (lt_X11) (so_X11) rfl rfl rfl (by exact Nat.le_of_ble_eq_true rfl) (by omega) (S_X11_changed (n := J1 351 5) (by rw [sR_ne (by omega), xr.2 8 (by omega)]; exact h8) (by rw [sR_ne (by omega), xr.2 5 (by omega)]) h5) (fun J186 q186 => ?_)
      refine J_iret rfl dX11_execute_189 ?_
      obtain ⟨P2, e2, hP⟩ := q186
      refine ⟨_, rfl, Or.inl ⟨by rw [e9], rfl, ?_⟩⟩
      rw [e9]
      subst e2
      refine ⟨fun c a b d e => by rw [sR_ne d, up2_ne a, sR_ne b]; exact xr.1 c a b e, by rw [sR_ne (by omega), up2_ne (by omega), sR_at], fun j a b => by rw [sR_ne (by omega), up2_app, if_neg (fun z => a z.2), sR_ne (by omega)]; exact xr.2 j b, by rw [sR_ne (by omega), up2_app, if_pos ⟨rfl, rfl⟩], fun c hc i2 hi2 => ?_⟩
      rw [sR_at, hP c hc i2 hi2]
      refine psh_congr hi2 (fun i3 hi3 => ?_) (fun c i3 => ?_)
      · rw [sR_ne (by omega), xr.1 353 (by omega) (by omega) (by omega)]; exact h353 i3 hi3
      · unfold pfs
        rw [sR_ne (by omega), xr.1 355 (by omega) (by omega) (by omega)]
    · have oki := ok i (by omega)
      have sti := hst i (by omega)
      have hK : Jd 363 (4 * i) = kC P.2 i := by rw [xr.1 363 (by omega) (by omega) (by omega)]; exact sti.1
      have hl : ∀ j, j < ndF (chS.getD (kC P.2 i) []) → Jd 363 (4 * i + 1 + j) = lC P.2 i j ∧ lC P.2 i j ≤ 99 := fun j hj => ⟨by rw [xr.1 363 (by omega) (by omega) (by omega)]; exact sti.2 j (by rw [oki.2.1]; exact hj), oki.2.2 j⟩
      obtain ⟨k, rfl⟩ : ∃ k2, k = k2 + 1 := ⟨k - 1, by omega⟩
      replace ih := ih k (by omega)
      refine J_aload_n 124 rfl dX11_execute_123 rfl ?_
      refine J_iconst 125 4 rfl dX11_execute_124 ic_4 ?_
      refine J_iload_n 126 rfl dX11_execute_125 rfl ?_
      refine J_imul 127 rfl dX11_execute_126 ?_
      refine J_callVvp (As := [_]) 130 _ rfl kalX11_does lkX11_301 dX11_execute_127 (lt_X11) (so_X11) rfl rfl rfl (by exact Nat.le_of_ble_eq_true rfl) (by omega) (S_X11_does (i := i) wfi (by omega) (by omega) oki.1 hK hl) (fun J127 q127 => ?_)
      obtain ⟨J9, p9, hs, hq⟩ := q127
      have xr2 := xr.sm hs
      rcases hq with ⟨qa, qc⟩ | ⟨qa, q0, q10, qc⟩
      · subst qc
        refine J_aload_n 131 rfl dX11_execute_130 rfl ?_
        refine g_X11_thrown 134 rfl dX11_execute_131 lkX11_57 ?_
        refine J_cv (b := 0) (by rw [sR_ne (by omega), xr2.2 8 (by omega)]; exact h8) ?_
        refine J_if_le 175 137 (by decide) rfl dX11_execute_134 (by omega) (fun _ => ?_) (fun c => absurd c (by omega))
        refine J_iinc 178 1 rfl dX11_execute_175 ic_1 rfl (Nat.le_of_ble_eq_true rfl) ?_
        refine J_goto 115 (by decide) dX11_execute_178 ?_
        exact ih (i + 1) (xC fi (kC P.2 i) (lC P.2 i)) J9 (by omega) (by rw [show B + 3000 * (i + 1) = B + 3000 * i + 3000 by omega]; exact xC_WF wfi oki.1 qa) xr2 (by rw [← ex, exN_1 qa])
      · subst qc
        have e9 : exN P.2 P.2.length 0 f = (false, i, fi) := by rw [← ex, exN_0 qa]
        have back : ∀ (n9 : Nat) (j : Nat) (h : Nat → Nat), 269 - j = n9 → j ≤ 269 → (∀ j2, j2 < j → h j2 = f j2) → VJ g mX11_execute 9 0 0 (Re (fun r J2 => ((exN P.2 P.2.length 0 f).1 = true ∧ r = P.2.length ∧ ECh J1 J2 (exN P.2 P.2.length 0 f).2.2 f) ∨ ((exN P.2 P.2.length 0 f).1 = false ∧ r = 4294967295 ∧ ENo J1 J2 (exN P.2 P.2.length 0 f).2.1 f))) NoX 139 [(0, .ref (g.2 351)), (1, .int (nI (0))), (2, .int (nI (i))), (3, .int (nI (j)))] [] (sR (up2 J9 351 8 p9) 352 h) := by
          intro n9
          induction n9 using Nat.strongRecOn with
          | ind n9 bk =>
            intro j h hi hj hh
            refine J_iload_n 140 rfl dX11_execute_139 rfl ?_
            refine J_sipush 143 269 rfl dX11_execute_140 sc_269 ?_
            refine J_icmp_ge 164 146 (by decide) rfl dX11_execute_143 (by omega) (by omega) (fun c143 => ?_) (fun c143 => ?_)
            · refine J_aload_n 165 rfl dX11_execute_164 rfl ?_
              refine J_iload_n 166 rfl dX11_execute_165 rfl ?_
              refine p_X11_failed 169 rfl dX11_execute_166 lkX11_26 ?_
              rw [up2_out (by omega)]
              refine J_aload_n 170 rfl dX11_execute_169 rfl ?_
              refine J_iconst 171 2 rfl dX11_execute_170 ic_2 ?_
              refine J_callVi (As := [_]) 174 _ rfl kalX11_throwing lkX11_125 dX11_execute_171 (lt_X11) (so_X11) rfl rfl rfl (by exact Nat.le_of_ble_eq_true rfl) (by omega) (S_X11_throwing) ?_
              refine J_iret rfl dX11_execute_174 ?_
              rw [up2_out (by omega)]
              refine ⟨_, rfl, Or.inr ⟨by rw [e9], rfl, fun c a b d => ?_, fun j7 a b d => ?_, ?_, ?_, fun i2 hi2 => ?_⟩⟩
              · rw [sR_ne b, up2_ne a, up2_ne a, up2_ne a]; exact xr2.1 c a b d
              · rw [sR_ne (by omega), up2_app, if_neg (fun z => b z.2), up2_app, if_neg (fun z => a z.2), up2_app, if_neg (fun z => b z.2)]; exact xr2.2 j7 d
              · rw [sR_ne (by omega), up2_app, if_neg (by omega), up2_app, if_pos ⟨rfl, rfl⟩, e9]
              · rw [sR_ne (by omega), up2_app, if_pos ⟨rfl, rfl⟩]
              · rw [sR_at]; exact hh i2 (by omega)
            · refine J_aload_n 147 rfl dX11_execute_146 rfl ?_
              refine g_X11_m 150 rfl dX11_execute_147 lkX11_9 ?_
              refine J_iload_n 151 rfl dX11_execute_150 rfl ?_
              refine J_aload_n 152 rfl dX11_execute_151 rfl ?_
              refine g_X11_aside 155 rfl dX11_execute_152 lkX11_13 ?_
              refine J_iload_n 156 rfl dX11_execute_155 rfl ?_
              refine J_iald 157 rfl dX11_execute_156 (sa_X11_aside) (by omega) ?_
              refine J_cv (b := f j) (by rw [sR_ne (by omega), up2_ne (by omega), xr2.1 353 (by omega) (by omega) (by omega)]; exact h353 j (by omega)) ?_
              refine J_mast 158 rfl dX11_execute_157 (by omega) ?_
              refine J_iinc 161 1 rfl dX11_execute_158 ic_1 rfl (Nat.le_of_ble_eq_true rfl) ?_
              refine J_goto 139 (by decide) dX11_execute_161 ?_
              refine bk _ (by omega) (j + 1) _ rfl (by omega) (fun j2 hj2 => ?_)
              rw [up1_app]
              split
              · next e => rw [e]
              · exact hh j2 (by omega)
        refine J_aload_n 131 rfl dX11_execute_130 rfl ?_
        refine g_X11_thrown 134 rfl dX11_execute_131 lkX11_57 ?_
        refine J_cv (b := p9) (by rw [sR_ne (by omega), up2_app, if_pos ⟨rfl, rfl⟩]) ?_
        refine J_if_le 175 137 (by decide) rfl dX11_execute_134 (by omega) (fun c => absurd c (by omega)) (fun _ => ?_)
        refine J_iconst 138 0 rfl dX11_execute_137 ic_0 ?_
        refine J_istore_n 139 rfl dX11_execute_138 rfl (Nat.le_of_ble_eq_true rfl) ?_
        exact back _ 0 fi rfl (by omega) (fun j hj => absurd hj (by omega))
def SE (J J1 : DJ) : Prop := (∀ c, c < 351 ∨ c = 352 ∨ (354 ≤ c ∧ c ≤ 362) ∨ 364 ≤ c → J1 c = J c) ∧ (∀ j, j = 3 ∨ j = 5 ∨ j = 6 ∨ j = 7 ∨ j = 24 → J1 351 j = J 351 j) ∧ J1 351 8 = 0 ∧ J1 351 10 = 0
theorem S_X11_execute {g : Gn} {J : DJ} {s : Nat → Nat} {n B : Nat} {P : Nat × List (Nat × List Nat)} (hP : P = prsN s n 13 0) (hs : J 356 = s) (hn : J 351 10 = n) (h60 : n ≤ 60) (hch : ∀ i, i < n → 32 ≤ s i ∧ s i ≤ 126) (lt : LT J) (hw : WF (J 352) B) (hB : B < 500000000) (h5 : J 351 5 ≤ 8) : SJ g mX11_execute 9 0 0 [.ref (g.2 351)] J (Re (fun r J2 => ∃ J1, SE J J1 ∧ ((P.1 ≠ 4294967295 ∧ r = 4294967295 ∧ J2 = up2 (up2 J1 351 6 P.1) 351 8 1) ∨ (P.1 = 4294967295 ∧ (((exN P.2 P.2.length 0 (J 352)).1 = true ∧ r = P.2.length ∧ ECh J1 J2 (exN P.2 P.2.length 0 (J 352)).2.2 (J 352)) ∨ ((exN P.2 P.2.length 0 (J 352)).1 = false ∧ r = 4294967295 ∧ ENo J1 J2 (exN P.2 P.2.length 0 (J 352)).2.1 (J 352))))))) NoX := by
  have okP : P.2.length ≤ 13 ∧ ∀ i, i < P.2.length → cOk (P.2.getD i (0, [])) := by rw [hP]; exact prs_ok 13 0
  have l3P : ∀ i, i < P.2.length → (P.2.getD i (0, [])).2.length ≤ 3 := fun i hi => by rw [(okP.2 i hi).2.1]; exact fm_nd _ (okP.2 i hi).1
  refine SJ_of_VJ (by decide +kernel) (Nat.le_of_ble_eq_true rfl) ?_
  show VJ g mX11_execute 9 0 0 _ _ 0 [(0, .ref (g.2 351))] [] J
  refine J_aload_n 1 rfl dX11_execute_0 rfl ?_
  refine J_callVvp (As := []) 4 _ rfl kalX11_starts lkX11_128 dX11_execute_1 (lt_X11) (so_X11) rfl rfl rfl (by exact Nat.le_of_ble_eq_true rfl) (by omega) (S_X11_starts) (fun J1 q1 => ?_)
  obtain ⟨A, rfl, hA⟩ := q1
  refine J_aload_n 5 rfl dX11_execute_4 rfl ?_
  refine J_aload_n 6 rfl dX11_execute_5 rfl ?_
  refine g_X11_inputMany 9 rfl dX11_execute_6 lkX11_256 ?_
  refine J_cv (b := n) (by rw [sR_ne (by omega), up2_app, if_neg (by omega)]; exact hn) ?_
  refine p_X11_size0 12 rfl dX11_execute_9 lkX11_262 ?_
  refine J_aload_n 13 rfl dX11_execute_12 rfl ?_
  refine J_iconst 14 0 rfl dX11_execute_13 ic_0 ?_
  refine p_X11_inputMany 17 rfl dX11_execute_14 lkX11_256 ?_
  refine J_aload_n 18 rfl dX11_execute_17 rfl ?_
  refine J_iconst 19 0 rfl dX11_execute_18 ic_0 ?_
  refine p_X11_place0 22 rfl dX11_execute_19 lkX11_259 ?_
  refine J_aload_n 23 rfl dX11_execute_22 rfl ?_
  refine J_iconst 24 0 rfl dX11_execute_23 ic_0 ?_
  refine p_X11_commandMany 27 rfl dX11_execute_24 lkX11_289 ?_
  refine J_aload_n 28 rfl dX11_execute_27 rfl ?_
  refine J_iconst 29 0 rfl dX11_execute_28 ic_0 ?_
  refine p_X11_isWrong 32 (by omega) rfl dX11_execute_29 lkX11_265 ?_
  refine J_iconst 33 1 rfl dX11_execute_32 ic_1 ?_
  refine J_istore_n 34 rfl dX11_execute_33 rfl (Nat.le_of_ble_eq_true rfl) ?_
  obtain ⟨M0, eM⟩ : ∃ M0, M0 = (up2 (up2 (up2 (up2 (up2 (sR (up2 J 351 8 0) 353 A) 351 21 n) 351 10 0) 351 20 0) 351 19 0) 351 22 0) := ⟨_, rfl⟩
  rw [← eM]
  have mc : ∀ c, c ≠ 351 → c ≠ 353 → M0 c = J c := fun c a b => by rw [eM, up2_ne a, up2_ne a, up2_ne a, up2_ne a, up2_ne a, sR_ne b, up2_ne a]
  have m3 : M0 353 = A := by rw [eM, up2_ne (by omega), up2_ne (by omega), up2_ne (by omega), up2_ne (by omega), up2_ne (by omega), sR_at]
  have mj : ∀ j, j ≠ 8 → j ≠ 10 → j ≠ 19 → j ≠ 20 → j ≠ 21 → j ≠ 22 → M0 351 j = J 351 j := fun j a b c d e f => by rw [eM, up2_app, if_neg (fun z => f z.2), up2_app, if_neg (fun z => c z.2), up2_app, if_neg (fun z => d z.2), up2_app, if_neg (fun z => b z.2), up2_app, if_neg (fun z => e z.2), sR_ne (by omega), up2_app, if_neg (fun z => a z.2)]
  have m8 : M0 351 8 = 0 := by rw [eM, up2_app, if_neg (by omega), up2_app, if_neg (by omega), up2_app, if_neg (by omega), up2_app, if_neg (by omega), up2_app, if_neg (by omega), sR_ne (by omega), up2_app, if_pos ⟨rfl, rfl⟩]
  have m10 : M0 351 10 = 0 := by rw [eM, up2_app, if_neg (by omega), up2_app, if_neg (by omega), up2_app, if_neg (by omega), up2_app, if_pos ⟨rfl, rfl⟩]
  have m21 : M0 351 21 = n := by rw [eM, up2_app, if_neg (by omega), up2_app, if_neg (by omega), up2_app, if_neg (by omega), up2_app, if_neg (by omega), up2_app, if_pos ⟨rfl, rfl⟩]
  have m20 : M0 351 20 = 0 := by rw [eM, up2_app, if_neg (by omega), up2_app, if_neg (by omega), up2_app, if_pos ⟨rfl, rfl⟩]
  have m19 : M0 351 19 = 0 := by rw [eM, up2_app, if_neg (by omega), up2_app, if_pos ⟨rfl, rfl⟩]
  have m22 : M0 351 22 = 0 := by rw [eM, up2_app, if_pos ⟨rfl, rfl⟩]
  have tM : TM M0 s n := ⟨by rw [mc 356 (by omega) (by omega)]; exact hs, m21, h60, hch⟩
  have lM : LT M0 := ⟨by rw [mc 361 (by omega) (by omega)]; exact lt.1, by rw [mc 362 (by omega) (by omega)]; exact lt.2⟩
  refine ex_parse tM lM l3P (fun Jf rc pe => ?_) 13 0 0 M0 rfl (Nat.zero_le _) (Nat.zero_le _) Rc.refl m22 m20 m19 (by rw [hP]) (by rw [hP, Nat.zero_add]) (fun i hi => by rw [hP, Nat.zero_add]) (fun i hi => absurd hi (Nat.not_lt_zero _))
  have se : SE J Jf := ⟨fun c hc => (rc.1 c (by omega) (by omega)).trans (mc c (by omega) (by omega)), fun j hj => (rc.2 j (by omega) (by omega) (by omega)).trans (mj j (by omega) (by omega) (by omega) (by omega) (by omega) (by omega)), (rc.2 8 (by omega) (by omega) (by omega)).trans m8, (rc.2 10 (by omega) (by omega) (by omega)).trans m10⟩
  have e352 : Jf 352 = J 352 := se.1 352 (by omega)
  have e353 : ∀ i, i < 269 → Jf 353 i = J 352 i := fun i hi => by rw [rc.1 353 (by omega) (by omega), m3]; exact hA i hi
  have e5 : Jf 351 5 ≤ 8 := by rw [se.2.1 5 (by omega)]; exact h5
  rcases pe with ⟨p1, w0, c1, stn⟩ | ⟨p1, w1, pA⟩
  · refine J_aload_n 93 rfl dX11_execute_92 rfl ?_
    refine g_X11_isWrong 96 rfl dX11_execute_93 lkX11_265 ?_
    refine J_cv (b := 0) w0 ?_
    refine J_if_eq 113 99 (by decide) rfl dX11_execute_96 (by omega) (fun _ => ?_) (fun c => absurd c (by omega))
    refine J_iconst 114 0 rfl dX11_execute_113 ic_0 ?_
    refine J_istore_n 115 rfl dX11_execute_114 rfl (Nat.le_of_ble_eq_true rfl) ?_
    have em : sR Jf 352 (J 352) = Jf := by rw [← e352, sR_id]
    have z := ex_run (g := g) (J1 := Jf) (P := P) (f := J 352) (B := B) hB okP.1 okP.2 stn se.2.2.1 c1 e353 e5 P.2.length 0 (J 352) Jf (Nat.add_zero _) hw ⟨fun _ _ _ _ => rfl, fun _ _ => rfl⟩ rfl
    rw [em] at z
    refine VJ_mono z (fun v J2 q => ?_) (fun _ _ q => q)
    obtain ⟨r, e, q⟩ := q
    exact ⟨r, e, Jf, se, Or.inr ⟨p1, q⟩⟩
  · refine J_aload_n 93 rfl dX11_execute_92 rfl ?_
    refine g_X11_isWrong 96 rfl dX11_execute_93 lkX11_265 ?_
    refine J_cv (b := 1) w1 ?_
    refine J_if_eq 113 99 (by decide) rfl dX11_execute_96 (by omega) (fun c => absurd c (by omega)) (fun _ => ?_)
    refine J_aload_n 100 rfl dX11_execute_99 rfl ?_
    refine J_aload_n 101 rfl dX11_execute_100 rfl ?_
    refine g_X11_place0 104 rfl dX11_execute_101 lkX11_259 ?_
    refine J_cv (b := P.1) pA ?_
    refine p_X11_errorAt 107 rfl dX11_execute_104 lkX11_22 ?_
    refine J_aload_n 108 rfl dX11_execute_107 rfl ?_
    refine J_iconst 109 1 rfl dX11_execute_108 ic_1 ?_
    refine J_callVi (As := [_]) 112 _ rfl kalX11_throwing lkX11_125 dX11_execute_109 (lt_X11) (so_X11) rfl rfl rfl (by exact Nat.le_of_ble_eq_true rfl) (by omega) (S_X11_throwing) ?_
    refine J_iret rfl dX11_execute_112 ?_
    exact ⟨_, rfl, Jf, se, Or.inl ⟨p1, rfl, rfl⟩⟩

