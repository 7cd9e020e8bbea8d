/-! THE MODEL: more questions (laid by wip/whole/src/p64.py) -/
theorem MNo_O {J : DJ} {f O : Nat → Nat} {c : Nat} : MNo (sR J 352 f) (sR (sR (up2 (up2 J 351 8 0) 351 12 c) 357 O) 352 f) 0 := by
  have e : sR (sR (up2 (up2 J 351 8 0) 351 12 c) 357 O) 352 f = sR (up2 (up2 (sR J 352 f) 351 8 0) 351 12 c) 357 O := by
    rw [up2_out (by omega), up2_out (by omega), sR_comm (by omega)]
  rw [e]
  exact (MNo.rf.th.om).sc (Or.inr ⟨by omega, by omega⟩)
theorem S_X11_leastOilAfter {g : Gn} {J : DJ} {f : Nat → Nat} {B : Nat} (hw : WF f B) (hB9 : B < 600000000) {u : Nat} (h_u : u < 4294967296) : SJ g mX11_leastOilAfter 4 0 0 [.ref (g.2 351), .int (nI (u))] (sR J 352 f) (MoQ (sR J 352 f) (qLo f u) (qLo f u / 2) (lst (gvN (ol f) (cnt f) u) (cnt f))) NoX := by
  have h0 := hw.1
  have h2 := hw.2.1
  have h3 := hw.2.2.1
  have hO := hw.2.2.2.2.2.1
  have h4 := hw.2.2.2.2.1.1
  have hB := hw.2.2.2.2.2.2.2.2.1
  refine SJ_of_VJ (by decide +kernel) (Nat.le_of_ble_eq_true rfl) ?_
  show VJ g mX11_leastOilAfter 4 0 0 _ _ 0 [(0, .ref (g.2 351)), (1, .int (nI (u)))] [] (sR J 352 f)
  refine J_aload_n 1 rfl dX11_leastOilAfter_0 rfl ?_
  refine J_iconst 2 0 rfl dX11_leastOilAfter_1 ic_0 ?_
  refine p_X11_thrown 5 rfl dX11_leastOilAfter_2 lkX11_57 ?_
  rw [up2_out (by omega)]
  refine J_iload_n 6 rfl dX11_leastOilAfter_5 rfl ?_
  refine J_i2l 7 _ rfl dX11_leastOilAfter_6 rfl ?_
  refine J_lconst 8 _ rfl dX11_leastOilAfter_7 rfl ?_
  refine J_ldc2 11 rfl dX11_leastOilAfter_8 lkX11_220 ?_
  refine J_callSi (As := [_, _, _]) 14 rfl kalX11_in lkX11_63 dX11_leastOilAfter_11 rfl rfl (by exact Nat.le_of_ble_eq_true rfl) (by omega) (S_in_le 0 999 (by decide) (by decide) h_u (by omega) (by omega)) ?_
  refine J_ifb_ne (hdp := _) 23 17 (by decide) rfl dX11_leastOilAfter_14 (fun c14 => ?_) (fun c14 => ?_)
  · refine J_aload_n 24 rfl dX11_leastOilAfter_23 rfl ?_
    refine g_X11_m 27 rfl dX11_leastOilAfter_24 lkX11_9 ?_
    refine J_iconst 28 0 rfl dX11_leastOilAfter_27 ic_0 ?_
    refine J_mald 29 rfl dX11_leastOilAfter_28 (by omega) ?_
    refine J_if_ne 40 32 (by decide) rfl dX11_leastOilAfter_29 (by omega) (fun c29 => ?_) (fun c29 => ?_)
    · refine J_aload_n 41 rfl dX11_leastOilAfter_40 rfl ?_
      refine J_iload_n 42 rfl dX11_leastOilAfter_41 rfl ?_
      refine J_callVip (As := [_]) 45 _ rfl kalX11_least lkX11_156 dX11_leastOilAfter_42 (lt_X11) (so_X11) rfl rfl rfl (by exact Nat.le_of_ble_eq_true rfl) (by omega) (S_X11_least hw hB9 (by omega) (by omega)) (fun J42 q42 => ?_)
      obtain ⟨O, rfl, hO2⟩ := q42
      refine J_iret rfl dX11_leastOilAfter_45 ?_
      first
        | (exact ⟨_, rfl, Or.inl ⟨by unfold qLo; (repeat' split) <;> omega, rfl, MNo_O⟩⟩)
        | (refine ⟨_, rfl, Or.inr ⟨by unfold qLo; (repeat' split) <;> omega, rfl, ?_⟩⟩
           rw [up2_out (by omega)]
           exact MNo_2 (by unfold qLo; (repeat' split) <;> omega))
    · refine J_aload_n 33 rfl dX11_leastOilAfter_32 rfl ?_
      refine J_iconst 34 2 rfl dX11_leastOilAfter_33 ic_2 ?_
      refine J_callVi (As := [_]) 37 _ rfl kalX11_throwing lkX11_125 dX11_leastOilAfter_34 (lt_X11) (so_X11) rfl rfl rfl (by exact Nat.le_of_ble_eq_true rfl) (by omega) (S_X11_throwing) ?_
      refine J_goto 45 (by decide) dX11_leastOilAfter_37 ?_
      refine J_iret rfl dX11_leastOilAfter_45 ?_
      first
        | (exact ⟨_, rfl, Or.inl ⟨by unfold qLo; (repeat' split) <;> omega, rfl, MNo_O⟩⟩)
        | (refine ⟨_, rfl, Or.inr ⟨by unfold qLo; (repeat' split) <;> omega, rfl, ?_⟩⟩
           rw [up2_out (by omega)]
           exact MNo_2 (by unfold qLo; (repeat' split) <;> omega))
  · refine J_aload_n 18 rfl dX11_leastOilAfter_17 rfl ?_
    refine J_iconst 19 1 rfl dX11_leastOilAfter_18 ic_1 ?_
    refine J_callVi (As := [_]) 22 _ rfl kalX11_throwing lkX11_125 dX11_leastOilAfter_19 (lt_X11) (so_X11) rfl rfl rfl (by exact Nat.le_of_ble_eq_true rfl) (by omega) (S_X11_throwing) ?_
    refine J_iret rfl dX11_leastOilAfter_22 ?_
    refine ⟨_, rfl, Or.inr ⟨by unfold qLo; (repeat' split) <;> omega, rfl, ?_⟩⟩
    rw [up2_out (by omega)]
    exact MNo_2 (by first | rfl | (unfold qLo; (repeat' split) <;> omega))

theorem S_X11_leastOilAfterByGiving {g : Gn} {J : DJ} {f : Nat → Nat} {B : Nat} (hw : WF f B) (hB9 : B < 600000000) {u : Nat} (h_u : u < 4294967296) : SJ g mX11_leastOilAfterByGiving 5 0 0 [.ref (g.2 351), .int (nI (u))] (sR J 352 f) (MoQ (sR J 352 f) (qLo f u) (qLo f u / 2) (lst (gvN (ol f) (cnt f) u) (cnt f))) NoX := by
  have h0 := hw.1
  have h2 := hw.2.1
  have h3 := hw.2.2.1
  have hO := hw.2.2.2.2.2.1
  have h4 := hw.2.2.2.2.1.1
  have hB := hw.2.2.2.2.2.2.2.2.1
  refine SJ_of_VJ (by decide +kernel) (Nat.le_of_ble_eq_true rfl) ?_
  show VJ g mX11_leastOilAfterByGiving 5 0 0 _ _ 0 [(0, .ref (g.2 351)), (1, .int (nI (u)))] [] (sR J 352 f)
  refine J_aload_n 1 rfl dX11_leastOilAfterByGiving_0 rfl ?_
  refine J_iload_n 2 rfl dX11_leastOilAfterByGiving_1 rfl ?_
  refine J_callVie (As := [_]) 5 _ rfl kalX11_leastOilAfter lkX11_222 dX11_leastOilAfterByGiving_2 (lt_X11) (so_X11) rfl rfl rfl (by exact Nat.le_of_ble_eq_true rfl) (by omega) (S_X11_leastOilAfter hw hB9 h_u) (fun r2 J2 q2 => ?_)
  refine J_iret rfl dX11_leastOilAfterByGiving_5 ?_
  exact ⟨_, rfl, q2⟩

theorem S_X11_ofCylinder {g : Gn} {J : DJ} {f : Nat → Nat} {B : Nat} (hw : WF f B) (hB9 : B < 600000000) {e : Nat} {p : Nat} {w : Nat} (h_e : e < 4294967296) (h_p : p < 4294967296) (h_w : w < 4294967296) (hw20 : w ≤ 20) : SJ g mX11_ofCylinder 3 0 0 [.ref (g.2 351), .int (nI (e)), .int (nI (p)), .int (nI (w))] (sR J 352 f) (MoQ (sR J 352 f) (qPt f e p) (1) (f (7 + 52 * e + w + p))) NoX := by
  have h0 := hw.1
  have h2 := hw.2.1
  have h3 := hw.2.2.1
  have hO := hw.2.2.2.2.2.1
  have h4 := hw.2.2.2.2.1.1
  have hB := hw.2.2.2.2.2.2.2.2.1
  refine SJ_of_VJ (by decide +kernel) (Nat.le_of_ble_eq_true rfl) ?_
  show VJ g mX11_ofCylinder 3 0 0 _ _ 0 [(0, .ref (g.2 351)), (1, .int (nI (e))), (2, .int (nI (p))), (3, .int (nI (w)))] [] (sR J 352 f)
  refine J_aload_n 1 rfl dX11_ofCylinder_0 rfl ?_
  refine J_iconst 2 0 rfl dX11_ofCylinder_1 ic_0 ?_
  refine p_X11_thrown 5 rfl dX11_ofCylinder_2 lkX11_57 ?_
  rw [up2_out (by omega)]
  refine J_aload_n 6 rfl dX11_ofCylinder_5 rfl ?_
  refine J_iload_n 7 rfl dX11_ofCylinder_6 rfl ?_
  refine J_iload_n 8 rfl dX11_ofCylinder_7 rfl ?_
  refine J_callVi (As := [_, _]) 11 _ rfl kalX11_isPart lkX11_137 dX11_ofCylinder_8 (lt_X11) (so_X11) rfl rfl rfl (by exact Nat.le_of_ble_eq_true rfl) (by omega) (S_X11_isPart (by assumption) (by assumption) h0 (fun e he => (hO e he).2.1)) ?_
  refine J_ifb_eq (hdp := _) 30 14 (by decide) rfl dX11_ofCylinder_11 (fun c11 => ?_) (fun c11 => ?_)
  · refine J_aload_n 31 rfl dX11_ofCylinder_30 rfl ?_
    refine J_iconst 32 1 rfl dX11_ofCylinder_31 ic_1 ?_
    refine J_callVi (As := [_]) 35 _ rfl kalX11_throwing lkX11_125 dX11_ofCylinder_32 (lt_X11) (so_X11) rfl rfl rfl (by exact Nat.le_of_ble_eq_true rfl) (by omega) (S_X11_throwing) ?_
    refine J_iret rfl dX11_ofCylinder_35 ?_
    first
      | (exact ⟨_, rfl, Or.inl ⟨by unfold qPt; (repeat' split) <;> omega, rfl, MNo_1⟩⟩)
      | (refine ⟨_, rfl, Or.inr ⟨by unfold qPt; (repeat' split) <;> omega, rfl, ?_⟩⟩
         rw [up2_out (by omega)]
         exact MNo_2 (by first | rfl | (unfold qPt; (repeat' split) <;> omega)))
  · have o8 := (hO e (by omega)).2.1
    refine J_aload_n 15 rfl dX11_ofCylinder_14 rfl ?_
    refine g_X11_m 18 rfl dX11_ofCylinder_15 lkX11_9 ?_
    refine J_iload_n 19 rfl dX11_ofCylinder_18 rfl ?_
    refine J_callSi (As := [_]) 22 rfl kalX11_engineAt lkX11_67 dX11_ofCylinder_19 rfl rfl (by exact Nat.le_of_ble_eq_true rfl) (by omega) (S_X11_engineAt) ?_
    refine J_iload_n 23 rfl dX11_ofCylinder_22 rfl ?_
    refine J_iadd 24 rfl dX11_ofCylinder_23 ?_
    refine J_iload_n 25 rfl dX11_ofCylinder_24 rfl ?_
    refine J_iadd 26 rfl dX11_ofCylinder_25 ?_
    refine J_mald 27 rfl dX11_ofCylinder_26 (by omega) ?_
    refine J_goto 35 (by decide) dX11_ofCylinder_27 ?_
    refine J_iret rfl dX11_ofCylinder_35 ?_
    first
      | (exact ⟨_, rfl, Or.inl ⟨by unfold qPt; (repeat' split) <;> omega, rfl, MNo_1⟩⟩)
      | (refine ⟨_, rfl, Or.inr ⟨by unfold qPt; (repeat' split) <;> omega, rfl, ?_⟩⟩
         rw [up2_out (by omega)]
         exact MNo_2 (by first | rfl | (unfold qPt; (repeat' split) <;> omega)))

theorem S_X11_oilOf {g : Gn} {J : DJ} {f : Nat → Nat} {B : Nat} (hw : WF f B) (hB9 : B < 600000000) {e : Nat} {p : Nat} (h_e : e < 4294967296) (h_p : p < 4294967296) : SJ g mX11_oilOf 4 0 0 [.ref (g.2 351), .int (nI (e)), .int (nI (p))] (sR J 352 f) (MoQ (sR J 352 f) (qPt f e p) (1) (f (7 + 52 * e + 12 + p))) NoX := by
  have h0 := hw.1
  have h2 := hw.2.1
  have h3 := hw.2.2.1
  have hO := hw.2.2.2.2.2.1
  have h4 := hw.2.2.2.2.1.1
  have hB := hw.2.2.2.2.2.2.2.2.1
  refine SJ_of_VJ (by decide +kernel) (Nat.le_of_ble_eq_true rfl) ?_
  show VJ g mX11_oilOf 4 0 0 _ _ 0 [(0, .ref (g.2 351)), (1, .int (nI (e))), (2, .int (nI (p)))] [] (sR J 352 f)
  refine J_aload_n 1 rfl dX11_oilOf_0 rfl ?_
  refine J_iload_n 2 rfl dX11_oilOf_1 rfl ?_
  refine J_iload_n 3 rfl dX11_oilOf_2 rfl ?_
  refine J_bipush 5 12 rfl dX11_oilOf_3 bc_12 ?_
  refine J_callVie (As := [_, _, _]) 8 _ rfl kalX11_ofCylinder lkX11_225 dX11_oilOf_5 (lt_X11) (so_X11) rfl rfl rfl (by exact Nat.le_of_ble_eq_true rfl) (by omega) (S_X11_ofCylinder hw hB9 h_e h_p (by omega) (by omega)) (fun r5 J5 q5 => ?_)
  refine J_iret rfl dX11_oilOf_8 ?_
  exact ⟨_, rfl, q5⟩

theorem S_X11_wearOf {g : Gn} {J : DJ} {f : Nat → Nat} {B : Nat} (hw : WF f B) (hB9 : B < 600000000) {e : Nat} {p : Nat} (h_e : e < 4294967296) (h_p : p < 4294967296) : SJ g mX11_wearOf 4 0 0 [.ref (g.2 351), .int (nI (e)), .int (nI (p))] (sR J 352 f) (MoQ (sR J 352 f) (qPt f e p) (1) (f (7 + 52 * e + 20 + p))) NoX := by
  have h0 := hw.1
  have h2 := hw.2.1
  have h3 := hw.2.2.1
  have hO := hw.2.2.2.2.2.1
  have h4 := hw.2.2.2.2.1.1
  have hB := hw.2.2.2.2.2.2.2.2.1
  refine SJ_of_VJ (by decide +kernel) (Nat.le_of_ble_eq_true rfl) ?_
  show VJ g mX11_wearOf 4 0 0 _ _ 0 [(0, .ref (g.2 351)), (1, .int (nI (e))), (2, .int (nI (p)))] [] (sR J 352 f)
  refine J_aload_n 1 rfl dX11_wearOf_0 rfl ?_
  refine J_iload_n 2 rfl dX11_wearOf_1 rfl ?_
  refine J_iload_n 3 rfl dX11_wearOf_2 rfl ?_
  refine J_bipush 5 20 rfl dX11_wearOf_3 bc_20 ?_
  refine J_callVie (As := [_, _, _]) 8 _ rfl kalX11_ofCylinder lkX11_225 dX11_wearOf_5 (lt_X11) (so_X11) rfl rfl rfl (by exact Nat.le_of_ble_eq_true rfl) (by omega) (S_X11_ofCylinder hw hB9 h_e h_p (by omega) (by omega)) (fun r5 J5 q5 => ?_)
  refine J_iret rfl dX11_wearOf_8 ?_
  exact ⟨_, rfl, q5⟩

theorem sum_ol {f : Nat → Nat} : ∀ e, e ≤ 4 → sumN (ol f) (cyN f e) = sumN (fun a => eOil f (7 + 52 * a)) e
  | 0, _ => rfl
  | e + 1, he => by
    have ih := sum_ol (f := f) e (by omega)
    have st : ∀ k, k ≤ f (7 + 52 * e) → sumN (ol f) (cyN f e + k) = sumN (ol f) (cyN f e) + sumN (fun c => f (7 + 52 * e + 12 + c)) k := fun k => by
      induction k with
      | zero => intro _; rfl
      | succ k ih2 =>
        intro hk
        show sumN (ol f) (cyN f e + k) + ol f (cyN f e + k) = _ + (sumN _ k + f (7 + 52 * e + 12 + k))
        rw [ih2 (by omega), ol_of (by omega) (by omega), show 7 + 52 * e + 12 + k = 19 + 52 * e + k by omega]
        omega
    rw [cyN_succ, st _ (Nat.le_refl _), ih]
    rfl
theorem S_X11_inEngines {g : Gn} {J : DJ} {f : Nat → Nat} {B : Nat} (hw : WF f B) (hB9 : B < 600000000) : SJ g mX11_inEngines 3 0 0 [.ref (g.2 351)] (sR J 352 f) (Rp (allOil f) (fun J2 => ∃ O, J2 = sR (sR (up2 J 351 12 (cnt f)) 357 O) 352 f)) NoX := by
  have h0 := hw.1
  have h2 := hw.2.1
  have h3 := hw.2.2.1
  have hO := hw.2.2.2.2.2.1
  have h4 := hw.2.2.2.2.1.1
  have hB := hw.2.2.2.2.2.2.2.2.1
  have c32 := cnt_le hw
  refine SJ_of_VJ (by decide +kernel) (Nat.le_of_ble_eq_true rfl) ?_
  show VJ g mX11_inEngines 3 0 0 _ _ 0 [(0, .ref (g.2 351))] [] (sR J 352 f)
  have rd : ∀ (O : Nat → Nat), (sR (sR (up2 J 351 12 (cnt f)) 357 O) 352 f) 351 12 = cnt f := fun O => by
    rw [sR_ne (by omega), sR_ne (by omega), up2_app, if_pos ⟨rfl, rfl⟩]
  have rO : ∀ (O : Nat → Nat), (sR (sR (up2 J 351 12 (cnt f)) 357 O) 352 f) 357 = O := fun O => by
    rw [sR_ne (by omega), sR_at]
  have loop : ∀ (O : Nat → Nat), (∀ j, j < cnt f → O j = ol f j) → ∀ (n9 : Nat) (k : Nat), cnt f - k = n9 → k ≤ cnt f → VJ g mX11_inEngines 3 0 0 (Rp (allOil f) (fun J2 => ∃ O, J2 = sR (sR (up2 J 351 12 (cnt f)) 357 O) 352 f)) NoX 8 [(0, .ref (g.2 351)), (1, .int (nI (sumN (ol f) k))), (2, .int (nI k))] [] (sR (sR (up2 J 351 12 (cnt f)) 357 O) 352 f) := by
    intro O hO2 n9
    induction n9 using Nat.strongRecOn with
    | ind n9 ih =>
      intro k hi hk
      refine J_iload_n 9 rfl dX11_inEngines_8 rfl ?_
      refine J_aload_n 10 rfl dX11_inEngines_9 rfl ?_
      refine g_X11_oilMany 13 rfl dX11_inEngines_10 lkX11_92 ?_
      refine J_cv (b := cnt f) (rd O) ?_
      refine J_icmp_ge 31 16 (by decide) rfl dX11_inEngines_13 (by omega) (by omega) (fun c13 => ?_) (fun c13 => ?_)
      · refine J_iload_n 32 rfl dX11_inEngines_31 rfl ?_
        refine J_iret rfl dX11_inEngines_32 ?_
        have e9 : k = cnt f := by omega
        subst e9
        exact ⟨by rw [show sumN (ol f) (cnt f) = allOil f from sum_ol (f 0) h0], O, rfl⟩
      · refine J_iload_n 17 rfl dX11_inEngines_16 rfl ?_
        refine J_aload_n 18 rfl dX11_inEngines_17 rfl ?_
        refine g_X11_oils 21 rfl dX11_inEngines_18 lkX11_32 ?_
        refine J_iload_n 22 rfl dX11_inEngines_21 rfl ?_
        refine J_iald 23 rfl dX11_inEngines_22 (sa_X11_oils) (by omega) ?_
        refine J_cv (b := ol f k) (by rw [rO]; exact hO2 k (by omega)) ?_
        refine J_iadd 24 rfl dX11_inEngines_23 ?_
        refine J_istore_n 25 rfl dX11_inEngines_24 rfl (Nat.le_of_ble_eq_true rfl) ?_
        refine J_iinc 28 1 rfl dX11_inEngines_25 ic_1 rfl (Nat.le_of_ble_eq_true rfl) ?_
        refine J_goto 8 (by decide) dX11_inEngines_28 ?_
        exact ih _ (by omega) (k + 1) rfl (by omega)
  refine J_aload_n 1 rfl dX11_inEngines_0 rfl ?_
  refine J_callVvp (As := []) 4 _ rfl kalX11_takesOils lkX11_95 dX11_inEngines_1 (lt_X11) (so_X11) rfl rfl rfl (by exact Nat.le_of_ble_eq_true rfl) (by omega) (S_X11_takesOils hw) (fun J1 q1 => ?_)
  obtain ⟨O, rfl, hO2⟩ := q1
  refine J_iconst 5 0 rfl dX11_inEngines_4 ic_0 ?_
  refine J_istore_n 6 rfl dX11_inEngines_5 rfl (Nat.le_of_ble_eq_true rfl) ?_
  refine J_iconst 7 0 rfl dX11_inEngines_6 ic_0 ?_
  refine J_istore_n 8 rfl dX11_inEngines_7 rfl (Nat.le_of_ble_eq_true rfl) ?_
  exact loop O hO2 _ 0 rfl (Nat.zero_le _)

theorem S_X11_allOil {g : Gn} {J : DJ} {f : Nat → Nat} {B : Nat} (hw : WF f B) (hB9 : B < 600000000) : SJ g mX11_allOil 4 0 0 [.ref (g.2 351)] (sR J 352 f) (MoQ (sR J 352 f) (0) (0) (f 2 + allOil f)) NoX := by
  have h0 := hw.1
  have h2 := hw.2.1
  have h3 := hw.2.2.1
  have hO := hw.2.2.2.2.2.1
  have h4 := hw.2.2.2.2.1.1
  have hB := hw.2.2.2.2.2.2.2.2.1
  refine SJ_of_VJ (by decide +kernel) (Nat.le_of_ble_eq_true rfl) ?_
  show VJ g mX11_allOil 4 0 0 _ _ 0 [(0, .ref (g.2 351))] [] (sR J 352 f)
  refine J_aload_n 1 rfl dX11_allOil_0 rfl ?_
  refine J_iconst 2 0 rfl dX11_allOil_1 ic_0 ?_
  refine p_X11_thrown 5 rfl dX11_allOil_2 lkX11_57 ?_
  rw [up2_out (by omega)]
  refine J_aload_n 6 rfl dX11_allOil_5 rfl ?_
  refine g_X11_m 9 rfl dX11_allOil_6 lkX11_9 ?_
  refine J_iconst 10 2 rfl dX11_allOil_9 ic_2 ?_
  refine J_mald 11 rfl dX11_allOil_10 (by omega) ?_
  refine J_aload_n 12 rfl dX11_allOil_11 rfl ?_
  refine J_callVip (As := []) 15 _ rfl kalX11_inEngines lkX11_228 dX11_allOil_12 (lt_X11) (so_X11) rfl rfl rfl (by exact Nat.le_of_ble_eq_true rfl) (by omega) (S_X11_inEngines hw hB9) (fun J12 q12 => ?_)
  obtain ⟨O, rfl⟩ := q12
  refine J_iadd 16 rfl dX11_allOil_15 ?_
  refine J_iret rfl dX11_allOil_16 ?_
  exact ⟨_, rfl, Or.inl ⟨rfl, rfl, MNo_O⟩⟩

theorem S_X11_allOilByAccounts {g : Gn} {J : DJ} {f : Nat → Nat} {B : Nat} (hw : WF f B) (hB9 : B < 600000000) : SJ g mX11_allOilByAccounts 5 0 0 [.ref (g.2 351)] (sR J 352 f) (MoQ (sR J 352 f) (0) (0) (f 2 + allOil f)) NoX := by
  have h0 := hw.1
  have h2 := hw.2.1
  have h3 := hw.2.2.1
  have hO := hw.2.2.2.2.2.1
  have h4 := hw.2.2.2.2.1.1
  have hB := hw.2.2.2.2.2.2.2.2.1
  refine SJ_of_VJ (by decide +kernel) (Nat.le_of_ble_eq_true rfl) ?_
  show VJ g mX11_allOilByAccounts 5 0 0 _ _ 0 [(0, .ref (g.2 351))] [] (sR J 352 f)
  refine J_aload_n 1 rfl dX11_allOilByAccounts_0 rfl ?_
  refine J_callVie (As := []) 4 _ rfl kalX11_allOil lkX11_231 dX11_allOilByAccounts_1 (lt_X11) (so_X11) rfl rfl rfl (by exact Nat.le_of_ble_eq_true rfl) (by omega) (S_X11_allOil hw hB9) (fun r1 J1 q1 => ?_)
  refine J_iret rfl dX11_allOilByAccounts_4 ?_
  exact ⟨_, rfl, q1⟩

theorem S_X11_knockCount {g : Gn} {J : DJ} {f : Nat → Nat} {B : Nat} (hw : WF f B) (hB9 : B < 600000000) {e : Nat} (h_e : e < 4294967296) : SJ g mX11_knockCount 3 0 0 [.ref (g.2 351), .int (nI (e))] (sR J 352 f) (MoQ (sR J 352 f) (qE f e) (1) (f (7 + 52 * e + 3))) NoX := by
  have h0 := hw.1
  have h2 := hw.2.1
  have h3 := hw.2.2.1
  have hO := hw.2.2.2.2.2.1
  have h4 := hw.2.2.2.2.1.1
  have hB := hw.2.2.2.2.2.2.2.2.1
  refine SJ_of_VJ (by decide +kernel) (Nat.le_of_ble_eq_true rfl) ?_
  show VJ g mX11_knockCount 3 0 0 _ _ 0 [(0, .ref (g.2 351)), (1, .int (nI (e)))] [] (sR J 352 f)
  refine J_aload_n 1 rfl dX11_knockCount_0 rfl ?_
  refine J_iconst 2 0 rfl dX11_knockCount_1 ic_0 ?_
  refine p_X11_thrown 5 rfl dX11_knockCount_2 lkX11_57 ?_
  rw [up2_out (by omega)]
  refine J_aload_n 6 rfl dX11_knockCount_5 rfl ?_
  refine J_iload_n 7 rfl dX11_knockCount_6 rfl ?_
  refine J_callVi (As := [_]) 10 _ rfl kalX11_isEngine lkX11_71 dX11_knockCount_7 (lt_X11) (so_X11) rfl rfl rfl (by exact Nat.le_of_ble_eq_true rfl) (by omega) (S_X11_isEngine (by assumption) h0) ?_
  refine J_ifb_eq (hdp := _) 27 13 (by decide) rfl dX11_knockCount_10 (fun c10 => ?_) (fun c10 => ?_)
  · refine J_aload_n 28 rfl dX11_knockCount_27 rfl ?_
    refine J_iconst 29 1 rfl dX11_knockCount_28 ic_1 ?_
    refine J_callVi (As := [_]) 32 _ rfl kalX11_throwing lkX11_125 dX11_knockCount_29 (lt_X11) (so_X11) rfl rfl rfl (by exact Nat.le_of_ble_eq_true rfl) (by omega) (S_X11_throwing) ?_
    refine J_iret rfl dX11_knockCount_32 ?_
    first
      | (exact ⟨_, rfl, Or.inl ⟨by unfold qE; (repeat' split) <;> omega, rfl, MNo_1⟩⟩)
      | (refine ⟨_, rfl, Or.inr ⟨by unfold qE; (repeat' split) <;> omega, rfl, ?_⟩⟩
         rw [up2_out (by omega)]
         exact MNo_2 (by first | rfl | (unfold qE; (repeat' split) <;> omega)))
  · refine J_aload_n 14 rfl dX11_knockCount_13 rfl ?_
    refine g_X11_m 17 rfl dX11_knockCount_14 lkX11_9 ?_
    refine J_iload_n 18 rfl dX11_knockCount_17 rfl ?_
    refine J_callSi (As := [_]) 21 rfl kalX11_engineAt lkX11_67 dX11_knockCount_18 rfl rfl (by exact Nat.le_of_ble_eq_true rfl) (by omega) (S_X11_engineAt) ?_
    refine J_iconst 22 3 rfl dX11_knockCount_21 ic_3 ?_
    refine J_iadd 23 rfl dX11_knockCount_22 ?_
    refine J_mald 24 rfl dX11_knockCount_23 (by omega) ?_
    refine J_goto 32 (by decide) dX11_knockCount_24 ?_
    refine J_iret rfl dX11_knockCount_32 ?_
    first
      | (exact ⟨_, rfl, Or.inl ⟨by unfold qE; (repeat' split) <;> omega, rfl, MNo_1⟩⟩)
      | (refine ⟨_, rfl, Or.inr ⟨by unfold qE; (repeat' split) <;> omega, rfl, ?_⟩⟩
         rw [up2_out (by omega)]
         exact MNo_2 (by first | rfl | (unfold qE; (repeat' split) <;> omega)))

theorem S_X11_knockAt {g : Gn} {J : DJ} {f : Nat → Nat} {B : Nat} (hw : WF f B) (hB9 : B < 600000000) {e : Nat} {p : Nat} (h_e : e < 4294967296) (h_p : p < 4294967296) : SJ g mX11_knockAt 3 0 0 [.ref (g.2 351), .int (nI (e)), .int (nI (p))] (sR J 352 f) (MoQ (sR J 352 f) (qKa f e p) (if qKa f e p = 1 then 1 else 2) (f (7 + 52 * e + 28 + p))) NoX := by
  have h0 := hw.1
  have h2 := hw.2.1
  have h3 := hw.2.2.1
  have hO := hw.2.2.2.2.2.1
  have h4 := hw.2.2.2.2.1.1
  have hB := hw.2.2.2.2.2.2.2.2.1
  have k10 : f (10 + 52 * e) = f (7 + 52 * e + 3) := by rw [show 10 + 52 * e = 7 + 52 * e + 3 by omega]
  refine SJ_of_VJ (by decide +kernel) (Nat.le_of_ble_eq_true rfl) ?_
  show VJ g mX11_knockAt 3 0 0 _ _ 0 [(0, .ref (g.2 351)), (1, .int (nI (e))), (2, .int (nI (p)))] [] (sR J 352 f)
  refine J_aload_n 1 rfl dX11_knockAt_0 rfl ?_
  refine J_iconst 2 0 rfl dX11_knockAt_1 ic_0 ?_
  refine p_X11_thrown 5 rfl dX11_knockAt_2 lkX11_57 ?_
  rw [up2_out (by omega)]
  refine J_aload_n 6 rfl dX11_knockAt_5 rfl ?_
  refine J_iload_n 7 rfl dX11_knockAt_6 rfl ?_
  refine J_callVi (As := [_]) 10 _ rfl kalX11_isEngine lkX11_71 dX11_knockAt_7 (lt_X11) (so_X11) rfl rfl rfl (by exact Nat.le_of_ble_eq_true rfl) (by omega) (S_X11_isEngine (by assumption) h0) ?_
  refine J_ifb_ne (hdp := _) 19 13 (by decide) rfl dX11_knockAt_10 (fun c10 => ?_) (fun c10 => ?_)
  · have o5 := (hO e (by omega)).2.2.2.2.1
    refine J_iload_n 20 rfl dX11_knockAt_19 rfl ?_
    refine J_i2l 21 _ rfl dX11_knockAt_20 rfl ?_
    refine J_lconst 22 _ rfl dX11_knockAt_21 rfl ?_
    refine J_aload_n 23 rfl dX11_knockAt_22 rfl ?_
    refine g_X11_m 26 rfl dX11_knockAt_23 lkX11_9 ?_
    refine J_iload_n 27 rfl dX11_knockAt_26 rfl ?_
    refine J_callSi (As := [_]) 30 rfl kalX11_engineAt lkX11_67 dX11_knockAt_27 rfl rfl (by exact Nat.le_of_ble_eq_true rfl) (by omega) (S_X11_engineAt) ?_
    refine J_iconst 31 3 rfl dX11_knockAt_30 ic_3 ?_
    refine J_iadd 32 rfl dX11_knockAt_31 ?_
    refine J_mald 33 rfl dX11_knockAt_32 (by omega) ?_
    refine J_iconst 34 1 rfl dX11_knockAt_33 ic_1 ?_
    refine J_isubR 35 rfl dX11_knockAt_34 ?_
    refine J_i2l 36 _ rfl dX11_knockAt_35 rfl ?_
    refine J_callSi (As := [_, _, _]) 39 rfl kalX11_in lkX11_63 dX11_knockAt_36 rfl rfl (by exact Nat.le_of_ble_eq_true rfl) (by omega) (S_in_lt (by decide) h_p (by omega)) ?_
    refine J_istore_n 40 rfl dX11_knockAt_39 rfl (Nat.le_of_ble_eq_true rfl) ?_
    refine J_iload_n 41 rfl dX11_knockAt_40 rfl ?_
    refine J_ifb_eq (hdp := _) 61 44 (by decide) rfl dX11_knockAt_41 (fun c41 => ?_) (fun c41 => ?_)
    · refine J_aload_n 62 rfl dX11_knockAt_61 rfl ?_
      refine J_iconst 63 2 rfl dX11_knockAt_62 ic_2 ?_
      refine J_callVi (As := [_]) 66 _ rfl kalX11_throwing lkX11_125 dX11_knockAt_63 (lt_X11) (so_X11) rfl rfl rfl (by exact Nat.le_of_ble_eq_true rfl) (by omega) (S_X11_throwing) ?_
      refine J_iret rfl dX11_knockAt_66 ?_
      first
        | (exact ⟨_, rfl, Or.inl ⟨by unfold qKa; rw [if_pos (by omega), if_pos (by omega)], rfl, MNo_1⟩⟩)
        | (refine ⟨_, rfl, Or.inr ⟨by unfold qKa; rw [if_pos (by omega), if_neg (by omega)]; omega, rfl, ?_⟩⟩
           rw [up2_out (by omega)]
           exact MNo_2 (by unfold qKa; rw [if_pos (show e < f 0 by omega), if_neg (show ¬ p < f (10 + 52 * e) by omega)]; rfl))
    · refine J_aload_n 45 rfl dX11_knockAt_44 rfl ?_
      refine g_X11_m 48 rfl dX11_knockAt_45 lkX11_9 ?_
      refine J_iload_n 49 rfl dX11_knockAt_48 rfl ?_
      refine J_callSi (As := [_]) 52 rfl kalX11_engineAt lkX11_67 dX11_knockAt_49 rfl rfl (by exact Nat.le_of_ble_eq_true rfl) (by omega) (S_X11_engineAt) ?_
      refine J_bipush 54 28 rfl dX11_knockAt_52 bc_28 ?_
      refine J_iadd 55 rfl dX11_knockAt_54 ?_
      refine J_iload_n 56 rfl dX11_knockAt_55 rfl ?_
      refine J_iadd 57 rfl dX11_knockAt_56 ?_
      refine J_mald 58 rfl dX11_knockAt_57 (by omega) ?_
      refine J_goto 66 (by decide) dX11_knockAt_58 ?_
      refine J_iret rfl dX11_knockAt_66 ?_
      first
        | (exact ⟨_, rfl, Or.inl ⟨by unfold qKa; rw [if_pos (by omega), if_pos (by omega)], rfl, MNo_1⟩⟩)
        | (refine ⟨_, rfl, Or.inr ⟨by unfold qKa; rw [if_pos (by omega), if_neg (by omega)]; omega, rfl, ?_⟩⟩
           rw [up2_out (by omega)]
           exact MNo_2 (by unfold qKa; rw [if_pos (show e < f 0 by omega), if_neg (show ¬ p < f (10 + 52 * e) by omega)]; rfl))
  · refine J_aload_n 14 rfl dX11_knockAt_13 rfl ?_
    refine J_iconst 15 1 rfl dX11_knockAt_14 ic_1 ?_
    refine J_callVi (As := [_]) 18 _ rfl kalX11_throwing lkX11_125 dX11_knockAt_15 (lt_X11) (so_X11) rfl rfl rfl (by exact Nat.le_of_ble_eq_true rfl) (by omega) (S_X11_throwing) ?_
    refine J_iret rfl dX11_knockAt_18 ?_
    refine ⟨_, rfl, Or.inr ⟨by unfold qKa; rw [if_neg (by omega)]; omega, rfl, ?_⟩⟩
    rw [up2_out (by omega)]
    exact MNo_2 (by unfold qKa; rw [if_neg (show ¬ e < f 0 by omega)]; rfl)

theorem S_X11_knockPeriod {g : Gn} {J : DJ} {f : Nat → Nat} {B e r : Nat} (hw : WF f B) (hB9 : B < 600000000) (h_e : e < 4294967296) (hr : qKp f e = 0 → perP (fkno f e) (f (7 + 52 * e + 3)) r) : SJ g mX11_knockPeriod 3 0 0 [.ref (g.2 351), .int (nI (e))] (sR J 352 f) (MoQ (sR J 352 f) (qKp f e) (if qKp f e = 1 then 1 else 2) r) NoX := by
  have h0 := hw.1
  have h2 := hw.2.1
  have h3 := hw.2.2.1
  have hO := hw.2.2.2.2.2.1
  have h4 := hw.2.2.2.2.1.1
  have hB := hw.2.2.2.2.2.2.2.2.1
  have k10 : f (10 + 52 * e) = f (7 + 52 * e + 3) := by rw [show 10 + 52 * e = 7 + 52 * e + 3 by omega]
  refine SJ_of_VJ (by decide +kernel) (Nat.le_of_ble_eq_true rfl) ?_
  show VJ g mX11_knockPeriod 3 0 0 _ _ 0 [(0, .ref (g.2 351)), (1, .int (nI (e)))] [] (sR J 352 f)
  have main : e < f 0 → 0 < (f (7 + 52 * e + 3)) → ∀ (n9 : Nat) (t b : Nat), r - t = n9 → t ≤ r → b < 2 → (b = 1 → t = r) → (b = 0 → t < r) → VJ g mX11_knockPeriod 3 0 0 (MoQ (sR J 352 f) (qKp f e) (if qKp f e = 1 then 1 else 2) r) NoX 46 [(0, .ref (g.2 351)), (1, .int (nI e)), (2, .int (nI (7 + 52 * e))), (3, .int (nI t)), (4, .int (nI b))] [] (sR (up2 J 351 8 0) 352 f) := by
    intro hef hk0 n9
    have oe := hO e hef
    have o24 := oe.2.2.2.2.1
    have o8 := oe.2.1
    have z0 : qKp f e = 0 := by unfold qKp; rw [if_pos hef, if_pos (by omega)]
    have pr := hr z0
    have p1 := pr.1
    have p2 := pr.2.1
    have fk : ∀ i, f (7 + 52 * e + 28 + i) = fkno f e i := fun i => by unfold fkno; rw [show 7 + 52 * e + 28 + i = 35 + 52 * e + i by omega]
    have fb : ∀ i, i < (f (7 + 52 * e + 3)) → fkno f e i < 8 := fun i hi => by rw [← fk]; have := oe.2.2.2.2.2.2.2 i hi; omega
    induction n9 using Nat.strongRecOn with
    | ind n9 ih =>
      intro t b hi ht hb hb1 hb0
      have inner : t < r → ∀ (m9 : Nat) (k b : Nat), (f (7 + 52 * e + 3)) - k = m9 → t + 1 ≤ k → k ≤ (f (7 + 52 * e + 3)) → b < 2 → (b = 1 ↔ ∀ i, t + 1 ≤ i → i < k → fkno f e i = fkno f e (i - (t + 1))) → VJ g mX11_knockPeriod 3 0 0 (MoQ (sR J 352 f) (qKp f e) (if qKp f e = 1 then 1 else 2) r) NoX 60 [(0, .ref (g.2 351)), (1, .int (nI e)), (2, .int (nI (7 + 52 * e))), (3, .int (nI (t + 1))), (4, .int (nI b)), (5, .int (nI k))] [] (sR (up2 J 351 8 0) 352 f) := by
        intro htt m9
        induction m9 using Nat.strongRecOn with
        | ind m9 ih2 =>
          intro k b hi2 hk1 hk hb2 hbk
          refine J_iload 62 rfl dX11_knockPeriod_60 rfl ?_
          refine J_aload_n 63 rfl dX11_knockPeriod_62 rfl ?_
          refine g_X11_m 66 rfl dX11_knockPeriod_63 lkX11_9 ?_
          refine J_iload_n 67 rfl dX11_knockPeriod_66 rfl ?_
          refine J_iconst 68 3 rfl dX11_knockPeriod_67 ic_3 ?_
          refine J_iadd 69 rfl dX11_knockPeriod_68 ?_
          refine J_mald 70 rfl dX11_knockPeriod_69 (by omega) ?_
          refine J_icmp_ge 120 73 (by decide) rfl dX11_knockPeriod_70 (by omega) (by omega) (fun c70 => ?_) (fun c70 => ?_)
          · refine J_goto 46 (by decide) dX11_knockPeriod_120 ?_
            refine J_keep [0, 1, 2, 3, 4] ?_
            have e9 : k = (f (7 + 52 * e + 3)) := by omega
            subst e9
            refine ih _ (by omega) (t + 1) b rfl (by omega) hb2 (fun z => ?_) (fun z => ?_)
            · refine Classical.byContradiction (fun y => ?_)
              exact pr.2.2.2 (t + 1) (by omega) (by omega) (hbk.mp z)
            · by_cases y : t + 1 = r
              · have : b = 1 := hbk.mpr (by rw [y]; exact pr.2.2.1)
                omega
              · omega
          · refine J_iload 75 rfl dX11_knockPeriod_73 rfl ?_
            refine J_if_eq 111 78 (by decide) rfl dX11_knockPeriod_75 (by omega) (fun c75 => ?_) (fun c75 => ?_)
            · refine J_iconst 112 0 rfl dX11_knockPeriod_111 ic_0 ?_
              refine J_istore 114 rfl dX11_knockPeriod_112 (Nat.le_of_ble_eq_true rfl) ?_
              refine J_iinc 117 1 rfl dX11_knockPeriod_114 ic_1 rfl (Nat.le_of_ble_eq_true rfl) ?_
              refine J_goto 60 (by decide) dX11_knockPeriod_117 ?_
              first
                | (refine ih2 _ (by omega) (k + 1) 1 rfl (by omega) (by omega) (by omega) ⟨fun _ i h1 h2 => ?_, fun _ => rfl⟩
                   by_cases z : i = k
                   · rw [z]; assumption
                   · exact (hbk.mp (by omega)) i h1 (by omega))
                | (refine ih2 _ (by omega) (k + 1) 0 rfl (by omega) (by omega) (by omega) ⟨fun z => absurd z (by omega), fun z => ?_⟩
                   exfalso
                   first
                     | exact absurd (z k (by omega) (by omega)) (by assumption)
                     | (have : b = 1 := hbk.mpr (fun i h1 h2 => z i h1 (by omega))
                        omega))
            · refine J_aload_n 79 rfl dX11_knockPeriod_78 rfl ?_
              refine g_X11_m 82 rfl dX11_knockPeriod_79 lkX11_9 ?_
              refine J_iload_n 83 rfl dX11_knockPeriod_82 rfl ?_
              refine J_bipush 85 28 rfl dX11_knockPeriod_83 bc_28 ?_
              refine J_iadd 86 rfl dX11_knockPeriod_85 ?_
              refine J_iload 88 rfl dX11_knockPeriod_86 rfl ?_
              refine J_iadd 89 rfl dX11_knockPeriod_88 ?_
              refine J_mald 90 rfl dX11_knockPeriod_89 (by omega) ?_
              refine J_cv (b := fkno f e k) (fk k) ?_
              refine J_aload_n 91 rfl dX11_knockPeriod_90 rfl ?_
              refine g_X11_m 94 rfl dX11_knockPeriod_91 lkX11_9 ?_
              refine J_iload_n 95 rfl dX11_knockPeriod_94 rfl ?_
              refine J_bipush 97 28 rfl dX11_knockPeriod_95 bc_28 ?_
              refine J_iadd 98 rfl dX11_knockPeriod_97 ?_
              refine J_iload 100 rfl dX11_knockPeriod_98 rfl ?_
              refine J_iadd 101 rfl dX11_knockPeriod_100 ?_
              refine J_iload_n 102 rfl dX11_knockPeriod_101 rfl ?_
              refine J_isub 103 rfl dX11_knockPeriod_102 (by omega) ?_
              refine J_mald 104 rfl dX11_knockPeriod_103 (by omega) ?_
              refine J_cv (b := fkno f e (k - (t + 1))) (by rw [show 7 + 52 * e + 28 + k - (t + 1) = 7 + 52 * e + 28 + (k - (t + 1)) by omega]; exact fk _) ?_
              refine J_icmp_ne 111 107 (by decide) rfl dX11_knockPeriod_104 (by have := fb k (by omega); omega) (by have := fb (k - (t + 1)) (by omega); omega) (fun c104 => ?_) (fun c104 => ?_)
              · refine J_iconst 112 0 rfl dX11_knockPeriod_111 ic_0 ?_
                refine J_istore 114 rfl dX11_knockPeriod_112 (Nat.le_of_ble_eq_true rfl) ?_
                refine J_iinc 117 1 rfl dX11_knockPeriod_114 ic_1 rfl (Nat.le_of_ble_eq_true rfl) ?_
                refine J_goto 60 (by decide) dX11_knockPeriod_117 ?_
                first
                  | (refine ih2 _ (by omega) (k + 1) 1 rfl (by omega) (by omega) (by omega) ⟨fun _ i h1 h2 => ?_, fun _ => rfl⟩
                     by_cases z : i = k
                     · rw [z]; assumption
                     · exact (hbk.mp (by omega)) i h1 (by omega))
                  | (refine ih2 _ (by omega) (k + 1) 0 rfl (by omega) (by omega) (by omega) ⟨fun z => absurd z (by omega), fun z => ?_⟩
                     exfalso
                     first
                       | exact absurd (z k (by omega) (by omega)) (by assumption)
                       | (have : b = 1 := hbk.mpr (fun i h1 h2 => z i h1 (by omega))
                          omega))
              · refine J_iconst 108 1 rfl dX11_knockPeriod_107 ic_1 ?_
                refine J_goto 112 (by decide) dX11_knockPeriod_108 ?_
                refine J_istore 114 rfl dX11_knockPeriod_112 (Nat.le_of_ble_eq_true rfl) ?_
                refine J_iinc 117 1 rfl dX11_knockPeriod_114 ic_1 rfl (Nat.le_of_ble_eq_true rfl) ?_
                refine J_goto 60 (by decide) dX11_knockPeriod_117 ?_
                first
                  | (refine ih2 _ (by omega) (k + 1) 1 rfl (by omega) (by omega) (by omega) ⟨fun _ i h1 h2 => ?_, fun _ => rfl⟩
                     by_cases z : i = k
                     · rw [z]; assumption
                     · exact (hbk.mp (by omega)) i h1 (by omega))
                  | (refine ih2 _ (by omega) (k + 1) 0 rfl (by omega) (by omega) (by omega) ⟨fun z => absurd z (by omega), fun z => ?_⟩
                     exfalso
                     first
                       | exact absurd (z k (by omega) (by omega)) (by assumption)
                       | (have : b = 1 := hbk.mpr (fun i h1 h2 => z i h1 (by omega))
                          omega))
      refine J_iload 48 rfl dX11_knockPeriod_46 rfl ?_
      refine J_if_ne 123 51 (by decide) rfl dX11_knockPeriod_48 (by omega) (fun c48 => ?_) (fun c48 => ?_)
      · refine J_iload_n 124 rfl dX11_knockPeriod_123 rfl ?_
        refine J_iret rfl dX11_knockPeriod_124 ?_
        exact ⟨_, rfl, Or.inl ⟨z0, hb1 (by omega), MNo_1⟩⟩
      · refine J_iinc 54 1 rfl dX11_knockPeriod_51 ic_1 rfl (Nat.le_of_ble_eq_true rfl) ?_
        refine J_iconst 55 1 rfl dX11_knockPeriod_54 ic_1 ?_
        refine J_istore 57 rfl dX11_knockPeriod_55 (Nat.le_of_ble_eq_true rfl) ?_
        refine J_iload_n 58 rfl dX11_knockPeriod_57 rfl ?_
        refine J_istore 60 rfl dX11_knockPeriod_58 (Nat.le_of_ble_eq_true rfl) ?_
        exact inner (hb0 (by omega)) _ (t + 1) 1 rfl (by omega) (by have := hb0 (by omega); omega) (by omega) ⟨fun _ i h1 h2 => absurd h1 (by omega), fun _ => rfl⟩
  refine J_aload_n 1 rfl dX11_knockPeriod_0 rfl ?_
  refine J_iconst 2 0 rfl dX11_knockPeriod_1 ic_0 ?_
  refine p_X11_thrown 5 rfl dX11_knockPeriod_2 lkX11_57 ?_
  rw [up2_out (by omega)]
  refine J_aload_n 6 rfl dX11_knockPeriod_5 rfl ?_
  refine J_iload_n 7 rfl dX11_knockPeriod_6 rfl ?_
  refine J_callVi (As := [_]) 10 _ rfl kalX11_isEngine lkX11_71 dX11_knockPeriod_7 (lt_X11) (so_X11) rfl rfl rfl (by exact Nat.le_of_ble_eq_true rfl) (by omega) (S_X11_isEngine (by assumption) h0) ?_
  refine J_ifb_ne (hdp := _) 19 13 (by decide) rfl dX11_knockPeriod_10 (fun c10 => ?_) (fun c10 => ?_)
  · have o5 := (hO e (by omega)).2.2.2.2.1
    refine J_iload_n 20 rfl dX11_knockPeriod_19 rfl ?_
    refine J_callSi (As := [_]) 23 rfl kalX11_engineAt lkX11_67 dX11_knockPeriod_20 rfl rfl (by exact Nat.le_of_ble_eq_true rfl) (by omega) (S_X11_engineAt) ?_
    refine J_istore_n 24 rfl dX11_knockPeriod_23 rfl (Nat.le_of_ble_eq_true rfl) ?_
    refine J_aload_n 25 rfl dX11_knockPeriod_24 rfl ?_
    refine g_X11_m 28 rfl dX11_knockPeriod_25 lkX11_9 ?_
    refine J_iload_n 29 rfl dX11_knockPeriod_28 rfl ?_
    refine J_iconst 30 3 rfl dX11_knockPeriod_29 ic_3 ?_
    refine J_iadd 31 rfl dX11_knockPeriod_30 ?_
    refine J_mald 32 rfl dX11_knockPeriod_31 (by omega) ?_
    refine J_if_ne 41 35 (by decide) rfl dX11_knockPeriod_32 (by omega) (fun c32 => ?_) (fun c32 => ?_)
    · refine J_iconst 42 0 rfl dX11_knockPeriod_41 ic_0 ?_
      refine J_istore_n 43 rfl dX11_knockPeriod_42 rfl (Nat.le_of_ble_eq_true rfl) ?_
      refine J_iconst 44 0 rfl dX11_knockPeriod_43 ic_0 ?_
      refine J_istore 46 rfl dX11_knockPeriod_44 (Nat.le_of_ble_eq_true rfl) ?_
      refine main (by omega) (by omega) _ 0 0 rfl (Nat.zero_le _) (by omega) (fun z => absurd z (by omega)) (fun _ => ?_)
      have z0 : qKp f e = 0 := by unfold qKp; rw [if_pos (by omega), if_pos (by omega)]
      have := (hr z0).1
      omega
    · refine J_aload_n 36 rfl dX11_knockPeriod_35 rfl ?_
      refine J_iconst 37 2 rfl dX11_knockPeriod_36 ic_2 ?_
      refine J_callVi (As := [_]) 40 _ rfl kalX11_throwing lkX11_125 dX11_knockPeriod_37 (lt_X11) (so_X11) rfl rfl rfl (by exact Nat.le_of_ble_eq_true rfl) (by omega) (S_X11_throwing) ?_
      refine J_iret rfl dX11_knockPeriod_40 ?_
      refine ⟨_, rfl, Or.inr ⟨by unfold qKp; rw [if_pos (by omega), if_neg (by omega)]; omega, rfl, ?_⟩⟩
      rw [up2_out (by omega)]
      exact MNo_2 (by unfold qKp; rw [if_pos (show e < f 0 by omega), if_neg (show ¬ 0 < f (10 + 52 * e) by omega)]; rfl)
  · refine J_aload_n 14 rfl dX11_knockPeriod_13 rfl ?_
    refine J_iconst 15 1 rfl dX11_knockPeriod_14 ic_1 ?_
    refine J_callVi (As := [_]) 18 _ rfl kalX11_throwing lkX11_125 dX11_knockPeriod_15 (lt_X11) (so_X11) rfl rfl rfl (by exact Nat.le_of_ble_eq_true rfl) (by omega) (S_X11_throwing) ?_
    refine J_iret rfl dX11_knockPeriod_18 ?_
    refine ⟨_, rfl, Or.inr ⟨by unfold qKp; rw [if_neg (by omega)]; omega, rfl, ?_⟩⟩
    rw [up2_out (by omega)]
    exact MNo_2 (by unfold qKp; rw [if_neg (show ¬ e < f 0 by omega)]; rfl)

theorem S_X11_knockPeriodByTrying {g : Gn} {J : DJ} {f : Nat → Nat} {B : Nat} (hw : WF f B) (hB9 : B < 600000000) {e : Nat} (h_e : e < 4294967296) {r : Nat} (hr : qKp f e = 0 → perP (fkno f e) (f (7 + 52 * e + 3)) r) : SJ g mX11_knockPeriodByTrying 4 0 0 [.ref (g.2 351), .int (nI (e))] (sR J 352 f) (MoQ (sR J 352 f) (qKp f e) (if qKp f e = 1 then 1 else 2) (r)) NoX := by
  have h0 := hw.1
  have h2 := hw.2.1
  have h3 := hw.2.2.1
  have hO := hw.2.2.2.2.2.1
  have h4 := hw.2.2.2.2.1.1
  have hB := hw.2.2.2.2.2.2.2.2.1
  refine SJ_of_VJ (by decide +kernel) (Nat.le_of_ble_eq_true rfl) ?_
  show VJ g mX11_knockPeriodByTrying 4 0 0 _ _ 0 [(0, .ref (g.2 351)), (1, .int (nI (e)))] [] (sR J 352 f)
  refine J_aload_n 1 rfl dX11_knockPeriodByTrying_0 rfl ?_
  refine J_iload_n 2 rfl dX11_knockPeriodByTrying_1 rfl ?_
  refine J_callVie (As := [_]) 5 _ rfl kalX11_knockPeriod lkX11_234 dX11_knockPeriodByTrying_2 (lt_X11) (so_X11) rfl rfl rfl (by exact Nat.le_of_ble_eq_true rfl) (by omega) (S_X11_knockPeriod hw hB9 h_e hr) (fun r2 J2 q2 => ?_)
  refine J_iret rfl dX11_knockPeriodByTrying_5 ?_
  exact ⟨_, rfl, q2⟩

theorem S_X11_worn {g : Gn} {J : DJ} {f : Nat → Nat} {B e : Nat} (hw : WF f B) (he : e < f 0) : SJ g mX11_worn 2 0 0 [.ref (g.2 351), .int (nI (e))] (sR J 352 f) (Ri (worn f e) (sR J 352 f)) NoX := by
  have h0 := hw.1
  have h2 := hw.2.1
  have h3 := hw.2.2.1
  have hO := hw.2.2.2.2.2.1
  have h4 := hw.2.2.2.2.1.1
  have hB := hw.2.2.2.2.2.2.2.2.1
  have o8 := (hO e he).2.1
  refine SJ_of_VJ (by decide +kernel) (Nat.le_of_ble_eq_true rfl) ?_
  show VJ g mX11_worn 2 0 0 _ _ 0 [(0, .ref (g.2 351)), (1, .int (nI (e)))] [] (sR J 352 f)
  have loop : ∀ (n9 : Nat) (k : Nat), (f (7 + 52 * e)) - k = n9 → k ≤ (f (7 + 52 * e)) → VJ g mX11_worn 2 0 0 (Ri (worn f e) (sR J 352 f)) NoX 4 [(0, .ref (g.2 351)), (1, .int (nI e)), (2, .int (nI (sumN (fun c => f (27 + 52 * e + c)) k))), (3, .int (nI k))] [] (sR J 352 f) := by
    intro n9
    induction n9 using Nat.strongRecOn with
    | ind n9 ih =>
      intro k hi hk
      refine J_iload_n 5 rfl dX11_worn_4 rfl ?_
      refine J_aload_n 6 rfl dX11_worn_5 rfl ?_
      refine J_iload_n 7 rfl dX11_worn_6 rfl ?_
      refine J_callVi (As := [_]) 10 _ rfl kalX11_many lkX11_75 dX11_worn_7 (lt_X11) (so_X11) rfl rfl rfl (by exact Nat.le_of_ble_eq_true rfl) (by omega) (S_X11_many (by omega)) ?_
      refine J_icmp_ge 36 13 (by decide) rfl dX11_worn_10 (by omega) (by omega) (fun c10 => ?_) (fun c10 => ?_)
      · refine J_iload_n 37 rfl dX11_worn_36 rfl ?_
        refine J_iret rfl dX11_worn_37 ?_
        have e9 : k = (f (7 + 52 * e)) := by omega
        subst e9
        exact ⟨rfl, rfl⟩
      · refine J_iload_n 14 rfl dX11_worn_13 rfl ?_
        refine J_aload_n 15 rfl dX11_worn_14 rfl ?_
        refine g_X11_m 18 rfl dX11_worn_15 lkX11_9 ?_
        refine J_iload_n 19 rfl dX11_worn_18 rfl ?_
        refine J_callSi (As := [_]) 22 rfl kalX11_engineAt lkX11_67 dX11_worn_19 rfl rfl (by exact Nat.le_of_ble_eq_true rfl) (by omega) (S_X11_engineAt) ?_
        refine J_bipush 24 20 rfl dX11_worn_22 bc_20 ?_
        refine J_iadd 25 rfl dX11_worn_24 ?_
        refine J_iload_n 26 rfl dX11_worn_25 rfl ?_
        refine J_iadd 27 rfl dX11_worn_26 ?_
        refine J_mald 28 rfl dX11_worn_27 (by omega) ?_
        refine J_cv (b := f (27 + 52 * e + k)) (by rw [show 7 + 52 * e + 20 + k = 27 + 52 * e + k by omega]) ?_
        refine J_iadd 29 rfl dX11_worn_28 ?_
        refine J_istore_n 30 rfl dX11_worn_29 rfl (Nat.le_of_ble_eq_true rfl) ?_
        refine J_iinc 33 1 rfl dX11_worn_30 ic_1 rfl (Nat.le_of_ble_eq_true rfl) ?_
        refine J_goto 4 (by decide) dX11_worn_33 ?_
        exact ih _ (by omega) (k + 1) rfl (by omega)
  refine J_iconst 1 0 rfl dX11_worn_0 ic_0 ?_
  refine J_istore_n 2 rfl dX11_worn_1 rfl (Nat.le_of_ble_eq_true rfl) ?_
  refine J_iconst 3 0 rfl dX11_worn_2 ic_0 ?_
  refine J_istore_n 4 rfl dX11_worn_3 rfl (Nat.le_of_ble_eq_true rfl) ?_
  exact loop _ 0 rfl (Nat.zero_le _)

theorem bef_lt {f : Nat → Nat} {k : Nat} (hk : k < f 0) : bef f k < f 0 := by
  have h := sumN_lt (g := fun a => if worn f k < worn f a ∨ (worn f a = worn f k ∧ a < k) then 1 else 0) (g' := fun _ => 1) (d := k) (f 0) hk (fun i _ => by show (if _ then 1 else 0) ≤ 1; split <;> omega) (by show (if _ then 1 else 0) < 1; rw [if_neg (by omega)]; omega)
  rw [sumN_const] at h
  unfold bef
  omega
theorem bef_mono {f : Nat → Nat} {a b : Nat} (ha : a < f 0) (h : worn f b < worn f a ∨ (worn f a = worn f b ∧ a < b)) : bef f a < bef f b := by
  refine sumN_lt (d := a) (f 0) ha (fun i _ => ?_) ?_
  · show (if _ then 1 else 0) ≤ (if _ then 1 else 0)
    by_cases q : worn f a < worn f i ∨ (worn f i = worn f a ∧ i < a)
    · rw [if_pos q, if_pos (by omega)]; exact Nat.le_refl _
    · rw [if_neg q]; exact Nat.zero_le _
  · show (if _ then 1 else 0) < (if _ then 1 else 0)
    rw [if_neg (by omega), if_pos h]; omega
theorem bef_ex {f : Nat → Nat} {r : Nat} (hr : r < f 0) : ∃ a, a < f 0 ∧ bef f a = r := by
  refine Classical.byContradiction (fun q => ?_)
  have c := cnt_inj (n := f 0) (f 0) (fun c => decide (c ≠ r)) (fun a => bef f a) (fun i hi => ⟨bef_lt hi, decide_eq_true (fun z => q ⟨i, hi, z⟩)⟩) (fun i j hi hj z => by
    by_cases a : i = j
    · exact a
    · exfalso
      have z2 : bef f i = bef f j := z
      by_cases o : worn f j < worn f i ∨ (worn f i = worn f j ∧ i < j)
      · have := bef_mono hi o
        omega
      · have := bef_mono (f := f) hj (show worn f i < worn f j ∨ (worn f j = worn f i ∧ j < i) by omega)
        omega)
  have l := sumN_lt (g := fun c => if decide (c ≠ r) = true then 1 else 0) (g' := fun _ => 1) (d := r) (f 0) hr (fun i _ => by show (if _ then 1 else 0) ≤ 1; split <;> omega) (by show (if _ then 1 else 0) < 1; rw [if_neg (by simp)]; omega)
  rw [sumN_const] at l
  omega
theorem sub_gt0 {a b : Nat} (ha : a < 1073741824) (hb : b < 1073741824) : (0 < nI a - nI b) ↔ b < a := by
  have e := pk_sub_toInt ha hb
  rw [Int32.lt_iff_toInt_lt, e]
  show 0 < (a : Int) - b ↔ _
  omega
theorem S_X11_engineAtRank {g : Gn} {J : DJ} {f : Nat → Nat} {B r res : Nat} (hw : WF f B) (hB9 : B < 50000000) (h_r : r < 4294967296) (hres : qRk f r = 0 → res < f 0 ∧ bef f res = r ∧ ∀ a, a < res → bef f a ≠ r) : SJ g mX11_engineAtRank 4 0 0 [.ref (g.2 351), .int (nI (r))] (sR J 352 f) (MoQ (sR J 352 f) (qRk f r) 1 res) NoX := by
  have h0 := hw.1
  have h2 := hw.2.1
  have h3 := hw.2.2.1
  have hO := hw.2.2.2.2.2.1
  have h4 := hw.2.2.2.2.1.1
  have hB := hw.2.2.2.2.2.2.2.2.1
  refine SJ_of_VJ (by decide +kernel) (Nat.le_of_ble_eq_true rfl) ?_
  show VJ g mX11_engineAtRank 4 0 0 _ _ 0 [(0, .ref (g.2 351)), (1, .int (nI (r)))] [] (sR J 352 f)
  have outer : ∀ (n9 : Nat) (k : Nat), f 0 - k = n9 → k ≤ f 0 → (∀ a, a < k → bef f a ≠ r) → VJ g mX11_engineAtRank 4 0 0 (MoQ (sR J 352 f) (qRk f r) 1 res) NoX 7 [(0, .ref (g.2 351)), (1, .int (nI r)), (2, .int (nI k))] [] (sR (up2 J 351 8 0) 352 f) := by
    intro n9
    induction n9 using Nat.strongRecOn with
    | ind n9 ih =>
      intro k hi hk hne
      have inner : k < f 0 → ∀ (m9 : Nat) (a : Nat), f 0 - a = m9 → a ≤ f 0 → VJ g mX11_engineAtRank 4 0 0 (MoQ (sR J 352 f) (qRk f r) 1 res) NoX 22 [(0, .ref (g.2 351)), (1, .int (nI r)), (2, .int (nI k)), (3, .int (nI (befN f k a))), (4, .int (nI a))] [] (sR (up2 J 351 8 0) 352 f) := by
        intro hkf m9
        induction m9 using Nat.strongRecOn with
        | ind m9 ih2 =>
          intro a hi2 ha
          have wk := worn_le hw hkf
          have wa := fun h : a < f 0 => worn_le hw h
          have bl := befN_le f k a
          have bn : befN f k (a + 1) = befN f k a + (if worn f k < worn f a ∨ (worn f a = worn f k ∧ a < k) then 1 else 0) := rfl
          refine J_iload 24 rfl dX11_engineAtRank_22 rfl ?_
          refine J_aload_n 25 rfl dX11_engineAtRank_24 rfl ?_
          refine g_X11_m 28 rfl dX11_engineAtRank_25 lkX11_9 ?_
          refine J_iconst 29 0 rfl dX11_engineAtRank_28 ic_0 ?_
          refine J_mald 30 rfl dX11_engineAtRank_29 (by omega) ?_
          refine J_icmp_ge 77 33 (by decide) rfl dX11_engineAtRank_30 (by omega) (by omega) (fun c30 => ?_) (fun c30 => ?_)
          · refine J_iload_n 78 rfl dX11_engineAtRank_77 rfl ?_
            refine J_iload_n 79 rfl dX11_engineAtRank_78 rfl ?_
            refine J_icmp_ne 84 82 (by decide) rfl dX11_engineAtRank_79 (by omega) h_r (fun c79 => ?_) (fun c79 => ?_)
            · refine J_iinc 87 1 rfl dX11_engineAtRank_84 ic_1 rfl (Nat.le_of_ble_eq_true rfl) ?_
              refine J_goto 7 (by decide) dX11_engineAtRank_87 ?_
              refine J_keep [0, 1, 2] ?_
              have e9 : a = f 0 := by omega
              subst e9
              refine ih _ (by omega) (k + 1) rfl (by omega) (fun c hc => ?_)
              by_cases y : c = k
              · rw [y]; assumption
              · exact hne c (by omega)
            · refine J_iload_n 83 rfl dX11_engineAtRank_82 rfl ?_
              refine J_iret rfl dX11_engineAtRank_83 ?_
              have e9 : a = f 0 := by omega
              subst e9
              have bk : bef f k = r := by assumption
              have kr : r < f 0 := by rw [← bk]; exact bef_lt hkf
              have z0 : qRk f r = 0 := by unfold qRk; rw [if_pos kr]
              have hh := hres z0
              refine ⟨_, rfl, Or.inl ⟨z0, ?_, MNo_1⟩⟩
              by_cases y : k < res
              · exact absurd bk (hh.2.2 k y)
              · by_cases y2 : res < k
                · exact absurd hh.2.1 (hne res y2)
                · omega
          · refine J_aload_n 34 rfl dX11_engineAtRank_33 rfl ?_
            refine J_iload 36 rfl dX11_engineAtRank_34 rfl ?_
            refine J_callVi (As := [_]) 39 _ rfl kalX11_worn lkX11_237 dX11_engineAtRank_36 (lt_X11) (so_X11) rfl rfl rfl (by exact Nat.le_of_ble_eq_true rfl) (by omega) (S_X11_worn hw (by omega)) ?_
            refine J_aload_n 40 rfl dX11_engineAtRank_39 rfl ?_
            refine J_iload_n 41 rfl dX11_engineAtRank_40 rfl ?_
            refine J_callVi (As := [_]) 44 _ rfl kalX11_worn lkX11_237 dX11_engineAtRank_41 (lt_X11) (so_X11) rfl rfl rfl (by exact Nat.le_of_ble_eq_true rfl) (by omega) (S_X11_worn hw hkf) ?_
            refine J_isubR 45 rfl dX11_engineAtRank_44 ?_
            refine J_istore 47 rfl dX11_engineAtRank_45 (Nat.le_of_ble_eq_true rfl) ?_
            refine J_iload_n 48 rfl dX11_engineAtRank_47 rfl ?_
            refine J_iload 50 rfl dX11_engineAtRank_48 rfl ?_
            refine J_ifR_gt 64 53 (by decide) rfl dX11_engineAtRank_50 (fun c50 => ?_) (fun c50 => ?_)
            · have c50 := (sub_gt0 (by have := wa (by omega); omega) (by omega)).mp c50
              refine J_iconst 65 1 rfl dX11_engineAtRank_64 ic_1 ?_
              refine J_goto 69 (by decide) dX11_engineAtRank_65 ?_
              refine J_iadd 70 rfl dX11_engineAtRank_69 ?_
              refine J_istore_n 71 rfl dX11_engineAtRank_70 rfl (Nat.le_of_ble_eq_true rfl) ?_
              refine J_iinc 74 1 rfl dX11_engineAtRank_71 ic_1 rfl (Nat.le_of_ble_eq_true rfl) ?_
              refine J_goto 22 (by decide) dX11_engineAtRank_74 ?_
              refine J_keep [0, 1, 2, 3, 4] ?_
              have z := ih2 _ (by omega) (a + 1) rfl (by omega)
              rw [bn] at z
              first
                | (rw [if_pos (by omega)] at z; exact z)
                | (rw [if_neg (by omega)] at z; exact z)
            · have c50 : ¬ worn f k < worn f a := fun z => c50 ((sub_gt0 (by have := wa (by omega); omega) (by omega)).mpr z)
              refine J_iload 55 rfl dX11_engineAtRank_53 rfl ?_
              refine J_ifR_ne 68 58 (by decide) rfl dX11_engineAtRank_55 (fun c55 => ?_) (fun c55 => ?_)
              · have c55 : ¬ worn f a = worn f k := fun z => c55 ((sub_eq0 (by have := wa (by omega); omega) (by omega)).mpr z)
                refine J_iconst 69 0 rfl dX11_engineAtRank_68 ic_0 ?_
                refine J_iadd 70 rfl dX11_engineAtRank_69 ?_
                refine J_istore_n 71 rfl dX11_engineAtRank_70 rfl (Nat.le_of_ble_eq_true rfl) ?_
                refine J_iinc 74 1 rfl dX11_engineAtRank_71 ic_1 rfl (Nat.le_of_ble_eq_true rfl) ?_
                refine J_goto 22 (by decide) dX11_engineAtRank_74 ?_
                refine J_keep [0, 1, 2, 3, 4] ?_
                have z := ih2 _ (by omega) (a + 1) rfl (by omega)
                rw [bn] at z
                first
                  | (rw [if_pos (by omega)] at z; exact z)
                  | (rw [if_neg (by omega)] at z; exact z)
              · have c55 := (sub_eq0 (by have := wa (by omega); omega) (by omega)).mp c55
                refine J_iload 60 rfl dX11_engineAtRank_58 rfl ?_
                refine J_iload_n 61 rfl dX11_engineAtRank_60 rfl ?_
                refine J_icmp_ge 68 64 (by decide) rfl dX11_engineAtRank_61 (by omega) (by omega) (fun c61 => ?_) (fun c61 => ?_)
                · refine J_iconst 69 0 rfl dX11_engineAtRank_68 ic_0 ?_
                  refine J_iadd 70 rfl dX11_engineAtRank_69 ?_
                  refine J_istore_n 71 rfl dX11_engineAtRank_70 rfl (Nat.le_of_ble_eq_true rfl) ?_
                  refine J_iinc 74 1 rfl dX11_engineAtRank_71 ic_1 rfl (Nat.le_of_ble_eq_true rfl) ?_
                  refine J_goto 22 (by decide) dX11_engineAtRank_74 ?_
                  refine J_keep [0, 1, 2, 3, 4] ?_
                  have z := ih2 _ (by omega) (a + 1) rfl (by omega)
                  rw [bn] at z
                  first
                    | (rw [if_pos (by omega)] at z; exact z)
                    | (rw [if_neg (by omega)] at z; exact z)
                · refine J_iconst 65 1 rfl dX11_engineAtRank_64 ic_1 ?_
                  refine J_goto 69 (by decide) dX11_engineAtRank_65 ?_
                  refine J_iadd 70 rfl dX11_engineAtRank_69 ?_
                  refine J_istore_n 71 rfl dX11_engineAtRank_70 rfl (Nat.le_of_ble_eq_true rfl) ?_
                  refine J_iinc 74 1 rfl dX11_engineAtRank_71 ic_1 rfl (Nat.le_of_ble_eq_true rfl) ?_
                  refine J_goto 22 (by decide) dX11_engineAtRank_74 ?_
                  refine J_keep [0, 1, 2, 3, 4] ?_
                  have z := ih2 _ (by omega) (a + 1) rfl (by omega)
                  rw [bn] at z
                  first
                    | (rw [if_pos (by omega)] at z; exact z)
                    | (rw [if_neg (by omega)] at z; exact z)
      refine J_iload_n 8 rfl dX11_engineAtRank_7 rfl ?_
      refine J_aload_n 9 rfl dX11_engineAtRank_8 rfl ?_
      refine g_X11_m 12 rfl dX11_engineAtRank_9 lkX11_9 ?_
      refine J_iconst 13 0 rfl dX11_engineAtRank_12 ic_0 ?_
      refine J_mald 14 rfl dX11_engineAtRank_13 (by omega) ?_
      refine J_icmp_ge 90 17 (by decide) rfl dX11_engineAtRank_14 (by omega) (by omega) (fun c14 => ?_) (fun c14 => ?_)
      · refine J_aload_n 91 rfl dX11_engineAtRank_90 rfl ?_
        refine J_iconst 92 1 rfl dX11_engineAtRank_91 ic_1 ?_
        refine J_callVi (As := [_]) 95 _ rfl kalX11_throwing lkX11_125 dX11_engineAtRank_92 (lt_X11) (so_X11) rfl rfl rfl (by exact Nat.le_of_ble_eq_true rfl) (by omega) (S_X11_throwing) ?_
        refine J_iret rfl dX11_engineAtRank_95 ?_
        have e9 : k = f 0 := by omega
        subst e9
        refine ⟨_, rfl, Or.inr ⟨?_, rfl, ?_⟩⟩
        · unfold qRk
          by_cases y : r < f 0
          · obtain ⟨a, ha, hb⟩ := bef_ex y
            exact absurd hb (hne a ha)
          · rw [if_neg y]; omega
        · rw [up2_out (by omega)]
          exact MNo_2 rfl
      · refine J_iconst 18 0 rfl dX11_engineAtRank_17 ic_0 ?_
        refine J_istore_n 19 rfl dX11_engineAtRank_18 rfl (Nat.le_of_ble_eq_true rfl) ?_
        refine J_iconst 20 0 rfl dX11_engineAtRank_19 ic_0 ?_
        refine J_istore 22 rfl dX11_engineAtRank_20 (Nat.le_of_ble_eq_true rfl) ?_
        exact inner (by omega) _ 0 rfl (Nat.zero_le _)
  refine J_aload_n 1 rfl dX11_engineAtRank_0 rfl ?_
  refine J_iconst 2 0 rfl dX11_engineAtRank_1 ic_0 ?_
  refine p_X11_thrown 5 rfl dX11_engineAtRank_2 lkX11_57 ?_
  rw [up2_out (by omega)]
  refine J_iconst 6 0 rfl dX11_engineAtRank_5 ic_0 ?_
  refine J_istore_n 7 rfl dX11_engineAtRank_6 rfl (Nat.le_of_ble_eq_true rfl) ?_
  exact outer _ 0 rfl (Nat.zero_le _) (fun a h => absurd h (Nat.not_lt_zero _))

theorem S_X11_repairCount {g : Gn} {J : DJ} {f : Nat → Nat} {B : Nat} (hw : WF f B) (hB9 : B < 600000000) : SJ g mX11_repairCount 3 0 0 [.ref (g.2 351)] (sR J 352 f) (MoQ (sR J 352 f) (0) (0) (f 4)) NoX := by
  have h0 := hw.1
  have h2 := hw.2.1
  have h3 := hw.2.2.1
  have hO := hw.2.2.2.2.2.1
  have h4 := hw.2.2.2.2.1.1
  have hB := hw.2.2.2.2.2.2.2.2.1
  refine SJ_of_VJ (by decide +kernel) (Nat.le_of_ble_eq_true rfl) ?_
  show VJ g mX11_repairCount 3 0 0 _ _ 0 [(0, .ref (g.2 351))] [] (sR J 352 f)
  refine J_aload_n 1 rfl dX11_repairCount_0 rfl ?_
  refine J_iconst 2 0 rfl dX11_repairCount_1 ic_0 ?_
  refine p_X11_thrown 5 rfl dX11_repairCount_2 lkX11_57 ?_
  rw [up2_out (by omega)]
  refine J_aload_n 6 rfl dX11_repairCount_5 rfl ?_
  refine g_X11_m 9 rfl dX11_repairCount_6 lkX11_9 ?_
  refine J_iconst 10 4 rfl dX11_repairCount_9 ic_4 ?_
  refine J_mald 11 rfl dX11_repairCount_10 (by omega) ?_
  refine J_iret rfl dX11_repairCount_11 ?_
  exact ⟨_, rfl, Or.inl ⟨rfl, rfl, MNo_1⟩⟩

theorem S_X11_penanceDone {g : Gn} {J : DJ} {f : Nat → Nat} {B : Nat} (hw : WF f B) (hB9 : B < 600000000) : SJ g mX11_penanceDone 3 0 0 [.ref (g.2 351)] (sR J 352 f) (MoQ (sR J 352 f) (0) (0) (f 5)) NoX := by
  have h0 := hw.1
  have h2 := hw.2.1
  have h3 := hw.2.2.1
  have hO := hw.2.2.2.2.2.1
  have h4 := hw.2.2.2.2.1.1
  have hB := hw.2.2.2.2.2.2.2.2.1
  refine SJ_of_VJ (by decide +kernel) (Nat.le_of_ble_eq_true rfl) ?_
  show VJ g mX11_penanceDone 3 0 0 _ _ 0 [(0, .ref (g.2 351))] [] (sR J 352 f)
  refine J_aload_n 1 rfl dX11_penanceDone_0 rfl ?_
  refine J_iconst 2 0 rfl dX11_penanceDone_1 ic_0 ?_
  refine p_X11_thrown 5 rfl dX11_penanceDone_2 lkX11_57 ?_
  rw [up2_out (by omega)]
  refine J_aload_n 6 rfl dX11_penanceDone_5 rfl ?_
  refine g_X11_m 9 rfl dX11_penanceDone_6 lkX11_9 ?_
  refine J_iconst 10 5 rfl dX11_penanceDone_9 ic_5 ?_
  refine J_mald 11 rfl dX11_penanceDone_10 (by omega) ?_
  refine J_iret rfl dX11_penanceDone_11 ?_
  exact ⟨_, rfl, Or.inl ⟨rfl, rfl, MNo_1⟩⟩

theorem S_X11_hour {g : Gn} {J : DJ} {f : Nat → Nat} {B : Nat} (hw : WF f B) (hB9 : B < 600000000) : SJ g mX11_hour 3 0 0 [.ref (g.2 351)] (sR J 352 f) (MoQ (sR J 352 f) (0) (0) (f 1)) NoX := by
  have h0 := hw.1
  have h2 := hw.2.1
  have h3 := hw.2.2.1
  have hO := hw.2.2.2.2.2.1
  have h4 := hw.2.2.2.2.1.1
  have hB := hw.2.2.2.2.2.2.2.2.1
  refine SJ_of_VJ (by decide +kernel) (Nat.le_of_ble_eq_true rfl) ?_
  show VJ g mX11_hour 3 0 0 _ _ 0 [(0, .ref (g.2 351))] [] (sR J 352 f)
  refine J_aload_n 1 rfl dX11_hour_0 rfl ?_
  refine J_iconst 2 0 rfl dX11_hour_1 ic_0 ?_
  refine p_X11_thrown 5 rfl dX11_hour_2 lkX11_57 ?_
  rw [up2_out (by omega)]
  refine J_aload_n 6 rfl dX11_hour_5 rfl ?_
  refine g_X11_m 9 rfl dX11_hour_6 lkX11_9 ?_
  refine J_iconst 10 1 rfl dX11_hour_9 ic_1 ?_
  refine J_mald 11 rfl dX11_hour_10 (by omega) ?_
  refine J_iret rfl dX11_hour_11 ?_
  exact ⟨_, rfl, Or.inl ⟨rfl, rfl, MNo_1⟩⟩

theorem S_X11_before {g : Gn} {J : DJ} {f : Nat → Nat} {B p : Nat} (hw : WF f B) (hp : p < f 4) : SJ g mX11_before 2 0 0 [.ref (g.2 351), .int (nI (p))] (sR J 352 f) (Ri (bfr (rh f) (rp f) (f 4) p) (sR J 352 f)) NoX := by
  have h0 := hw.1
  have h2 := hw.2.1
  have h3 := hw.2.2.1
  have hO := hw.2.2.2.2.2.1
  have h4 := hw.2.2.2.2.1.1
  have hB := hw.2.2.2.2.2.2.2.2.1
  have hr := hw.2.2.2.2.1.2
  have mu : ∀ a b, a < f 4 → b < f 4 → f (222 + 3 * a) * f (223 + 3 * b) < 1000 := fun a b x y => by
    have := Nat.mul_le_mul (hr a x).2.2.1 (hr b y).2.2.2.2
    omega
  refine SJ_of_VJ (by decide +kernel) (Nat.le_of_ble_eq_true rfl) ?_
  show VJ g mX11_before 2 0 0 _ _ 0 [(0, .ref (g.2 351)), (1, .int (nI (p)))] [] (sR J 352 f)
  have loop : ∀ (n9 : Nat) (k : Nat), f 4 - k = n9 → k ≤ f 4 → VJ g mX11_before 2 0 0 (Ri (bfr (rh f) (rp f) (f 4) p) (sR J 352 f)) NoX 4 [(0, .ref (g.2 351)), (1, .int (nI p)), (2, .int (nI (sumN (fun j => if sb (rh f) (rp f) j p = true then rh f j else 0) k))), (3, .int (nI k))] [] (sR J 352 f) := by
    intro n9
    induction n9 using Nat.strongRecOn with
    | ind n9 ih =>
      intro k hi hk
      have sn : sumN (fun j => if sb (rh f) (rp f) j p = true then rh f j else 0) (k + 1) = sumN (fun j => if sb (rh f) (rp f) j p = true then rh f j else 0) k + (if sb (rh f) (rp f) k p = true then rh f k else 0) := rfl
      refine J_iload_n 5 rfl dX11_before_4 rfl ?_
      refine J_aload_n 6 rfl dX11_before_5 rfl ?_
      refine g_X11_m 9 rfl dX11_before_6 lkX11_9 ?_
      refine J_iconst 10 4 rfl dX11_before_9 ic_4 ?_
      refine J_mald 11 rfl dX11_before_10 (by omega) ?_
      refine J_icmp_ge 42 14 (by decide) rfl dX11_before_11 (by omega) (by omega) (fun c11 => ?_) (fun c11 => ?_)
      · refine J_iload_n 43 rfl dX11_before_42 rfl ?_
        refine J_iret rfl dX11_before_43 ?_
        have e9 : k = f 4 := by omega
        subst e9
        exact ⟨rfl, rfl⟩
      · refine J_iload_n 15 rfl dX11_before_14 rfl ?_
        refine J_aload_n 16 rfl dX11_before_15 rfl ?_
        refine J_iload_n 17 rfl dX11_before_16 rfl ?_
        refine J_iload_n 18 rfl dX11_before_17 rfl ?_
        refine J_callVi (As := [_, _]) 21 _ rfl kalX11_isSooner lkX11_118 dX11_before_18 (lt_X11) (so_X11) rfl rfl rfl (by exact Nat.le_of_ble_eq_true rfl) (by omega) (S_X11_isSooner (by omega) (by omega) (mu _ _ (by omega) hp) (mu _ _ hp (by omega))) ?_
        refine J_ifb_eq (hdp := _) 33 24 (by decide) rfl dX11_before_21 (fun c21 => ?_) (fun c21 => ?_)
        · refine J_iconst 34 0 rfl dX11_before_33 ic_0 ?_
          refine J_iadd 35 rfl dX11_before_34 ?_
          refine J_istore_n 36 rfl dX11_before_35 rfl (Nat.le_of_ble_eq_true rfl) ?_
          refine J_iinc 39 1 rfl dX11_before_36 ic_1 rfl (Nat.le_of_ble_eq_true rfl) ?_
          refine J_goto 4 (by decide) dX11_before_39 ?_
          have z := ih _ (by omega) (k + 1) rfl (by omega)
          rw [sn] at z
          first
            | (rw [if_pos (show sb (rh f) (rp f) k p = true from decide_eq_true (by assumption))] at z; exact z)
            | (rw [if_neg (show ¬ sb (rh f) (rp f) k p = true from fun q => absurd (of_decide_eq_true q) (by assumption))] at z; exact z)
        · refine J_aload_n 25 rfl dX11_before_24 rfl ?_
          refine J_iload_n 26 rfl dX11_before_25 rfl ?_
          refine J_iconst 27 1 rfl dX11_before_26 ic_1 ?_
          refine J_callVi (As := [_, _]) 30 _ rfl kalX11_repairAt lkX11_115 dX11_before_27 (lt_X11) (so_X11) rfl rfl rfl (by exact Nat.le_of_ble_eq_true rfl) (by omega) (S_X11_repairAt (by omega) (by omega)) ?_
          refine J_cv (b := f (222 + 3 * k)) (by rw [show 221 + 3 * k + 1 = 222 + 3 * k by omega]) ?_
          refine J_goto 34 (by decide) dX11_before_30 ?_
          refine J_iadd 35 rfl dX11_before_34 ?_
          refine J_istore_n 36 rfl dX11_before_35 rfl (Nat.le_of_ble_eq_true rfl) ?_
          refine J_iinc 39 1 rfl dX11_before_36 ic_1 rfl (Nat.le_of_ble_eq_true rfl) ?_
          refine J_goto 4 (by decide) dX11_before_39 ?_
          have z := ih _ (by omega) (k + 1) rfl (by omega)
          rw [sn] at z
          first
            | (rw [if_pos (show sb (rh f) (rp f) k p = true from decide_eq_true (by assumption))] at z; exact z)
            | (rw [if_neg (show ¬ sb (rh f) (rp f) k p = true from fun q => absurd (of_decide_eq_true q) (by assumption))] at z; exact z)
  refine J_iconst 1 0 rfl dX11_before_0 ic_0 ?_
  refine J_istore_n 2 rfl dX11_before_1 rfl (Nat.le_of_ble_eq_true rfl) ?_
  refine J_iconst 3 0 rfl dX11_before_2 ic_0 ?_
  refine J_istore_n 4 rfl dX11_before_3 rfl (Nat.le_of_ble_eq_true rfl) ?_
  exact loop _ 0 rfl (Nat.zero_le _)

theorem S_X11_leastPenance {g : Gn} {J : DJ} {f : Nat → Nat} {B : Nat} (hw : WF f B) : SJ g mX11_leastPenance 4 0 0 [.ref (g.2 351)] (sR J 352 f) (MoQ (sR J 352 f) 0 0 (lpn (rh f) (rp f) (f 4))) NoX := by
  have h0 := hw.1
  have h2 := hw.2.1
  have h3 := hw.2.2.1
  have hO := hw.2.2.2.2.2.1
  have h4 := hw.2.2.2.2.1.1
  have hB := hw.2.2.2.2.2.2.2.2.1
  have hr := hw.2.2.2.2.1.2
  have mu : ∀ a b, a < f 4 → b < f 4 → f (222 + 3 * a) * f (223 + 3 * b) < 1000 := fun a b x y => by
    have := Nat.mul_le_mul (hr a x).2.2.1 (hr b y).2.2.2.2
    omega
  refine SJ_of_VJ (by decide +kernel) (Nat.le_of_ble_eq_true rfl) ?_
  show VJ g mX11_leastPenance 4 0 0 _ _ 0 [(0, .ref (g.2 351))] [] (sR J 352 f)
  have loop : ∀ (n9 : Nat) (k : Nat), f 4 - k = n9 → k ≤ f 4 → VJ g mX11_leastPenance 4 0 0 (MoQ (sR J 352 f) 0 0 (lpn (rh f) (rp f) (f 4))) NoX 9 [(0, .ref (g.2 351)), (1, .int (nI (sumN (fun k => rp f k * (bfr (rh f) (rp f) (f 4) k + rh f k)) k))), (2, .int (nI k))] [] (sR (up2 J 351 8 0) 352 f) := by
    intro n9
    induction n9 using Nat.strongRecOn with
    | ind n9 ih =>
      intro k hi hk
      refine J_iload_n 10 rfl dX11_leastPenance_9 rfl ?_
      refine J_aload_n 11 rfl dX11_leastPenance_10 rfl ?_
      refine g_X11_m 14 rfl dX11_leastPenance_11 lkX11_9 ?_
      refine J_iconst 15 4 rfl dX11_leastPenance_14 ic_4 ?_
      refine J_mald 16 rfl dX11_leastPenance_15 (by omega) ?_
      refine J_icmp_ge 47 19 (by decide) rfl dX11_leastPenance_16 (by omega) (by omega) (fun c16 => ?_) (fun c16 => ?_)
      · refine J_iload_n 48 rfl dX11_leastPenance_47 rfl ?_
        refine J_iret rfl dX11_leastPenance_48 ?_
        have e9 : k = f 4 := by omega
        subst e9
        exact ⟨_, rfl, Or.inl ⟨rfl, rfl, MNo_1⟩⟩
      · refine J_iload_n 20 rfl dX11_leastPenance_19 rfl ?_
        refine J_aload_n 21 rfl dX11_leastPenance_20 rfl ?_
        refine J_iload_n 22 rfl dX11_leastPenance_21 rfl ?_
        refine J_iconst 23 2 rfl dX11_leastPenance_22 ic_2 ?_
        refine J_callVi (As := [_, _]) 26 _ rfl kalX11_repairAt lkX11_115 dX11_leastPenance_23 (lt_X11) (so_X11) rfl rfl rfl (by exact Nat.le_of_ble_eq_true rfl) (by omega) (S_X11_repairAt (by omega) (by omega)) ?_
        refine J_cv (b := rp f k) (by show _ = f (223 + 3 * k); rw [show 221 + 3 * k + 2 = 223 + 3 * k by omega]) ?_
        refine J_aload_n 27 rfl dX11_leastPenance_26 rfl ?_
        refine J_iload_n 28 rfl dX11_leastPenance_27 rfl ?_
        refine J_callVi (As := [_]) 31 _ rfl kalX11_before lkX11_246 dX11_leastPenance_28 (lt_X11) (so_X11) rfl rfl rfl (by exact Nat.le_of_ble_eq_true rfl) (by omega) (S_X11_before hw (by omega)) ?_
        refine J_aload_n 32 rfl dX11_leastPenance_31 rfl ?_
        refine J_iload_n 33 rfl dX11_leastPenance_32 rfl ?_
        refine J_iconst 34 1 rfl dX11_leastPenance_33 ic_1 ?_
        refine J_callVi (As := [_, _]) 37 _ rfl kalX11_repairAt lkX11_115 dX11_leastPenance_34 (lt_X11) (so_X11) rfl rfl rfl (by exact Nat.le_of_ble_eq_true rfl) (by omega) (S_X11_repairAt (by omega) (by omega)) ?_
        refine J_cv (b := rh f k) (by show _ = f (222 + 3 * k); rw [show 221 + 3 * k + 1 = 222 + 3 * k by omega]) ?_
        refine J_iadd 38 rfl dX11_leastPenance_37 ?_
        refine J_imul 39 rfl dX11_leastPenance_38 ?_
        refine J_iadd 40 rfl dX11_leastPenance_39 ?_
        refine J_istore_n 41 rfl dX11_leastPenance_40 rfl (Nat.le_of_ble_eq_true rfl) ?_
        refine J_iinc 44 1 rfl dX11_leastPenance_41 ic_1 rfl (Nat.le_of_ble_eq_true rfl) ?_
        refine J_goto 9 (by decide) dX11_leastPenance_44 ?_
        exact ih _ (by omega) (k + 1) rfl (by omega)
  refine J_aload_n 1 rfl dX11_leastPenance_0 rfl ?_
  refine J_iconst 2 0 rfl dX11_leastPenance_1 ic_0 ?_
  refine p_X11_thrown 5 rfl dX11_leastPenance_2 lkX11_57 ?_
  rw [up2_out (by omega)]
  refine J_iconst 6 0 rfl dX11_leastPenance_5 ic_0 ?_
  refine J_istore_n 7 rfl dX11_leastPenance_6 rfl (Nat.le_of_ble_eq_true rfl) ?_
  refine J_iconst 8 0 rfl dX11_leastPenance_7 ic_0 ?_
  refine J_istore_n 9 rfl dX11_leastPenance_8 rfl (Nat.le_of_ble_eq_true rfl) ?_
  exact loop _ 0 rfl (Nat.zero_le _)

theorem S_X11_leastPenanceByTable {g : Gn} {J : DJ} {f : Nat → Nat} {B : Nat} (hw : WF f B) (hB9 : B < 600000000) : SJ g mX11_leastPenanceByTable 5 0 0 [.ref (g.2 351)] (sR J 352 f) (MoQ (sR J 352 f) (0) (0) (lpn (rh f) (rp f) (f 4))) NoX := by
  have h0 := hw.1
  have h2 := hw.2.1
  have h3 := hw.2.2.1
  have hO := hw.2.2.2.2.2.1
  have h4 := hw.2.2.2.2.1.1
  have hB := hw.2.2.2.2.2.2.2.2.1
  refine SJ_of_VJ (by decide +kernel) (Nat.le_of_ble_eq_true rfl) ?_
  show VJ g mX11_leastPenanceByTable 5 0 0 _ _ 0 [(0, .ref (g.2 351))] [] (sR J 352 f)
  refine J_aload_n 1 rfl dX11_leastPenanceByTable_0 rfl ?_
  refine J_callVie (As := []) 4 _ rfl kalX11_leastPenance lkX11_249 dX11_leastPenanceByTable_1 (lt_X11) (so_X11) rfl rfl rfl (by exact Nat.le_of_ble_eq_true rfl) (by omega) (S_X11_leastPenance hw) (fun r1 J1 q1 => ?_)
  refine J_iret rfl dX11_leastPenanceByTable_4 ?_
  exact ⟨_, rfl, q1⟩

