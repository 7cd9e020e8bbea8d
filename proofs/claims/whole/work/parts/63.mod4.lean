/-! THE MODEL: questions about engines (laid by wip/whole/src/p63.py) -/
/-! QUESTIONS of the model -/
theorem MNo.rf {J : DJ} : MNo J J (J 351 8) := ⟨fun _ _ => rfl, fun _ _ _ => rfl, rfl⟩
theorem MNo.th {J J2 : DJ} {p q : Nat} (h : MNo J J2 p) : MNo J (up2 J2 351 8 q) q := ⟨fun c hc => by rw [up2_ne (by omega)]; exact h.1 c hc, fun j h1 h2 => by rw [up2_app, if_neg (fun z => h1 z.2)]; exact h.2.1 j h1 h2, by rw [up2_app, if_pos ⟨rfl, rfl⟩]⟩
theorem MNo.om {J J2 : DJ} {p v : Nat} (h : MNo J J2 p) : MNo J (up2 J2 351 12 v) p := ⟨fun c hc => by rw [up2_ne (by omega)]; exact h.1 c hc, fun j h1 h2 => by rw [up2_app, if_neg (fun z => h2 z.2)]; exact h.2.1 j h1 h2, by rw [up2_app, if_neg (by omega)]; exact h.2.2⟩
theorem MNo.sc {J J2 : DJ} {p c : Nat} {r : Nat → Nat} (h : MNo J J2 p) (hc : c = 353 ∨ (357 ≤ c ∧ c < 361)) : MNo J (sR J2 c r) p := ⟨fun c2 h2 => by rw [sR_ne (by omega)]; exact h.1 c2 h2, fun j h1 h2 => by rw [sR_ne (by omega)]; exact h.2.1 j h1 h2, by rw [sR_ne (by omega)]; exact h.2.2⟩
theorem MNo.eq {J J2 J3 : DJ} {p q : Nat} (h : MNo J J2 p) (e : J3 = J2) (e2 : p = q) : MNo J J3 q := by rw [e, ← e2]; exact h
theorem MNo_1 {J : DJ} {f : Nat → Nat} {p : Nat} : MNo (sR J 352 f) (sR (up2 J 351 8 p) 352 f) p := by
  rw [← up2_out (by omega)]
  exact MNo.rf.th
theorem MNo_2 {J : DJ} {f : Nat → Nat} {p q : Nat} (e : q = p) : MNo (sR J 352 f) (sR (up2 (up2 J 351 8 0) 351 8 q) 352 f) p := by
  subst e
  rw [← up2_out (by omega), ← up2_out (by omega)]
  exact MNo.rf.th.th
def MoQ (J : DJ) (F p R : Nat) : Option Value → DJ → Prop := Re (fun r J2 => (F = 0 ∧ r = R ∧ MNo J J2 0) ∨ (F ≠ 0 ∧ r = 4294967295 ∧ MNo J J2 p))
theorem S_X11_engineCount {g : Gn} {J : DJ} {f : Nat → Nat} {B : Nat} (hw : WF f B) (hB9 : B < 600000000) : SJ g mX11_engineCount 3 0 0 [.ref (g.2 351)] (sR J 352 f) (MoQ (sR J 352 f) (0) (0) (f 0)) NoX := by
  have h0 := hw.1
  have h2 := hw.2.1
  have h3 := hw.2.2.1
  have hO := hw.2.2.2.2.2.1
  have h4 := hw.2.2.2.2.1.1
  have hB := hw.2.2.2.2.2.2.2.2.1
  refine SJ_of_VJ (by decide +kernel) (Nat.le_of_ble_eq_true rfl) ?_
  show VJ g mX11_engineCount 3 0 0 _ _ 0 [(0, .ref (g.2 351))] [] (sR J 352 f)
  refine J_aload_n 1 rfl dX11_engineCount_0 rfl ?_
  refine J_iconst 2 0 rfl dX11_engineCount_1 ic_0 ?_
  refine p_X11_thrown 5 rfl dX11_engineCount_2 lkX11_57 ?_
  rw [up2_out (by omega)]
  refine J_aload_n 6 rfl dX11_engineCount_5 rfl ?_
  refine g_X11_m 9 rfl dX11_engineCount_6 lkX11_9 ?_
  refine J_iconst 10 0 rfl dX11_engineCount_9 ic_0 ?_
  refine J_mald 11 rfl dX11_engineCount_10 (by omega) ?_
  refine J_iret rfl dX11_engineCount_11 ?_
  exact ⟨_, rfl, Or.inl ⟨rfl, rfl, MNo_1⟩⟩

theorem S_X11_cylinderCount {g : Gn} {J : DJ} {f : Nat → Nat} {B : Nat} (hw : WF f B) (hB9 : B < 600000000) {e : Nat} (h_e : e < 4294967296) : SJ g mX11_cylinderCount 3 0 0 [.ref (g.2 351), .int (nI (e))] (sR J 352 f) (MoQ (sR J 352 f) (qE f e) (1) (f (7 + 52 * e))) NoX := by
  have h0 := hw.1
  have h2 := hw.2.1
  have h3 := hw.2.2.1
  have hO := hw.2.2.2.2.2.1
  have h4 := hw.2.2.2.2.1.1
  have hB := hw.2.2.2.2.2.2.2.2.1
  refine SJ_of_VJ (by decide +kernel) (Nat.le_of_ble_eq_true rfl) ?_
  show VJ g mX11_cylinderCount 3 0 0 _ _ 0 [(0, .ref (g.2 351)), (1, .int (nI (e)))] [] (sR J 352 f)
  refine J_aload_n 1 rfl dX11_cylinderCount_0 rfl ?_
  refine J_iconst 2 0 rfl dX11_cylinderCount_1 ic_0 ?_
  refine p_X11_thrown 5 rfl dX11_cylinderCount_2 lkX11_57 ?_
  rw [up2_out (by omega)]
  refine J_aload_n 6 rfl dX11_cylinderCount_5 rfl ?_
  refine J_iload_n 7 rfl dX11_cylinderCount_6 rfl ?_
  refine J_callVi (As := [_]) 10 _ rfl kalX11_isEngine lkX11_71 dX11_cylinderCount_7 (lt_X11) (so_X11) rfl rfl rfl (by exact Nat.le_of_ble_eq_true rfl) (by omega) (S_X11_isEngine (by assumption) h0) ?_
  refine J_ifb_eq (hdp := _) 21 13 (by decide) rfl dX11_cylinderCount_10 (fun c10 => ?_) (fun c10 => ?_)
  · refine J_aload_n 22 rfl dX11_cylinderCount_21 rfl ?_
    refine J_iconst 23 1 rfl dX11_cylinderCount_22 ic_1 ?_
    refine J_callVi (As := [_]) 26 _ rfl kalX11_throwing lkX11_125 dX11_cylinderCount_23 (lt_X11) (so_X11) rfl rfl rfl (by exact Nat.le_of_ble_eq_true rfl) (by omega) (S_X11_throwing) ?_
    refine J_iret rfl dX11_cylinderCount_26 ?_
    first
      | (exact ⟨_, rfl, Or.inl ⟨by unfold qE; (repeat' split) <;> omega, rfl, MNo_1⟩⟩)
      | (refine ⟨_, rfl, Or.inr ⟨by unfold qE; (repeat' split) <;> omega, rfl, ?_⟩⟩
         rw [up2_out (by omega)]
         exact MNo_2 (by first | rfl | (unfold qE; (repeat' split) <;> omega)))
  · refine J_aload_n 14 rfl dX11_cylinderCount_13 rfl ?_
    refine J_iload_n 15 rfl dX11_cylinderCount_14 rfl ?_
    refine J_callVi (As := [_]) 18 _ rfl kalX11_many lkX11_75 dX11_cylinderCount_15 (lt_X11) (so_X11) rfl rfl rfl (by exact Nat.le_of_ble_eq_true rfl) (by omega) (S_X11_many (by omega)) ?_
    refine J_goto 26 (by decide) dX11_cylinderCount_18 ?_
    refine J_iret rfl dX11_cylinderCount_26 ?_
    first
      | (exact ⟨_, rfl, Or.inl ⟨by unfold qE; (repeat' split) <;> omega, rfl, MNo_1⟩⟩)
      | (refine ⟨_, rfl, Or.inr ⟨by unfold qE; (repeat' split) <;> omega, rfl, ?_⟩⟩
         rw [up2_out (by omega)]
         exact MNo_2 (by first | rfl | (unfold qE; (repeat' split) <;> omega)))

theorem S_X11_orderAt {g : Gn} {J : DJ} {f : Nat → Nat} {B : Nat} (hw : WF f B) (hB9 : B < 600000000) {e : Nat} {p : Nat} (h_e : e < 4294967296) (h_p : p < 4294967296) : SJ g mX11_orderAt 3 0 0 [.ref (g.2 351), .int (nI (e)), .int (nI (p))] (sR J 352 f) (MoQ (sR J 352 f) (qPt f e p) (1) (f (7 + 52 * e + 4 + p))) NoX := by
  have h0 := hw.1
  have h2 := hw.2.1
  have h3 := hw.2.2.1
  have hO := hw.2.2.2.2.2.1
  have h4 := hw.2.2.2.2.1.1
  have hB := hw.2.2.2.2.2.2.2.2.1
  refine SJ_of_VJ (by decide +kernel) (Nat.le_of_ble_eq_true rfl) ?_
  show VJ g mX11_orderAt 3 0 0 _ _ 0 [(0, .ref (g.2 351)), (1, .int (nI (e))), (2, .int (nI (p)))] [] (sR J 352 f)
  refine J_aload_n 1 rfl dX11_orderAt_0 rfl ?_
  refine J_iconst 2 0 rfl dX11_orderAt_1 ic_0 ?_
  refine p_X11_thrown 5 rfl dX11_orderAt_2 lkX11_57 ?_
  rw [up2_out (by omega)]
  refine J_aload_n 6 rfl dX11_orderAt_5 rfl ?_
  refine J_iload_n 7 rfl dX11_orderAt_6 rfl ?_
  refine J_iload_n 8 rfl dX11_orderAt_7 rfl ?_
  refine J_callVi (As := [_, _]) 11 _ rfl kalX11_isPart lkX11_137 dX11_orderAt_8 (lt_X11) (so_X11) rfl rfl rfl (by exact Nat.le_of_ble_eq_true rfl) (by omega) (S_X11_isPart (by assumption) (by assumption) h0 (fun e he => (hO e he).2.1)) ?_
  refine J_ifb_eq (hdp := _) 23 14 (by decide) rfl dX11_orderAt_11 (fun c11 => ?_) (fun c11 => ?_)
  · refine J_aload_n 24 rfl dX11_orderAt_23 rfl ?_
    refine J_iconst 25 1 rfl dX11_orderAt_24 ic_1 ?_
    refine J_callVi (As := [_]) 28 _ rfl kalX11_throwing lkX11_125 dX11_orderAt_25 (lt_X11) (so_X11) rfl rfl rfl (by exact Nat.le_of_ble_eq_true rfl) (by omega) (S_X11_throwing) ?_
    refine J_iret rfl dX11_orderAt_28 ?_
    first
      | (exact ⟨_, rfl, Or.inl ⟨by unfold qPt; (repeat' split) <;> omega, rfl, MNo_1⟩⟩)
      | (refine ⟨_, rfl, Or.inr ⟨by unfold qPt; (repeat' split) <;> omega, rfl, ?_⟩⟩
         rw [up2_out (by omega)]
         exact MNo_2 (by first | rfl | (unfold qPt; (repeat' split) <;> omega)))
  · have o8 := (hO e (by omega)).2.1
    refine J_aload_n 15 rfl dX11_orderAt_14 rfl ?_
    refine J_iload_n 16 rfl dX11_orderAt_15 rfl ?_
    refine J_iload_n 17 rfl dX11_orderAt_16 rfl ?_
    refine J_callVi (As := [_, _]) 20 _ rfl kalX11_order lkX11_81 dX11_orderAt_17 (lt_X11) (so_X11) rfl rfl rfl (by exact Nat.le_of_ble_eq_true rfl) (by omega) (S_X11_order (by omega) (by omega)) ?_
    refine J_goto 28 (by decide) dX11_orderAt_20 ?_
    refine J_iret rfl dX11_orderAt_28 ?_
    first
      | (exact ⟨_, rfl, Or.inl ⟨by unfold qPt; (repeat' split) <;> omega, rfl, MNo_1⟩⟩)
      | (refine ⟨_, rfl, Or.inr ⟨by unfold qPt; (repeat' split) <;> omega, rfl, ?_⟩⟩
         rw [up2_out (by omega)]
         exact MNo_2 (by first | rfl | (unfold qPt; (repeat' split) <;> omega)))

theorem S_X11_dueAfter {g : Gn} {J : DJ} {f : Nat → Nat} {B : Nat} (hw : WF f B) (hB9 : B < 600000000) {e : Nat} {t : Nat} (h_e : e < 4294967296) (h_t : t < 4294967296) : SJ g mX11_dueAfter 3 0 0 [.ref (g.2 351), .int (nI (e)), .int (nI (t))] (sR J 352 f) (MoQ (sR J 352 f) (qDue f e t) (qDue f e t) (f (7 + 52 * e + 4 + (f (7 + 52 * e + 1) + t) % f (7 + 52 * e)))) NoX := by
  have h0 := hw.1
  have h2 := hw.2.1
  have h3 := hw.2.2.1
  have hO := hw.2.2.2.2.2.1
  have h4 := hw.2.2.2.2.1.1
  have hB := hw.2.2.2.2.2.2.2.2.1
  refine SJ_of_VJ (by decide +kernel) (Nat.le_of_ble_eq_true rfl) ?_
  show VJ g mX11_dueAfter 3 0 0 _ _ 0 [(0, .ref (g.2 351)), (1, .int (nI (e))), (2, .int (nI (t)))] [] (sR J 352 f)
  refine J_aload_n 1 rfl dX11_dueAfter_0 rfl ?_
  refine J_iconst 2 0 rfl dX11_dueAfter_1 ic_0 ?_
  refine p_X11_thrown 5 rfl dX11_dueAfter_2 lkX11_57 ?_
  rw [up2_out (by omega)]
  refine J_aload_n 6 rfl dX11_dueAfter_5 rfl ?_
  refine J_iload_n 7 rfl dX11_dueAfter_6 rfl ?_
  refine J_callVi (As := [_]) 10 _ rfl kalX11_isEngine lkX11_71 dX11_dueAfter_7 (lt_X11) (so_X11) rfl rfl rfl (by exact Nat.le_of_ble_eq_true rfl) (by omega) (S_X11_isEngine (by assumption) h0) ?_
  refine J_ifb_ne (hdp := _) 19 13 (by decide) rfl dX11_dueAfter_10 (fun c10 => ?_) (fun c10 => ?_)
  · refine J_iload_n 20 rfl dX11_dueAfter_19 rfl ?_
    refine J_i2l 21 _ rfl dX11_dueAfter_20 rfl ?_
    refine J_lconst 22 _ rfl dX11_dueAfter_21 rfl ?_
    refine J_ldc2 25 rfl dX11_dueAfter_22 lkX11_195 ?_
    refine J_callSi (As := [_, _, _]) 28 rfl kalX11_in lkX11_63 dX11_dueAfter_25 rfl rfl (by exact Nat.le_of_ble_eq_true rfl) (by omega) (S_in_le 0 9999 (by decide) (by decide) (by assumption) (by omega) (by omega)) ?_
    refine J_ifb_ne (hdp := _) 37 31 (by decide) rfl dX11_dueAfter_28 (fun c28 => ?_) (fun c28 => ?_)
    · have oe := hO e (by omega)
      have o1 := oe.1
      have o2 := oe.2.1
      have o3 := oe.2.2.1
      have lt : (f (7 + 52 * e + 1) + t) % f (7 + 52 * e) < f (7 + 52 * e) := Nat.mod_lt _ (by omega)
      refine J_aload_n 38 rfl dX11_dueAfter_37 rfl ?_
      refine J_iload_n 39 rfl dX11_dueAfter_38 rfl ?_
      refine J_aload_n 40 rfl dX11_dueAfter_39 rfl ?_
      refine g_X11_m 43 rfl dX11_dueAfter_40 lkX11_9 ?_
      refine J_iload_n 44 rfl dX11_dueAfter_43 rfl ?_
      refine J_callSi (As := [_]) 47 rfl kalX11_engineAt lkX11_67 dX11_dueAfter_44 rfl rfl (by exact Nat.le_of_ble_eq_true rfl) (by omega) (S_X11_engineAt) ?_
      refine J_iconst 48 1 rfl dX11_dueAfter_47 ic_1 ?_
      refine J_iadd 49 rfl dX11_dueAfter_48 ?_
      refine J_mald 50 rfl dX11_dueAfter_49 (by omega) ?_
      refine J_iload_n 51 rfl dX11_dueAfter_50 rfl ?_
      refine J_iadd 52 rfl dX11_dueAfter_51 ?_
      refine J_aload_n 53 rfl dX11_dueAfter_52 rfl ?_
      refine J_iload_n 54 rfl dX11_dueAfter_53 rfl ?_
      refine J_callVi (As := [_]) 57 _ rfl kalX11_many lkX11_75 dX11_dueAfter_54 (lt_X11) (so_X11) rfl rfl rfl (by exact Nat.le_of_ble_eq_true rfl) (by omega) (S_X11_many (by omega)) ?_
      refine J_irem 58 rfl dX11_dueAfter_57 (by omega) (by omega) (by omega) ?_
      refine J_callVi (As := [_, _]) 61 _ rfl kalX11_order lkX11_81 dX11_dueAfter_58 (lt_X11) (so_X11) rfl rfl rfl (by exact Nat.le_of_ble_eq_true rfl) (by omega) (S_X11_order (by omega) (by omega)) ?_
      refine J_iret rfl dX11_dueAfter_61 ?_
      exact ⟨_, rfl, Or.inl ⟨by unfold qDue; (repeat' split) <;> omega, rfl, MNo_1⟩⟩
    · refine J_aload_n 32 rfl dX11_dueAfter_31 rfl ?_
      refine J_iconst 33 2 rfl dX11_dueAfter_32 ic_2 ?_
      refine J_callVi (As := [_]) 36 _ rfl kalX11_throwing lkX11_125 dX11_dueAfter_33 (lt_X11) (so_X11) rfl rfl rfl (by exact Nat.le_of_ble_eq_true rfl) (by omega) (S_X11_throwing) ?_
      refine J_iret rfl dX11_dueAfter_36 ?_
      refine ⟨_, rfl, Or.inr ⟨by unfold qDue; (repeat' split) <;> omega, rfl, ?_⟩⟩
      rw [up2_out (by omega)]
      exact MNo_2 (by first | rfl | (unfold qDue; (repeat' split) <;> omega))
  · refine J_aload_n 14 rfl dX11_dueAfter_13 rfl ?_
    refine J_iconst 15 1 rfl dX11_dueAfter_14 ic_1 ?_
    refine J_callVi (As := [_]) 18 _ rfl kalX11_throwing lkX11_125 dX11_dueAfter_15 (lt_X11) (so_X11) rfl rfl rfl (by exact Nat.le_of_ble_eq_true rfl) (by omega) (S_X11_throwing) ?_
    refine J_iret rfl dX11_dueAfter_18 ?_
    refine ⟨_, rfl, Or.inr ⟨by unfold qDue; (repeat' split) <;> omega, rfl, ?_⟩⟩
    rw [up2_out (by omega)]
    exact MNo_2 (by first | rfl | (unfold qDue; (repeat' split) <;> omega))

theorem S_X11_dueAfterByStrokes {g : Gn} {J : DJ} {f : Nat → Nat} {B : Nat} (hw : WF f B) (hB9 : B < 600000000) {e : Nat} {t : Nat} (h_e : e < 4294967296) (h_t : t < 4294967296) : SJ g mX11_dueAfterByStrokes 4 0 0 [.ref (g.2 351), .int (nI (e)), .int (nI (t))] (sR J 352 f) (MoQ (sR J 352 f) (qDue f e t) (qDue f e t) (f (7 + 52 * e + 4 + (f (7 + 52 * e + 1) + t) % f (7 + 52 * e)))) NoX := by
  have h0 := hw.1
  have h2 := hw.2.1
  have h3 := hw.2.2.1
  have hO := hw.2.2.2.2.2.1
  have h4 := hw.2.2.2.2.1.1
  have hB := hw.2.2.2.2.2.2.2.2.1
  refine SJ_of_VJ (by decide +kernel) (Nat.le_of_ble_eq_true rfl) ?_
  show VJ g mX11_dueAfterByStrokes 4 0 0 _ _ 0 [(0, .ref (g.2 351)), (1, .int (nI (e))), (2, .int (nI (t)))] [] (sR J 352 f)
  refine J_aload_n 1 rfl dX11_dueAfterByStrokes_0 rfl ?_
  refine J_iload_n 2 rfl dX11_dueAfterByStrokes_1 rfl ?_
  refine J_iload_n 3 rfl dX11_dueAfterByStrokes_2 rfl ?_
  refine J_callVie (As := [_, _]) 6 _ rfl kalX11_dueAfter lkX11_197 dX11_dueAfterByStrokes_3 (lt_X11) (so_X11) rfl rfl rfl (by exact Nat.le_of_ble_eq_true rfl) (by omega) (S_X11_dueAfter hw hB9 h_e h_t) (fun r3 J3 q3 => ?_)
  refine J_iret rfl dX11_dueAfterByStrokes_6 ?_
  exact ⟨_, rfl, q3⟩

theorem S_X11_cycle {g : Gn} {J : DJ} {f : Nat → Nat} {e c : Nat} (he : e < 4) (h8 : f (7 + 52 * e) ≤ 8) (pm : PM (ford f e) (f (7 + 52 * e))) (hc : c < f (7 + 52 * e)) : SJ g mX11_cycle 2 0 0 [.ref (g.2 351), .int (nI (e)), .int (nI (c))] (sR J 352 f) (Ri (cyc (ford f e) (f (7 + 52 * e)) c) (sR J 352 f)) NoX := by
  have sp := cyc_spec pm hc
  have fo : ∀ p, f (7 + 52 * e + 4 + p) = ford f e p := fun p => by unfold ford; rw [show 7 + 52 * e + 4 + p = 11 + 52 * e + p by omega]
  refine SJ_of_VJ (by decide +kernel) (Nat.le_of_ble_eq_true rfl) ?_
  show VJ g mX11_cycle 2 0 0 _ _ 0 [(0, .ref (g.2 351)), (1, .int (nI (e))), (2, .int (nI (c)))] [] (sR J 352 f)
  have loop : ∀ (n9 : Nat) (l : Nat), cyc (ford f e) (f (7 + 52 * e)) c - l = n9 → 1 ≤ l → l ≤ cyc (ford f e) (f (7 + 52 * e)) c → VJ g mX11_cycle 2 0 0 (Ri (cyc (ford f e) (f (7 + 52 * e)) c) (sR J 352 f)) NoX 10 [(0, .ref (g.2 351)), (1, .int (nI e)), (2, .int (nI c)), (3, .int (nI (itN (ford f e) l c))), (4, .int (nI l))] [] (sR J 352 f) := by
    intro n9
    induction n9 using Nat.strongRecOn with
    | ind n9 ih =>
      intro l hi h1 hl
      have il := itN_lt pm.1 hc l
      refine J_iload_n 11 rfl dX11_cycle_10 rfl ?_
      refine J_iload_n 12 rfl dX11_cycle_11 rfl ?_
      refine J_icmp_eq 28 15 (by decide) rfl dX11_cycle_12 (by omega) (by omega) (fun c12 => ?_) (fun c12 => ?_)
      · refine J_iload 30 rfl dX11_cycle_28 rfl ?_
        refine J_iret rfl dX11_cycle_30 ?_
        have e9 : l = cyc (ford f e) (f (7 + 52 * e)) c := by
          refine Classical.byContradiction (fun z => ?_)
          exact sp.2.2.2 l h1 (by omega) c12
        exact ⟨by rw [e9], rfl⟩
      · refine J_aload_n 16 rfl dX11_cycle_15 rfl ?_
        refine J_iload_n 17 rfl dX11_cycle_16 rfl ?_
        refine J_iload_n 18 rfl dX11_cycle_17 rfl ?_
        refine J_callVi (As := [_, _]) 21 _ rfl kalX11_order lkX11_81 dX11_cycle_18 (lt_X11) (so_X11) rfl rfl rfl (by exact Nat.le_of_ble_eq_true rfl) (by omega) (S_X11_order (by omega) (by omega)) ?_
        refine J_cv (b := itN (ford f e) (l + 1) c) (fo _) ?_
        refine J_istore_n 22 rfl dX11_cycle_21 rfl (Nat.le_of_ble_eq_true rfl) ?_
        refine J_iinc 25 1 rfl dX11_cycle_22 ic_1 rfl (Nat.le_of_ble_eq_true rfl) ?_
        refine J_goto 10 (by decide) dX11_cycle_25 ?_
        have ne : l ≠ cyc (ford f e) (f (7 + 52 * e)) c := fun z => by
          have := sp.2.2.1
          rw [← z] at this
          exact c12 this
        exact ih _ (by omega) (l + 1) rfl (by omega) (by omega)
  refine J_aload_n 1 rfl dX11_cycle_0 rfl ?_
  refine J_iload_n 2 rfl dX11_cycle_1 rfl ?_
  refine J_iload_n 3 rfl dX11_cycle_2 rfl ?_
  refine J_callVi (As := [_, _]) 6 _ rfl kalX11_order lkX11_81 dX11_cycle_3 (lt_X11) (so_X11) rfl rfl rfl (by exact Nat.le_of_ble_eq_true rfl) (by omega) (S_X11_order (by omega) (by omega)) ?_
  refine J_cv (b := itN (ford f e) 1 c) (fo c) ?_
  refine J_istore_n 7 rfl dX11_cycle_6 rfl (Nat.le_of_ble_eq_true rfl) ?_
  refine J_iconst 8 1 rfl dX11_cycle_7 ic_1 ?_
  refine J_istore 10 rfl dX11_cycle_8 (Nat.le_of_ble_eq_true rfl) ?_
  exact loop _ 1 rfl (Nat.le_refl _) sp.1

theorem S_X11_turnOf {g : Gn} {J : DJ} {f : Nat → Nat} {B e : Nat} (hw : WF f B) (hB9 : B < 600000000) (h_e : e < 4294967296) : SJ g mX11_turnOf 3 0 0 [.ref (g.2 351), .int (nI (e))] (sR J 352 f) (MoQ (sR J 352 f) (qE f e) 1 (tuC (ford f e) (f (7 + 52 * e)) (f (7 + 52 * e)))) NoX := by
  have h0 := hw.1
  have h2 := hw.2.1
  have h3 := hw.2.2.1
  have hO := hw.2.2.2.2.2.1
  have h4 := hw.2.2.2.2.1.1
  have hB := hw.2.2.2.2.2.2.2.2.1
  refine SJ_of_VJ (by decide +kernel) (Nat.le_of_ble_eq_true rfl) ?_
  show VJ g mX11_turnOf 3 0 0 _ _ 0 [(0, .ref (g.2 351)), (1, .int (nI (e)))] [] (sR J 352 f)
  have main : e < f 0 → ∀ (n9 : Nat) (t b : Nat), tuC (ford f e) (f (7 + 52 * e)) (f (7 + 52 * e)) - t = n9 → t ≤ tuC (ford f e) (f (7 + 52 * e)) (f (7 + 52 * e)) → b < 2 → (b = 1 → t = tuC (ford f e) (f (7 + 52 * e)) (f (7 + 52 * e))) → (b = 0 → t < tuC (ford f e) (f (7 + 52 * e)) (f (7 + 52 * e))) → VJ g mX11_turnOf 3 0 0 (MoQ (sR J 352 f) (qE f e) 1 (tuC (ford f e) (f (7 + 52 * e)) (f (7 + 52 * e)))) NoX 23 [(0, .ref (g.2 351)), (1, .int (nI e)), (2, .int (nI t)), (3, .int (nI b))] [] (sR (up2 J 351 8 0) 352 f) := by
    intro hef n9
    have oe := hO e hef
    have o1 := oe.1
    have o2 := oe.2.1
    have pm : PM (ford f e) (f (7 + 52 * e)) := ⟨fun c hcc => by unfold ford; rw [show 11 + 52 * e + c = 7 + 52 * e + 4 + c by omega]; exact oe.2.2.2.2.2.1 c hcc, fun a b ha hbb z => by
      unfold ford at z
      rw [show 11 + 52 * e + a = 7 + 52 * e + 4 + a by omega, show 11 + 52 * e + b = 7 + 52 * e + 4 + b by omega] at z
      exact oe.2.2.2.2.2.2.1 a b ha hbb z⟩
    have sm := tuC_small pm (by omega) o2
    induction n9 using Nat.strongRecOn with
    | ind n9 ih =>
      intro t b hi ht hb hb1 hb0
      have inner : t < tuC (ford f e) (f (7 + 52 * e)) (f (7 + 52 * e)) → ∀ (m9 : Nat) (k b : Nat), (f (7 + 52 * e)) - k = m9 → k ≤ (f (7 + 52 * e)) → b < 2 → (b = 1 ↔ ∀ c, c < k → cyc (ford f e) (f (7 + 52 * e)) c ∣ (t + 1)) → VJ g mX11_turnOf 3 0 0 (MoQ (sR J 352 f) (qE f e) 1 (tuC (ford f e) (f (7 + 52 * e)) (f (7 + 52 * e)))) NoX 35 [(0, .ref (g.2 351)), (1, .int (nI e)), (2, .int (nI (t + 1))), (3, .int (nI b)), (4, .int (nI k))] [] (sR (up2 J 351 8 0) 352 f) := by
        intro htt m9
        induction m9 using Nat.strongRecOn with
        | ind m9 ih2 =>
          intro k b hi2 hk hb2 hbk
          have ck := fun h : k < (f (7 + 52 * e)) => cyc_spec pm h
          refine J_iload 37 rfl dX11_turnOf_35 rfl ?_
          refine J_aload_n 38 rfl dX11_turnOf_37 rfl ?_
          refine J_iload_n 39 rfl dX11_turnOf_38 rfl ?_
          refine J_callVi (As := [_]) 42 _ rfl kalX11_many lkX11_75 dX11_turnOf_39 (lt_X11) (so_X11) rfl rfl rfl (by exact Nat.le_of_ble_eq_true rfl) (by omega) (S_X11_many (by omega)) ?_
          refine J_icmp_ge 73 45 (by decide) rfl dX11_turnOf_42 (by omega) (by omega) (fun c42 => ?_) (fun c42 => ?_)
          · refine J_goto 23 (by decide) dX11_turnOf_73 ?_
            refine J_keep [0, 1, 2, 3] ?_
            have e9 : k = (f (7 + 52 * e)) := by omega
            subst e9
            have dv : b = 1 ↔ tuC (ford f e) (f (7 + 52 * e)) (f (7 + 52 * e)) ∣ (t + 1) := hbk.trans (tuC_dvd_iff _).symm
            refine ih _ (by omega) (t + 1) b rfl (by omega) hb2 (fun z => ?_) (fun z => ?_)
            · have := Nat.le_of_dvd (by omega) (dv.mp z)
              omega
            · by_cases y : t + 1 = tuC (ford f e) (f (7 + 52 * e)) (f (7 + 52 * e))
              · have : b = 1 := dv.mpr (by rw [y]; exact Nat.dvd_refl _)
                omega
              · omega
          · refine J_iload_n 46 rfl dX11_turnOf_45 rfl ?_
            refine J_if_eq 65 49 (by decide) rfl dX11_turnOf_46 (by omega) (fun c46 => ?_) (fun c46 => ?_)
            · refine J_iconst 66 0 rfl dX11_turnOf_65 ic_0 ?_
              refine J_istore_n 67 rfl dX11_turnOf_66 rfl (Nat.le_of_ble_eq_true rfl) ?_
              refine J_iinc 70 1 rfl dX11_turnOf_67 ic_1 rfl (Nat.le_of_ble_eq_true rfl) ?_
              refine J_goto 35 (by decide) dX11_turnOf_70 ?_
              first
                | (refine ih2 _ (by omega) (k + 1) 1 rfl (by omega) (by omega) ⟨fun _ c hc => ?_, fun _ => rfl⟩
                   by_cases z : c = k
                   · rw [z]; exact Nat.dvd_of_mod_eq_zero (by assumption)
                   · exact (hbk.mp (by omega)) c (by omega))
                | (refine ih2 _ (by omega) (k + 1) 0 rfl (by omega) (by omega) ⟨fun z => absurd z (by omega), fun z => ?_⟩
                   exfalso
                   first
                     | exact absurd (Nat.mod_eq_zero_of_dvd (z k (by omega))) (by assumption)
                     | (have : b = 1 := hbk.mpr (fun c hc => z c (by omega))
                        omega))
            · refine J_iload_n 50 rfl dX11_turnOf_49 rfl ?_
              refine J_aload_n 51 rfl dX11_turnOf_50 rfl ?_
              refine J_iload_n 52 rfl dX11_turnOf_51 rfl ?_
              refine J_iload 54 rfl dX11_turnOf_52 rfl ?_
              refine J_callVi (As := [_, _]) 57 _ rfl kalX11_cycle lkX11_200 dX11_turnOf_54 (lt_X11) (so_X11) rfl rfl rfl (by exact Nat.le_of_ble_eq_true rfl) (by omega) (S_X11_cycle (by omega) o2 pm (by omega)) ?_
              refine J_irem 58 rfl dX11_turnOf_57 (by omega) (by have := (ck (by omega)).1; omega) (by have := (ck (by omega)).2.1; omega) ?_
              refine J_if_ne 65 61 (by decide) rfl dX11_turnOf_58 (by have := Nat.mod_lt (t + 1) (show cyc (ford f e) (f (7 + 52 * e)) k > 0 by have := (ck (by omega)).1; omega); have := (ck (by omega)).2.1; omega) (fun c58 => ?_) (fun c58 => ?_)
              · refine J_iconst 66 0 rfl dX11_turnOf_65 ic_0 ?_
                refine J_istore_n 67 rfl dX11_turnOf_66 rfl (Nat.le_of_ble_eq_true rfl) ?_
                refine J_iinc 70 1 rfl dX11_turnOf_67 ic_1 rfl (Nat.le_of_ble_eq_true rfl) ?_
                refine J_goto 35 (by decide) dX11_turnOf_70 ?_
                first
                  | (refine ih2 _ (by omega) (k + 1) 1 rfl (by omega) (by omega) ⟨fun _ c hc => ?_, fun _ => rfl⟩
                     by_cases z : c = k
                     · rw [z]; exact Nat.dvd_of_mod_eq_zero (by assumption)
                     · exact (hbk.mp (by omega)) c (by omega))
                  | (refine ih2 _ (by omega) (k + 1) 0 rfl (by omega) (by omega) ⟨fun z => absurd z (by omega), fun z => ?_⟩
                     exfalso
                     first
                       | exact absurd (Nat.mod_eq_zero_of_dvd (z k (by omega))) (by assumption)
                       | (have : b = 1 := hbk.mpr (fun c hc => z c (by omega))
                          omega))
              · refine J_iconst 62 1 rfl dX11_turnOf_61 ic_1 ?_
                refine J_goto 66 (by decide) dX11_turnOf_62 ?_
                refine J_istore_n 67 rfl dX11_turnOf_66 rfl (Nat.le_of_ble_eq_true rfl) ?_
                refine J_iinc 70 1 rfl dX11_turnOf_67 ic_1 rfl (Nat.le_of_ble_eq_true rfl) ?_
                refine J_goto 35 (by decide) dX11_turnOf_70 ?_
                first
                  | (refine ih2 _ (by omega) (k + 1) 1 rfl (by omega) (by omega) ⟨fun _ c hc => ?_, fun _ => rfl⟩
                     by_cases z : c = k
                     · rw [z]; exact Nat.dvd_of_mod_eq_zero (by assumption)
                     · exact (hbk.mp (by omega)) c (by omega))
                  | (refine ih2 _ (by omega) (k + 1) 0 rfl (by omega) (by omega) ⟨fun z => absurd z (by omega), fun z => ?_⟩
                     exfalso
                     first
                       | exact absurd (Nat.mod_eq_zero_of_dvd (z k (by omega))) (by assumption)
                       | (have : b = 1 := hbk.mpr (fun c hc => z c (by omega))
                          omega))
      refine J_iload_n 24 rfl dX11_turnOf_23 rfl ?_
      refine J_if_ne 76 27 (by decide) rfl dX11_turnOf_24 (by omega) (fun c24 => ?_) (fun c24 => ?_)
      · refine J_iload_n 77 rfl dX11_turnOf_76 rfl ?_
        refine J_iret rfl dX11_turnOf_77 ?_
        exact ⟨_, rfl, Or.inl ⟨by unfold qE; rw [if_pos hef], hb1 (by omega), MNo_1⟩⟩
      · refine J_iinc 30 1 rfl dX11_turnOf_27 ic_1 rfl (Nat.le_of_ble_eq_true rfl) ?_
        refine J_iconst 31 1 rfl dX11_turnOf_30 ic_1 ?_
        refine J_istore_n 32 rfl dX11_turnOf_31 rfl (Nat.le_of_ble_eq_true rfl) ?_
        refine J_iconst 33 0 rfl dX11_turnOf_32 ic_0 ?_
        refine J_istore 35 rfl dX11_turnOf_33 (Nat.le_of_ble_eq_true rfl) ?_
        exact inner (hb0 (by omega)) _ 0 1 rfl (Nat.zero_le _) (by omega) ⟨fun _ c hc => absurd hc (by omega), fun _ => rfl⟩
  refine J_aload_n 1 rfl dX11_turnOf_0 rfl ?_
  refine J_iconst 2 0 rfl dX11_turnOf_1 ic_0 ?_
  refine p_X11_thrown 5 rfl dX11_turnOf_2 lkX11_57 ?_
  rw [up2_out (by omega)]
  refine J_aload_n 6 rfl dX11_turnOf_5 rfl ?_
  refine J_iload_n 7 rfl dX11_turnOf_6 rfl ?_
  refine J_callVi (As := [_]) 10 _ rfl kalX11_isEngine lkX11_71 dX11_turnOf_7 (lt_X11) (so_X11) rfl rfl rfl (by exact Nat.le_of_ble_eq_true rfl) (by omega) (S_X11_isEngine (by assumption) h0) ?_
  refine J_ifb_ne (hdp := _) 19 13 (by decide) rfl dX11_turnOf_10 (fun c10 => ?_) (fun c10 => ?_)
  · refine J_iconst 20 0 rfl dX11_turnOf_19 ic_0 ?_
    refine J_istore_n 21 rfl dX11_turnOf_20 rfl (Nat.le_of_ble_eq_true rfl) ?_
    refine J_iconst 22 0 rfl dX11_turnOf_21 ic_0 ?_
    refine J_istore_n 23 rfl dX11_turnOf_22 rfl (Nat.le_of_ble_eq_true rfl) ?_
    refine main (by omega) _ 0 0 rfl (Nat.zero_le _) (by omega) (fun z => absurd z (by omega)) (fun _ => ?_)
    have oe := hO e (by omega)
    have p := tuC_pos (w := ford f e) (n := f (7 + 52 * e)) (by have := oe.1; omega) oe.2.1 (f (7 + 52 * e))
    omega
  · refine J_aload_n 14 rfl dX11_turnOf_13 rfl ?_
    refine J_iconst 15 1 rfl dX11_turnOf_14 ic_1 ?_
    refine J_callVi (As := [_]) 18 _ rfl kalX11_throwing lkX11_125 dX11_turnOf_15 (lt_X11) (so_X11) rfl rfl rfl (by exact Nat.le_of_ble_eq_true rfl) (by omega) (S_X11_throwing) ?_
    refine J_iret rfl dX11_turnOf_18 ?_
    refine ⟨_, rfl, Or.inr ⟨by unfold qE; (repeat' split) <;> omega, rfl, ?_⟩⟩
    rw [up2_out (by omega)]
    exact MNo_2 (by first | rfl | (unfold qE; (repeat' split) <;> omega))

theorem S_X11_turnByRepeating {g : Gn} {J : DJ} {f : Nat → Nat} {B : Nat} (hw : WF f B) (hB9 : B < 600000000) {e : Nat} (h_e : e < 4294967296) : SJ g mX11_turnByRepeating 4 0 0 [.ref (g.2 351), .int (nI (e))] (sR J 352 f) (MoQ (sR J 352 f) (qE f e) (1) (tuC (ford f e) (f (7 + 52 * e)) (f (7 + 52 * e)))) NoX := by
  have h0 := hw.1
  have h2 := hw.2.1
  have h3 := hw.2.2.1
  have hO := hw.2.2.2.2.2.1
  have h4 := hw.2.2.2.2.1.1
  have hB := hw.2.2.2.2.2.2.2.2.1
  refine SJ_of_VJ (by decide +kernel) (Nat.le_of_ble_eq_true rfl) ?_
  show VJ g mX11_turnByRepeating 4 0 0 _ _ 0 [(0, .ref (g.2 351)), (1, .int (nI (e)))] [] (sR J 352 f)
  refine J_aload_n 1 rfl dX11_turnByRepeating_0 rfl ?_
  refine J_iload_n 2 rfl dX11_turnByRepeating_1 rfl ?_
  refine J_callVie (As := [_]) 5 _ rfl kalX11_turnOf lkX11_203 dX11_turnByRepeating_2 (lt_X11) (so_X11) rfl rfl rfl (by exact Nat.le_of_ble_eq_true rfl) (by omega) (S_X11_turnOf hw hB9 h_e) (fun r2 J2 q2 => ?_)
  refine J_iret rfl dX11_turnByRepeating_5 ?_
  exact ⟨_, rfl, q2⟩

theorem S_X11_far {g : Gn} {J : DJ} {a b n : Nat} (ha : a < n) (hb : b < n) (hn : n < 1073741824) : SJ g mX11_far 1 0 0 [.int (nI (a)), .int (nI (b)), .int (nI (n))] J (Ri (dist a b n) J) NoX := by
  refine SJ_of_VJ (by decide +kernel) (Nat.le_of_ble_eq_true rfl) ?_
  show VJ g mX11_far 1 0 0 _ _ 0 [(0, .int (nI (a))), (1, .int (nI (b))), (2, .int (nI (n)))] [] J
  refine J_iload_n 1 rfl dX11_far_0 rfl ?_
  refine J_iload_n 2 rfl dX11_far_1 rfl ?_
  refine J_isubR 3 rfl dX11_far_2 ?_
  refine J_mabs 6 rfl dX11_far_3 lkX11_206 (by exact Nat.le_of_ble_eq_true rfl) (by omega) ⟨by omega, by omega⟩ ?_
  refine J_istore_n 7 rfl dX11_far_6 rfl (Nat.le_of_ble_eq_true rfl) ?_
  refine J_iload_n 8 rfl dX11_far_7 rfl ?_
  refine J_iload_n 9 rfl dX11_far_8 rfl ?_
  refine J_iload_n 10 rfl dX11_far_9 rfl ?_
  refine J_isub 11 rfl dX11_far_10 (by omega) ?_
  refine J_mmin 14 rfl dX11_far_11 lkX11_209 (by exact Nat.le_of_ble_eq_true rfl) (by omega) (by omega) (by omega) ?_
  refine J_iret rfl dX11_far_14 ?_
  exact ⟨rfl, rfl⟩

theorem S_X11_evenness {g : Gn} {J : DJ} {f : Nat → Nat} {B e : Nat} (hw : WF f B) (hB9 : B < 600000000) (h_e : e < 4294967296) : SJ g mX11_evenness 3 0 0 [.ref (g.2 351), .int (nI (e))] (sR J 352 f) (MoQ (sR J 352 f) (qE f e) 1 (ldN (ford f e) (f (7 + 52 * e)) (f (7 + 52 * e)))) NoX := by
  have h0 := hw.1
  have h2 := hw.2.1
  have h3 := hw.2.2.1
  have hO := hw.2.2.2.2.2.1
  have h4 := hw.2.2.2.2.1.1
  have hB := hw.2.2.2.2.2.2.2.2.1
  refine SJ_of_VJ (by decide +kernel) (Nat.le_of_ble_eq_true rfl) ?_
  show VJ g mX11_evenness 3 0 0 _ _ 0 [(0, .ref (g.2 351)), (1, .int (nI (e)))] [] (sR J 352 f)
  have main : e < f 0 → ∀ (n9 : Nat) (k : Nat), (f (7 + 52 * e)) - k = n9 → k ≤ (f (7 + 52 * e)) → VJ g mX11_evenness 3 0 0 (MoQ (sR J 352 f) (qE f e) 1 (ldN (ford f e) (f (7 + 52 * e)) (f (7 + 52 * e)))) NoX 30 [(0, .ref (g.2 351)), (1, .int (nI e)), (2, .int (nI (f (7 + 52 * e)))), (3, .int (nI (ldN (ford f e) (f (7 + 52 * e)) k))), (4, .int (nI k))] [] (sR (up2 J 351 8 0) 352 f) := by
    intro hef n9
    have oe := hO e hef
    have o1 := oe.1
    have o2 := oe.2.1
    have fo : ∀ p, f (7 + 52 * e + 4 + p) = ford f e p := fun p => by unfold ford; rw [show 7 + 52 * e + 4 + p = 11 + 52 * e + p by omega]
    have fl : ∀ p, p < (f (7 + 52 * e)) → ford f e p < (f (7 + 52 * e)) := fun p hp => by rw [← fo]; exact oe.2.2.2.2.2.1 p hp
    induction n9 using Nat.strongRecOn with
    | ind n9 ih =>
      intro k hi hk
      have ll := ldN_le (ford f e) (f (7 + 52 * e)) k
      have nx : k < (f (7 + 52 * e)) → (k + 1) % (f (7 + 52 * e)) < (f (7 + 52 * e)) ∧ (if k + 1 < (f (7 + 52 * e)) then k + 1 else 0) = (k + 1) % (f (7 + 52 * e)) := fun h => ⟨Nat.mod_lt _ (by omega), by
        by_cases z : k + 1 < (f (7 + 52 * e))
        · rw [if_pos z, Nat.mod_eq_of_lt z]
        · rw [if_neg z, show k + 1 = (f (7 + 52 * e)) by omega, Nat.mod_self]⟩
      refine J_iload 32 rfl dX11_evenness_30 rfl ?_
      refine J_iload_n 33 rfl dX11_evenness_32 rfl ?_
      refine J_icmp_ge 69 36 (by decide) rfl dX11_evenness_33 (by omega) (by omega) (fun c33 => ?_) (fun c33 => ?_)
      · refine J_iload_n 70 rfl dX11_evenness_69 rfl ?_
        refine J_iret rfl dX11_evenness_70 ?_
        have e9 : k = (f (7 + 52 * e)) := by omega
        subst e9
        exact ⟨_, rfl, Or.inl ⟨by unfold qE; rw [if_pos hef], rfl, MNo_1⟩⟩
      · refine J_iload_n 37 rfl dX11_evenness_36 rfl ?_
        refine J_aload_n 38 rfl dX11_evenness_37 rfl ?_
        refine J_iload_n 39 rfl dX11_evenness_38 rfl ?_
        refine J_iload 41 rfl dX11_evenness_39 rfl ?_
        refine J_callVi (As := [_, _]) 44 _ rfl kalX11_order lkX11_81 dX11_evenness_41 (lt_X11) (so_X11) rfl rfl rfl (by exact Nat.le_of_ble_eq_true rfl) (by omega) (S_X11_order (by omega) (by omega)) ?_
        refine J_cv (b := ford f e k) (fo _) ?_
        refine J_aload_n 45 rfl dX11_evenness_44 rfl ?_
        refine J_iload_n 46 rfl dX11_evenness_45 rfl ?_
        refine J_iload 48 rfl dX11_evenness_46 rfl ?_
        refine J_iconst 49 1 rfl dX11_evenness_48 ic_1 ?_
        refine J_iadd 50 rfl dX11_evenness_49 ?_
        refine J_iload_n 51 rfl dX11_evenness_50 rfl ?_
        refine J_irem 52 rfl dX11_evenness_51 (by omega) (by omega) (by omega) ?_
        refine J_callVi (As := [_, _]) 55 _ rfl kalX11_order lkX11_81 dX11_evenness_52 (lt_X11) (so_X11) rfl rfl rfl (by exact Nat.le_of_ble_eq_true rfl) (by omega) (S_X11_order (by omega) (by have := nx (by omega); omega)) ?_
        refine J_cv (b := ford f e ((k + 1) % (f (7 + 52 * e)))) (fo _) ?_
        refine J_iload_n 56 rfl dX11_evenness_55 rfl ?_
        refine J_callSi (As := [_, _, _]) 59 rfl kalX11_far lkX11_212 dX11_evenness_56 rfl rfl (by exact Nat.le_of_ble_eq_true rfl) (by omega) (S_X11_far (fl _ (by omega)) (fl _ (nx (by omega)).1) (by omega)) ?_
        refine J_mmin 62 rfl dX11_evenness_59 lkX11_209 (by exact Nat.le_of_ble_eq_true rfl) (by omega) (by omega) (by have := dist_le (ford f e k) (ford f e ((k + 1) % (f (7 + 52 * e)))) (f (7 + 52 * e)); have := fl k (by omega); have := fl _ (nx (by omega)).1; omega) ?_
        refine J_istore_n 63 rfl dX11_evenness_62 rfl (Nat.le_of_ble_eq_true rfl) ?_
        refine J_iinc 66 1 rfl dX11_evenness_63 ic_1 rfl (Nat.le_of_ble_eq_true rfl) ?_
        refine J_goto 30 (by decide) dX11_evenness_66 ?_
        have z := ih _ (by omega) (k + 1) rfl (by omega)
        simp only [ldN] at z
        rw [(nx (by omega)).2] at z
        exact z
  refine J_aload_n 1 rfl dX11_evenness_0 rfl ?_
  refine J_iconst 2 0 rfl dX11_evenness_1 ic_0 ?_
  refine p_X11_thrown 5 rfl dX11_evenness_2 lkX11_57 ?_
  rw [up2_out (by omega)]
  refine J_aload_n 6 rfl dX11_evenness_5 rfl ?_
  refine J_iload_n 7 rfl dX11_evenness_6 rfl ?_
  refine J_callVi (As := [_]) 10 _ rfl kalX11_isEngine lkX11_71 dX11_evenness_7 (lt_X11) (so_X11) rfl rfl rfl (by exact Nat.le_of_ble_eq_true rfl) (by omega) (S_X11_isEngine (by assumption) h0) ?_
  refine J_ifb_ne (hdp := _) 19 13 (by decide) rfl dX11_evenness_10 (fun c10 => ?_) (fun c10 => ?_)
  · refine J_aload_n 20 rfl dX11_evenness_19 rfl ?_
    refine J_iload_n 21 rfl dX11_evenness_20 rfl ?_
    refine J_callVi (As := [_]) 24 _ rfl kalX11_many lkX11_75 dX11_evenness_21 (lt_X11) (so_X11) rfl rfl rfl (by exact Nat.le_of_ble_eq_true rfl) (by omega) (S_X11_many (by omega)) ?_
    refine J_istore_n 25 rfl dX11_evenness_24 rfl (Nat.le_of_ble_eq_true rfl) ?_
    refine J_iload_n 26 rfl dX11_evenness_25 rfl ?_
    refine J_istore_n 27 rfl dX11_evenness_26 rfl (Nat.le_of_ble_eq_true rfl) ?_
    refine J_iconst 28 0 rfl dX11_evenness_27 ic_0 ?_
    refine J_istore 30 rfl dX11_evenness_28 (Nat.le_of_ble_eq_true rfl) ?_
    exact main (by omega) _ 0 rfl (Nat.zero_le _)
  · refine J_aload_n 14 rfl dX11_evenness_13 rfl ?_
    refine J_iconst 15 1 rfl dX11_evenness_14 ic_1 ?_
    refine J_callVi (As := [_]) 18 _ rfl kalX11_throwing lkX11_125 dX11_evenness_15 (lt_X11) (so_X11) rfl rfl rfl (by exact Nat.le_of_ble_eq_true rfl) (by omega) (S_X11_throwing) ?_
    refine J_iret rfl dX11_evenness_18 ?_
    refine ⟨_, rfl, Or.inr ⟨by unfold qE; (repeat' split) <;> omega, rfl, ?_⟩⟩
    rw [up2_out (by omega)]
    exact MNo_2 (by first | rfl | (unfold qE; (repeat' split) <;> omega))

