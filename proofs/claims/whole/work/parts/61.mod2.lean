/-! THE MODEL: its operations (laid by wip/whole/src/p61.py) -/
/-- an operation of the model: done, or refused with a place -/
def MO (J : DJ) (f : Nat → Nat) (F p R : Nat) (x : Nat → Nat) : Option Value → DJ → Prop := Re (fun r J2 => (F = 0 ∧ r = R ∧ J2 = sR J 352 x) ∨ (F ≠ 0 ∧ r = 4294967295 ∧ J2 = sR (up2 J 351 8 p) 352 f))
theorem shr_bit : ∀ v, v < 8 → ∀ x, x < 256 → nI x >>> (nI v &&& 31) = nI (x / 2 ^ v) ∧ nI (x / 2 ^ v) &&& nI 1 = nI (if x.testBit v then 1 else 0) := by decide +kernel
theorem sub_lt0 {a b : Nat} (ha : a < 1073741824) (hb : b < 1073741824) : (nI a - nI b < 0) ↔ a < b := by
  have e := pk_sub_toInt ha hb
  rw [Int32.lt_iff_toInt_lt, e]
  show (a : Int) - b < 0 ↔ _
  omega
theorem sub_eq0 {a b : Nat} (ha : a < 1073741824) (hb : b < 1073741824) : (nI a - nI b = 0) ↔ a = b := by
  have e := pk_sub_toInt ha hb
  constructor
  · intro h
    rw [h] at e
    have : (0 : Int) = (a : Int) - b := e
    omega
  · intro h
    subst h
    rw [pk_sub (Nat.le_refl _), Nat.sub_self]
    rfl
theorem S_X11_swapIt {g : Gn} {J : DJ} {f : Nat → Nat} {B : Nat} (hw : WF f B) (hB9 : B < 600000000) {e : Nat} {p : Nat} {q : Nat} (h_e : e < 4294967296) (h_p : p < 4294967296) (h_q : q < 4294967296) : SJ g mX11_swapIt 3 0 0 [.ref (g.2 351), .int (nI (e)), .int (nI (p)), .int (nI (q))] (sR J 352 f) (MO J f (fSwap f e p q) (1) (xSwap f e p q (11 + 52 * e + p)) (xSwap f e p q)) NoX := by
  have h0 := hw.1
  have h2 := hw.2.1
  have h3 := hw.2.2.1
  have hO := hw.2.2.2.2.2.1
  have h4 := hw.2.2.2.2.1.1
  have hB := hw.2.2.2.2.2.2.2.2.1
  refine SJ_of_VJ (by decide +kernel) (Nat.le_of_ble_eq_true rfl) ?_
  show VJ g mX11_swapIt 3 0 0 _ _ 0 [(0, .ref (g.2 351)), (1, .int (nI (e))), (2, .int (nI (p))), (3, .int (nI (q)))] [] (sR J 352 f)
  refine J_aload_n 1 rfl dX11_swapIt_0 rfl ?_
  refine J_iload_n 2 rfl dX11_swapIt_1 rfl ?_
  refine J_iload_n 3 rfl dX11_swapIt_2 rfl ?_
  refine J_callVi (As := [_, _]) 6 _ rfl kalX11_isPart lkX11_137 dX11_swapIt_3 (lt_X11) (so_X11) rfl rfl rfl (by exact Nat.le_of_ble_eq_true rfl) (by omega) (S_X11_isPart (by assumption) (by assumption) h0 (fun e he => (hO e he).2.1)) ?_
  refine J_ifb_eq (hdp := _) 18 9 (by decide) rfl dX11_swapIt_6 (fun c6 => ?_) (fun c6 => ?_)
  · refine J_aload_n 19 rfl dX11_swapIt_18 rfl ?_
    refine J_iconst 20 1 rfl dX11_swapIt_19 ic_1 ?_
    refine J_callVi (As := [_]) 23 _ rfl kalX11_throwing lkX11_125 dX11_swapIt_20 (lt_X11) (so_X11) rfl rfl rfl (by exact Nat.le_of_ble_eq_true rfl) (by omega) (S_X11_throwing) ?_
    refine J_iret rfl dX11_swapIt_23 ?_
    refine ⟨_, rfl, Or.inr ⟨?_, rfl, ?_⟩⟩
    · unfold fSwap; (repeat' split) <;> omega
    · rw [up2_out (by omega)]
  · refine J_aload_n 10 rfl dX11_swapIt_9 rfl ?_
    refine J_iload_n 11 rfl dX11_swapIt_10 rfl ?_
    refine J_iload_n 12 rfl dX11_swapIt_11 rfl ?_
    refine J_callVi (As := [_, _]) 15 _ rfl kalX11_isPart lkX11_137 dX11_swapIt_12 (lt_X11) (so_X11) rfl rfl rfl (by exact Nat.le_of_ble_eq_true rfl) (by omega) (S_X11_isPart (by assumption) (by assumption) h0 (fun e he => (hO e he).2.1)) ?_
    refine J_ifb_ne (hdp := _) 24 18 (by decide) rfl dX11_swapIt_15 (fun c15 => ?_) (fun c15 => ?_)
    · have o8 := (hO e (by omega)).2.1
      refine J_iload_n 25 rfl dX11_swapIt_24 rfl ?_
      refine J_callSi (As := [_]) 28 rfl kalX11_engineAt lkX11_67 dX11_swapIt_25 rfl rfl (by exact Nat.le_of_ble_eq_true rfl) (by omega) (S_X11_engineAt) ?_
      refine J_iconst 29 4 rfl dX11_swapIt_28 ic_4 ?_
      refine J_iadd 30 rfl dX11_swapIt_29 ?_
      refine J_istore 32 rfl dX11_swapIt_30 (Nat.le_of_ble_eq_true rfl) ?_
      refine J_aload_n 33 rfl dX11_swapIt_32 rfl ?_
      refine g_X11_m 36 rfl dX11_swapIt_33 lkX11_9 ?_
      refine J_iload 38 rfl dX11_swapIt_36 rfl ?_
      refine J_iload_n 39 rfl dX11_swapIt_38 rfl ?_
      refine J_iadd 40 rfl dX11_swapIt_39 ?_
      refine J_mald 41 rfl dX11_swapIt_40 (by omega) ?_
      refine J_cv (b := f (11 + 52 * e + p)) (by rw [show 7 + 52 * e + 4 + p = 11 + 52 * e + p by omega]) ?_
      refine J_istore 43 rfl dX11_swapIt_41 (Nat.le_of_ble_eq_true rfl) ?_
      refine J_aload_n 44 rfl dX11_swapIt_43 rfl ?_
      refine g_X11_m 47 rfl dX11_swapIt_44 lkX11_9 ?_
      refine J_iload 49 rfl dX11_swapIt_47 rfl ?_
      refine J_iload_n 50 rfl dX11_swapIt_49 rfl ?_
      refine J_iadd 51 rfl dX11_swapIt_50 ?_
      refine J_aload_n 52 rfl dX11_swapIt_51 rfl ?_
      refine g_X11_m 55 rfl dX11_swapIt_52 lkX11_9 ?_
      refine J_iload 57 rfl dX11_swapIt_55 rfl ?_
      refine J_iload_n 58 rfl dX11_swapIt_57 rfl ?_
      refine J_iadd 59 rfl dX11_swapIt_58 ?_
      refine J_mald 60 rfl dX11_swapIt_59 (by omega) ?_
      refine J_cv (b := f (11 + 52 * e + q)) (by rw [show 7 + 52 * e + 4 + q = 11 + 52 * e + q by omega]) ?_
      refine J_mast 61 rfl dX11_swapIt_60 (by omega) ?_
      refine J_aload_n 62 rfl dX11_swapIt_61 rfl ?_
      refine g_X11_m 65 rfl dX11_swapIt_62 lkX11_9 ?_
      refine J_iload 67 rfl dX11_swapIt_65 rfl ?_
      refine J_iload_n 68 rfl dX11_swapIt_67 rfl ?_
      refine J_iadd 69 rfl dX11_swapIt_68 ?_
      refine J_iload 71 rfl dX11_swapIt_69 rfl ?_
      refine J_mast 72 rfl dX11_swapIt_71 (by omega) ?_
      refine J_aload_n 73 rfl dX11_swapIt_72 rfl ?_
      refine g_X11_m 76 rfl dX11_swapIt_73 lkX11_9 ?_
      refine J_iload 78 rfl dX11_swapIt_76 rfl ?_
      refine J_iload_n 79 rfl dX11_swapIt_78 rfl ?_
      refine J_iadd 80 rfl dX11_swapIt_79 ?_
      refine J_mald 81 rfl dX11_swapIt_80 (by omega) ?_
      refine J_iret rfl dX11_swapIt_81 ?_
      exact ⟨_, rfl, Or.inl ⟨by unfold fSwap; (repeat' split) <;> omega, by rw [show 7 + 52 * e + 4 + p = 11 + 52 * e + p by omega, show 7 + 52 * e + 4 + q = 11 + 52 * e + q by omega]; rfl, by rw [show 7 + 52 * e + 4 + p = 11 + 52 * e + p by omega, show 7 + 52 * e + 4 + q = 11 + 52 * e + q by omega]; rfl⟩⟩
    · refine J_aload_n 19 rfl dX11_swapIt_18 rfl ?_
      refine J_iconst 20 1 rfl dX11_swapIt_19 ic_1 ?_
      refine J_callVi (As := [_]) 23 _ rfl kalX11_throwing lkX11_125 dX11_swapIt_20 (lt_X11) (so_X11) rfl rfl rfl (by exact Nat.le_of_ble_eq_true rfl) (by omega) (S_X11_throwing) ?_
      refine J_iret rfl dX11_swapIt_23 ?_
      refine ⟨_, rfl, Or.inr ⟨?_, rfl, ?_⟩⟩
      · unfold fSwap; (repeat' split) <;> omega
      · rw [up2_out (by omega)]

theorem S_X11_rateIt {g : Gn} {J : DJ} {f : Nat → Nat} {B : Nat} (hw : WF f B) (hB9 : B < 600000000) {e : Nat} {t : Nat} (h_e : e < 4294967296) (h_t : t < 4294967296) : SJ g mX11_rateIt 2 0 0 [.ref (g.2 351), .int (nI (e)), .int (nI (t))] (sR J 352 f) (MO J f (fRate f e t) ((fRate f e t)) (f (9 + 52 * e)) (xRate f e t)) NoX := by
  have h0 := hw.1
  have h2 := hw.2.1
  have h3 := hw.2.2.1
  have hO := hw.2.2.2.2.2.1
  have h4 := hw.2.2.2.2.1.1
  have hB := hw.2.2.2.2.2.2.2.2.1
  refine SJ_of_VJ (by decide +kernel) (Nat.le_of_ble_eq_true rfl) ?_
  show VJ g mX11_rateIt 2 0 0 _ _ 0 [(0, .ref (g.2 351)), (1, .int (nI (e))), (2, .int (nI (t)))] [] (sR J 352 f)
  refine J_aload_n 1 rfl dX11_rateIt_0 rfl ?_
  refine J_iload_n 2 rfl dX11_rateIt_1 rfl ?_
  refine J_callVi (As := [_]) 5 _ rfl kalX11_isEngine lkX11_71 dX11_rateIt_2 (lt_X11) (so_X11) rfl rfl rfl (by exact Nat.le_of_ble_eq_true rfl) (by omega) (S_X11_isEngine (by assumption) h0) ?_
  refine J_ifb_ne (hdp := _) 14 8 (by decide) rfl dX11_rateIt_5 (fun c5 => ?_) (fun c5 => ?_)
  · refine J_iload_n 15 rfl dX11_rateIt_14 rfl ?_
    refine J_i2l 16 _ rfl dX11_rateIt_15 rfl ?_
    refine J_lconst 17 _ rfl dX11_rateIt_16 rfl ?_
    refine J_ldc2 20 rfl dX11_rateIt_17 lkX11_143 ?_
    refine J_callSi (As := [_, _, _]) 23 rfl kalX11_in lkX11_63 dX11_rateIt_20 rfl rfl (by exact Nat.le_of_ble_eq_true rfl) (by omega) (S_in_le 0 9 (by decide) (by decide) (by assumption) (by omega) (by omega)) ?_
    refine J_ifb_ne (hdp := _) 32 26 (by decide) rfl dX11_rateIt_23 (fun c23 => ?_) (fun c23 => ?_)
    · refine J_aload_n 33 rfl dX11_rateIt_32 rfl ?_
      refine g_X11_m 36 rfl dX11_rateIt_33 lkX11_9 ?_
      refine J_iload_n 37 rfl dX11_rateIt_36 rfl ?_
      refine J_callSi (As := [_]) 40 rfl kalX11_engineAt lkX11_67 dX11_rateIt_37 rfl rfl (by exact Nat.le_of_ble_eq_true rfl) (by omega) (S_X11_engineAt) ?_
      refine J_iconst 41 2 rfl dX11_rateIt_40 ic_2 ?_
      refine J_iadd 42 rfl dX11_rateIt_41 ?_
      refine J_mald 43 rfl dX11_rateIt_42 (by omega) ?_
      refine J_istore_n 44 rfl dX11_rateIt_43 rfl (Nat.le_of_ble_eq_true rfl) ?_
      refine J_aload_n 45 rfl dX11_rateIt_44 rfl ?_
      refine g_X11_m 48 rfl dX11_rateIt_45 lkX11_9 ?_
      refine J_iload_n 49 rfl dX11_rateIt_48 rfl ?_
      refine J_callSi (As := [_]) 52 rfl kalX11_engineAt lkX11_67 dX11_rateIt_49 rfl rfl (by exact Nat.le_of_ble_eq_true rfl) (by omega) (S_X11_engineAt) ?_
      refine J_iconst 53 2 rfl dX11_rateIt_52 ic_2 ?_
      refine J_iadd 54 rfl dX11_rateIt_53 ?_
      refine J_iload_n 55 rfl dX11_rateIt_54 rfl ?_
      refine J_mast 56 rfl dX11_rateIt_55 (by omega) ?_
      refine J_iload_n 57 rfl dX11_rateIt_56 rfl ?_
      refine J_iret rfl dX11_rateIt_57 ?_
      exact ⟨_, rfl, Or.inl ⟨by unfold fRate; (repeat' split) <;> omega, by rw [show 7 + 52 * e + 2 = 9 + 52 * e by omega], by rw [show 7 + 52 * e + 2 = 9 + 52 * e by omega]; rfl⟩⟩
    · refine J_aload_n 27 rfl dX11_rateIt_26 rfl ?_
      refine J_iconst 28 2 rfl dX11_rateIt_27 ic_2 ?_
      refine J_callVi (As := [_]) 31 _ rfl kalX11_throwing lkX11_125 dX11_rateIt_28 (lt_X11) (so_X11) rfl rfl rfl (by exact Nat.le_of_ble_eq_true rfl) (by omega) (S_X11_throwing) ?_
      refine J_iret rfl dX11_rateIt_31 ?_
      refine ⟨_, rfl, Or.inr ⟨?_, rfl, ?_⟩⟩
      · unfold fRate; (repeat' split) <;> omega
      · rw [up2_out (by omega)]; congr 2; unfold fRate; (repeat' split) <;> omega
  · refine J_aload_n 9 rfl dX11_rateIt_8 rfl ?_
    refine J_iconst 10 1 rfl dX11_rateIt_9 ic_1 ?_
    refine J_callVi (As := [_]) 13 _ rfl kalX11_throwing lkX11_125 dX11_rateIt_10 (lt_X11) (so_X11) rfl rfl rfl (by exact Nat.le_of_ble_eq_true rfl) (by omega) (S_X11_throwing) ?_
    refine J_iret rfl dX11_rateIt_13 ?_
    refine ⟨_, rfl, Or.inr ⟨?_, rfl, ?_⟩⟩
    · unfold fRate; (repeat' split) <;> omega
    · rw [up2_out (by omega)]; congr 2; unfold fRate; (repeat' split) <;> omega

theorem S_X11_runIt {g : Gn} {J : DJ} {f : Nat → Nat} {B : Nat} (hw : WF f B) (hB9 : B < 600000000) {e : Nat} {t : Nat} (h_e : e < 4294967296) (h_t : t < 4294967296) : SJ g mX11_runIt 3 0 0 [.ref (g.2 351), .int (nI (e)), .int (nI (t))] (sR J 352 f) (MO J f (fRun f e t) ((fRun f e t)) (eKn f (7 + 52 * e) t) (xRun f e t)) NoX := by
  have h0 := hw.1
  have h2 := hw.2.1
  have h3 := hw.2.2.1
  have hO := hw.2.2.2.2.2.1
  have h4 := hw.2.2.2.2.1.1
  have hB := hw.2.2.2.2.2.2.2.2.1
  refine SJ_of_VJ (by decide +kernel) (Nat.le_of_ble_eq_true rfl) ?_
  show VJ g mX11_runIt 3 0 0 _ _ 0 [(0, .ref (g.2 351)), (1, .int (nI (e))), (2, .int (nI (t)))] [] (sR J 352 f)
  refine J_aload_n 1 rfl dX11_runIt_0 rfl ?_
  refine J_iload_n 2 rfl dX11_runIt_1 rfl ?_
  refine J_callVi (As := [_]) 5 _ rfl kalX11_isEngine lkX11_71 dX11_runIt_2 (lt_X11) (so_X11) rfl rfl rfl (by exact Nat.le_of_ble_eq_true rfl) (by omega) (S_X11_isEngine (by assumption) h0) ?_
  refine J_ifb_ne (hdp := _) 14 8 (by decide) rfl dX11_runIt_5 (fun c5 => ?_) (fun c5 => ?_)
  · refine J_iload_n 15 rfl dX11_runIt_14 rfl ?_
    refine J_i2l 16 _ rfl dX11_runIt_15 rfl ?_
    refine J_lconst 17 _ rfl dX11_runIt_16 rfl ?_
    refine J_ldc2 20 rfl dX11_runIt_17 lkX11_148 ?_
    refine J_callSi (As := [_, _, _]) 23 rfl kalX11_in lkX11_63 dX11_runIt_20 rfl rfl (by exact Nat.le_of_ble_eq_true rfl) (by omega) (S_in_le 1 99 (by decide) (by decide) (by assumption) (by omega) (by omega)) ?_
    refine J_ifb_eq (hdp := _) 35 26 (by decide) rfl dX11_runIt_23 (fun c23 => ?_) (fun c23 => ?_)
    · refine J_aload_n 36 rfl dX11_runIt_35 rfl ?_
      refine J_iconst 37 2 rfl dX11_runIt_36 ic_2 ?_
      refine J_callVi (As := [_]) 40 _ rfl kalX11_throwing lkX11_125 dX11_runIt_37 (lt_X11) (so_X11) rfl rfl rfl (by exact Nat.le_of_ble_eq_true rfl) (by omega) (S_X11_throwing) ?_
      refine J_iret rfl dX11_runIt_40 ?_
      first
        | (exact ⟨_, rfl, Or.inl ⟨by unfold fRun; (repeat' split) <;> omega, rfl, rfl⟩⟩)
        | (refine ⟨_, rfl, Or.inr ⟨?_, rfl, ?_⟩⟩
           · unfold fRun; (repeat' split) <;> omega
           · rw [up2_out (by omega)]; congr 2; unfold fRun; (repeat' split) <;> omega)
    · refine J_aload_n 27 rfl dX11_runIt_26 rfl ?_
      refine J_iload_n 28 rfl dX11_runIt_27 rfl ?_
      refine J_iload_n 29 rfl dX11_runIt_28 rfl ?_
      refine J_callVip (As := [_, _]) 32 _ rfl kalX11_strokes lkX11_89 dX11_runIt_29 (lt_X11) (so_X11) rfl rfl rfl (by exact Nat.le_of_ble_eq_true rfl) (by omega) (S_X11_strokes hw (by omega) (by omega)) (fun J29 q29 => ?_)
      subst q29
      refine J_goto 40 (by decide) dX11_runIt_32 ?_
      refine J_iret rfl dX11_runIt_40 ?_
      first
        | (exact ⟨_, rfl, Or.inl ⟨by unfold fRun; (repeat' split) <;> omega, rfl, rfl⟩⟩)
        | (refine ⟨_, rfl, Or.inr ⟨?_, rfl, ?_⟩⟩
           · unfold fRun; (repeat' split) <;> omega
           · rw [up2_out (by omega)]; congr 2; unfold fRun; (repeat' split) <;> omega)
  · refine J_aload_n 9 rfl dX11_runIt_8 rfl ?_
    refine J_iconst 10 1 rfl dX11_runIt_9 ic_1 ?_
    refine J_callVi (As := [_]) 13 _ rfl kalX11_throwing lkX11_125 dX11_runIt_10 (lt_X11) (so_X11) rfl rfl rfl (by exact Nat.le_of_ble_eq_true rfl) (by omega) (S_X11_throwing) ?_
    refine J_iret rfl dX11_runIt_13 ?_
    refine ⟨_, rfl, Or.inr ⟨?_, rfl, ?_⟩⟩
    · unfold fRun; (repeat' split) <;> omega
    · rw [up2_out (by omega)]; congr 2; unfold fRun; (repeat' split) <;> omega

theorem S_X11_oilIt {g : Gn} {J : DJ} {f : Nat → Nat} {B : Nat} (hw : WF f B) (hB9 : B < 600000000) {e : Nat} {c : Nat} {u : Nat} (h_e : e < 4294967296) (h_c : c < 4294967296) (h_u : u < 4294967296) : SJ g mX11_oilIt 3 0 0 [.ref (g.2 351), .int (nI (e)), .int (nI (c)), .int (nI (u))] (sR J 352 f) (MO J f (fOil f e c u) ((fOil f e c u)) (f (19 + 52 * e + c) + u) (xOil f e c u)) NoX := by
  have h0 := hw.1
  have h2 := hw.2.1
  have h3 := hw.2.2.1
  have hO := hw.2.2.2.2.2.1
  have h4 := hw.2.2.2.2.1.1
  have hB := hw.2.2.2.2.2.2.2.2.1
  refine SJ_of_VJ (by decide +kernel) (Nat.le_of_ble_eq_true rfl) ?_
  show VJ g mX11_oilIt 3 0 0 _ _ 0 [(0, .ref (g.2 351)), (1, .int (nI (e))), (2, .int (nI (c))), (3, .int (nI (u)))] [] (sR J 352 f)
  refine J_aload_n 1 rfl dX11_oilIt_0 rfl ?_
  refine J_iload_n 2 rfl dX11_oilIt_1 rfl ?_
  refine J_iload_n 3 rfl dX11_oilIt_2 rfl ?_
  refine J_callVi (As := [_, _]) 6 _ rfl kalX11_isPart lkX11_137 dX11_oilIt_3 (lt_X11) (so_X11) rfl rfl rfl (by exact Nat.le_of_ble_eq_true rfl) (by omega) (S_X11_isPart (by assumption) (by assumption) h0 (fun e he => (hO e he).2.1)) ?_
  refine J_ifb_ne (hdp := _) 15 9 (by decide) rfl dX11_oilIt_6 (fun c6 => ?_) (fun c6 => ?_)
  · have o8 := (hO e (by omega)).2.1
    refine J_iload_n 16 rfl dX11_oilIt_15 rfl ?_
    refine J_i2l 17 _ rfl dX11_oilIt_16 rfl ?_
    refine J_lconst 18 _ rfl dX11_oilIt_17 rfl ?_
    refine J_ldc2 21 rfl dX11_oilIt_18 lkX11_148 ?_
    refine J_callSi (As := [_, _, _]) 24 rfl kalX11_in lkX11_63 dX11_oilIt_21 rfl rfl (by exact Nat.le_of_ble_eq_true rfl) (by omega) (S_in_le 1 99 (by decide) (by decide) (by assumption) (by omega) (by omega)) ?_
    refine J_ifb_ne (hdp := _) 33 27 (by decide) rfl dX11_oilIt_24 (fun c24 => ?_) (fun c24 => ?_)
    · refine J_iload_n 34 rfl dX11_oilIt_33 rfl ?_
      refine J_aload_n 35 rfl dX11_oilIt_34 rfl ?_
      refine g_X11_m 38 rfl dX11_oilIt_35 lkX11_9 ?_
      refine J_iconst 39 2 rfl dX11_oilIt_38 ic_2 ?_
      refine J_mald 40 rfl dX11_oilIt_39 (by omega) ?_
      refine J_icmp_le 49 43 (by decide) rfl dX11_oilIt_40 (by omega) (by omega) (fun c40 => ?_) (fun c40 => ?_)
      · refine J_aload_n 50 rfl dX11_oilIt_49 rfl ?_
        refine g_X11_m 53 rfl dX11_oilIt_50 lkX11_9 ?_
        refine J_iconst 54 2 rfl dX11_oilIt_53 ic_2 ?_
        refine J_dup2 55 rfl dX11_oilIt_54 rfl rfl ?_
        refine J_mald 56 rfl dX11_oilIt_55 (by omega) ?_
        refine J_iload_n 57 rfl dX11_oilIt_56 rfl ?_
        refine J_isub 58 rfl dX11_oilIt_57 (by omega) ?_
        refine J_mast 59 rfl dX11_oilIt_58 (by omega) ?_
        refine J_aload_n 60 rfl dX11_oilIt_59 rfl ?_
        refine g_X11_m 63 rfl dX11_oilIt_60 lkX11_9 ?_
        refine J_iload_n 64 rfl dX11_oilIt_63 rfl ?_
        refine J_callSi (As := [_]) 67 rfl kalX11_engineAt lkX11_67 dX11_oilIt_64 rfl rfl (by exact Nat.le_of_ble_eq_true rfl) (by omega) (S_X11_engineAt) ?_
        refine J_bipush 69 12 rfl dX11_oilIt_67 bc_12 ?_
        refine J_iadd 70 rfl dX11_oilIt_69 ?_
        refine J_iload_n 71 rfl dX11_oilIt_70 rfl ?_
        refine J_iadd 72 rfl dX11_oilIt_71 ?_
        refine J_dup2 73 rfl dX11_oilIt_72 rfl rfl ?_
        refine J_mald 74 rfl dX11_oilIt_73 (by omega) ?_
        refine J_iload_n 75 rfl dX11_oilIt_74 rfl ?_
        refine J_iadd 76 rfl dX11_oilIt_75 ?_
        refine J_mast 77 rfl dX11_oilIt_76 (by omega) ?_
        refine J_aload_n 78 rfl dX11_oilIt_77 rfl ?_
        refine g_X11_m 81 rfl dX11_oilIt_78 lkX11_9 ?_
        refine J_iload_n 82 rfl dX11_oilIt_81 rfl ?_
        refine J_callSi (As := [_]) 85 rfl kalX11_engineAt lkX11_67 dX11_oilIt_82 rfl rfl (by exact Nat.le_of_ble_eq_true rfl) (by omega) (S_X11_engineAt) ?_
        refine J_bipush 87 12 rfl dX11_oilIt_85 bc_12 ?_
        refine J_iadd 88 rfl dX11_oilIt_87 ?_
        refine J_iload_n 89 rfl dX11_oilIt_88 rfl ?_
        refine J_iadd 90 rfl dX11_oilIt_89 ?_
        refine J_mald 91 rfl dX11_oilIt_90 (by omega) ?_
        refine J_iret rfl dX11_oilIt_91 ?_
        exact ⟨_, rfl, Or.inl ⟨by unfold fOil; (repeat' split) <;> omega, by rw [up1_self, up1_ne (by omega), show 7 + 52 * e + 12 + c = 19 + 52 * e + c by omega], by rw [up1_ne (i := 2) (j := 7 + 52 * e + 12 + c) (by omega), show 7 + 52 * e + 12 + c = 19 + 52 * e + c by omega]; rfl⟩⟩
      · refine J_aload_n 44 rfl dX11_oilIt_43 rfl ?_
        refine J_iconst 45 3 rfl dX11_oilIt_44 ic_3 ?_
        refine J_callVi (As := [_]) 48 _ rfl kalX11_throwing lkX11_125 dX11_oilIt_45 (lt_X11) (so_X11) rfl rfl rfl (by exact Nat.le_of_ble_eq_true rfl) (by omega) (S_X11_throwing) ?_
        refine J_iret rfl dX11_oilIt_48 ?_
        refine ⟨_, rfl, Or.inr ⟨?_, rfl, ?_⟩⟩
        · unfold fOil; (repeat' split) <;> omega
        · rw [up2_out (by omega)]; congr 2; unfold fOil; (repeat' split) <;> omega
    · refine J_aload_n 28 rfl dX11_oilIt_27 rfl ?_
      refine J_iconst 29 2 rfl dX11_oilIt_28 ic_2 ?_
      refine J_callVi (As := [_]) 32 _ rfl kalX11_throwing lkX11_125 dX11_oilIt_29 (lt_X11) (so_X11) rfl rfl rfl (by exact Nat.le_of_ble_eq_true rfl) (by omega) (S_X11_throwing) ?_
      refine J_iret rfl dX11_oilIt_32 ?_
      refine ⟨_, rfl, Or.inr ⟨?_, rfl, ?_⟩⟩
      · unfold fOil; (repeat' split) <;> omega
      · rw [up2_out (by omega)]; congr 2; unfold fOil; (repeat' split) <;> omega
  · refine J_aload_n 10 rfl dX11_oilIt_9 rfl ?_
    refine J_iconst 11 1 rfl dX11_oilIt_10 ic_1 ?_
    refine J_callVi (As := [_]) 14 _ rfl kalX11_throwing lkX11_125 dX11_oilIt_11 (lt_X11) (so_X11) rfl rfl rfl (by exact Nat.le_of_ble_eq_true rfl) (by omega) (S_X11_throwing) ?_
    refine J_iret rfl dX11_oilIt_14 ?_
    refine ⟨_, rfl, Or.inr ⟨?_, rfl, ?_⟩⟩
    · unfold fOil; (repeat' split) <;> omega
    · rw [up2_out (by omega)]; congr 2; unfold fOil; (repeat' split) <;> omega

theorem S_X11_buyIt {g : Gn} {J : DJ} {f : Nat → Nat} {B : Nat} (hw : WF f B) (hB9 : B < 600000000) {u : Nat} (h_u : u < 4294967296) : SJ g mX11_buyIt 1 0 0 [.ref (g.2 351), .int (nI (u))] (sR J 352 f) (MO J f (fBuy f u) ((fBuy f u - 1)) (f 2 + u) (xBuy f u)) NoX := by
  have h0 := hw.1
  have h2 := hw.2.1
  have h3 := hw.2.2.1
  have hO := hw.2.2.2.2.2.1
  have h4 := hw.2.2.2.2.1.1
  have hB := hw.2.2.2.2.2.2.2.2.1
  refine SJ_of_VJ (by decide +kernel) (Nat.le_of_ble_eq_true rfl) ?_
  show VJ g mX11_buyIt 1 0 0 _ _ 0 [(0, .ref (g.2 351)), (1, .int (nI (u)))] [] (sR J 352 f)
  refine J_iload_n 1 rfl dX11_buyIt_0 rfl ?_
  refine J_i2l 2 _ rfl dX11_buyIt_1 rfl ?_
  refine J_lconst 3 _ rfl dX11_buyIt_2 rfl ?_
  refine J_ldc2 6 rfl dX11_buyIt_3 lkX11_148 ?_
  refine J_callSi (As := [_, _, _]) 9 rfl kalX11_in lkX11_63 dX11_buyIt_6 rfl rfl (by exact Nat.le_of_ble_eq_true rfl) (by omega) (S_in_le 1 99 (by decide) (by decide) (by assumption) (by omega) (by omega)) ?_
  refine J_ifb_ne (hdp := _) 18 12 (by decide) rfl dX11_buyIt_9 (fun c9 => ?_) (fun c9 => ?_)
  · refine J_aload_n 19 rfl dX11_buyIt_18 rfl ?_
    refine g_X11_m 22 rfl dX11_buyIt_19 lkX11_9 ?_
    refine J_iconst 23 2 rfl dX11_buyIt_22 ic_2 ?_
    refine J_mald 24 rfl dX11_buyIt_23 (by omega) ?_
    refine J_iload_n 25 rfl dX11_buyIt_24 rfl ?_
    refine J_iadd 26 rfl dX11_buyIt_25 ?_
    refine J_sipush 29 500 rfl dX11_buyIt_26 sc_500 ?_
    refine J_icmp_le 38 32 (by decide) rfl dX11_buyIt_29 (by omega) (by omega) (fun c29 => ?_) (fun c29 => ?_)
    · refine J_aload_n 39 rfl dX11_buyIt_38 rfl ?_
      refine g_X11_m 42 rfl dX11_buyIt_39 lkX11_9 ?_
      refine J_iconst 43 2 rfl dX11_buyIt_42 ic_2 ?_
      refine J_dup2 44 rfl dX11_buyIt_43 rfl rfl ?_
      refine J_mald 45 rfl dX11_buyIt_44 (by omega) ?_
      refine J_iload_n 46 rfl dX11_buyIt_45 rfl ?_
      refine J_iadd 47 rfl dX11_buyIt_46 ?_
      refine J_mast 48 rfl dX11_buyIt_47 (by omega) ?_
      refine J_aload_n 49 rfl dX11_buyIt_48 rfl ?_
      refine g_X11_m 52 rfl dX11_buyIt_49 lkX11_9 ?_
      refine J_iconst 53 2 rfl dX11_buyIt_52 ic_2 ?_
      refine J_mald 54 rfl dX11_buyIt_53 (by omega) ?_
      refine J_iret rfl dX11_buyIt_54 ?_
      exact ⟨_, rfl, Or.inl ⟨by unfold fBuy; (repeat' split) <;> omega, by rw [up1_self], rfl⟩⟩
    · refine J_aload_n 33 rfl dX11_buyIt_32 rfl ?_
      refine J_iconst 34 2 rfl dX11_buyIt_33 ic_2 ?_
      refine J_callVi (As := [_]) 37 _ rfl kalX11_throwing lkX11_125 dX11_buyIt_34 (lt_X11) (so_X11) rfl rfl rfl (by exact Nat.le_of_ble_eq_true rfl) (by omega) (S_X11_throwing) ?_
      refine J_iret rfl dX11_buyIt_37 ?_
      refine ⟨_, rfl, Or.inr ⟨?_, rfl, ?_⟩⟩
      · unfold fBuy; (repeat' split) <;> omega
      · rw [up2_out (by omega)]; congr 2; unfold fBuy; (repeat' split) <;> omega
  · refine J_aload_n 13 rfl dX11_buyIt_12 rfl ?_
    refine J_iconst 14 1 rfl dX11_buyIt_13 ic_1 ?_
    refine J_callVi (As := [_]) 17 _ rfl kalX11_throwing lkX11_125 dX11_buyIt_14 (lt_X11) (so_X11) rfl rfl rfl (by exact Nat.le_of_ble_eq_true rfl) (by omega) (S_X11_throwing) ?_
    refine J_iret rfl dX11_buyIt_17 ?_
    refine ⟨_, rfl, Or.inr ⟨?_, rfl, ?_⟩⟩
    · unfold fBuy; (repeat' split) <;> omega
    · rw [up2_out (by omega)]; congr 2; unfold fBuy; (repeat' split) <;> omega

theorem S_X11_monkIt {g : Gn} {J : DJ} {f : Nat → Nat} {B : Nat} (hw : WF f B) (hB9 : B < 600000000) : SJ g mX11_monkIt 1 0 0 [.ref (g.2 351)] (sR J 352 f) (MO J f (fMonk f) ((fMonk f - 2)) (f 3) (xMonk f)) NoX := by
  have h0 := hw.1
  have h2 := hw.2.1
  have h3 := hw.2.2.1
  have hO := hw.2.2.2.2.2.1
  have h4 := hw.2.2.2.2.1.1
  have hB := hw.2.2.2.2.2.2.2.2.1
  refine SJ_of_VJ (by decide +kernel) (Nat.le_of_ble_eq_true rfl) ?_
  show VJ g mX11_monkIt 1 0 0 _ _ 0 [(0, .ref (g.2 351))] [] (sR J 352 f)
  refine J_aload_n 1 rfl dX11_monkIt_0 rfl ?_
  refine g_X11_m 4 rfl dX11_monkIt_1 lkX11_9 ?_
  refine J_iconst 5 3 rfl dX11_monkIt_4 ic_3 ?_
  refine J_mald 6 rfl dX11_monkIt_5 (by omega) ?_
  refine J_bipush 8 6 rfl dX11_monkIt_6 bc_6 ?_
  refine J_icmp_ne 17 11 (by decide) rfl dX11_monkIt_8 (by omega) (by omega) (fun c8 => ?_) (fun c8 => ?_)
  · refine J_aload_n 18 rfl dX11_monkIt_17 rfl ?_
    refine g_X11_m 21 rfl dX11_monkIt_18 lkX11_9 ?_
    refine J_iconst 22 3 rfl dX11_monkIt_21 ic_3 ?_
    refine J_dup2 23 rfl dX11_monkIt_22 rfl rfl ?_
    refine J_mald 24 rfl dX11_monkIt_23 (by omega) ?_
    refine J_iconst 25 1 rfl dX11_monkIt_24 ic_1 ?_
    refine J_iadd 26 rfl dX11_monkIt_25 ?_
    refine J_mast 27 rfl dX11_monkIt_26 (by omega) ?_
    refine J_aload_n 28 rfl dX11_monkIt_27 rfl ?_
    refine g_X11_m 31 rfl dX11_monkIt_28 lkX11_9 ?_
    refine J_iconst 32 3 rfl dX11_monkIt_31 ic_3 ?_
    refine J_mald 33 rfl dX11_monkIt_32 (by omega) ?_
    refine J_iconst 34 1 rfl dX11_monkIt_33 ic_1 ?_
    refine J_isub 35 rfl dX11_monkIt_34 (by rw [up1_self]; omega) ?_
    refine J_iret rfl dX11_monkIt_35 ?_
    exact ⟨_, rfl, Or.inl ⟨by unfold fMonk; (repeat' split) <;> omega, by rw [up1_self]; omega, rfl⟩⟩
  · refine J_aload_n 12 rfl dX11_monkIt_11 rfl ?_
    refine J_iconst 13 1 rfl dX11_monkIt_12 ic_1 ?_
    refine J_callVi (As := [_]) 16 _ rfl kalX11_throwing lkX11_125 dX11_monkIt_13 (lt_X11) (so_X11) rfl rfl rfl (by exact Nat.le_of_ble_eq_true rfl) (by omega) (S_X11_throwing) ?_
    refine J_iret rfl dX11_monkIt_16 ?_
    refine ⟨_, rfl, Or.inr ⟨?_, rfl, ?_⟩⟩
    · unfold fMonk; (repeat' split) <;> omega
    · rw [up2_out (by omega)]; congr 2; unfold fMonk; (repeat' split) <;> omega

theorem S_X11_ableIt {g : Gn} {J : DJ} {f : Nat → Nat} {B : Nat} (hw : WF f B) (hB9 : B < 600000000) {m : Nat} {v : Nat} (h_m : m < 4294967296) (h_v : v < 4294967296) {a : Nat} (h_a : a < 2) : SJ g mX11_ableIt 1 0 0 [.ref (g.2 351), .int (nI (m)), .int (nI (v)), .int (nI (a))] (sR J 352 f) (MO J f (fAble f m v) ((fAble f m v)) (if (f (215 + m)).testBit v then 1 else 0) (xAble f m v a)) NoX := by
  have h0 := hw.1
  have h2 := hw.2.1
  have h3 := hw.2.2.1
  have hO := hw.2.2.2.2.2.1
  have h4 := hw.2.2.2.2.1.1
  have hB := hw.2.2.2.2.2.2.2.2.1
  refine SJ_of_VJ (by decide +kernel) (Nat.le_of_ble_eq_true rfl) ?_
  show VJ g mX11_ableIt 1 0 0 _ _ 0 [(0, .ref (g.2 351)), (1, .int (nI (m))), (2, .int (nI (v))), (3, .int (nI (a)))] [] (sR J 352 f)
  refine J_iload_n 1 rfl dX11_ableIt_0 rfl ?_
  refine J_i2l 2 _ rfl dX11_ableIt_1 rfl ?_
  refine J_lconst 3 _ rfl dX11_ableIt_2 rfl ?_
  refine J_aload_n 4 rfl dX11_ableIt_3 rfl ?_
  refine g_X11_m 7 rfl dX11_ableIt_4 lkX11_9 ?_
  refine J_iconst 8 3 rfl dX11_ableIt_7 ic_3 ?_
  refine J_mald 9 rfl dX11_ableIt_8 (by omega) ?_
  refine J_iconst 10 1 rfl dX11_ableIt_9 ic_1 ?_
  refine J_isubR 11 rfl dX11_ableIt_10 ?_
  refine J_i2l 12 _ rfl dX11_ableIt_11 rfl ?_
  refine J_callSi (As := [_, _, _]) 15 rfl kalX11_in lkX11_63 dX11_ableIt_12 rfl rfl (by exact Nat.le_of_ble_eq_true rfl) (by omega) (S_in_lt (by decide) (by assumption) (by omega)) ?_
  refine J_ifb_eq (hdp := _) 30 18 (by decide) rfl dX11_ableIt_15 (fun c15 => ?_) (fun c15 => ?_)
  · refine J_aload_n 31 rfl dX11_ableIt_30 rfl ?_
    refine J_iconst 32 1 rfl dX11_ableIt_31 ic_1 ?_
    refine J_callVi (As := [_]) 35 _ rfl kalX11_throwing lkX11_125 dX11_ableIt_32 (lt_X11) (so_X11) rfl rfl rfl (by exact Nat.le_of_ble_eq_true rfl) (by omega) (S_X11_throwing) ?_
    refine J_iret rfl dX11_ableIt_35 ?_
    refine ⟨_, rfl, Or.inr ⟨?_, rfl, ?_⟩⟩
    · unfold fAble; (repeat' split) <;> omega
    · rw [up2_out (by omega)]; congr 2; unfold fAble; (repeat' split) <;> omega
  · refine J_iload_n 19 rfl dX11_ableIt_18 rfl ?_
    refine J_i2l 20 _ rfl dX11_ableIt_19 rfl ?_
    refine J_lconst 21 _ rfl dX11_ableIt_20 rfl ?_
    refine J_ldc2 24 rfl dX11_ableIt_21 lkX11_171 ?_
    refine J_callSi (As := [_, _, _]) 27 rfl kalX11_in lkX11_63 dX11_ableIt_24 rfl rfl (by exact Nat.le_of_ble_eq_true rfl) (by omega) (S_in_le 0 7 (by decide) (by decide) (by assumption) (by omega) (by omega)) ?_
    refine J_ifb_ne (hdp := _) 36 30 (by decide) rfl dX11_ableIt_27 (fun c27 => ?_) (fun c27 => ?_)
    · have hm := hw.2.2.2.2.2.2.2.1 m (by omega)
      have sb := shr_bit v (by omega) _ hm.1
      refine J_aload_n 37 rfl dX11_ableIt_36 rfl ?_
      refine g_X11_m 40 rfl dX11_ableIt_37 lkX11_9 ?_
      refine J_sipush 43 215 rfl dX11_ableIt_40 sc_215 ?_
      refine J_iload_n 44 rfl dX11_ableIt_43 rfl ?_
      refine J_iadd 45 rfl dX11_ableIt_44 ?_
      refine J_mald 46 rfl dX11_ableIt_45 (by omega) ?_
      refine J_iload_n 47 rfl dX11_ableIt_46 rfl ?_
      refine J_ishr 48 (f (215 + m) / 2 ^ v) rfl dX11_ableIt_47 sb.1 ?_
      refine J_iconst 49 1 rfl dX11_ableIt_48 ic_1 ?_
      refine J_iand 50 (if (f (215 + m)).testBit v then 1 else 0) rfl dX11_ableIt_49 sb.2 ?_
      refine J_istore 52 rfl dX11_ableIt_50 (Nat.le_of_ble_eq_true rfl) ?_
      refine J_aload_n 53 rfl dX11_ableIt_52 rfl ?_
      refine g_X11_m 56 rfl dX11_ableIt_53 lkX11_9 ?_
      refine J_sipush 59 215 rfl dX11_ableIt_56 sc_215 ?_
      refine J_iload_n 60 rfl dX11_ableIt_59 rfl ?_
      refine J_iadd 61 rfl dX11_ableIt_60 ?_
      refine J_iload_n 62 rfl dX11_ableIt_61 rfl ?_
      refine J_if_eq 82 65 (by decide) rfl dX11_ableIt_62 (by omega) (fun c62 => ?_) (fun c62 => ?_)
      · refine J_aload_n 83 rfl dX11_ableIt_82 rfl ?_
        refine g_X11_m 86 rfl dX11_ableIt_83 lkX11_9 ?_
        refine J_sipush 89 215 rfl dX11_ableIt_86 sc_215 ?_
        refine J_iload_n 90 rfl dX11_ableIt_89 rfl ?_
        refine J_iadd 91 rfl dX11_ableIt_90 ?_
        refine J_mald 92 rfl dX11_ableIt_91 (by omega) ?_
        refine J_iconst 93 1 rfl dX11_ableIt_92 ic_1 ?_
        refine J_iload_n 94 rfl dX11_ableIt_93 rfl ?_
        refine J_ishl 95 (2 ^ v) rfl dX11_ableIt_94 (sh1 v (by omega)) ?_
        refine J_iconst 96 4294967295 rfl dX11_ableIt_95 ic_m1 ?_
        refine J_ixorR 97 rfl dX11_ableIt_96 ?_
        refine J_iand 98 (if (f (215 + m)).testBit v then f (215 + m) - 2 ^ v else f (215 + m)) rfl dX11_ableIt_97 (clr_bit v (by omega) _ hm.1) ?_
        refine J_mast 99 rfl dX11_ableIt_98 (by omega) ?_
        refine J_iload 101 rfl dX11_ableIt_99 rfl ?_
        refine J_iret rfl dX11_ableIt_101 ?_
        exact ⟨_, rfl, Or.inl ⟨by unfold fAble; (repeat' split) <;> omega, rfl, by unfold xAble; first | rw [if_pos (show a = 0 by omega)] | rw [if_neg (show ¬ a = 0 by omega)]⟩⟩
      · refine J_aload_n 66 rfl dX11_ableIt_65 rfl ?_
        refine g_X11_m 69 rfl dX11_ableIt_66 lkX11_9 ?_
        refine J_sipush 72 215 rfl dX11_ableIt_69 sc_215 ?_
        refine J_iload_n 73 rfl dX11_ableIt_72 rfl ?_
        refine J_iadd 74 rfl dX11_ableIt_73 ?_
        refine J_mald 75 rfl dX11_ableIt_74 (by omega) ?_
        refine J_iconst 76 1 rfl dX11_ableIt_75 ic_1 ?_
        refine J_iload_n 77 rfl dX11_ableIt_76 rfl ?_
        refine J_ishl 78 (2 ^ v) rfl dX11_ableIt_77 (sh1 v (by omega)) ?_
        refine J_ior 79 (f (215 + m) ||| 2 ^ v) rfl dX11_ableIt_78 (or_bit v (by omega) _ hm.1).1 ?_
        refine J_goto 98 (by decide) dX11_ableIt_79 ?_
        refine J_mast 99 rfl dX11_ableIt_98 (by omega) ?_
        refine J_iload 101 rfl dX11_ableIt_99 rfl ?_
        refine J_iret rfl dX11_ableIt_101 ?_
        exact ⟨_, rfl, Or.inl ⟨by unfold fAble; (repeat' split) <;> omega, rfl, by unfold xAble; first | rw [if_pos (show a = 0 by omega)] | rw [if_neg (show ¬ a = 0 by omega)]⟩⟩
    · refine J_aload_n 31 rfl dX11_ableIt_30 rfl ?_
      refine J_iconst 32 1 rfl dX11_ableIt_31 ic_1 ?_
      refine J_callVi (As := [_]) 35 _ rfl kalX11_throwing lkX11_125 dX11_ableIt_32 (lt_X11) (so_X11) rfl rfl rfl (by exact Nat.le_of_ble_eq_true rfl) (by omega) (S_X11_throwing) ?_
      refine J_iret rfl dX11_ableIt_35 ?_
      refine ⟨_, rfl, Or.inr ⟨?_, rfl, ?_⟩⟩
      · unfold fAble; (repeat' split) <;> omega
      · rw [up2_out (by omega)]; congr 2; unfold fAble; (repeat' split) <;> omega

theorem S_X11_mendIt {g : Gn} {J : DJ} {f : Nat → Nat} {B : Nat} (hw : WF f B) (hB9 : B < 600000000) {e : Nat} {t : Nat} {p : Nat} (h_e : e < 4294967296) (h_t : t < 4294967296) (h_p : p < 4294967296) : SJ g mX11_mendIt 2 0 0 [.ref (g.2 351), .int (nI (e)), .int (nI (t)), .int (nI (p))] (sR J 352 f) (MO J f (fMend f e t p) ((fMend f e t p)) (f 4) (mAsk f e t p)) NoX := by
  have h0 := hw.1
  have h2 := hw.2.1
  have h3 := hw.2.2.1
  have hO := hw.2.2.2.2.2.1
  have h4 := hw.2.2.2.2.1.1
  have hB := hw.2.2.2.2.2.2.2.2.1
  refine SJ_of_VJ (by decide +kernel) (Nat.le_of_ble_eq_true rfl) ?_
  show VJ g mX11_mendIt 2 0 0 _ _ 0 [(0, .ref (g.2 351)), (1, .int (nI (e))), (2, .int (nI (t))), (3, .int (nI (p)))] [] (sR J 352 f)
  refine J_aload_n 1 rfl dX11_mendIt_0 rfl ?_
  refine J_iload_n 2 rfl dX11_mendIt_1 rfl ?_
  refine J_callVi (As := [_]) 5 _ rfl kalX11_isEngine lkX11_71 dX11_mendIt_2 (lt_X11) (so_X11) rfl rfl rfl (by exact Nat.le_of_ble_eq_true rfl) (by omega) (S_X11_isEngine (by assumption) h0) ?_
  refine J_ifb_ne (hdp := _) 14 8 (by decide) rfl dX11_mendIt_5 (fun c5 => ?_) (fun c5 => ?_)
  · refine J_iload_n 15 rfl dX11_mendIt_14 rfl ?_
    refine J_i2l 16 _ rfl dX11_mendIt_15 rfl ?_
    refine J_lconst 17 _ rfl dX11_mendIt_16 rfl ?_
    refine J_ldc2 20 rfl dX11_mendIt_17 lkX11_143 ?_
    refine J_callSi (As := [_, _, _]) 23 rfl kalX11_in lkX11_63 dX11_mendIt_20 rfl rfl (by exact Nat.le_of_ble_eq_true rfl) (by omega) (S_in_le 1 9 (by decide) (by decide) (by assumption) (by omega) (by omega)) ?_
    refine J_ifb_eq (hdp := _) 38 26 (by decide) rfl dX11_mendIt_23 (fun c23 => ?_) (fun c23 => ?_)
    · refine J_aload_n 39 rfl dX11_mendIt_38 rfl ?_
      refine J_iconst 40 2 rfl dX11_mendIt_39 ic_2 ?_
      refine J_callVi (As := [_]) 43 _ rfl kalX11_throwing lkX11_125 dX11_mendIt_40 (lt_X11) (so_X11) rfl rfl rfl (by exact Nat.le_of_ble_eq_true rfl) (by omega) (S_X11_throwing) ?_
      refine J_iret rfl dX11_mendIt_43 ?_
      refine ⟨_, rfl, Or.inr ⟨?_, rfl, ?_⟩⟩
      · unfold fMend; (repeat' split) <;> omega
      · rw [up2_out (by omega)]; congr 2; unfold fMend; (repeat' split) <;> omega
    · refine J_iload_n 27 rfl dX11_mendIt_26 rfl ?_
      refine J_i2l 28 _ rfl dX11_mendIt_27 rfl ?_
      refine J_lconst 29 _ rfl dX11_mendIt_28 rfl ?_
      refine J_ldc2 32 rfl dX11_mendIt_29 lkX11_143 ?_
      refine J_callSi (As := [_, _, _]) 35 rfl kalX11_in lkX11_63 dX11_mendIt_32 rfl rfl (by exact Nat.le_of_ble_eq_true rfl) (by omega) (S_in_le 1 9 (by decide) (by decide) (by assumption) (by omega) (by omega)) ?_
      refine J_ifb_ne (hdp := _) 44 38 (by decide) rfl dX11_mendIt_35 (fun c35 => ?_) (fun c35 => ?_)
      · refine J_aload_n 45 rfl dX11_mendIt_44 rfl ?_
        refine g_X11_m 48 rfl dX11_mendIt_45 lkX11_9 ?_
        refine J_iconst 49 4 rfl dX11_mendIt_48 ic_4 ?_
        refine J_mald 50 rfl dX11_mendIt_49 (by omega) ?_
        refine J_bipush 52 8 rfl dX11_mendIt_50 bc_8 ?_
        refine J_icmp_ne 61 55 (by decide) rfl dX11_mendIt_52 (by omega) (by omega) (fun c52 => ?_) (fun c52 => ?_)
        · refine J_sipush 64 221 rfl dX11_mendIt_61 sc_221 ?_
          refine J_iconst 65 3 rfl dX11_mendIt_64 ic_3 ?_
          refine J_aload_n 66 rfl dX11_mendIt_65 rfl ?_
          refine g_X11_m 69 rfl dX11_mendIt_66 lkX11_9 ?_
          refine J_iconst 70 4 rfl dX11_mendIt_69 ic_4 ?_
          refine J_mald 71 rfl dX11_mendIt_70 (by omega) ?_
          refine J_imul 72 rfl dX11_mendIt_71 ?_
          refine J_iadd 73 rfl dX11_mendIt_72 ?_
          refine J_istore 75 rfl dX11_mendIt_73 (Nat.le_of_ble_eq_true rfl) ?_
          refine J_aload_n 76 rfl dX11_mendIt_75 rfl ?_
          refine g_X11_m 79 rfl dX11_mendIt_76 lkX11_9 ?_
          refine J_iload 81 rfl dX11_mendIt_79 rfl ?_
          refine J_iload_n 82 rfl dX11_mendIt_81 rfl ?_
          refine J_mast 83 rfl dX11_mendIt_82 (by omega) ?_
          refine J_aload_n 84 rfl dX11_mendIt_83 rfl ?_
          refine g_X11_m 87 rfl dX11_mendIt_84 lkX11_9 ?_
          refine J_iload 89 rfl dX11_mendIt_87 rfl ?_
          refine J_iconst 90 1 rfl dX11_mendIt_89 ic_1 ?_
          refine J_iadd 91 rfl dX11_mendIt_90 ?_
          refine J_iload_n 92 rfl dX11_mendIt_91 rfl ?_
          refine J_mast 93 rfl dX11_mendIt_92 (by omega) ?_
          refine J_aload_n 94 rfl dX11_mendIt_93 rfl ?_
          refine g_X11_m 97 rfl dX11_mendIt_94 lkX11_9 ?_
          refine J_iload 99 rfl dX11_mendIt_97 rfl ?_
          refine J_iconst 100 2 rfl dX11_mendIt_99 ic_2 ?_
          refine J_iadd 101 rfl dX11_mendIt_100 ?_
          refine J_iload_n 102 rfl dX11_mendIt_101 rfl ?_
          refine J_mast 103 rfl dX11_mendIt_102 (by omega) ?_
          refine J_aload_n 104 rfl dX11_mendIt_103 rfl ?_
          refine g_X11_m 107 rfl dX11_mendIt_104 lkX11_9 ?_
          refine J_iconst 108 4 rfl dX11_mendIt_107 ic_4 ?_
          refine J_dup2 109 rfl dX11_mendIt_108 rfl rfl ?_
          refine J_mald 110 rfl dX11_mendIt_109 (by omega) ?_
          refine J_cv (b := f 4) (by rw [up1_ne (by omega), up1_ne (by omega), up1_ne (by omega)]) ?_
          refine J_iconst 111 1 rfl dX11_mendIt_110 ic_1 ?_
          refine J_iadd 112 rfl dX11_mendIt_111 ?_
          refine J_mast 113 rfl dX11_mendIt_112 (by omega) ?_
          refine J_aload_n 114 rfl dX11_mendIt_113 rfl ?_
          refine g_X11_m 117 rfl dX11_mendIt_114 lkX11_9 ?_
          refine J_iconst 118 4 rfl dX11_mendIt_117 ic_4 ?_
          refine J_mald 119 rfl dX11_mendIt_118 (by omega) ?_
          refine J_iconst 120 1 rfl dX11_mendIt_119 ic_1 ?_
          refine J_isub 121 rfl dX11_mendIt_120 (by rw [up1_self]; omega) ?_
          refine J_iret rfl dX11_mendIt_121 ?_
          exact ⟨_, rfl, Or.inl ⟨by unfold fMend; (repeat' split) <;> omega, by rw [up1_self]; omega, by unfold mAsk; rw [show 221 + 3 * f 4 + 1 = 222 + 3 * f 4 by omega, show 221 + 3 * f 4 + 2 = 223 + 3 * f 4 by omega]⟩⟩
        · refine J_aload_n 56 rfl dX11_mendIt_55 rfl ?_
          refine J_iconst 57 3 rfl dX11_mendIt_56 ic_3 ?_
          refine J_callVi (As := [_]) 60 _ rfl kalX11_throwing lkX11_125 dX11_mendIt_57 (lt_X11) (so_X11) rfl rfl rfl (by exact Nat.le_of_ble_eq_true rfl) (by omega) (S_X11_throwing) ?_
          refine J_iret rfl dX11_mendIt_60 ?_
          refine ⟨_, rfl, Or.inr ⟨?_, rfl, ?_⟩⟩
          · unfold fMend; (repeat' split) <;> omega
          · rw [up2_out (by omega)]; congr 2; unfold fMend; (repeat' split) <;> omega
      · refine J_aload_n 39 rfl dX11_mendIt_38 rfl ?_
        refine J_iconst 40 2 rfl dX11_mendIt_39 ic_2 ?_
        refine J_callVi (As := [_]) 43 _ rfl kalX11_throwing lkX11_125 dX11_mendIt_40 (lt_X11) (so_X11) rfl rfl rfl (by exact Nat.le_of_ble_eq_true rfl) (by omega) (S_X11_throwing) ?_
        refine J_iret rfl dX11_mendIt_43 ?_
        refine ⟨_, rfl, Or.inr ⟨?_, rfl, ?_⟩⟩
        · unfold fMend; (repeat' split) <;> omega
        · rw [up2_out (by omega)]; congr 2; unfold fMend; (repeat' split) <;> omega
  · refine J_aload_n 9 rfl dX11_mendIt_8 rfl ?_
    refine J_iconst 10 1 rfl dX11_mendIt_9 ic_1 ?_
    refine J_callVi (As := [_]) 13 _ rfl kalX11_throwing lkX11_125 dX11_mendIt_10 (lt_X11) (so_X11) rfl rfl rfl (by exact Nat.le_of_ble_eq_true rfl) (by omega) (S_X11_throwing) ?_
    refine J_iret rfl dX11_mendIt_13 ?_
    refine ⟨_, rfl, Or.inr ⟨?_, rfl, ?_⟩⟩
    · unfold fMend; (repeat' split) <;> omega
    · rw [up2_out (by omega)]; congr 2; unfold fMend; (repeat' split) <;> omega

theorem S_X11_passIt {g : Gn} {J : DJ} {f : Nat → Nat} {B : Nat} (hw : WF f B) (hB9 : B < 600000000) {t : Nat} (h_t : t < 4294967296) : SJ g mX11_passIt 4 0 0 [.ref (g.2 351), .int (nI (t))] (sR J 352 f) (MO J f (fPass t) (1) (psK f t) (psN f t)) NoX := by
  have h0 := hw.1
  have h2 := hw.2.1
  have h3 := hw.2.2.1
  have hO := hw.2.2.2.2.2.1
  have h4 := hw.2.2.2.2.1.1
  have hB := hw.2.2.2.2.2.2.2.2.1
  refine SJ_of_VJ (by decide +kernel) (Nat.le_of_ble_eq_true rfl) ?_
  show VJ g mX11_passIt 4 0 0 _ _ 0 [(0, .ref (g.2 351)), (1, .int (nI (t)))] [] (sR J 352 f)
  refine J_iload_n 1 rfl dX11_passIt_0 rfl ?_
  refine J_i2l 2 _ rfl dX11_passIt_1 rfl ?_
  refine J_lconst 3 _ rfl dX11_passIt_2 rfl ?_
  refine J_ldc2 6 rfl dX11_passIt_3 lkX11_190 ?_
  refine J_callSi (As := [_, _, _]) 9 rfl kalX11_in lkX11_63 dX11_passIt_6 rfl rfl (by exact Nat.le_of_ble_eq_true rfl) (by omega) (S_in_le 1 48 (by decide) (by decide) (by assumption) (by omega) (by omega)) ?_
  refine J_ifb_eq (hdp := _) 20 12 (by decide) rfl dX11_passIt_9 (fun c9 => ?_) (fun c9 => ?_)
  · refine J_aload_n 21 rfl dX11_passIt_20 rfl ?_
    refine J_iconst 22 1 rfl dX11_passIt_21 ic_1 ?_
    refine J_callVi (As := [_]) 25 _ rfl kalX11_throwing lkX11_125 dX11_passIt_22 (lt_X11) (so_X11) rfl rfl rfl (by exact Nat.le_of_ble_eq_true rfl) (by omega) (S_X11_throwing) ?_
    refine J_iret rfl dX11_passIt_25 ?_
    first
      | (exact ⟨_, rfl, Or.inl ⟨by unfold fPass; (repeat' split) <;> omega, rfl, rfl⟩⟩)
      | (refine ⟨_, rfl, Or.inr ⟨?_, rfl, ?_⟩⟩
         · unfold fPass; (repeat' split) <;> omega
         · rw [up2_out (by omega)])
  · refine J_aload_n 13 rfl dX11_passIt_12 rfl ?_
    refine J_iload_n 14 rfl dX11_passIt_13 rfl ?_
    refine J_callVip (As := [_]) 17 _ rfl kalX11_passesHours lkX11_184 dX11_passIt_14 (lt_X11) (so_X11) rfl rfl rfl (by exact Nat.le_of_ble_eq_true rfl) (by omega) (S_X11_passesHours hw (by omega) (by omega)) (fun J14 q14 => ?_)
    subst q14
    refine J_goto 25 (by decide) dX11_passIt_17 ?_
    refine J_iret rfl dX11_passIt_25 ?_
    first
      | (exact ⟨_, rfl, Or.inl ⟨by unfold fPass; (repeat' split) <;> omega, rfl, rfl⟩⟩)
      | (refine ⟨_, rfl, Or.inr ⟨?_, rfl, ?_⟩⟩
         · unfold fPass; (repeat' split) <;> omega
         · rw [up2_out (by omega)])

theorem S_X11_engineIt {g : Gn} {J : DJ} {f : Nat → Nat} {B n : Nat} (hw : WF f B) (hB9 : B < 600000000) (h_n : n < 4294967296) : SJ g mX11_engineIt 1 0 0 [.ref (g.2 351), .int (nI (n))] (sR J 352 f) (MO J f (fE f n) (fE f n - 1) (f 0) (xE f n)) NoX := by
  have h0 := hw.1
  have h2 := hw.2.1
  have h3 := hw.2.2.1
  have hO := hw.2.2.2.2.2.1
  have h4 := hw.2.2.2.2.1.1
  have hB := hw.2.2.2.2.2.2.2.2.1
  refine SJ_of_VJ (by decide +kernel) (Nat.le_of_ble_eq_true rfl) ?_
  show VJ g mX11_engineIt 1 0 0 _ _ 0 [(0, .ref (g.2 351)), (1, .int (nI (n)))] [] (sR J 352 f)
  have loop : 3 ≤ n → n ≤ 8 → f 0 < 4 → ∀ (n9 : Nat) (k : Nat) (h : Nat → Nat), n - k = n9 → k ≤ n → (∀ j, h j = if 11 + 52 * f 0 ≤ j ∧ j < 11 + 52 * f 0 + k then j - (11 + 52 * f 0) else if 19 + 52 * f 0 ≤ j ∧ j < 19 + 52 * f 0 + k then 5 else if j = 7 + 52 * f 0 then n else f j) → VJ g mX11_engineIt 1 0 0 (MO J f (fE f n) (fE f n - 1) (f 0) (xE f n)) NoX 55 [(0, .ref (g.2 351)), (1, .int (nI n)), (2, .int (nI (7 + 52 * f 0))), (3, .int (nI k))] [] (sR J 352 h) := by
    intro n3 n8 f4 n9
    induction n9 using Nat.strongRecOn with
    | ind n9 ih =>
      intro k h hi hk hh
      have z0 : h 0 = f 0 := by rw [hh 0, if_neg (by omega), if_neg (by omega), if_neg (by omega)]
      refine J_iload_n 56 rfl dX11_engineIt_55 rfl ?_
      refine J_iload_n 57 rfl dX11_engineIt_56 rfl ?_
      refine J_icmp_ge 89 60 (by decide) rfl dX11_engineIt_57 (by omega) (by omega) (fun c57 => ?_) (fun c57 => ?_)
      · refine J_aload_n 90 rfl dX11_engineIt_89 rfl ?_
        refine g_X11_m 93 rfl dX11_engineIt_90 lkX11_9 ?_
        refine J_iconst 94 0 rfl dX11_engineIt_93 ic_0 ?_
        refine J_dup2 95 rfl dX11_engineIt_94 rfl rfl ?_
        refine J_mald 96 rfl dX11_engineIt_95 (by omega) ?_
        refine J_iconst 97 1 rfl dX11_engineIt_96 ic_1 ?_
        refine J_iadd 98 rfl dX11_engineIt_97 ?_
        refine J_mast 99 rfl dX11_engineIt_98 (by omega) ?_
        refine J_aload_n 100 rfl dX11_engineIt_99 rfl ?_
        refine g_X11_m 103 rfl dX11_engineIt_100 lkX11_9 ?_
        refine J_iconst 104 0 rfl dX11_engineIt_103 ic_0 ?_
        refine J_mald 105 rfl dX11_engineIt_104 (by omega) ?_
        refine J_iconst 106 1 rfl dX11_engineIt_105 ic_1 ?_
        refine J_isub 107 rfl dX11_engineIt_106 (by rw [up1_self]; omega) ?_
        refine J_iret rfl dX11_engineIt_107 ?_
        refine ⟨_, rfl, Or.inl ⟨by unfold fE; (repeat' split) <;> omega, by rw [up1_self]; omega, ?_⟩⟩
        congr 1
        funext j
        unfold xE
        rw [up1_app]
        by_cases a : j = 0
        · rw [if_pos a, if_pos a, z0]
        · rw [if_neg a, if_neg a, hh j]
          have e9 : k = n := by omega
          subst e9
          by_cases b : j = 7 + 52 * f 0
          · rw [if_pos b, if_neg (by omega), if_neg (by omega), if_pos b]
          · rw [if_neg b, if_neg b]
      · refine J_aload_n 61 rfl dX11_engineIt_60 rfl ?_
        refine g_X11_m 64 rfl dX11_engineIt_61 lkX11_9 ?_
        refine J_iload_n 65 rfl dX11_engineIt_64 rfl ?_
        refine J_iconst 66 4 rfl dX11_engineIt_65 ic_4 ?_
        refine J_iadd 67 rfl dX11_engineIt_66 ?_
        refine J_iload_n 68 rfl dX11_engineIt_67 rfl ?_
        refine J_iadd 69 rfl dX11_engineIt_68 ?_
        refine J_iload_n 70 rfl dX11_engineIt_69 rfl ?_
        refine J_mast 71 rfl dX11_engineIt_70 (by omega) ?_
        refine J_aload_n 72 rfl dX11_engineIt_71 rfl ?_
        refine g_X11_m 75 rfl dX11_engineIt_72 lkX11_9 ?_
        refine J_iload_n 76 rfl dX11_engineIt_75 rfl ?_
        refine J_bipush 78 12 rfl dX11_engineIt_76 bc_12 ?_
        refine J_iadd 79 rfl dX11_engineIt_78 ?_
        refine J_iload_n 80 rfl dX11_engineIt_79 rfl ?_
        refine J_iadd 81 rfl dX11_engineIt_80 ?_
        refine J_iconst 82 5 rfl dX11_engineIt_81 ic_5 ?_
        refine J_mast 83 rfl dX11_engineIt_82 (by omega) ?_
        refine J_iinc 86 1 rfl dX11_engineIt_83 ic_1 rfl (Nat.le_of_ble_eq_true rfl) ?_
        refine J_goto 55 (by decide) dX11_engineIt_86 ?_
        refine ih _ (by omega) (k + 1) _ rfl (by omega) (fun j => ?_)
        rw [up1_app, up1_app, hh j]
        by_cases a : j = 7 + 52 * f 0 + 12 + k
        · rw [if_pos a, if_neg (show ¬ (11 + 52 * f 0 ≤ j ∧ j < 11 + 52 * f 0 + (k + 1)) by omega), if_pos (show 19 + 52 * f 0 ≤ j ∧ j < 19 + 52 * f 0 + (k + 1) by omega)]
        · rw [if_neg a]
          by_cases b : j = 7 + 52 * f 0 + 4 + k
          · rw [if_pos b, if_pos (show 11 + 52 * f 0 ≤ j ∧ j < 11 + 52 * f 0 + (k + 1) by omega)]; omega
          · rw [if_neg b]
            by_cases c : 11 + 52 * f 0 ≤ j ∧ j < 11 + 52 * f 0 + k
            · rw [if_pos c, if_pos (show 11 + 52 * f 0 ≤ j ∧ j < 11 + 52 * f 0 + (k + 1) by omega)]
            · rw [if_neg c, if_neg (show ¬ (11 + 52 * f 0 ≤ j ∧ j < 11 + 52 * f 0 + (k + 1)) by omega)]
              by_cases d : 19 + 52 * f 0 ≤ j ∧ j < 19 + 52 * f 0 + k
              · rw [if_pos d, if_pos (show 19 + 52 * f 0 ≤ j ∧ j < 19 + 52 * f 0 + (k + 1) by omega)]
              · rw [if_neg d, if_neg (show ¬ (19 + 52 * f 0 ≤ j ∧ j < 19 + 52 * f 0 + (k + 1)) by omega)]
  refine J_iload_n 1 rfl dX11_engineIt_0 rfl ?_
  refine J_i2l 2 _ rfl dX11_engineIt_1 rfl ?_
  refine J_ldc2 5 rfl dX11_engineIt_2 lkX11_121 ?_
  refine J_ldc2 8 rfl dX11_engineIt_5 lkX11_123 ?_
  refine J_callSi (As := [_, _, _]) 11 rfl kalX11_in lkX11_63 dX11_engineIt_8 rfl rfl (by exact Nat.le_of_ble_eq_true rfl) (by omega) (S_in_le 3 8 (by decide) (by decide) h_n (by omega) (by omega)) ?_
  refine J_ifb_ne (hdp := _) 20 14 (by decide) rfl dX11_engineIt_11 (fun c11 => ?_) (fun c11 => ?_)
  · refine J_aload_n 21 rfl dX11_engineIt_20 rfl ?_
    refine g_X11_m 24 rfl dX11_engineIt_21 lkX11_9 ?_
    refine J_iconst 25 0 rfl dX11_engineIt_24 ic_0 ?_
    refine J_mald 26 rfl dX11_engineIt_25 (by omega) ?_
    refine J_iconst 27 4 rfl dX11_engineIt_26 ic_4 ?_
    refine J_icmp_ne 36 30 (by decide) rfl dX11_engineIt_27 (by omega) (by omega) (fun c27 => ?_) (fun c27 => ?_)
    · refine J_aload_n 37 rfl dX11_engineIt_36 rfl ?_
      refine g_X11_m 40 rfl dX11_engineIt_37 lkX11_9 ?_
      refine J_iconst 41 0 rfl dX11_engineIt_40 ic_0 ?_
      refine J_mald 42 rfl dX11_engineIt_41 (by omega) ?_
      refine J_callSi (As := [_]) 45 rfl kalX11_engineAt lkX11_67 dX11_engineIt_42 rfl rfl (by exact Nat.le_of_ble_eq_true rfl) (by omega) (S_X11_engineAt) ?_
      refine J_istore_n 46 rfl dX11_engineIt_45 rfl (Nat.le_of_ble_eq_true rfl) ?_
      refine J_aload_n 47 rfl dX11_engineIt_46 rfl ?_
      refine g_X11_m 50 rfl dX11_engineIt_47 lkX11_9 ?_
      refine J_iload_n 51 rfl dX11_engineIt_50 rfl ?_
      refine J_iload_n 52 rfl dX11_engineIt_51 rfl ?_
      refine J_mast 53 rfl dX11_engineIt_52 (by omega) ?_
      refine J_iconst 54 0 rfl dX11_engineIt_53 ic_0 ?_
      refine J_istore_n 55 rfl dX11_engineIt_54 rfl (Nat.le_of_ble_eq_true rfl) ?_
      refine loop (by omega) (by omega) (by omega) _ 0 _ rfl (Nat.zero_le _) (fun j => ?_)
      rw [if_neg (by omega), if_neg (by omega)]
      rfl
    · refine J_aload_n 31 rfl dX11_engineIt_30 rfl ?_
      refine J_iconst 32 2 rfl dX11_engineIt_31 ic_2 ?_
      refine J_callVi (As := [_]) 35 _ rfl kalX11_throwing lkX11_125 dX11_engineIt_32 (lt_X11) (so_X11) rfl rfl rfl (by exact Nat.le_of_ble_eq_true rfl) (by omega) (S_X11_throwing) ?_
      refine J_iret rfl dX11_engineIt_35 ?_
      refine ⟨_, rfl, Or.inr ⟨?_, rfl, ?_⟩⟩
      · unfold fE; (repeat' split) <;> omega
      · rw [up2_out (by omega)]; congr 2; unfold fE; (repeat' split) <;> omega
  · refine J_aload_n 15 rfl dX11_engineIt_14 rfl ?_
    refine J_iconst 16 1 rfl dX11_engineIt_15 ic_1 ?_
    refine J_callVi (As := [_]) 19 _ rfl kalX11_throwing lkX11_125 dX11_engineIt_16 (lt_X11) (so_X11) rfl rfl rfl (by exact Nat.le_of_ble_eq_true rfl) (by omega) (S_X11_throwing) ?_
    refine J_iret rfl dX11_engineIt_19 ?_
    refine ⟨_, rfl, Or.inr ⟨?_, rfl, ?_⟩⟩
    · unfold fE; (repeat' split) <;> omega
    · rw [up2_out (by omega)]; congr 2; unfold fE; (repeat' split) <;> omega

/-! OILS of the model -/
def OK (J : DJ) (f : Nat → Nat) (k : Nat) : Prop := J 351 12 = k ∧ ∀ j, j < k → J 357 j = ol f j
theorem S_X11_takesOils {g : Gn} {J : DJ} {f : Nat → Nat} {B : Nat} (hw : WF f B) : SJ g mX11_takesOils 2 0 0 [.ref (g.2 351)] (sR J 352 f) (Rq (fun J2 => ∃ O, J2 = sR (sR (up2 J 351 12 (cnt f)) 357 O) 352 f ∧ ∀ j, j < cnt f → O j = ol f j)) NoX := by
  have h0 := hw.1
  have h2 := hw.2.1
  have h3 := hw.2.2.1
  have hO := hw.2.2.2.2.2.1
  have h4 := hw.2.2.2.2.1.1
  have hB := hw.2.2.2.2.2.2.2.2.1
  refine SJ_of_VJ (by decide +kernel) (Nat.le_of_ble_eq_true rfl) ?_
  show VJ g mX11_takesOils 2 0 0 _ _ 0 [(0, .ref (g.2 351))] [] (sR J 352 f)
  have reO : ∀ (a b : Nat) (O : Nat → Nat), up2 (sR (up2 J 351 12 a) 357 O) 351 12 b = sR (up2 J 351 12 b) 357 O := fun a b O => by
    rw [up2_out (by omega), up2_sR _ 351 12, up2_sR _ 351 12, up2_sR _ 351 12, sR_sR, sR_at, up1_up1]
  have rd : ∀ (a : Nat) (O : Nat → Nat), (sR (sR (up2 J 351 12 a) 357 O) 352 f) 351 12 = a := fun a O => by
    rw [sR_ne (by omega), sR_ne (by omega), up2_app, if_pos ⟨rfl, rfl⟩]
  have outer : ∀ (n9 : Nat) (e : Nat) (O : Nat → Nat), f 0 - e = n9 → e ≤ f 0 → (∀ j, j < cyN f e → O j = ol f j) → VJ g mX11_takesOils 2 0 0 (Rq (fun J2 => ∃ O, J2 = sR (sR (up2 J 351 12 (cnt f)) 357 O) 352 f ∧ ∀ j, j < cnt f → O j = ol f j)) NoX 7 [(0, .ref (g.2 351)), (1, .int (nI e))] [] (sR (sR (up2 J 351 12 (cyN f e)) 357 O) 352 f) := by
    intro n9
    induction n9 using Nat.strongRecOn with
    | ind n9 ih =>
      intro e O hi he hO2
      have ce := cyN_le hw e he
      have inner : e < f 0 → ∀ (m9 : Nat) (k : Nat) (O : Nat → Nat), f (7 + 52 * e) - k = m9 → k ≤ f (7 + 52 * e) → (∀ j, j < cyN f e + k → O j = ol f j) → VJ g mX11_takesOils 2 0 0 (Rq (fun J2 => ∃ O, J2 = sR (sR (up2 J 351 12 (cnt f)) 357 O) 352 f ∧ ∀ j, j < cnt f → O j = ol f j)) NoX 19 [(0, .ref (g.2 351)), (1, .int (nI e)), (2, .int (nI k))] [] (sR (sR (up2 J 351 12 (cyN f e + k)) 357 O) 352 f) := by
        intro hef m9
        induction m9 using Nat.strongRecOn with
        | ind m9 ih2 =>
          intro k O hi2 hk hO3
          have o8 := (hO e hef).2.1
          refine J_iload_n 20 rfl dX11_takesOils_19 rfl ?_
          refine J_aload_n 21 rfl dX11_takesOils_20 rfl ?_
          refine J_iload_n 22 rfl dX11_takesOils_21 rfl ?_
          refine J_callVi (As := [_]) 25 _ rfl kalX11_many lkX11_75 dX11_takesOils_22 (lt_X11) (so_X11) rfl rfl rfl (by exact Nat.le_of_ble_eq_true rfl) (by omega) (S_X11_many (by omega)) ?_
          refine J_icmp_ge 67 28 (by decide) rfl dX11_takesOils_25 (by omega) (by omega) (fun c25 => ?_) (fun c25 => ?_)
          · refine J_iinc 70 1 rfl dX11_takesOils_67 ic_1 rfl (Nat.le_of_ble_eq_true rfl) ?_
            refine J_goto 7 (by decide) dX11_takesOils_70 ?_
            refine J_keep [0, 1] ?_
            have e9 : k = f (7 + 52 * e) := by omega
            subst e9
            exact ih _ (by omega) (e + 1) O rfl (by omega) hO3
          · refine J_aload_n 29 rfl dX11_takesOils_28 rfl ?_
            refine g_X11_oils 32 rfl dX11_takesOils_29 lkX11_32 ?_
            refine J_aload_n 33 rfl dX11_takesOils_32 rfl ?_
            refine g_X11_oilMany 36 rfl dX11_takesOils_33 lkX11_92 ?_
            refine J_cv (b := cyN f e + k) (rd _ _) ?_
            refine J_aload_n 37 rfl dX11_takesOils_36 rfl ?_
            refine g_X11_m 40 rfl dX11_takesOils_37 lkX11_9 ?_
            refine J_iload_n 41 rfl dX11_takesOils_40 rfl ?_
            refine J_callSi (As := [_]) 44 rfl kalX11_engineAt lkX11_67 dX11_takesOils_41 rfl rfl (by exact Nat.le_of_ble_eq_true rfl) (by omega) (S_X11_engineAt) ?_
            refine J_bipush 46 12 rfl dX11_takesOils_44 bc_12 ?_
            refine J_iadd 47 rfl dX11_takesOils_46 ?_
            refine J_iload_n 48 rfl dX11_takesOils_47 rfl ?_
            refine J_iadd 49 rfl dX11_takesOils_48 ?_
            refine J_mald 50 rfl dX11_takesOils_49 (by omega) ?_
            refine J_iast 51 rfl dX11_takesOils_50 (sa_X11_oils) (by omega) ?_
            rw [up2_out (by omega)]
            refine J_aload_n 52 rfl dX11_takesOils_51 rfl ?_
            refine J_dup 53 rfl dX11_takesOils_52 rfl ?_
            refine g_X11_oilMany 56 rfl dX11_takesOils_53 lkX11_92 ?_
            refine J_cv (b := cyN f e + k) (by rw [sR_ne (by omega), up2_ne (by omega)]; exact rd (cyN f e + k) O) ?_
            refine J_iconst 57 1 rfl dX11_takesOils_56 ic_1 ?_
            refine J_iadd 58 rfl dX11_takesOils_57 ?_
            refine p_X11_oilMany 61 rfl dX11_takesOils_58 lkX11_92 ?_
            rw [up2_out (by omega)]
            refine J_iinc 64 1 rfl dX11_takesOils_61 ic_1 rfl (Nat.le_of_ble_eq_true rfl) ?_
            refine J_goto 19 (by decide) dX11_takesOils_64 ?_
            rw [up2_in, reO]
            refine ih2 _ (by omega) (k + 1) _ rfl (by omega) (fun j hj => ?_)
            rw [up1_app]
            split
            · next z => rw [z, ol_of (by omega) (by omega), show 7 + 52 * e + 12 + k = 19 + 52 * e + k by omega]
            · exact hO3 j (by omega)
      refine J_iload_n 8 rfl dX11_takesOils_7 rfl ?_
      refine J_aload_n 9 rfl dX11_takesOils_8 rfl ?_
      refine g_X11_m 12 rfl dX11_takesOils_9 lkX11_9 ?_
      refine J_iconst 13 0 rfl dX11_takesOils_12 ic_0 ?_
      refine J_mald 14 rfl dX11_takesOils_13 (by omega) ?_
      refine J_icmp_ge 73 17 (by decide) rfl dX11_takesOils_14 (by omega) (by omega) (fun c14 => ?_) (fun c14 => ?_)
      · refine J_vret rfl dX11_takesOils_73 ?_
        have e9 : e = f 0 := by omega
        subst e9
        exact ⟨rfl, O, rfl, hO2⟩
      · refine J_iconst 18 0 rfl dX11_takesOils_17 ic_0 ?_
        refine J_istore_n 19 rfl dX11_takesOils_18 rfl (Nat.le_of_ble_eq_true rfl) ?_
        exact inner (by omega) _ 0 O rfl (Nat.zero_le _) hO2
  refine J_aload_n 1 rfl dX11_takesOils_0 rfl ?_
  refine J_iconst 2 0 rfl dX11_takesOils_1 ic_0 ?_
  refine p_X11_oilMany 5 rfl dX11_takesOils_2 lkX11_92 ?_
  rw [up2_out (by omega)]
  refine J_iconst 6 0 rfl dX11_takesOils_5 ic_0 ?_
  refine J_istore_n 7 rfl dX11_takesOils_6 rfl (Nat.le_of_ble_eq_true rfl) ?_
  have z := outer _ 0 (J 357) rfl (Nat.zero_le _) (fun j hj => absurd hj (Nat.not_lt_zero _))
  rw [← up2_ne (J := J) (k := 351) (j := 12) (v := cyN f 0) (show 357 ≠ 351 by omega), sR_id] at z
  exact z

theorem S_X11_driest {g : Gn} {J : DJ} {c : Nat} (hc : J 351 12 = c) (h1 : 1 ≤ c) (h32 : c ≤ 32) (hb : ∀ j, j < c → J 357 j < 1000000000) : SJ g mX11_driest 0 0 0 [.ref (g.2 351)] J (Ri (amN (J 357) c) J) NoX := by
  refine SJ_of_VJ (by decide +kernel) (Nat.le_of_ble_eq_true rfl) ?_
  show VJ g mX11_driest 0 0 0 _ _ 0 [(0, .ref (g.2 351))] [] J
  have loop : ∀ (n9 : Nat) (k : Nat), c - k = n9 → 1 ≤ k → k ≤ c → VJ g mX11_driest 0 0 0 (Ri (amN (J 357) c) J) NoX 4 [(0, .ref (g.2 351)), (1, .int (nI (amN (J 357) k))), (2, .int (nI k))] [] J := by
    intro n9
    induction n9 using Nat.strongRecOn with
    | ind n9 ih =>
      intro k hi k1 hk
      have al := amN_lt (J 357) k k1
      have st := (show amN (J 357) (k + 1) = if J 357 k < J 357 (amN (J 357) k) then k else amN (J 357) k from rfl)
      have ba := hb (amN (J 357) k) (by omega)
      refine J_iload_n 5 rfl dX11_driest_4 rfl ?_
      refine J_aload_n 6 rfl dX11_driest_5 rfl ?_
      refine g_X11_oilMany 9 rfl dX11_driest_6 lkX11_92 ?_
      refine J_cv (b := c) hc ?_
      refine J_icmp_ge 39 12 (by decide) rfl dX11_driest_9 (by omega) (by omega) (fun c9 => ?_) (fun c9 => ?_)
      · refine J_iload_n 40 rfl dX11_driest_39 rfl ?_
        refine J_iret rfl dX11_driest_40 ?_
        have e9 : k = c := by omega
        subst e9
        exact ⟨rfl, rfl⟩
      · refine J_aload_n 13 rfl dX11_driest_12 rfl ?_
        refine g_X11_oils 16 rfl dX11_driest_13 lkX11_32 ?_
        refine J_iload_n 17 rfl dX11_driest_16 rfl ?_
        refine J_iald 18 rfl dX11_driest_17 (sa_X11_oils) (by omega) ?_
        refine J_aload_n 19 rfl dX11_driest_18 rfl ?_
        refine g_X11_oils 22 rfl dX11_driest_19 lkX11_32 ?_
        refine J_iload_n 23 rfl dX11_driest_22 rfl ?_
        refine J_iald 24 rfl dX11_driest_23 (sa_X11_oils) (by omega) ?_
        refine J_icmp_ge 31 27 (by decide) rfl dX11_driest_24 (by have := hb k (by omega); omega) (by omega) (fun c24 => ?_) (fun c24 => ?_)
        · refine J_iload_n 32 rfl dX11_driest_31 rfl ?_
          refine J_istore_n 33 rfl dX11_driest_32 rfl (Nat.le_of_ble_eq_true rfl) ?_
          refine J_iinc 36 1 rfl dX11_driest_33 ic_1 rfl (Nat.le_of_ble_eq_true rfl) ?_
          refine J_goto 4 (by decide) dX11_driest_36 ?_
          have z := ih _ (by omega) (k + 1) rfl (by omega) (by omega)
          rw [st] at z
          first
            | (rw [if_pos (by omega)] at z; exact z)
            | (rw [if_neg (by omega)] at z; exact z)
        · refine J_iload_n 28 rfl dX11_driest_27 rfl ?_
          refine J_goto 32 (by decide) dX11_driest_28 ?_
          refine J_istore_n 33 rfl dX11_driest_32 rfl (Nat.le_of_ble_eq_true rfl) ?_
          refine J_iinc 36 1 rfl dX11_driest_33 ic_1 rfl (Nat.le_of_ble_eq_true rfl) ?_
          refine J_goto 4 (by decide) dX11_driest_36 ?_
          have z := ih _ (by omega) (k + 1) rfl (by omega) (by omega)
          rw [st] at z
          first
            | (rw [if_pos (by omega)] at z; exact z)
            | (rw [if_neg (by omega)] at z; exact z)
  refine J_iconst 1 0 rfl dX11_driest_0 ic_0 ?_
  refine J_istore_n 2 rfl dX11_driest_1 rfl (Nat.le_of_ble_eq_true rfl) ?_
  refine J_iconst 3 1 rfl dX11_driest_2 ic_1 ?_
  refine J_istore_n 4 rfl dX11_driest_3 rfl (Nat.le_of_ble_eq_true rfl) ?_
  have a1 : amN (J 357) 1 = 0 := by simp [amN]
  have z := loop _ 1 rfl (by omega) h1
  rw [a1] at z
  exact z

theorem gvN_B {w : Nat → Nat} {n B : Nat} (h1 : 1 ≤ n) (h : ∀ j, j < n → w j ≤ B) : ∀ k j, j < n → gvN w n k j ≤ B + k
  | 0, j, hj => h j hj
  | k + 1, j, hj => by
    show gv (gvN w n k) n j ≤ _
    unfold gv
    rw [up1_app]
    split
    · have := gvN_B h1 h k _ (amN_lt (gvN w n k) n h1); omega
    · have := gvN_B h1 h k j hj; omega
theorem S_X11_least {g : Gn} {J : DJ} {f : Nat → Nat} {B u : Nat} (hw : WF f B) (hB9 : B < 600000000) (hf : 0 < f 0) (hu : u ≤ 999) : SJ g mX11_least 3 0 0 [.ref (g.2 351), .int (nI (u))] (sR J 352 f) (Rp (lst (gvN (ol f) (cnt f) u) (cnt f)) (fun J2 => ∃ O, J2 = sR (sR (up2 J 351 12 (cnt f)) 357 O) 352 f ∧ ∀ j, j < cnt f → O j = gvN (ol f) (cnt f) u j)) NoX := by
  have h0 := hw.1
  have h2 := hw.2.1
  have h3 := hw.2.2.1
  have hO := hw.2.2.2.2.2.1
  have h4 := hw.2.2.2.2.1.1
  have hB := hw.2.2.2.2.2.2.2.2.1
  have c1 := cnt_pos hw hf
  have c32 := cnt_le hw
  have ob : ∀ k j, j < cnt f → gvN (ol f) (cnt f) k j ≤ B + k := fun k j hj => gvN_B c1 (fun j hj => ol_B hw hj) k j hj
  refine SJ_of_VJ (by decide +kernel) (Nat.le_of_ble_eq_true rfl) ?_
  show VJ g mX11_least 3 0 0 _ _ 0 [(0, .ref (g.2 351)), (1, .int (nI (u)))] [] (sR J 352 f)
  have rd : ∀ (O : Nat → Nat), (sR (sR (up2 J 351 12 (cnt f)) 357 O) 352 f) 351 12 = cnt f := fun O => by
    rw [sR_ne (by omega), sR_ne (by omega), up2_app, if_pos ⟨rfl, rfl⟩]
  have rO : ∀ (O : Nat → Nat), (sR (sR (up2 J 351 12 (cnt f)) 357 O) 352 f) 357 = O := fun O => by
    rw [sR_ne (by omega), sR_at]
  have loop : ∀ (n9 : Nat) (k : Nat) (O : Nat → Nat), u - k = n9 → k ≤ u → (∀ j, j < cnt f → O j = gvN (ol f) (cnt f) k j) → VJ g mX11_least 3 0 0 (Rp (lst (gvN (ol f) (cnt f) u) (cnt f)) (fun J2 => ∃ O, J2 = sR (sR (up2 J 351 12 (cnt f)) 357 O) 352 f ∧ ∀ j, j < cnt f → O j = gvN (ol f) (cnt f) u j)) NoX 6 [(0, .ref (g.2 351)), (1, .int (nI u)), (2, .int (nI k))] [] (sR (sR (up2 J 351 12 (cnt f)) 357 O) 352 f) := by
    intro n9
    induction n9 using Nat.strongRecOn with
    | ind n9 ih =>
      intro k O hi hk hO2
      have am : amN O (cnt f) = amN (gvN (ol f) (cnt f) k) (cnt f) := amN_congr _ hO2
      have al := amN_lt (gvN (ol f) (cnt f) k) (cnt f) c1
      have hb : ∀ j, j < cnt f → (sR (sR (up2 J 351 12 (cnt f)) 357 O) 352 f) 357 j < 1000000000 := fun j hj => by rw [rO, hO2 j hj]; have := ob k j hj; omega
      refine J_iload_n 7 rfl dX11_least_6 rfl ?_
      refine J_iload_n 8 rfl dX11_least_7 rfl ?_
      refine J_icmp_ge 30 11 (by decide) rfl dX11_least_8 (by omega) (by omega) (fun c8 => ?_) (fun c8 => ?_)
      · refine J_aload_n 31 rfl dX11_least_30 rfl ?_
        refine g_X11_oils 34 rfl dX11_least_31 lkX11_32 ?_
        refine J_aload_n 35 rfl dX11_least_34 rfl ?_
        refine J_callVi (As := []) 38 _ rfl kalX11_driest lkX11_98 dX11_least_35 (lt_X11) (so_X11) rfl rfl rfl (by exact Nat.le_of_ble_eq_true rfl) (by omega) (S_X11_driest (rd O) c1 c32 hb) ?_
        refine J_cv (b := amN O (cnt f)) (by rw [rO]) ?_
        refine J_iald 39 rfl dX11_least_38 (sa_X11_oils) (by omega) ?_
        refine J_cv (b := gvN (ol f) (cnt f) k (amN (gvN (ol f) (cnt f) k) (cnt f))) (by rw [rO, am]; exact hO2 _ al) ?_
        refine J_iret rfl dX11_least_39 ?_
        have e9 : k = u := by omega
        subst e9
        exact ⟨rfl, O, rfl, hO2⟩
      · refine J_aload_n 12 rfl dX11_least_11 rfl ?_
        refine g_X11_oils 15 rfl dX11_least_12 lkX11_32 ?_
        refine J_aload_n 16 rfl dX11_least_15 rfl ?_
        refine J_callVi (As := []) 19 _ rfl kalX11_driest lkX11_98 dX11_least_16 (lt_X11) (so_X11) rfl rfl rfl (by exact Nat.le_of_ble_eq_true rfl) (by omega) (S_X11_driest (rd O) c1 c32 hb) ?_
        refine J_cv (b := amN O (cnt f)) (by rw [rO]) ?_
        refine J_dup2 20 rfl dX11_least_19 rfl rfl ?_
        refine J_iald 21 rfl dX11_least_20 (sa_X11_oils) (by omega) ?_
        refine J_cv (b := O (amN O (cnt f))) (by rw [rO]) ?_
        refine J_iconst 22 1 rfl dX11_least_21 ic_1 ?_
        refine J_iadd 23 rfl dX11_least_22 ?_
        refine J_iast 24 rfl dX11_least_23 (sa_X11_oils) (by omega) ?_
        rw [up2_out (by omega)]
        refine J_iinc 27 1 rfl dX11_least_24 ic_1 rfl (Nat.le_of_ble_eq_true rfl) ?_
        refine J_goto 6 (by decide) dX11_least_27 ?_
        rw [up2_in]
        refine ih _ (by omega) (k + 1) _ rfl (by omega) (fun j hj => ?_)
        show up1 O _ _ j = gv (gvN (ol f) (cnt f) k) (cnt f) j
        unfold gv
        rw [am, hO2 _ al, up1_app, up1_app, hO2 j hj]
  refine J_aload_n 1 rfl dX11_least_0 rfl ?_
  refine J_callVvp (As := []) 4 _ rfl kalX11_takesOils lkX11_95 dX11_least_1 (lt_X11) (so_X11) rfl rfl rfl (by exact Nat.le_of_ble_eq_true rfl) (by omega) (S_X11_takesOils hw) (fun J1 q1 => ?_)
  obtain ⟨O, rfl, hO1⟩ := q1
  refine J_iconst 5 0 rfl dX11_least_4 ic_0 ?_
  refine J_istore_n 6 rfl dX11_least_5 rfl (Nat.le_of_ble_eq_true rfl) ?_
  exact loop _ 0 O rfl (Nat.zero_le _) hO1

/-- the oils brought back -/
def broP (f O h : Nat → Nat) (e k : Nat) : Prop := (∀ a c, a < f 0 → c < f (7 + 52 * a) → (a < e ∨ (a = e ∧ c < k)) → h (19 + 52 * a + c) = O (cyN f a + c)) ∧ ∀ i, (∀ a c, a < f 0 → c < f (7 + 52 * a) → (a < e ∨ (a = e ∧ c < k)) → i ≠ 19 + 52 * a + c) → h i = f i
theorem S_X11_bringsOils {g : Gn} {J : DJ} {f : Nat → Nat} {B : Nat} (hw : WF f B) : SJ g mX11_bringsOils 2 0 0 [.ref (g.2 351)] (sR J 352 f) (Rq (fun J2 => ∃ h, J2 = sR J 352 h ∧ broP f (J 357) h (f 0) 0)) NoX := by
  have h0 := hw.1
  have h2 := hw.2.1
  have h3 := hw.2.2.1
  have hO := hw.2.2.2.2.2.1
  have h4 := hw.2.2.2.2.1.1
  have hB := hw.2.2.2.2.2.2.2.2.1
  refine SJ_of_VJ (by decide +kernel) (Nat.le_of_ble_eq_true rfl) ?_
  show VJ g mX11_bringsOils 2 0 0 _ _ 0 [(0, .ref (g.2 351))] [] (sR J 352 f)
  have outer : ∀ (n9 : Nat) (e : Nat) (h : Nat → Nat), f 0 - e = n9 → e ≤ f 0 → broP f (J 357) h e 0 → VJ g mX11_bringsOils 2 0 0 (Rq (fun J2 => ∃ h, J2 = sR J 352 h ∧ broP f (J 357) h (f 0) 0)) NoX 4 [(0, .ref (g.2 351)), (1, .int (nI (cyN f e))), (2, .int (nI e))] [] (sR J 352 h) := by
    intro n9
    induction n9 using Nat.strongRecOn with
    | ind n9 ih =>
      intro e h hi he hP
      have ce := cyN_le hw e he
      have h00 : h 0 = f 0 := hP.2 0 (fun a c _ _ _ => by omega)
      have inner : e < f 0 → ∀ (m9 : Nat) (k : Nat) (h : Nat → Nat), f (7 + 52 * e) - k = m9 → k ≤ f (7 + 52 * e) → broP f (J 357) h e k → VJ g mX11_bringsOils 2 0 0 (Rq (fun J2 => ∃ h, J2 = sR J 352 h ∧ broP f (J 357) h (f 0) 0)) NoX 16 [(0, .ref (g.2 351)), (1, .int (nI (cyN f e + k))), (2, .int (nI e)), (3, .int (nI k))] [] (sR J 352 h) := by
        intro hef m9
        induction m9 using Nat.strongRecOn with
        | ind m9 ih2 =>
          intro k h hi2 hk hP2
          have o8 := (hO e hef).2.1
          have hc : h (7 + 52 * e) = f (7 + 52 * e) := hP2.2 _ (fun a c h1 h2 _ => by have := (hO a h1).2.1; omega)
          refine J_iload_n 17 rfl dX11_bringsOils_16 rfl ?_
          refine J_aload_n 18 rfl dX11_bringsOils_17 rfl ?_
          refine J_iload_n 19 rfl dX11_bringsOils_18 rfl ?_
          refine J_callVi (As := [_]) 22 _ rfl kalX11_many lkX11_75 dX11_bringsOils_19 (lt_X11) (so_X11) rfl rfl rfl (by exact Nat.le_of_ble_eq_true rfl) (by omega) (S_X11_many (by omega)) ?_
          refine J_cv (b := f (7 + 52 * e)) hc ?_
          refine J_icmp_ge 54 25 (by decide) rfl dX11_bringsOils_22 (by omega) (by omega) (fun c22 => ?_) (fun c22 => ?_)
          · refine J_iinc 57 1 rfl dX11_bringsOils_54 ic_1 rfl (Nat.le_of_ble_eq_true rfl) ?_
            refine J_goto 4 (by decide) dX11_bringsOils_57 ?_
            refine J_keep [0, 1, 2] ?_
            have e9 : k = f (7 + 52 * e) := by omega
            subst e9
            exact ih _ (by omega) (e + 1) h rfl (by omega) ⟨fun a c h1 h2 h3 => hP2.1 a c h1 h2 (by
                by_cases z : a = e
                · exact Or.inr ⟨z, by rw [← z]; exact h2⟩
                · exact Or.inl (by omega)), fun i hh => hP2.2 i (fun a c h1 h2 h3 => hh a c h1 h2 (Or.inl (by omega)))⟩
          · refine J_aload_n 26 rfl dX11_bringsOils_25 rfl ?_
            refine g_X11_m 29 rfl dX11_bringsOils_26 lkX11_9 ?_
            refine J_iload_n 30 rfl dX11_bringsOils_29 rfl ?_
            refine J_callSi (As := [_]) 33 rfl kalX11_engineAt lkX11_67 dX11_bringsOils_30 rfl rfl (by exact Nat.le_of_ble_eq_true rfl) (by omega) (S_X11_engineAt) ?_
            refine J_bipush 35 12 rfl dX11_bringsOils_33 bc_12 ?_
            refine J_iadd 36 rfl dX11_bringsOils_35 ?_
            refine J_iload_n 37 rfl dX11_bringsOils_36 rfl ?_
            refine J_iadd 38 rfl dX11_bringsOils_37 ?_
            refine J_aload_n 39 rfl dX11_bringsOils_38 rfl ?_
            refine g_X11_oils 42 rfl dX11_bringsOils_39 lkX11_32 ?_
            refine J_iload_n 43 rfl dX11_bringsOils_42 rfl ?_
            refine J_iald 44 rfl dX11_bringsOils_43 (sa_X11_oils) (by omega) ?_
            refine J_cv (b := J 357 (cyN f e + k)) rfl ?_
            refine J_mast 45 rfl dX11_bringsOils_44 (by omega) ?_
            refine J_iinc 48 1 rfl dX11_bringsOils_45 ic_1 rfl (Nat.le_of_ble_eq_true rfl) ?_
            refine J_iinc 51 1 rfl dX11_bringsOils_48 ic_1 rfl (Nat.le_of_ble_eq_true rfl) ?_
            refine J_goto 16 (by decide) dX11_bringsOils_51 ?_
            refine ih2 _ (by omega) (k + 1) _ rfl (by omega) ⟨fun a c h1 h2 h3 => ?_, fun i hh => ?_⟩
            · have a8 := (hO a h1).2.1
              rw [up1_app]
              split
              · next z => rw [show a = e by omega, show c = k by omega]
              · exact hP2.1 a c h1 h2 (by omega)
            · rw [up1_ne (fun z => hh e k hef (by omega) (Or.inr ⟨rfl, by omega⟩) (by omega))]
              exact hP2.2 i (fun a c h1 h2 h3 => hh a c h1 h2 (by omega))
      refine J_iload_n 5 rfl dX11_bringsOils_4 rfl ?_
      refine J_aload_n 6 rfl dX11_bringsOils_5 rfl ?_
      refine g_X11_m 9 rfl dX11_bringsOils_6 lkX11_9 ?_
      refine J_iconst 10 0 rfl dX11_bringsOils_9 ic_0 ?_
      refine J_mald 11 rfl dX11_bringsOils_10 (by omega) ?_
      refine J_cv (b := f 0) h00 ?_
      refine J_icmp_ge 60 14 (by decide) rfl dX11_bringsOils_11 (by omega) (by omega) (fun c11 => ?_) (fun c11 => ?_)
      · refine J_vret rfl dX11_bringsOils_60 ?_
        have e9 : e = f 0 := by omega
        subst e9
        exact ⟨rfl, h, rfl, hP⟩
      · refine J_iconst 15 0 rfl dX11_bringsOils_14 ic_0 ?_
        refine J_istore_n 16 rfl dX11_bringsOils_15 rfl (Nat.le_of_ble_eq_true rfl) ?_
        exact inner (by omega) _ 0 h rfl (Nat.zero_le _) hP
  refine J_iconst 1 0 rfl dX11_bringsOils_0 ic_0 ?_
  refine J_istore_n 2 rfl dX11_bringsOils_1 rfl (Nat.le_of_ble_eq_true rfl) ?_
  refine J_iconst 3 0 rfl dX11_bringsOils_2 ic_0 ?_
  refine J_istore_n 4 rfl dX11_bringsOils_3 rfl (Nat.le_of_ble_eq_true rfl) ?_
  exact outer _ 0 f rfl (Nat.zero_le _) ⟨fun a c _ _ h3 => absurd h3 (by omega), fun _ _ => rfl⟩

/-- brought back what was given one after the other -/
theorem xGN_out {f : Nat → Nat} {B : Nat} (hw : WF f B) (h : 0 < f 0) : ∀ k i, (∀ a c, a < f 0 → c < f (7 + 52 * a) → i ≠ 19 + 52 * a + c) → xGN f k i = f i
  | 0, _, _ => rfl
  | k + 1, i, hi => by
    have q := xGN_WF hw h k
    have e := xGN_eq hw h k
    have ih := xGN_out hw h k i hi
    have am := amN_lt (ol (xGN f k)) (cnt (xGN f k)) (by rw [e.1]; exact cnt_pos hw h)
    rw [e.1] at am
    have l := ln_ok hw.1 am
    show xG (xGN f k) i = f i
    unfold xG
    rw [e.1, e.2.1, e.2.2.1, up1_ne (hi _ _ l.1 l.2.1)]
    exact ih
theorem bro_xGN {f O h : Nat → Nat} {B u : Nat} (hw : WF f B) (hf : 0 < f 0) (hO : ∀ j, j < cnt f → O j = gvN (ol f) (cnt f) u j) (hP : broP f O h (f 0) 0) : h = xGN f u := by
  funext i
  have e := xGN_eq hw hf u
  by_cases q : ∃ a c, a < f 0 ∧ c < f (7 + 52 * a) ∧ i = 19 + 52 * a + c
  · obtain ⟨a, c, h1, h2, h3⟩ := q
    have h4 := hw.1
    have a8 := (hw.2.2.2.2.2.1 a h1).2.1
    have jl : cyN f a + c < cnt f := by
      have m1 := cyN_mono f (show a + 1 ≤ f 0 by omega)
      rw [cyN_succ] at m1
      unfold cnt
      omega
    rw [h3, hP.1 a c h1 h2 (Or.inl h1), hO _ jl, ← e.2.2.2 _ jl]
    unfold ol
    rw [e.2.1, e.2.2.1, (ln_of (by omega) h2).1, (ln_of (by omega) h2).2]
  · rw [hP.2 i (fun a c h1 h2 _ z => q ⟨a, c, h1, h2, z⟩), xGN_out hw hf u i (fun a c h1 h2 z => q ⟨a, c, h1, h2, z⟩)]
