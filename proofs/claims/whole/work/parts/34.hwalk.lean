/-! THE HOUSE: WHAT STANDS AGAINST A CHANGE, AND THE CHANGES (laid by wip/whole/src/p34.py) -/
/-- what stands against a change: 0 nothing, 1 index, 2 argument, 3 state -/
def fE (f : Nat → Nat) (n : Nat) : Nat := if 3 ≤ n ∧ n ≤ 8 then (if f 0 < 4 then 0 else 3) else 2
def fSwap (f : Nat → Nat) (e p q : Nat) : Nat := if (e < f 0 ∧ p < f (7 + 52 * e)) ∧ (e < f 0 ∧ q < f (7 + 52 * e)) then 0 else 1
def fRate (f : Nat → Nat) (e s : Nat) : Nat := if e < f 0 then (if s ≤ 9 then 0 else 2) else 1
def fRun (f : Nat → Nat) (e s : Nat) : Nat := if e < f 0 then (if 1 ≤ s ∧ s ≤ 99 then 0 else 2) else 1
def fOil (f : Nat → Nat) (e c u : Nat) : Nat := if e < f 0 ∧ c < f (7 + 52 * e) then (if 1 ≤ u ∧ u ≤ 99 then (if u ≤ f 2 then 0 else 3) else 2) else 1
def fFill (f : Nat → Nat) (u : Nat) : Nat := if 1 ≤ u ∧ u ≤ 99 then (if u ≤ f 2 ∧ 0 < f 0 then 0 else 3) else 2
def fBuy (f : Nat → Nat) (u : Nat) : Nat := if 1 ≤ u ∧ u ≤ 99 then (if f 2 + u ≤ 500 then 0 else 3) else 2
def fMonk (f : Nat → Nat) : Nat := if f 3 < 6 then 0 else 3
def fAble (f : Nat → Nat) (m v : Nat) : Nat := if m < f 3 ∧ v < 8 then 0 else 1
def fMend (f : Nat → Nat) (e h p : Nat) : Nat := if e < f 0 then (if (1 ≤ h ∧ h ≤ 9) ∧ (1 ≤ p ∧ p ≤ 9) then (if f 4 < 8 then 0 else 3) else 2) else 1
def fRep (f : Nat → Nat) : Nat := if 0 < f 4 then 0 else 3
def fPass (h : Nat) : Nat := if 1 ≤ h ∧ h ≤ 48 then 0 else 2
theorem S_X3_hasCylinder {g : Gn} {J : DJ} {b e p B : Nat} {f : Nat → Nat} (hb : isH b) (h : CQ J b f) (hw : WF f B) (he : e < 4294967296) (hp : p < 4294967296) : SJ g mX3_hasCylinder 2 0 0 [.ref (g.2 b), .int (nI (e)), .int (nI (p))] J (Ri (bt (e < f 0 ∧ p < f (7 + 52 * e))) J) NoX := by
  have h0 := hw.1
  have h2 := hw.2.1
  have h3 := hw.2.2.1
  have h4 := hw.2.2.2.2.1.1
  have s0 := h.1.1
  have s3 := h.1.2.1
  have s2 := h.1.2.2.1
  have s1 := h.1.2.2.2.1
  have sr := h.2.2.1.1
  refine SJ_of_VJ (by decide +kernel) (Nat.le_of_ble_eq_true rfl) ?_
  show VJ g mX3_hasCylinder 2 0 0 _ _ 0 [(0, .ref (g.2 b)), (1, .int (nI (e))), (2, .int (nI (p)))] [] J
  refine J_aload_n 1 rfl dX3_hasCylinder_0 rfl ?_
  refine J_iload_n 2 rfl dX3_hasCylinder_1 rfl ?_
  refine J_callVi (As := [_]) 5 _ rfl kalX3_hasEngine lkX3_81 dX3_hasCylinder_2 (lt_X3 (by first | assumption | exact isH_1 | exact isH_31 | exact isH_61 | exact isH_p (by omega) | exact isH_E (by assumption) (by omega) | exact isH_R (by assumption) | exact isH_K (by assumption) | exact isH_E isH_1 (by omega) | exact isH_R isH_1 | exact isH_K isH_1 | exact isH_R isH_31 | exact isH_K isH_31 | exact isH_E isH_31 (by omega))) (so_X3 (by first | assumption | exact isH_1 | exact isH_31 | exact isH_61 | exact isH_p (by omega) | exact isH_E (by assumption) (by omega) | exact isH_R (by assumption) | exact isH_K (by assumption) | exact isH_E isH_1 (by omega) | exact isH_R isH_1 | exact isH_K isH_1 | exact isH_R isH_31 | exact isH_K isH_31 | exact isH_E isH_31 (by omega))) rfl rfl rfl (by exact Nat.le_of_ble_eq_true rfl) (by omega) (S_X3_hasEngine hb he (by omega)) ?_
  refine J_ifb_eq (hdp := _) 25 8 (by decide) rfl dX3_hasCylinder_5 (fun c5 => ?_) (fun c5 => ?_)
  · refine J_iconst 26 0 rfl dX3_hasCylinder_25 ic_0 ?_
    refine J_zret0 rfl dX3_hasCylinder_26 ?_
    first
      | exact ⟨by rw [bt_t (by omega)], rfl⟩
      | exact ⟨by rw [bt_f (by omega)], rfl⟩
  · have ce := h.2.2.2.2 e (by omega)
    have c6 := ce.1
    have c8 := (hw.2.2.2.2.2.1 e (by omega)).2.1
    refine J_aload_n 9 rfl dX3_hasCylinder_8 rfl ?_
    refine g_X3_engines 12 (by first | assumption | exact isH_1 | exact isH_31 | exact isH_61 | exact isH_p (by omega) | exact isH_E (by assumption) (by omega) | exact isH_R (by assumption) | exact isH_K (by assumption) | exact isH_E isH_1 (by omega) | exact isH_R isH_1 | exact isH_K isH_1 | exact isH_R isH_31 | exact isH_K isH_31 | exact isH_E isH_31 (by omega)) rfl dX3_hasCylinder_9 lkX3_11 ?_
    refine J_iload_n 13 rfl dX3_hasCylinder_12 rfl ?_
    refine J_aaldE 14 _ rfl dX3_hasCylinder_13 (by first | assumption | exact isH_1 | exact isH_31 | exact isH_61 | exact isH_p (by omega) | exact isH_E (by assumption) (by omega) | exact isH_R (by assumption) | exact isH_K (by assumption) | exact isH_E isH_1 (by omega) | exact isH_R isH_1 | exact isH_K isH_1 | exact isH_R isH_31 | exact isH_K isH_31 | exact isH_E isH_31 (by omega)) (by omega) ?_
    refine J_iload_n 15 rfl dX3_hasCylinder_14 rfl ?_
    refine J_callVi (As := [_]) 18 _ rfl kalX1_hasCylinder lkX3_85 dX3_hasCylinder_15 (lt_X1 (by first | assumption | exact isH_1 | exact isH_31 | exact isH_61 | exact isH_p (by omega) | exact isH_E (by assumption) (by omega) | exact isH_R (by assumption) | exact isH_K (by assumption) | exact isH_E isH_1 (by omega) | exact isH_R isH_1 | exact isH_K isH_1 | exact isH_R isH_31 | exact isH_K isH_31 | exact isH_E isH_31 (by omega))) (so_X1 (by first | assumption | exact isH_1 | exact isH_31 | exact isH_61 | exact isH_p (by omega) | exact isH_E (by assumption) (by omega) | exact isH_R (by assumption) | exact isH_K (by assumption) | exact isH_E isH_1 (by omega) | exact isH_R isH_1 | exact isH_K isH_1 | exact isH_R isH_31 | exact isH_K isH_31 | exact isH_E isH_31 (by omega))) rfl rfl rfl (by exact Nat.le_of_ble_eq_true rfl) (by omega) (S_X1_hasCylinder (isH_E hb (by omega)) hp (by omega)) ?_
    refine J_ifb_eq (hdp := _) 25 21 (by decide) rfl dX3_hasCylinder_18 (fun c18 => ?_) (fun c18 => ?_)
    · refine J_iconst 26 0 rfl dX3_hasCylinder_25 ic_0 ?_
      refine J_zret0 rfl dX3_hasCylinder_26 ?_
      first
        | exact ⟨by rw [bt_t (by omega)], rfl⟩
        | exact ⟨by rw [bt_f (by omega)], rfl⟩
    · refine J_iconst 22 1 rfl dX3_hasCylinder_21 ic_1 ?_
      refine J_goto 26 (by decide) dX3_hasCylinder_22 ?_
      refine J_zret1 rfl dX3_hasCylinder_26 ?_
      first
        | exact ⟨by rw [bt_t (by omega)], rfl⟩
        | exact ⟨by rw [bt_f (by omega)], rfl⟩

theorem S_X3_faultOfEngine {g : Gn} {J : DJ} {b n B : Nat} {f : Nat → Nat} (hb : isH b) (h : CQ J b f) (hw : WF f B) (h_n : n < 4294967296) : SJ g mX3_faultOfEngine 1 0 0 [.ref (g.2 b), .int (nI (n))] J (Ri (fE f n) J) NoX := by
  have h0 := hw.1
  have h2 := hw.2.1
  have h3 := hw.2.2.1
  have h4 := hw.2.2.2.2.1.1
  have s0 := h.1.1
  have s3 := h.1.2.1
  have s2 := h.1.2.2.1
  have s1 := h.1.2.2.2.1
  have sr := h.2.2.1.1
  refine SJ_of_VJ (by decide +kernel) (Nat.le_of_ble_eq_true rfl) ?_
  show VJ g mX3_faultOfEngine 1 0 0 _ _ 0 [(0, .ref (g.2 b)), (1, .int (nI (n)))] [] J
  refine J_iload_n 1 rfl dX3_faultOfEngine_0 rfl ?_
  refine J_iconst 2 3 rfl dX3_faultOfEngine_1 ic_3 ?_
  refine J_bipush 4 8 rfl dX3_faultOfEngine_2 bc_8 ?_
  refine J_callSNi (As := [_, _, _]) (host := "EngineMonastery") 7 rfl kalX10_isWithin (by decide) dX3_faultOfEngine_4 rfl rfl (by exact Nat.le_of_ble_eq_true rfl) (by omega) (S_within_le (by omega) (by omega) (by omega)) ?_
  refine J_ifb_ne (hdp := _) 12 10 (by decide) rfl dX3_faultOfEngine_7 (fun c7 => ?_) (fun c7 => ?_)
  · refine J_aload_n 13 rfl dX3_faultOfEngine_12 rfl ?_
    refine g_X3_engineCount 16 (by first | assumption | exact isH_1 | exact isH_31 | exact isH_61 | exact isH_p (by omega) | exact isH_E (by assumption) (by omega) | exact isH_R (by assumption) | exact isH_K (by assumption) | exact isH_E isH_1 (by omega) | exact isH_R isH_1 | exact isH_K isH_1 | exact isH_R isH_31 | exact isH_K isH_31 | exact isH_E isH_31 (by omega)) rfl dX3_faultOfEngine_13 lkX3_43 ?_
    refine J_iconst 17 4 rfl dX3_faultOfEngine_16 ic_4 ?_
    refine J_icmp_ge 24 20 (by decide) rfl dX3_faultOfEngine_17 (by omega) (by omega) (fun c17 => ?_) (fun c17 => ?_)
    · refine J_iconst 25 3 rfl dX3_faultOfEngine_24 ic_3 ?_
      refine J_iret rfl dX3_faultOfEngine_25 ?_
      refine ⟨?_, rfl⟩
      unfold fE
      (repeat' split) <;> first | rfl | (exfalso; omega)
    · refine J_iconst 21 0 rfl dX3_faultOfEngine_20 ic_0 ?_
      refine J_goto 25 (by decide) dX3_faultOfEngine_21 ?_
      refine J_iret rfl dX3_faultOfEngine_25 ?_
      refine ⟨?_, rfl⟩
      unfold fE
      (repeat' split) <;> first | rfl | (exfalso; omega)
  · refine J_iconst 11 2 rfl dX3_faultOfEngine_10 ic_2 ?_
    refine J_iret rfl dX3_faultOfEngine_11 ?_
    refine ⟨?_, rfl⟩
    unfold fE
    (repeat' split) <;> first | rfl | (exfalso; omega)

theorem S_X3_faultOfExchange {g : Gn} {J : DJ} {b e p q B : Nat} {f : Nat → Nat} (hb : isH b) (h : CQ J b f) (hw : WF f B) (h_e : e < 4294967296) (h_p : p < 4294967296) (h_q : q < 4294967296) : SJ g mX3_faultOfExchange 3 0 0 [.ref (g.2 b), .int (nI (e)), .int (nI (p)), .int (nI (q))] J (Ri (fSwap f e p q) J) NoX := by
  have h0 := hw.1
  have h2 := hw.2.1
  have h3 := hw.2.2.1
  have h4 := hw.2.2.2.2.1.1
  have s0 := h.1.1
  have s3 := h.1.2.1
  have s2 := h.1.2.2.1
  have s1 := h.1.2.2.2.1
  have sr := h.2.2.1.1
  refine SJ_of_VJ (by decide +kernel) (Nat.le_of_ble_eq_true rfl) ?_
  show VJ g mX3_faultOfExchange 3 0 0 _ _ 0 [(0, .ref (g.2 b)), (1, .int (nI (e))), (2, .int (nI (p))), (3, .int (nI (q)))] [] J
  refine J_aload_n 1 rfl dX3_faultOfExchange_0 rfl ?_
  refine J_iload_n 2 rfl dX3_faultOfExchange_1 rfl ?_
  refine J_iload_n 3 rfl dX3_faultOfExchange_2 rfl ?_
  refine J_callVi (As := [_, _]) 6 _ rfl kalX3_hasCylinder lkX3_88 dX3_faultOfExchange_3 (lt_X3 (by first | assumption | exact isH_1 | exact isH_31 | exact isH_61 | exact isH_p (by omega) | exact isH_E (by assumption) (by omega) | exact isH_R (by assumption) | exact isH_K (by assumption) | exact isH_E isH_1 (by omega) | exact isH_R isH_1 | exact isH_K isH_1 | exact isH_R isH_31 | exact isH_K isH_31 | exact isH_E isH_31 (by omega))) (so_X3 (by first | assumption | exact isH_1 | exact isH_31 | exact isH_61 | exact isH_p (by omega) | exact isH_E (by assumption) (by omega) | exact isH_R (by assumption) | exact isH_K (by assumption) | exact isH_E isH_1 (by omega) | exact isH_R isH_1 | exact isH_K isH_1 | exact isH_R isH_31 | exact isH_K isH_31 | exact isH_E isH_31 (by omega))) rfl rfl rfl (by exact Nat.le_of_ble_eq_true rfl) (by omega) (S_X3_hasCylinder hb h hw (by omega) (by omega)) ?_
  refine J_ifb_eq (hdp := _) 22 9 (by decide) rfl dX3_faultOfExchange_6 (fun c6 => ?_) (fun c6 => ?_)
  · refine J_iconst 23 1 rfl dX3_faultOfExchange_22 ic_1 ?_
    refine J_iret rfl dX3_faultOfExchange_23 ?_
    refine ⟨?_, rfl⟩
    unfold fSwap
    (repeat' split) <;> first | rfl | (exfalso; omega)
  · refine J_aload_n 10 rfl dX3_faultOfExchange_9 rfl ?_
    refine J_iload_n 11 rfl dX3_faultOfExchange_10 rfl ?_
    refine J_iload_n 12 rfl dX3_faultOfExchange_11 rfl ?_
    refine J_callVi (As := [_, _]) 15 _ rfl kalX3_hasCylinder lkX3_88 dX3_faultOfExchange_12 (lt_X3 (by first | assumption | exact isH_1 | exact isH_31 | exact isH_61 | exact isH_p (by omega) | exact isH_E (by assumption) (by omega) | exact isH_R (by assumption) | exact isH_K (by assumption) | exact isH_E isH_1 (by omega) | exact isH_R isH_1 | exact isH_K isH_1 | exact isH_R isH_31 | exact isH_K isH_31 | exact isH_E isH_31 (by omega))) (so_X3 (by first | assumption | exact isH_1 | exact isH_31 | exact isH_61 | exact isH_p (by omega) | exact isH_E (by assumption) (by omega) | exact isH_R (by assumption) | exact isH_K (by assumption) | exact isH_E isH_1 (by omega) | exact isH_R isH_1 | exact isH_K isH_1 | exact isH_R isH_31 | exact isH_K isH_31 | exact isH_E isH_31 (by omega))) rfl rfl rfl (by exact Nat.le_of_ble_eq_true rfl) (by omega) (S_X3_hasCylinder hb h hw (by omega) (by omega)) ?_
    refine J_ifb_eq (hdp := _) 22 18 (by decide) rfl dX3_faultOfExchange_15 (fun c15 => ?_) (fun c15 => ?_)
    · refine J_iconst 23 1 rfl dX3_faultOfExchange_22 ic_1 ?_
      refine J_iret rfl dX3_faultOfExchange_23 ?_
      refine ⟨?_, rfl⟩
      unfold fSwap
      (repeat' split) <;> first | rfl | (exfalso; omega)
    · refine J_iconst 19 0 rfl dX3_faultOfExchange_18 ic_0 ?_
      refine J_goto 23 (by decide) dX3_faultOfExchange_19 ?_
      refine J_iret rfl dX3_faultOfExchange_23 ?_
      refine ⟨?_, rfl⟩
      unfold fSwap
      (repeat' split) <;> first | rfl | (exfalso; omega)

theorem S_X3_faultOfRate {g : Gn} {J : DJ} {b e s B : Nat} {f : Nat → Nat} (hb : isH b) (h : CQ J b f) (hw : WF f B) (h_e : e < 4294967296) (h_s : s < 4294967296) : SJ g mX3_faultOfRate 2 0 0 [.ref (g.2 b), .int (nI (e)), .int (nI (s))] J (Ri (fRate f e s) J) NoX := by
  have h0 := hw.1
  have h2 := hw.2.1
  have h3 := hw.2.2.1
  have h4 := hw.2.2.2.2.1.1
  have s0 := h.1.1
  have s3 := h.1.2.1
  have s2 := h.1.2.2.1
  have s1 := h.1.2.2.2.1
  have sr := h.2.2.1.1
  refine SJ_of_VJ (by decide +kernel) (Nat.le_of_ble_eq_true rfl) ?_
  show VJ g mX3_faultOfRate 2 0 0 _ _ 0 [(0, .ref (g.2 b)), (1, .int (nI (e))), (2, .int (nI (s)))] [] J
  refine J_aload_n 1 rfl dX3_faultOfRate_0 rfl ?_
  refine J_iload_n 2 rfl dX3_faultOfRate_1 rfl ?_
  refine J_callVi (As := [_]) 5 _ rfl kalX3_hasEngine lkX3_81 dX3_faultOfRate_2 (lt_X3 (by first | assumption | exact isH_1 | exact isH_31 | exact isH_61 | exact isH_p (by omega) | exact isH_E (by assumption) (by omega) | exact isH_R (by assumption) | exact isH_K (by assumption) | exact isH_E isH_1 (by omega) | exact isH_R isH_1 | exact isH_K isH_1 | exact isH_R isH_31 | exact isH_K isH_31 | exact isH_E isH_31 (by omega))) (so_X3 (by first | assumption | exact isH_1 | exact isH_31 | exact isH_61 | exact isH_p (by omega) | exact isH_E (by assumption) (by omega) | exact isH_R (by assumption) | exact isH_K (by assumption) | exact isH_E isH_1 (by omega) | exact isH_R isH_1 | exact isH_K isH_1 | exact isH_R isH_31 | exact isH_K isH_31 | exact isH_E isH_31 (by omega))) rfl rfl rfl (by exact Nat.le_of_ble_eq_true rfl) (by omega) (S_X3_hasEngine hb (by omega) (by omega)) ?_
  refine J_ifb_ne (hdp := _) 10 8 (by decide) rfl dX3_faultOfRate_5 (fun c5 => ?_) (fun c5 => ?_)
  · refine J_iload_n 11 rfl dX3_faultOfRate_10 rfl ?_
    refine J_iconst 12 0 rfl dX3_faultOfRate_11 ic_0 ?_
    refine J_bipush 14 9 rfl dX3_faultOfRate_12 bc_9 ?_
    refine J_callSNi (As := [_, _, _]) (host := "EngineMonastery") 17 rfl kalX10_isWithin (by decide) dX3_faultOfRate_14 rfl rfl (by exact Nat.le_of_ble_eq_true rfl) (by omega) (S_within_le (by omega) (by omega) (by omega)) ?_
    refine J_ifb_eq (hdp := _) 24 20 (by decide) rfl dX3_faultOfRate_17 (fun c17 => ?_) (fun c17 => ?_)
    · refine J_iconst 25 2 rfl dX3_faultOfRate_24 ic_2 ?_
      refine J_iret rfl dX3_faultOfRate_25 ?_
      refine ⟨?_, rfl⟩
      unfold fRate
      (repeat' split) <;> first | rfl | (exfalso; omega)
    · refine J_iconst 21 0 rfl dX3_faultOfRate_20 ic_0 ?_
      refine J_goto 25 (by decide) dX3_faultOfRate_21 ?_
      refine J_iret rfl dX3_faultOfRate_25 ?_
      refine ⟨?_, rfl⟩
      unfold fRate
      (repeat' split) <;> first | rfl | (exfalso; omega)
  · refine J_iconst 9 1 rfl dX3_faultOfRate_8 ic_1 ?_
    refine J_iret rfl dX3_faultOfRate_9 ?_
    refine ⟨?_, rfl⟩
    unfold fRate
    (repeat' split) <;> first | rfl | (exfalso; omega)

theorem S_X3_faultOfRun {g : Gn} {J : DJ} {b e s B : Nat} {f : Nat → Nat} (hb : isH b) (h : CQ J b f) (hw : WF f B) (h_e : e < 4294967296) (h_s : s < 4294967296) : SJ g mX3_faultOfRun 2 0 0 [.ref (g.2 b), .int (nI (e)), .int (nI (s))] J (Ri (fRun f e s) J) NoX := by
  have h0 := hw.1
  have h2 := hw.2.1
  have h3 := hw.2.2.1
  have h4 := hw.2.2.2.2.1.1
  have s0 := h.1.1
  have s3 := h.1.2.1
  have s2 := h.1.2.2.1
  have s1 := h.1.2.2.2.1
  have sr := h.2.2.1.1
  refine SJ_of_VJ (by decide +kernel) (Nat.le_of_ble_eq_true rfl) ?_
  show VJ g mX3_faultOfRun 2 0 0 _ _ 0 [(0, .ref (g.2 b)), (1, .int (nI (e))), (2, .int (nI (s)))] [] J
  refine J_aload_n 1 rfl dX3_faultOfRun_0 rfl ?_
  refine J_iload_n 2 rfl dX3_faultOfRun_1 rfl ?_
  refine J_callVi (As := [_]) 5 _ rfl kalX3_hasEngine lkX3_81 dX3_faultOfRun_2 (lt_X3 (by first | assumption | exact isH_1 | exact isH_31 | exact isH_61 | exact isH_p (by omega) | exact isH_E (by assumption) (by omega) | exact isH_R (by assumption) | exact isH_K (by assumption) | exact isH_E isH_1 (by omega) | exact isH_R isH_1 | exact isH_K isH_1 | exact isH_R isH_31 | exact isH_K isH_31 | exact isH_E isH_31 (by omega))) (so_X3 (by first | assumption | exact isH_1 | exact isH_31 | exact isH_61 | exact isH_p (by omega) | exact isH_E (by assumption) (by omega) | exact isH_R (by assumption) | exact isH_K (by assumption) | exact isH_E isH_1 (by omega) | exact isH_R isH_1 | exact isH_K isH_1 | exact isH_R isH_31 | exact isH_K isH_31 | exact isH_E isH_31 (by omega))) rfl rfl rfl (by exact Nat.le_of_ble_eq_true rfl) (by omega) (S_X3_hasEngine hb (by omega) (by omega)) ?_
  refine J_ifb_ne (hdp := _) 10 8 (by decide) rfl dX3_faultOfRun_5 (fun c5 => ?_) (fun c5 => ?_)
  · refine J_iload_n 11 rfl dX3_faultOfRun_10 rfl ?_
    refine J_iconst 12 1 rfl dX3_faultOfRun_11 ic_1 ?_
    refine J_bipush 14 99 rfl dX3_faultOfRun_12 bc_99 ?_
    refine J_callSNi (As := [_, _, _]) (host := "EngineMonastery") 17 rfl kalX10_isWithin (by decide) dX3_faultOfRun_14 rfl rfl (by exact Nat.le_of_ble_eq_true rfl) (by omega) (S_within_le (by omega) (by omega) (by omega)) ?_
    refine J_ifb_eq (hdp := _) 24 20 (by decide) rfl dX3_faultOfRun_17 (fun c17 => ?_) (fun c17 => ?_)
    · refine J_iconst 25 2 rfl dX3_faultOfRun_24 ic_2 ?_
      refine J_iret rfl dX3_faultOfRun_25 ?_
      refine ⟨?_, rfl⟩
      unfold fRun
      (repeat' split) <;> first | rfl | (exfalso; omega)
    · refine J_iconst 21 0 rfl dX3_faultOfRun_20 ic_0 ?_
      refine J_goto 25 (by decide) dX3_faultOfRun_21 ?_
      refine J_iret rfl dX3_faultOfRun_25 ?_
      refine ⟨?_, rfl⟩
      unfold fRun
      (repeat' split) <;> first | rfl | (exfalso; omega)
  · refine J_iconst 9 1 rfl dX3_faultOfRun_8 ic_1 ?_
    refine J_iret rfl dX3_faultOfRun_9 ?_
    refine ⟨?_, rfl⟩
    unfold fRun
    (repeat' split) <;> first | rfl | (exfalso; omega)

theorem S_X3_faultOfOil {g : Gn} {J : DJ} {b e c u B : Nat} {f : Nat → Nat} (hb : isH b) (h : CQ J b f) (hw : WF f B) (h_e : e < 4294967296) (h_c : c < 4294967296) (h_u : u < 4294967296) : SJ g mX3_faultOfOil 3 0 0 [.ref (g.2 b), .int (nI (e)), .int (nI (c)), .int (nI (u))] J (Ri (fOil f e c u) J) NoX := by
  have h0 := hw.1
  have h2 := hw.2.1
  have h3 := hw.2.2.1
  have h4 := hw.2.2.2.2.1.1
  have s0 := h.1.1
  have s3 := h.1.2.1
  have s2 := h.1.2.2.1
  have s1 := h.1.2.2.2.1
  have sr := h.2.2.1.1
  refine SJ_of_VJ (by decide +kernel) (Nat.le_of_ble_eq_true rfl) ?_
  show VJ g mX3_faultOfOil 3 0 0 _ _ 0 [(0, .ref (g.2 b)), (1, .int (nI (e))), (2, .int (nI (c))), (3, .int (nI (u)))] [] J
  refine J_aload_n 1 rfl dX3_faultOfOil_0 rfl ?_
  refine J_iload_n 2 rfl dX3_faultOfOil_1 rfl ?_
  refine J_iload_n 3 rfl dX3_faultOfOil_2 rfl ?_
  refine J_callVi (As := [_, _]) 6 _ rfl kalX3_hasCylinder lkX3_88 dX3_faultOfOil_3 (lt_X3 (by first | assumption | exact isH_1 | exact isH_31 | exact isH_61 | exact isH_p (by omega) | exact isH_E (by assumption) (by omega) | exact isH_R (by assumption) | exact isH_K (by assumption) | exact isH_E isH_1 (by omega) | exact isH_R isH_1 | exact isH_K isH_1 | exact isH_R isH_31 | exact isH_K isH_31 | exact isH_E isH_31 (by omega))) (so_X3 (by first | assumption | exact isH_1 | exact isH_31 | exact isH_61 | exact isH_p (by omega) | exact isH_E (by assumption) (by omega) | exact isH_R (by assumption) | exact isH_K (by assumption) | exact isH_E isH_1 (by omega) | exact isH_R isH_1 | exact isH_K isH_1 | exact isH_R isH_31 | exact isH_K isH_31 | exact isH_E isH_31 (by omega))) rfl rfl rfl (by exact Nat.le_of_ble_eq_true rfl) (by omega) (S_X3_hasCylinder hb h hw (by omega) (by omega)) ?_
  refine J_ifb_ne (hdp := _) 11 9 (by decide) rfl dX3_faultOfOil_6 (fun c6 => ?_) (fun c6 => ?_)
  · refine J_iload_n 12 rfl dX3_faultOfOil_11 rfl ?_
    refine J_iconst 13 1 rfl dX3_faultOfOil_12 ic_1 ?_
    refine J_bipush 15 99 rfl dX3_faultOfOil_13 bc_99 ?_
    refine J_callSNi (As := [_, _, _]) (host := "EngineMonastery") 18 rfl kalX10_isWithin (by decide) dX3_faultOfOil_15 rfl rfl (by exact Nat.le_of_ble_eq_true rfl) (by omega) (S_within_le (by omega) (by omega) (by omega)) ?_
    refine J_ifb_ne (hdp := _) 23 21 (by decide) rfl dX3_faultOfOil_18 (fun c18 => ?_) (fun c18 => ?_)
    · refine J_iload_n 24 rfl dX3_faultOfOil_23 rfl ?_
      refine J_aload_n 25 rfl dX3_faultOfOil_24 rfl ?_
      refine g_X3_store 28 (by first | assumption | exact isH_1 | exact isH_31 | exact isH_61 | exact isH_p (by omega) | exact isH_E (by assumption) (by omega) | exact isH_R (by assumption) | exact isH_K (by assumption) | exact isH_E isH_1 (by omega) | exact isH_R isH_1 | exact isH_K isH_1 | exact isH_R isH_31 | exact isH_K isH_31 | exact isH_E isH_31 (by omega)) rfl dX3_faultOfOil_25 lkX3_35 ?_
      refine J_icmp_gt 35 31 (by decide) rfl dX3_faultOfOil_28 (by omega) (by omega) (fun c28 => ?_) (fun c28 => ?_)
      · refine J_iconst 36 3 rfl dX3_faultOfOil_35 ic_3 ?_
        refine J_iret rfl dX3_faultOfOil_36 ?_
        refine ⟨?_, rfl⟩
        unfold fOil
        (repeat' split) <;> first | rfl | (exfalso; omega)
      · refine J_iconst 32 0 rfl dX3_faultOfOil_31 ic_0 ?_
        refine J_goto 36 (by decide) dX3_faultOfOil_32 ?_
        refine J_iret rfl dX3_faultOfOil_36 ?_
        refine ⟨?_, rfl⟩
        unfold fOil
        (repeat' split) <;> first | rfl | (exfalso; omega)
    · refine J_iconst 22 2 rfl dX3_faultOfOil_21 ic_2 ?_
      refine J_iret rfl dX3_faultOfOil_22 ?_
      refine ⟨?_, rfl⟩
      unfold fOil
      (repeat' split) <;> first | rfl | (exfalso; omega)
  · refine J_iconst 10 1 rfl dX3_faultOfOil_9 ic_1 ?_
    refine J_iret rfl dX3_faultOfOil_10 ?_
    refine ⟨?_, rfl⟩
    unfold fOil
    (repeat' split) <;> first | rfl | (exfalso; omega)

theorem S_X3_faultOfFill {g : Gn} {J : DJ} {b u B : Nat} {f : Nat → Nat} (hb : isH b) (h : CQ J b f) (hw : WF f B) (h_u : u < 4294967296) : SJ g mX3_faultOfFill 1 0 0 [.ref (g.2 b), .int (nI (u))] J (Ri (fFill f u) J) NoX := by
  have h0 := hw.1
  have h2 := hw.2.1
  have h3 := hw.2.2.1
  have h4 := hw.2.2.2.2.1.1
  have s0 := h.1.1
  have s3 := h.1.2.1
  have s2 := h.1.2.2.1
  have s1 := h.1.2.2.2.1
  have sr := h.2.2.1.1
  refine SJ_of_VJ (by decide +kernel) (Nat.le_of_ble_eq_true rfl) ?_
  show VJ g mX3_faultOfFill 1 0 0 _ _ 0 [(0, .ref (g.2 b)), (1, .int (nI (u)))] [] J
  refine J_iload_n 1 rfl dX3_faultOfFill_0 rfl ?_
  refine J_iconst 2 1 rfl dX3_faultOfFill_1 ic_1 ?_
  refine J_bipush 4 99 rfl dX3_faultOfFill_2 bc_99 ?_
  refine J_callSNi (As := [_, _, _]) (host := "EngineMonastery") 7 rfl kalX10_isWithin (by decide) dX3_faultOfFill_4 rfl rfl (by exact Nat.le_of_ble_eq_true rfl) (by omega) (S_within_le (by omega) (by omega) (by omega)) ?_
  refine J_ifb_ne (hdp := _) 12 10 (by decide) rfl dX3_faultOfFill_7 (fun c7 => ?_) (fun c7 => ?_)
  · refine J_iload_n 13 rfl dX3_faultOfFill_12 rfl ?_
    refine J_aload_n 14 rfl dX3_faultOfFill_13 rfl ?_
    refine g_X3_store 17 (by first | assumption | exact isH_1 | exact isH_31 | exact isH_61 | exact isH_p (by omega) | exact isH_E (by assumption) (by omega) | exact isH_R (by assumption) | exact isH_K (by assumption) | exact isH_E isH_1 (by omega) | exact isH_R isH_1 | exact isH_K isH_1 | exact isH_R isH_31 | exact isH_K isH_31 | exact isH_E isH_31 (by omega)) rfl dX3_faultOfFill_14 lkX3_35 ?_
    refine J_icmp_gt 31 20 (by decide) rfl dX3_faultOfFill_17 (by omega) (by omega) (fun c17 => ?_) (fun c17 => ?_)
    · refine J_iconst 32 3 rfl dX3_faultOfFill_31 ic_3 ?_
      refine J_iret rfl dX3_faultOfFill_32 ?_
      refine ⟨?_, rfl⟩
      unfold fFill
      (repeat' split) <;> first | rfl | (exfalso; omega)
    · refine J_aload_n 21 rfl dX3_faultOfFill_20 rfl ?_
      refine g_X3_engineCount 24 (by first | assumption | exact isH_1 | exact isH_31 | exact isH_61 | exact isH_p (by omega) | exact isH_E (by assumption) (by omega) | exact isH_R (by assumption) | exact isH_K (by assumption) | exact isH_E isH_1 (by omega) | exact isH_R isH_1 | exact isH_K isH_1 | exact isH_R isH_31 | exact isH_K isH_31 | exact isH_E isH_31 (by omega)) rfl dX3_faultOfFill_21 lkX3_43 ?_
      refine J_if_le 31 27 (by decide) rfl dX3_faultOfFill_24 (by omega) (fun c24 => ?_) (fun c24 => ?_)
      · refine J_iconst 32 3 rfl dX3_faultOfFill_31 ic_3 ?_
        refine J_iret rfl dX3_faultOfFill_32 ?_
        refine ⟨?_, rfl⟩
        unfold fFill
        (repeat' split) <;> first | rfl | (exfalso; omega)
      · refine J_iconst 28 0 rfl dX3_faultOfFill_27 ic_0 ?_
        refine J_goto 32 (by decide) dX3_faultOfFill_28 ?_
        refine J_iret rfl dX3_faultOfFill_32 ?_
        refine ⟨?_, rfl⟩
        unfold fFill
        (repeat' split) <;> first | rfl | (exfalso; omega)
  · refine J_iconst 11 2 rfl dX3_faultOfFill_10 ic_2 ?_
    refine J_iret rfl dX3_faultOfFill_11 ?_
    refine ⟨?_, rfl⟩
    unfold fFill
    (repeat' split) <;> first | rfl | (exfalso; omega)

theorem S_X3_faultOfPurchase {g : Gn} {J : DJ} {b u B : Nat} {f : Nat → Nat} (hb : isH b) (h : CQ J b f) (hw : WF f B) (h_u : u < 4294967296) : SJ g mX3_faultOfPurchase 1 0 0 [.ref (g.2 b), .int (nI (u))] J (Ri (fBuy f u) J) NoX := by
  have h0 := hw.1
  have h2 := hw.2.1
  have h3 := hw.2.2.1
  have h4 := hw.2.2.2.2.1.1
  have s0 := h.1.1
  have s3 := h.1.2.1
  have s2 := h.1.2.2.1
  have s1 := h.1.2.2.2.1
  have sr := h.2.2.1.1
  refine SJ_of_VJ (by decide +kernel) (Nat.le_of_ble_eq_true rfl) ?_
  show VJ g mX3_faultOfPurchase 1 0 0 _ _ 0 [(0, .ref (g.2 b)), (1, .int (nI (u)))] [] J
  refine J_iload_n 1 rfl dX3_faultOfPurchase_0 rfl ?_
  refine J_iconst 2 1 rfl dX3_faultOfPurchase_1 ic_1 ?_
  refine J_bipush 4 99 rfl dX3_faultOfPurchase_2 bc_99 ?_
  refine J_callSNi (As := [_, _, _]) (host := "EngineMonastery") 7 rfl kalX10_isWithin (by decide) dX3_faultOfPurchase_4 rfl rfl (by exact Nat.le_of_ble_eq_true rfl) (by omega) (S_within_le (by omega) (by omega) (by omega)) ?_
  refine J_ifb_ne (hdp := _) 12 10 (by decide) rfl dX3_faultOfPurchase_7 (fun c7 => ?_) (fun c7 => ?_)
  · refine J_aload_n 13 rfl dX3_faultOfPurchase_12 rfl ?_
    refine g_X3_store 16 (by first | assumption | exact isH_1 | exact isH_31 | exact isH_61 | exact isH_p (by omega) | exact isH_E (by assumption) (by omega) | exact isH_R (by assumption) | exact isH_K (by assumption) | exact isH_E isH_1 (by omega) | exact isH_R isH_1 | exact isH_K isH_1 | exact isH_R isH_31 | exact isH_K isH_31 | exact isH_E isH_31 (by omega)) rfl dX3_faultOfPurchase_13 lkX3_35 ?_
    refine J_iload_n 17 rfl dX3_faultOfPurchase_16 rfl ?_
    refine J_iadd 18 rfl dX3_faultOfPurchase_17 ?_
    refine J_sipush 21 500 rfl dX3_faultOfPurchase_18 sc_500 ?_
    refine J_icmp_gt 28 24 (by decide) rfl dX3_faultOfPurchase_21 (by omega) (by omega) (fun c21 => ?_) (fun c21 => ?_)
    · refine J_iconst 29 3 rfl dX3_faultOfPurchase_28 ic_3 ?_
      refine J_iret rfl dX3_faultOfPurchase_29 ?_
      refine ⟨?_, rfl⟩
      unfold fBuy
      (repeat' split) <;> first | rfl | (exfalso; omega)
    · refine J_iconst 25 0 rfl dX3_faultOfPurchase_24 ic_0 ?_
      refine J_goto 29 (by decide) dX3_faultOfPurchase_25 ?_
      refine J_iret rfl dX3_faultOfPurchase_29 ?_
      refine ⟨?_, rfl⟩
      unfold fBuy
      (repeat' split) <;> first | rfl | (exfalso; omega)
  · refine J_iconst 11 2 rfl dX3_faultOfPurchase_10 ic_2 ?_
    refine J_iret rfl dX3_faultOfPurchase_11 ?_
    refine ⟨?_, rfl⟩
    unfold fBuy
    (repeat' split) <;> first | rfl | (exfalso; omega)

theorem S_X3_faultOfMonk {g : Gn} {J : DJ} {b  B : Nat} {f : Nat → Nat} (hb : isH b) (h : CQ J b f) (hw : WF f B)  : SJ g mX3_faultOfMonk 0 0 0 [.ref (g.2 b)] J (Ri (fMonk f ) J) NoX := by
  have h0 := hw.1
  have h2 := hw.2.1
  have h3 := hw.2.2.1
  have h4 := hw.2.2.2.2.1.1
  have s0 := h.1.1
  have s3 := h.1.2.1
  have s2 := h.1.2.2.1
  have s1 := h.1.2.2.2.1
  have sr := h.2.2.1.1
  refine SJ_of_VJ (by decide +kernel) (Nat.le_of_ble_eq_true rfl) ?_
  show VJ g mX3_faultOfMonk 0 0 0 _ _ 0 [(0, .ref (g.2 b))] [] J
  refine J_aload_n 1 rfl dX3_faultOfMonk_0 rfl ?_
  refine g_X3_monkCount 4 (by first | assumption | exact isH_1 | exact isH_31 | exact isH_61 | exact isH_p (by omega) | exact isH_E (by assumption) (by omega) | exact isH_R (by assumption) | exact isH_K (by assumption) | exact isH_E isH_1 (by omega) | exact isH_R isH_1 | exact isH_K isH_1 | exact isH_R isH_31 | exact isH_K isH_31 | exact isH_E isH_31 (by omega)) rfl dX3_faultOfMonk_1 lkX3_62 ?_
  refine J_bipush 6 6 rfl dX3_faultOfMonk_4 bc_6 ?_
  refine J_icmp_ge 13 9 (by decide) rfl dX3_faultOfMonk_6 (by omega) (by omega) (fun c6 => ?_) (fun c6 => ?_)
  · refine J_iconst 14 3 rfl dX3_faultOfMonk_13 ic_3 ?_
    refine J_iret rfl dX3_faultOfMonk_14 ?_
    refine ⟨?_, rfl⟩
    unfold fMonk
    (repeat' split) <;> first | rfl | (exfalso; omega)
  · refine J_iconst 10 0 rfl dX3_faultOfMonk_9 ic_0 ?_
    refine J_goto 14 (by decide) dX3_faultOfMonk_10 ?_
    refine J_iret rfl dX3_faultOfMonk_14 ?_
    refine ⟨?_, rfl⟩
    unfold fMonk
    (repeat' split) <;> first | rfl | (exfalso; omega)

theorem S_X3_faultOfAble {g : Gn} {J : DJ} {b m v B : Nat} {f : Nat → Nat} (hb : isH b) (h : CQ J b f) (hw : WF f B) (h_m : m < 4294967296) (h_v : v < 4294967296) : SJ g mX3_faultOfAble 1 0 0 [.ref (g.2 b), .int (nI (m)), .int (nI (v))] J (Ri (fAble f m v) J) NoX := by
  have h0 := hw.1
  have h2 := hw.2.1
  have h3 := hw.2.2.1
  have h4 := hw.2.2.2.2.1.1
  have s0 := h.1.1
  have s3 := h.1.2.1
  have s2 := h.1.2.2.1
  have s1 := h.1.2.2.2.1
  have sr := h.2.2.1.1
  refine SJ_of_VJ (by decide +kernel) (Nat.le_of_ble_eq_true rfl) ?_
  show VJ g mX3_faultOfAble 1 0 0 _ _ 0 [(0, .ref (g.2 b)), (1, .int (nI (m))), (2, .int (nI (v)))] [] J
  refine J_iload_n 1 rfl dX3_faultOfAble_0 rfl ?_
  refine J_iconst 2 0 rfl dX3_faultOfAble_1 ic_0 ?_
  refine J_aload_n 3 rfl dX3_faultOfAble_2 rfl ?_
  refine g_X3_monkCount 6 (by first | assumption | exact isH_1 | exact isH_31 | exact isH_61 | exact isH_p (by omega) | exact isH_E (by assumption) (by omega) | exact isH_R (by assumption) | exact isH_K (by assumption) | exact isH_E isH_1 (by omega) | exact isH_R isH_1 | exact isH_K isH_1 | exact isH_R isH_31 | exact isH_K isH_31 | exact isH_E isH_31 (by omega)) rfl dX3_faultOfAble_3 lkX3_62 ?_
  refine J_iconst 7 1 rfl dX3_faultOfAble_6 ic_1 ?_
  refine J_isubR 8 rfl dX3_faultOfAble_7 ?_
  refine J_callSNi (As := [_, _, _]) (host := "EngineMonastery") 11 rfl kalX10_isWithin (by decide) dX3_faultOfAble_8 rfl rfl (by exact Nat.le_of_ble_eq_true rfl) (by omega) (S_within_lt (by omega) (by omega) (by omega)) ?_
  refine J_ifb_eq (hdp := _) 28 14 (by decide) rfl dX3_faultOfAble_11 (fun c11 => ?_) (fun c11 => ?_)
  · refine J_iconst 29 0 rfl dX3_faultOfAble_28 ic_0 ?_
    refine J_istore_n 30 rfl dX3_faultOfAble_29 rfl (Nat.le_of_ble_eq_true rfl) ?_
    refine J_iload_n 31 rfl dX3_faultOfAble_30 rfl ?_
    refine J_if_eq 38 34 (by decide) rfl dX3_faultOfAble_31 (by omega) (fun c31 => ?_) (fun c31 => ?_)
    · refine J_iconst 39 1 rfl dX3_faultOfAble_38 ic_1 ?_
      refine J_iret rfl dX3_faultOfAble_39 ?_
      refine ⟨?_, rfl⟩
      unfold fAble
      (repeat' split) <;> first | rfl | (exfalso; omega)
    · refine J_iconst 35 0 rfl dX3_faultOfAble_34 ic_0 ?_
      refine J_goto 39 (by decide) dX3_faultOfAble_35 ?_
      refine J_iret rfl dX3_faultOfAble_39 ?_
      refine ⟨?_, rfl⟩
      unfold fAble
      (repeat' split) <;> first | rfl | (exfalso; omega)
  · refine J_iload_n 15 rfl dX3_faultOfAble_14 rfl ?_
    refine J_iconst 16 0 rfl dX3_faultOfAble_15 ic_0 ?_
    refine J_bipush 18 7 rfl dX3_faultOfAble_16 bc_7 ?_
    refine J_callSNi (As := [_, _, _]) (host := "EngineMonastery") 21 rfl kalX10_isWithin (by decide) dX3_faultOfAble_18 rfl rfl (by exact Nat.le_of_ble_eq_true rfl) (by omega) (S_within_le (by omega) (by omega) (by omega)) ?_
    refine J_ifb_eq (hdp := _) 28 24 (by decide) rfl dX3_faultOfAble_21 (fun c21 => ?_) (fun c21 => ?_)
    · refine J_iconst 29 0 rfl dX3_faultOfAble_28 ic_0 ?_
      refine J_istore_n 30 rfl dX3_faultOfAble_29 rfl (Nat.le_of_ble_eq_true rfl) ?_
      refine J_iload_n 31 rfl dX3_faultOfAble_30 rfl ?_
      refine J_if_eq 38 34 (by decide) rfl dX3_faultOfAble_31 (by omega) (fun c31 => ?_) (fun c31 => ?_)
      · refine J_iconst 39 1 rfl dX3_faultOfAble_38 ic_1 ?_
        refine J_iret rfl dX3_faultOfAble_39 ?_
        refine ⟨?_, rfl⟩
        unfold fAble
        (repeat' split) <;> first | rfl | (exfalso; omega)
      · refine J_iconst 35 0 rfl dX3_faultOfAble_34 ic_0 ?_
        refine J_goto 39 (by decide) dX3_faultOfAble_35 ?_
        refine J_iret rfl dX3_faultOfAble_39 ?_
        refine ⟨?_, rfl⟩
        unfold fAble
        (repeat' split) <;> first | rfl | (exfalso; omega)
    · refine J_iconst 25 1 rfl dX3_faultOfAble_24 ic_1 ?_
      refine J_goto 29 (by decide) dX3_faultOfAble_25 ?_
      refine J_istore_n 30 rfl dX3_faultOfAble_29 rfl (Nat.le_of_ble_eq_true rfl) ?_
      refine J_iload_n 31 rfl dX3_faultOfAble_30 rfl ?_
      refine J_if_eq 38 34 (by decide) rfl dX3_faultOfAble_31 (by omega) (fun c31 => ?_) (fun c31 => ?_)
      · refine J_iconst 39 1 rfl dX3_faultOfAble_38 ic_1 ?_
        refine J_iret rfl dX3_faultOfAble_39 ?_
        refine ⟨?_, rfl⟩
        unfold fAble
        (repeat' split) <;> first | rfl | (exfalso; omega)
      · refine J_iconst 35 0 rfl dX3_faultOfAble_34 ic_0 ?_
        refine J_goto 39 (by decide) dX3_faultOfAble_35 ?_
        refine J_iret rfl dX3_faultOfAble_39 ?_
        refine ⟨?_, rfl⟩
        unfold fAble
        (repeat' split) <;> first | rfl | (exfalso; omega)

theorem S_X3_faultOfRepair {g : Gn} {J : DJ} {b e t p B : Nat} {f : Nat → Nat} (hb : isH b) (h : CQ J b f) (hw : WF f B) (h_e : e < 4294967296) (h_t : t < 4294967296) (h_p : p < 4294967296) : SJ g mX3_faultOfRepair 2 0 0 [.ref (g.2 b), .int (nI (e)), .int (nI (t)), .int (nI (p))] J (Ri (fMend f e t p) J) NoX := by
  have h0 := hw.1
  have h2 := hw.2.1
  have h3 := hw.2.2.1
  have h4 := hw.2.2.2.2.1.1
  have s0 := h.1.1
  have s3 := h.1.2.1
  have s2 := h.1.2.2.1
  have s1 := h.1.2.2.2.1
  have sr := h.2.2.1.1
  refine SJ_of_VJ (by decide +kernel) (Nat.le_of_ble_eq_true rfl) ?_
  show VJ g mX3_faultOfRepair 2 0 0 _ _ 0 [(0, .ref (g.2 b)), (1, .int (nI (e))), (2, .int (nI (t))), (3, .int (nI (p)))] [] J
  refine J_aload_n 1 rfl dX3_faultOfRepair_0 rfl ?_
  refine J_iload_n 2 rfl dX3_faultOfRepair_1 rfl ?_
  refine J_callVi (As := [_]) 5 _ rfl kalX3_hasEngine lkX3_81 dX3_faultOfRepair_2 (lt_X3 (by first | assumption | exact isH_1 | exact isH_31 | exact isH_61 | exact isH_p (by omega) | exact isH_E (by assumption) (by omega) | exact isH_R (by assumption) | exact isH_K (by assumption) | exact isH_E isH_1 (by omega) | exact isH_R isH_1 | exact isH_K isH_1 | exact isH_R isH_31 | exact isH_K isH_31 | exact isH_E isH_31 (by omega))) (so_X3 (by first | assumption | exact isH_1 | exact isH_31 | exact isH_61 | exact isH_p (by omega) | exact isH_E (by assumption) (by omega) | exact isH_R (by assumption) | exact isH_K (by assumption) | exact isH_E isH_1 (by omega) | exact isH_R isH_1 | exact isH_K isH_1 | exact isH_R isH_31 | exact isH_K isH_31 | exact isH_E isH_31 (by omega))) rfl rfl rfl (by exact Nat.le_of_ble_eq_true rfl) (by omega) (S_X3_hasEngine hb (by omega) (by omega)) ?_
  refine J_ifb_ne (hdp := _) 10 8 (by decide) rfl dX3_faultOfRepair_5 (fun c5 => ?_) (fun c5 => ?_)
  · refine J_iload_n 11 rfl dX3_faultOfRepair_10 rfl ?_
    refine J_iconst 12 1 rfl dX3_faultOfRepair_11 ic_1 ?_
    refine J_bipush 14 9 rfl dX3_faultOfRepair_12 bc_9 ?_
    refine J_callSNi (As := [_, _, _]) (host := "EngineMonastery") 17 rfl kalX10_isWithin (by decide) dX3_faultOfRepair_14 rfl rfl (by exact Nat.le_of_ble_eq_true rfl) (by omega) (S_within_le (by omega) (by omega) (by omega)) ?_
    refine J_ifb_eq (hdp := _) 30 20 (by decide) rfl dX3_faultOfRepair_17 (fun c17 => ?_) (fun c17 => ?_)
    · refine J_iconst 31 2 rfl dX3_faultOfRepair_30 ic_2 ?_
      refine J_iret rfl dX3_faultOfRepair_31 ?_
      refine ⟨?_, rfl⟩
      unfold fMend
      (repeat' split) <;> first | rfl | (exfalso; omega)
    · refine J_iload_n 21 rfl dX3_faultOfRepair_20 rfl ?_
      refine J_iconst 22 1 rfl dX3_faultOfRepair_21 ic_1 ?_
      refine J_bipush 24 9 rfl dX3_faultOfRepair_22 bc_9 ?_
      refine J_callSNi (As := [_, _, _]) (host := "EngineMonastery") 27 rfl kalX10_isWithin (by decide) dX3_faultOfRepair_24 rfl rfl (by exact Nat.le_of_ble_eq_true rfl) (by omega) (S_within_le (by omega) (by omega) (by omega)) ?_
      refine J_ifb_ne (hdp := _) 32 30 (by decide) rfl dX3_faultOfRepair_27 (fun c27 => ?_) (fun c27 => ?_)
      · refine J_aload_n 33 rfl dX3_faultOfRepair_32 rfl ?_
        refine g_X3_repairs 36 (by first | assumption | exact isH_1 | exact isH_31 | exact isH_61 | exact isH_p (by omega) | exact isH_E (by assumption) (by omega) | exact isH_R (by assumption) | exact isH_K (by assumption) | exact isH_E isH_1 (by omega) | exact isH_R isH_1 | exact isH_K isH_1 | exact isH_R isH_31 | exact isH_K isH_31 | exact isH_E isH_31 (by omega)) rfl dX3_faultOfRepair_33 lkX3_24 ?_
        refine g_X8_count 39 (by first | assumption | exact isH_1 | exact isH_31 | exact isH_61 | exact isH_p (by omega) | exact isH_E (by assumption) (by omega) | exact isH_R (by assumption) | exact isH_K (by assumption) | exact isH_E isH_1 (by omega) | exact isH_R isH_1 | exact isH_K isH_1 | exact isH_R isH_31 | exact isH_K isH_31 | exact isH_E isH_31 (by omega)) rfl dX3_faultOfRepair_36 lkX3_91 ?_
        refine J_bipush 41 8 rfl dX3_faultOfRepair_39 bc_8 ?_
        refine J_icmp_ge 48 44 (by decide) rfl dX3_faultOfRepair_41 (by omega) (by omega) (fun c41 => ?_) (fun c41 => ?_)
        · refine J_iconst 49 3 rfl dX3_faultOfRepair_48 ic_3 ?_
          refine J_iret rfl dX3_faultOfRepair_49 ?_
          refine ⟨?_, rfl⟩
          unfold fMend
          (repeat' split) <;> first | rfl | (exfalso; omega)
        · refine J_iconst 45 0 rfl dX3_faultOfRepair_44 ic_0 ?_
          refine J_goto 49 (by decide) dX3_faultOfRepair_45 ?_
          refine J_iret rfl dX3_faultOfRepair_49 ?_
          refine ⟨?_, rfl⟩
          unfold fMend
          (repeat' split) <;> first | rfl | (exfalso; omega)
      · refine J_iconst 31 2 rfl dX3_faultOfRepair_30 ic_2 ?_
        refine J_iret rfl dX3_faultOfRepair_31 ?_
        refine ⟨?_, rfl⟩
        unfold fMend
        (repeat' split) <;> first | rfl | (exfalso; omega)
  · refine J_iconst 9 1 rfl dX3_faultOfRepair_8 ic_1 ?_
    refine J_iret rfl dX3_faultOfRepair_9 ?_
    refine ⟨?_, rfl⟩
    unfold fMend
    (repeat' split) <;> first | rfl | (exfalso; omega)

theorem S_X3_faultOfRepairing {g : Gn} {J : DJ} {b  B : Nat} {f : Nat → Nat} (hb : isH b) (h : CQ J b f) (hw : WF f B)  : SJ g mX3_faultOfRepairing 0 0 0 [.ref (g.2 b)] J (Ri (fRep f ) J) NoX := by
  have h0 := hw.1
  have h2 := hw.2.1
  have h3 := hw.2.2.1
  have h4 := hw.2.2.2.2.1.1
  have s0 := h.1.1
  have s3 := h.1.2.1
  have s2 := h.1.2.2.1
  have s1 := h.1.2.2.2.1
  have sr := h.2.2.1.1
  refine SJ_of_VJ (by decide +kernel) (Nat.le_of_ble_eq_true rfl) ?_
  show VJ g mX3_faultOfRepairing 0 0 0 _ _ 0 [(0, .ref (g.2 b))] [] J
  refine J_aload_n 1 rfl dX3_faultOfRepairing_0 rfl ?_
  refine g_X3_repairs 4 (by first | assumption | exact isH_1 | exact isH_31 | exact isH_61 | exact isH_p (by omega) | exact isH_E (by assumption) (by omega) | exact isH_R (by assumption) | exact isH_K (by assumption) | exact isH_E isH_1 (by omega) | exact isH_R isH_1 | exact isH_K isH_1 | exact isH_R isH_31 | exact isH_K isH_31 | exact isH_E isH_31 (by omega)) rfl dX3_faultOfRepairing_1 lkX3_24 ?_
  refine g_X8_count 7 (by first | assumption | exact isH_1 | exact isH_31 | exact isH_61 | exact isH_p (by omega) | exact isH_E (by assumption) (by omega) | exact isH_R (by assumption) | exact isH_K (by assumption) | exact isH_E isH_1 (by omega) | exact isH_R isH_1 | exact isH_K isH_1 | exact isH_R isH_31 | exact isH_K isH_31 | exact isH_E isH_31 (by omega)) rfl dX3_faultOfRepairing_4 lkX3_91 ?_
  refine J_if_le 14 10 (by decide) rfl dX3_faultOfRepairing_7 (by omega) (fun c7 => ?_) (fun c7 => ?_)
  · refine J_iconst 15 3 rfl dX3_faultOfRepairing_14 ic_3 ?_
    refine J_iret rfl dX3_faultOfRepairing_15 ?_
    refine ⟨?_, rfl⟩
    unfold fRep
    (repeat' split) <;> first | rfl | (exfalso; omega)
  · refine J_iconst 11 0 rfl dX3_faultOfRepairing_10 ic_0 ?_
    refine J_goto 15 (by decide) dX3_faultOfRepairing_11 ?_
    refine J_iret rfl dX3_faultOfRepairing_15 ?_
    refine ⟨?_, rfl⟩
    unfold fRep
    (repeat' split) <;> first | rfl | (exfalso; omega)

theorem S_X3_faultOfHours {g : Gn} {J : DJ} {b t B : Nat} {f : Nat → Nat} (hb : isH b) (h : CQ J b f) (hw : WF f B) (h_t : t < 4294967296) : SJ g mX3_faultOfHours 1 0 0 [.ref (g.2 b), .int (nI (t))] J (Ri (fPass t) J) NoX := by
  have h0 := hw.1
  have h2 := hw.2.1
  have h3 := hw.2.2.1
  have h4 := hw.2.2.2.2.1.1
  have s0 := h.1.1
  have s3 := h.1.2.1
  have s2 := h.1.2.2.1
  have s1 := h.1.2.2.2.1
  have sr := h.2.2.1.1
  refine SJ_of_VJ (by decide +kernel) (Nat.le_of_ble_eq_true rfl) ?_
  show VJ g mX3_faultOfHours 1 0 0 _ _ 0 [(0, .ref (g.2 b)), (1, .int (nI (t)))] [] J
  refine J_iload_n 1 rfl dX3_faultOfHours_0 rfl ?_
  refine J_iconst 2 1 rfl dX3_faultOfHours_1 ic_1 ?_
  refine J_bipush 4 48 rfl dX3_faultOfHours_2 bc_48 ?_
  refine J_callSNi (As := [_, _, _]) (host := "EngineMonastery") 7 rfl kalX10_isWithin (by decide) dX3_faultOfHours_4 rfl rfl (by exact Nat.le_of_ble_eq_true rfl) (by omega) (S_within_le (by omega) (by omega) (by omega)) ?_
  refine J_ifb_eq (hdp := _) 14 10 (by decide) rfl dX3_faultOfHours_7 (fun c7 => ?_) (fun c7 => ?_)
  · refine J_iconst 15 2 rfl dX3_faultOfHours_14 ic_2 ?_
    refine J_iret rfl dX3_faultOfHours_15 ?_
    refine ⟨?_, rfl⟩
    unfold fPass
    (repeat' split) <;> first | rfl | (exfalso; omega)
  · refine J_iconst 11 0 rfl dX3_faultOfHours_10 ic_0 ?_
    refine J_goto 15 (by decide) dX3_faultOfHours_11 ?_
    refine J_iret rfl dX3_faultOfHours_15 ?_
    refine ⟨?_, rfl⟩
    unfold fPass
    (repeat' split) <;> first | rfl | (exfalso; omega)

theorem S_X3_buildEngine {g : Gn} {J : DJ} {b n B B0 : Nat} {f : Nat → Nat} (hb : isH b) (h : CP J b f B0) (hw : WF f B) (hn3 : 3 ≤ n) (hn8 : n ≤ 8) (hf0 : f 0 < 4) : SJ g mX3_buildEngine 1 0 0 [.ref (g.2 b), .int (nI (n))] J (Rp (f 0) (fun J2 => Fr b 30 J J2 ∧ CP J2 b (xE f n) (B0 + 40))) NoX := by
  have h0 := hw.1
  have h2 := hw.2.1
  have h3 := hw.2.2.1
  have h4 := hw.2.2.2.2.1.1
  have s0 := h.1.1.1
  have s3 := h.1.1.2.1
  have s2 := h.1.1.2.2.1
  have s1 := h.1.1.2.2.2.1
  have s5 := h.1.1.2.2.2.2
  have hB := hw.2.2.2.2.2.2.2.2.1
  have h5 := hw.2.2.2.2.2.2.2.2.2
  have h6 := hw.2.2.2.1.1
  refine SJ_of_VJ (by decide +kernel) (Nat.le_of_ble_eq_true rfl) ?_
  show VJ g mX3_buildEngine 1 0 0 _ _ 0 [(0, .ref (g.2 b)), (1, .int (nI (n)))] [] J
  refine J_aload_n 1 rfl dX3_buildEngine_0 rfl ?_
  refine g_X3_engines 4 (by first | assumption | exact isH_1 | exact isH_31 | exact isH_61 | exact isH_p (by omega) | exact isH_E (by assumption) (by omega) | exact isH_R (by assumption) | exact isH_K (by assumption) | exact isH_E isH_1 (by omega) | exact isH_R isH_1 | exact isH_K isH_1 | exact isH_R isH_31 | exact isH_K isH_31 | exact isH_E isH_31 (by omega)) rfl dX3_buildEngine_1 lkX3_11 ?_
  refine J_aload_n 5 rfl dX3_buildEngine_4 rfl ?_
  refine g_X3_engineCount 8 (by first | assumption | exact isH_1 | exact isH_31 | exact isH_61 | exact isH_p (by omega) | exact isH_E (by assumption) (by omega) | exact isH_R (by assumption) | exact isH_K (by assumption) | exact isH_E isH_1 (by omega) | exact isH_R isH_1 | exact isH_K isH_1 | exact isH_R isH_31 | exact isH_K isH_31 | exact isH_E isH_31 (by omega)) rfl dX3_buildEngine_5 lkX3_43 ?_
  refine J_cv (b := f 0) s0 ?_
  refine J_aaldE 9 _ rfl dX3_buildEngine_8 (by first | assumption | exact isH_1 | exact isH_31 | exact isH_61 | exact isH_p (by omega) | exact isH_E (by assumption) (by omega) | exact isH_R (by assumption) | exact isH_K (by assumption) | exact isH_E isH_1 (by omega) | exact isH_R isH_1 | exact isH_K isH_1 | exact isH_R isH_31 | exact isH_K isH_31 | exact isH_E isH_31 (by omega)) (by omega) ?_
  refine J_iload_n 10 rfl dX3_buildEngine_9 rfl ?_
  refine J_callVvp (As := [_]) 13 _ rfl kalX1_begin lkX3_179 dX3_buildEngine_10 (lt_X1 (by first | assumption | exact isH_1 | exact isH_31 | exact isH_61 | exact isH_p (by omega) | exact isH_E (by assumption) (by omega) | exact isH_R (by assumption) | exact isH_K (by assumption) | exact isH_E isH_1 (by omega) | exact isH_R isH_1 | exact isH_K isH_1 | exact isH_R isH_31 | exact isH_K isH_31 | exact isH_E isH_31 (by omega))) (so_X1 (by first | assumption | exact isH_1 | exact isH_31 | exact isH_61 | exact isH_p (by omega) | exact isH_E (by assumption) (by omega) | exact isH_R (by assumption) | exact isH_K (by assumption) | exact isH_E isH_1 (by omega) | exact isH_R isH_1 | exact isH_K isH_1 | exact isH_R isH_31 | exact isH_K isH_31 | exact isH_E isH_31 (by omega))) rfl rfl rfl (by exact Nat.le_of_ble_eq_true rfl) (by omega) (S_X1_begin (isH_E hb (by omega))) (fun J10 q10 => ?_)
  refine J_aload_n 14 rfl dX3_buildEngine_13 rfl ?_
  refine J_dup 15 rfl dX3_buildEngine_14 rfl ?_
  refine g_X3_initialOil 18 (by first | assumption | exact isH_1 | exact isH_31 | exact isH_61 | exact isH_p (by omega) | exact isH_E (by assumption) (by omega) | exact isH_R (by assumption) | exact isH_K (by assumption) | exact isH_E isH_1 (by omega) | exact isH_R isH_1 | exact isH_K isH_1 | exact isH_R isH_31 | exact isH_K isH_31 | exact isH_E isH_31 (by omega)) rfl dX3_buildEngine_15 lkX3_39 ?_
  refine J_cv (b := J b 7) (by rw [q10.1 b (by omega)]) ?_
  refine J_iload_n 19 rfl dX3_buildEngine_18 rfl ?_
  refine J_iconst 20 5 rfl dX3_buildEngine_19 ic_5 ?_
  refine J_imul 21 rfl dX3_buildEngine_20 ?_
  refine J_iadd 22 rfl dX3_buildEngine_21 ?_
  refine p_X3_initialOil 25 (by first | assumption | exact isH_1 | exact isH_31 | exact isH_61 | exact isH_p (by omega) | exact isH_E (by assumption) (by omega) | exact isH_R (by assumption) | exact isH_K (by assumption) | exact isH_E isH_1 (by omega) | exact isH_R isH_1 | exact isH_K isH_1 | exact isH_R isH_31 | exact isH_K isH_31 | exact isH_E isH_31 (by omega)) rfl dX3_buildEngine_22 lkX3_39 ?_
  refine J_aload_n 26 rfl dX3_buildEngine_25 rfl ?_
  refine J_dup 27 rfl dX3_buildEngine_26 rfl ?_
  refine g_X3_engineCount 30 (by first | assumption | exact isH_1 | exact isH_31 | exact isH_61 | exact isH_p (by omega) | exact isH_E (by assumption) (by omega) | exact isH_R (by assumption) | exact isH_K (by assumption) | exact isH_E isH_1 (by omega) | exact isH_R isH_1 | exact isH_K isH_1 | exact isH_R isH_31 | exact isH_K isH_31 | exact isH_E isH_31 (by omega)) rfl dX3_buildEngine_27 lkX3_43 ?_
  refine J_cv (b := f 0) (by rw [up2_app, if_neg (by omega), q10.1 b (by omega)]; exact s0) ?_
  refine J_iconst 31 1 rfl dX3_buildEngine_30 ic_1 ?_
  refine J_iadd 32 rfl dX3_buildEngine_31 ?_
  refine p_X3_engineCount 35 (by first | assumption | exact isH_1 | exact isH_31 | exact isH_61 | exact isH_p (by omega) | exact isH_E (by assumption) (by omega) | exact isH_R (by assumption) | exact isH_K (by assumption) | exact isH_E isH_1 (by omega) | exact isH_R isH_1 | exact isH_K isH_1 | exact isH_R isH_31 | exact isH_K isH_31 | exact isH_E isH_31 (by omega)) rfl dX3_buildEngine_32 lkX3_43 ?_
  refine J_aload_n 36 rfl dX3_buildEngine_35 rfl ?_
  refine g_X3_engineCount 39 (by first | assumption | exact isH_1 | exact isH_31 | exact isH_61 | exact isH_p (by omega) | exact isH_E (by assumption) (by omega) | exact isH_R (by assumption) | exact isH_K (by assumption) | exact isH_E isH_1 (by omega) | exact isH_R isH_1 | exact isH_K isH_1 | exact isH_R isH_31 | exact isH_K isH_31 | exact isH_E isH_31 (by omega)) rfl dX3_buildEngine_36 lkX3_43 ?_
  refine J_cv (b := f 0 + 1) (by rw [up2_app, if_pos ⟨rfl, rfl⟩]) ?_
  refine J_iconst 40 1 rfl dX3_buildEngine_39 ic_1 ?_
  refine J_isub 41 rfl dX3_buildEngine_40 (by omega) ?_
  refine J_iret rfl dX3_buildEngine_41 ?_
  exact ⟨rfl, CP_E h hw hn3 hn8 hf0 q10.1 q10.2.2.1 q10.2.2.2.1 q10.2.2.2.2.1 q10.2.2.2.2.2.1 q10.2.2.2.2.2.2.1 q10.2.2.2.2.2.2.2 rfl⟩

theorem S_X3_runEngine {g : Gn} {J : DJ} {b e s B B0 : Nat} {f : Nat → Nat} (hb : isH b) (h : CP J b f B0) (hw : WF f B) (he : e < f 0) (hBs : B + s < 1000000000) : SJ g mX3_runEngine 3 0 0 [.ref (g.2 b), .int (nI (e)), .int (nI (s))] J (Rp (eKn f (7 + 52 * e) s) (fun J2 => Fr b 30 J J2 ∧ CP J2 b (xRun f e s) B0)) NoX := by
  have h0 := hw.1
  have h2 := hw.2.1
  have h3 := hw.2.2.1
  have h4 := hw.2.2.2.2.1.1
  have s0 := h.1.1.1
  have s3 := h.1.1.2.1
  have s2 := h.1.1.2.2.1
  have s1 := h.1.1.2.2.2.1
  have s5 := h.1.1.2.2.2.2
  have hB := hw.2.2.2.2.2.2.2.2.1
  have h5 := hw.2.2.2.2.2.2.2.2.2
  have h6 := hw.2.2.2.1.1
  have kl := eKn_le f (7 + 52 * e) s
  refine SJ_of_VJ (by decide +kernel) (Nat.le_of_ble_eq_true rfl) ?_
  show VJ g mX3_runEngine 3 0 0 _ _ 0 [(0, .ref (g.2 b)), (1, .int (nI (e))), (2, .int (nI (s)))] [] J
  refine J_aload_n 1 rfl dX3_runEngine_0 rfl ?_
  refine g_X3_engines 4 (by first | assumption | exact isH_1 | exact isH_31 | exact isH_61 | exact isH_p (by omega) | exact isH_E (by assumption) (by omega) | exact isH_R (by assumption) | exact isH_K (by assumption) | exact isH_E isH_1 (by omega) | exact isH_R isH_1 | exact isH_K isH_1 | exact isH_R isH_31 | exact isH_K isH_31 | exact isH_E isH_31 (by omega)) rfl dX3_runEngine_1 lkX3_11 ?_
  refine J_iload_n 5 rfl dX3_runEngine_4 rfl ?_
  refine J_aaldE 6 _ rfl dX3_runEngine_5 (by first | assumption | exact isH_1 | exact isH_31 | exact isH_61 | exact isH_p (by omega) | exact isH_E (by assumption) (by omega) | exact isH_R (by assumption) | exact isH_K (by assumption) | exact isH_E isH_1 (by omega) | exact isH_R isH_1 | exact isH_K isH_1 | exact isH_R isH_31 | exact isH_K isH_31 | exact isH_E isH_31 (by omega)) (by omega) ?_
  refine J_iload_n 7 rfl dX3_runEngine_6 rfl ?_
  refine J_callVip (As := [_]) 10 _ rfl kalX1_turnOver lkX3_183 dX3_runEngine_7 (lt_X1 (by first | assumption | exact isH_1 | exact isH_31 | exact isH_61 | exact isH_p (by omega) | exact isH_E (by assumption) (by omega) | exact isH_R (by assumption) | exact isH_K (by assumption) | exact isH_E isH_1 (by omega) | exact isH_R isH_1 | exact isH_K isH_1 | exact isH_R isH_31 | exact isH_K isH_31 | exact isH_E isH_31 (by omega))) (so_X1 (by first | assumption | exact isH_1 | exact isH_31 | exact isH_61 | exact isH_p (by omega) | exact isH_E (by assumption) (by omega) | exact isH_R (by assumption) | exact isH_K (by assumption) | exact isH_E isH_1 (by omega) | exact isH_R isH_1 | exact isH_K isH_1 | exact isH_R isH_31 | exact isH_K isH_31 | exact isH_E isH_31 (by omega))) rfl rfl rfl (by exact Nat.le_of_ble_eq_true rfl) (by omega) (S_X1_turnOver (isH_E hb (by omega)) (h.1.2.2.2.2 e he) (hw.2.2.2.2.2.1 e he) (EB_of hB (by omega)) (by omega) hBs) (fun J7 q7 => ?_)
  refine J_istore_n 11 rfl dX3_runEngine_10 rfl (Nat.le_of_ble_eq_true rfl) ?_
  refine J_aload_n 12 rfl dX3_runEngine_11 rfl ?_
  refine J_dup 13 rfl dX3_runEngine_12 rfl ?_
  refine g_X3_burnedOil 16 (by first | assumption | exact isH_1 | exact isH_31 | exact isH_61 | exact isH_p (by omega) | exact isH_E (by assumption) (by omega) | exact isH_R (by assumption) | exact isH_K (by assumption) | exact isH_E isH_1 (by omega) | exact isH_R isH_1 | exact isH_K isH_1 | exact isH_R isH_31 | exact isH_K isH_31 | exact isH_E isH_31 (by omega)) rfl dX3_runEngine_13 lkX3_68 ?_
  refine J_cv (b := J b 9) (by rw [q7.1 b (by omega)]) ?_
  refine J_iload_n 17 rfl dX3_runEngine_16 rfl ?_
  refine J_iload_n 18 rfl dX3_runEngine_17 rfl ?_
  refine J_isub 19 rfl dX3_runEngine_18 (by omega) ?_
  refine J_iadd 20 rfl dX3_runEngine_19 ?_
  refine p_X3_burnedOil 23 (by first | assumption | exact isH_1 | exact isH_31 | exact isH_61 | exact isH_p (by omega) | exact isH_E (by assumption) (by omega) | exact isH_R (by assumption) | exact isH_K (by assumption) | exact isH_E isH_1 (by omega) | exact isH_R isH_1 | exact isH_K isH_1 | exact isH_R isH_31 | exact isH_K isH_31 | exact isH_E isH_31 (by omega)) rfl dX3_runEngine_20 lkX3_68 ?_
  refine J_aload_n 24 rfl dX3_runEngine_23 rfl ?_
  refine g_X3_knockBook 27 (by first | assumption | exact isH_1 | exact isH_31 | exact isH_61 | exact isH_p (by omega) | exact isH_E (by assumption) (by omega) | exact isH_R (by assumption) | exact isH_K (by assumption) | exact isH_E isH_1 (by omega) | exact isH_R isH_1 | exact isH_K isH_1 | exact isH_R isH_31 | exact isH_K isH_31 | exact isH_E isH_31 (by omega)) rfl dX3_runEngine_24 lkX3_31 ?_
  refine J_aload_n 28 rfl dX3_runEngine_27 rfl ?_
  refine g_X3_hour 31 (by first | assumption | exact isH_1 | exact isH_31 | exact isH_61 | exact isH_p (by omega) | exact isH_E (by assumption) (by omega) | exact isH_R (by assumption) | exact isH_K (by assumption) | exact isH_E isH_1 (by omega) | exact isH_R isH_1 | exact isH_K isH_1 | exact isH_R isH_31 | exact isH_K isH_31 | exact isH_E isH_31 (by omega)) rfl dX3_runEngine_28 lkX3_71 ?_
  refine J_cv (b := f 1) (by rw [up2_app, if_neg (by omega), q7.1 b (by omega)]; exact s1) ?_
  refine J_iload_n 32 rfl dX3_runEngine_31 rfl ?_
  refine J_callVvp (As := [_, _]) 35 _ rfl kalX4_note lkX3_186 dX3_runEngine_32 (lt_X4 (by first | assumption | exact isH_1 | exact isH_31 | exact isH_61 | exact isH_p (by omega) | exact isH_E (by assumption) (by omega) | exact isH_R (by assumption) | exact isH_K (by assumption) | exact isH_E isH_1 (by omega) | exact isH_R isH_1 | exact isH_K isH_1 | exact isH_R isH_31 | exact isH_K isH_31 | exact isH_E isH_31 (by omega))) (so_X4 (by first | assumption | exact isH_1 | exact isH_31 | exact isH_61 | exact isH_p (by omega) | exact isH_E (by assumption) (by omega) | exact isH_R (by assumption) | exact isH_K (by assumption) | exact isH_E isH_1 (by omega) | exact isH_R isH_1 | exact isH_K isH_1 | exact isH_R isH_31 | exact isH_K isH_31 | exact isH_E isH_31 (by omega))) rfl rfl rfl (by exact Nat.le_of_ble_eq_true rfl) (by omega) (S_X4_note (isH_K hb) (CB_fr h.1.2.2.2.1 (fun c x y => by rw [up2_ne (by omega), q7.1 c (by omega)])) h6 (HB_of hB) (by omega) (by omega)) (fun J32 q32 => ?_)
  refine J_iload_n 36 rfl dX3_runEngine_35 rfl ?_
  refine J_iret rfl dX3_runEngine_36 ?_
  exact ⟨rfl, CP_run h hw he q7.1 q7.2 q32.1 q32.2⟩

theorem S_X3_giveOil {g : Gn} {J : DJ} {b e c u B B0 : Nat} {f : Nat → Nat} (hb : isH b) (h : CP J b f B0) (hw : WF f B) (he : e < f 0) (hc : c < f (7 + 52 * e)) (hu : u ≤ f 2) : SJ g mX3_giveOil 0 0 0 [.ref (g.2 b), .int (nI (e)), .int (nI (c)), .int (nI (u))] J (Rp (f (19 + 52 * e + c) + u) (fun J2 => Fr b 30 J J2 ∧ CP J2 b (xOil f e c u) B0)) NoX := by
  have h0 := hw.1
  have h2 := hw.2.1
  have h3 := hw.2.2.1
  have h4 := hw.2.2.2.2.1.1
  have s0 := h.1.1.1
  have s3 := h.1.1.2.1
  have s2 := h.1.1.2.2.1
  have s1 := h.1.1.2.2.2.1
  have s5 := h.1.1.2.2.2.2
  have hB := hw.2.2.2.2.2.2.2.2.1
  have h5 := hw.2.2.2.2.2.2.2.2.2
  have h6 := hw.2.2.2.1.1
  have c8 := (hw.2.2.2.2.2.1 e he).2.1
  have oc := ((h.1.2.2.2.2 e he).2.2.2.2.2.1 c hc).2.1
  rw [show 7 + 52 * e + 12 + c = 19 + 52 * e + c by omega] at oc
  refine SJ_of_VJ (by decide +kernel) (Nat.le_of_ble_eq_true rfl) ?_
  show VJ g mX3_giveOil 0 0 0 _ _ 0 [(0, .ref (g.2 b)), (1, .int (nI (e))), (2, .int (nI (c))), (3, .int (nI (u)))] [] J
  refine J_aload_n 1 rfl dX3_giveOil_0 rfl ?_
  refine J_dup 2 rfl dX3_giveOil_1 rfl ?_
  refine g_X3_store 5 (by first | assumption | exact isH_1 | exact isH_31 | exact isH_61 | exact isH_p (by omega) | exact isH_E (by assumption) (by omega) | exact isH_R (by assumption) | exact isH_K (by assumption) | exact isH_E isH_1 (by omega) | exact isH_R isH_1 | exact isH_K isH_1 | exact isH_R isH_31 | exact isH_K isH_31 | exact isH_E isH_31 (by omega)) rfl dX3_giveOil_2 lkX3_35 ?_
  refine J_cv (b := f 2) s2 ?_
  refine J_iload_n 6 rfl dX3_giveOil_5 rfl ?_
  refine J_isub 7 rfl dX3_giveOil_6 (by omega) ?_
  refine p_X3_store 10 (by first | assumption | exact isH_1 | exact isH_31 | exact isH_61 | exact isH_p (by omega) | exact isH_E (by assumption) (by omega) | exact isH_R (by assumption) | exact isH_K (by assumption) | exact isH_E isH_1 (by omega) | exact isH_R isH_1 | exact isH_K isH_1 | exact isH_R isH_31 | exact isH_K isH_31 | exact isH_E isH_31 (by omega)) rfl dX3_giveOil_7 lkX3_35 ?_
  refine J_aload_n 11 rfl dX3_giveOil_10 rfl ?_
  refine g_X3_engines 14 (by first | assumption | exact isH_1 | exact isH_31 | exact isH_61 | exact isH_p (by omega) | exact isH_E (by assumption) (by omega) | exact isH_R (by assumption) | exact isH_K (by assumption) | exact isH_E isH_1 (by omega) | exact isH_R isH_1 | exact isH_K isH_1 | exact isH_R isH_31 | exact isH_K isH_31 | exact isH_E isH_31 (by omega)) rfl dX3_giveOil_11 lkX3_11 ?_
  refine J_iload_n 15 rfl dX3_giveOil_14 rfl ?_
  refine J_aaldE 16 _ rfl dX3_giveOil_15 (by first | assumption | exact isH_1 | exact isH_31 | exact isH_61 | exact isH_p (by omega) | exact isH_E (by assumption) (by omega) | exact isH_R (by assumption) | exact isH_K (by assumption) | exact isH_E isH_1 (by omega) | exact isH_R isH_1 | exact isH_K isH_1 | exact isH_R isH_31 | exact isH_K isH_31 | exact isH_E isH_31 (by omega)) (by omega) ?_
  refine g_X1_oil 19 (by first | assumption | exact isH_1 | exact isH_31 | exact isH_61 | exact isH_p (by omega) | exact isH_E (by assumption) (by omega) | exact isH_R (by assumption) | exact isH_K (by assumption) | exact isH_E isH_1 (by omega) | exact isH_R isH_1 | exact isH_K isH_1 | exact isH_R isH_31 | exact isH_K isH_31 | exact isH_E isH_31 (by omega)) rfl dX3_giveOil_16 lkX3_190 ?_
  refine J_iload_n 20 rfl dX3_giveOil_19 rfl ?_
  refine J_dup2 21 rfl dX3_giveOil_20 rfl rfl ?_
  refine J_iald 22 rfl dX3_giveOil_21 (sa_X1_oil (by first | assumption | exact isH_1 | exact isH_31 | exact isH_61 | exact isH_p (by omega) | exact isH_E (by assumption) (by omega) | exact isH_R (by assumption) | exact isH_K (by assumption) | exact isH_E isH_1 (by omega) | exact isH_R isH_1 | exact isH_K isH_1 | exact isH_R isH_31 | exact isH_K isH_31 | exact isH_E isH_31 (by omega))) (by omega) ?_
  refine J_cv (b := f (19 + 52 * e + c)) (by rw [up2_ne (by omega)]; exact oc) ?_
  refine J_iload_n 23 rfl dX3_giveOil_22 rfl ?_
  refine J_iadd 24 rfl dX3_giveOil_23 ?_
  refine J_iast 25 rfl dX3_giveOil_24 (sa_X1_oil (by first | assumption | exact isH_1 | exact isH_31 | exact isH_61 | exact isH_p (by omega) | exact isH_E (by assumption) (by omega) | exact isH_R (by assumption) | exact isH_K (by assumption) | exact isH_E isH_1 (by omega) | exact isH_R isH_1 | exact isH_K isH_1 | exact isH_R isH_31 | exact isH_K isH_31 | exact isH_E isH_31 (by omega))) (by omega) ?_
  refine J_aload_n 26 rfl dX3_giveOil_25 rfl ?_
  refine g_X3_engines 29 (by first | assumption | exact isH_1 | exact isH_31 | exact isH_61 | exact isH_p (by omega) | exact isH_E (by assumption) (by omega) | exact isH_R (by assumption) | exact isH_K (by assumption) | exact isH_E isH_1 (by omega) | exact isH_R isH_1 | exact isH_K isH_1 | exact isH_R isH_31 | exact isH_K isH_31 | exact isH_E isH_31 (by omega)) rfl dX3_giveOil_26 lkX3_11 ?_
  refine J_iload_n 30 rfl dX3_giveOil_29 rfl ?_
  refine J_aaldE 31 _ rfl dX3_giveOil_30 (by first | assumption | exact isH_1 | exact isH_31 | exact isH_61 | exact isH_p (by omega) | exact isH_E (by assumption) (by omega) | exact isH_R (by assumption) | exact isH_K (by assumption) | exact isH_E isH_1 (by omega) | exact isH_R isH_1 | exact isH_K isH_1 | exact isH_R isH_31 | exact isH_K isH_31 | exact isH_E isH_31 (by omega)) (by omega) ?_
  refine g_X1_oil 34 (by first | assumption | exact isH_1 | exact isH_31 | exact isH_61 | exact isH_p (by omega) | exact isH_E (by assumption) (by omega) | exact isH_R (by assumption) | exact isH_K (by assumption) | exact isH_E isH_1 (by omega) | exact isH_R isH_1 | exact isH_K isH_1 | exact isH_R isH_31 | exact isH_K isH_31 | exact isH_E isH_31 (by omega)) rfl dX3_giveOil_31 lkX3_190 ?_
  refine J_iload_n 35 rfl dX3_giveOil_34 rfl ?_
  refine J_iald 36 rfl dX3_giveOil_35 (sa_X1_oil (by first | assumption | exact isH_1 | exact isH_31 | exact isH_61 | exact isH_p (by omega) | exact isH_E (by assumption) (by omega) | exact isH_R (by assumption) | exact isH_K (by assumption) | exact isH_E isH_1 (by omega) | exact isH_R isH_1 | exact isH_K isH_1 | exact isH_R isH_31 | exact isH_K isH_31 | exact isH_E isH_31 (by omega))) (by omega) ?_
  refine J_cv (b := f (19 + 52 * e + c) + u) (by rw [up2_app, if_pos ⟨rfl, rfl⟩]) ?_
  refine J_iret rfl dX3_giveOil_36 ?_
  exact ⟨rfl, CP_oil h hw he hc hu⟩

theorem S_X3_buyUnits {g : Gn} {J : DJ} {b u B B0 : Nat} {f : Nat → Nat} (hb : isH b) (h : CP J b f B0) (hw : WF f B) : SJ g mX3_buyUnits 0 0 0 [.ref (g.2 b), .int (nI (u))] J (Rp (f 2 + u) (fun J2 => Fr b 30 J J2 ∧ CP J2 b (xBuy f u) (B0 + u))) NoX := by
  have h0 := hw.1
  have h2 := hw.2.1
  have h3 := hw.2.2.1
  have h4 := hw.2.2.2.2.1.1
  have s0 := h.1.1.1
  have s3 := h.1.1.2.1
  have s2 := h.1.1.2.2.1
  have s1 := h.1.1.2.2.2.1
  have s5 := h.1.1.2.2.2.2
  have hB := hw.2.2.2.2.2.2.2.2.1
  have h5 := hw.2.2.2.2.2.2.2.2.2
  have h6 := hw.2.2.2.1.1
  refine SJ_of_VJ (by decide +kernel) (Nat.le_of_ble_eq_true rfl) ?_
  show VJ g mX3_buyUnits 0 0 0 _ _ 0 [(0, .ref (g.2 b)), (1, .int (nI (u)))] [] J
  refine J_aload_n 1 rfl dX3_buyUnits_0 rfl ?_
  refine J_dup 2 rfl dX3_buyUnits_1 rfl ?_
  refine g_X3_store 5 (by first | assumption | exact isH_1 | exact isH_31 | exact isH_61 | exact isH_p (by omega) | exact isH_E (by assumption) (by omega) | exact isH_R (by assumption) | exact isH_K (by assumption) | exact isH_E isH_1 (by omega) | exact isH_R isH_1 | exact isH_K isH_1 | exact isH_R isH_31 | exact isH_K isH_31 | exact isH_E isH_31 (by omega)) rfl dX3_buyUnits_2 lkX3_35 ?_
  refine J_cv (b := f 2) s2 ?_
  refine J_iload_n 6 rfl dX3_buyUnits_5 rfl ?_
  refine J_iadd 7 rfl dX3_buyUnits_6 ?_
  refine p_X3_store 10 (by first | assumption | exact isH_1 | exact isH_31 | exact isH_61 | exact isH_p (by omega) | exact isH_E (by assumption) (by omega) | exact isH_R (by assumption) | exact isH_K (by assumption) | exact isH_E isH_1 (by omega) | exact isH_R isH_1 | exact isH_K isH_1 | exact isH_R isH_31 | exact isH_K isH_31 | exact isH_E isH_31 (by omega)) rfl dX3_buyUnits_7 lkX3_35 ?_
  refine J_aload_n 11 rfl dX3_buyUnits_10 rfl ?_
  refine J_dup 12 rfl dX3_buyUnits_11 rfl ?_
  refine g_X3_boughtOil 15 (by first | assumption | exact isH_1 | exact isH_31 | exact isH_61 | exact isH_p (by omega) | exact isH_E (by assumption) (by omega) | exact isH_R (by assumption) | exact isH_K (by assumption) | exact isH_E isH_1 (by omega) | exact isH_R isH_1 | exact isH_K isH_1 | exact isH_R isH_31 | exact isH_K isH_31 | exact isH_E isH_31 (by omega)) rfl dX3_buyUnits_12 lkX3_65 ?_
  refine J_cv (b := J b 8) (by rw [up2_app, if_neg (by omega)]) ?_
  refine J_iload_n 16 rfl dX3_buyUnits_15 rfl ?_
  refine J_iadd 17 rfl dX3_buyUnits_16 ?_
  refine p_X3_boughtOil 20 (by first | assumption | exact isH_1 | exact isH_31 | exact isH_61 | exact isH_p (by omega) | exact isH_E (by assumption) (by omega) | exact isH_R (by assumption) | exact isH_K (by assumption) | exact isH_E isH_1 (by omega) | exact isH_R isH_1 | exact isH_K isH_1 | exact isH_R isH_31 | exact isH_K isH_31 | exact isH_E isH_31 (by omega)) rfl dX3_buyUnits_17 lkX3_65 ?_
  refine J_aload_n 21 rfl dX3_buyUnits_20 rfl ?_
  refine g_X3_store 24 (by first | assumption | exact isH_1 | exact isH_31 | exact isH_61 | exact isH_p (by omega) | exact isH_E (by assumption) (by omega) | exact isH_R (by assumption) | exact isH_K (by assumption) | exact isH_E isH_1 (by omega) | exact isH_R isH_1 | exact isH_K isH_1 | exact isH_R isH_31 | exact isH_K isH_31 | exact isH_E isH_31 (by omega)) rfl dX3_buyUnits_21 lkX3_35 ?_
  refine J_cv (b := f 2 + u) (by rw [up2_app, if_neg (by omega), up2_app, if_pos ⟨rfl, rfl⟩]) ?_
  refine J_iret rfl dX3_buyUnits_24 ?_
  exact ⟨rfl, CP_buy h hw⟩

theorem S_X3_receiveMonk {g : Gn} {J : DJ} {b  B B0 : Nat} {f : Nat → Nat} (hb : isH b) (h : CP J b f B0) (hw : WF f B) (hm : f 3 < 6) : SJ g mX3_receiveMonk 0 0 0 [.ref (g.2 b)] J (Rp (f 3) (fun J2 => Fr b 30 J J2 ∧ CP J2 b (xMonk f) B0)) NoX := by
  have h0 := hw.1
  have h2 := hw.2.1
  have h3 := hw.2.2.1
  have h4 := hw.2.2.2.2.1.1
  have s0 := h.1.1.1
  have s3 := h.1.1.2.1
  have s2 := h.1.1.2.2.1
  have s1 := h.1.1.2.2.2.1
  have s5 := h.1.1.2.2.2.2
  have hB := hw.2.2.2.2.2.2.2.2.1
  have h5 := hw.2.2.2.2.2.2.2.2.2
  have h6 := hw.2.2.2.1.1
  refine SJ_of_VJ (by decide +kernel) (Nat.le_of_ble_eq_true rfl) ?_
  show VJ g mX3_receiveMonk 0 0 0 _ _ 0 [(0, .ref (g.2 b))] [] J
  refine J_aload_n 1 rfl dX3_receiveMonk_0 rfl ?_
  refine g_X3_vigilsOf 4 (by first | assumption | exact isH_1 | exact isH_31 | exact isH_61 | exact isH_p (by omega) | exact isH_E (by assumption) (by omega) | exact isH_R (by assumption) | exact isH_K (by assumption) | exact isH_E isH_1 (by omega) | exact isH_R isH_1 | exact isH_K isH_1 | exact isH_R isH_31 | exact isH_K isH_31 | exact isH_E isH_31 (by omega)) rfl dX3_receiveMonk_1 lkX3_17 ?_
  refine J_aload_n 5 rfl dX3_receiveMonk_4 rfl ?_
  refine g_X3_monkCount 8 (by first | assumption | exact isH_1 | exact isH_31 | exact isH_61 | exact isH_p (by omega) | exact isH_E (by assumption) (by omega) | exact isH_R (by assumption) | exact isH_K (by assumption) | exact isH_E isH_1 (by omega) | exact isH_R isH_1 | exact isH_K isH_1 | exact isH_R isH_31 | exact isH_K isH_31 | exact isH_E isH_31 (by omega)) rfl dX3_receiveMonk_5 lkX3_62 ?_
  refine J_cv (b := f 3) s3 ?_
  refine J_iconst 9 0 rfl dX3_receiveMonk_8 ic_0 ?_
  refine J_iast 10 rfl dX3_receiveMonk_9 (sa_X3_vigilsOf (by first | assumption | exact isH_1 | exact isH_31 | exact isH_61 | exact isH_p (by omega) | exact isH_E (by assumption) (by omega) | exact isH_R (by assumption) | exact isH_K (by assumption) | exact isH_E isH_1 (by omega) | exact isH_R isH_1 | exact isH_K isH_1 | exact isH_R isH_31 | exact isH_K isH_31 | exact isH_E isH_31 (by omega))) (by omega) ?_
  refine J_aload_n 11 rfl dX3_receiveMonk_10 rfl ?_
  refine J_dup 12 rfl dX3_receiveMonk_11 rfl ?_
  refine g_X3_monkCount 15 (by first | assumption | exact isH_1 | exact isH_31 | exact isH_61 | exact isH_p (by omega) | exact isH_E (by assumption) (by omega) | exact isH_R (by assumption) | exact isH_K (by assumption) | exact isH_E isH_1 (by omega) | exact isH_R isH_1 | exact isH_K isH_1 | exact isH_R isH_31 | exact isH_K isH_31 | exact isH_E isH_31 (by omega)) rfl dX3_receiveMonk_12 lkX3_62 ?_
  refine J_cv (b := f 3) (by rw [up2_ne (by omega)]; exact s3) ?_
  refine J_iconst 16 1 rfl dX3_receiveMonk_15 ic_1 ?_
  refine J_iadd 17 rfl dX3_receiveMonk_16 ?_
  refine p_X3_monkCount 20 (by first | assumption | exact isH_1 | exact isH_31 | exact isH_61 | exact isH_p (by omega) | exact isH_E (by assumption) (by omega) | exact isH_R (by assumption) | exact isH_K (by assumption) | exact isH_E isH_1 (by omega) | exact isH_R isH_1 | exact isH_K isH_1 | exact isH_R isH_31 | exact isH_K isH_31 | exact isH_E isH_31 (by omega)) rfl dX3_receiveMonk_17 lkX3_62 ?_
  refine J_aload_n 21 rfl dX3_receiveMonk_20 rfl ?_
  refine g_X3_monkCount 24 (by first | assumption | exact isH_1 | exact isH_31 | exact isH_61 | exact isH_p (by omega) | exact isH_E (by assumption) (by omega) | exact isH_R (by assumption) | exact isH_K (by assumption) | exact isH_E isH_1 (by omega) | exact isH_R isH_1 | exact isH_K isH_1 | exact isH_R isH_31 | exact isH_K isH_31 | exact isH_E isH_31 (by omega)) rfl dX3_receiveMonk_21 lkX3_62 ?_
  refine J_cv (b := f 3 + 1) (by rw [up2_app, if_pos ⟨rfl, rfl⟩]) ?_
  refine J_iconst 25 1 rfl dX3_receiveMonk_24 ic_1 ?_
  refine J_isub 26 rfl dX3_receiveMonk_25 (by omega) ?_
  refine J_iret rfl dX3_receiveMonk_26 ?_
  exact ⟨rfl, CP_monk h hw hm⟩

theorem S_X3_changeAble {g : Gn} {J : DJ} {b m v a B B0 : Nat} {f : Nat → Nat} (hb : isH b) (h : CP J b f B0) (hw : WF f B) (hm : m < f 3) (hv : v < 8) (ha : a < 2) : SJ g mX3_changeAble 0 0 0 [.ref (g.2 b), .int (nI (m)), .int (nI (v)), .int (nI (a))] J (Rp (if (f (215 + m)).testBit v then 1 else 0) (fun J2 => Fr b 30 J J2 ∧ CP J2 b (xAble f m v a) B0)) NoX := by
  have h0 := hw.1
  have h2 := hw.2.1
  have h3 := hw.2.2.1
  have h4 := hw.2.2.2.2.1.1
  have s0 := h.1.1.1
  have s3 := h.1.1.2.1
  have s2 := h.1.1.2.2.1
  have s1 := h.1.1.2.2.2.1
  have s5 := h.1.1.2.2.2.2
  have hB := hw.2.2.2.2.2.2.2.2.1
  have h5 := hw.2.2.2.2.2.2.2.2.2
  have h6 := hw.2.2.2.1.1
  have hx := (hw.2.2.2.2.2.2.2.1 m (by omega)).1
  have hk := h.1.2.1 m (by omega)
  have h2v : (if (f (215 + m)).testBit v then 2 ^ v else 0) < 4294967296 := by
    split
    · exact Nat.lt_of_lt_of_le (Nat.pow_lt_pow_right (by omega) hv) (by decide)
    · omega
  have p0 : 0 < 2 ^ v := Nat.two_pow_pos v
  refine SJ_of_VJ (by decide +kernel) (Nat.le_of_ble_eq_true rfl) ?_
  show VJ g mX3_changeAble 0 0 0 _ _ 0 [(0, .ref (g.2 b)), (1, .int (nI (m))), (2, .int (nI (v))), (3, .int (nI (a)))] [] J
  refine J_iconst 1 1 rfl dX3_changeAble_0 ic_1 ?_
  refine J_iload_n 2 rfl dX3_changeAble_1 rfl ?_
  refine J_ishl 3 (2 ^ v) rfl dX3_changeAble_2 (sh1 v (by omega)) ?_
  refine J_istore 5 rfl dX3_changeAble_3 (Nat.le_of_ble_eq_true rfl) ?_
  refine J_aload_n 6 rfl dX3_changeAble_5 rfl ?_
  refine g_X3_vigilsOf 9 (by first | assumption | exact isH_1 | exact isH_31 | exact isH_61 | exact isH_p (by omega) | exact isH_E (by assumption) (by omega) | exact isH_R (by assumption) | exact isH_K (by assumption) | exact isH_E isH_1 (by omega) | exact isH_R isH_1 | exact isH_K isH_1 | exact isH_R isH_31 | exact isH_K isH_31 | exact isH_E isH_31 (by omega)) rfl dX3_changeAble_6 lkX3_17 ?_
  refine J_iload_n 10 rfl dX3_changeAble_9 rfl ?_
  refine J_iald 11 rfl dX3_changeAble_10 (sa_X3_vigilsOf (by first | assumption | exact isH_1 | exact isH_31 | exact isH_61 | exact isH_p (by omega) | exact isH_E (by assumption) (by omega) | exact isH_R (by assumption) | exact isH_K (by assumption) | exact isH_E isH_1 (by omega) | exact isH_R isH_1 | exact isH_K isH_1 | exact isH_R isH_31 | exact isH_K isH_31 | exact isH_E isH_31 (by omega))) (by omega) ?_
  refine J_cv (b := f (215 + m)) hk ?_
  refine J_iload 13 rfl dX3_changeAble_11 rfl ?_
  refine J_iand 14 (if (f (215 + m)).testBit v then 2 ^ v else 0) rfl dX3_changeAble_13 (and_bit v hv _ hx) ?_
  refine J_if_eq 21 17 (by decide) rfl dX3_changeAble_14 h2v (fun c14 => ?_) (fun c14 => ?_)
  · refine J_iconst 22 0 rfl dX3_changeAble_21 ic_0 ?_
    refine J_istore 24 rfl dX3_changeAble_22 (Nat.le_of_ble_eq_true rfl) ?_
    refine J_aload_n 25 rfl dX3_changeAble_24 rfl ?_
    refine g_X3_vigilsOf 28 (by first | assumption | exact isH_1 | exact isH_31 | exact isH_61 | exact isH_p (by omega) | exact isH_E (by assumption) (by omega) | exact isH_R (by assumption) | exact isH_K (by assumption) | exact isH_E isH_1 (by omega) | exact isH_R isH_1 | exact isH_K isH_1 | exact isH_R isH_31 | exact isH_K isH_31 | exact isH_E isH_31 (by omega)) rfl dX3_changeAble_25 lkX3_17 ?_
    refine J_iload_n 29 rfl dX3_changeAble_28 rfl ?_
    refine J_iload_n 30 rfl dX3_changeAble_29 rfl ?_
    refine J_if_eq 45 33 (by decide) rfl dX3_changeAble_30 (by omega) (fun c30 => ?_) (fun c30 => ?_)
    · refine J_aload_n 46 rfl dX3_changeAble_45 rfl ?_
      refine g_X3_vigilsOf 49 (by first | assumption | exact isH_1 | exact isH_31 | exact isH_61 | exact isH_p (by omega) | exact isH_E (by assumption) (by omega) | exact isH_R (by assumption) | exact isH_K (by assumption) | exact isH_E isH_1 (by omega) | exact isH_R isH_1 | exact isH_K isH_1 | exact isH_R isH_31 | exact isH_K isH_31 | exact isH_E isH_31 (by omega)) rfl dX3_changeAble_46 lkX3_17 ?_
      refine J_iload_n 50 rfl dX3_changeAble_49 rfl ?_
      refine J_iald 51 rfl dX3_changeAble_50 (sa_X3_vigilsOf (by first | assumption | exact isH_1 | exact isH_31 | exact isH_61 | exact isH_p (by omega) | exact isH_E (by assumption) (by omega) | exact isH_R (by assumption) | exact isH_K (by assumption) | exact isH_E isH_1 (by omega) | exact isH_R isH_1 | exact isH_K isH_1 | exact isH_R isH_31 | exact isH_K isH_31 | exact isH_E isH_31 (by omega))) (by omega) ?_
      refine J_cv (b := f (215 + m)) hk ?_
      refine J_iload 53 rfl dX3_changeAble_51 rfl ?_
      refine J_iconst 54 4294967295 rfl dX3_changeAble_53 ic_m1 ?_
      refine J_ixorR 55 rfl dX3_changeAble_54 ?_
      refine J_iand 56 (if (f (215 + m)).testBit v then f (215 + m) - 2 ^ v else f (215 + m)) rfl dX3_changeAble_55 (clr_bit v hv _ hx) ?_
      refine J_iast 57 rfl dX3_changeAble_56 (sa_X3_vigilsOf (by first | assumption | exact isH_1 | exact isH_31 | exact isH_61 | exact isH_p (by omega) | exact isH_E (by assumption) (by omega) | exact isH_R (by assumption) | exact isH_K (by assumption) | exact isH_E isH_1 (by omega) | exact isH_R isH_1 | exact isH_K isH_1 | exact isH_R isH_31 | exact isH_K isH_31 | exact isH_E isH_31 (by omega))) (by omega) ?_
      refine J_iload 59 rfl dX3_changeAble_57 rfl ?_
      refine J_zret0 rfl dX3_changeAble_59 ?_
      have q := CP_able (m := m) (v := if a = 0 then (if (f (215 + m)).testBit v then f (215 + m) - 2 ^ v else f (215 + m)) else f (215 + m) ||| 2 ^ v) h hw (by omega)
      unfold xAble
      first
        | rw [if_pos (show a = 0 by omega)] at q ⊢
        | rw [if_neg (show ¬ a = 0 by omega)] at q ⊢
      refine ⟨?_, q⟩
      split at c14 <;> first | omega | (rename_i z; simp [z])
    · refine J_aload_n 34 rfl dX3_changeAble_33 rfl ?_
      refine g_X3_vigilsOf 37 (by first | assumption | exact isH_1 | exact isH_31 | exact isH_61 | exact isH_p (by omega) | exact isH_E (by assumption) (by omega) | exact isH_R (by assumption) | exact isH_K (by assumption) | exact isH_E isH_1 (by omega) | exact isH_R isH_1 | exact isH_K isH_1 | exact isH_R isH_31 | exact isH_K isH_31 | exact isH_E isH_31 (by omega)) rfl dX3_changeAble_34 lkX3_17 ?_
      refine J_iload_n 38 rfl dX3_changeAble_37 rfl ?_
      refine J_iald 39 rfl dX3_changeAble_38 (sa_X3_vigilsOf (by first | assumption | exact isH_1 | exact isH_31 | exact isH_61 | exact isH_p (by omega) | exact isH_E (by assumption) (by omega) | exact isH_R (by assumption) | exact isH_K (by assumption) | exact isH_E isH_1 (by omega) | exact isH_R isH_1 | exact isH_K isH_1 | exact isH_R isH_31 | exact isH_K isH_31 | exact isH_E isH_31 (by omega))) (by omega) ?_
      refine J_cv (b := f (215 + m)) hk ?_
      refine J_iload 41 rfl dX3_changeAble_39 rfl ?_
      refine J_ior 42 (f (215 + m) ||| 2 ^ v) rfl dX3_changeAble_41 (or_bit v hv _ hx).1 ?_
      refine J_goto 56 (by decide) dX3_changeAble_42 ?_
      refine J_iast 57 rfl dX3_changeAble_56 (sa_X3_vigilsOf (by first | assumption | exact isH_1 | exact isH_31 | exact isH_61 | exact isH_p (by omega) | exact isH_E (by assumption) (by omega) | exact isH_R (by assumption) | exact isH_K (by assumption) | exact isH_E isH_1 (by omega) | exact isH_R isH_1 | exact isH_K isH_1 | exact isH_R isH_31 | exact isH_K isH_31 | exact isH_E isH_31 (by omega))) (by omega) ?_
      refine J_iload 59 rfl dX3_changeAble_57 rfl ?_
      refine J_zret0 rfl dX3_changeAble_59 ?_
      have q := CP_able (m := m) (v := if a = 0 then (if (f (215 + m)).testBit v then f (215 + m) - 2 ^ v else f (215 + m)) else f (215 + m) ||| 2 ^ v) h hw (by omega)
      unfold xAble
      first
        | rw [if_pos (show a = 0 by omega)] at q ⊢
        | rw [if_neg (show ¬ a = 0 by omega)] at q ⊢
      refine ⟨?_, q⟩
      split at c14 <;> first | omega | (rename_i z; simp [z])
  · refine J_iconst 18 1 rfl dX3_changeAble_17 ic_1 ?_
    refine J_goto 22 (by decide) dX3_changeAble_18 ?_
    refine J_istore 24 rfl dX3_changeAble_22 (Nat.le_of_ble_eq_true rfl) ?_
    refine J_aload_n 25 rfl dX3_changeAble_24 rfl ?_
    refine g_X3_vigilsOf 28 (by first | assumption | exact isH_1 | exact isH_31 | exact isH_61 | exact isH_p (by omega) | exact isH_E (by assumption) (by omega) | exact isH_R (by assumption) | exact isH_K (by assumption) | exact isH_E isH_1 (by omega) | exact isH_R isH_1 | exact isH_K isH_1 | exact isH_R isH_31 | exact isH_K isH_31 | exact isH_E isH_31 (by omega)) rfl dX3_changeAble_25 lkX3_17 ?_
    refine J_iload_n 29 rfl dX3_changeAble_28 rfl ?_
    refine J_iload_n 30 rfl dX3_changeAble_29 rfl ?_
    refine J_if_eq 45 33 (by decide) rfl dX3_changeAble_30 (by omega) (fun c30 => ?_) (fun c30 => ?_)
    · refine J_aload_n 46 rfl dX3_changeAble_45 rfl ?_
      refine g_X3_vigilsOf 49 (by first | assumption | exact isH_1 | exact isH_31 | exact isH_61 | exact isH_p (by omega) | exact isH_E (by assumption) (by omega) | exact isH_R (by assumption) | exact isH_K (by assumption) | exact isH_E isH_1 (by omega) | exact isH_R isH_1 | exact isH_K isH_1 | exact isH_R isH_31 | exact isH_K isH_31 | exact isH_E isH_31 (by omega)) rfl dX3_changeAble_46 lkX3_17 ?_
      refine J_iload_n 50 rfl dX3_changeAble_49 rfl ?_
      refine J_iald 51 rfl dX3_changeAble_50 (sa_X3_vigilsOf (by first | assumption | exact isH_1 | exact isH_31 | exact isH_61 | exact isH_p (by omega) | exact isH_E (by assumption) (by omega) | exact isH_R (by assumption) | exact isH_K (by assumption) | exact isH_E isH_1 (by omega) | exact isH_R isH_1 | exact isH_K isH_1 | exact isH_R isH_31 | exact isH_K isH_31 | exact isH_E isH_31 (by omega))) (by omega) ?_
      refine J_cv (b := f (215 + m)) hk ?_
      refine J_iload 53 rfl dX3_changeAble_51 rfl ?_
      refine J_iconst 54 4294967295 rfl dX3_changeAble_53 ic_m1 ?_
      refine J_ixorR 55 rfl dX3_changeAble_54 ?_
      refine J_iand 56 (if (f (215 + m)).testBit v then f (215 + m) - 2 ^ v else f (215 + m)) rfl dX3_changeAble_55 (clr_bit v hv _ hx) ?_
      refine J_iast 57 rfl dX3_changeAble_56 (sa_X3_vigilsOf (by first | assumption | exact isH_1 | exact isH_31 | exact isH_61 | exact isH_p (by omega) | exact isH_E (by assumption) (by omega) | exact isH_R (by assumption) | exact isH_K (by assumption) | exact isH_E isH_1 (by omega) | exact isH_R isH_1 | exact isH_K isH_1 | exact isH_R isH_31 | exact isH_K isH_31 | exact isH_E isH_31 (by omega))) (by omega) ?_
      refine J_iload 59 rfl dX3_changeAble_57 rfl ?_
      refine J_zret1 rfl dX3_changeAble_59 ?_
      have q := CP_able (m := m) (v := if a = 0 then (if (f (215 + m)).testBit v then f (215 + m) - 2 ^ v else f (215 + m)) else f (215 + m) ||| 2 ^ v) h hw (by omega)
      unfold xAble
      first
        | rw [if_pos (show a = 0 by omega)] at q ⊢
        | rw [if_neg (show ¬ a = 0 by omega)] at q ⊢
      refine ⟨?_, q⟩
      split at c14 <;> first | omega | (rename_i z; simp [z])
    · refine J_aload_n 34 rfl dX3_changeAble_33 rfl ?_
      refine g_X3_vigilsOf 37 (by first | assumption | exact isH_1 | exact isH_31 | exact isH_61 | exact isH_p (by omega) | exact isH_E (by assumption) (by omega) | exact isH_R (by assumption) | exact isH_K (by assumption) | exact isH_E isH_1 (by omega) | exact isH_R isH_1 | exact isH_K isH_1 | exact isH_R isH_31 | exact isH_K isH_31 | exact isH_E isH_31 (by omega)) rfl dX3_changeAble_34 lkX3_17 ?_
      refine J_iload_n 38 rfl dX3_changeAble_37 rfl ?_
      refine J_iald 39 rfl dX3_changeAble_38 (sa_X3_vigilsOf (by first | assumption | exact isH_1 | exact isH_31 | exact isH_61 | exact isH_p (by omega) | exact isH_E (by assumption) (by omega) | exact isH_R (by assumption) | exact isH_K (by assumption) | exact isH_E isH_1 (by omega) | exact isH_R isH_1 | exact isH_K isH_1 | exact isH_R isH_31 | exact isH_K isH_31 | exact isH_E isH_31 (by omega))) (by omega) ?_
      refine J_cv (b := f (215 + m)) hk ?_
      refine J_iload 41 rfl dX3_changeAble_39 rfl ?_
      refine J_ior 42 (f (215 + m) ||| 2 ^ v) rfl dX3_changeAble_41 (or_bit v hv _ hx).1 ?_
      refine J_goto 56 (by decide) dX3_changeAble_42 ?_
      refine J_iast 57 rfl dX3_changeAble_56 (sa_X3_vigilsOf (by first | assumption | exact isH_1 | exact isH_31 | exact isH_61 | exact isH_p (by omega) | exact isH_E (by assumption) (by omega) | exact isH_R (by assumption) | exact isH_K (by assumption) | exact isH_E isH_1 (by omega) | exact isH_R isH_1 | exact isH_K isH_1 | exact isH_R isH_31 | exact isH_K isH_31 | exact isH_E isH_31 (by omega))) (by omega) ?_
      refine J_iload 59 rfl dX3_changeAble_57 rfl ?_
      refine J_zret1 rfl dX3_changeAble_59 ?_
      have q := CP_able (m := m) (v := if a = 0 then (if (f (215 + m)).testBit v then f (215 + m) - 2 ^ v else f (215 + m)) else f (215 + m) ||| 2 ^ v) h hw (by omega)
      unfold xAble
      first
        | rw [if_pos (show a = 0 by omega)] at q ⊢
        | rw [if_neg (show ¬ a = 0 by omega)] at q ⊢
      refine ⟨?_, q⟩
      split at c14 <;> first | omega | (rename_i z; simp [z])

theorem S_X3_passHours {g : Gn} {J : DJ} {b n B B0 : Nat} {f : Nat → Nat} (hb : isH b) (h : CP J b f B0) (hw : WF f B) (hn : n ≤ 48) (hB9 : B < 900000000) : SJ g mX3_passHours 4 0 0 [.ref (g.2 b), .int (nI (n))] J (Rp (psK f n) (fun J2 => Fr b 30 J J2 ∧ CP J2 b (psN f n) B0)) NoX := by
  have h0 := hw.1
  have h2 := hw.2.1
  have h3 := hw.2.2.1
  have h4 := hw.2.2.2.2.1.1
  have s0 := h.1.1.1
  have s3 := h.1.1.2.1
  have s2 := h.1.1.2.2.1
  have s1 := h.1.1.2.2.2.1
  have s5 := h.1.1.2.2.2.2
  have hB := hw.2.2.2.2.2.2.2.2.1
  have h5 := hw.2.2.2.2.2.2.2.2.2
  have h6 := hw.2.2.2.1.1
  refine SJ_of_VJ (by decide +kernel) (Nat.le_of_ble_eq_true rfl) ?_
  show VJ g mX3_passHours 4 0 0 _ _ 0 [(0, .ref (g.2 b)), (1, .int (nI (n)))] [] J
  have loop : ∀ (n9 : Nat) (i : Nat) (J1 : DJ), n - i = n9 → i ≤ n → Fr b 30 J J1 → CP J1 b (psN f i) B0 → VJ g mX3_passHours 4 0 0 (Rp (psK f n) (fun J2 => Fr b 30 J J2 ∧ CP J2 b (psN f n) B0)) NoX 4 [(0, .ref (g.2 b)), (1, .int (nI (n))), (2, .int (nI (psK f i))), (3, .int (nI (i)))] [] J1 := by
    intro n9
    induction n9 using Nat.strongRecOn with
    | ind n9 ih =>
    intro i J1 hi hle f1 c1
    have wi := (psN_WF hw i).1
    have wi0 := wi.1
    refine J_iload_n 5 rfl dX3_passHours_4 rfl ?_
    refine J_iload_n 6 rfl dX3_passHours_5 rfl ?_
    refine J_icmp_ge 62 9 (by decide) rfl dX3_passHours_6 (by omega) (by omega) (fun c6 => ?_) (fun c6 => ?_)
    · refine J_iload_n 63 rfl dX3_passHours_62 rfl ?_
      refine J_iret rfl dX3_passHours_63 ?_
      have e : i = n := by omega
      subst e
      exact ⟨rfl, f1, c1⟩
    · have kont : ∀ (J2 : DJ), Fr b 30 J J2 → CP J2 b (hrE (psN f i) (psN f i 0)) B0 → VJ g mX3_passHours 4 0 0 (Rp (psK f n) (fun J2 => Fr b 30 J J2 ∧ CP J2 b (psN f n) B0)) NoX 56 [(0, .ref (g.2 b)), (1, .int (nI (n))), (2, .int (nI (psK f i + hrK (psN f i) (psN f i 0)))), (3, .int (nI (i))), (4, .int (nI (psN f i 0)))] [] J2 := by
        intro J2 f2 c2
        refine J_iinc 59 1 rfl dX3_passHours_56 ic_1 rfl (Nat.le_of_ble_eq_true rfl) ?_
        refine J_goto 4 (by decide) dX3_passHours_59 ?_
        refine J_keep [0, 1, 2, 3] ?_
        exact ih _ (by omega) (i + 1) _ rfl (by omega) f2 c2
      have inner : ∀ (n9 : Nat) (e : Nat) (J2 : DJ), psN f i 0 - e = n9 → e ≤ psN f i 0 → Fr b 30 J J2 → CP J2 b (hrE (psN f i) e) B0 → VJ g mX3_passHours 4 0 0 (Rp (psK f n) (fun J2 => Fr b 30 J J2 ∧ CP J2 b (psN f n) B0)) NoX 22 [(0, .ref (g.2 b)), (1, .int (nI (n))), (2, .int (nI (psK f i + hrK (psN f i) e))), (3, .int (nI (i))), (4, .int (nI (e)))] [] J2 := by
        intro n9
        induction n9 using Nat.strongRecOn with
        | ind n9 ihe =>
        intro e J2 hi2 hle2 f2 c2
        have wx := hrE_WF wi e (by omega)
        have w0 := wx.1.1
        have d0 := wx.2
        refine J_iload 24 rfl dX3_passHours_22 rfl ?_
        refine J_aload_n 25 rfl dX3_passHours_24 rfl ?_
        refine g_X3_engineCount 28 (by first | assumption | exact isH_1 | exact isH_31 | exact isH_61 | exact isH_p (by omega) | exact isH_E (by assumption) (by omega) | exact isH_R (by assumption) | exact isH_K (by assumption) | exact isH_E isH_1 (by omega) | exact isH_R isH_1 | exact isH_K isH_1 | exact isH_R isH_31 | exact isH_K isH_31 | exact isH_E isH_31 (by omega)) rfl dX3_passHours_25 lkX3_43 ?_
        refine J_cv (b := psN f i 0) (by rw [c2.1.1.1]; exact wx.2) ?_
        refine J_icmp_ge 56 31 (by decide) rfl dX3_passHours_28 (by omega) (by omega) (fun c28 => ?_) (fun c28 => ?_)
        · have e0 : e = psN f i 0 := by omega
          subst e0
          exact kont _ f2 c2
        · have w9 := (wx.1.2.2.2.2.2.1 e (by omega)).2.2.2.1
          rw [show 7 + 52 * e + 2 = 9 + 52 * e by omega] at w9
          refine J_iload_n 32 rfl dX3_passHours_31 rfl ?_
          refine J_aload_n 33 rfl dX3_passHours_32 rfl ?_
          refine J_iload 35 rfl dX3_passHours_33 rfl ?_
          refine J_aload_n 36 rfl dX3_passHours_35 rfl ?_
          refine g_X3_engines 39 (by first | assumption | exact isH_1 | exact isH_31 | exact isH_61 | exact isH_p (by omega) | exact isH_E (by assumption) (by omega) | exact isH_R (by assumption) | exact isH_K (by assumption) | exact isH_E isH_1 (by omega) | exact isH_R isH_1 | exact isH_K isH_1 | exact isH_R isH_31 | exact isH_K isH_31 | exact isH_E isH_31 (by omega)) rfl dX3_passHours_36 lkX3_11 ?_
          refine J_iload 41 rfl dX3_passHours_39 rfl ?_
          refine J_aaldE 42 _ rfl dX3_passHours_41 (by first | assumption | exact isH_1 | exact isH_31 | exact isH_61 | exact isH_p (by omega) | exact isH_E (by assumption) (by omega) | exact isH_R (by assumption) | exact isH_K (by assumption) | exact isH_E isH_1 (by omega) | exact isH_R isH_1 | exact isH_K isH_1 | exact isH_R isH_31 | exact isH_K isH_31 | exact isH_E isH_31 (by omega)) (by omega) ?_
          refine g_X1_rate 45 (by first | assumption | exact isH_1 | exact isH_31 | exact isH_61 | exact isH_p (by omega) | exact isH_E (by assumption) (by omega) | exact isH_R (by assumption) | exact isH_K (by assumption) | exact isH_E isH_1 (by omega) | exact isH_R isH_1 | exact isH_K isH_1 | exact isH_R isH_31 | exact isH_K isH_31 | exact isH_E isH_31 (by omega)) rfl dX3_passHours_42 lkX3_222 ?_
          refine J_cv (b := hrE (psN f i) e (9 + 52 * e)) (by rw [(c2.1.2.2.2.2 e (by omega)).2.2.1, show 7 + 52 * e + 2 = 9 + 52 * e by omega]) ?_
          refine J_callVip (As := [_, _]) 48 _ rfl kalX3_runEngine lkX3_151 dX3_passHours_45 (lt_X3 (by first | assumption | exact isH_1 | exact isH_31 | exact isH_61 | exact isH_p (by omega) | exact isH_E (by assumption) (by omega) | exact isH_R (by assumption) | exact isH_K (by assumption) | exact isH_E isH_1 (by omega) | exact isH_R isH_1 | exact isH_K isH_1 | exact isH_R isH_31 | exact isH_K isH_31 | exact isH_E isH_31 (by omega))) (so_X3 (by first | assumption | exact isH_1 | exact isH_31 | exact isH_61 | exact isH_p (by omega) | exact isH_E (by assumption) (by omega) | exact isH_R (by assumption) | exact isH_K (by assumption) | exact isH_E isH_1 (by omega) | exact isH_R isH_1 | exact isH_K isH_1 | exact isH_R isH_31 | exact isH_K isH_31 | exact isH_E isH_31 (by omega))) rfl rfl rfl (by exact Nat.le_of_ble_eq_true rfl) (by omega) (S_X3_runEngine hb c2 wx.1 (by omega) (by omega)) (fun J45 q45 => ?_)
          refine J_iadd 49 rfl dX3_passHours_48 ?_
          refine J_istore_n 50 rfl dX3_passHours_49 rfl (Nat.le_of_ble_eq_true rfl) ?_
          refine J_iinc 53 1 rfl dX3_passHours_50 ic_1 rfl (Nat.le_of_ble_eq_true rfl) ?_
          refine J_goto 22 (by decide) dX3_passHours_53 ?_
          have l := ihe _ (by omega) (e + 1) _ rfl (by omega) (f2.trans q45.1) q45.2
          rw [show psK f i + hrK (psN f i) (e + 1) = psK f i + hrK (psN f i) e + eKn (hrE (psN f i) e) (7 + 52 * e) (hrE (psN f i) e (9 + 52 * e)) from (Nat.add_assoc _ _ _).symm] at l
          exact l
      refine J_aload_n 10 rfl dX3_passHours_9 rfl ?_
      refine J_dup 11 rfl dX3_passHours_10 rfl ?_
      refine g_X3_hour 14 (by first | assumption | exact isH_1 | exact isH_31 | exact isH_61 | exact isH_p (by omega) | exact isH_E (by assumption) (by omega) | exact isH_R (by assumption) | exact isH_K (by assumption) | exact isH_E isH_1 (by omega) | exact isH_R isH_1 | exact isH_K isH_1 | exact isH_R isH_31 | exact isH_K isH_31 | exact isH_E isH_31 (by omega)) rfl dX3_passHours_11 lkX3_71 ?_
      refine J_cv (b := psN f i 1) c1.1.1.2.2.2.1 ?_
      refine J_iconst 15 1 rfl dX3_passHours_14 ic_1 ?_
      refine J_iadd 16 rfl dX3_passHours_15 ?_
      refine p_X3_hour 19 (by first | assumption | exact isH_1 | exact isH_31 | exact isH_61 | exact isH_p (by omega) | exact isH_E (by assumption) (by omega) | exact isH_R (by assumption) | exact isH_K (by assumption) | exact isH_E isH_1 (by omega) | exact isH_R isH_1 | exact isH_K isH_1 | exact isH_R isH_31 | exact isH_K isH_31 | exact isH_E isH_31 (by omega)) rfl dX3_passHours_16 lkX3_71 ?_
      refine J_iconst 20 0 rfl dX3_passHours_19 ic_0 ?_
      refine J_istore 22 rfl dX3_passHours_20 (Nat.le_of_ble_eq_true rfl) ?_
      have ch := CP_hour (v := psN f i 1 + 1) c1 wi
      exact inner _ 0 _ rfl (Nat.zero_le _) (f1.trans ch.1) ch.2
  refine J_iconst 1 0 rfl dX3_passHours_0 ic_0 ?_
  refine J_istore_n 2 rfl dX3_passHours_1 rfl (Nat.le_of_ble_eq_true rfl) ?_
  refine J_iconst 3 0 rfl dX3_passHours_2 ic_0 ?_
  refine J_istore_n 4 rfl dX3_passHours_3 rfl (Nat.le_of_ble_eq_true rfl) ?_
  exact loop _ 0 J rfl (Nat.zero_le _) Fr.refl h

theorem S_X3_doFirstRepair {g : Gn} {J : DJ} {b  B B0 : Nat} {f : Nat → Nat} (hb : isH b) (h : CP J b f B0) (hw : WF f B) (hr : 0 < f 4) (hB9 : B < 800000000) : SJ g mX3_doFirstRepair 5 0 0 [.ref (g.2 b)] J (Rp (f (221 + 3 * fBst f (f 4))) (fun J2 => Fr b 30 J J2 ∧ CP J2 b (xRep f) B0)) NoX := by
  have h0 := hw.1
  have h2 := hw.2.1
  have h3 := hw.2.2.1
  have h4 := hw.2.2.2.2.1.1
  have s0 := h.1.1.1
  have s3 := h.1.1.2.1
  have s2 := h.1.1.2.2.1
  have s1 := h.1.1.2.2.2.1
  have s5 := h.1.1.2.2.2.2
  have hB := hw.2.2.2.2.2.2.2.2.1
  have h5 := hw.2.2.2.2.2.2.2.2.2
  have h6 := hw.2.2.2.1.1
  have fb : fBst f (f 4) < f 4 := (fBst_lt f (f 4)).elim id (fun z => by omega)
  have rr := hw.2.2.2.2.1.2 _ fb
  have cr := h.1.2.2.1
  have sp : sumN (fun i => f (223 + 3 * i)) (f 4) ≤ 8 * 9 := Nat.le_trans (sumN_le (B := 9) _ (fun i hi => (hw.2.2.2.2.1.2 i hi).2.2.2.2)) (Nat.mul_le_mul_right 9 h4)
  have hm : f (222 + 3 * fBst f (f 4)) * sumN (fun i => f (223 + 3 * i)) (f 4) ≤ 9 * (8 * 9) := Nat.mul_le_mul rr.2.2.1 sp
  have b5 := hB 5 (by omega)
  have cp := CP_pen (v := f 5 + f (222 + 3 * fBst f (f 4)) * sumN (fun i => f (223 + 3 * i)) (f 4)) h hw
  have wp := pen_WF (v := f 5 + f (222 + 3 * fBst f (f 4)) * sumN (fun i => f (223 + 3 * i)) (f 4)) (B2 := B + 1000) hw (by omega) (by omega)
  have wq := psN_WF wp (f (222 + 3 * fBst f (f 4)))
  have po : ∀ i, i ≠ 1 → i ≠ 5 → i ≠ 6 → (i < 7 ∨ 215 ≤ i) → i < 245 → psN (up1 f 5 (f 5 + f (222 + 3 * fBst f (f 4)) * sumN (fun i => f (223 + 3 * i)) (f 4))) (f (222 + 3 * fBst f (f 4))) i = f i := fun i a1 a2 a3 a4 a5 => (psN_out wp a1 a3 a4 a5 _).trans (up1_ne a2)
  refine SJ_of_VJ (by decide +kernel) (Nat.le_of_ble_eq_true rfl) ?_
  show VJ g mX3_doFirstRepair 5 0 0 _ _ 0 [(0, .ref (g.2 b))] [] J
  refine J_aload_n 1 rfl dX3_doFirstRepair_0 rfl ?_
  refine g_X3_repairs 4 (by first | assumption | exact isH_1 | exact isH_31 | exact isH_61 | exact isH_p (by omega) | exact isH_E (by assumption) (by omega) | exact isH_R (by assumption) | exact isH_K (by assumption) | exact isH_E isH_1 (by omega) | exact isH_R isH_1 | exact isH_K isH_1 | exact isH_R isH_31 | exact isH_K isH_31 | exact isH_E isH_31 (by omega)) rfl dX3_doFirstRepair_1 lkX3_24 ?_
  refine J_callVi (As := []) 7 _ rfl kalX8_firstOfBest lkX3_205 dX3_doFirstRepair_4 (lt_X8 (by first | assumption | exact isH_1 | exact isH_31 | exact isH_61 | exact isH_p (by omega) | exact isH_E (by assumption) (by omega) | exact isH_R (by assumption) | exact isH_K (by assumption) | exact isH_E isH_1 (by omega) | exact isH_R isH_1 | exact isH_K isH_1 | exact isH_R isH_31 | exact isH_K isH_31 | exact isH_E isH_31 (by omega))) (so_X8 (by first | assumption | exact isH_1 | exact isH_31 | exact isH_61 | exact isH_p (by omega) | exact isH_E (by assumption) (by omega) | exact isH_R (by assumption) | exact isH_K (by assumption) | exact isH_E isH_1 (by omega) | exact isH_R isH_1 | exact isH_K isH_1 | exact isH_R isH_31 | exact isH_K isH_31 | exact isH_E isH_31 (by omega))) rfl rfl rfl (by exact Nat.le_of_ble_eq_true rfl) (by omega) (S_X8_firstOfBest (isH_R hb) cr hw.2.2.2.2.1 (by omega)) ?_
  refine J_istore_n 8 rfl dX3_doFirstRepair_7 rfl (Nat.le_of_ble_eq_true rfl) ?_
  refine J_aload_n 9 rfl dX3_doFirstRepair_8 rfl ?_
  refine g_X3_repairs 12 (by first | assumption | exact isH_1 | exact isH_31 | exact isH_61 | exact isH_p (by omega) | exact isH_E (by assumption) (by omega) | exact isH_R (by assumption) | exact isH_K (by assumption) | exact isH_E isH_1 (by omega) | exact isH_R isH_1 | exact isH_K isH_1 | exact isH_R isH_31 | exact isH_K isH_31 | exact isH_E isH_31 (by omega)) rfl dX3_doFirstRepair_9 lkX3_24 ?_
  refine g_X8_engines 15 (by first | assumption | exact isH_1 | exact isH_31 | exact isH_61 | exact isH_p (by omega) | exact isH_E (by assumption) (by omega) | exact isH_R (by assumption) | exact isH_K (by assumption) | exact isH_E isH_1 (by omega) | exact isH_R isH_1 | exact isH_K isH_1 | exact isH_R isH_31 | exact isH_K isH_31 | exact isH_E isH_31 (by omega)) rfl dX3_doFirstRepair_12 lkX3_208 ?_
  refine J_iload_n 16 rfl dX3_doFirstRepair_15 rfl ?_
  refine J_iald 17 rfl dX3_doFirstRepair_16 (sa_X8_engines (by first | assumption | exact isH_1 | exact isH_31 | exact isH_61 | exact isH_p (by omega) | exact isH_E (by assumption) (by omega) | exact isH_R (by assumption) | exact isH_K (by assumption) | exact isH_E isH_1 (by omega) | exact isH_R isH_1 | exact isH_K isH_1 | exact isH_R isH_31 | exact isH_K isH_31 | exact isH_E isH_31 (by omega))) (by omega) ?_
  refine J_cv (b := f (221 + 3 * fBst f (f 4))) (cr.2 _ fb).1 ?_
  refine J_istore_n 18 rfl dX3_doFirstRepair_17 rfl (Nat.le_of_ble_eq_true rfl) ?_
  refine J_aload_n 19 rfl dX3_doFirstRepair_18 rfl ?_
  refine g_X3_repairs 22 (by first | assumption | exact isH_1 | exact isH_31 | exact isH_61 | exact isH_p (by omega) | exact isH_E (by assumption) (by omega) | exact isH_R (by assumption) | exact isH_K (by assumption) | exact isH_E isH_1 (by omega) | exact isH_R isH_1 | exact isH_K isH_1 | exact isH_R isH_31 | exact isH_K isH_31 | exact isH_E isH_31 (by omega)) rfl dX3_doFirstRepair_19 lkX3_24 ?_
  refine g_X8_hours 25 (by first | assumption | exact isH_1 | exact isH_31 | exact isH_61 | exact isH_p (by omega) | exact isH_E (by assumption) (by omega) | exact isH_R (by assumption) | exact isH_K (by assumption) | exact isH_E isH_1 (by omega) | exact isH_R isH_1 | exact isH_K isH_1 | exact isH_R isH_31 | exact isH_K isH_31 | exact isH_E isH_31 (by omega)) rfl dX3_doFirstRepair_22 lkX3_210 ?_
  refine J_iload_n 26 rfl dX3_doFirstRepair_25 rfl ?_
  refine J_iald 27 rfl dX3_doFirstRepair_26 (sa_X8_hours (by first | assumption | exact isH_1 | exact isH_31 | exact isH_61 | exact isH_p (by omega) | exact isH_E (by assumption) (by omega) | exact isH_R (by assumption) | exact isH_K (by assumption) | exact isH_E isH_1 (by omega) | exact isH_R isH_1 | exact isH_K isH_1 | exact isH_R isH_31 | exact isH_K isH_31 | exact isH_E isH_31 (by omega))) (by omega) ?_
  refine J_cv (b := f (222 + 3 * fBst f (f 4))) (cr.2 _ fb).2.1 ?_
  refine J_istore_n 28 rfl dX3_doFirstRepair_27 rfl (Nat.le_of_ble_eq_true rfl) ?_
  refine J_aload_n 29 rfl dX3_doFirstRepair_28 rfl ?_
  refine J_dup 30 rfl dX3_doFirstRepair_29 rfl ?_
  refine g_X3_penanceDone 33 (by first | assumption | exact isH_1 | exact isH_31 | exact isH_61 | exact isH_p (by omega) | exact isH_E (by assumption) (by omega) | exact isH_R (by assumption) | exact isH_K (by assumption) | exact isH_E isH_1 (by omega) | exact isH_R isH_1 | exact isH_K isH_1 | exact isH_R isH_31 | exact isH_K isH_31 | exact isH_E isH_31 (by omega)) rfl dX3_doFirstRepair_30 lkX3_74 ?_
  refine J_cv (b := f 5) s5 ?_
  refine J_iload_n 34 rfl dX3_doFirstRepair_33 rfl ?_
  refine J_aload_n 35 rfl dX3_doFirstRepair_34 rfl ?_
  refine g_X3_repairs 38 (by first | assumption | exact isH_1 | exact isH_31 | exact isH_61 | exact isH_p (by omega) | exact isH_E (by assumption) (by omega) | exact isH_R (by assumption) | exact isH_K (by assumption) | exact isH_E isH_1 (by omega) | exact isH_R isH_1 | exact isH_K isH_1 | exact isH_R isH_31 | exact isH_K isH_31 | exact isH_E isH_31 (by omega)) rfl dX3_doFirstRepair_35 lkX3_24 ?_
  refine J_callVi (As := []) 41 _ rfl kalX8_penanceOfAnHour lkX3_213 dX3_doFirstRepair_38 (lt_X8 (by first | assumption | exact isH_1 | exact isH_31 | exact isH_61 | exact isH_p (by omega) | exact isH_E (by assumption) (by omega) | exact isH_R (by assumption) | exact isH_K (by assumption) | exact isH_E isH_1 (by omega) | exact isH_R isH_1 | exact isH_K isH_1 | exact isH_R isH_31 | exact isH_K isH_31 | exact isH_E isH_31 (by omega))) (so_X8 (by first | assumption | exact isH_1 | exact isH_31 | exact isH_61 | exact isH_p (by omega) | exact isH_E (by assumption) (by omega) | exact isH_R (by assumption) | exact isH_K (by assumption) | exact isH_E isH_1 (by omega) | exact isH_R isH_1 | exact isH_K isH_1 | exact isH_R isH_31 | exact isH_K isH_31 | exact isH_E isH_31 (by omega))) rfl rfl rfl (by exact Nat.le_of_ble_eq_true rfl) (by omega) (S_X8_penanceOfAnHour (isH_R hb) cr hw.2.2.2.2.1) ?_
  refine J_imul 42 rfl dX3_doFirstRepair_41 ?_
  refine J_iadd 43 rfl dX3_doFirstRepair_42 ?_
  refine p_X3_penanceDone 46 (by first | assumption | exact isH_1 | exact isH_31 | exact isH_61 | exact isH_p (by omega) | exact isH_E (by assumption) (by omega) | exact isH_R (by assumption) | exact isH_K (by assumption) | exact isH_E isH_1 (by omega) | exact isH_R isH_1 | exact isH_K isH_1 | exact isH_R isH_31 | exact isH_K isH_31 | exact isH_E isH_31 (by omega)) rfl dX3_doFirstRepair_43 lkX3_74 ?_
  refine J_aload_n 47 rfl dX3_doFirstRepair_46 rfl ?_
  refine J_iload_n 48 rfl dX3_doFirstRepair_47 rfl ?_
  refine J_callVip (As := [_]) 51 _ rfl kalX3_passHours lkX3_176 dX3_doFirstRepair_48 (lt_X3 (by first | assumption | exact isH_1 | exact isH_31 | exact isH_61 | exact isH_p (by omega) | exact isH_E (by assumption) (by omega) | exact isH_R (by assumption) | exact isH_K (by assumption) | exact isH_E isH_1 (by omega) | exact isH_R isH_1 | exact isH_K isH_1 | exact isH_R isH_31 | exact isH_K isH_31 | exact isH_E isH_31 (by omega))) (so_X3 (by first | assumption | exact isH_1 | exact isH_31 | exact isH_61 | exact isH_p (by omega) | exact isH_E (by assumption) (by omega) | exact isH_R (by assumption) | exact isH_K (by assumption) | exact isH_E isH_1 (by omega) | exact isH_R isH_1 | exact isH_K isH_1 | exact isH_R isH_31 | exact isH_K isH_31 | exact isH_E isH_31 (by omega))) rfl rfl rfl (by exact Nat.le_of_ble_eq_true rfl) (by omega) (S_X3_passHours hb cp.2 wp (by omega) (by omega)) (fun J48 q48 => ?_)
  have re : f (221 + 3 * fBst f (f 4)) < psN (up1 f 5 (f 5 + f (222 + 3 * fBst f (f 4)) * sumN (fun i => f (223 + 3 * i)) (f 4))) (f (222 + 3 * fBst f (f 4))) 0 := by
    rw [po 0 (by omega) (by omega) (by omega) (by omega) (by omega)]; exact rr.1
  refine J_pop 52 rfl dX3_doFirstRepair_51 rfl ?_
  refine J_aload_n 53 rfl dX3_doFirstRepair_52 rfl ?_
  refine g_X3_engines 56 (by first | assumption | exact isH_1 | exact isH_31 | exact isH_61 | exact isH_p (by omega) | exact isH_E (by assumption) (by omega) | exact isH_R (by assumption) | exact isH_K (by assumption) | exact isH_E isH_1 (by omega) | exact isH_R isH_1 | exact isH_K isH_1 | exact isH_R isH_31 | exact isH_K isH_31 | exact isH_E isH_31 (by omega)) rfl dX3_doFirstRepair_53 lkX3_11 ?_
  refine J_iload_n 57 rfl dX3_doFirstRepair_56 rfl ?_
  refine J_aaldE 58 _ rfl dX3_doFirstRepair_57 (by first | assumption | exact isH_1 | exact isH_31 | exact isH_61 | exact isH_p (by omega) | exact isH_E (by assumption) (by omega) | exact isH_R (by assumption) | exact isH_K (by assumption) | exact isH_E isH_1 (by omega) | exact isH_R isH_1 | exact isH_K isH_1 | exact isH_R isH_31 | exact isH_K isH_31 | exact isH_E isH_31 (by omega)) (by omega) ?_
  refine J_callVvp (As := []) 61 _ rfl kalX1_renew lkX3_216 dX3_doFirstRepair_58 (lt_X1 (by first | assumption | exact isH_1 | exact isH_31 | exact isH_61 | exact isH_p (by omega) | exact isH_E (by assumption) (by omega) | exact isH_R (by assumption) | exact isH_K (by assumption) | exact isH_E isH_1 (by omega) | exact isH_R isH_1 | exact isH_K isH_1 | exact isH_R isH_31 | exact isH_K isH_31 | exact isH_E isH_31 (by omega))) (so_X1 (by first | assumption | exact isH_1 | exact isH_31 | exact isH_61 | exact isH_p (by omega) | exact isH_E (by assumption) (by omega) | exact isH_R (by assumption) | exact isH_K (by assumption) | exact isH_E isH_1 (by omega) | exact isH_R isH_1 | exact isH_K isH_1 | exact isH_R isH_31 | exact isH_K isH_31 | exact isH_E isH_31 (by omega))) rfl rfl rfl (by exact Nat.le_of_ble_eq_true rfl) (by omega) (S_X1_renew (isH_E hb (by omega)) (by rw [(q48.2.1.2.2.2.2 _ re).1]; exact (wq.1.2.2.2.2.2.1 _ re).2.1)) (fun J58 q58 => ?_)
  have cn := CP_renew q48.2 wq.1 re q58.1 (fun c hc => q58.2 c (by rw [(q48.2.1.2.2.2.2 _ re).1]; exact hc))
  have wn := renew_WF wq.1 re
  have nn : mRenew (psN (up1 f 5 (f 5 + f (222 + 3 * fBst f (f 4)) * sumN (fun i => f (223 + 3 * i)) (f 4))) (f (222 + 3 * fBst f (f 4)))) (7 + 52 * f (221 + 3 * fBst f (f 4))) 4 = f 4 := by
    rw [mRenew_out (wq.1.2.2.2.2.2.1 _ re).2.1 (by omega), po 4 (by omega) (by omega) (by omega) (by omega) (by omega)]
  refine J_aload_n 62 rfl dX3_doFirstRepair_61 rfl ?_
  refine g_X3_repairs 65 (by first | assumption | exact isH_1 | exact isH_31 | exact isH_61 | exact isH_p (by omega) | exact isH_E (by assumption) (by omega) | exact isH_R (by assumption) | exact isH_K (by assumption) | exact isH_E isH_1 (by omega) | exact isH_R isH_1 | exact isH_K isH_1 | exact isH_R isH_31 | exact isH_K isH_31 | exact isH_E isH_31 (by omega)) rfl dX3_doFirstRepair_62 lkX3_24 ?_
  refine J_iload_n 66 rfl dX3_doFirstRepair_65 rfl ?_
  refine J_callVip (As := [_]) 69 _ rfl kalX8_withdraw lkX3_219 dX3_doFirstRepair_66 (lt_X8 (by first | assumption | exact isH_1 | exact isH_31 | exact isH_61 | exact isH_p (by omega) | exact isH_E (by assumption) (by omega) | exact isH_R (by assumption) | exact isH_K (by assumption) | exact isH_E isH_1 (by omega) | exact isH_R isH_1 | exact isH_K isH_1 | exact isH_R isH_31 | exact isH_K isH_31 | exact isH_E isH_31 (by omega))) (so_X8 (by first | assumption | exact isH_1 | exact isH_31 | exact isH_61 | exact isH_p (by omega) | exact isH_E (by assumption) (by omega) | exact isH_R (by assumption) | exact isH_K (by assumption) | exact isH_E isH_1 (by omega) | exact isH_R isH_1 | exact isH_K isH_1 | exact isH_R isH_31 | exact isH_K isH_31 | exact isH_E isH_31 (by omega))) rfl rfl rfl (by exact Nat.le_of_ble_eq_true rfl) (by omega) (S_X8_withdraw (isH_R hb) cn.2.1.2.2.1 wn.2.2.2.2.1.1 (by rw [nn]; exact fb)) (fun J66 q66 => ?_)
  refine J_pop 70 rfl dX3_doFirstRepair_69 rfl ?_
  refine J_iload_n 71 rfl dX3_doFirstRepair_70 rfl ?_
  refine J_iret rfl dX3_doFirstRepair_71 ?_
  have cd := CP_reps cn.2 wn q66.1 (fun i a b => mDrop_out a b) q66.2
  exact ⟨rfl, ((cp.1.trans q48.1).trans cn.1).trans cd.1, cd.2⟩

