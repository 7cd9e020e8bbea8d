/-! THE ENGINE (laid by wip/whole/src/p21.py) -/
theorem S_X1_placeAfter {g : Gn} {J : DJ} {b p : Nat} (hb : isE b) (hp : p < 1073741824) (hn : J b 6 < 2147483648) : SJ g mX1_placeAfter 0 0 0 [.ref (g.2 b), .int (nI p)] J (Ri (if p + 1 < J b 6 then p + 1 else 0) J) NoX := by
  refine SJ_of_VJ (by decide +kernel) (Nat.le_of_ble_eq_true rfl) ?_
  show VJ g mX1_placeAfter 0 0 0 _ _ 0 [(0, .ref (g.2 b)), (1, .int (nI p))] [] J
  refine J_iload_n 1 rfl dX1_placeAfter_0 rfl ?_
  refine J_iconst 2 1 rfl dX1_placeAfter_1 ic_1 ?_
  refine J_iadd 3 rfl dX1_placeAfter_2 ?_
  refine J_aload_n 4 rfl dX1_placeAfter_3 rfl ?_
  refine g_X1_cylinders 7 (by first | assumption | exact isH_1 | exact isH_31 | exact isH_61 | exact isH_p (by omega) | exact isH_E (by assumption) (by omega) | exact isH_R (by assumption) | exact isH_K (by assumption) | exact isH_E isH_1 (by omega) | exact isH_R isH_1 | exact isH_K isH_1 | exact isH_R isH_31 | exact isH_K isH_31 | exact isH_E isH_31 (by omega)) rfl dX1_placeAfter_4 lkX1_24 ?_
  refine J_icmp_ge 16 10 (by decide) rfl dX1_placeAfter_7 (by omega) (by omega) (fun c7 => ?_) (fun c7 => ?_)
  · refine J_iconst 17 0 rfl dX1_placeAfter_16 ic_0 ?_
    refine J_iret rfl dX1_placeAfter_17 ?_
    first | exact ⟨by rw [if_pos (by assumption)], rfl⟩ | exact ⟨by rw [if_neg (by omega)], rfl⟩
  · refine J_iload_n 11 rfl dX1_placeAfter_10 rfl ?_
    refine J_iconst 12 1 rfl dX1_placeAfter_11 ic_1 ?_
    refine J_iadd 13 rfl dX1_placeAfter_12 ?_
    refine J_goto 17 (by decide) dX1_placeAfter_13 ?_
    refine J_iret rfl dX1_placeAfter_17 ?_
    first | exact ⟨by rw [if_pos (by assumption)], rfl⟩ | exact ⟨by rw [if_neg (by omega)], rfl⟩

theorem S_X1_keptKnock {g : Gn} {J : DJ} {b p : Nat} (hb : isE b) (h4 : J b 4 < 24) (hp : p < 1000) : SJ g mX1_keptKnock 0 0 0 [.ref (g.2 b), .int (nI p)] J (Ri (J (b + 4) ((J b 4 + p) % 24)) J) NoX := by
  refine SJ_of_VJ (by decide +kernel) (Nat.le_of_ble_eq_true rfl) ?_
  show VJ g mX1_keptKnock 0 0 0 _ _ 0 [(0, .ref (g.2 b)), (1, .int (nI p))] [] J
  refine J_aload_n 1 rfl dX1_keptKnock_0 rfl ?_
  refine g_X1_knocks 4 (by first | assumption | exact isH_1 | exact isH_31 | exact isH_61 | exact isH_p (by omega) | exact isH_E (by assumption) (by omega) | exact isH_R (by assumption) | exact isH_K (by assumption) | exact isH_E isH_1 (by omega) | exact isH_R isH_1 | exact isH_K isH_1 | exact isH_R isH_31 | exact isH_K isH_31 | exact isH_E isH_31 (by omega)) rfl dX1_keptKnock_1 lkX1_21 ?_
  refine J_aload_n 5 rfl dX1_keptKnock_4 rfl ?_
  refine g_X1_oldestKnock 8 (by first | assumption | exact isH_1 | exact isH_31 | exact isH_61 | exact isH_p (by omega) | exact isH_E (by assumption) (by omega) | exact isH_R (by assumption) | exact isH_K (by assumption) | exact isH_E isH_1 (by omega) | exact isH_R isH_1 | exact isH_K isH_1 | exact isH_R isH_31 | exact isH_K isH_31 | exact isH_E isH_31 (by omega)) rfl dX1_keptKnock_5 lkX1_34 ?_
  refine J_iload_n 9 rfl dX1_keptKnock_8 rfl ?_
  refine J_iadd 10 rfl dX1_keptKnock_9 ?_
  refine J_bipush 12 24 rfl dX1_keptKnock_10 bc_24 ?_
  refine J_irem 13 rfl dX1_keptKnock_12 (by omega) (by omega) (by omega) ?_
  refine J_iald 14 rfl dX1_keptKnock_13 (sa_X1_knocks (by first | assumption | exact isH_1 | exact isH_31 | exact isH_61 | exact isH_p (by omega) | exact isH_E (by assumption) (by omega) | exact isH_R (by assumption) | exact isH_K (by assumption) | exact isH_E isH_1 (by omega) | exact isH_R isH_1 | exact isH_K isH_1 | exact isH_R isH_31 | exact isH_K isH_31 | exact isH_E isH_31 (by omega))) (by omega) ?_
  refine J_iret rfl dX1_keptKnock_14 ?_
  exact ⟨rfl, rfl⟩

theorem S_X1_swapPlaces {g : Gn} {J : DJ} {b p q : Nat} (hb : isE b) (hp : p < 8) (hq : q < 8) : SJ g mX1_swapPlaces 0 0 0 [.ref (g.2 b), .int (nI p), .int (nI q)] J (Ri (up2 (up2 J (b + 1) p (J (b + 1) q)) (b + 1) q (J (b + 1) p) (b + 1) p) (up2 (up2 J (b + 1) p (J (b + 1) q)) (b + 1) q (J (b + 1) p))) NoX := by
  refine SJ_of_VJ (by decide +kernel) (Nat.le_of_ble_eq_true rfl) ?_
  show VJ g mX1_swapPlaces 0 0 0 _ _ 0 [(0, .ref (g.2 b)), (1, .int (nI p)), (2, .int (nI q))] [] J
  refine J_aload_n 1 rfl dX1_swapPlaces_0 rfl ?_
  refine g_X1_order 4 (by first | assumption | exact isH_1 | exact isH_31 | exact isH_61 | exact isH_p (by omega) | exact isH_E (by assumption) (by omega) | exact isH_R (by assumption) | exact isH_K (by assumption) | exact isH_E isH_1 (by omega) | exact isH_R isH_1 | exact isH_K isH_1 | exact isH_R isH_31 | exact isH_K isH_31 | exact isH_E isH_31 (by omega)) rfl dX1_swapPlaces_1 lkX1_9 ?_
  refine J_iload_n 5 rfl dX1_swapPlaces_4 rfl ?_
  refine J_iald 6 rfl dX1_swapPlaces_5 (sa_X1_order (by first | assumption | exact isH_1 | exact isH_31 | exact isH_61 | exact isH_p (by omega) | exact isH_E (by assumption) (by omega) | exact isH_R (by assumption) | exact isH_K (by assumption) | exact isH_E isH_1 (by omega) | exact isH_R isH_1 | exact isH_K isH_1 | exact isH_R isH_31 | exact isH_K isH_31 | exact isH_E isH_31 (by omega))) (by omega) ?_
  refine J_istore_n 7 rfl dX1_swapPlaces_6 rfl (Nat.le_of_ble_eq_true rfl) ?_
  refine J_aload_n 8 rfl dX1_swapPlaces_7 rfl ?_
  refine g_X1_order 11 (by first | assumption | exact isH_1 | exact isH_31 | exact isH_61 | exact isH_p (by omega) | exact isH_E (by assumption) (by omega) | exact isH_R (by assumption) | exact isH_K (by assumption) | exact isH_E isH_1 (by omega) | exact isH_R isH_1 | exact isH_K isH_1 | exact isH_R isH_31 | exact isH_K isH_31 | exact isH_E isH_31 (by omega)) rfl dX1_swapPlaces_8 lkX1_9 ?_
  refine J_iload_n 12 rfl dX1_swapPlaces_11 rfl ?_
  refine J_aload_n 13 rfl dX1_swapPlaces_12 rfl ?_
  refine g_X1_order 16 (by first | assumption | exact isH_1 | exact isH_31 | exact isH_61 | exact isH_p (by omega) | exact isH_E (by assumption) (by omega) | exact isH_R (by assumption) | exact isH_K (by assumption) | exact isH_E isH_1 (by omega) | exact isH_R isH_1 | exact isH_K isH_1 | exact isH_R isH_31 | exact isH_K isH_31 | exact isH_E isH_31 (by omega)) rfl dX1_swapPlaces_13 lkX1_9 ?_
  refine J_iload_n 17 rfl dX1_swapPlaces_16 rfl ?_
  refine J_iald 18 rfl dX1_swapPlaces_17 (sa_X1_order (by first | assumption | exact isH_1 | exact isH_31 | exact isH_61 | exact isH_p (by omega) | exact isH_E (by assumption) (by omega) | exact isH_R (by assumption) | exact isH_K (by assumption) | exact isH_E isH_1 (by omega) | exact isH_R isH_1 | exact isH_K isH_1 | exact isH_R isH_31 | exact isH_K isH_31 | exact isH_E isH_31 (by omega))) (by omega) ?_
  refine J_iast 19 rfl dX1_swapPlaces_18 (sa_X1_order (by first | assumption | exact isH_1 | exact isH_31 | exact isH_61 | exact isH_p (by omega) | exact isH_E (by assumption) (by omega) | exact isH_R (by assumption) | exact isH_K (by assumption) | exact isH_E isH_1 (by omega) | exact isH_R isH_1 | exact isH_K isH_1 | exact isH_R isH_31 | exact isH_K isH_31 | exact isH_E isH_31 (by omega))) (by omega) ?_
  refine J_aload_n 20 rfl dX1_swapPlaces_19 rfl ?_
  refine g_X1_order 23 (by first | assumption | exact isH_1 | exact isH_31 | exact isH_61 | exact isH_p (by omega) | exact isH_E (by assumption) (by omega) | exact isH_R (by assumption) | exact isH_K (by assumption) | exact isH_E isH_1 (by omega) | exact isH_R isH_1 | exact isH_K isH_1 | exact isH_R isH_31 | exact isH_K isH_31 | exact isH_E isH_31 (by omega)) rfl dX1_swapPlaces_20 lkX1_9 ?_
  refine J_iload_n 24 rfl dX1_swapPlaces_23 rfl ?_
  refine J_iload_n 25 rfl dX1_swapPlaces_24 rfl ?_
  refine J_iast 26 rfl dX1_swapPlaces_25 (sa_X1_order (by first | assumption | exact isH_1 | exact isH_31 | exact isH_61 | exact isH_p (by omega) | exact isH_E (by assumption) (by omega) | exact isH_R (by assumption) | exact isH_K (by assumption) | exact isH_E isH_1 (by omega) | exact isH_R isH_1 | exact isH_K isH_1 | exact isH_R isH_31 | exact isH_K isH_31 | exact isH_E isH_31 (by omega))) (by omega) ?_
  refine J_aload_n 27 rfl dX1_swapPlaces_26 rfl ?_
  refine g_X1_order 30 (by first | assumption | exact isH_1 | exact isH_31 | exact isH_61 | exact isH_p (by omega) | exact isH_E (by assumption) (by omega) | exact isH_R (by assumption) | exact isH_K (by assumption) | exact isH_E isH_1 (by omega) | exact isH_R isH_1 | exact isH_K isH_1 | exact isH_R isH_31 | exact isH_K isH_31 | exact isH_E isH_31 (by omega)) rfl dX1_swapPlaces_27 lkX1_9 ?_
  refine J_iload_n 31 rfl dX1_swapPlaces_30 rfl ?_
  refine J_iald 32 rfl dX1_swapPlaces_31 (sa_X1_order (by first | assumption | exact isH_1 | exact isH_31 | exact isH_61 | exact isH_p (by omega) | exact isH_E (by assumption) (by omega) | exact isH_R (by assumption) | exact isH_K (by assumption) | exact isH_E isH_1 (by omega) | exact isH_R isH_1 | exact isH_K isH_1 | exact isH_R isH_31 | exact isH_K isH_31 | exact isH_E isH_31 (by omega))) (by omega) ?_
  refine J_iret rfl dX1_swapPlaces_32 ?_
  exact ⟨rfl, rfl⟩

theorem S_X1_changeRate {g : Gn} {J : DJ} {b s : Nat} (hb : isE b) : SJ g mX1_changeRate 0 0 0 [.ref (g.2 b), .int (nI s)] J (Ri (J b 8) (up2 J b 8 s)) NoX := by
  refine SJ_of_VJ (by decide +kernel) (Nat.le_of_ble_eq_true rfl) ?_
  show VJ g mX1_changeRate 0 0 0 _ _ 0 [(0, .ref (g.2 b)), (1, .int (nI s))] [] J
  refine J_aload_n 1 rfl dX1_changeRate_0 rfl ?_
  refine g_X1_rate 4 (by first | assumption | exact isH_1 | exact isH_31 | exact isH_61 | exact isH_p (by omega) | exact isH_E (by assumption) (by omega) | exact isH_R (by assumption) | exact isH_K (by assumption) | exact isH_E isH_1 (by omega) | exact isH_R isH_1 | exact isH_K isH_1 | exact isH_R isH_31 | exact isH_K isH_31 | exact isH_E isH_31 (by omega)) rfl dX1_changeRate_1 lkX1_31 ?_
  refine J_istore_n 5 rfl dX1_changeRate_4 rfl (Nat.le_of_ble_eq_true rfl) ?_
  refine J_aload_n 6 rfl dX1_changeRate_5 rfl ?_
  refine J_iload_n 7 rfl dX1_changeRate_6 rfl ?_
  refine p_X1_rate 10 (by first | assumption | exact isH_1 | exact isH_31 | exact isH_61 | exact isH_p (by omega) | exact isH_E (by assumption) (by omega) | exact isH_R (by assumption) | exact isH_K (by assumption) | exact isH_E isH_1 (by omega) | exact isH_R isH_1 | exact isH_K isH_1 | exact isH_R isH_31 | exact isH_K isH_31 | exact isH_E isH_31 (by omega)) rfl dX1_changeRate_7 lkX1_31 ?_
  refine J_iload_n 11 rfl dX1_changeRate_10 rfl ?_
  refine J_iret rfl dX1_changeRate_11 ?_
  exact ⟨rfl, rfl⟩

theorem S_X1_dueByDivision {g : Gn} {J : DJ} {b s : Nat} (hb : isE b) (h1 : 1 ≤ J b 6) (h8 : J b 6 ≤ 8) (h7 : J b 7 < J b 6) (hs : s < 1073741824) : SJ g mX1_dueByDivision 0 0 0 [.ref (g.2 b), .int (nI s)] J (Ri (J (b + 1) ((J b 7 + s) % J b 6)) J) NoX := by
  refine SJ_of_VJ (by decide +kernel) (Nat.le_of_ble_eq_true rfl) ?_
  show VJ g mX1_dueByDivision 0 0 0 _ _ 0 [(0, .ref (g.2 b)), (1, .int (nI s))] [] J
  refine J_aload_n 1 rfl dX1_dueByDivision_0 rfl ?_
  refine g_X1_cylinders 4 (by first | assumption | exact isH_1 | exact isH_31 | exact isH_61 | exact isH_p (by omega) | exact isH_E (by assumption) (by omega) | exact isH_R (by assumption) | exact isH_K (by assumption) | exact isH_E isH_1 (by omega) | exact isH_R isH_1 | exact isH_K isH_1 | exact isH_R isH_31 | exact isH_K isH_31 | exact isH_E isH_31 (by omega)) rfl dX1_dueByDivision_1 lkX1_24 ?_
  refine J_iconst 5 1 rfl dX1_dueByDivision_4 ic_1 ?_
  refine J_icmp_ge 10 8 (by decide) rfl dX1_dueByDivision_5 (by omega) (by omega) (fun c5 => ?_) (fun c5 => ?_)
  · refine J_aload_n 11 rfl dX1_dueByDivision_10 rfl ?_
    refine g_X1_order 14 (by first | assumption | exact isH_1 | exact isH_31 | exact isH_61 | exact isH_p (by omega) | exact isH_E (by assumption) (by omega) | exact isH_R (by assumption) | exact isH_K (by assumption) | exact isH_E isH_1 (by omega) | exact isH_R isH_1 | exact isH_K isH_1 | exact isH_R isH_31 | exact isH_K isH_31 | exact isH_E isH_31 (by omega)) rfl dX1_dueByDivision_11 lkX1_9 ?_
    refine J_aload_n 15 rfl dX1_dueByDivision_14 rfl ?_
    refine g_X1_due 18 (by first | assumption | exact isH_1 | exact isH_31 | exact isH_61 | exact isH_p (by omega) | exact isH_E (by assumption) (by omega) | exact isH_R (by assumption) | exact isH_K (by assumption) | exact isH_E isH_1 (by omega) | exact isH_R isH_1 | exact isH_K isH_1 | exact isH_R isH_31 | exact isH_K isH_31 | exact isH_E isH_31 (by omega)) rfl dX1_dueByDivision_15 lkX1_28 ?_
    refine J_iload_n 19 rfl dX1_dueByDivision_18 rfl ?_
    refine J_iadd 20 rfl dX1_dueByDivision_19 ?_
    refine J_aload_n 21 rfl dX1_dueByDivision_20 rfl ?_
    refine g_X1_cylinders 24 (by first | assumption | exact isH_1 | exact isH_31 | exact isH_61 | exact isH_p (by omega) | exact isH_E (by assumption) (by omega) | exact isH_R (by assumption) | exact isH_K (by assumption) | exact isH_E isH_1 (by omega) | exact isH_R isH_1 | exact isH_K isH_1 | exact isH_R isH_31 | exact isH_K isH_31 | exact isH_E isH_31 (by omega)) rfl dX1_dueByDivision_21 lkX1_24 ?_
    refine J_irem 25 rfl dX1_dueByDivision_24 (by omega) (by omega) (by omega) ?_
    refine J_iald 26 rfl dX1_dueByDivision_25 (sa_X1_order (by first | assumption | exact isH_1 | exact isH_31 | exact isH_61 | exact isH_p (by omega) | exact isH_E (by assumption) (by omega) | exact isH_R (by assumption) | exact isH_K (by assumption) | exact isH_E isH_1 (by omega) | exact isH_R isH_1 | exact isH_K isH_1 | exact isH_R isH_31 | exact isH_K isH_31 | exact isH_E isH_31 (by omega))) (by have := Nat.mod_lt (J b 7 + s) (show J b 6 > 0 by omega); omega) ?_
    refine J_iret rfl dX1_dueByDivision_26 ?_
    first | exact ⟨rfl, rfl⟩ | (exfalso; omega)
  · refine J_iconst 9 0 rfl dX1_dueByDivision_8 ic_0 ?_
    refine J_iret rfl dX1_dueByDivision_9 ?_
    first | exact ⟨rfl, rfl⟩ | (exfalso; omega)

theorem S_X1_keepKnock {g : Gn} {J : DJ} {b c : Nat} (hb : isE b) (h4 : J b 4 < 24) (h5 : J b 5 ≤ 24) : SJ g mX1_keepKnock 0 0 0 [.ref (g.2 b), .int (nI c)] J (Rv (if J b 5 < 24 then up2 (up2 J (b + 4) ((J b 4 + J b 5) % 24) c) b 5 (J b 5 + 1) else up2 (up2 J (b + 4) (J b 4) c) b 4 ((J b 4 + 1) % 24))) NoX := by
  refine SJ_of_VJ (by decide +kernel) (Nat.le_of_ble_eq_true rfl) ?_
  show VJ g mX1_keepKnock 0 0 0 _ _ 0 [(0, .ref (g.2 b)), (1, .int (nI c))] [] J
  refine J_aload_n 1 rfl dX1_keepKnock_0 rfl ?_
  refine g_X1_knocksKept 4 (by first | assumption | exact isH_1 | exact isH_31 | exact isH_61 | exact isH_p (by omega) | exact isH_E (by assumption) (by omega) | exact isH_R (by assumption) | exact isH_K (by assumption) | exact isH_E isH_1 (by omega) | exact isH_R isH_1 | exact isH_K isH_1 | exact isH_R isH_31 | exact isH_K isH_31 | exact isH_E isH_31 (by omega)) rfl dX1_keepKnock_1 lkX1_37 ?_
  refine J_bipush 6 24 rfl dX1_keepKnock_4 bc_24 ?_
  refine J_icmp_ge 40 9 (by decide) rfl dX1_keepKnock_6 (by omega) (by omega) (fun c6 => ?_) (fun c6 => ?_)
  · refine J_aload_n 41 rfl dX1_keepKnock_40 rfl ?_
    refine g_X1_knocks 44 (by first | assumption | exact isH_1 | exact isH_31 | exact isH_61 | exact isH_p (by omega) | exact isH_E (by assumption) (by omega) | exact isH_R (by assumption) | exact isH_K (by assumption) | exact isH_E isH_1 (by omega) | exact isH_R isH_1 | exact isH_K isH_1 | exact isH_R isH_31 | exact isH_K isH_31 | exact isH_E isH_31 (by omega)) rfl dX1_keepKnock_41 lkX1_21 ?_
    refine J_aload_n 45 rfl dX1_keepKnock_44 rfl ?_
    refine g_X1_oldestKnock 48 (by first | assumption | exact isH_1 | exact isH_31 | exact isH_61 | exact isH_p (by omega) | exact isH_E (by assumption) (by omega) | exact isH_R (by assumption) | exact isH_K (by assumption) | exact isH_E isH_1 (by omega) | exact isH_R isH_1 | exact isH_K isH_1 | exact isH_R isH_31 | exact isH_K isH_31 | exact isH_E isH_31 (by omega)) rfl dX1_keepKnock_45 lkX1_34 ?_
    refine J_iload_n 49 rfl dX1_keepKnock_48 rfl ?_
    refine J_iast 50 rfl dX1_keepKnock_49 (sa_X1_knocks (by first | assumption | exact isH_1 | exact isH_31 | exact isH_61 | exact isH_p (by omega) | exact isH_E (by assumption) (by omega) | exact isH_R (by assumption) | exact isH_K (by assumption) | exact isH_E isH_1 (by omega) | exact isH_R isH_1 | exact isH_K isH_1 | exact isH_R isH_31 | exact isH_K isH_31 | exact isH_E isH_31 (by omega))) (by omega) ?_
    refine J_aload_n 51 rfl dX1_keepKnock_50 rfl ?_
    refine J_aload_n 52 rfl dX1_keepKnock_51 rfl ?_
    refine g_X1_oldestKnock 55 (by first | assumption | exact isH_1 | exact isH_31 | exact isH_61 | exact isH_p (by omega) | exact isH_E (by assumption) (by omega) | exact isH_R (by assumption) | exact isH_K (by assumption) | exact isH_E isH_1 (by omega) | exact isH_R isH_1 | exact isH_K isH_1 | exact isH_R isH_31 | exact isH_K isH_31 | exact isH_E isH_31 (by omega)) rfl dX1_keepKnock_52 lkX1_34 ?_
    refine J_cv (b := J b 4) (by rw [up2_app, if_neg (by omega)]) ?_
    refine J_iconst 56 1 rfl dX1_keepKnock_55 ic_1 ?_
    refine J_iadd 57 rfl dX1_keepKnock_56 ?_
    refine J_bipush 59 24 rfl dX1_keepKnock_57 bc_24 ?_
    refine J_irem 60 rfl dX1_keepKnock_59 (by omega) (by omega) (by omega) ?_
    refine p_X1_oldestKnock 63 (by first | assumption | exact isH_1 | exact isH_31 | exact isH_61 | exact isH_p (by omega) | exact isH_E (by assumption) (by omega) | exact isH_R (by assumption) | exact isH_K (by assumption) | exact isH_E isH_1 (by omega) | exact isH_R isH_1 | exact isH_K isH_1 | exact isH_R isH_31 | exact isH_K isH_31 | exact isH_E isH_31 (by omega)) rfl dX1_keepKnock_60 lkX1_34 ?_
    refine J_vret rfl dX1_keepKnock_63 ?_
    first | exact ⟨rfl, by rw [if_pos (by omega)]⟩ | exact ⟨rfl, by rw [if_neg (by omega)]⟩
  · refine J_aload_n 10 rfl dX1_keepKnock_9 rfl ?_
    refine g_X1_knocks 13 (by first | assumption | exact isH_1 | exact isH_31 | exact isH_61 | exact isH_p (by omega) | exact isH_E (by assumption) (by omega) | exact isH_R (by assumption) | exact isH_K (by assumption) | exact isH_E isH_1 (by omega) | exact isH_R isH_1 | exact isH_K isH_1 | exact isH_R isH_31 | exact isH_K isH_31 | exact isH_E isH_31 (by omega)) rfl dX1_keepKnock_10 lkX1_21 ?_
    refine J_aload_n 14 rfl dX1_keepKnock_13 rfl ?_
    refine g_X1_oldestKnock 17 (by first | assumption | exact isH_1 | exact isH_31 | exact isH_61 | exact isH_p (by omega) | exact isH_E (by assumption) (by omega) | exact isH_R (by assumption) | exact isH_K (by assumption) | exact isH_E isH_1 (by omega) | exact isH_R isH_1 | exact isH_K isH_1 | exact isH_R isH_31 | exact isH_K isH_31 | exact isH_E isH_31 (by omega)) rfl dX1_keepKnock_14 lkX1_34 ?_
    refine J_aload_n 18 rfl dX1_keepKnock_17 rfl ?_
    refine g_X1_knocksKept 21 (by first | assumption | exact isH_1 | exact isH_31 | exact isH_61 | exact isH_p (by omega) | exact isH_E (by assumption) (by omega) | exact isH_R (by assumption) | exact isH_K (by assumption) | exact isH_E isH_1 (by omega) | exact isH_R isH_1 | exact isH_K isH_1 | exact isH_R isH_31 | exact isH_K isH_31 | exact isH_E isH_31 (by omega)) rfl dX1_keepKnock_18 lkX1_37 ?_
    refine J_iadd 22 rfl dX1_keepKnock_21 ?_
    refine J_bipush 24 24 rfl dX1_keepKnock_22 bc_24 ?_
    refine J_irem 25 rfl dX1_keepKnock_24 (by omega) (by omega) (by omega) ?_
    refine J_iload_n 26 rfl dX1_keepKnock_25 rfl ?_
    refine J_iast 27 rfl dX1_keepKnock_26 (sa_X1_knocks (by first | assumption | exact isH_1 | exact isH_31 | exact isH_61 | exact isH_p (by omega) | exact isH_E (by assumption) (by omega) | exact isH_R (by assumption) | exact isH_K (by assumption) | exact isH_E isH_1 (by omega) | exact isH_R isH_1 | exact isH_K isH_1 | exact isH_R isH_31 | exact isH_K isH_31 | exact isH_E isH_31 (by omega))) (by omega) ?_
    refine J_aload_n 28 rfl dX1_keepKnock_27 rfl ?_
    refine J_dup 29 rfl dX1_keepKnock_28 rfl ?_
    refine g_X1_knocksKept 32 (by first | assumption | exact isH_1 | exact isH_31 | exact isH_61 | exact isH_p (by omega) | exact isH_E (by assumption) (by omega) | exact isH_R (by assumption) | exact isH_K (by assumption) | exact isH_E isH_1 (by omega) | exact isH_R isH_1 | exact isH_K isH_1 | exact isH_R isH_31 | exact isH_K isH_31 | exact isH_E isH_31 (by omega)) rfl dX1_keepKnock_29 lkX1_37 ?_
    refine J_cv (b := J b 5) (by rw [up2_app, if_neg (by omega)]) ?_
    refine J_iconst 33 1 rfl dX1_keepKnock_32 ic_1 ?_
    refine J_iadd 34 rfl dX1_keepKnock_33 ?_
    refine p_X1_knocksKept 37 (by first | assumption | exact isH_1 | exact isH_31 | exact isH_61 | exact isH_p (by omega) | exact isH_E (by assumption) (by omega) | exact isH_R (by assumption) | exact isH_K (by assumption) | exact isH_E isH_1 (by omega) | exact isH_R isH_1 | exact isH_K isH_1 | exact isH_R isH_31 | exact isH_K isH_31 | exact isH_E isH_31 (by omega)) rfl dX1_keepKnock_34 lkX1_37 ?_
    refine J_goto 63 (by decide) dX1_keepKnock_37 ?_
    refine J_vret rfl dX1_keepKnock_63 ?_
    first | exact ⟨rfl, by rw [if_pos (by omega)]⟩ | exact ⟨rfl, by rw [if_neg (by omega)]⟩

theorem S_X1_sumOf {g : Gn} {J : DJ} {b r N : Nat} (hb : isE b) (har : arI r N) (hN : J b 6 ≤ N) (h8 : J b 6 ≤ 8) : SJ g mX1_sumOf 0 0 0 [.ref (g.2 b), .ref (g.2 r)] J (Ri (sumN (J r) (J b 6)) J) NoX := by
  refine SJ_of_VJ (by decide +kernel) (Nat.le_of_ble_eq_true rfl) ?_
  show VJ g mX1_sumOf 0 0 0 _ _ 0 [(0, .ref (g.2 b)), (1, .ref (g.2 r))] [] J
  have loop : ∀ (n9 : Nat) (i : Nat), J b 6 - i = n9 → i ≤ J b 6 → VJ g mX1_sumOf 0 0 0 (Ri (sumN (J r) (J b 6)) J) NoX 4 [(0, .ref (g.2 b)), (1, .ref (g.2 r)), (2, .int (nI (sumN (J r) i))), (3, .int (nI (i)))] [] J := by
    intro n9
    induction n9 using Nat.strongRecOn with
    | ind n9 ih =>
    intro i hi hle
    refine J_iload_n 5 rfl dX1_sumOf_4 rfl ?_
    refine J_aload_n 6 rfl dX1_sumOf_5 rfl ?_
    refine g_X1_cylinders 9 (by first | assumption | exact isH_1 | exact isH_31 | exact isH_61 | exact isH_p (by omega) | exact isH_E (by assumption) (by omega) | exact isH_R (by assumption) | exact isH_K (by assumption) | exact isH_E isH_1 (by omega) | exact isH_R isH_1 | exact isH_K isH_1 | exact isH_R isH_31 | exact isH_K isH_31 | exact isH_E isH_31 (by omega)) rfl dX1_sumOf_6 lkX1_24 ?_
    refine J_icmp_ge 24 12 (by decide) rfl dX1_sumOf_9 (by omega) (by omega) (fun c9 => ?_) (fun c9 => ?_)
    · refine J_iload_n 25 rfl dX1_sumOf_24 rfl ?_
      refine J_iret rfl dX1_sumOf_25 ?_
      have e : i = J b 6 := by omega
      rw [e]
      exact ⟨rfl, rfl⟩
    · refine J_iload_n 13 rfl dX1_sumOf_12 rfl ?_
      refine J_aload_n 14 rfl dX1_sumOf_13 rfl ?_
      refine J_iload_n 15 rfl dX1_sumOf_14 rfl ?_
      refine J_iald 16 rfl dX1_sumOf_15 har (by omega) ?_
      refine J_iadd 17 rfl dX1_sumOf_16 ?_
      refine J_istore_n 18 rfl dX1_sumOf_17 rfl (Nat.le_of_ble_eq_true rfl) ?_
      refine J_iinc 21 1 rfl dX1_sumOf_18 ic_1 rfl (Nat.le_of_ble_eq_true rfl) ?_
      refine J_goto 4 (by decide) dX1_sumOf_21 ?_
      exact ih _ (by omega) (i + 1) rfl (by omega)
  refine J_iconst 1 0 rfl dX1_sumOf_0 ic_0 ?_
  refine J_istore_n 2 rfl dX1_sumOf_1 rfl (Nat.le_of_ble_eq_true rfl) ?_
  refine J_iconst 3 0 rfl dX1_sumOf_2 ic_0 ?_
  refine J_istore_n 4 rfl dX1_sumOf_3 rfl (Nat.le_of_ble_eq_true rfl) ?_
  exact loop _ 0 rfl (Nat.zero_le _)

theorem S_X1_dueByCounting {g : Gn} {J : DJ} {b s : Nat} (hb : isE b) (h1 : 1 ≤ J b 6) (h8 : J b 6 ≤ 8) (h7 : J b 7 < J b 6) (hs : s < 1073741824) : SJ g mX1_dueByCounting 1 0 0 [.ref (g.2 b), .int (nI (s))] J (Ri (J (b + 1) ((J b 7 + s) % J b 6)) J) NoX := by
  refine SJ_of_VJ (by decide +kernel) (Nat.le_of_ble_eq_true rfl) ?_
  show VJ g mX1_dueByCounting 1 0 0 _ _ 0 [(0, .ref (g.2 b)), (1, .int (nI (s)))] [] J
  have loop : ∀ (n9 : Nat) (i : Nat), s - i = n9 → i ≤ s → VJ g mX1_dueByCounting 1 0 0 (Ri (J (b + 1) ((J b 7 + s) % J b 6)) J) NoX 7 [(0, .ref (g.2 b)), (1, .int (nI (s))), (2, .int (nI ((J b 7 + i) % J b 6))), (3, .int (nI (i)))] [] J := by
    intro n9
    induction n9 using Nat.strongRecOn with
    | ind n9 ih =>
    intro i hi hle
    have hm := Nat.mod_lt (J b 7 + i) (show J b 6 > 0 by omega)
    refine J_iload_n 8 rfl dX1_dueByCounting_7 rfl ?_
    refine J_iload_n 9 rfl dX1_dueByCounting_8 rfl ?_
    refine J_icmp_ge 24 12 (by decide) rfl dX1_dueByCounting_9 (by omega) (by omega) (fun c9 => ?_) (fun c9 => ?_)
    · refine J_aload_n 25 rfl dX1_dueByCounting_24 rfl ?_
      refine g_X1_order 28 (by first | assumption | exact isH_1 | exact isH_31 | exact isH_61 | exact isH_p (by omega) | exact isH_E (by assumption) (by omega) | exact isH_R (by assumption) | exact isH_K (by assumption) | exact isH_E isH_1 (by omega) | exact isH_R isH_1 | exact isH_K isH_1 | exact isH_R isH_31 | exact isH_K isH_31 | exact isH_E isH_31 (by omega)) rfl dX1_dueByCounting_25 lkX1_9 ?_
      refine J_iload_n 29 rfl dX1_dueByCounting_28 rfl ?_
      refine J_iald 30 rfl dX1_dueByCounting_29 (sa_X1_order (by first | assumption | exact isH_1 | exact isH_31 | exact isH_61 | exact isH_p (by omega) | exact isH_E (by assumption) (by omega) | exact isH_R (by assumption) | exact isH_K (by assumption) | exact isH_E isH_1 (by omega) | exact isH_R isH_1 | exact isH_K isH_1 | exact isH_R isH_31 | exact isH_K isH_31 | exact isH_E isH_31 (by omega))) (by omega) ?_
      refine J_iret rfl dX1_dueByCounting_30 ?_
      have e : i = s := by omega
      rw [e]
      exact ⟨rfl, rfl⟩
    · refine J_aload_n 13 rfl dX1_dueByCounting_12 rfl ?_
      refine J_iload_n 14 rfl dX1_dueByCounting_13 rfl ?_
      refine J_callVi (As := [_]) 17 _ rfl kalX1_placeAfter lkX1_50 dX1_dueByCounting_14 (lt_X1 (by first | assumption | exact isH_1 | exact isH_31 | exact isH_61 | exact isH_p (by omega) | exact isH_E (by assumption) (by omega) | exact isH_R (by assumption) | exact isH_K (by assumption) | exact isH_E isH_1 (by omega) | exact isH_R isH_1 | exact isH_K isH_1 | exact isH_R isH_31 | exact isH_K isH_31 | exact isH_E isH_31 (by omega))) (so_X1 (by first | assumption | exact isH_1 | exact isH_31 | exact isH_61 | exact isH_p (by omega) | exact isH_E (by assumption) (by omega) | exact isH_R (by assumption) | exact isH_K (by assumption) | exact isH_E isH_1 (by omega) | exact isH_R isH_1 | exact isH_K isH_1 | exact isH_R isH_31 | exact isH_K isH_31 | exact isH_E isH_31 (by omega))) rfl rfl rfl (by exact Nat.le_of_ble_eq_true rfl) (by omega) (S_X1_placeAfter hb (by omega) (by omega)) ?_
      refine J_istore_n 18 rfl dX1_dueByCounting_17 rfl (Nat.le_of_ble_eq_true rfl) ?_
      rw [show (if (J b 7 + i) % J b 6 + 1 < J b 6 then (J b 7 + i) % J b 6 + 1 else 0) = (J b 7 + (i + 1)) % J b 6 from mod_step h1]
      refine J_iinc 21 1 rfl dX1_dueByCounting_18 ic_1 rfl (Nat.le_of_ble_eq_true rfl) ?_
      refine J_goto 7 (by decide) dX1_dueByCounting_21 ?_
      exact ih _ (by omega) (i + 1) rfl (by omega)
  refine J_aload_n 1 rfl dX1_dueByCounting_0 rfl ?_
  refine g_X1_due 4 (by first | assumption | exact isH_1 | exact isH_31 | exact isH_61 | exact isH_p (by omega) | exact isH_E (by assumption) (by omega) | exact isH_R (by assumption) | exact isH_K (by assumption) | exact isH_E isH_1 (by omega) | exact isH_R isH_1 | exact isH_K isH_1 | exact isH_R isH_31 | exact isH_K isH_31 | exact isH_E isH_31 (by omega)) rfl dX1_dueByCounting_1 lkX1_28 ?_
  refine J_istore_n 5 rfl dX1_dueByCounting_4 rfl (Nat.le_of_ble_eq_true rfl) ?_
  refine J_iconst 6 0 rfl dX1_dueByCounting_5 ic_0 ?_
  refine J_istore_n 7 rfl dX1_dueByCounting_6 rfl (Nat.le_of_ble_eq_true rfl) ?_
  have e : (J b 7 + 0) % J b 6 = J b 7 := Nat.mod_eq_of_lt h7
  have l := loop _ 0 rfl (Nat.zero_le _)
  rw [e] at l
  exact l

theorem S_X1_cycleFrom {g : Gn} {J : DJ} {b c : Nat} (hb : isE b) (h1 : 1 ≤ J b 6) (h8 : J b 6 ≤ 8) (hw : ∀ c, c < J b 6 → J (b + 1) c < J b 6) (hc : c < J b 6) : SJ g mX1_cycleFrom 0 0 0 [.ref (g.2 b), .int (nI (c))] J (Ri (cyc (J (b + 1)) (J b 6) c) J) NoX := by
  refine SJ_of_VJ (by decide +kernel) (Nat.le_of_ble_eq_true rfl) ?_
  show VJ g mX1_cycleFrom 0 0 0 _ _ 0 [(0, .ref (g.2 b)), (1, .int (nI (c)))] [] J
  have loop : ∀ (n9 : Nat) (p len k : Nat), J b 6 - len = n9 → p < J b 6 → len ≤ J b 6 → J b 6 - len ≤ k → cyc (J (b + 1)) (J b 6) c = cyW (J (b + 1)) (J b 6) c k p len → VJ g mX1_cycleFrom 0 0 0 (Ri (cyc (J (b + 1)) (J b 6) c) J) NoX 9 [(0, .ref (g.2 b)), (1, .int (nI (c))), (2, .int (nI (len))), (3, .int (nI (p)))] [] J := by
    intro n9
    induction n9 using Nat.strongRecOn with
    | ind n9 ih =>
    intro p len k hi hp hl hk he
    refine J_iload_n 10 rfl dX1_cycleFrom_9 rfl ?_
    refine J_iload_n 11 rfl dX1_cycleFrom_10 rfl ?_
    refine J_icmp_eq 35 14 (by decide) rfl dX1_cycleFrom_11 (by omega) (by omega) (fun c11 => ?_) (fun c11 => ?_)
    · refine J_iload_n 36 rfl dX1_cycleFrom_35 rfl ?_
      refine J_iret rfl dX1_cycleFrom_36 ?_
      refine ⟨?_, rfl⟩
      rw [he, cyW_stop (by omega)]
    · refine J_iload_n 15 rfl dX1_cycleFrom_14 rfl ?_
      refine J_aload_n 16 rfl dX1_cycleFrom_15 rfl ?_
      refine g_X1_cylinders 19 (by first | assumption | exact isH_1 | exact isH_31 | exact isH_61 | exact isH_p (by omega) | exact isH_E (by assumption) (by omega) | exact isH_R (by assumption) | exact isH_K (by assumption) | exact isH_E isH_1 (by omega) | exact isH_R isH_1 | exact isH_K isH_1 | exact isH_R isH_31 | exact isH_K isH_31 | exact isH_E isH_31 (by omega)) rfl dX1_cycleFrom_16 lkX1_24 ?_
      refine J_icmp_ge 35 22 (by decide) rfl dX1_cycleFrom_19 (by omega) (by omega) (fun c19 => ?_) (fun c19 => ?_)
      · refine J_iload_n 36 rfl dX1_cycleFrom_35 rfl ?_
        refine J_iret rfl dX1_cycleFrom_36 ?_
        refine ⟨?_, rfl⟩
        rw [he, cyW_stop (by omega)]
      · refine J_iinc 25 1 rfl dX1_cycleFrom_22 ic_1 rfl (Nat.le_of_ble_eq_true rfl) ?_
        refine J_aload_n 26 rfl dX1_cycleFrom_25 rfl ?_
        refine g_X1_order 29 (by first | assumption | exact isH_1 | exact isH_31 | exact isH_61 | exact isH_p (by omega) | exact isH_E (by assumption) (by omega) | exact isH_R (by assumption) | exact isH_K (by assumption) | exact isH_E isH_1 (by omega) | exact isH_R isH_1 | exact isH_K isH_1 | exact isH_R isH_31 | exact isH_K isH_31 | exact isH_E isH_31 (by omega)) rfl dX1_cycleFrom_26 lkX1_9 ?_
        refine J_iload_n 30 rfl dX1_cycleFrom_29 rfl ?_
        refine J_iald 31 rfl dX1_cycleFrom_30 (sa_X1_order (by first | assumption | exact isH_1 | exact isH_31 | exact isH_61 | exact isH_p (by omega) | exact isH_E (by assumption) (by omega) | exact isH_R (by assumption) | exact isH_K (by assumption) | exact isH_E isH_1 (by omega) | exact isH_R isH_1 | exact isH_K isH_1 | exact isH_R isH_31 | exact isH_K isH_31 | exact isH_E isH_31 (by omega))) (by omega) ?_
        refine J_istore_n 32 rfl dX1_cycleFrom_31 rfl (Nat.le_of_ble_eq_true rfl) ?_
        refine J_goto 9 (by decide) dX1_cycleFrom_32 ?_
        obtain ⟨k, rfl⟩ : ∃ k2, k = k2 + 1 := ⟨k - 1, by omega⟩
        exact ih _ (by omega) (J (b + 1) p) (len + 1) k rfl (hw p hp) (by omega) (by omega) (by rw [he]; simp only [cyW]; rw [if_neg (by omega)])
  refine J_iconst 1 1 rfl dX1_cycleFrom_0 ic_1 ?_
  refine J_istore_n 2 rfl dX1_cycleFrom_1 rfl (Nat.le_of_ble_eq_true rfl) ?_
  refine J_aload_n 3 rfl dX1_cycleFrom_2 rfl ?_
  refine g_X1_order 6 (by first | assumption | exact isH_1 | exact isH_31 | exact isH_61 | exact isH_p (by omega) | exact isH_E (by assumption) (by omega) | exact isH_R (by assumption) | exact isH_K (by assumption) | exact isH_E isH_1 (by omega) | exact isH_R isH_1 | exact isH_K isH_1 | exact isH_R isH_31 | exact isH_K isH_31 | exact isH_E isH_31 (by omega)) rfl dX1_cycleFrom_3 lkX1_9 ?_
  refine J_iload_n 7 rfl dX1_cycleFrom_6 rfl ?_
  refine J_iald 8 rfl dX1_cycleFrom_7 (sa_X1_order (by first | assumption | exact isH_1 | exact isH_31 | exact isH_61 | exact isH_p (by omega) | exact isH_E (by assumption) (by omega) | exact isH_R (by assumption) | exact isH_K (by assumption) | exact isH_E isH_1 (by omega) | exact isH_R isH_1 | exact isH_K isH_1 | exact isH_R isH_31 | exact isH_K isH_31 | exact isH_E isH_31 (by omega))) (by omega) ?_
  refine J_istore_n 9 rfl dX1_cycleFrom_8 rfl (Nat.le_of_ble_eq_true rfl) ?_
  exact loop _ (J (b + 1) c) 1 (J b 6) rfl (hw c hc) h1 (by omega) rfl

theorem S_X1_leastCommonMultiple {g : Gn} {J : DJ} {a c : Nat} (ha : 1 ≤ a) (hc : 1 ≤ c) (ha2 : a ≤ 10000) (hc2 : c ≤ 10000) : SJ g mX1_leastCommonMultiple 0 0 0 [.int (nI (a)), .int (nI (c))] J (Ri (Nat.lcm a c) J) NoX := by
  refine SJ_of_VJ (by decide +kernel) (Nat.le_of_ble_eq_true rfl) ?_
  show VJ g mX1_leastCommonMultiple 0 0 0 _ _ 0 [(0, .int (nI (a))), (1, .int (nI (c)))] [] J
  have loop : ∀ (n9 : Nat) (t : Nat), c - t = n9 → 1 ≤ t → t ≤ c → (∀ s, 1 ≤ s → s < t → ¬ (a * s) % c = 0) → VJ g mX1_leastCommonMultiple 0 0 0 (Ri (Nat.lcm a c) J) NoX 2 [(0, .int (nI (a))), (1, .int (nI (c))), (2, .int (nI (t)))] [] J := by
    intro n9
    induction n9 using Nat.strongRecOn with
    | ind n9 ih =>
    intro t hi h1 ht hmin
    have hb1 : a * t ≤ 10000 * 10000 := Nat.mul_le_mul ha2 (by omega)
    have hb2 : a * c ≤ 10000 * 10000 := Nat.mul_le_mul ha2 hc2
    refine J_iload_n 3 rfl dX1_leastCommonMultiple_2 rfl ?_
    refine J_iload_n 4 rfl dX1_leastCommonMultiple_3 rfl ?_
    refine J_icmp_ge 25 7 (by decide) rfl dX1_leastCommonMultiple_4 (by omega) (by omega) (fun c4 => ?_) (fun c4 => ?_)
    · refine J_iload_n 26 rfl dX1_leastCommonMultiple_25 rfl ?_
      refine J_iload_n 27 rfl dX1_leastCommonMultiple_26 rfl ?_
      refine J_imul 28 rfl dX1_leastCommonMultiple_27 ?_
      refine J_iret rfl dX1_leastCommonMultiple_28 ?_
      have e : t = c := by omega
      subst e
      exact ⟨by rw [lcm_least ha hc (Nat.mul_mod_left a t) hmin h1], rfl⟩
    · refine J_iload_n 8 rfl dX1_leastCommonMultiple_7 rfl ?_
      refine J_iload_n 9 rfl dX1_leastCommonMultiple_8 rfl ?_
      refine J_imul 10 rfl dX1_leastCommonMultiple_9 ?_
      refine J_iload_n 11 rfl dX1_leastCommonMultiple_10 rfl ?_
      refine J_irem 12 rfl dX1_leastCommonMultiple_11 (by omega) (by omega) (by omega) ?_
      refine J_if_ne 19 15 (by decide) rfl dX1_leastCommonMultiple_12 (by have := Nat.mod_lt (a * t) (show c > 0 by omega); omega) (fun c12 => ?_) (fun c12 => ?_)
      · refine J_iinc 22 1 rfl dX1_leastCommonMultiple_19 ic_1 rfl (Nat.le_of_ble_eq_true rfl) ?_
        refine J_goto 2 (by decide) dX1_leastCommonMultiple_22 ?_
        exact ih _ (by omega) (t + 1) rfl (by omega) (by omega) (fun s q1 q2 => (Nat.lt_or_eq_of_le (Nat.le_of_lt_succ q2)).elim (fun q => hmin s q1 q) (fun e => by rw [e]; assumption))
      · refine J_iload_n 16 rfl dX1_leastCommonMultiple_15 rfl ?_
        refine J_iload_n 17 rfl dX1_leastCommonMultiple_16 rfl ?_
        refine J_imul 18 rfl dX1_leastCommonMultiple_17 ?_
        refine J_iret rfl dX1_leastCommonMultiple_18 ?_
        exact ⟨by rw [lcm_least ha hc (by assumption) hmin h1], rfl⟩
  refine J_iconst 1 1 rfl dX1_leastCommonMultiple_0 ic_1 ?_
  refine J_istore_n 2 rfl dX1_leastCommonMultiple_1 rfl (Nat.le_of_ble_eq_true rfl) ?_
  exact loop _ 1 rfl (by omega) hc (fun s h1 h2 => absurd h2 (by omega))

theorem S_X1_turnByCycles {g : Gn} {J : DJ} {b : Nat} (hb : isE b) (h1 : 1 ≤ J b 6) (h8 : J b 6 ≤ 8) (hw : ∀ c, c < J b 6 → J (b + 1) c < J b 6) : SJ g mX1_turnByCycles 1 0 0 [.ref (g.2 b)] J (Ri (tuC (J (b + 1)) (J b 6) (J b 6)) J) NoX := by
  refine SJ_of_VJ (by decide +kernel) (Nat.le_of_ble_eq_true rfl) ?_
  show VJ g mX1_turnByCycles 1 0 0 _ _ 0 [(0, .ref (g.2 b))] [] J
  have loop : ∀ (n9 : Nat) (i : Nat), J b 6 - i = n9 → i ≤ J b 6 → VJ g mX1_turnByCycles 1 0 0 (Ri (tuC (J (b + 1)) (J b 6) (J b 6)) J) NoX 4 [(0, .ref (g.2 b)), (1, .int (nI (tuC (J (b + 1)) (J b 6) i))), (2, .int (nI (i)))] [] J := by
    intro n9
    induction n9 using Nat.strongRecOn with
    | ind n9 ih =>
    intro i hi hle
    refine J_iload_n 5 rfl dX1_turnByCycles_4 rfl ?_
    refine J_aload_n 6 rfl dX1_turnByCycles_5 rfl ?_
    refine g_X1_cylinders 9 (by first | assumption | exact isH_1 | exact isH_31 | exact isH_61 | exact isH_p (by omega) | exact isH_E (by assumption) (by omega) | exact isH_R (by assumption) | exact isH_K (by assumption) | exact isH_E isH_1 (by omega) | exact isH_R isH_1 | exact isH_K isH_1 | exact isH_R isH_31 | exact isH_K isH_31 | exact isH_E isH_31 (by omega)) rfl dX1_turnByCycles_6 lkX1_24 ?_
    refine J_icmp_ge 28 12 (by decide) rfl dX1_turnByCycles_9 (by omega) (by omega) (fun c9 => ?_) (fun c9 => ?_)
    · refine J_iload_n 29 rfl dX1_turnByCycles_28 rfl ?_
      refine J_iret rfl dX1_turnByCycles_29 ?_
      have e : i = J b 6 := by omega
      rw [e]
      exact ⟨rfl, rfl⟩
    · refine J_iload_n 13 rfl dX1_turnByCycles_12 rfl ?_
      refine J_aload_n 14 rfl dX1_turnByCycles_13 rfl ?_
      refine J_iload_n 15 rfl dX1_turnByCycles_14 rfl ?_
      refine J_callVi (As := [_]) 18 _ rfl kalX1_cycleFrom lkX1_54 dX1_turnByCycles_15 (lt_X1 (by first | assumption | exact isH_1 | exact isH_31 | exact isH_61 | exact isH_p (by omega) | exact isH_E (by assumption) (by omega) | exact isH_R (by assumption) | exact isH_K (by assumption) | exact isH_E isH_1 (by omega) | exact isH_R isH_1 | exact isH_K isH_1 | exact isH_R isH_31 | exact isH_K isH_31 | exact isH_E isH_31 (by omega))) (so_X1 (by first | assumption | exact isH_1 | exact isH_31 | exact isH_61 | exact isH_p (by omega) | exact isH_E (by assumption) (by omega) | exact isH_R (by assumption) | exact isH_K (by assumption) | exact isH_E isH_1 (by omega) | exact isH_R isH_1 | exact isH_K isH_1 | exact isH_R isH_31 | exact isH_K isH_31 | exact isH_E isH_31 (by omega))) rfl rfl rfl (by exact Nat.le_of_ble_eq_true rfl) (by omega) (S_X1_cycleFrom hb h1 h8 hw (by omega)) ?_
      refine J_callSi (As := [_, _]) 21 rfl kalX1_leastCommonMultiple lkX1_57 dX1_turnByCycles_18 rfl rfl (by exact Nat.le_of_ble_eq_true rfl) (by omega) (S_X1_leastCommonMultiple (tuC_pos h1 h8 i).1 (cyc_in h1).1 (Nat.le_trans (tuC_pos h1 h8 i).2 (by omega)) (Nat.le_trans (cyc_in h1).2 (by omega))) ?_
      refine J_istore_n 22 rfl dX1_turnByCycles_21 rfl (Nat.le_of_ble_eq_true rfl) ?_
      refine J_iinc 25 1 rfl dX1_turnByCycles_22 ic_1 rfl (Nat.le_of_ble_eq_true rfl) ?_
      refine J_goto 4 (by decide) dX1_turnByCycles_25 ?_
      exact ih _ (by omega) (i + 1) rfl (by omega)
  refine J_iconst 1 1 rfl dX1_turnByCycles_0 ic_1 ?_
  refine J_istore_n 2 rfl dX1_turnByCycles_1 rfl (Nat.le_of_ble_eq_true rfl) ?_
  refine J_iconst 3 0 rfl dX1_turnByCycles_2 ic_0 ?_
  refine J_istore_n 4 rfl dX1_turnByCycles_3 rfl (Nat.le_of_ble_eq_true rfl) ?_
  exact loop _ 0 rfl (Nat.zero_le _)

theorem S_X1_leadsBackAfter {g : Gn} {J : DJ} {b t : Nat} (hb : isE b) (h1 : 1 ≤ J b 6) (h8 : J b 6 ≤ 8) (hw : ∀ c, c < J b 6 → J (b + 1) c < J b 6) (ht : t < 1000) [hdp : Decidable (∀ c, c < J b 6 → itN (J (b + 1)) t c = c)] : SJ g mX1_leadsBackAfter 0 0 0 [.ref (g.2 b), .int (nI (t))] J (Ri (bt (∀ c, c < J b 6 → itN (J (b + 1)) t c = c)) J) NoX := by
  refine SJ_of_VJ (by decide +kernel) (Nat.le_of_ble_eq_true rfl) ?_
  show VJ g mX1_leadsBackAfter 0 0 0 _ _ 0 [(0, .ref (g.2 b)), (1, .int (nI (t)))] [] J
  have inner : ∀ (n9 : Nat) (c i : Nat), t - i = n9 → c < J b 6 → i ≤ t → (VJ g mX1_leadsBackAfter 0 0 0 (Ri (bt (∀ c, c < J b 6 → itN (J (b + 1)) t c = c)) J) NoX 34 [(0, .ref (g.2 b)), (1, .int (nI t)), (2, .int (nI c)), (3, .int (nI (itN (J (b + 1)) t c))), (4, .int (nI t))] [] J) → VJ g mX1_leadsBackAfter 0 0 0 (Ri (bt (∀ c, c < J b 6 → itN (J (b + 1)) t c = c)) J) NoX 15 [(0, .ref (g.2 b)), (1, .int (nI (t))), (2, .int (nI (c))), (3, .int (nI (itN (J (b + 1)) i c))), (4, .int (nI (i)))] [] J := by
    intro n9
    induction n9 using Nat.strongRecOn with
    | ind n9 ih =>
    intro c i hi hc hle k
    refine J_iload 17 rfl dX1_leadsBackAfter_15 rfl ?_
    refine J_iload_n 18 rfl dX1_leadsBackAfter_17 rfl ?_
    refine J_icmp_ge 34 21 (by decide) rfl dX1_leadsBackAfter_18 (by omega) (by omega) (fun c18 => ?_) (fun c18 => ?_)
    · have e : i = t := by omega
      subst e
      exact k
    · refine J_aload_n 22 rfl dX1_leadsBackAfter_21 rfl ?_
      refine g_X1_order 25 (by first | assumption | exact isH_1 | exact isH_31 | exact isH_61 | exact isH_p (by omega) | exact isH_E (by assumption) (by omega) | exact isH_R (by assumption) | exact isH_K (by assumption) | exact isH_E isH_1 (by omega) | exact isH_R isH_1 | exact isH_K isH_1 | exact isH_R isH_31 | exact isH_K isH_31 | exact isH_E isH_31 (by omega)) rfl dX1_leadsBackAfter_22 lkX1_9 ?_
      refine J_iload_n 26 rfl dX1_leadsBackAfter_25 rfl ?_
      refine J_iald 27 rfl dX1_leadsBackAfter_26 (sa_X1_order (by first | assumption | exact isH_1 | exact isH_31 | exact isH_61 | exact isH_p (by omega) | exact isH_E (by assumption) (by omega) | exact isH_R (by assumption) | exact isH_K (by assumption) | exact isH_E isH_1 (by omega) | exact isH_R isH_1 | exact isH_K isH_1 | exact isH_R isH_31 | exact isH_K isH_31 | exact isH_E isH_31 (by omega))) (by have := itN_lt hw hc i; omega) ?_
      refine J_istore_n 28 rfl dX1_leadsBackAfter_27 rfl (Nat.le_of_ble_eq_true rfl) ?_
      refine J_iinc 31 1 rfl dX1_leadsBackAfter_28 ic_1 rfl (Nat.le_of_ble_eq_true rfl) ?_
      refine J_goto 15 (by decide) dX1_leadsBackAfter_31 ?_
      exact ih _ (by omega) c (i + 1) rfl hc (by omega) k
  have loop : ∀ (n9 : Nat) (c : Nat), J b 6 - c = n9 → c ≤ J b 6 → (∀ a, a < c → itN (J (b + 1)) t a = a) → VJ g mX1_leadsBackAfter 0 0 0 (Ri (bt (∀ c, c < J b 6 → itN (J (b + 1)) t c = c)) J) NoX 2 [(0, .ref (g.2 b)), (1, .int (nI (t))), (2, .int (nI (c)))] [] J := by
    intro n9
    induction n9 using Nat.strongRecOn with
    | ind n9 ih =>
    intro c hi hc hle
    refine J_iload_n 3 rfl dX1_leadsBackAfter_2 rfl ?_
    refine J_aload_n 4 rfl dX1_leadsBackAfter_3 rfl ?_
    refine g_X1_cylinders 7 (by first | assumption | exact isH_1 | exact isH_31 | exact isH_61 | exact isH_p (by omega) | exact isH_E (by assumption) (by omega) | exact isH_R (by assumption) | exact isH_K (by assumption) | exact isH_E isH_1 (by omega) | exact isH_R isH_1 | exact isH_K isH_1 | exact isH_R isH_31 | exact isH_K isH_31 | exact isH_E isH_31 (by omega)) rfl dX1_leadsBackAfter_4 lkX1_24 ?_
    refine J_icmp_ge 47 10 (by decide) rfl dX1_leadsBackAfter_7 (by omega) (by omega) (fun c7 => ?_) (fun c7 => ?_)
    · refine J_iconst 48 1 rfl dX1_leadsBackAfter_47 ic_1 ?_
      refine J_zret1 rfl dX1_leadsBackAfter_48 ?_
      have e : c = J b 6 := by omega
      subst_vars
      exact ⟨by rw [bt_t (fun a ha => hle a (by omega))], rfl⟩
    · refine J_iload_n 11 rfl dX1_leadsBackAfter_10 rfl ?_
      refine J_istore_n 12 rfl dX1_leadsBackAfter_11 rfl (Nat.le_of_ble_eq_true rfl) ?_
      refine J_iconst 13 0 rfl dX1_leadsBackAfter_12 ic_0 ?_
      refine J_istore 15 rfl dX1_leadsBackAfter_13 (Nat.le_of_ble_eq_true rfl) ?_
      refine inner _ c 0 rfl (by omega) (Nat.zero_le _) ?_
      have hlt := itN_lt hw (show c < J b 6 by omega) t
      refine J_iload_n 35 rfl dX1_leadsBackAfter_34 rfl ?_
      refine J_iload_n 36 rfl dX1_leadsBackAfter_35 rfl ?_
      refine J_icmp_eq 41 39 (by decide) rfl dX1_leadsBackAfter_36 (by omega) (by omega) (fun c36 => ?_) (fun c36 => ?_)
      · refine J_iinc 44 1 rfl dX1_leadsBackAfter_41 ic_1 rfl (Nat.le_of_ble_eq_true rfl) ?_
        refine J_goto 2 (by decide) dX1_leadsBackAfter_44 ?_
        refine J_keep [0, 1, 2] ?_
        exact ih _ (by omega) (c + 1) rfl (by omega) (fun a ha => (Nat.lt_or_eq_of_le (Nat.le_of_lt_succ ha)).elim (fun q => hle a q) (fun e => by rw [e]; assumption))
      · refine J_iconst 40 0 rfl dX1_leadsBackAfter_39 ic_0 ?_
        refine J_zret0 rfl dX1_leadsBackAfter_40 ?_
        exact ⟨by rw [bt_f (fun q => absurd (q c (by omega)) (by assumption))], rfl⟩
  refine J_iconst 1 0 rfl dX1_leadsBackAfter_0 ic_0 ?_
  refine J_istore_n 2 rfl dX1_leadsBackAfter_1 rfl (Nat.le_of_ble_eq_true rfl) ?_
  exact loop _ 0 rfl (Nat.zero_le _) (fun a ha => absurd ha (by omega))

