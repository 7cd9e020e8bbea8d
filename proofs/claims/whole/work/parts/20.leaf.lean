/-! LEAVES OF THE CLASS (laid by wip/whole/src/p20.py) -/
theorem bt_t {p : Prop} [Decidable p] (h : p) : bt p = 1 := if_pos h
theorem bt_f {p : Prop} [Decidable p] (h : ¬ p) : bt p = 0 := if_neg h
theorem bt_c {p q : Prop} [Decidable p] [Decidable q] (h : p ↔ q) : bt p = bt q := by
  by_cases z : p
  · rw [bt_t z, bt_t (h.mp z)]
  · rw [bt_f z, bt_f (fun w => z (h.mpr w))]
theorem bt_lt (p : Prop) [Decidable p] : bt p < 2 := by unfold bt; split <;> omega
theorem wi_le {n a c : Nat} (hn : n < 4294967296) (ha : a < 2147483648) (hc : c < 2147483648) : (nI a ≤ nI n ∧ nI n ≤ nI c) ↔ (n < 2147483648 ∧ a ≤ n ∧ n ≤ c) := by
  rw [nI_leS hn ha]
  constructor
  · rintro ⟨⟨h1, h2⟩, h3⟩
    exact ⟨h1, h2, (nI_leI h1 hc).mp h3⟩
  · rintro ⟨h1, h2, h3⟩
    exact ⟨⟨h1, h2⟩, (nI_leI h1 hc).mpr h3⟩
theorem wi_lt {n a c : Nat} (hn : n < 4294967296) (ha : a < 2147483648) (hc : c < 2147483648) : (nI a ≤ nI n ∧ nI n ≤ nI c - nI 1) ↔ (n < 2147483648 ∧ a ≤ n ∧ n < c) := by
  by_cases h0 : 1 ≤ c
  · rw [pk_sub h0, wi_le hn ha (by omega)]; omega
  · have hc0 : c = 0 := by omega
    subst hc0
    rw [nI_leS hn ha, show nI 0 - nI 1 = (-1 : Int32) by decide]
    constructor
    · rintro ⟨⟨h1, h2⟩, h3⟩
      exfalso
      have e : (nI n).toInt = (n : Int) := nI_toInt h1
      rw [Int32.le_iff_toInt_le, e] at h3
      have : (-1 : Int32).toInt = -1 := by decide
      omega
    · omega
theorem S_X10_isWithin {g : Gn} {J : DJ} {x lo hi : Int32} (p : Prop) [hdp : Decidable p] (h : (lo ≤ x ∧ x ≤ hi) ↔ p) : SJ g mX10_isWithin 0 0 0 [.int x, .int lo, .int hi] J (Ri (bt p) J) NoX := by
  refine SJ_of_VJ (by decide +kernel) (Nat.le_of_ble_eq_true rfl) ?_
  show VJ g mX10_isWithin 0 0 0 _ _ 0 [(0, .int x), (1, .int lo), (2, .int hi)] [] J
  refine J_iload_n 1 rfl dX10_isWithin_0 rfl ?_
  refine J_iload_n 2 rfl dX10_isWithin_1 rfl ?_
  refine J_icmpR_lt 14 5 (by decide) rfl dX10_isWithin_2 (fun c2 => ?_) (fun c2 => ?_)
  · refine J_iconst 15 0 rfl dX10_isWithin_14 ic_0 ?_
    refine J_zret0 rfl dX10_isWithin_15 ?_
    first | exact ⟨by rw [bt_t (h.mp ⟨Int32.not_lt.mp c2, Int32.not_lt.mp c7⟩)], rfl⟩ | exact ⟨by rw [bt_f (fun q => absurd (Int32.not_lt.mpr (h.mpr q).1) (fun z => z c2))], rfl⟩ | exact ⟨by rw [bt_f (fun q => absurd (Int32.not_lt.mpr (h.mpr q).2) (fun z => z c7))], rfl⟩
  · refine J_iload_n 6 rfl dX10_isWithin_5 rfl ?_
    refine J_iload_n 7 rfl dX10_isWithin_6 rfl ?_
    refine J_icmpR_gt 14 10 (by decide) rfl dX10_isWithin_7 (fun c7 => ?_) (fun c7 => ?_)
    · refine J_iconst 15 0 rfl dX10_isWithin_14 ic_0 ?_
      refine J_zret0 rfl dX10_isWithin_15 ?_
      first | exact ⟨by rw [bt_t (h.mp ⟨Int32.not_lt.mp c2, Int32.not_lt.mp c7⟩)], rfl⟩ | exact ⟨by rw [bt_f (fun q => absurd (Int32.not_lt.mpr (h.mpr q).1) (fun z => z c2))], rfl⟩ | exact ⟨by rw [bt_f (fun q => absurd (Int32.not_lt.mpr (h.mpr q).2) (fun z => z c7))], rfl⟩
    · refine J_iconst 11 1 rfl dX10_isWithin_10 ic_1 ?_
      refine J_goto 15 (by decide) dX10_isWithin_11 ?_
      refine J_zret1 rfl dX10_isWithin_15 ?_
      first | exact ⟨by rw [bt_t (h.mp ⟨Int32.not_lt.mp c2, Int32.not_lt.mp c7⟩)], rfl⟩ | exact ⟨by rw [bt_f (fun q => absurd (Int32.not_lt.mpr (h.mpr q).1) (fun z => z c2))], rfl⟩ | exact ⟨by rw [bt_f (fun q => absurd (Int32.not_lt.mpr (h.mpr q).2) (fun z => z c7))], rfl⟩

theorem S_within_le {g : Gn} {J : DJ} {n a c : Nat} (hn : n < 4294967296) (ha : a < 2147483648) (hc : c < 2147483648) : SJ g mX10_isWithin 0 0 0 [.int (nI n), .int (nI a), .int (nI c)] J (Ri (bt (n < 2147483648 ∧ a ≤ n ∧ n ≤ c)) J) NoX := S_X10_isWithin _ (wi_le hn ha hc)
theorem S_within_lt {g : Gn} {J : DJ} {n a c : Nat} (hn : n < 4294967296) (ha : a < 2147483648) (hc : c < 2147483648) : SJ g mX10_isWithin 0 0 0 [.int (nI n), .int (nI a), .int (nI c - nI 1)] J (Ri (bt (n < 2147483648 ∧ a ≤ n ∧ n < c)) J) NoX := S_X10_isWithin _ (wi_lt hn ha hc)

theorem S_X10_distance {g : Gn} {J : DJ} {a b n : Nat} (ha : a < n) (hb : b < n) (hn : n < 1073741824) : SJ g mX10_distance 1 0 0 [.int (nI a), .int (nI b), .int (nI n)] J (Ri (dist a b n) J) NoX := by
  refine SJ_of_VJ (by decide +kernel) (Nat.le_of_ble_eq_true rfl) ?_
  show VJ g mX10_distance 1 0 0 _ _ 0 [(0, .int (nI a)), (1, .int (nI b)), (2, .int (nI n))] [] J
  refine J_iload_n 1 rfl dX10_distance_0 rfl ?_
  refine J_iload_n 2 rfl dX10_distance_1 rfl ?_
  refine J_isubR 3 rfl dX10_distance_2 ?_
  refine J_mabs 6 rfl dX10_distance_3 lkX10_431 (by exact Nat.le_of_ble_eq_true rfl) (by omega) ⟨by omega, by omega⟩ ?_
  refine J_istore_n 7 rfl dX10_distance_6 rfl (Nat.le_of_ble_eq_true rfl) ?_
  refine J_iload_n 8 rfl dX10_distance_7 rfl ?_
  refine J_iload_n 9 rfl dX10_distance_8 rfl ?_
  refine J_iload_n 10 rfl dX10_distance_9 rfl ?_
  refine J_isub 11 rfl dX10_distance_10 (by omega) ?_
  refine J_mmin 14 rfl dX10_distance_11 lkX10_436 (by exact Nat.le_of_ble_eq_true rfl) (by omega) (by omega) (by omega) ?_
  refine J_iret rfl dX10_distance_14 ?_
  exact ⟨rfl, rfl⟩

theorem S_X1_hasCylinder {g : Gn} {J : DJ} {b n : Nat} (hb : isE b) (hn : n < 4294967296) (hc : J b 6 < 2147483648) : SJ g mX1_hasCylinder 1 0 0 [.ref (g.2 b), .int (nI n)] J (Ri (bt (n < 2147483648 ∧ n < J b 6)) J) NoX := by
  refine SJ_of_VJ (by decide +kernel) (Nat.le_of_ble_eq_true rfl) ?_
  show VJ g mX1_hasCylinder 1 0 0 _ _ 0 [(0, .ref (g.2 b)), (1, .int (nI n))] [] J
  refine J_iload_n 1 rfl dX1_hasCylinder_0 rfl ?_
  refine J_iconst 2 0 rfl dX1_hasCylinder_1 ic_0 ?_
  refine J_aload_n 3 rfl dX1_hasCylinder_2 rfl ?_
  refine g_X1_cylinders 6 (by first | assumption | exact isH_1 | exact isH_31 | exact isH_61 | exact isH_p (by omega) | exact isH_E (by assumption) (by omega) | exact isH_R (by assumption) | exact isH_K (by assumption) | exact isH_E isH_1 (by omega) | exact isH_R isH_1 | exact isH_K isH_1 | exact isH_R isH_31 | exact isH_K isH_31 | exact isH_E isH_31 (by omega)) rfl dX1_hasCylinder_3 lkX1_24 ?_
  refine J_iconst 7 1 rfl dX1_hasCylinder_6 ic_1 ?_
  refine J_isubR 8 rfl dX1_hasCylinder_7 ?_
  refine J_callSNi (As := [_, _, _]) (host := "EngineMonastery") 11 rfl kalX10_isWithin (by decide) dX1_hasCylinder_8 rfl rfl (by exact Nat.le_of_ble_eq_true rfl) (by omega) (S_X10_isWithin (n < 2147483648 ∧ n < J b 6) (by rw [wi_lt hn (by omega) hc]; omega)) ?_
  refine J_zret (hdp := _) rfl dX1_hasCylinder_11 ?_
  exact ⟨rfl, rfl⟩

theorem S_X3_hasEngine {g : Gn} {J : DJ} {b n : Nat} (hb : isH b) (hn : n < 4294967296) (hc : J b 4 < 2147483648) : SJ g mX3_hasEngine 1 0 0 [.ref (g.2 b), .int (nI n)] J (Ri (bt (n < 2147483648 ∧ n < J b 4)) J) NoX := by
  refine SJ_of_VJ (by decide +kernel) (Nat.le_of_ble_eq_true rfl) ?_
  show VJ g mX3_hasEngine 1 0 0 _ _ 0 [(0, .ref (g.2 b)), (1, .int (nI n))] [] J
  refine J_iload_n 1 rfl dX3_hasEngine_0 rfl ?_
  refine J_iconst 2 0 rfl dX3_hasEngine_1 ic_0 ?_
  refine J_aload_n 3 rfl dX3_hasEngine_2 rfl ?_
  refine g_X3_engineCount 6 (by first | assumption | exact isH_1 | exact isH_31 | exact isH_61 | exact isH_p (by omega) | exact isH_E (by assumption) (by omega) | exact isH_R (by assumption) | exact isH_K (by assumption) | exact isH_E isH_1 (by omega) | exact isH_R isH_1 | exact isH_K isH_1 | exact isH_R isH_31 | exact isH_K isH_31 | exact isH_E isH_31 (by omega)) rfl dX3_hasEngine_3 lkX3_43 ?_
  refine J_iconst 7 1 rfl dX3_hasEngine_6 ic_1 ?_
  refine J_isubR 8 rfl dX3_hasEngine_7 ?_
  refine J_callSNi (As := [_, _, _]) (host := "EngineMonastery") 11 rfl kalX10_isWithin (by decide) dX3_hasEngine_8 rfl rfl (by exact Nat.le_of_ble_eq_true rfl) (by omega) (S_X10_isWithin (n < 2147483648 ∧ n < J b 4) (by rw [wi_lt hn (by omega) hc]; omega)) ?_
  refine J_zret (hdp := _) rfl dX3_hasEngine_11 ?_
  exact ⟨rfl, rfl⟩

theorem S_X10_requireIndex {g : Gn} {J : DJ} {p : Prop} [hdp : Decidable p] (hp : p) : SJ g mX10_requireIndex 0 0 0 [.int (nI (bt p))] J (Rv J) NoX := by
  refine SJ_of_VJ (by decide +kernel) (Nat.le_of_ble_eq_true rfl) ?_
  show VJ g mX10_requireIndex 0 0 0 _ _ 0 [(0, .int (nI (bt p)))] [] J
  refine J_iload_n 1 rfl dX10_requireIndex_0 rfl ?_
  refine J_ifb_ne 12 4 (by decide) rfl dX10_requireIndex_1 (fun _ => ?_) (fun c => absurd hp c)
  refine J_vret rfl dX10_requireIndex_12 ?_
  exact ⟨rfl, rfl⟩
theorem X_X10_requireIndex {g : Gn} {J : DJ} {p : Prop} [hdp : Decidable p] (hp : ¬ p) : SJ g mX10_requireIndex 6 1 6 [.int (nI (bt p))] J (fun _ _ => False) (Xo IOOBE J) := by
  refine SJ_of_VJ (by decide +kernel) (Nat.le_of_ble_eq_true rfl) ?_
  show VJ g mX10_requireIndex 6 1 6 _ _ 0 [(0, .int (nI (bt p)))] [] J
  refine J_iload_n 1 rfl dX10_requireIndex_0 rfl ?_
  refine J_ifb_ne 12 4 (by decide) rfl dX10_requireIndex_1 (fun c => absurd c hp) (fun _ => ?_)
  exact th_IOOBE rfl dX10_requireIndex_4 dX10_requireIndex_7 dX10_requireIndex_8 dX10_requireIndex_11 (by exact Nat.le_of_ble_eq_true rfl) (by omega) (by omega) (by omega) ⟨rfl, rfl⟩
theorem S_X10_requireArgument {g : Gn} {J : DJ} {p : Prop} [hdp : Decidable p] (hp : p) : SJ g mX10_requireArgument 0 0 0 [.int (nI (bt p))] J (Rv J) NoX := by
  refine SJ_of_VJ (by decide +kernel) (Nat.le_of_ble_eq_true rfl) ?_
  show VJ g mX10_requireArgument 0 0 0 _ _ 0 [(0, .int (nI (bt p)))] [] J
  refine J_iload_n 1 rfl dX10_requireArgument_0 rfl ?_
  refine J_ifb_ne 12 4 (by decide) rfl dX10_requireArgument_1 (fun _ => ?_) (fun c => absurd hp c)
  refine J_vret rfl dX10_requireArgument_12 ?_
  exact ⟨rfl, rfl⟩
theorem X_X10_requireArgument {g : Gn} {J : DJ} {p : Prop} [hdp : Decidable p] (hp : ¬ p) : SJ g mX10_requireArgument 6 1 6 [.int (nI (bt p))] J (fun _ _ => False) (Xo IAE J) := by
  refine SJ_of_VJ (by decide +kernel) (Nat.le_of_ble_eq_true rfl) ?_
  show VJ g mX10_requireArgument 6 1 6 _ _ 0 [(0, .int (nI (bt p)))] [] J
  refine J_iload_n 1 rfl dX10_requireArgument_0 rfl ?_
  refine J_ifb_ne 12 4 (by decide) rfl dX10_requireArgument_1 (fun c => absurd c hp) (fun _ => ?_)
  exact th_IAE rfl dX10_requireArgument_4 dX10_requireArgument_7 dX10_requireArgument_8 dX10_requireArgument_11 (by exact Nat.le_of_ble_eq_true rfl) (by omega) (by omega) (by omega) ⟨rfl, rfl⟩
theorem S_X10_requireState {g : Gn} {J : DJ} {p : Prop} [hdp : Decidable p] (hp : p) : SJ g mX10_requireState 0 0 0 [.int (nI (bt p))] J (Rv J) NoX := by
  refine SJ_of_VJ (by decide +kernel) (Nat.le_of_ble_eq_true rfl) ?_
  show VJ g mX10_requireState 0 0 0 _ _ 0 [(0, .int (nI (bt p)))] [] J
  refine J_iload_n 1 rfl dX10_requireState_0 rfl ?_
  refine J_ifb_ne 12 4 (by decide) rfl dX10_requireState_1 (fun _ => ?_) (fun c => absurd hp c)
  refine J_vret rfl dX10_requireState_12 ?_
  exact ⟨rfl, rfl⟩
theorem X_X10_requireState {g : Gn} {J : DJ} {p : Prop} [hdp : Decidable p] (hp : ¬ p) : SJ g mX10_requireState 6 1 6 [.int (nI (bt p))] J (fun _ _ => False) (Xo ISE J) := by
  refine SJ_of_VJ (by decide +kernel) (Nat.le_of_ble_eq_true rfl) ?_
  show VJ g mX10_requireState 6 1 6 _ _ 0 [(0, .int (nI (bt p)))] [] J
  refine J_iload_n 1 rfl dX10_requireState_0 rfl ?_
  refine J_ifb_ne 12 4 (by decide) rfl dX10_requireState_1 (fun c => absurd c hp) (fun _ => ?_)
  exact th_ISE rfl dX10_requireState_4 dX10_requireState_7 dX10_requireState_8 dX10_requireState_11 (by exact Nat.le_of_ble_eq_true rfl) (by omega) (by omega) (by omega) ⟨rfl, rfl⟩
theorem S_X10_requireElement {g : Gn} {J : DJ} {p : Prop} [hdp : Decidable p] (hp : p) : SJ g mX10_requireElement 0 0 0 [.int (nI (bt p))] J (Rv J) NoX := by
  refine SJ_of_VJ (by decide +kernel) (Nat.le_of_ble_eq_true rfl) ?_
  show VJ g mX10_requireElement 0 0 0 _ _ 0 [(0, .int (nI (bt p)))] [] J
  refine J_iload_n 1 rfl dX10_requireElement_0 rfl ?_
  refine J_ifb_ne 12 4 (by decide) rfl dX10_requireElement_1 (fun _ => ?_) (fun c => absurd hp c)
  refine J_vret rfl dX10_requireElement_12 ?_
  exact ⟨rfl, rfl⟩
theorem X_X10_requireElement {g : Gn} {J : DJ} {p : Prop} [hdp : Decidable p] (hp : ¬ p) : SJ g mX10_requireElement 6 1 6 [.int (nI (bt p))] J (fun _ _ => False) (Xo NSEE J) := by
  refine SJ_of_VJ (by decide +kernel) (Nat.le_of_ble_eq_true rfl) ?_
  show VJ g mX10_requireElement 6 1 6 _ _ 0 [(0, .int (nI (bt p)))] [] J
  refine J_iload_n 1 rfl dX10_requireElement_0 rfl ?_
  refine J_ifb_ne 12 4 (by decide) rfl dX10_requireElement_1 (fun c => absurd c hp) (fun _ => ?_)
  exact th_NSEE rfl dX10_requireElement_4 dX10_requireElement_7 dX10_requireElement_8 dX10_requireElement_11 (by exact Nat.le_of_ble_eq_true rfl) (by omega) (by omega) (by omega) ⟨rfl, rfl⟩
