/-! THE LAW'S LOOP (laid by wip/whole/src/p78.py) -/
theorem nI_sub4 {a : Nat} (h : 4 ≤ a) : nI a - nI 4 = nI (a - 4) := by
  have e : nI a = nI (a - 4) + nI 4 := by rw [nI_add]; congr 1; omega
  rw [e, Int32.add_sub_cancel]
theorem and63 (x : Int32) : ∃ k, k < 64 ∧ x &&& nI 63 = nI k := by
  refine ⟨(x &&& nI 63).toUInt32.toNat, ?_, ?_⟩
  · have e : (x &&& nI 63).toUInt32 = x.toUInt32 &&& 63 := rfl
    rw [e, UInt32.toNat_and]
    have := Nat.and_le_right (n := x.toUInt32.toNat) (m := (63 : UInt32).toNat)
    have e2 : (63 : UInt32).toNat = 63 := rfl
    omega
  · show _ = (⟨UInt32.ofNat (x &&& nI 63).toUInt32.toNat⟩ : Int32)
    rw [UInt32.ofNat_toNat]
theorem more4 {Ln i : Nat} (h : Ln ≤ 2048) (hi : i ≤ 4096) (q : ¬ (nI Ln - nI 4 < nI i)) : i + 4 ≤ Ln := by
  by_cases h4 : 4 ≤ Ln
  · have e : nI Ln - nI 4 = nI (Ln - 4) := nI_sub4 h4
    rw [e] at q
    have w : ¬ (Ln - 4 < i) := fun z => q ((nI_ltI (by omega) (by omega)).mpr z)
    omega
  · exfalso
    apply q
    rw [Int32.lt_iff_toInt_lt, nI_toInt (by omega)]
    have : (nI Ln - nI 4).toInt < 0 := by
      rcases (show Ln = 0 ∨ Ln = 1 ∨ Ln = 2 ∨ Ln = 3 by omega) with z | z | z | z <;> subst z <;> decide
    omega
theorem law_loop {g : Gn} {S : State → Prop} {b Ln : Nat} {xs : Nat → Int32} (hS : ScrS g S b Ln xs) : ∀ (m i B kc ks : Nat) (J : DJ), Ln ≤ i + 4 * m + 3 → i + 4 * m ≤ 4000 → LI J B → B + 39000 * m < 40000000 → 34 * m ≤ kc → 204 * m ≤ ks → TJ g S kc ks 28 (LL g b i) [] J := by
  intro m
  induction m with
  | zero =>
    intro i B kc ks J hm h4 h hB hk hs
    have h2 := hS.2
    refine T_iload 30 rfl dL_law_28 rfl ?_
    refine T_aload_n 31 rfl dL_law_30 rfl ?_
    refine T_slen 32 rfl dL_law_31 hS.1 ?_
    refine T_iconst 33 (nI 4) rfl dL_law_32 ic_4 ?_
    refine T_isub 34 rfl dL_law_33 ?_
    refine T_icmp_gt 3080 37 (by decide) rfl dL_law_34 (fun _ => ?_) (fun q => absurd (more4 h2 (by omega) q) (by omega))
    refine T_iconst 3081 (nI 1) rfl dL_law_3080 ic_1 ?_
    exact T_zret rfl rfl dL_law_3081 rfl
  | succ m ih =>
    intro i B kc ks J hm h4 h hB hk hs
    have h2 := hS.2
    refine T_iload 30 rfl dL_law_28 rfl ?_
    refine T_aload_n 31 rfl dL_law_30 rfl ?_
    refine T_slen 32 rfl dL_law_31 hS.1 ?_
    refine T_iconst 33 (nI 4) rfl dL_law_32 ic_4 ?_
    refine T_isub 34 rfl dL_law_33 ?_
    refine T_icmp_gt 3080 37 (by decide) rfl dL_law_34 (fun _ => ?_) (fun q => ?_)
    · refine T_iconst 3081 (nI 1) rfl dL_law_3080 ic_1 ?_
      exact T_zret rfl rfl dL_law_3081 rfl
    have hi : i + 3 < Ln := by have := more4 h2 (by omega) q; omega
    have eB : 39000 * (m + 1) = 39000 * m + 39000 := Nat.mul_succ 39000 m
    rw [eB] at hB
    have hB1 : B + 39000 < 40000000 := Nat.lt_of_le_of_lt (Nat.add_le_add_left (Nat.le_add_left 39000 (39000 * m)) B) hB
    have next : ∀ J2, LI J2 (B + 39000) → TJ g S (kc - 34) (ks - 204) 3074 (LL g b i) [] J2 := fun J2 h2 => by
      refine T_iinc 3077 (nI (i + 4)) rfl dL_law_3074 (show lkL (LL g b i) 5 = some (.int (nI i)) from rfl) (by rw [ic_4, nI_add]) (by decide) ?_
      refine T_goto 28 (by decide) dL_law_3077 ?_
      exact ih (i + 4) (B + 39000) (kc - 34) (ks - 204) J2 (by omega) (by omega) h2 (by omega) (by omega) (by omega)
    refine T_aload_n 38 rfl dL_law_37 rfl ?_
    refine T_iload 40 rfl dL_law_38 rfl ?_
    refine T_sld 41 rfl dL_law_40 hS.1 (vp_in_nI (by omega) (by omega)) ?_
    rw [nI_clamp (by omega)]
    refine T_bipush 43 (nI 63) rfl dL_law_41 bc_63 ?_
    refine T_iand 44 rfl dL_law_43 ?_
    obtain ⟨k, k64, ek⟩ := and63 (xs i)
    rw [ek]
    have g0 : 0 ≤ k := Nat.zero_le k
    rcases Nat.eq_or_lt_of_le g0 with e | g1
    · subst e
      refine T_tableIn (off := 244) 288 dL_law_44 (by decide) (by decide) (by decide +kernel) (by decide) ?_
      exact op_0 hS hi h hB1 (by omega) (by omega) next
    rcases Nat.eq_or_lt_of_le g1 with e | g2
    · subst e
      refine T_tableIn (off := 300) 344 dL_law_44 (by decide) (by decide) (by decide +kernel) (by decide) ?_
      exact op_1 hS hi h hB1 (by omega) (by omega) next
    rcases Nat.eq_or_lt_of_le g2 with e | g3
    · subst e
      refine T_tableIn (off := 380) 424 dL_law_44 (by decide) (by decide) (by decide +kernel) (by decide) ?_
      exact op_2 hS hi h hB1 (by omega) (by omega) next
    rcases Nat.eq_or_lt_of_le g3 with e | g4
    · subst e
      refine T_tableIn (off := 448) 492 dL_law_44 (by decide) (by decide) (by decide +kernel) (by decide) ?_
      exact op_3 hS hi h hB1 (by omega) (by omega) next
    rcases Nat.eq_or_lt_of_le g4 with e | g5
    · subst e
      refine T_tableIn (off := 461) 505 dL_law_44 (by decide) (by decide) (by decide +kernel) (by decide) ?_
      exact op_4 hS hi h hB1 (by omega) (by omega) next
    rcases Nat.eq_or_lt_of_le g5 with e | g6
    · subst e
      refine T_tableIn (off := 517) 561 dL_law_44 (by decide) (by decide) (by decide +kernel) (by decide) ?_
      exact op_5 hS hi h hB1 (by omega) (by omega) next
    rcases Nat.eq_or_lt_of_le g6 with e | g7
    · subst e
      refine T_tableIn (off := 585) 629 dL_law_44 (by decide) (by decide) (by decide +kernel) (by decide) ?_
      exact op_6 hS hi h hB1 (by omega) (by omega) next
    rcases Nat.eq_or_lt_of_le g7 with e | g8
    · subst e
      refine T_tableIn (off := 653) 697 dL_law_44 (by decide) (by decide) (by decide +kernel) (by decide) ?_
      exact op_7 hS hi h hB1 (by omega) (by omega) next
    rcases Nat.eq_or_lt_of_le g8 with e | g9
    · subst e
      refine T_tableIn (off := 721) 765 dL_law_44 (by decide) (by decide) (by decide +kernel) (by decide) ?_
      exact op_8 hS hi h hB1 (by omega) (by omega) next
    rcases Nat.eq_or_lt_of_le g9 with e | g10
    · subst e
      refine T_tableIn (off := 777) 821 dL_law_44 (by decide) (by decide) (by decide +kernel) (by decide) ?_
      exact op_9 hS hi h hB1 (by omega) (by omega) next
    rcases Nat.eq_or_lt_of_le g10 with e | g11
    · subst e
      refine T_tableIn (off := 833) 877 dL_law_44 (by decide) (by decide) (by decide +kernel) (by decide) ?_
      exact op_10 hS hi h hB1 (by omega) (by omega) next
    rcases Nat.eq_or_lt_of_le g11 with e | g12
    · subst e
      refine T_tableIn (off := 889) 933 dL_law_44 (by decide) (by decide) (by decide +kernel) (by decide) ?_
      exact op_11 hS hi h hB1 (by omega) (by omega) next
    rcases Nat.eq_or_lt_of_le g12 with e | g13
    · subst e
      refine T_tableIn (off := 957) 1001 dL_law_44 (by decide) (by decide) (by decide +kernel) (by decide) ?_
      exact op_12 hS hi h hB1 (by omega) (by omega) next
    rcases Nat.eq_or_lt_of_le g13 with e | g14
    · subst e
      refine T_tableIn (off := 1025) 1069 dL_law_44 (by decide) (by decide) (by decide +kernel) (by decide) ?_
      exact op_13 hS hi h hB1 (by omega) (by omega) next
    rcases Nat.eq_or_lt_of_le g14 with e | g15
    · subst e
      refine T_tableIn (off := 1093) 1137 dL_law_44 (by decide) (by decide) (by decide +kernel) (by decide) ?_
      exact op_14 hS hi h hB1 (by omega) (by omega) next
    rcases Nat.eq_or_lt_of_le g15 with e | g16
    · subst e
      refine T_tableIn (off := 1173) 1217 dL_law_44 (by decide) (by decide) (by decide +kernel) (by decide) ?_
      exact op_15 hS hi h hB1 (by omega) (by omega) next
    rcases Nat.eq_or_lt_of_le g16 with e | g17
    · subst e
      refine T_tableIn (off := 1229) 1273 dL_law_44 (by decide) (by decide) (by decide +kernel) (by decide) ?_
      exact op_16 hS hi h hB1 (by omega) (by omega) next
    rcases Nat.eq_or_lt_of_le g17 with e | g18
    · subst e
      refine T_tableIn (off := 1285) 1329 dL_law_44 (by decide) (by decide) (by decide +kernel) (by decide) ?_
      exact op_17 hS hi h hB1 (by omega) (by omega) next
    rcases Nat.eq_or_lt_of_le g18 with e | g19
    · subst e
      refine T_tableIn (off := 1341) 1385 dL_law_44 (by decide) (by decide) (by decide +kernel) (by decide) ?_
      exact op_18 hS hi h hB1 (by omega) (by omega) next
    rcases Nat.eq_or_lt_of_le g19 with e | g20
    · subst e
      refine T_tableIn (off := 1397) 1441 dL_law_44 (by decide) (by decide) (by decide +kernel) (by decide) ?_
      exact op_19 hS hi h hB1 (by omega) (by omega) next
    rcases Nat.eq_or_lt_of_le g20 with e | g21
    · subst e
      refine T_tableIn (off := 1465) 1509 dL_law_44 (by decide) (by decide) (by decide +kernel) (by decide) ?_
      exact op_20 hS hi h hB1 (by omega) (by omega) next
    rcases Nat.eq_or_lt_of_le g21 with e | g22
    · subst e
      refine T_tableIn (off := 1533) 1577 dL_law_44 (by decide) (by decide) (by decide +kernel) (by decide) ?_
      exact op_21 hS hi h hB1 (by omega) (by omega) next
    rcases Nat.eq_or_lt_of_le g22 with e | g23
    · subst e
      refine T_tableIn (off := 1546) 1590 dL_law_44 (by decide) (by decide) (by decide +kernel) (by decide) ?_
      exact op_22 hS hi h hB1 (by omega) (by omega) next
    rcases Nat.eq_or_lt_of_le g23 with e | g24
    · subst e
      refine T_tableIn (off := 1559) 1603 dL_law_44 (by decide) (by decide) (by decide +kernel) (by decide) ?_
      exact op_23 hS hi h hB1 (by omega) (by omega) next
    rcases Nat.eq_or_lt_of_le g24 with e | g25
    · subst e
      refine T_tableIn (off := 1615) 1659 dL_law_44 (by decide) (by decide) (by decide +kernel) (by decide) ?_
      exact op_24 hS hi h hB1 (by omega) (by omega) next
    rcases Nat.eq_or_lt_of_le g25 with e | g26
    · subst e
      refine T_tableIn (off := 1683) 1727 dL_law_44 (by decide) (by decide) (by decide +kernel) (by decide) ?_
      exact op_25 hS hi h hB1 (by omega) (by omega) next
    rcases Nat.eq_or_lt_of_le g26 with e | g27
    · subst e
      refine T_tableIn (off := 1739) 1783 dL_law_44 (by decide) (by decide) (by decide +kernel) (by decide) ?_
      exact op_26 hS hi h hB1 (by omega) (by omega) next
    rcases Nat.eq_or_lt_of_le g27 with e | g28
    · subst e
      refine T_tableIn (off := 1795) 1839 dL_law_44 (by decide) (by decide) (by decide +kernel) (by decide) ?_
      exact op_27 hS hi h hB1 (by omega) (by omega) next
    rcases Nat.eq_or_lt_of_le g28 with e | g29
    · subst e
      refine T_tableIn (off := 1851) 1895 dL_law_44 (by decide) (by decide) (by decide +kernel) (by decide) ?_
      exact op_28 hS hi h hB1 (by omega) (by omega) next
    rcases Nat.eq_or_lt_of_le g29 with e | g30
    · subst e
      refine T_tableIn (off := 1895) 1939 dL_law_44 (by decide) (by decide) (by decide +kernel) (by decide) ?_
      exact op_29 hS hi h hB1 (by omega) (by omega) next
    rcases Nat.eq_or_lt_of_le g30 with e | g31
    · subst e
      refine T_tableIn (off := 1998) 2042 dL_law_44 (by decide) (by decide) (by decide +kernel) (by decide) ?_
      exact op_30 hS hi h hB1 (by omega) (by omega) next
    rcases Nat.eq_or_lt_of_le g31 with e | g32
    · subst e
      refine T_tableIn (off := 2011) 2055 dL_law_44 (by decide) (by decide) (by decide +kernel) (by decide) ?_
      exact op_31 hS hi h hB1 (by omega) (by omega) next
    rcases Nat.eq_or_lt_of_le g32 with e | g33
    · subst e
      refine T_tableIn (off := 2024) 2068 dL_law_44 (by decide) (by decide) (by decide +kernel) (by decide) ?_
      exact op_32 hS hi h hB1 (by omega) (by omega) next
    rcases Nat.eq_or_lt_of_le g33 with e | g34
    · subst e
      refine T_tableIn (off := 2080) 2124 dL_law_44 (by decide) (by decide) (by decide +kernel) (by decide) ?_
      exact op_33 hS hi h hB1 (by omega) (by omega) next
    rcases Nat.eq_or_lt_of_le g34 with e | g35
    · subst e
      refine T_tableIn (off := 2160) 2204 dL_law_44 (by decide) (by decide) (by decide +kernel) (by decide) ?_
      exact op_34 hS hi h hB1 (by omega) (by omega) next
    rcases Nat.eq_or_lt_of_le g35 with e | g36
    · subst e
      refine T_tableIn (off := 2216) 2260 dL_law_44 (by decide) (by decide) (by decide +kernel) (by decide) ?_
      exact op_35 hS hi h hB1 (by omega) (by omega) next
    rcases Nat.eq_or_lt_of_le g36 with e | g37
    · subst e
      refine T_tableIn (off := 2229) 2273 dL_law_44 (by decide) (by decide) (by decide +kernel) (by decide) ?_
      exact op_36 hS hi h hB1 (by omega) (by omega) next
    rcases Nat.eq_or_lt_of_le g37 with e | g38
    · subst e
      refine T_tableIn (off := 2242) 2286 dL_law_44 (by decide) (by decide) (by decide +kernel) (by decide) ?_
      exact op_37 hS hi h hB1 (by omega) (by omega) next
    rcases Nat.eq_or_lt_of_le g38 with e | g39
    · subst e
      refine T_tableIn (off := 2255) 2299 dL_law_44 (by decide) (by decide) (by decide +kernel) (by decide) ?_
      exact op_38 hS hi h hB1 (by omega) (by omega) next
    rcases Nat.eq_or_lt_of_le g39 with e | g40
    · subst e
      refine T_tableIn (off := 2299) 2343 dL_law_44 (by decide) (by decide) (by decide +kernel) (by decide) ?_
      exact op_39 hS hi h hB1 (by omega) (by omega) next
    rcases Nat.eq_or_lt_of_le g40 with e | g41
    · subst e
      refine T_tableIn (off := 2312) 2356 dL_law_44 (by decide) (by decide) (by decide +kernel) (by decide) ?_
      exact op_40 hS hi h hB1 (by omega) (by omega) next
    rcases Nat.eq_or_lt_of_le g41 with e | g42
    · subst e
      refine T_tableIn (off := 2368) 2412 dL_law_44 (by decide) (by decide) (by decide +kernel) (by decide) ?_
      exact op_41 hS hi h hB1 (by omega) (by omega) next
    rcases Nat.eq_or_lt_of_le g42 with e | g43
    · subst e
      refine T_tableIn (off := 2381) 2425 dL_law_44 (by decide) (by decide) (by decide +kernel) (by decide) ?_
      exact op_42 hS hi h hB1 (by omega) (by omega) next
    rcases Nat.eq_or_lt_of_le g43 with e | g44
    · subst e
      refine T_tableIn (off := 2437) 2481 dL_law_44 (by decide) (by decide) (by decide +kernel) (by decide) ?_
      exact op_43 hS hi h hB1 (by omega) (by omega) next
    rcases Nat.eq_or_lt_of_le g44 with e | g45
    · subst e
      refine T_tableIn (off := 2493) 2537 dL_law_44 (by decide) (by decide) (by decide +kernel) (by decide) ?_
      exact op_44 hS hi h hB1 (by omega) (by omega) next
    rcases Nat.eq_or_lt_of_le g45 with e | g46
    · subst e
      refine T_tableIn (off := 2551) 2595 dL_law_44 (by decide) (by decide) (by decide +kernel) (by decide) ?_
      exact op_45 hS hi h hB1 (by omega) (by omega) next
    rcases Nat.eq_or_lt_of_le g46 with e | g47
    · subst e
      refine T_tableIn (off := 2595) 2639 dL_law_44 (by decide) (by decide) (by decide +kernel) (by decide) ?_
      exact op_46 hS hi h hB1 (by omega) (by omega) next
    rcases Nat.eq_or_lt_of_le g47 with e | g48
    · subst e
      refine T_tableIn (off := 2639) 2683 dL_law_44 (by decide) (by decide) (by decide +kernel) (by decide) ?_
      exact op_47 hS hi h hB1 (by omega) (by omega) next
    rcases Nat.eq_or_lt_of_le g48 with e | g49
    · subst e
      refine T_tableIn (off := 2683) 2727 dL_law_44 (by decide) (by decide) (by decide +kernel) (by decide) ?_
      exact op_48 hS hi h hB1 (by omega) (by omega) next
    rcases Nat.eq_or_lt_of_le g49 with e | g50
    · subst e
      refine T_tableIn (off := 2739) 2783 dL_law_44 (by decide) (by decide) (by decide +kernel) (by decide) ?_
      exact op_49 hS hi h hB1 (by omega) (by omega) next
    rcases Nat.eq_or_lt_of_le g50 with e | g51
    · subst e
      refine T_tableIn (off := 2752) 2796 dL_law_44 (by decide) (by decide) (by decide +kernel) (by decide) ?_
      exact op_50 hS hi h hB1 (by omega) (by omega) next
    rcases Nat.eq_or_lt_of_le g51 with e | g52
    · subst e
      refine T_tableIn (off := 2808) 2852 dL_law_44 (by decide) (by decide) (by decide +kernel) (by decide) ?_
      exact op_51 hS hi h hB1 (by omega) (by omega) next
    rcases Nat.eq_or_lt_of_le g52 with e | g53
    · subst e
      refine T_tableIn (off := 2873) 2917 dL_law_44 (by decide) (by decide) (by decide +kernel) (by decide) ?_
      exact op_52 hS hi h hB1 (by omega) (by omega) next
    rcases Nat.eq_or_lt_of_le g53 with e | g54
    · subst e
      refine T_tableIn (off := 2916) 2960 dL_law_44 (by decide) (by decide) (by decide +kernel) (by decide) ?_
      exact op_53 hS hi h hB1 (by omega) (by omega) next
    rcases Nat.eq_or_lt_of_le g54 with e | g55
    · subst e
      refine T_tableIn (off := 2929) 2973 dL_law_44 (by decide) (by decide) (by decide +kernel) (by decide) ?_
      exact op_54 hS hi h hB1 (by omega) (by omega) next
    rcases Nat.eq_or_lt_of_le g55 with e | g56
    · subst e
      refine T_tableIn (off := 2973) 3017 dL_law_44 (by decide) (by decide) (by decide +kernel) (by decide) ?_
      exact op_55 hS hi h hB1 (by omega) (by omega) next
    rcases Nat.eq_or_lt_of_le g56 with e | g57
    · subst e
      refine T_tableIn (off := 2986) 3030 dL_law_44 (by decide) (by decide) (by decide +kernel) (by decide) ?_
      exact op_56 hS hi h hB1 (by omega) (by omega) next
    refine T_tableOut 3074 dL_law_44 (Or.inr (by rw [nI_toInt (by omega)]; omega)) (by decide) ?_
    exact T_more (by omega) (by omega) (next J (LI_le h (by omega) hB1))
