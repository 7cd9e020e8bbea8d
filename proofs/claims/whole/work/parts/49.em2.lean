/-! THE CLASS ITSELF: QUESTIONS (laid by wip/whole/src/p49.py) -/
/-- the first of n places where it holds, or n -/
def fstN (p : Nat → Bool) : Nat → Nat
  | 0 => 0
  | n + 1 => if fstN p n < n then fstN p n else if p n = true then n else n + 1
theorem fstN_is {p : Nat → Bool} : ∀ {n r : Nat}, r ≤ n → (∀ i, i < r → p i = false) → (r < n → p r = true) → fstN p n = r
  | 0, r, h, _, _ => by simp only [fstN]; omega
  | n + 1, r, h, h1, h2 => by
    simp only [fstN]
    by_cases q : r < n
    · rw [fstN_is (n := n) (r := r) (by omega) h1 (fun _ => h2 (by omega)), if_pos q]
    · rw [fstN_is (n := n) (r := n) (Nat.le_refl _) (fun i hi => h1 i (by omega)) (fun z => absurd z (by omega)), if_neg (by omega)]
      by_cases e : r = n
      · rw [if_pos (by rw [← e]; exact h2 (by omega)), e]
      · have : p n = false := h1 n (by omega)
        rw [if_neg (by rw [this]; exact Bool.false_ne_true)]; omega
theorem kp_lt (v : Nat → Nat) (u : Nat) : kp v u < 6 ∨ kp v u = 4294967295 := lkF_lt v u _ 6
def qKi (f : Nat → Nat) (h : Nat) : Nat := fstN (fun i => decide (f (245 + 2 * i) = h)) (f 6)
def qHo (f : Nat → Nat) (h : Nat) : Nat := fstN (fun i => decide (nI h ≤ nI (f (245 + 2 * i)))) (f 6)
def qKe (f : Nat → Nat) (v : Nat) : Nat := if v < 8 then (if kp (fvig f) v = 4294967295 then 4 else 0) else 1
theorem hour_lt {f : Nat → Nat} (hh : HOk f) : ∀ j i, i < j → j < f 6 → f (245 + 2 * i) < f (245 + 2 * j)
  | 0, _, h, _ => absurd h (by omega)
  | j + 1, i, h, h2 => by
    have a := hh.2.2 j (by omega)
    rw [show 245 + 2 * (j + 1) = 247 + 2 * j by omega]
    by_cases e : i = j
    · rw [e]; exact a
    · have := hour_lt hh j i (by omega) (by omega)
      omega
theorem S_X10_engineCount {g : Gn} {J : DJ} {n B : Nat} {fs : Nat → Nat → Nat} {f s : Nat → Nat} (h : CI J f n fs s B) : SJ g mX10_engineCount 16 0 0 [.ref (g.2 0)] J (QF 0 (f 0) (fun J2 => Sc J J2)) NoX := by
  obtain ⟨hc, hw, hp, hsn, h350, hB⟩ := h
  have h0 := hw.1
  have h2 := hw.2.1
  have h3 := hw.2.2.1
  have h4 := hw.2.2.2.2.1.1
  have hr := hw.2.2.2.2.1
  have h6 := hw.2.2.2.1.1
  have s0 := hc.1.1.1
  have s3 := hc.1.1.2.1
  have s2 := hc.1.1.2.2.1
  have s1 := hc.1.1.2.2.2.1
  have s5 := hc.1.1.2.2.2.2
  have h5 := hw.2.2.2.2.2.2.2.2.2
  have hEn := hw.2.2.2.2.2.1
  have hCE := hc.1.2.2.2.2
  have hb := hw.2.2.2.2.2.2.2.2.1
  have hmo := hw.2.2.2.2.2.2.2.1
  have hv : ∀ m, m < 6 → J (1 + 2) m = fvig f m ∧ fvig f m < 256 := fun m hm => ⟨hc.1.2.1 m hm, (hmo m hm).1⟩
  have s4 : J (1 + 3) 3 = f 4 := hc.1.2.2.1.1
  have s7 : J (1 + 7) 2 = f 6 := hc.1.2.2.2.1.1
  have hh := hw.2.2.2.1
  refine SJ_of_VJ (by decide +kernel) (Nat.le_of_ble_eq_true rfl) ?_
  show VJ g mX10_engineCount 16 0 0 _ _ 0 [(0, .ref (g.2 0))] [] J
  refine J_aload_n 1 rfl dX10_engineCount_0 rfl ?_
  refine g_X10_house 4 rfl dX10_engineCount_1 lkX10_10 ?_
  refine g_X3_engineCount 7 (by first | assumption | exact isH_1 | exact isH_31 | exact isH_61 | exact isH_p (by omega) | exact isH_E (by assumption) (by omega) | exact isH_R (by assumption) | exact isH_K (by assumption) | exact isH_E isH_1 (by omega) | exact isH_R isH_1 | exact isH_K isH_1 | exact isH_R isH_31 | exact isH_K isH_31 | exact isH_E isH_31 (by omega)) rfl dX10_engineCount_4 lkX10_110 ?_
  refine J_iret rfl dX10_engineCount_7 ?_
  exact ⟨rfl, by rw [s0], Sc.refl⟩

theorem S_X10_cylinderCount {g : Gn} {J : DJ} {n B e : Nat} {fs : Nat → Nat → Nat} {f s : Nat → Nat} (h : CI J f n fs s B) (h_e : e < 4294967296) : SJ g mX10_cylinderCount 16 1 6 [.ref (g.2 0), .int (nI (e))] J (QF (qE f e) (f (7 + 52 * e)) (fun J2 => Sc J J2)) (XF (qE f e) J) := by
  obtain ⟨hc, hw, hp, hsn, h350, hB⟩ := h
  have h0 := hw.1
  have h2 := hw.2.1
  have h3 := hw.2.2.1
  have h4 := hw.2.2.2.2.1.1
  have hr := hw.2.2.2.2.1
  have h6 := hw.2.2.2.1.1
  have s0 := hc.1.1.1
  have s3 := hc.1.1.2.1
  have s2 := hc.1.1.2.2.1
  have s1 := hc.1.1.2.2.2.1
  have s5 := hc.1.1.2.2.2.2
  have h5 := hw.2.2.2.2.2.2.2.2.2
  have hEn := hw.2.2.2.2.2.1
  have hCE := hc.1.2.2.2.2
  have hb := hw.2.2.2.2.2.2.2.2.1
  have hmo := hw.2.2.2.2.2.2.2.1
  have hv : ∀ m, m < 6 → J (1 + 2) m = fvig f m ∧ fvig f m < 256 := fun m hm => ⟨hc.1.2.1 m hm, (hmo m hm).1⟩
  have s4 : J (1 + 3) 3 = f 4 := hc.1.2.2.1.1
  have s7 : J (1 + 7) 2 = f 6 := hc.1.2.2.2.1.1
  have hh := hw.2.2.2.1
  refine SJ_of_VJ (by decide +kernel) (Nat.le_of_ble_eq_true rfl) ?_
  show VJ g mX10_cylinderCount 16 1 6 _ _ 0 [(0, .ref (g.2 0)), (1, .int (nI (e)))] [] J
  refine J_aload_n 1 rfl dX10_cylinderCount_0 rfl ?_
  refine J_iload_n 2 rfl dX10_cylinderCount_1 rfl ?_
  refine J_existing 5 rfl dX10_cylinderCount_2 lkX10_113 (by exact Nat.le_of_ble_eq_true rfl) (by omega) (by omega) (by omega) h_e s0 h0 (fun c2 => ⟨by unfold qE; (repeat' split) <;> omega, by unfold qE; (repeat' split) <;> first | rfl | (exfalso; omega), Sc.refl⟩) (fun c2 => ?_)
  have hE := hCE e c2
  have hO := hEn e c2
  have hO8 := hO.2.1
  refine g_X1_cylinders 8 (by first | assumption | exact isH_1 | exact isH_31 | exact isH_61 | exact isH_p (by omega) | exact isH_E (by assumption) (by omega) | exact isH_R (by assumption) | exact isH_K (by assumption) | exact isH_E isH_1 (by omega) | exact isH_R isH_1 | exact isH_K isH_1 | exact isH_R isH_31 | exact isH_K isH_31 | exact isH_E isH_31 (by omega)) rfl dX10_cylinderCount_5 lkX10_117 ?_
  refine J_iret rfl dX10_cylinderCount_8 ?_
  exact ⟨by unfold qE; (repeat' split) <;> omega, by rw [hE.1], Sc.refl⟩

theorem S_X10_orderAt {g : Gn} {J : DJ} {n B e p : Nat} {fs : Nat → Nat → Nat} {f s : Nat → Nat} (h : CI J f n fs s B) (h_e : e < 4294967296) (h_p : p < 4294967296) : SJ g mX10_orderAt 16 1 6 [.ref (g.2 0), .int (nI (e)), .int (nI (p))] J (QF (qPt f e p) (f (7 + 52 * e + 4 + p)) (fun J2 => Sc J J2)) (XF (qPt f e p) J) := by
  obtain ⟨hc, hw, hp, hsn, h350, hB⟩ := h
  have h0 := hw.1
  have h2 := hw.2.1
  have h3 := hw.2.2.1
  have h4 := hw.2.2.2.2.1.1
  have hr := hw.2.2.2.2.1
  have h6 := hw.2.2.2.1.1
  have s0 := hc.1.1.1
  have s3 := hc.1.1.2.1
  have s2 := hc.1.1.2.2.1
  have s1 := hc.1.1.2.2.2.1
  have s5 := hc.1.1.2.2.2.2
  have h5 := hw.2.2.2.2.2.2.2.2.2
  have hEn := hw.2.2.2.2.2.1
  have hCE := hc.1.2.2.2.2
  have hb := hw.2.2.2.2.2.2.2.2.1
  have hmo := hw.2.2.2.2.2.2.2.1
  have hv : ∀ m, m < 6 → J (1 + 2) m = fvig f m ∧ fvig f m < 256 := fun m hm => ⟨hc.1.2.1 m hm, (hmo m hm).1⟩
  have s4 : J (1 + 3) 3 = f 4 := hc.1.2.2.1.1
  have s7 : J (1 + 7) 2 = f 6 := hc.1.2.2.2.1.1
  have hh := hw.2.2.2.1
  refine SJ_of_VJ (by decide +kernel) (Nat.le_of_ble_eq_true rfl) ?_
  show VJ g mX10_orderAt 16 1 6 _ _ 0 [(0, .ref (g.2 0)), (1, .int (nI (e))), (2, .int (nI (p)))] [] J
  refine J_aload_n 1 rfl dX10_orderAt_0 rfl ?_
  refine J_iload_n 2 rfl dX10_orderAt_1 rfl ?_
  refine J_existing 5 rfl dX10_orderAt_2 lkX10_113 (by exact Nat.le_of_ble_eq_true rfl) (by omega) (by omega) (by omega) h_e s0 h0 (fun c2 => ⟨by unfold qPt; (repeat' split) <;> omega, by unfold qPt; (repeat' split) <;> first | rfl | (exfalso; omega), Sc.refl⟩) (fun c2 => ?_)
  have hE := hCE e c2
  have hO := hEn e c2
  have hO8 := hO.2.1
  have hE1 := hE.1
  refine J_astore_n 6 rfl dX10_orderAt_5 rfl (Nat.le_of_ble_eq_true rfl) ?_
  refine J_aload_n 7 rfl dX10_orderAt_6 rfl ?_
  refine J_iload_n 8 rfl dX10_orderAt_7 rfl ?_
  refine J_callVi (As := [_]) 11 _ rfl kalX1_hasCylinder lkX10_120 dX10_orderAt_8 (lt_X1 (by first | assumption | exact isH_1 | exact isH_31 | exact isH_61 | exact isH_p (by omega) | exact isH_E (by assumption) (by omega) | exact isH_R (by assumption) | exact isH_K (by assumption) | exact isH_E isH_1 (by omega) | exact isH_R isH_1 | exact isH_K isH_1 | exact isH_R isH_31 | exact isH_K isH_31 | exact isH_E isH_31 (by omega))) (so_X1 (by first | assumption | exact isH_1 | exact isH_31 | exact isH_61 | exact isH_p (by omega) | exact isH_E (by assumption) (by omega) | exact isH_R (by assumption) | exact isH_K (by assumption) | exact isH_E isH_1 (by omega) | exact isH_R isH_1 | exact isH_K isH_1 | exact isH_R isH_31 | exact isH_K isH_31 | exact isH_E isH_31 (by omega))) rfl rfl rfl (by exact Nat.le_of_ble_eq_true rfl) (by omega) (S_X1_hasCylinder (isH_E isH_1 (by omega)) h_p (by have := hE.1; omega)) ?_
  refine J_reqIndex (hdp := _) 14 rfl dX10_orderAt_11 lkX10_124 (by exact Nat.le_of_ble_eq_true rfl) (by omega) (by omega) (by omega) (fun c11 => ⟨by unfold qPt; (repeat' split) <;> omega, by unfold qPt; (repeat' split) <;> first | rfl | (exfalso; omega), Sc.refl⟩) (fun c11 => ?_)
  refine J_aload_n 15 rfl dX10_orderAt_14 rfl ?_
  refine g_X1_order 18 (by first | assumption | exact isH_1 | exact isH_31 | exact isH_61 | exact isH_p (by omega) | exact isH_E (by assumption) (by omega) | exact isH_R (by assumption) | exact isH_K (by assumption) | exact isH_E isH_1 (by omega) | exact isH_R isH_1 | exact isH_K isH_1 | exact isH_R isH_31 | exact isH_K isH_31 | exact isH_E isH_31 (by omega)) rfl dX10_orderAt_15 lkX10_128 ?_
  refine J_iload_n 19 rfl dX10_orderAt_18 rfl ?_
  refine J_iald 20 rfl dX10_orderAt_19 (sa_X1_order (by first | assumption | exact isH_1 | exact isH_31 | exact isH_61 | exact isH_p (by omega) | exact isH_E (by assumption) (by omega) | exact isH_R (by assumption) | exact isH_K (by assumption) | exact isH_E isH_1 (by omega) | exact isH_R isH_1 | exact isH_K isH_1 | exact isH_R isH_31 | exact isH_K isH_31 | exact isH_E isH_31 (by omega))) (by omega) ?_
  refine J_iret rfl dX10_orderAt_20 ?_
  exact ⟨by unfold qPt; (repeat' split) <;> omega, by rw [(hE.2.2.2.2.2.1 p (by omega)).1], Sc.refl⟩

theorem S_X10_oilOf {g : Gn} {J : DJ} {n B e p : Nat} {fs : Nat → Nat → Nat} {f s : Nat → Nat} (h : CI J f n fs s B) (h_e : e < 4294967296) (h_p : p < 4294967296) : SJ g mX10_oilOf 16 1 6 [.ref (g.2 0), .int (nI (e)), .int (nI (p))] J (QF (qPt f e p) (f (7 + 52 * e + 12 + p)) (fun J2 => Sc J J2)) (XF (qPt f e p) J) := by
  obtain ⟨hc, hw, hp, hsn, h350, hB⟩ := h
  have h0 := hw.1
  have h2 := hw.2.1
  have h3 := hw.2.2.1
  have h4 := hw.2.2.2.2.1.1
  have hr := hw.2.2.2.2.1
  have h6 := hw.2.2.2.1.1
  have s0 := hc.1.1.1
  have s3 := hc.1.1.2.1
  have s2 := hc.1.1.2.2.1
  have s1 := hc.1.1.2.2.2.1
  have s5 := hc.1.1.2.2.2.2
  have h5 := hw.2.2.2.2.2.2.2.2.2
  have hEn := hw.2.2.2.2.2.1
  have hCE := hc.1.2.2.2.2
  have hb := hw.2.2.2.2.2.2.2.2.1
  have hmo := hw.2.2.2.2.2.2.2.1
  have hv : ∀ m, m < 6 → J (1 + 2) m = fvig f m ∧ fvig f m < 256 := fun m hm => ⟨hc.1.2.1 m hm, (hmo m hm).1⟩
  have s4 : J (1 + 3) 3 = f 4 := hc.1.2.2.1.1
  have s7 : J (1 + 7) 2 = f 6 := hc.1.2.2.2.1.1
  have hh := hw.2.2.2.1
  refine SJ_of_VJ (by decide +kernel) (Nat.le_of_ble_eq_true rfl) ?_
  show VJ g mX10_oilOf 16 1 6 _ _ 0 [(0, .ref (g.2 0)), (1, .int (nI (e))), (2, .int (nI (p)))] [] J
  refine J_aload_n 1 rfl dX10_oilOf_0 rfl ?_
  refine J_iload_n 2 rfl dX10_oilOf_1 rfl ?_
  refine J_existing 5 rfl dX10_oilOf_2 lkX10_113 (by exact Nat.le_of_ble_eq_true rfl) (by omega) (by omega) (by omega) h_e s0 h0 (fun c2 => ⟨by unfold qPt; (repeat' split) <;> omega, by unfold qPt; (repeat' split) <;> first | rfl | (exfalso; omega), Sc.refl⟩) (fun c2 => ?_)
  have hE := hCE e c2
  have hO := hEn e c2
  have hO8 := hO.2.1
  have hE1 := hE.1
  refine J_astore_n 6 rfl dX10_oilOf_5 rfl (Nat.le_of_ble_eq_true rfl) ?_
  refine J_aload_n 7 rfl dX10_oilOf_6 rfl ?_
  refine J_iload_n 8 rfl dX10_oilOf_7 rfl ?_
  refine J_callVi (As := [_]) 11 _ rfl kalX1_hasCylinder lkX10_120 dX10_oilOf_8 (lt_X1 (by first | assumption | exact isH_1 | exact isH_31 | exact isH_61 | exact isH_p (by omega) | exact isH_E (by assumption) (by omega) | exact isH_R (by assumption) | exact isH_K (by assumption) | exact isH_E isH_1 (by omega) | exact isH_R isH_1 | exact isH_K isH_1 | exact isH_R isH_31 | exact isH_K isH_31 | exact isH_E isH_31 (by omega))) (so_X1 (by first | assumption | exact isH_1 | exact isH_31 | exact isH_61 | exact isH_p (by omega) | exact isH_E (by assumption) (by omega) | exact isH_R (by assumption) | exact isH_K (by assumption) | exact isH_E isH_1 (by omega) | exact isH_R isH_1 | exact isH_K isH_1 | exact isH_R isH_31 | exact isH_K isH_31 | exact isH_E isH_31 (by omega))) rfl rfl rfl (by exact Nat.le_of_ble_eq_true rfl) (by omega) (S_X1_hasCylinder (isH_E isH_1 (by omega)) h_p (by have := hE.1; omega)) ?_
  refine J_reqIndex (hdp := _) 14 rfl dX10_oilOf_11 lkX10_124 (by exact Nat.le_of_ble_eq_true rfl) (by omega) (by omega) (by omega) (fun c11 => ⟨by unfold qPt; (repeat' split) <;> omega, by unfold qPt; (repeat' split) <;> first | rfl | (exfalso; omega), Sc.refl⟩) (fun c11 => ?_)
  refine J_aload_n 15 rfl dX10_oilOf_14 rfl ?_
  refine g_X1_oil 18 (by first | assumption | exact isH_1 | exact isH_31 | exact isH_61 | exact isH_p (by omega) | exact isH_E (by assumption) (by omega) | exact isH_R (by assumption) | exact isH_K (by assumption) | exact isH_E isH_1 (by omega) | exact isH_R isH_1 | exact isH_K isH_1 | exact isH_R isH_31 | exact isH_K isH_31 | exact isH_E isH_31 (by omega)) rfl dX10_oilOf_15 lkX10_199 ?_
  refine J_iload_n 19 rfl dX10_oilOf_18 rfl ?_
  refine J_iald 20 rfl dX10_oilOf_19 (sa_X1_oil (by first | assumption | exact isH_1 | exact isH_31 | exact isH_61 | exact isH_p (by omega) | exact isH_E (by assumption) (by omega) | exact isH_R (by assumption) | exact isH_K (by assumption) | exact isH_E isH_1 (by omega) | exact isH_R isH_1 | exact isH_K isH_1 | exact isH_R isH_31 | exact isH_K isH_31 | exact isH_E isH_31 (by omega))) (by omega) ?_
  refine J_iret rfl dX10_oilOf_20 ?_
  exact ⟨by unfold qPt; (repeat' split) <;> omega, by rw [(hE.2.2.2.2.2.1 p (by omega)).2.1], Sc.refl⟩

theorem S_X10_wearOf {g : Gn} {J : DJ} {n B e p : Nat} {fs : Nat → Nat → Nat} {f s : Nat → Nat} (h : CI J f n fs s B) (h_e : e < 4294967296) (h_p : p < 4294967296) : SJ g mX10_wearOf 16 1 6 [.ref (g.2 0), .int (nI (e)), .int (nI (p))] J (QF (qPt f e p) (f (7 + 52 * e + 20 + p)) (fun J2 => Sc J J2)) (XF (qPt f e p) J) := by
  obtain ⟨hc, hw, hp, hsn, h350, hB⟩ := h
  have h0 := hw.1
  have h2 := hw.2.1
  have h3 := hw.2.2.1
  have h4 := hw.2.2.2.2.1.1
  have hr := hw.2.2.2.2.1
  have h6 := hw.2.2.2.1.1
  have s0 := hc.1.1.1
  have s3 := hc.1.1.2.1
  have s2 := hc.1.1.2.2.1
  have s1 := hc.1.1.2.2.2.1
  have s5 := hc.1.1.2.2.2.2
  have h5 := hw.2.2.2.2.2.2.2.2.2
  have hEn := hw.2.2.2.2.2.1
  have hCE := hc.1.2.2.2.2
  have hb := hw.2.2.2.2.2.2.2.2.1
  have hmo := hw.2.2.2.2.2.2.2.1
  have hv : ∀ m, m < 6 → J (1 + 2) m = fvig f m ∧ fvig f m < 256 := fun m hm => ⟨hc.1.2.1 m hm, (hmo m hm).1⟩
  have s4 : J (1 + 3) 3 = f 4 := hc.1.2.2.1.1
  have s7 : J (1 + 7) 2 = f 6 := hc.1.2.2.2.1.1
  have hh := hw.2.2.2.1
  refine SJ_of_VJ (by decide +kernel) (Nat.le_of_ble_eq_true rfl) ?_
  show VJ g mX10_wearOf 16 1 6 _ _ 0 [(0, .ref (g.2 0)), (1, .int (nI (e))), (2, .int (nI (p)))] [] J
  refine J_aload_n 1 rfl dX10_wearOf_0 rfl ?_
  refine J_iload_n 2 rfl dX10_wearOf_1 rfl ?_
  refine J_existing 5 rfl dX10_wearOf_2 lkX10_113 (by exact Nat.le_of_ble_eq_true rfl) (by omega) (by omega) (by omega) h_e s0 h0 (fun c2 => ⟨by unfold qPt; (repeat' split) <;> omega, by unfold qPt; (repeat' split) <;> first | rfl | (exfalso; omega), Sc.refl⟩) (fun c2 => ?_)
  have hE := hCE e c2
  have hO := hEn e c2
  have hO8 := hO.2.1
  have hE1 := hE.1
  refine J_astore_n 6 rfl dX10_wearOf_5 rfl (Nat.le_of_ble_eq_true rfl) ?_
  refine J_aload_n 7 rfl dX10_wearOf_6 rfl ?_
  refine J_iload_n 8 rfl dX10_wearOf_7 rfl ?_
  refine J_callVi (As := [_]) 11 _ rfl kalX1_hasCylinder lkX10_120 dX10_wearOf_8 (lt_X1 (by first | assumption | exact isH_1 | exact isH_31 | exact isH_61 | exact isH_p (by omega) | exact isH_E (by assumption) (by omega) | exact isH_R (by assumption) | exact isH_K (by assumption) | exact isH_E isH_1 (by omega) | exact isH_R isH_1 | exact isH_K isH_1 | exact isH_R isH_31 | exact isH_K isH_31 | exact isH_E isH_31 (by omega))) (so_X1 (by first | assumption | exact isH_1 | exact isH_31 | exact isH_61 | exact isH_p (by omega) | exact isH_E (by assumption) (by omega) | exact isH_R (by assumption) | exact isH_K (by assumption) | exact isH_E isH_1 (by omega) | exact isH_R isH_1 | exact isH_K isH_1 | exact isH_R isH_31 | exact isH_K isH_31 | exact isH_E isH_31 (by omega))) rfl rfl rfl (by exact Nat.le_of_ble_eq_true rfl) (by omega) (S_X1_hasCylinder (isH_E isH_1 (by omega)) h_p (by have := hE.1; omega)) ?_
  refine J_reqIndex (hdp := _) 14 rfl dX10_wearOf_11 lkX10_124 (by exact Nat.le_of_ble_eq_true rfl) (by omega) (by omega) (by omega) (fun c11 => ⟨by unfold qPt; (repeat' split) <;> omega, by unfold qPt; (repeat' split) <;> first | rfl | (exfalso; omega), Sc.refl⟩) (fun c11 => ?_)
  refine J_aload_n 15 rfl dX10_wearOf_14 rfl ?_
  refine g_X1_wear 18 (by first | assumption | exact isH_1 | exact isH_31 | exact isH_61 | exact isH_p (by omega) | exact isH_E (by assumption) (by omega) | exact isH_R (by assumption) | exact isH_K (by assumption) | exact isH_E isH_1 (by omega) | exact isH_R isH_1 | exact isH_K isH_1 | exact isH_R isH_31 | exact isH_K isH_31 | exact isH_E isH_31 (by omega)) rfl dX10_wearOf_15 lkX10_202 ?_
  refine J_iload_n 19 rfl dX10_wearOf_18 rfl ?_
  refine J_iald 20 rfl dX10_wearOf_19 (sa_X1_wear (by first | assumption | exact isH_1 | exact isH_31 | exact isH_61 | exact isH_p (by omega) | exact isH_E (by assumption) (by omega) | exact isH_R (by assumption) | exact isH_K (by assumption) | exact isH_E isH_1 (by omega) | exact isH_R isH_1 | exact isH_K isH_1 | exact isH_R isH_31 | exact isH_K isH_31 | exact isH_E isH_31 (by omega))) (by omega) ?_
  refine J_iret rfl dX10_wearOf_20 ?_
  exact ⟨by unfold qPt; (repeat' split) <;> omega, by rw [(hE.2.2.2.2.2.1 p (by omega)).2.2], Sc.refl⟩

theorem S_X10_dueAfter {g : Gn} {J : DJ} {n B e t : Nat} {fs : Nat → Nat → Nat} {f s : Nat → Nat} (h : CI J f n fs s B) (h_e : e < 4294967296) (h_t : t < 4294967296) : SJ g mX10_dueAfter 16 1 6 [.ref (g.2 0), .int (nI (e)), .int (nI (t))] J (QF (qDue f e t) (f (7 + 52 * e + 4 + (f (7 + 52 * e + 1) + t) % f (7 + 52 * e))) (fun J2 => Sc J J2)) (XF (qDue f e t) J) := by
  obtain ⟨hc, hw, hp, hsn, h350, hB⟩ := h
  have h0 := hw.1
  have h2 := hw.2.1
  have h3 := hw.2.2.1
  have h4 := hw.2.2.2.2.1.1
  have hr := hw.2.2.2.2.1
  have h6 := hw.2.2.2.1.1
  have s0 := hc.1.1.1
  have s3 := hc.1.1.2.1
  have s2 := hc.1.1.2.2.1
  have s1 := hc.1.1.2.2.2.1
  have s5 := hc.1.1.2.2.2.2
  have h5 := hw.2.2.2.2.2.2.2.2.2
  have hEn := hw.2.2.2.2.2.1
  have hCE := hc.1.2.2.2.2
  have hb := hw.2.2.2.2.2.2.2.2.1
  have hmo := hw.2.2.2.2.2.2.2.1
  have hv : ∀ m, m < 6 → J (1 + 2) m = fvig f m ∧ fvig f m < 256 := fun m hm => ⟨hc.1.2.1 m hm, (hmo m hm).1⟩
  have s4 : J (1 + 3) 3 = f 4 := hc.1.2.2.1.1
  have s7 : J (1 + 7) 2 = f 6 := hc.1.2.2.2.1.1
  have hh := hw.2.2.2.1
  refine SJ_of_VJ (by decide +kernel) (Nat.le_of_ble_eq_true rfl) ?_
  show VJ g mX10_dueAfter 16 1 6 _ _ 0 [(0, .ref (g.2 0)), (1, .int (nI (e))), (2, .int (nI (t)))] [] J
  refine J_aload_n 1 rfl dX10_dueAfter_0 rfl ?_
  refine J_iload_n 2 rfl dX10_dueAfter_1 rfl ?_
  refine J_existing 5 rfl dX10_dueAfter_2 lkX10_113 (by exact Nat.le_of_ble_eq_true rfl) (by omega) (by omega) (by omega) h_e s0 h0 (fun c2 => ⟨by unfold qDue; (repeat' split) <;> omega, by unfold qDue; (repeat' split) <;> first | rfl | (exfalso; omega), Sc.refl⟩) (fun c2 => ?_)
  have hE := hCE e c2
  have hO := hEn e c2
  have hO8 := hO.2.1
  have hO3 := hO.1
  have hE1 := hE.1
  have hE7 := hE.2.1
  have hO7 := hO.2.2.1
  refine J_astore_n 6 rfl dX10_dueAfter_5 rfl (Nat.le_of_ble_eq_true rfl) ?_
  refine J_iload_n 7 rfl dX10_dueAfter_6 rfl ?_
  refine J_iconst 8 0 rfl dX10_dueAfter_7 ic_0 ?_
  refine J_sipush 11 9999 rfl dX10_dueAfter_8 sc_9999 ?_
  refine J_callSi (As := [_, _, _]) 14 rfl kalX10_isWithin lkX10_131 dX10_dueAfter_11 rfl rfl (by exact Nat.le_of_ble_eq_true rfl) (by omega) (S_within_le h_t (by omega) (by omega)) ?_
  refine J_reqArgument (hdp := _) 17 rfl dX10_dueAfter_14 lkX10_135 (by exact Nat.le_of_ble_eq_true rfl) (by omega) (by omega) (by omega) (fun c14 => ⟨by unfold qDue; (repeat' split) <;> omega, by unfold qDue; (repeat' split) <;> first | rfl | (exfalso; omega), Sc.refl⟩) (fun c14 => ?_)
  refine J_aload_n 18 rfl dX10_dueAfter_17 rfl ?_
  refine J_iload_n 19 rfl dX10_dueAfter_18 rfl ?_
  refine J_callVi (As := [_]) 22 _ rfl kalX1_dueByDivision lkX10_138 dX10_dueAfter_19 (lt_X1 (by first | assumption | exact isH_1 | exact isH_31 | exact isH_61 | exact isH_p (by omega) | exact isH_E (by assumption) (by omega) | exact isH_R (by assumption) | exact isH_K (by assumption) | exact isH_E isH_1 (by omega) | exact isH_R isH_1 | exact isH_K isH_1 | exact isH_R isH_31 | exact isH_K isH_31 | exact isH_E isH_31 (by omega))) (so_X1 (by first | assumption | exact isH_1 | exact isH_31 | exact isH_61 | exact isH_p (by omega) | exact isH_E (by assumption) (by omega) | exact isH_R (by assumption) | exact isH_K (by assumption) | exact isH_E isH_1 (by omega) | exact isH_R isH_1 | exact isH_K isH_1 | exact isH_R isH_31 | exact isH_K isH_31 | exact isH_E isH_31 (by omega))) rfl rfl rfl (by exact Nat.le_of_ble_eq_true rfl) (by omega) (S_X1_dueByDivision (isH_E isH_1 (by omega)) (by omega) (by omega) (by omega) (by omega)) ?_
  refine J_iret rfl dX10_dueAfter_22 ?_
  have lt : (f (7 + 52 * e + 1) + t) % f (7 + 52 * e) < f (7 + 52 * e) := Nat.mod_lt _ (by omega)
  exact ⟨by unfold qDue; (repeat' split) <;> omega, by rw [hE1, hE7, (hE.2.2.2.2.2.1 _ lt).1], Sc.refl⟩

theorem S_X10_dueAfterByStrokes {g : Gn} {J : DJ} {n B e t : Nat} {fs : Nat → Nat → Nat} {f s : Nat → Nat} (h : CI J f n fs s B) (h_e : e < 4294967296) (h_t : t < 4294967296) : SJ g mX10_dueAfterByStrokes 16 1 6 [.ref (g.2 0), .int (nI (e)), .int (nI (t))] J (QF (qDue f e t) (f (7 + 52 * e + 4 + (f (7 + 52 * e + 1) + t) % f (7 + 52 * e))) (fun J2 => Sc J J2)) (XF (qDue f e t) J) := by
  obtain ⟨hc, hw, hp, hsn, h350, hB⟩ := h
  have h0 := hw.1
  have h2 := hw.2.1
  have h3 := hw.2.2.1
  have h4 := hw.2.2.2.2.1.1
  have hr := hw.2.2.2.2.1
  have h6 := hw.2.2.2.1.1
  have s0 := hc.1.1.1
  have s3 := hc.1.1.2.1
  have s2 := hc.1.1.2.2.1
  have s1 := hc.1.1.2.2.2.1
  have s5 := hc.1.1.2.2.2.2
  have h5 := hw.2.2.2.2.2.2.2.2.2
  have hEn := hw.2.2.2.2.2.1
  have hCE := hc.1.2.2.2.2
  have hb := hw.2.2.2.2.2.2.2.2.1
  have hmo := hw.2.2.2.2.2.2.2.1
  have hv : ∀ m, m < 6 → J (1 + 2) m = fvig f m ∧ fvig f m < 256 := fun m hm => ⟨hc.1.2.1 m hm, (hmo m hm).1⟩
  have s4 : J (1 + 3) 3 = f 4 := hc.1.2.2.1.1
  have s7 : J (1 + 7) 2 = f 6 := hc.1.2.2.2.1.1
  have hh := hw.2.2.2.1
  refine SJ_of_VJ (by decide +kernel) (Nat.le_of_ble_eq_true rfl) ?_
  show VJ g mX10_dueAfterByStrokes 16 1 6 _ _ 0 [(0, .ref (g.2 0)), (1, .int (nI (e))), (2, .int (nI (t)))] [] J
  refine J_aload_n 1 rfl dX10_dueAfterByStrokes_0 rfl ?_
  refine J_iload_n 2 rfl dX10_dueAfterByStrokes_1 rfl ?_
  refine J_existing 5 rfl dX10_dueAfterByStrokes_2 lkX10_113 (by exact Nat.le_of_ble_eq_true rfl) (by omega) (by omega) (by omega) h_e s0 h0 (fun c2 => ⟨by unfold qDue; (repeat' split) <;> omega, by unfold qDue; (repeat' split) <;> first | rfl | (exfalso; omega), Sc.refl⟩) (fun c2 => ?_)
  have hE := hCE e c2
  have hO := hEn e c2
  have hO8 := hO.2.1
  have hO3 := hO.1
  have hE1 := hE.1
  have hE7 := hE.2.1
  have hO7 := hO.2.2.1
  refine J_astore_n 6 rfl dX10_dueAfterByStrokes_5 rfl (Nat.le_of_ble_eq_true rfl) ?_
  refine J_iload_n 7 rfl dX10_dueAfterByStrokes_6 rfl ?_
  refine J_iconst 8 0 rfl dX10_dueAfterByStrokes_7 ic_0 ?_
  refine J_sipush 11 9999 rfl dX10_dueAfterByStrokes_8 sc_9999 ?_
  refine J_callSi (As := [_, _, _]) 14 rfl kalX10_isWithin lkX10_131 dX10_dueAfterByStrokes_11 rfl rfl (by exact Nat.le_of_ble_eq_true rfl) (by omega) (S_within_le h_t (by omega) (by omega)) ?_
  refine J_reqArgument (hdp := _) 17 rfl dX10_dueAfterByStrokes_14 lkX10_135 (by exact Nat.le_of_ble_eq_true rfl) (by omega) (by omega) (by omega) (fun c14 => ⟨by unfold qDue; (repeat' split) <;> omega, by unfold qDue; (repeat' split) <;> first | rfl | (exfalso; omega), Sc.refl⟩) (fun c14 => ?_)
  refine J_aload_n 18 rfl dX10_dueAfterByStrokes_17 rfl ?_
  refine J_iload_n 19 rfl dX10_dueAfterByStrokes_18 rfl ?_
  refine J_callVi (As := [_]) 22 _ rfl kalX1_dueByCounting lkX10_141 dX10_dueAfterByStrokes_19 (lt_X1 (by first | assumption | exact isH_1 | exact isH_31 | exact isH_61 | exact isH_p (by omega) | exact isH_E (by assumption) (by omega) | exact isH_R (by assumption) | exact isH_K (by assumption) | exact isH_E isH_1 (by omega) | exact isH_R isH_1 | exact isH_K isH_1 | exact isH_R isH_31 | exact isH_K isH_31 | exact isH_E isH_31 (by omega))) (so_X1 (by first | assumption | exact isH_1 | exact isH_31 | exact isH_61 | exact isH_p (by omega) | exact isH_E (by assumption) (by omega) | exact isH_R (by assumption) | exact isH_K (by assumption) | exact isH_E isH_1 (by omega) | exact isH_R isH_1 | exact isH_K isH_1 | exact isH_R isH_31 | exact isH_K isH_31 | exact isH_E isH_31 (by omega))) rfl rfl rfl (by exact Nat.le_of_ble_eq_true rfl) (by omega) (S_X1_dueByCounting (isH_E isH_1 (by omega)) (by omega) (by omega) (by omega) (by omega)) ?_
  refine J_iret rfl dX10_dueAfterByStrokes_22 ?_
  have lt : (f (7 + 52 * e + 1) + t) % f (7 + 52 * e) < f (7 + 52 * e) := Nat.mod_lt _ (by omega)
  exact ⟨by unfold qDue; (repeat' split) <;> omega, by rw [hE1, hE7, (hE.2.2.2.2.2.1 _ lt).1], Sc.refl⟩

theorem S_X10_turnOf {g : Gn} {J : DJ} {n B e : Nat} {fs : Nat → Nat → Nat} {f s : Nat → Nat} (h : CI J f n fs s B) (h_e : e < 4294967296) : SJ g mX10_turnOf 16 1 6 [.ref (g.2 0), .int (nI (e))] J (QF (qE f e) (tuC (ford f e) (f (7 + 52 * e)) (f (7 + 52 * e))) (fun J2 => Sc J J2)) (XF (qE f e) J) := by
  obtain ⟨hc, hw, hp, hsn, h350, hB⟩ := h
  have h0 := hw.1
  have h2 := hw.2.1
  have h3 := hw.2.2.1
  have h4 := hw.2.2.2.2.1.1
  have hr := hw.2.2.2.2.1
  have h6 := hw.2.2.2.1.1
  have s0 := hc.1.1.1
  have s3 := hc.1.1.2.1
  have s2 := hc.1.1.2.2.1
  have s1 := hc.1.1.2.2.2.1
  have s5 := hc.1.1.2.2.2.2
  have h5 := hw.2.2.2.2.2.2.2.2.2
  have hEn := hw.2.2.2.2.2.1
  have hCE := hc.1.2.2.2.2
  have hb := hw.2.2.2.2.2.2.2.2.1
  have hmo := hw.2.2.2.2.2.2.2.1
  have hv : ∀ m, m < 6 → J (1 + 2) m = fvig f m ∧ fvig f m < 256 := fun m hm => ⟨hc.1.2.1 m hm, (hmo m hm).1⟩
  have s4 : J (1 + 3) 3 = f 4 := hc.1.2.2.1.1
  have s7 : J (1 + 7) 2 = f 6 := hc.1.2.2.2.1.1
  have hh := hw.2.2.2.1
  refine SJ_of_VJ (by decide +kernel) (Nat.le_of_ble_eq_true rfl) ?_
  show VJ g mX10_turnOf 16 1 6 _ _ 0 [(0, .ref (g.2 0)), (1, .int (nI (e)))] [] J
  refine J_aload_n 1 rfl dX10_turnOf_0 rfl ?_
  refine J_iload_n 2 rfl dX10_turnOf_1 rfl ?_
  refine J_existing 5 rfl dX10_turnOf_2 lkX10_113 (by exact Nat.le_of_ble_eq_true rfl) (by omega) (by omega) (by omega) h_e s0 h0 (fun c2 => ⟨by unfold qE; (repeat' split) <;> omega, by unfold qE; (repeat' split) <;> first | rfl | (exfalso; omega), Sc.refl⟩) (fun c2 => ?_)
  have hE := hCE e c2
  have hO := hEn e c2
  have hO8 := hO.2.1
  have hord : ∀ c, c < f (7 + 52 * e) → J (1 + 10 + 5 * e + 1) c = ford f e c := fun c hcc => by rw [(hE.2.2.2.2.2.1 c hcc).1]; unfold ford; rw [show 7 + 52 * e + 4 + c = 11 + 52 * e + c by omega]
  have how : ∀ c, c < f (7 + 52 * e) → ford f e c < f (7 + 52 * e) := fun c hcc => by unfold ford; rw [show 11 + 52 * e + c = 7 + 52 * e + 4 + c by omega]; exact hO.2.2.2.2.2.1 c hcc
  have hO3 := hO.1
  have hE1 := hE.1
  have hjw : ∀ c, c < J (1 + 10 + 5 * e) 6 → J (1 + 10 + 5 * e + 1) c < J (1 + 10 + 5 * e) 6 := fun c hcc => by rw [hE1] at hcc ⊢; rw [hord c hcc]; exact how c hcc
  refine J_callVi (As := []) 8 _ rfl kalX1_turnByCycles lkX10_144 dX10_turnOf_5 (lt_X1 (by first | assumption | exact isH_1 | exact isH_31 | exact isH_61 | exact isH_p (by omega) | exact isH_E (by assumption) (by omega) | exact isH_R (by assumption) | exact isH_K (by assumption) | exact isH_E isH_1 (by omega) | exact isH_R isH_1 | exact isH_K isH_1 | exact isH_R isH_31 | exact isH_K isH_31 | exact isH_E isH_31 (by omega))) (so_X1 (by first | assumption | exact isH_1 | exact isH_31 | exact isH_61 | exact isH_p (by omega) | exact isH_E (by assumption) (by omega) | exact isH_R (by assumption) | exact isH_K (by assumption) | exact isH_E isH_1 (by omega) | exact isH_R isH_1 | exact isH_K isH_1 | exact isH_R isH_31 | exact isH_K isH_31 | exact isH_E isH_31 (by omega))) rfl rfl rfl (by exact Nat.le_of_ble_eq_true rfl) (by omega) (S_X1_turnByCycles (isH_E isH_1 (by omega)) (by omega) (by omega) hjw) ?_
  refine J_iret rfl dX10_turnOf_8 ?_
  exact ⟨by unfold qE; (repeat' split) <;> omega, by rw [hE1, tuC_congr how hord _ (Nat.le_refl _)], Sc.refl⟩

theorem S_X10_turnByRepeating {g : Gn} {J : DJ} {n B e : Nat} {fs : Nat → Nat → Nat} {f s : Nat → Nat} (h : CI J f n fs s B) (h_e : e < 4294967296) : SJ g mX10_turnByRepeating 16 1 6 [.ref (g.2 0), .int (nI (e))] J (QN (qE f e) (fun r J2 => turnB (ford f e) (f (7 + 52 * e)) r ∧ Sc J J2)) (XF (qE f e) J) := by
  obtain ⟨hc, hw, hp, hsn, h350, hB⟩ := h
  have h0 := hw.1
  have h2 := hw.2.1
  have h3 := hw.2.2.1
  have h4 := hw.2.2.2.2.1.1
  have hr := hw.2.2.2.2.1
  have h6 := hw.2.2.2.1.1
  have s0 := hc.1.1.1
  have s3 := hc.1.1.2.1
  have s2 := hc.1.1.2.2.1
  have s1 := hc.1.1.2.2.2.1
  have s5 := hc.1.1.2.2.2.2
  have h5 := hw.2.2.2.2.2.2.2.2.2
  have hEn := hw.2.2.2.2.2.1
  have hCE := hc.1.2.2.2.2
  have hb := hw.2.2.2.2.2.2.2.2.1
  have hmo := hw.2.2.2.2.2.2.2.1
  have hv : ∀ m, m < 6 → J (1 + 2) m = fvig f m ∧ fvig f m < 256 := fun m hm => ⟨hc.1.2.1 m hm, (hmo m hm).1⟩
  have s4 : J (1 + 3) 3 = f 4 := hc.1.2.2.1.1
  have s7 : J (1 + 7) 2 = f 6 := hc.1.2.2.2.1.1
  have hh := hw.2.2.2.1
  refine SJ_of_VJ (by decide +kernel) (Nat.le_of_ble_eq_true rfl) ?_
  show VJ g mX10_turnByRepeating 16 1 6 _ _ 0 [(0, .ref (g.2 0)), (1, .int (nI (e)))] [] J
  refine J_aload_n 1 rfl dX10_turnByRepeating_0 rfl ?_
  refine J_iload_n 2 rfl dX10_turnByRepeating_1 rfl ?_
  refine J_existing 5 rfl dX10_turnByRepeating_2 lkX10_113 (by exact Nat.le_of_ble_eq_true rfl) (by omega) (by omega) (by omega) h_e s0 h0 (fun c2 => ⟨by unfold qE; (repeat' split) <;> omega, by unfold qE; (repeat' split) <;> first | rfl | (exfalso; omega), Sc.refl⟩) (fun c2 => ?_)
  have hE := hCE e c2
  have hO := hEn e c2
  have hO8 := hO.2.1
  have hord : ∀ c, c < f (7 + 52 * e) → J (1 + 10 + 5 * e + 1) c = ford f e c := fun c hcc => by rw [(hE.2.2.2.2.2.1 c hcc).1]; unfold ford; rw [show 7 + 52 * e + 4 + c = 11 + 52 * e + c by omega]
  have how : ∀ c, c < f (7 + 52 * e) → ford f e c < f (7 + 52 * e) := fun c hcc => by unfold ford; rw [show 11 + 52 * e + c = 7 + 52 * e + 4 + c by omega]; exact hO.2.2.2.2.2.1 c hcc
  have hO3 := hO.1
  have hE1 := hE.1
  have hjw : ∀ c, c < J (1 + 10 + 5 * e) 6 → J (1 + 10 + 5 * e + 1) c < J (1 + 10 + 5 * e) 6 := fun c hcc => by rw [hE1] at hcc ⊢; rw [hord c hcc]; exact how c hcc
  refine J_callVin (As := []) 8 _ rfl kalX1_turnBySteps lkX10_148 dX10_turnByRepeating_5 (lt_X1 (by first | assumption | exact isH_1 | exact isH_31 | exact isH_61 | exact isH_p (by omega) | exact isH_E (by assumption) (by omega) | exact isH_R (by assumption) | exact isH_K (by assumption) | exact isH_E isH_1 (by omega) | exact isH_R isH_1 | exact isH_K isH_1 | exact isH_R isH_31 | exact isH_K isH_31 | exact isH_E isH_31 (by omega))) (so_X1 (by first | assumption | exact isH_1 | exact isH_31 | exact isH_61 | exact isH_p (by omega) | exact isH_E (by assumption) (by omega) | exact isH_R (by assumption) | exact isH_K (by assumption) | exact isH_E isH_1 (by omega) | exact isH_R isH_1 | exact isH_K isH_1 | exact isH_R isH_31 | exact isH_K isH_31 | exact isH_E isH_31 (by omega))) rfl rfl rfl (by exact Nat.le_of_ble_eq_true rfl) (by omega) (S_X1_turnBySteps (isH_E isH_1 (by omega)) (by omega) (by omega) hjw) (fun r5 q5 => ?_)
  refine J_iret rfl dX10_turnByRepeating_8 ?_
  rw [hE1] at q5
  exact ⟨by unfold qE; (repeat' split) <;> omega, r5, rfl, turnB_congr how hord q5, Sc.refl⟩

theorem S_X10_evenness {g : Gn} {J : DJ} {n B e : Nat} {fs : Nat → Nat → Nat} {f s : Nat → Nat} (h : CI J f n fs s B) (h_e : e < 4294967296) : SJ g mX10_evenness 16 1 6 [.ref (g.2 0), .int (nI (e))] J (QF (qE f e) (ldN (ford f e) (f (7 + 52 * e)) (f (7 + 52 * e))) (fun J2 => Sc J J2)) (XF (qE f e) J) := by
  obtain ⟨hc, hw, hp, hsn, h350, hB⟩ := h
  have h0 := hw.1
  have h2 := hw.2.1
  have h3 := hw.2.2.1
  have h4 := hw.2.2.2.2.1.1
  have hr := hw.2.2.2.2.1
  have h6 := hw.2.2.2.1.1
  have s0 := hc.1.1.1
  have s3 := hc.1.1.2.1
  have s2 := hc.1.1.2.2.1
  have s1 := hc.1.1.2.2.2.1
  have s5 := hc.1.1.2.2.2.2
  have h5 := hw.2.2.2.2.2.2.2.2.2
  have hEn := hw.2.2.2.2.2.1
  have hCE := hc.1.2.2.2.2
  have hb := hw.2.2.2.2.2.2.2.2.1
  have hmo := hw.2.2.2.2.2.2.2.1
  have hv : ∀ m, m < 6 → J (1 + 2) m = fvig f m ∧ fvig f m < 256 := fun m hm => ⟨hc.1.2.1 m hm, (hmo m hm).1⟩
  have s4 : J (1 + 3) 3 = f 4 := hc.1.2.2.1.1
  have s7 : J (1 + 7) 2 = f 6 := hc.1.2.2.2.1.1
  have hh := hw.2.2.2.1
  refine SJ_of_VJ (by decide +kernel) (Nat.le_of_ble_eq_true rfl) ?_
  show VJ g mX10_evenness 16 1 6 _ _ 0 [(0, .ref (g.2 0)), (1, .int (nI (e)))] [] J
  refine J_aload_n 1 rfl dX10_evenness_0 rfl ?_
  refine J_iload_n 2 rfl dX10_evenness_1 rfl ?_
  refine J_existing 5 rfl dX10_evenness_2 lkX10_113 (by exact Nat.le_of_ble_eq_true rfl) (by omega) (by omega) (by omega) h_e s0 h0 (fun c2 => ⟨by unfold qE; (repeat' split) <;> omega, by unfold qE; (repeat' split) <;> first | rfl | (exfalso; omega), Sc.refl⟩) (fun c2 => ?_)
  have hE := hCE e c2
  have hO := hEn e c2
  have hO8 := hO.2.1
  have hord : ∀ c, c < f (7 + 52 * e) → J (1 + 10 + 5 * e + 1) c = ford f e c := fun c hcc => by rw [(hE.2.2.2.2.2.1 c hcc).1]; unfold ford; rw [show 7 + 52 * e + 4 + c = 11 + 52 * e + c by omega]
  have how : ∀ c, c < f (7 + 52 * e) → ford f e c < f (7 + 52 * e) := fun c hcc => by unfold ford; rw [show 11 + 52 * e + c = 7 + 52 * e + 4 + c by omega]; exact hO.2.2.2.2.2.1 c hcc
  have hO3 := hO.1
  have hE1 := hE.1
  have hjw : ∀ c, c < J (1 + 10 + 5 * e) 6 → J (1 + 10 + 5 * e + 1) c < J (1 + 10 + 5 * e) 6 := fun c hcc => by rw [hE1] at hcc ⊢; rw [hord c hcc]; exact how c hcc
  refine J_callVi (As := []) 8 _ rfl kalX1_leastDistance lkX10_151 dX10_evenness_5 (lt_X1 (by first | assumption | exact isH_1 | exact isH_31 | exact isH_61 | exact isH_p (by omega) | exact isH_E (by assumption) (by omega) | exact isH_R (by assumption) | exact isH_K (by assumption) | exact isH_E isH_1 (by omega) | exact isH_R isH_1 | exact isH_K isH_1 | exact isH_R isH_31 | exact isH_K isH_31 | exact isH_E isH_31 (by omega))) (so_X1 (by first | assumption | exact isH_1 | exact isH_31 | exact isH_61 | exact isH_p (by omega) | exact isH_E (by assumption) (by omega) | exact isH_R (by assumption) | exact isH_K (by assumption) | exact isH_E isH_1 (by omega) | exact isH_R isH_1 | exact isH_K isH_1 | exact isH_R isH_31 | exact isH_K isH_31 | exact isH_E isH_31 (by omega))) rfl rfl rfl (by exact Nat.le_of_ble_eq_true rfl) (by omega) (S_X1_leastDistance (isH_E isH_1 (by omega)) (by omega) (by omega) hjw) ?_
  refine J_iret rfl dX10_evenness_8 ?_
  exact ⟨by unfold qE; (repeat' split) <;> omega, by rw [hE1, ldN_congr hord _ (Nat.le_refl _)], Sc.refl⟩

theorem S_X10_evenOrders {g : Gn} {J : DJ} {n B e v : Nat} {fs : Nat → Nat → Nat} {f s : Nat → Nat} (h : CI J f n fs s B) (h_e : e < 4294967296) (h_v : v < 4294967296) : SJ g mX10_evenOrders 16 1 6 [.ref (g.2 0), .int (nI (e)), .int (nI (v))] J (QF (qEv f e v) (eoR (f (7 + 52 * e)) v) (fun J2 => Sc J J2)) (XF (qEv f e v) J) := by
  obtain ⟨hc, hw, hp, hsn, h350, hB⟩ := h
  have h0 := hw.1
  have h2 := hw.2.1
  have h3 := hw.2.2.1
  have h4 := hw.2.2.2.2.1.1
  have hr := hw.2.2.2.2.1
  have h6 := hw.2.2.2.1.1
  have s0 := hc.1.1.1
  have s3 := hc.1.1.2.1
  have s2 := hc.1.1.2.2.1
  have s1 := hc.1.1.2.2.2.1
  have s5 := hc.1.1.2.2.2.2
  have h5 := hw.2.2.2.2.2.2.2.2.2
  have hEn := hw.2.2.2.2.2.1
  have hCE := hc.1.2.2.2.2
  have hb := hw.2.2.2.2.2.2.2.2.1
  have hmo := hw.2.2.2.2.2.2.2.1
  have hv : ∀ m, m < 6 → J (1 + 2) m = fvig f m ∧ fvig f m < 256 := fun m hm => ⟨hc.1.2.1 m hm, (hmo m hm).1⟩
  have s4 : J (1 + 3) 3 = f 4 := hc.1.2.2.1.1
  have s7 : J (1 + 7) 2 = f 6 := hc.1.2.2.2.1.1
  have hh := hw.2.2.2.1
  refine SJ_of_VJ (by decide +kernel) (Nat.le_of_ble_eq_true rfl) ?_
  show VJ g mX10_evenOrders 16 1 6 _ _ 0 [(0, .ref (g.2 0)), (1, .int (nI (e))), (2, .int (nI (v)))] [] J
  refine J_aload_n 1 rfl dX10_evenOrders_0 rfl ?_
  refine J_iload_n 2 rfl dX10_evenOrders_1 rfl ?_
  refine J_existing 5 rfl dX10_evenOrders_2 lkX10_113 (by exact Nat.le_of_ble_eq_true rfl) (by omega) (by omega) (by omega) h_e s0 h0 (fun c2 => ⟨by unfold qEv; (repeat' split) <;> omega, by unfold qEv; (repeat' split) <;> first | rfl | (exfalso; omega), Sc.refl⟩) (fun c2 => ?_)
  have hE := hCE e c2
  have hO := hEn e c2
  have hO8 := hO.2.1
  have hO3 := hO.1
  refine J_astore_n 6 rfl dX10_evenOrders_5 rfl (Nat.le_of_ble_eq_true rfl) ?_
  refine J_iload_n 7 rfl dX10_evenOrders_6 rfl ?_
  refine J_iconst 8 1 rfl dX10_evenOrders_7 ic_1 ?_
  refine J_iconst 9 4 rfl dX10_evenOrders_8 ic_4 ?_
  refine J_callSi (As := [_, _, _]) 12 rfl kalX10_isWithin lkX10_131 dX10_evenOrders_9 rfl rfl (by exact Nat.le_of_ble_eq_true rfl) (by omega) (S_within_le h_v (by omega) (by omega)) ?_
  refine J_reqArgument (hdp := _) 15 rfl dX10_evenOrders_12 lkX10_135 (by exact Nat.le_of_ble_eq_true rfl) (by omega) (by omega) (by omega) (fun c12 => ⟨by unfold qEv; (repeat' split) <;> omega, by unfold qEv; (repeat' split) <;> first | rfl | (exfalso; omega), Sc.refl⟩) (fun c12 => ?_)
  refine J_aload_n 16 rfl dX10_evenOrders_15 rfl ?_
  refine g_X10_orders 19 rfl dX10_evenOrders_16 lkX10_32 ?_
  refine J_aload_n 20 rfl dX10_evenOrders_19 rfl ?_
  refine g_X1_cylinders 23 (by first | assumption | exact isH_1 | exact isH_31 | exact isH_61 | exact isH_p (by omega) | exact isH_E (by assumption) (by omega) | exact isH_R (by assumption) | exact isH_K (by assumption) | exact isH_E isH_1 (by omega) | exact isH_R isH_1 | exact isH_K isH_1 | exact isH_R isH_31 | exact isH_K isH_31 | exact isH_E isH_31 (by omega)) rfl dX10_evenOrders_20 lkX10_117 ?_
  refine J_cv (b := f (7 + 52 * e)) hE.1 ?_
  refine J_iload_n 24 rfl dX10_evenOrders_23 rfl ?_
  refine J_callVip (As := [_, _]) 27 _ rfl kalX2_countByTable lkX10_154 dX10_evenOrders_24 (lt_X2) (so_X2) rfl rfl rfl (by exact Nat.le_of_ble_eq_true rfl) (by omega) (S_X2_countByTable (by omega) (by omega) (by omega)) (fun J24 q24 => ?_)
  refine J_iret rfl dX10_evenOrders_27 ?_
  obtain ⟨r, rfl⟩ := q24
  exact ⟨by unfold qEv; (repeat' split) <;> omega, rfl, Sc.sR (by omega)⟩

theorem S_X10_evenOrdersByTrying {g : Gn} {J : DJ} {n B e v : Nat} {fs : Nat → Nat → Nat} {f s : Nat → Nat} (h : CI J f n fs s B) (h_e : e < 4294967296) (h_v : v < 4294967296) : SJ g mX10_evenOrdersByTrying 16 1 6 [.ref (g.2 0), .int (nI (e)), .int (nI (v))] J (QF (qEv f e v) (cF (f (7 + 52 * e)) v (f (7 + 52 * e) - 1) 1 (fun i => i)) (fun J2 => Sc J J2)) (XF (qEv f e v) J) := by
  obtain ⟨hc, hw, hp, hsn, h350, hB⟩ := h
  have h0 := hw.1
  have h2 := hw.2.1
  have h3 := hw.2.2.1
  have h4 := hw.2.2.2.2.1.1
  have hr := hw.2.2.2.2.1
  have h6 := hw.2.2.2.1.1
  have s0 := hc.1.1.1
  have s3 := hc.1.1.2.1
  have s2 := hc.1.1.2.2.1
  have s1 := hc.1.1.2.2.2.1
  have s5 := hc.1.1.2.2.2.2
  have h5 := hw.2.2.2.2.2.2.2.2.2
  have hEn := hw.2.2.2.2.2.1
  have hCE := hc.1.2.2.2.2
  have hb := hw.2.2.2.2.2.2.2.2.1
  have hmo := hw.2.2.2.2.2.2.2.1
  have hv : ∀ m, m < 6 → J (1 + 2) m = fvig f m ∧ fvig f m < 256 := fun m hm => ⟨hc.1.2.1 m hm, (hmo m hm).1⟩
  have s4 : J (1 + 3) 3 = f 4 := hc.1.2.2.1.1
  have s7 : J (1 + 7) 2 = f 6 := hc.1.2.2.2.1.1
  have hh := hw.2.2.2.1
  refine SJ_of_VJ (by decide +kernel) (Nat.le_of_ble_eq_true rfl) ?_
  show VJ g mX10_evenOrdersByTrying 16 1 6 _ _ 0 [(0, .ref (g.2 0)), (1, .int (nI (e))), (2, .int (nI (v)))] [] J
  refine J_aload_n 1 rfl dX10_evenOrdersByTrying_0 rfl ?_
  refine J_iload_n 2 rfl dX10_evenOrdersByTrying_1 rfl ?_
  refine J_existing 5 rfl dX10_evenOrdersByTrying_2 lkX10_113 (by exact Nat.le_of_ble_eq_true rfl) (by omega) (by omega) (by omega) h_e s0 h0 (fun c2 => ⟨by unfold qEv; (repeat' split) <;> omega, by unfold qEv; (repeat' split) <;> first | rfl | (exfalso; omega), Sc.refl⟩) (fun c2 => ?_)
  have hE := hCE e c2
  have hO := hEn e c2
  have hO8 := hO.2.1
  have hO3 := hO.1
  refine J_astore_n 6 rfl dX10_evenOrdersByTrying_5 rfl (Nat.le_of_ble_eq_true rfl) ?_
  refine J_iload_n 7 rfl dX10_evenOrdersByTrying_6 rfl ?_
  refine J_iconst 8 1 rfl dX10_evenOrdersByTrying_7 ic_1 ?_
  refine J_iconst 9 4 rfl dX10_evenOrdersByTrying_8 ic_4 ?_
  refine J_callSi (As := [_, _, _]) 12 rfl kalX10_isWithin lkX10_131 dX10_evenOrdersByTrying_9 rfl rfl (by exact Nat.le_of_ble_eq_true rfl) (by omega) (S_within_le h_v (by omega) (by omega)) ?_
  refine J_reqArgument (hdp := _) 15 rfl dX10_evenOrdersByTrying_12 lkX10_135 (by exact Nat.le_of_ble_eq_true rfl) (by omega) (by omega) (by omega) (fun c12 => ⟨by unfold qEv; (repeat' split) <;> omega, by unfold qEv; (repeat' split) <;> first | rfl | (exfalso; omega), Sc.refl⟩) (fun c12 => ?_)
  refine J_aload_n 16 rfl dX10_evenOrdersByTrying_15 rfl ?_
  refine g_X10_orders 19 rfl dX10_evenOrdersByTrying_16 lkX10_32 ?_
  refine J_aload_n 20 rfl dX10_evenOrdersByTrying_19 rfl ?_
  refine g_X1_cylinders 23 (by first | assumption | exact isH_1 | exact isH_31 | exact isH_61 | exact isH_p (by omega) | exact isH_E (by assumption) (by omega) | exact isH_R (by assumption) | exact isH_K (by assumption) | exact isH_E isH_1 (by omega) | exact isH_R isH_1 | exact isH_K isH_1 | exact isH_R isH_31 | exact isH_K isH_31 | exact isH_E isH_31 (by omega)) rfl dX10_evenOrdersByTrying_20 lkX10_117 ?_
  refine J_cv (b := f (7 + 52 * e)) hE.1 ?_
  refine J_iload_n 24 rfl dX10_evenOrdersByTrying_23 rfl ?_
  refine J_callVip (As := [_, _]) 27 _ rfl kalX2_countBySwapping lkX10_157 dX10_evenOrdersByTrying_24 (lt_X2) (so_X2) rfl rfl rfl (by exact Nat.le_of_ble_eq_true rfl) (by omega) (S_X2_countBySwapping (by omega) (by omega) (by omega)) (fun J24 q24 => ?_)
  refine J_iret rfl dX10_evenOrdersByTrying_27 ?_
  obtain ⟨r, rfl⟩ := q24
  exact ⟨by unfold qEv; (repeat' split) <;> omega, rfl, Sc.sR (by omega)⟩

theorem S_X10_leastOilAfter {g : Gn} {J : DJ} {n B u : Nat} {fs : Nat → Nat → Nat} {f s : Nat → Nat} (h : CI J f n fs s B) (h_u : u < 4294967296) : SJ g mX10_leastOilAfter 16 1 6 [.ref (g.2 0), .int (nI (u))] J (QF (qLo f u) (lst (gvN (ol f) (cnt f) u) (cnt f)) (fun J2 => Sc J J2)) (XF (qLo f u) J) := by
  obtain ⟨hc, hw, hp, hsn, h350, hB⟩ := h
  have h0 := hw.1
  have h2 := hw.2.1
  have h3 := hw.2.2.1
  have h4 := hw.2.2.2.2.1.1
  have hr := hw.2.2.2.2.1
  have h6 := hw.2.2.2.1.1
  have s0 := hc.1.1.1
  have s3 := hc.1.1.2.1
  have s2 := hc.1.1.2.2.1
  have s1 := hc.1.1.2.2.2.1
  have s5 := hc.1.1.2.2.2.2
  have h5 := hw.2.2.2.2.2.2.2.2.2
  have hEn := hw.2.2.2.2.2.1
  have hCE := hc.1.2.2.2.2
  have hb := hw.2.2.2.2.2.2.2.2.1
  have hmo := hw.2.2.2.2.2.2.2.1
  have hv : ∀ m, m < 6 → J (1 + 2) m = fvig f m ∧ fvig f m < 256 := fun m hm => ⟨hc.1.2.1 m hm, (hmo m hm).1⟩
  have s4 : J (1 + 3) 3 = f 4 := hc.1.2.2.1.1
  have s7 : J (1 + 7) 2 = f 6 := hc.1.2.2.2.1.1
  have hh := hw.2.2.2.1
  refine SJ_of_VJ (by decide +kernel) (Nat.le_of_ble_eq_true rfl) ?_
  show VJ g mX10_leastOilAfter 16 1 6 _ _ 0 [(0, .ref (g.2 0)), (1, .int (nI (u)))] [] J
  refine J_iload_n 1 rfl dX10_leastOilAfter_0 rfl ?_
  refine J_iconst 2 0 rfl dX10_leastOilAfter_1 ic_0 ?_
  refine J_sipush 5 999 rfl dX10_leastOilAfter_2 sc_999 ?_
  refine J_callSi (As := [_, _, _]) 8 rfl kalX10_isWithin lkX10_131 dX10_leastOilAfter_5 rfl rfl (by exact Nat.le_of_ble_eq_true rfl) (by omega) (S_within_le h_u (by omega) (by omega)) ?_
  refine J_reqArgument (hdp := _) 11 rfl dX10_leastOilAfter_8 lkX10_135 (by exact Nat.le_of_ble_eq_true rfl) (by omega) (by omega) (by omega) (fun c8 => ⟨by unfold qLo; (repeat' split) <;> omega, by unfold qLo; (repeat' split) <;> first | rfl | (exfalso; omega), Sc.refl⟩) (fun c8 => ?_)
  refine J_aload_n 12 rfl dX10_leastOilAfter_11 rfl ?_
  refine g_X10_house 15 rfl dX10_leastOilAfter_12 lkX10_10 ?_
  refine g_X3_engineCount 18 (by first | assumption | exact isH_1 | exact isH_31 | exact isH_61 | exact isH_p (by omega) | exact isH_E (by assumption) (by omega) | exact isH_R (by assumption) | exact isH_K (by assumption) | exact isH_E isH_1 (by omega) | exact isH_R isH_1 | exact isH_K isH_1 | exact isH_R isH_31 | exact isH_K isH_31 | exact isH_E isH_31 (by omega)) rfl dX10_leastOilAfter_15 lkX10_110 ?_
  refine J_if_le 25 21 (by decide) rfl dX10_leastOilAfter_18 (by omega) (fun c18 => ?_) (fun c18 => ?_)
  · refine J_iconst 26 0 rfl dX10_leastOilAfter_25 ic_0 ?_
    refine J_cv (b := bt False) rfl ?_
    refine J_reqElement (hdp := _) 29 rfl dX10_leastOilAfter_26 lkX10_178 (by exact Nat.le_of_ble_eq_true rfl) (by omega) (by omega) (by omega) (fun c26 => ⟨by unfold qLo; (repeat' split) <;> omega, by unfold qLo; (repeat' split) <;> first | rfl | (exfalso; omega), Sc.refl⟩) (fun c26 => absurd c26 id)
  · refine J_iconst 22 1 rfl dX10_leastOilAfter_21 ic_1 ?_
    refine J_goto 26 (by decide) dX10_leastOilAfter_22 ?_
    refine J_cv (b := bt True) rfl ?_
    refine J_reqElement (hdp := _) 29 rfl dX10_leastOilAfter_26 lkX10_178 (by exact Nat.le_of_ble_eq_true rfl) (by omega) (by omega) (by omega) (fun c26 => absurd trivial c26) (fun c26 => ?_)
    refine J_aload_n 30 rfl dX10_leastOilAfter_29 rfl ?_
    refine g_X10_house 33 rfl dX10_leastOilAfter_30 lkX10_10 ?_
    refine J_iload_n 34 rfl dX10_leastOilAfter_33 rfl ?_
    refine J_callVi (As := [_]) 37 _ rfl kalX3_levelByFilling lkX10_181 dX10_leastOilAfter_34 (lt_X3 (by first | assumption | exact isH_1 | exact isH_31 | exact isH_61 | exact isH_p (by omega) | exact isH_E (by assumption) (by omega) | exact isH_R (by assumption) | exact isH_K (by assumption) | exact isH_E isH_1 (by omega) | exact isH_R isH_1 | exact isH_K isH_1 | exact isH_R isH_31 | exact isH_K isH_31 | exact isH_E isH_31 (by omega))) (so_X3 (by first | assumption | exact isH_1 | exact isH_31 | exact isH_61 | exact isH_p (by omega) | exact isH_E (by assumption) (by omega) | exact isH_R (by assumption) | exact isH_K (by assumption) | exact isH_E isH_1 (by omega) | exact isH_R isH_1 | exact isH_K isH_1 | exact isH_R isH_31 | exact isH_K isH_31 | exact isH_E isH_31 (by omega))) rfl rfl rfl (by exact Nat.le_of_ble_eq_true rfl) (by omega) (S_X3_levelByFilling isH_1 hc.1 hw (by omega) (by omega) (by omega)) ?_
    refine J_iret rfl dX10_leastOilAfter_37 ?_
    exact ⟨by unfold qLo; (repeat' split) <;> omega, rfl, Sc.refl⟩

theorem S_X10_leastOilAfterByGiving {g : Gn} {J : DJ} {n B u : Nat} {fs : Nat → Nat → Nat} {f s : Nat → Nat} (h : CI J f n fs s B) (h_u : u < 4294967296) : SJ g mX10_leastOilAfterByGiving 16 1 6 [.ref (g.2 0), .int (nI (u))] J (QF (qLo f u) (lst (gvN (ol f) (cnt f) u) (cnt f)) (fun J2 => Sc J J2)) (XF (qLo f u) J) := by
  obtain ⟨hc, hw, hp, hsn, h350, hB⟩ := h
  have h0 := hw.1
  have h2 := hw.2.1
  have h3 := hw.2.2.1
  have h4 := hw.2.2.2.2.1.1
  have hr := hw.2.2.2.2.1
  have h6 := hw.2.2.2.1.1
  have s0 := hc.1.1.1
  have s3 := hc.1.1.2.1
  have s2 := hc.1.1.2.2.1
  have s1 := hc.1.1.2.2.2.1
  have s5 := hc.1.1.2.2.2.2
  have h5 := hw.2.2.2.2.2.2.2.2.2
  have hEn := hw.2.2.2.2.2.1
  have hCE := hc.1.2.2.2.2
  have hb := hw.2.2.2.2.2.2.2.2.1
  have hmo := hw.2.2.2.2.2.2.2.1
  have hv : ∀ m, m < 6 → J (1 + 2) m = fvig f m ∧ fvig f m < 256 := fun m hm => ⟨hc.1.2.1 m hm, (hmo m hm).1⟩
  have s4 : J (1 + 3) 3 = f 4 := hc.1.2.2.1.1
  have s7 : J (1 + 7) 2 = f 6 := hc.1.2.2.2.1.1
  have hh := hw.2.2.2.1
  refine SJ_of_VJ (by decide +kernel) (Nat.le_of_ble_eq_true rfl) ?_
  show VJ g mX10_leastOilAfterByGiving 16 1 6 _ _ 0 [(0, .ref (g.2 0)), (1, .int (nI (u)))] [] J
  refine J_iload_n 1 rfl dX10_leastOilAfterByGiving_0 rfl ?_
  refine J_iconst 2 0 rfl dX10_leastOilAfterByGiving_1 ic_0 ?_
  refine J_sipush 5 999 rfl dX10_leastOilAfterByGiving_2 sc_999 ?_
  refine J_callSi (As := [_, _, _]) 8 rfl kalX10_isWithin lkX10_131 dX10_leastOilAfterByGiving_5 rfl rfl (by exact Nat.le_of_ble_eq_true rfl) (by omega) (S_within_le h_u (by omega) (by omega)) ?_
  refine J_reqArgument (hdp := _) 11 rfl dX10_leastOilAfterByGiving_8 lkX10_135 (by exact Nat.le_of_ble_eq_true rfl) (by omega) (by omega) (by omega) (fun c8 => ⟨by unfold qLo; (repeat' split) <;> omega, by unfold qLo; (repeat' split) <;> first | rfl | (exfalso; omega), Sc.refl⟩) (fun c8 => ?_)
  refine J_aload_n 12 rfl dX10_leastOilAfterByGiving_11 rfl ?_
  refine g_X10_house 15 rfl dX10_leastOilAfterByGiving_12 lkX10_10 ?_
  refine g_X3_engineCount 18 (by first | assumption | exact isH_1 | exact isH_31 | exact isH_61 | exact isH_p (by omega) | exact isH_E (by assumption) (by omega) | exact isH_R (by assumption) | exact isH_K (by assumption) | exact isH_E isH_1 (by omega) | exact isH_R isH_1 | exact isH_K isH_1 | exact isH_R isH_31 | exact isH_K isH_31 | exact isH_E isH_31 (by omega)) rfl dX10_leastOilAfterByGiving_15 lkX10_110 ?_
  refine J_if_le 25 21 (by decide) rfl dX10_leastOilAfterByGiving_18 (by omega) (fun c18 => ?_) (fun c18 => ?_)
  · refine J_iconst 26 0 rfl dX10_leastOilAfterByGiving_25 ic_0 ?_
    refine J_cv (b := bt False) rfl ?_
    refine J_reqElement (hdp := _) 29 rfl dX10_leastOilAfterByGiving_26 lkX10_178 (by exact Nat.le_of_ble_eq_true rfl) (by omega) (by omega) (by omega) (fun c26 => ⟨by unfold qLo; (repeat' split) <;> omega, by unfold qLo; (repeat' split) <;> first | rfl | (exfalso; omega), Sc.refl⟩) (fun c26 => absurd c26 id)
  · refine J_iconst 22 1 rfl dX10_leastOilAfterByGiving_21 ic_1 ?_
    refine J_goto 26 (by decide) dX10_leastOilAfterByGiving_22 ?_
    refine J_cv (b := bt True) rfl ?_
    refine J_reqElement (hdp := _) 29 rfl dX10_leastOilAfterByGiving_26 lkX10_178 (by exact Nat.le_of_ble_eq_true rfl) (by omega) (by omega) (by omega) (fun c26 => absurd trivial c26) (fun c26 => ?_)
    refine J_aload_n 30 rfl dX10_leastOilAfterByGiving_29 rfl ?_
    refine g_X10_trial 33 rfl dX10_leastOilAfterByGiving_30 lkX10_16 ?_
    refine J_aload_n 34 rfl dX10_leastOilAfterByGiving_33 rfl ?_
    refine g_X10_house 37 rfl dX10_leastOilAfterByGiving_34 lkX10_10 ?_
    refine J_callVvp (As := [_]) 40 _ rfl kalX3_become lkX10_184 dX10_leastOilAfterByGiving_37 (lt_X3 (by first | assumption | exact isH_1 | exact isH_31 | exact isH_61 | exact isH_p (by omega) | exact isH_E (by assumption) (by omega) | exact isH_R (by assumption) | exact isH_K (by assumption) | exact isH_E isH_1 (by omega) | exact isH_R isH_1 | exact isH_K isH_1 | exact isH_R isH_31 | exact isH_K isH_31 | exact isH_E isH_31 (by omega))) (so_X3 (by first | assumption | exact isH_1 | exact isH_31 | exact isH_61 | exact isH_p (by omega) | exact isH_E (by assumption) (by omega) | exact isH_R (by assumption) | exact isH_K (by assumption) | exact isH_E isH_1 (by omega) | exact isH_R isH_1 | exact isH_K isH_1 | exact isH_R isH_31 | exact isH_K isH_31 | exact isH_E isH_31 (by omega))) rfl rfl rfl (by exact Nat.le_of_ble_eq_true rfl) (by omega) (S_X3_become isH_31 isH_1 (by omega) hc hw) (fun J37 q37 => ?_)
    refine J_aload_n 41 rfl dX10_leastOilAfterByGiving_40 rfl ?_
    refine g_X10_trial 44 rfl dX10_leastOilAfterByGiving_41 lkX10_16 ?_
    refine J_iload_n 45 rfl dX10_leastOilAfterByGiving_44 rfl ?_
    refine J_callVvp (As := [_]) 48 _ rfl kalX3_giveToDriest lkX10_187 dX10_leastOilAfterByGiving_45 (lt_X3 (by first | assumption | exact isH_1 | exact isH_31 | exact isH_61 | exact isH_p (by omega) | exact isH_E (by assumption) (by omega) | exact isH_R (by assumption) | exact isH_K (by assumption) | exact isH_E isH_1 (by omega) | exact isH_R isH_1 | exact isH_K isH_1 | exact isH_R isH_31 | exact isH_K isH_31 | exact isH_E isH_31 (by omega))) (so_X3 (by first | assumption | exact isH_1 | exact isH_31 | exact isH_61 | exact isH_p (by omega) | exact isH_E (by assumption) (by omega) | exact isH_R (by assumption) | exact isH_K (by assumption) | exact isH_E isH_1 (by omega) | exact isH_R isH_1 | exact isH_K isH_1 | exact isH_R isH_31 | exact isH_K isH_31 | exact isH_E isH_31 (by omega))) rfl rfl rfl (by exact Nat.le_of_ble_eq_true rfl) (by omega) (S_X3_giveToDriest isH_31 q37.2.1 hw (by omega) (by omega)) (fun J45 q45 => ?_)
    have gw := xGN_WF hw (show 0 < f 0 by omega) u
    have ge := xGN_eq hw (show 0 < f 0 by omega) u
    refine J_aload_n 49 rfl dX10_leastOilAfterByGiving_48 rfl ?_
    refine g_X10_trial 52 rfl dX10_leastOilAfterByGiving_49 lkX10_16 ?_
    refine J_callVi (As := []) 55 _ rfl kalX3_leastOil lkX10_190 dX10_leastOilAfterByGiving_52 (lt_X3 (by first | assumption | exact isH_1 | exact isH_31 | exact isH_61 | exact isH_p (by omega) | exact isH_E (by assumption) (by omega) | exact isH_R (by assumption) | exact isH_K (by assumption) | exact isH_E isH_1 (by omega) | exact isH_R isH_1 | exact isH_K isH_1 | exact isH_R isH_31 | exact isH_K isH_31 | exact isH_E isH_31 (by omega))) (so_X3 (by first | assumption | exact isH_1 | exact isH_31 | exact isH_61 | exact isH_p (by omega) | exact isH_E (by assumption) (by omega) | exact isH_R (by assumption) | exact isH_K (by assumption) | exact isH_E isH_1 (by omega) | exact isH_R isH_1 | exact isH_K isH_1 | exact isH_R isH_31 | exact isH_K isH_31 | exact isH_E isH_31 (by omega))) rfl rfl rfl (by exact Nat.le_of_ble_eq_true rfl) (by omega) (S_X3_leastOil isH_31 q45.2.2 gw.1 (by omega) (by omega)) ?_
    refine J_iret rfl dX10_leastOilAfterByGiving_55 ?_
    exact ⟨by unfold qLo; (repeat' split) <;> omega, by rw [ge.1, lst_congr (cnt_pos hw (by omega)) ge.2.2.2], ⟨fun c hcc => by rw [q45.1 c (by omega), q37.1 c (by omega)], by rw [q45.1 350 (by omega), q37.1 350 (by omega)]⟩⟩

theorem S_X10_allOil {g : Gn} {J : DJ} {n B : Nat} {fs : Nat → Nat → Nat} {f s : Nat → Nat} (h : CI J f n fs s B) : SJ g mX10_allOil 16 0 0 [.ref (g.2 0)] J (QF 0 (f 2 + allOil f) (fun J2 => Sc J J2)) NoX := by
  obtain ⟨hc, hw, hp, hsn, h350, hB⟩ := h
  have h0 := hw.1
  have h2 := hw.2.1
  have h3 := hw.2.2.1
  have h4 := hw.2.2.2.2.1.1
  have hr := hw.2.2.2.2.1
  have h6 := hw.2.2.2.1.1
  have s0 := hc.1.1.1
  have s3 := hc.1.1.2.1
  have s2 := hc.1.1.2.2.1
  have s1 := hc.1.1.2.2.2.1
  have s5 := hc.1.1.2.2.2.2
  have h5 := hw.2.2.2.2.2.2.2.2.2
  have hEn := hw.2.2.2.2.2.1
  have hCE := hc.1.2.2.2.2
  have hb := hw.2.2.2.2.2.2.2.2.1
  have hmo := hw.2.2.2.2.2.2.2.1
  have hv : ∀ m, m < 6 → J (1 + 2) m = fvig f m ∧ fvig f m < 256 := fun m hm => ⟨hc.1.2.1 m hm, (hmo m hm).1⟩
  have s4 : J (1 + 3) 3 = f 4 := hc.1.2.2.1.1
  have s7 : J (1 + 7) 2 = f 6 := hc.1.2.2.2.1.1
  have hh := hw.2.2.2.1
  refine SJ_of_VJ (by decide +kernel) (Nat.le_of_ble_eq_true rfl) ?_
  show VJ g mX10_allOil 16 0 0 _ _ 0 [(0, .ref (g.2 0))] [] J
  refine J_aload_n 1 rfl dX10_allOil_0 rfl ?_
  refine g_X10_house 4 rfl dX10_allOil_1 lkX10_10 ?_
  refine g_X3_store 7 (by first | assumption | exact isH_1 | exact isH_31 | exact isH_61 | exact isH_p (by omega) | exact isH_E (by assumption) (by omega) | exact isH_R (by assumption) | exact isH_K (by assumption) | exact isH_E isH_1 (by omega) | exact isH_R isH_1 | exact isH_K isH_1 | exact isH_R isH_31 | exact isH_K isH_31 | exact isH_E isH_31 (by omega)) rfl dX10_allOil_4 lkX10_205 ?_
  refine J_aload_n 8 rfl dX10_allOil_7 rfl ?_
  refine g_X10_house 11 rfl dX10_allOil_8 lkX10_10 ?_
  refine J_callVi (As := []) 14 _ rfl kalX3_oilInCylinders lkX10_208 dX10_allOil_11 (lt_X3 (by first | assumption | exact isH_1 | exact isH_31 | exact isH_61 | exact isH_p (by omega) | exact isH_E (by assumption) (by omega) | exact isH_R (by assumption) | exact isH_K (by assumption) | exact isH_E isH_1 (by omega) | exact isH_R isH_1 | exact isH_K isH_1 | exact isH_R isH_31 | exact isH_K isH_31 | exact isH_E isH_31 (by omega))) (so_X3 (by first | assumption | exact isH_1 | exact isH_31 | exact isH_61 | exact isH_p (by omega) | exact isH_E (by assumption) (by omega) | exact isH_R (by assumption) | exact isH_K (by assumption) | exact isH_E isH_1 (by omega) | exact isH_R isH_1 | exact isH_K isH_1 | exact isH_R isH_31 | exact isH_K isH_31 | exact isH_E isH_31 (by omega))) rfl rfl rfl (by exact Nat.le_of_ble_eq_true rfl) (by omega) (S_X3_oilInCylinders isH_1 hc.1 hw) ?_
  refine J_iadd 15 rfl dX10_allOil_14 ?_
  refine J_iret rfl dX10_allOil_15 ?_
  exact ⟨rfl, by rw [s2], Sc.refl⟩

theorem S_X10_allOilByAccounts {g : Gn} {J : DJ} {n B : Nat} {fs : Nat → Nat → Nat} {f s : Nat → Nat} (h : CI J f n fs s B) : SJ g mX10_allOilByAccounts 16 0 0 [.ref (g.2 0)] J (QF 0 (f 2 + allOil f) (fun J2 => Sc J J2)) NoX := by
  obtain ⟨hc, hw, hp, hsn, h350, hB⟩ := h
  have h0 := hw.1
  have h2 := hw.2.1
  have h3 := hw.2.2.1
  have h4 := hw.2.2.2.2.1.1
  have hr := hw.2.2.2.2.1
  have h6 := hw.2.2.2.1.1
  have s0 := hc.1.1.1
  have s3 := hc.1.1.2.1
  have s2 := hc.1.1.2.2.1
  have s1 := hc.1.1.2.2.2.1
  have s5 := hc.1.1.2.2.2.2
  have h5 := hw.2.2.2.2.2.2.2.2.2
  have hEn := hw.2.2.2.2.2.1
  have hCE := hc.1.2.2.2.2
  have hb := hw.2.2.2.2.2.2.2.2.1
  have hmo := hw.2.2.2.2.2.2.2.1
  have hv : ∀ m, m < 6 → J (1 + 2) m = fvig f m ∧ fvig f m < 256 := fun m hm => ⟨hc.1.2.1 m hm, (hmo m hm).1⟩
  have s4 : J (1 + 3) 3 = f 4 := hc.1.2.2.1.1
  have s7 : J (1 + 7) 2 = f 6 := hc.1.2.2.2.1.1
  have hh := hw.2.2.2.1
  have ac := hc.2.1
  refine SJ_of_VJ (by decide +kernel) (Nat.le_of_ble_eq_true rfl) ?_
  show VJ g mX10_allOilByAccounts 16 0 0 _ _ 0 [(0, .ref (g.2 0))] [] J
  refine J_aload_n 1 rfl dX10_allOilByAccounts_0 rfl ?_
  refine g_X10_house 4 rfl dX10_allOilByAccounts_1 lkX10_10 ?_
  refine g_X3_initialOil 7 (by first | assumption | exact isH_1 | exact isH_31 | exact isH_61 | exact isH_p (by omega) | exact isH_E (by assumption) (by omega) | exact isH_R (by assumption) | exact isH_K (by assumption) | exact isH_E isH_1 (by omega) | exact isH_R isH_1 | exact isH_K isH_1 | exact isH_R isH_31 | exact isH_K isH_31 | exact isH_E isH_31 (by omega)) rfl dX10_allOilByAccounts_4 lkX10_211 ?_
  refine J_aload_n 8 rfl dX10_allOilByAccounts_7 rfl ?_
  refine g_X10_house 11 rfl dX10_allOilByAccounts_8 lkX10_10 ?_
  refine g_X3_boughtOil 14 (by first | assumption | exact isH_1 | exact isH_31 | exact isH_61 | exact isH_p (by omega) | exact isH_E (by assumption) (by omega) | exact isH_R (by assumption) | exact isH_K (by assumption) | exact isH_E isH_1 (by omega) | exact isH_R isH_1 | exact isH_K isH_1 | exact isH_R isH_31 | exact isH_K isH_31 | exact isH_E isH_31 (by omega)) rfl dX10_allOilByAccounts_11 lkX10_214 ?_
  refine J_iadd 15 rfl dX10_allOilByAccounts_14 ?_
  refine J_aload_n 16 rfl dX10_allOilByAccounts_15 rfl ?_
  refine g_X10_house 19 rfl dX10_allOilByAccounts_16 lkX10_10 ?_
  refine g_X3_burnedOil 22 (by first | assumption | exact isH_1 | exact isH_31 | exact isH_61 | exact isH_p (by omega) | exact isH_E (by assumption) (by omega) | exact isH_R (by assumption) | exact isH_K (by assumption) | exact isH_E isH_1 (by omega) | exact isH_R isH_1 | exact isH_K isH_1 | exact isH_R isH_31 | exact isH_K isH_31 | exact isH_E isH_31 (by omega)) rfl dX10_allOilByAccounts_19 lkX10_217 ?_
  refine J_isub 23 rfl dX10_allOilByAccounts_22 (by omega) ?_
  refine J_iret rfl dX10_allOilByAccounts_23 ?_
  exact ⟨rfl, by rw [show J 1 7 + J 1 8 - J 1 9 = f 2 + allOil f by omega], Sc.refl⟩

theorem S_X10_knockCount {g : Gn} {J : DJ} {n B e : Nat} {fs : Nat → Nat → Nat} {f s : Nat → Nat} (h : CI J f n fs s B) (h_e : e < 4294967296) : SJ g mX10_knockCount 16 1 6 [.ref (g.2 0), .int (nI (e))] J (QF (qE f e) (f (7 + 52 * e + 3)) (fun J2 => Sc J J2)) (XF (qE f e) J) := by
  obtain ⟨hc, hw, hp, hsn, h350, hB⟩ := h
  have h0 := hw.1
  have h2 := hw.2.1
  have h3 := hw.2.2.1
  have h4 := hw.2.2.2.2.1.1
  have hr := hw.2.2.2.2.1
  have h6 := hw.2.2.2.1.1
  have s0 := hc.1.1.1
  have s3 := hc.1.1.2.1
  have s2 := hc.1.1.2.2.1
  have s1 := hc.1.1.2.2.2.1
  have s5 := hc.1.1.2.2.2.2
  have h5 := hw.2.2.2.2.2.2.2.2.2
  have hEn := hw.2.2.2.2.2.1
  have hCE := hc.1.2.2.2.2
  have hb := hw.2.2.2.2.2.2.2.2.1
  have hmo := hw.2.2.2.2.2.2.2.1
  have hv : ∀ m, m < 6 → J (1 + 2) m = fvig f m ∧ fvig f m < 256 := fun m hm => ⟨hc.1.2.1 m hm, (hmo m hm).1⟩
  have s4 : J (1 + 3) 3 = f 4 := hc.1.2.2.1.1
  have s7 : J (1 + 7) 2 = f 6 := hc.1.2.2.2.1.1
  have hh := hw.2.2.2.1
  refine SJ_of_VJ (by decide +kernel) (Nat.le_of_ble_eq_true rfl) ?_
  show VJ g mX10_knockCount 16 1 6 _ _ 0 [(0, .ref (g.2 0)), (1, .int (nI (e)))] [] J
  refine J_aload_n 1 rfl dX10_knockCount_0 rfl ?_
  refine J_iload_n 2 rfl dX10_knockCount_1 rfl ?_
  refine J_existing 5 rfl dX10_knockCount_2 lkX10_113 (by exact Nat.le_of_ble_eq_true rfl) (by omega) (by omega) (by omega) h_e s0 h0 (fun c2 => ⟨by unfold qE; (repeat' split) <;> omega, by unfold qE; (repeat' split) <;> first | rfl | (exfalso; omega), Sc.refl⟩) (fun c2 => ?_)
  have hE := hCE e c2
  have hO := hEn e c2
  have hO8 := hO.2.1
  refine g_X1_knocksKept 8 (by first | assumption | exact isH_1 | exact isH_31 | exact isH_61 | exact isH_p (by omega) | exact isH_E (by assumption) (by omega) | exact isH_R (by assumption) | exact isH_K (by assumption) | exact isH_E isH_1 (by omega) | exact isH_R isH_1 | exact isH_K isH_1 | exact isH_R isH_31 | exact isH_K isH_31 | exact isH_E isH_31 (by omega)) rfl dX10_knockCount_5 lkX10_220 ?_
  refine J_iret rfl dX10_knockCount_8 ?_
  exact ⟨by unfold qE; (repeat' split) <;> omega, by rw [hE.2.2.2.1], Sc.refl⟩

theorem S_X10_knockAt {g : Gn} {J : DJ} {n B e p : Nat} {fs : Nat → Nat → Nat} {f s : Nat → Nat} (h : CI J f n fs s B) (h_e : e < 4294967296) (h_p : p < 4294967296) : SJ g mX10_knockAt 16 1 6 [.ref (g.2 0), .int (nI (e)), .int (nI (p))] J (QF (qKa f e p) (f (7 + 52 * e + 28 + p)) (fun J2 => Sc J J2)) (XF (qKa f e p) J) := by
  obtain ⟨hc, hw, hp, hsn, h350, hB⟩ := h
  have h0 := hw.1
  have h2 := hw.2.1
  have h3 := hw.2.2.1
  have h4 := hw.2.2.2.2.1.1
  have hr := hw.2.2.2.2.1
  have h6 := hw.2.2.2.1.1
  have s0 := hc.1.1.1
  have s3 := hc.1.1.2.1
  have s2 := hc.1.1.2.2.1
  have s1 := hc.1.1.2.2.2.1
  have s5 := hc.1.1.2.2.2.2
  have h5 := hw.2.2.2.2.2.2.2.2.2
  have hEn := hw.2.2.2.2.2.1
  have hCE := hc.1.2.2.2.2
  have hb := hw.2.2.2.2.2.2.2.2.1
  have hmo := hw.2.2.2.2.2.2.2.1
  have hv : ∀ m, m < 6 → J (1 + 2) m = fvig f m ∧ fvig f m < 256 := fun m hm => ⟨hc.1.2.1 m hm, (hmo m hm).1⟩
  have s4 : J (1 + 3) 3 = f 4 := hc.1.2.2.1.1
  have s7 : J (1 + 7) 2 = f 6 := hc.1.2.2.2.1.1
  have hh := hw.2.2.2.1
  refine SJ_of_VJ (by decide +kernel) (Nat.le_of_ble_eq_true rfl) ?_
  show VJ g mX10_knockAt 16 1 6 _ _ 0 [(0, .ref (g.2 0)), (1, .int (nI (e))), (2, .int (nI (p)))] [] J
  refine J_aload_n 1 rfl dX10_knockAt_0 rfl ?_
  refine J_iload_n 2 rfl dX10_knockAt_1 rfl ?_
  refine J_existing 5 rfl dX10_knockAt_2 lkX10_113 (by exact Nat.le_of_ble_eq_true rfl) (by omega) (by omega) (by omega) h_e s0 h0 (fun c2 => ⟨by unfold qKa; (repeat' split) <;> omega, by unfold qKa; (repeat' split) <;> first | rfl | (exfalso; omega), Sc.refl⟩) (fun c2 => ?_)
  have hE := hCE e c2
  have hO := hEn e c2
  have hO8 := hO.2.1
  have hE4 := hE.2.2.2.1
  have hO5 := hO.2.2.2.2.1
  have k10 : f (10 + 52 * e) = f (7 + 52 * e + 3) := by rw [show 10 + 52 * e = 7 + 52 * e + 3 by omega]
  refine J_astore_n 6 rfl dX10_knockAt_5 rfl (Nat.le_of_ble_eq_true rfl) ?_
  refine J_iload_n 7 rfl dX10_knockAt_6 rfl ?_
  refine J_iconst 8 0 rfl dX10_knockAt_7 ic_0 ?_
  refine J_aload_n 9 rfl dX10_knockAt_8 rfl ?_
  refine g_X1_knocksKept 12 (by first | assumption | exact isH_1 | exact isH_31 | exact isH_61 | exact isH_p (by omega) | exact isH_E (by assumption) (by omega) | exact isH_R (by assumption) | exact isH_K (by assumption) | exact isH_E isH_1 (by omega) | exact isH_R isH_1 | exact isH_K isH_1 | exact isH_R isH_31 | exact isH_K isH_31 | exact isH_E isH_31 (by omega)) rfl dX10_knockAt_9 lkX10_220 ?_
  refine J_cv (b := f (7 + 52 * e + 3)) hE4 ?_
  refine J_iconst 13 1 rfl dX10_knockAt_12 ic_1 ?_
  refine J_isubR 14 rfl dX10_knockAt_13 ?_
  refine J_callSi (As := [_, _, _]) 17 rfl kalX10_isWithin lkX10_131 dX10_knockAt_14 rfl rfl (by exact Nat.le_of_ble_eq_true rfl) (by omega) (S_within_lt h_p (by omega) (by omega)) ?_
  refine J_reqElement (hdp := _) 20 rfl dX10_knockAt_17 lkX10_178 (by exact Nat.le_of_ble_eq_true rfl) (by omega) (by omega) (by omega) (fun c17 => ⟨by unfold qKa; (repeat' split) <;> omega, by unfold qKa; (repeat' split) <;> first | rfl | (exfalso; omega), Sc.refl⟩) (fun c17 => ?_)
  refine J_aload_n 21 rfl dX10_knockAt_20 rfl ?_
  refine J_iload_n 22 rfl dX10_knockAt_21 rfl ?_
  refine J_callVi (As := [_]) 25 _ rfl kalX1_keptKnock lkX10_223 dX10_knockAt_22 (lt_X1 (by first | assumption | exact isH_1 | exact isH_31 | exact isH_61 | exact isH_p (by omega) | exact isH_E (by assumption) (by omega) | exact isH_R (by assumption) | exact isH_K (by assumption) | exact isH_E isH_1 (by omega) | exact isH_R isH_1 | exact isH_K isH_1 | exact isH_R isH_31 | exact isH_K isH_31 | exact isH_E isH_31 (by omega))) (so_X1 (by first | assumption | exact isH_1 | exact isH_31 | exact isH_61 | exact isH_p (by omega) | exact isH_E (by assumption) (by omega) | exact isH_R (by assumption) | exact isH_K (by assumption) | exact isH_E isH_1 (by omega) | exact isH_R isH_1 | exact isH_K isH_1 | exact isH_R isH_31 | exact isH_K isH_31 | exact isH_E isH_31 (by omega))) rfl rfl rfl (by exact Nat.le_of_ble_eq_true rfl) (by omega) (S_X1_keptKnock (isH_E isH_1 (by omega)) hE.2.2.2.2.1 (by omega)) ?_
  refine J_iret rfl dX10_knockAt_25 ?_
  exact ⟨by unfold qKa; (repeat' split) <;> omega, by rw [hE.2.2.2.2.2.2 p (by omega)], Sc.refl⟩

theorem S_X10_knockPeriod {g : Gn} {J : DJ} {n B e : Nat} {fs : Nat → Nat → Nat} {f s : Nat → Nat} (h : CI J f n fs s B) (h_e : e < 4294967296) : SJ g mX10_knockPeriod 16 1 6 [.ref (g.2 0), .int (nI (e))] J (QN (qKp f e) (fun r J2 => perP (fkno f e) (f (7 + 52 * e + 3)) r ∧ Sc J J2)) (XF (qKp f e) J) := by
  obtain ⟨hc, hw, hp, hsn, h350, hB⟩ := h
  have h0 := hw.1
  have h2 := hw.2.1
  have h3 := hw.2.2.1
  have h4 := hw.2.2.2.2.1.1
  have hr := hw.2.2.2.2.1
  have h6 := hw.2.2.2.1.1
  have s0 := hc.1.1.1
  have s3 := hc.1.1.2.1
  have s2 := hc.1.1.2.2.1
  have s1 := hc.1.1.2.2.2.1
  have s5 := hc.1.1.2.2.2.2
  have h5 := hw.2.2.2.2.2.2.2.2.2
  have hEn := hw.2.2.2.2.2.1
  have hCE := hc.1.2.2.2.2
  have hb := hw.2.2.2.2.2.2.2.2.1
  have hmo := hw.2.2.2.2.2.2.2.1
  have hv : ∀ m, m < 6 → J (1 + 2) m = fvig f m ∧ fvig f m < 256 := fun m hm => ⟨hc.1.2.1 m hm, (hmo m hm).1⟩
  have s4 : J (1 + 3) 3 = f 4 := hc.1.2.2.1.1
  have s7 : J (1 + 7) 2 = f 6 := hc.1.2.2.2.1.1
  have hh := hw.2.2.2.1
  refine SJ_of_VJ (by decide +kernel) (Nat.le_of_ble_eq_true rfl) ?_
  show VJ g mX10_knockPeriod 16 1 6 _ _ 0 [(0, .ref (g.2 0)), (1, .int (nI (e)))] [] J
  refine J_aload_n 1 rfl dX10_knockPeriod_0 rfl ?_
  refine J_iload_n 2 rfl dX10_knockPeriod_1 rfl ?_
  refine J_existing 5 rfl dX10_knockPeriod_2 lkX10_113 (by exact Nat.le_of_ble_eq_true rfl) (by omega) (by omega) (by omega) h_e s0 h0 (fun c2 => ⟨by unfold qKp; (repeat' split) <;> omega, by unfold qKp; (repeat' split) <;> first | rfl | (exfalso; omega), Sc.refl⟩) (fun c2 => ?_)
  have hE := hCE e c2
  have hO := hEn e c2
  have hO8 := hO.2.1
  have hE4 := hE.2.2.2.1
  have hO5 := hO.2.2.2.2.1
  have k10 : f (10 + 52 * e) = f (7 + 52 * e + 3) := by rw [show 10 + 52 * e = 7 + 52 * e + 3 by omega]
  have hE5 := hE.2.2.2.2.1
  have hkw : ∀ i, i < J (1 + 10 + 5 * e) 5 → knk J (1 + 10 + 5 * e) i < 1000 := fun i hi => by
    rw [hE4] at hi
    have := hO.2.2.2.2.2.2.2 i hi
    unfold knk
    rw [hE.2.2.2.2.2.2 i hi]
    omega
  have hkk : ∀ i, i < f (7 + 52 * e + 3) → knk J (1 + 10 + 5 * e) i = fkno f e i := fun i hi => by
    unfold knk fkno
    rw [hE.2.2.2.2.2.2 i hi, show 7 + 52 * e + 28 + i = 35 + 52 * e + i by omega]
  refine J_astore_n 6 rfl dX10_knockPeriod_5 rfl (Nat.le_of_ble_eq_true rfl) ?_
  refine J_aload_n 7 rfl dX10_knockPeriod_6 rfl ?_
  refine g_X1_knocksKept 10 (by first | assumption | exact isH_1 | exact isH_31 | exact isH_61 | exact isH_p (by omega) | exact isH_E (by assumption) (by omega) | exact isH_R (by assumption) | exact isH_K (by assumption) | exact isH_E isH_1 (by omega) | exact isH_R isH_1 | exact isH_K isH_1 | exact isH_R isH_31 | exact isH_K isH_31 | exact isH_E isH_31 (by omega)) rfl dX10_knockPeriod_7 lkX10_220 ?_
  refine J_cv (b := f (7 + 52 * e + 3)) hE4 ?_
  refine J_if_le 17 13 (by decide) rfl dX10_knockPeriod_10 (by omega) (fun c10 => ?_) (fun c10 => ?_)
  · refine J_iconst 18 0 rfl dX10_knockPeriod_17 ic_0 ?_
    refine J_cv (b := bt False) rfl ?_
    refine J_reqElement (hdp := _) 21 rfl dX10_knockPeriod_18 lkX10_178 (by exact Nat.le_of_ble_eq_true rfl) (by omega) (by omega) (by omega) (fun c18 => ⟨by unfold qKp; (repeat' split) <;> omega, by unfold qKp; (repeat' split) <;> first | rfl | (exfalso; omega), Sc.refl⟩) (fun c18 => absurd c18 id)
  · refine J_iconst 14 1 rfl dX10_knockPeriod_13 ic_1 ?_
    refine J_goto 18 (by decide) dX10_knockPeriod_14 ?_
    refine J_cv (b := bt True) rfl ?_
    refine J_reqElement (hdp := _) 21 rfl dX10_knockPeriod_18 lkX10_178 (by exact Nat.le_of_ble_eq_true rfl) (by omega) (by omega) (by omega) (fun c18 => absurd trivial c18) (fun c18 => ?_)
    refine J_aload_n 22 rfl dX10_knockPeriod_21 rfl ?_
    refine J_aload_n 23 rfl dX10_knockPeriod_22 rfl ?_
    refine g_X10_borders 26 rfl dX10_knockPeriod_23 lkX10_64 ?_
    refine J_callVie (As := [_]) 29 _ rfl kalX1_periodByBorders lkX10_226 dX10_knockPeriod_26 (lt_X1 (by first | assumption | exact isH_1 | exact isH_31 | exact isH_61 | exact isH_p (by omega) | exact isH_E (by assumption) (by omega) | exact isH_R (by assumption) | exact isH_K (by assumption) | exact isH_E isH_1 (by omega) | exact isH_R isH_1 | exact isH_K isH_1 | exact isH_R isH_31 | exact isH_K isH_31 | exact isH_E isH_31 (by omega))) (so_X1 (by first | assumption | exact isH_1 | exact isH_31 | exact isH_61 | exact isH_p (by omega) | exact isH_E (by assumption) (by omega) | exact isH_R (by assumption) | exact isH_K (by assumption) | exact isH_E isH_1 (by omega) | exact isH_R isH_1 | exact isH_K isH_1 | exact isH_R isH_31 | exact isH_K isH_31 | exact isH_E isH_31 (by omega))) rfl rfl rfl (by exact Nat.le_of_ble_eq_true rfl) (by omega) (S_X1_periodByBorders (isH_E isH_1 (by omega)) hE5 (by omega) hkw (by omega) h350) (fun r26 J26 q26 => ?_)
    refine J_iret rfl dX10_knockPeriod_29 ?_
    rw [hE4] at q26
    obtain ⟨q1, R, rfl, q3⟩ := q26
    exact ⟨by unfold qKp; (repeat' split) <;> omega, r26, rfl, perP_congr hkk q1, ⟨fun c hcc => sR_ne (by omega), by rw [sR_at]; exact q3.trans h350.symm⟩⟩

theorem S_X10_knockPeriodByTrying {g : Gn} {J : DJ} {n B e : Nat} {fs : Nat → Nat → Nat} {f s : Nat → Nat} (h : CI J f n fs s B) (h_e : e < 4294967296) : SJ g mX10_knockPeriodByTrying 16 1 6 [.ref (g.2 0), .int (nI (e))] J (QN (qKp f e) (fun r J2 => perP (fkno f e) (f (7 + 52 * e + 3)) r ∧ Sc J J2)) (XF (qKp f e) J) := by
  obtain ⟨hc, hw, hp, hsn, h350, hB⟩ := h
  have h0 := hw.1
  have h2 := hw.2.1
  have h3 := hw.2.2.1
  have h4 := hw.2.2.2.2.1.1
  have hr := hw.2.2.2.2.1
  have h6 := hw.2.2.2.1.1
  have s0 := hc.1.1.1
  have s3 := hc.1.1.2.1
  have s2 := hc.1.1.2.2.1
  have s1 := hc.1.1.2.2.2.1
  have s5 := hc.1.1.2.2.2.2
  have h5 := hw.2.2.2.2.2.2.2.2.2
  have hEn := hw.2.2.2.2.2.1
  have hCE := hc.1.2.2.2.2
  have hb := hw.2.2.2.2.2.2.2.2.1
  have hmo := hw.2.2.2.2.2.2.2.1
  have hv : ∀ m, m < 6 → J (1 + 2) m = fvig f m ∧ fvig f m < 256 := fun m hm => ⟨hc.1.2.1 m hm, (hmo m hm).1⟩
  have s4 : J (1 + 3) 3 = f 4 := hc.1.2.2.1.1
  have s7 : J (1 + 7) 2 = f 6 := hc.1.2.2.2.1.1
  have hh := hw.2.2.2.1
  refine SJ_of_VJ (by decide +kernel) (Nat.le_of_ble_eq_true rfl) ?_
  show VJ g mX10_knockPeriodByTrying 16 1 6 _ _ 0 [(0, .ref (g.2 0)), (1, .int (nI (e)))] [] J
  refine J_aload_n 1 rfl dX10_knockPeriodByTrying_0 rfl ?_
  refine J_iload_n 2 rfl dX10_knockPeriodByTrying_1 rfl ?_
  refine J_existing 5 rfl dX10_knockPeriodByTrying_2 lkX10_113 (by exact Nat.le_of_ble_eq_true rfl) (by omega) (by omega) (by omega) h_e s0 h0 (fun c2 => ⟨by unfold qKp; (repeat' split) <;> omega, by unfold qKp; (repeat' split) <;> first | rfl | (exfalso; omega), Sc.refl⟩) (fun c2 => ?_)
  have hE := hCE e c2
  have hO := hEn e c2
  have hO8 := hO.2.1
  have hE4 := hE.2.2.2.1
  have hO5 := hO.2.2.2.2.1
  have k10 : f (10 + 52 * e) = f (7 + 52 * e + 3) := by rw [show 10 + 52 * e = 7 + 52 * e + 3 by omega]
  have hE5 := hE.2.2.2.2.1
  have hkw : ∀ i, i < J (1 + 10 + 5 * e) 5 → knk J (1 + 10 + 5 * e) i < 1000 := fun i hi => by
    rw [hE4] at hi
    have := hO.2.2.2.2.2.2.2 i hi
    unfold knk
    rw [hE.2.2.2.2.2.2 i hi]
    omega
  have hkk : ∀ i, i < f (7 + 52 * e + 3) → knk J (1 + 10 + 5 * e) i = fkno f e i := fun i hi => by
    unfold knk fkno
    rw [hE.2.2.2.2.2.2 i hi, show 7 + 52 * e + 28 + i = 35 + 52 * e + i by omega]
  refine J_astore_n 6 rfl dX10_knockPeriodByTrying_5 rfl (Nat.le_of_ble_eq_true rfl) ?_
  refine J_aload_n 7 rfl dX10_knockPeriodByTrying_6 rfl ?_
  refine g_X1_knocksKept 10 (by first | assumption | exact isH_1 | exact isH_31 | exact isH_61 | exact isH_p (by omega) | exact isH_E (by assumption) (by omega) | exact isH_R (by assumption) | exact isH_K (by assumption) | exact isH_E isH_1 (by omega) | exact isH_R isH_1 | exact isH_K isH_1 | exact isH_R isH_31 | exact isH_K isH_31 | exact isH_E isH_31 (by omega)) rfl dX10_knockPeriodByTrying_7 lkX10_220 ?_
  refine J_cv (b := f (7 + 52 * e + 3)) hE4 ?_
  refine J_if_le 17 13 (by decide) rfl dX10_knockPeriodByTrying_10 (by omega) (fun c10 => ?_) (fun c10 => ?_)
  · refine J_iconst 18 0 rfl dX10_knockPeriodByTrying_17 ic_0 ?_
    refine J_cv (b := bt False) rfl ?_
    refine J_reqElement (hdp := _) 21 rfl dX10_knockPeriodByTrying_18 lkX10_178 (by exact Nat.le_of_ble_eq_true rfl) (by omega) (by omega) (by omega) (fun c18 => ⟨by unfold qKp; (repeat' split) <;> omega, by unfold qKp; (repeat' split) <;> first | rfl | (exfalso; omega), Sc.refl⟩) (fun c18 => absurd c18 id)
  · refine J_iconst 14 1 rfl dX10_knockPeriodByTrying_13 ic_1 ?_
    refine J_goto 18 (by decide) dX10_knockPeriodByTrying_14 ?_
    refine J_cv (b := bt True) rfl ?_
    refine J_reqElement (hdp := _) 21 rfl dX10_knockPeriodByTrying_18 lkX10_178 (by exact Nat.le_of_ble_eq_true rfl) (by omega) (by omega) (by omega) (fun c18 => absurd trivial c18) (fun c18 => ?_)
    refine J_aload_n 22 rfl dX10_knockPeriodByTrying_21 rfl ?_
    refine J_callVin (As := []) 25 _ rfl kalX1_periodByTrials lkX10_230 dX10_knockPeriodByTrying_22 (lt_X1 (by first | assumption | exact isH_1 | exact isH_31 | exact isH_61 | exact isH_p (by omega) | exact isH_E (by assumption) (by omega) | exact isH_R (by assumption) | exact isH_K (by assumption) | exact isH_E isH_1 (by omega) | exact isH_R isH_1 | exact isH_K isH_1 | exact isH_R isH_31 | exact isH_K isH_31 | exact isH_E isH_31 (by omega))) (so_X1 (by first | assumption | exact isH_1 | exact isH_31 | exact isH_61 | exact isH_p (by omega) | exact isH_E (by assumption) (by omega) | exact isH_R (by assumption) | exact isH_K (by assumption) | exact isH_E isH_1 (by omega) | exact isH_R isH_1 | exact isH_K isH_1 | exact isH_R isH_31 | exact isH_K isH_31 | exact isH_E isH_31 (by omega))) rfl rfl rfl (by exact Nat.le_of_ble_eq_true rfl) (by omega) (S_X1_periodByTrials (isH_E isH_1 (by omega)) hE5 (by omega) hkw (by omega)) (fun r22 q22 => ?_)
    refine J_iret rfl dX10_knockPeriodByTrying_25 ?_
    rw [hE4] at q22
    exact ⟨by unfold qKp; (repeat' split) <;> omega, r22, rfl, perP_congr hkk q22, Sc.refl⟩

theorem S_X10_engineAtRank {g : Gn} {J : DJ} {n B r : Nat} {fs : Nat → Nat → Nat} {f s : Nat → Nat} (h : CI J f n fs s B) (h_r : r < 4294967296) : SJ g mX10_engineAtRank 16 1 6 [.ref (g.2 0), .int (nI (r))] J (QN (qRk f r) (fun res J2 => ((res < f 0 ∧ bef f res = r ∧ ∀ a, a < res → bef f a ≠ r) ∨ (res = 4294967295 ∧ ∀ a, a < f 0 → bef f a ≠ r)) ∧ Sc J J2)) (XF (qRk f r) J) := by
  obtain ⟨hc, hw, hp, hsn, h350, hB⟩ := h
  have h0 := hw.1
  have h2 := hw.2.1
  have h3 := hw.2.2.1
  have h4 := hw.2.2.2.2.1.1
  have hr := hw.2.2.2.2.1
  have h6 := hw.2.2.2.1.1
  have s0 := hc.1.1.1
  have s3 := hc.1.1.2.1
  have s2 := hc.1.1.2.2.1
  have s1 := hc.1.1.2.2.2.1
  have s5 := hc.1.1.2.2.2.2
  have h5 := hw.2.2.2.2.2.2.2.2.2
  have hEn := hw.2.2.2.2.2.1
  have hCE := hc.1.2.2.2.2
  have hb := hw.2.2.2.2.2.2.2.2.1
  have hmo := hw.2.2.2.2.2.2.2.1
  have hv : ∀ m, m < 6 → J (1 + 2) m = fvig f m ∧ fvig f m < 256 := fun m hm => ⟨hc.1.2.1 m hm, (hmo m hm).1⟩
  have s4 : J (1 + 3) 3 = f 4 := hc.1.2.2.1.1
  have s7 : J (1 + 7) 2 = f 6 := hc.1.2.2.2.1.1
  have hh := hw.2.2.2.1
  refine SJ_of_VJ (by decide +kernel) (Nat.le_of_ble_eq_true rfl) ?_
  show VJ g mX10_engineAtRank 16 1 6 _ _ 0 [(0, .ref (g.2 0)), (1, .int (nI (r)))] [] J
  refine J_iload_n 1 rfl dX10_engineAtRank_0 rfl ?_
  refine J_iconst 2 0 rfl dX10_engineAtRank_1 ic_0 ?_
  refine J_aload_n 3 rfl dX10_engineAtRank_2 rfl ?_
  refine g_X10_house 6 rfl dX10_engineAtRank_3 lkX10_10 ?_
  refine g_X3_engineCount 9 (by first | assumption | exact isH_1 | exact isH_31 | exact isH_61 | exact isH_p (by omega) | exact isH_E (by assumption) (by omega) | exact isH_R (by assumption) | exact isH_K (by assumption) | exact isH_E isH_1 (by omega) | exact isH_R isH_1 | exact isH_K isH_1 | exact isH_R isH_31 | exact isH_K isH_31 | exact isH_E isH_31 (by omega)) rfl dX10_engineAtRank_6 lkX10_110 ?_
  refine J_cv (b := f 0) s0 ?_
  refine J_iconst 10 1 rfl dX10_engineAtRank_9 ic_1 ?_
  refine J_isubR 11 rfl dX10_engineAtRank_10 ?_
  refine J_callSi (As := [_, _, _]) 14 rfl kalX10_isWithin lkX10_131 dX10_engineAtRank_11 rfl rfl (by exact Nat.le_of_ble_eq_true rfl) (by omega) (S_within_lt h_r (by omega) (by omega)) ?_
  refine J_reqElement (hdp := _) 17 rfl dX10_engineAtRank_14 lkX10_178 (by exact Nat.le_of_ble_eq_true rfl) (by omega) (by omega) (by omega) (fun c14 => ⟨by unfold qRk; (repeat' split) <;> omega, by unfold qRk; (repeat' split) <;> first | rfl | (exfalso; omega), Sc.refl⟩) (fun c14 => ?_)
  refine J_aload_n 18 rfl dX10_engineAtRank_17 rfl ?_
  refine g_X10_house 21 rfl dX10_engineAtRank_18 lkX10_10 ?_
  refine J_iload_n 22 rfl dX10_engineAtRank_21 rfl ?_
  refine J_callVin (As := [_]) 25 _ rfl kalX3_engineOfRank lkX10_233 dX10_engineAtRank_22 (lt_X3 (by first | assumption | exact isH_1 | exact isH_31 | exact isH_61 | exact isH_p (by omega) | exact isH_E (by assumption) (by omega) | exact isH_R (by assumption) | exact isH_K (by assumption) | exact isH_E isH_1 (by omega) | exact isH_R isH_1 | exact isH_K isH_1 | exact isH_R isH_31 | exact isH_K isH_31 | exact isH_E isH_31 (by omega))) (so_X3 (by first | assumption | exact isH_1 | exact isH_31 | exact isH_61 | exact isH_p (by omega) | exact isH_E (by assumption) (by omega) | exact isH_R (by assumption) | exact isH_K (by assumption) | exact isH_E isH_1 (by omega) | exact isH_R isH_1 | exact isH_K isH_1 | exact isH_R isH_31 | exact isH_K isH_31 | exact isH_E isH_31 (by omega))) rfl rfl rfl (by exact Nat.le_of_ble_eq_true rfl) (by omega) (S_X3_engineOfRank isH_1 hc.1 hw (by omega) h_r) (fun r22 q22 => ?_)
  refine J_iret rfl dX10_engineAtRank_25 ?_
  exact ⟨by unfold qRk; (repeat' split) <;> omega, r22, rfl, q22, Sc.refl⟩

theorem S_X10_mostVigils {g : Gn} {J : DJ} {n B : Nat} {fs : Nat → Nat → Nat} {f s : Nat → Nat} (h : CI J f n fs s B) : SJ g mX10_mostVigils 16 0 0 [.ref (g.2 0)] J (QF 0 (rW (fvig f) 8 0) (fun J2 => Sc J J2)) NoX := by
  obtain ⟨hc, hw, hp, hsn, h350, hB⟩ := h
  have h0 := hw.1
  have h2 := hw.2.1
  have h3 := hw.2.2.1
  have h4 := hw.2.2.2.2.1.1
  have hr := hw.2.2.2.2.1
  have h6 := hw.2.2.2.1.1
  have s0 := hc.1.1.1
  have s3 := hc.1.1.2.1
  have s2 := hc.1.1.2.2.1
  have s1 := hc.1.1.2.2.2.1
  have s5 := hc.1.1.2.2.2.2
  have h5 := hw.2.2.2.2.2.2.2.2.2
  have hEn := hw.2.2.2.2.2.1
  have hCE := hc.1.2.2.2.2
  have hb := hw.2.2.2.2.2.2.2.2.1
  have hmo := hw.2.2.2.2.2.2.2.1
  have hv : ∀ m, m < 6 → J (1 + 2) m = fvig f m ∧ fvig f m < 256 := fun m hm => ⟨hc.1.2.1 m hm, (hmo m hm).1⟩
  have s4 : J (1 + 3) 3 = f 4 := hc.1.2.2.1.1
  have s7 : J (1 + 7) 2 = f 6 := hc.1.2.2.2.1.1
  have hh := hw.2.2.2.1
  refine SJ_of_VJ (by decide +kernel) (Nat.le_of_ble_eq_true rfl) ?_
  show VJ g mX10_mostVigils 16 0 0 _ _ 0 [(0, .ref (g.2 0))] [] J
  refine J_aload_n 1 rfl dX10_mostVigils_0 rfl ?_
  refine g_X10_rota 4 rfl dX10_mostVigils_1 lkX10_39 ?_
  refine J_aload_n 5 rfl dX10_mostVigils_4 rfl ?_
  refine g_X10_house 8 rfl dX10_mostVigils_5 lkX10_10 ?_
  refine g_X3_vigilsOf 11 (by first | assumption | exact isH_1 | exact isH_31 | exact isH_61 | exact isH_p (by omega) | exact isH_E (by assumption) (by omega) | exact isH_R (by assumption) | exact isH_K (by assumption) | exact isH_E isH_1 (by omega) | exact isH_R isH_1 | exact isH_K isH_1 | exact isH_R isH_31 | exact isH_K isH_31 | exact isH_E isH_31 (by omega)) rfl dX10_mostVigils_8 lkX10_249 ?_
  refine J_callVip (As := [_]) 14 _ rfl kalX9_mostByChains lkX10_252 dX10_mostVigils_11 (lt_X9) (so_X9) rfl rfl rfl (by exact Nat.le_of_ble_eq_true rfl) (by omega) (S_X9_mostByChains isH_1 hv) (fun J11 q11 => ?_)
  refine J_iret rfl dX10_mostVigils_14 ?_
  obtain ⟨K, A, rfl⟩ := q11
  exact ⟨rfl, rfl, (Sc.sR (by omega)).trans (Sc.sR (by omega))⟩

theorem S_X10_mostVigilsByTable {g : Gn} {J : DJ} {n B : Nat} {fs : Nat → Nat → Nat} {f s : Nat → Nat} (h : CI J f n fs s B) : SJ g mX10_mostVigilsByTable 16 0 0 [.ref (g.2 0)] J (QF 0 (rW (fvig f) 8 0) (fun J2 => Sc J J2)) NoX := by
  obtain ⟨hc, hw, hp, hsn, h350, hB⟩ := h
  have h0 := hw.1
  have h2 := hw.2.1
  have h3 := hw.2.2.1
  have h4 := hw.2.2.2.2.1.1
  have hr := hw.2.2.2.2.1
  have h6 := hw.2.2.2.1.1
  have s0 := hc.1.1.1
  have s3 := hc.1.1.2.1
  have s2 := hc.1.1.2.2.1
  have s1 := hc.1.1.2.2.2.1
  have s5 := hc.1.1.2.2.2.2
  have h5 := hw.2.2.2.2.2.2.2.2.2
  have hEn := hw.2.2.2.2.2.1
  have hCE := hc.1.2.2.2.2
  have hb := hw.2.2.2.2.2.2.2.2.1
  have hmo := hw.2.2.2.2.2.2.2.1
  have hv : ∀ m, m < 6 → J (1 + 2) m = fvig f m ∧ fvig f m < 256 := fun m hm => ⟨hc.1.2.1 m hm, (hmo m hm).1⟩
  have s4 : J (1 + 3) 3 = f 4 := hc.1.2.2.1.1
  have s7 : J (1 + 7) 2 = f 6 := hc.1.2.2.2.1.1
  have hh := hw.2.2.2.1
  refine SJ_of_VJ (by decide +kernel) (Nat.le_of_ble_eq_true rfl) ?_
  show VJ g mX10_mostVigilsByTable 16 0 0 _ _ 0 [(0, .ref (g.2 0))] [] J
  refine J_aload_n 1 rfl dX10_mostVigilsByTable_0 rfl ?_
  refine g_X10_rota 4 rfl dX10_mostVigilsByTable_1 lkX10_39 ?_
  refine J_aload_n 5 rfl dX10_mostVigilsByTable_4 rfl ?_
  refine g_X10_house 8 rfl dX10_mostVigilsByTable_5 lkX10_10 ?_
  refine g_X3_vigilsOf 11 (by first | assumption | exact isH_1 | exact isH_31 | exact isH_61 | exact isH_p (by omega) | exact isH_E (by assumption) (by omega) | exact isH_R (by assumption) | exact isH_K (by assumption) | exact isH_E isH_1 (by omega) | exact isH_R isH_1 | exact isH_K isH_1 | exact isH_R isH_31 | exact isH_K isH_31 | exact isH_E isH_31 (by omega)) rfl dX10_mostVigilsByTable_8 lkX10_249 ?_
  refine J_callVip (As := [_]) 14 _ rfl kalX9_mostByTable lkX10_255 dX10_mostVigilsByTable_11 (lt_X9) (so_X9) rfl rfl rfl (by exact Nat.le_of_ble_eq_true rfl) (by omega) (S_X9_mostByTable isH_1 hv) (fun J11 q11 => ?_)
  refine J_iret rfl dX10_mostVigilsByTable_14 ?_
  obtain ⟨T, rfl, _⟩ := q11
  exact ⟨rfl, rfl, Sc.sR (by omega)⟩

theorem S_X10_keeperOf {g : Gn} {J : DJ} {n B v : Nat} {fs : Nat → Nat → Nat} {f s : Nat → Nat} (h : CI J f n fs s B) (h_v : v < 4294967296) : SJ g mX10_keeperOf 16 1 6 [.ref (g.2 0), .int (nI (v))] J (QF (qKe f v) (kp (fvig f) v) (fun J2 => Sc J J2)) (XF (qKe f v) J) := by
  obtain ⟨hc, hw, hp, hsn, h350, hB⟩ := h
  have h0 := hw.1
  have h2 := hw.2.1
  have h3 := hw.2.2.1
  have h4 := hw.2.2.2.2.1.1
  have hr := hw.2.2.2.2.1
  have h6 := hw.2.2.2.1.1
  have s0 := hc.1.1.1
  have s3 := hc.1.1.2.1
  have s2 := hc.1.1.2.2.1
  have s1 := hc.1.1.2.2.2.1
  have s5 := hc.1.1.2.2.2.2
  have h5 := hw.2.2.2.2.2.2.2.2.2
  have hEn := hw.2.2.2.2.2.1
  have hCE := hc.1.2.2.2.2
  have hb := hw.2.2.2.2.2.2.2.2.1
  have hmo := hw.2.2.2.2.2.2.2.1
  have hv : ∀ m, m < 6 → J (1 + 2) m = fvig f m ∧ fvig f m < 256 := fun m hm => ⟨hc.1.2.1 m hm, (hmo m hm).1⟩
  have s4 : J (1 + 3) 3 = f 4 := hc.1.2.2.1.1
  have s7 : J (1 + 7) 2 = f 6 := hc.1.2.2.2.1.1
  have hh := hw.2.2.2.1
  refine SJ_of_VJ (by decide +kernel) (Nat.le_of_ble_eq_true rfl) ?_
  show VJ g mX10_keeperOf 16 1 6 _ _ 0 [(0, .ref (g.2 0)), (1, .int (nI (v)))] [] J
  refine J_iload_n 1 rfl dX10_keeperOf_0 rfl ?_
  refine J_iconst 2 0 rfl dX10_keeperOf_1 ic_0 ?_
  refine J_bipush 4 7 rfl dX10_keeperOf_2 bc_7 ?_
  refine J_callSi (As := [_, _, _]) 7 rfl kalX10_isWithin lkX10_131 dX10_keeperOf_4 rfl rfl (by exact Nat.le_of_ble_eq_true rfl) (by omega) (S_within_le h_v (by omega) (by omega)) ?_
  refine J_reqIndex (hdp := _) 10 rfl dX10_keeperOf_7 lkX10_124 (by exact Nat.le_of_ble_eq_true rfl) (by omega) (by omega) (by omega) (fun c7 => ⟨by unfold qKe; rw [if_neg (by omega)]; omega, by unfold qKe; rw [if_neg (by omega)]; rfl, Sc.refl⟩) (fun c7 => ?_)
  refine J_aload_n 11 rfl dX10_keeperOf_10 rfl ?_
  refine g_X10_rota 14 rfl dX10_keeperOf_11 lkX10_39 ?_
  refine J_aload_n 15 rfl dX10_keeperOf_14 rfl ?_
  refine g_X10_house 18 rfl dX10_keeperOf_15 lkX10_10 ?_
  refine g_X3_vigilsOf 21 (by first | assumption | exact isH_1 | exact isH_31 | exact isH_61 | exact isH_p (by omega) | exact isH_E (by assumption) (by omega) | exact isH_R (by assumption) | exact isH_K (by assumption) | exact isH_E isH_1 (by omega) | exact isH_R isH_1 | exact isH_K isH_1 | exact isH_R isH_31 | exact isH_K isH_31 | exact isH_E isH_31 (by omega)) rfl dX10_keeperOf_18 lkX10_249 ?_
  refine J_callVvp (As := [_]) 24 _ rfl kalX9_findBest lkX10_258 dX10_keeperOf_21 (lt_X9) (so_X9) rfl rfl rfl (by exact Nat.le_of_ble_eq_true rfl) (by omega) (S_X9_findBest isH_1 hv) (fun J21 q21 => ?_)
  obtain ⟨T, r, rfl, qr⟩ := q21
  have kv : sR (sR J 337 T) 340 r 340 v = kp (fvig f) v := by rw [sR_at]; exact qr v (by omega)
  have kl := kp_lt (fvig f) v
  have sc : Sc J (sR (sR J 337 T) 340 r) := (Sc.sR (by omega)).trans (Sc.sR (by omega))
  refine J_aload_n 25 rfl dX10_keeperOf_24 rfl ?_
  refine g_X10_rota 28 rfl dX10_keeperOf_25 lkX10_39 ?_
  refine g_X9_keepers 31 rfl dX10_keeperOf_28 lkX10_262 ?_
  refine J_iload_n 32 rfl dX10_keeperOf_31 rfl ?_
  refine J_iald 33 rfl dX10_keeperOf_32 (sa_X9_keepers) (by omega) ?_
  refine J_cv (b := kp (fvig f) v) kv ?_
  refine J_iconst 34 4294967295 rfl dX10_keeperOf_33 ic_m1 ?_
  refine J_icmp_eq 41 37 (by decide) rfl dX10_keeperOf_34 (by omega) (by omega) (fun c34 => ?_) (fun c34 => ?_)
  · refine J_iconst 42 0 rfl dX10_keeperOf_41 ic_0 ?_
    refine J_cv (b := bt False) rfl ?_
    refine J_reqElement (hdp := _) 45 rfl dX10_keeperOf_42 lkX10_178 (by exact Nat.le_of_ble_eq_true rfl) (by omega) (by omega) (by omega) (fun c42 => ⟨by unfold qKe; rw [if_pos (by omega), if_pos (by omega)]; omega, by unfold qKe; rw [if_pos (by omega), if_pos (by omega)]; rfl, sc⟩) (fun c42 => absurd c42 id)
  · refine J_iconst 38 1 rfl dX10_keeperOf_37 ic_1 ?_
    refine J_goto 42 (by decide) dX10_keeperOf_38 ?_
    refine J_cv (b := bt True) rfl ?_
    refine J_reqElement (hdp := _) 45 rfl dX10_keeperOf_42 lkX10_178 (by exact Nat.le_of_ble_eq_true rfl) (by omega) (by omega) (by omega) (fun c42 => absurd trivial c42) (fun c42 => ?_)
    refine J_aload_n 46 rfl dX10_keeperOf_45 rfl ?_
    refine g_X10_rota 49 rfl dX10_keeperOf_46 lkX10_39 ?_
    refine g_X9_keepers 52 rfl dX10_keeperOf_49 lkX10_262 ?_
    refine J_iload_n 53 rfl dX10_keeperOf_52 rfl ?_
    refine J_iald 54 rfl dX10_keeperOf_53 (sa_X9_keepers) (by omega) ?_
    refine J_cv (b := kp (fvig f) v) kv ?_
    refine J_iret rfl dX10_keeperOf_54 ?_
    exact ⟨by unfold qKe; rw [if_pos (by omega), if_neg (by omega)], rfl, sc⟩

theorem S_X10_repairCount {g : Gn} {J : DJ} {n B : Nat} {fs : Nat → Nat → Nat} {f s : Nat → Nat} (h : CI J f n fs s B) : SJ g mX10_repairCount 16 0 0 [.ref (g.2 0)] J (QF 0 (f 4) (fun J2 => Sc J J2)) NoX := by
  obtain ⟨hc, hw, hp, hsn, h350, hB⟩ := h
  have h0 := hw.1
  have h2 := hw.2.1
  have h3 := hw.2.2.1
  have h4 := hw.2.2.2.2.1.1
  have hr := hw.2.2.2.2.1
  have h6 := hw.2.2.2.1.1
  have s0 := hc.1.1.1
  have s3 := hc.1.1.2.1
  have s2 := hc.1.1.2.2.1
  have s1 := hc.1.1.2.2.2.1
  have s5 := hc.1.1.2.2.2.2
  have h5 := hw.2.2.2.2.2.2.2.2.2
  have hEn := hw.2.2.2.2.2.1
  have hCE := hc.1.2.2.2.2
  have hb := hw.2.2.2.2.2.2.2.2.1
  have hmo := hw.2.2.2.2.2.2.2.1
  have hv : ∀ m, m < 6 → J (1 + 2) m = fvig f m ∧ fvig f m < 256 := fun m hm => ⟨hc.1.2.1 m hm, (hmo m hm).1⟩
  have s4 : J (1 + 3) 3 = f 4 := hc.1.2.2.1.1
  have s7 : J (1 + 7) 2 = f 6 := hc.1.2.2.2.1.1
  have hh := hw.2.2.2.1
  refine SJ_of_VJ (by decide +kernel) (Nat.le_of_ble_eq_true rfl) ?_
  show VJ g mX10_repairCount 16 0 0 _ _ 0 [(0, .ref (g.2 0))] [] J
  refine J_aload_n 1 rfl dX10_repairCount_0 rfl ?_
  refine g_X10_house 4 rfl dX10_repairCount_1 lkX10_10 ?_
  refine g_X3_repairs 7 (by first | assumption | exact isH_1 | exact isH_31 | exact isH_61 | exact isH_p (by omega) | exact isH_E (by assumption) (by omega) | exact isH_R (by assumption) | exact isH_K (by assumption) | exact isH_E isH_1 (by omega) | exact isH_R isH_1 | exact isH_K isH_1 | exact isH_R isH_31 | exact isH_K isH_31 | exact isH_E isH_31 (by omega)) rfl dX10_repairCount_4 lkX10_268 ?_
  refine g_X8_count 10 (by first | assumption | exact isH_1 | exact isH_31 | exact isH_61 | exact isH_p (by omega) | exact isH_E (by assumption) (by omega) | exact isH_R (by assumption) | exact isH_K (by assumption) | exact isH_E isH_1 (by omega) | exact isH_R isH_1 | exact isH_K isH_1 | exact isH_R isH_31 | exact isH_K isH_31 | exact isH_E isH_31 (by omega)) rfl dX10_repairCount_7 lkX10_277 ?_
  refine J_iret rfl dX10_repairCount_10 ?_
  exact ⟨rfl, by rw [s4], Sc.refl⟩

theorem S_X10_leastPenance {g : Gn} {J : DJ} {n B : Nat} {fs : Nat → Nat → Nat} {f s : Nat → Nat} (h : CI J f n fs s B) : SJ g mX10_leastPenance 16 0 0 [.ref (g.2 0)] J (QF 0 (lpn (rh f) (rp f) (f 4)) (fun J2 => Sc J J2)) NoX := by
  obtain ⟨hc, hw, hp, hsn, h350, hB⟩ := h
  have h0 := hw.1
  have h2 := hw.2.1
  have h3 := hw.2.2.1
  have h4 := hw.2.2.2.2.1.1
  have hr := hw.2.2.2.2.1
  have h6 := hw.2.2.2.1.1
  have s0 := hc.1.1.1
  have s3 := hc.1.1.2.1
  have s2 := hc.1.1.2.2.1
  have s1 := hc.1.1.2.2.2.1
  have s5 := hc.1.1.2.2.2.2
  have h5 := hw.2.2.2.2.2.2.2.2.2
  have hEn := hw.2.2.2.2.2.1
  have hCE := hc.1.2.2.2.2
  have hb := hw.2.2.2.2.2.2.2.2.1
  have hmo := hw.2.2.2.2.2.2.2.1
  have hv : ∀ m, m < 6 → J (1 + 2) m = fvig f m ∧ fvig f m < 256 := fun m hm => ⟨hc.1.2.1 m hm, (hmo m hm).1⟩
  have s4 : J (1 + 3) 3 = f 4 := hc.1.2.2.1.1
  have s7 : J (1 + 7) 2 = f 6 := hc.1.2.2.2.1.1
  have hh := hw.2.2.2.1
  refine SJ_of_VJ (by decide +kernel) (Nat.le_of_ble_eq_true rfl) ?_
  show VJ g mX10_leastPenance 16 0 0 _ _ 0 [(0, .ref (g.2 0))] [] J
  refine J_aload_n 1 rfl dX10_leastPenance_0 rfl ?_
  refine g_X10_penances 4 rfl dX10_leastPenance_1 lkX10_46 ?_
  refine J_aload_n 5 rfl dX10_leastPenance_4 rfl ?_
  refine g_X10_house 8 rfl dX10_leastPenance_5 lkX10_10 ?_
  refine g_X3_repairs 11 (by first | assumption | exact isH_1 | exact isH_31 | exact isH_61 | exact isH_p (by omega) | exact isH_E (by assumption) (by omega) | exact isH_R (by assumption) | exact isH_K (by assumption) | exact isH_E isH_1 (by omega) | exact isH_R isH_1 | exact isH_K isH_1 | exact isH_R isH_31 | exact isH_K isH_31 | exact isH_E isH_31 (by omega)) rfl dX10_leastPenance_8 lkX10_268 ?_
  refine J_callVip (As := [_]) 14 _ rfl kalX7_leastByQueue lkX10_283 dX10_leastPenance_11 (lt_X7) (so_X7) rfl rfl rfl (by exact Nat.le_of_ble_eq_true rfl) (by omega) (S_X7_leastByQueue isH_1 hc.1.2.2.1 hr) (fun J11 q11 => ?_)
  refine J_iret rfl dX10_leastPenance_14 ?_
  obtain ⟨T, rfl⟩ := q11
  exact ⟨rfl, rfl, Sc.sR (by omega)⟩

theorem S_X10_leastPenanceByTable {g : Gn} {J : DJ} {n B : Nat} {fs : Nat → Nat → Nat} {f s : Nat → Nat} (h : CI J f n fs s B) : SJ g mX10_leastPenanceByTable 16 0 0 [.ref (g.2 0)] J (QF 0 (lpn (rh f) (rp f) (f 4)) (fun J2 => Sc J J2)) NoX := by
  obtain ⟨hc, hw, hp, hsn, h350, hB⟩ := h
  have h0 := hw.1
  have h2 := hw.2.1
  have h3 := hw.2.2.1
  have h4 := hw.2.2.2.2.1.1
  have hr := hw.2.2.2.2.1
  have h6 := hw.2.2.2.1.1
  have s0 := hc.1.1.1
  have s3 := hc.1.1.2.1
  have s2 := hc.1.1.2.2.1
  have s1 := hc.1.1.2.2.2.1
  have s5 := hc.1.1.2.2.2.2
  have h5 := hw.2.2.2.2.2.2.2.2.2
  have hEn := hw.2.2.2.2.2.1
  have hCE := hc.1.2.2.2.2
  have hb := hw.2.2.2.2.2.2.2.2.1
  have hmo := hw.2.2.2.2.2.2.2.1
  have hv : ∀ m, m < 6 → J (1 + 2) m = fvig f m ∧ fvig f m < 256 := fun m hm => ⟨hc.1.2.1 m hm, (hmo m hm).1⟩
  have s4 : J (1 + 3) 3 = f 4 := hc.1.2.2.1.1
  have s7 : J (1 + 7) 2 = f 6 := hc.1.2.2.2.1.1
  have hh := hw.2.2.2.1
  refine SJ_of_VJ (by decide +kernel) (Nat.le_of_ble_eq_true rfl) ?_
  show VJ g mX10_leastPenanceByTable 16 0 0 _ _ 0 [(0, .ref (g.2 0))] [] J
  refine J_aload_n 1 rfl dX10_leastPenanceByTable_0 rfl ?_
  refine g_X10_penances 4 rfl dX10_leastPenanceByTable_1 lkX10_46 ?_
  refine J_aload_n 5 rfl dX10_leastPenanceByTable_4 rfl ?_
  refine g_X10_house 8 rfl dX10_leastPenanceByTable_5 lkX10_10 ?_
  refine g_X3_repairs 11 (by first | assumption | exact isH_1 | exact isH_31 | exact isH_61 | exact isH_p (by omega) | exact isH_E (by assumption) (by omega) | exact isH_R (by assumption) | exact isH_K (by assumption) | exact isH_E isH_1 (by omega) | exact isH_R isH_1 | exact isH_K isH_1 | exact isH_R isH_31 | exact isH_K isH_31 | exact isH_E isH_31 (by omega)) rfl dX10_leastPenanceByTable_8 lkX10_268 ?_
  refine J_callVip (As := [_]) 14 _ rfl kalX7_leastBySets lkX10_287 dX10_leastPenanceByTable_11 (lt_X7) (so_X7) rfl rfl rfl (by exact Nat.le_of_ble_eq_true rfl) (by omega) (S_X7_leastBySets isH_1 hc.1.2.2.1 hr) (fun J11 q11 => ?_)
  refine J_iret rfl dX10_leastPenanceByTable_14 ?_
  obtain ⟨T, rfl⟩ := q11
  exact ⟨rfl, rfl, Sc.sR (by omega)⟩

theorem S_X10_penanceDone {g : Gn} {J : DJ} {n B : Nat} {fs : Nat → Nat → Nat} {f s : Nat → Nat} (h : CI J f n fs s B) : SJ g mX10_penanceDone 16 0 0 [.ref (g.2 0)] J (QF 0 (f 5) (fun J2 => Sc J J2)) NoX := by
  obtain ⟨hc, hw, hp, hsn, h350, hB⟩ := h
  have h0 := hw.1
  have h2 := hw.2.1
  have h3 := hw.2.2.1
  have h4 := hw.2.2.2.2.1.1
  have hr := hw.2.2.2.2.1
  have h6 := hw.2.2.2.1.1
  have s0 := hc.1.1.1
  have s3 := hc.1.1.2.1
  have s2 := hc.1.1.2.2.1
  have s1 := hc.1.1.2.2.2.1
  have s5 := hc.1.1.2.2.2.2
  have h5 := hw.2.2.2.2.2.2.2.2.2
  have hEn := hw.2.2.2.2.2.1
  have hCE := hc.1.2.2.2.2
  have hb := hw.2.2.2.2.2.2.2.2.1
  have hmo := hw.2.2.2.2.2.2.2.1
  have hv : ∀ m, m < 6 → J (1 + 2) m = fvig f m ∧ fvig f m < 256 := fun m hm => ⟨hc.1.2.1 m hm, (hmo m hm).1⟩
  have s4 : J (1 + 3) 3 = f 4 := hc.1.2.2.1.1
  have s7 : J (1 + 7) 2 = f 6 := hc.1.2.2.2.1.1
  have hh := hw.2.2.2.1
  refine SJ_of_VJ (by decide +kernel) (Nat.le_of_ble_eq_true rfl) ?_
  show VJ g mX10_penanceDone 16 0 0 _ _ 0 [(0, .ref (g.2 0))] [] J
  refine J_aload_n 1 rfl dX10_penanceDone_0 rfl ?_
  refine g_X10_house 4 rfl dX10_penanceDone_1 lkX10_10 ?_
  refine g_X3_penanceDone 7 (by first | assumption | exact isH_1 | exact isH_31 | exact isH_61 | exact isH_p (by omega) | exact isH_E (by assumption) (by omega) | exact isH_R (by assumption) | exact isH_K (by assumption) | exact isH_E isH_1 (by omega) | exact isH_R isH_1 | exact isH_K isH_1 | exact isH_R isH_31 | exact isH_K isH_31 | exact isH_E isH_31 (by omega)) rfl dX10_penanceDone_4 lkX10_296 ?_
  refine J_iret rfl dX10_penanceDone_7 ?_
  exact ⟨rfl, by rw [s5], Sc.refl⟩

theorem S_X10_hour {g : Gn} {J : DJ} {n B : Nat} {fs : Nat → Nat → Nat} {f s : Nat → Nat} (h : CI J f n fs s B) : SJ g mX10_hour 16 0 0 [.ref (g.2 0)] J (QF 0 (f 1) (fun J2 => Sc J J2)) NoX := by
  obtain ⟨hc, hw, hp, hsn, h350, hB⟩ := h
  have h0 := hw.1
  have h2 := hw.2.1
  have h3 := hw.2.2.1
  have h4 := hw.2.2.2.2.1.1
  have hr := hw.2.2.2.2.1
  have h6 := hw.2.2.2.1.1
  have s0 := hc.1.1.1
  have s3 := hc.1.1.2.1
  have s2 := hc.1.1.2.2.1
  have s1 := hc.1.1.2.2.2.1
  have s5 := hc.1.1.2.2.2.2
  have h5 := hw.2.2.2.2.2.2.2.2.2
  have hEn := hw.2.2.2.2.2.1
  have hCE := hc.1.2.2.2.2
  have hb := hw.2.2.2.2.2.2.2.2.1
  have hmo := hw.2.2.2.2.2.2.2.1
  have hv : ∀ m, m < 6 → J (1 + 2) m = fvig f m ∧ fvig f m < 256 := fun m hm => ⟨hc.1.2.1 m hm, (hmo m hm).1⟩
  have s4 : J (1 + 3) 3 = f 4 := hc.1.2.2.1.1
  have s7 : J (1 + 7) 2 = f 6 := hc.1.2.2.2.1.1
  have hh := hw.2.2.2.1
  refine SJ_of_VJ (by decide +kernel) (Nat.le_of_ble_eq_true rfl) ?_
  show VJ g mX10_hour 16 0 0 _ _ 0 [(0, .ref (g.2 0))] [] J
  refine J_aload_n 1 rfl dX10_hour_0 rfl ?_
  refine g_X10_house 4 rfl dX10_hour_1 lkX10_10 ?_
  refine g_X3_hour 7 (by first | assumption | exact isH_1 | exact isH_31 | exact isH_61 | exact isH_p (by omega) | exact isH_E (by assumption) (by omega) | exact isH_R (by assumption) | exact isH_K (by assumption) | exact isH_E isH_1 (by omega) | exact isH_R isH_1 | exact isH_K isH_1 | exact isH_R isH_31 | exact isH_K isH_31 | exact isH_E isH_31 (by omega)) rfl dX10_hour_4 lkX10_305 ?_
  refine J_iret rfl dX10_hour_7 ?_
  exact ⟨rfl, by rw [s1], Sc.refl⟩

theorem S_X10_hourOfKnocks {g : Gn} {J : DJ} {n B t : Nat} {fs : Nat → Nat → Nat} {f s : Nat → Nat} (h : CI J f n fs s B) (h_t : t < 4294967296) : SJ g mX10_hourOfKnocks 16 1 6 [.ref (g.2 0), .int (nI (t))] J (QF (if qHo f t < f 6 then 0 else 4) (f (245 + 2 * qHo f t)) (fun J2 => Sc J J2)) (XF (if qHo f t < f 6 then 0 else 4) J) := by
  obtain ⟨hc, hw, hp, hsn, h350, hB⟩ := h
  have h0 := hw.1
  have h2 := hw.2.1
  have h3 := hw.2.2.1
  have h4 := hw.2.2.2.2.1.1
  have hr := hw.2.2.2.2.1
  have h6 := hw.2.2.2.1.1
  have s0 := hc.1.1.1
  have s3 := hc.1.1.2.1
  have s2 := hc.1.1.2.2.1
  have s1 := hc.1.1.2.2.2.1
  have s5 := hc.1.1.2.2.2.2
  have h5 := hw.2.2.2.2.2.2.2.2.2
  have hEn := hw.2.2.2.2.2.1
  have hCE := hc.1.2.2.2.2
  have hb := hw.2.2.2.2.2.2.2.2.1
  have hmo := hw.2.2.2.2.2.2.2.1
  have hv : ∀ m, m < 6 → J (1 + 2) m = fvig f m ∧ fvig f m < 256 := fun m hm => ⟨hc.1.2.1 m hm, (hmo m hm).1⟩
  have s4 : J (1 + 3) 3 = f 4 := hc.1.2.2.1.1
  have s7 : J (1 + 7) 2 = f 6 := hc.1.2.2.2.1.1
  have hh := hw.2.2.2.1
  refine SJ_of_VJ (by decide +kernel) (Nat.le_of_ble_eq_true rfl) ?_
  show VJ g mX10_hourOfKnocks 16 1 6 _ _ 0 [(0, .ref (g.2 0)), (1, .int (nI (t)))] [] J
  refine J_aload_n 1 rfl dX10_hourOfKnocks_0 rfl ?_
  refine g_X10_house 4 rfl dX10_hourOfKnocks_1 lkX10_10 ?_
  refine g_X3_knockBook 7 (by first | assumption | exact isH_1 | exact isH_31 | exact isH_61 | exact isH_p (by omega) | exact isH_E (by assumption) (by omega) | exact isH_R (by assumption) | exact isH_K (by assumption) | exact isH_E isH_1 (by omega) | exact isH_R isH_1 | exact isH_K isH_1 | exact isH_R isH_31 | exact isH_K isH_31 | exact isH_E isH_31 (by omega)) rfl dX10_hourOfKnocks_4 lkX10_308 ?_
  refine J_iload_n 8 rfl dX10_hourOfKnocks_7 rfl ?_
  refine J_callVin (As := [_]) 11 _ rfl kalX4_placeFrom lkX10_312 dX10_hourOfKnocks_8 (lt_X4 (by first | assumption | exact isH_1 | exact isH_31 | exact isH_61 | exact isH_p (by omega) | exact isH_E (by assumption) (by omega) | exact isH_R (by assumption) | exact isH_K (by assumption) | exact isH_E isH_1 (by omega) | exact isH_R isH_1 | exact isH_K isH_1 | exact isH_R isH_31 | exact isH_K isH_31 | exact isH_E isH_31 (by omega))) (so_X4 (by first | assumption | exact isH_1 | exact isH_31 | exact isH_61 | exact isH_p (by omega) | exact isH_E (by assumption) (by omega) | exact isH_R (by assumption) | exact isH_K (by assumption) | exact isH_E isH_1 (by omega) | exact isH_R isH_1 | exact isH_K isH_1 | exact isH_R isH_31 | exact isH_K isH_31 | exact isH_E isH_31 (by omega))) rfl rfl rfl (by exact Nat.le_of_ble_eq_true rfl) (by omega) (S_X4_placeFrom (isH_K isH_1) (by omega)) (fun r8 q8 => ?_)
  have hcb := hc.1.2.2.2.1.2
  have hB6 : ∀ i, i < f 6 → f (245 + 2 * i) < 1073741824 := fun i hi => by have := hb (245 + 2 * i) (by omega); omega
  rw [s7] at q8
  have e8 : qHo f t = r8 := fstN_is q8.1 (fun i hi => decide_eq_false (fun z => q8.2.1 i hi (by rw [(hcb i (by omega)).1]; exact z))) (fun hi => decide_eq_true (by have := q8.2.2 hi; rw [(hcb r8 hi).1] at this; exact this))
  have r12 := q8.1
  refine J_istore_n 12 rfl dX10_hourOfKnocks_11 rfl (Nat.le_of_ble_eq_true rfl) ?_
  refine J_iload_n 13 rfl dX10_hourOfKnocks_12 rfl ?_
  refine J_aload_n 14 rfl dX10_hourOfKnocks_13 rfl ?_
  refine g_X10_house 17 rfl dX10_hourOfKnocks_14 lkX10_10 ?_
  refine g_X3_knockBook 20 (by first | assumption | exact isH_1 | exact isH_31 | exact isH_61 | exact isH_p (by omega) | exact isH_E (by assumption) (by omega) | exact isH_R (by assumption) | exact isH_K (by assumption) | exact isH_E isH_1 (by omega) | exact isH_R isH_1 | exact isH_K isH_1 | exact isH_R isH_31 | exact isH_K isH_31 | exact isH_E isH_31 (by omega)) rfl dX10_hourOfKnocks_17 lkX10_308 ?_
  refine g_X4_kept 23 (by first | assumption | exact isH_1 | exact isH_31 | exact isH_61 | exact isH_p (by omega) | exact isH_E (by assumption) (by omega) | exact isH_R (by assumption) | exact isH_K (by assumption) | exact isH_E isH_1 (by omega) | exact isH_R isH_1 | exact isH_K isH_1 | exact isH_R isH_31 | exact isH_K isH_31 | exact isH_E isH_31 (by omega)) rfl dX10_hourOfKnocks_20 lkX10_317 ?_
  refine J_cv (b := f 6) s7 ?_
  refine J_icmp_ge 30 26 (by decide) rfl dX10_hourOfKnocks_23 (by omega) (by omega) (fun c23 => ?_) (fun c23 => ?_)
  · refine J_iconst 31 0 rfl dX10_hourOfKnocks_30 ic_0 ?_
    refine J_cv (b := bt False) rfl ?_
    refine J_reqElement (hdp := _) 34 rfl dX10_hourOfKnocks_31 lkX10_178 (by exact Nat.le_of_ble_eq_true rfl) (by omega) (by omega) (by omega) (fun c31 => ⟨by rw [if_neg (by omega)]; omega, by rw [if_neg (by omega)]; rfl, Sc.refl⟩) (fun c31 => absurd c31 id)
  · refine J_iconst 27 1 rfl dX10_hourOfKnocks_26 ic_1 ?_
    refine J_goto 31 (by decide) dX10_hourOfKnocks_27 ?_
    refine J_cv (b := bt True) rfl ?_
    refine J_reqElement (hdp := _) 34 rfl dX10_hourOfKnocks_31 lkX10_178 (by exact Nat.le_of_ble_eq_true rfl) (by omega) (by omega) (by omega) (fun c31 => absurd trivial c31) (fun c31 => ?_)
    refine J_aload_n 35 rfl dX10_hourOfKnocks_34 rfl ?_
    refine g_X10_house 38 rfl dX10_hourOfKnocks_35 lkX10_10 ?_
    refine g_X3_knockBook 41 (by first | assumption | exact isH_1 | exact isH_31 | exact isH_61 | exact isH_p (by omega) | exact isH_E (by assumption) (by omega) | exact isH_R (by assumption) | exact isH_K (by assumption) | exact isH_E isH_1 (by omega) | exact isH_R isH_1 | exact isH_K isH_1 | exact isH_R isH_31 | exact isH_K isH_31 | exact isH_E isH_31 (by omega)) rfl dX10_hourOfKnocks_38 lkX10_308 ?_
    refine g_X4_hours 44 (by first | assumption | exact isH_1 | exact isH_31 | exact isH_61 | exact isH_p (by omega) | exact isH_E (by assumption) (by omega) | exact isH_R (by assumption) | exact isH_K (by assumption) | exact isH_E isH_1 (by omega) | exact isH_R isH_1 | exact isH_K isH_1 | exact isH_R isH_31 | exact isH_K isH_31 | exact isH_E isH_31 (by omega)) rfl dX10_hourOfKnocks_41 lkX10_320 ?_
    refine J_iload_n 45 rfl dX10_hourOfKnocks_44 rfl ?_
    refine J_iald 46 rfl dX10_hourOfKnocks_45 (sa_X4_hours (by first | assumption | exact isH_1 | exact isH_31 | exact isH_61 | exact isH_p (by omega) | exact isH_E (by assumption) (by omega) | exact isH_R (by assumption) | exact isH_K (by assumption) | exact isH_E isH_1 (by omega) | exact isH_R isH_1 | exact isH_K isH_1 | exact isH_R isH_31 | exact isH_K isH_31 | exact isH_E isH_31 (by omega))) (by omega) ?_
    refine J_iret rfl dX10_hourOfKnocks_46 ?_
    exact ⟨by rw [if_pos (by omega)], by rw [(hcb r8 (by omega)).1, e8], Sc.refl⟩

theorem S_X10_knocksIn {g : Gn} {J : DJ} {n B t : Nat} {fs : Nat → Nat → Nat} {f s : Nat → Nat} (h : CI J f n fs s B) (h_t : t < 4294967296) : SJ g mX10_knocksIn 16 1 6 [.ref (g.2 0), .int (nI (t))] J (QF (if qKi f t < f 6 then 0 else 4) (f (246 + 2 * qKi f t)) (fun J2 => Sc J J2)) (XF (if qKi f t < f 6 then 0 else 4) J) := by
  obtain ⟨hc, hw, hp, hsn, h350, hB⟩ := h
  have h0 := hw.1
  have h2 := hw.2.1
  have h3 := hw.2.2.1
  have h4 := hw.2.2.2.2.1.1
  have hr := hw.2.2.2.2.1
  have h6 := hw.2.2.2.1.1
  have s0 := hc.1.1.1
  have s3 := hc.1.1.2.1
  have s2 := hc.1.1.2.2.1
  have s1 := hc.1.1.2.2.2.1
  have s5 := hc.1.1.2.2.2.2
  have h5 := hw.2.2.2.2.2.2.2.2.2
  have hEn := hw.2.2.2.2.2.1
  have hCE := hc.1.2.2.2.2
  have hb := hw.2.2.2.2.2.2.2.2.1
  have hmo := hw.2.2.2.2.2.2.2.1
  have hv : ∀ m, m < 6 → J (1 + 2) m = fvig f m ∧ fvig f m < 256 := fun m hm => ⟨hc.1.2.1 m hm, (hmo m hm).1⟩
  have s4 : J (1 + 3) 3 = f 4 := hc.1.2.2.1.1
  have s7 : J (1 + 7) 2 = f 6 := hc.1.2.2.2.1.1
  have hh := hw.2.2.2.1
  refine SJ_of_VJ (by decide +kernel) (Nat.le_of_ble_eq_true rfl) ?_
  show VJ g mX10_knocksIn 16 1 6 _ _ 0 [(0, .ref (g.2 0)), (1, .int (nI (t)))] [] J
  refine J_aload_n 1 rfl dX10_knocksIn_0 rfl ?_
  refine g_X10_house 4 rfl dX10_knocksIn_1 lkX10_10 ?_
  refine g_X3_knockBook 7 (by first | assumption | exact isH_1 | exact isH_31 | exact isH_61 | exact isH_p (by omega) | exact isH_E (by assumption) (by omega) | exact isH_R (by assumption) | exact isH_K (by assumption) | exact isH_E isH_1 (by omega) | exact isH_R isH_1 | exact isH_K isH_1 | exact isH_R isH_31 | exact isH_K isH_31 | exact isH_E isH_31 (by omega)) rfl dX10_knocksIn_4 lkX10_308 ?_
  refine J_iload_n 8 rfl dX10_knocksIn_7 rfl ?_
  refine J_callVin (As := [_]) 11 _ rfl kalX4_placeFrom lkX10_312 dX10_knocksIn_8 (lt_X4 (by first | assumption | exact isH_1 | exact isH_31 | exact isH_61 | exact isH_p (by omega) | exact isH_E (by assumption) (by omega) | exact isH_R (by assumption) | exact isH_K (by assumption) | exact isH_E isH_1 (by omega) | exact isH_R isH_1 | exact isH_K isH_1 | exact isH_R isH_31 | exact isH_K isH_31 | exact isH_E isH_31 (by omega))) (so_X4 (by first | assumption | exact isH_1 | exact isH_31 | exact isH_61 | exact isH_p (by omega) | exact isH_E (by assumption) (by omega) | exact isH_R (by assumption) | exact isH_K (by assumption) | exact isH_E isH_1 (by omega) | exact isH_R isH_1 | exact isH_K isH_1 | exact isH_R isH_31 | exact isH_K isH_31 | exact isH_E isH_31 (by omega))) rfl rfl rfl (by exact Nat.le_of_ble_eq_true rfl) (by omega) (S_X4_placeFrom (isH_K isH_1) (by omega)) (fun r8 q8 => ?_)
  have hcb := hc.1.2.2.2.1.2
  have hB6 : ∀ i, i < f 6 → f (245 + 2 * i) < 1073741824 := fun i hi => by have := hb (245 + 2 * i) (by omega); omega
  rw [s7] at q8
  have r12 := q8.1
  have lo : ∀ i, i < r8 → f (245 + 2 * i) ≠ t := fun i hi z => q8.2.1 i hi (by rw [(hcb i (by omega)).1, z]; exact Int32.le_refl _)
  have e8 : r8 < f 6 → f (245 + 2 * r8) = t → qKi f t = r8 := fun a b => fstN_is q8.1 (fun i hi => decide_eq_false (lo i hi)) (fun _ => decide_eq_true b)
  have e9 : (r8 < f 6 → f (245 + 2 * r8) ≠ t) → qKi f t = f 6 := fun a => fstN_is (Nat.le_refl _) (fun i hi => decide_eq_false (fun z => by
    by_cases x : i < r8
    · exact lo i x z
    · by_cases y : i = r8
      · exact a (by omega) (by rw [← y]; exact z)
      · have l1 := hour_lt hh i r8 (by omega) hi
        have l2 := q8.2.2 (by omega)
        rw [(hcb r8 (by omega)).1, ← z] at l2
        have := (nI_leI (by have := hB6 i hi; omega) (by have := hB6 r8 (by omega); omega)).mp l2
        omega)) (fun z => absurd z (by omega))
  refine J_istore_n 12 rfl dX10_knocksIn_11 rfl (Nat.le_of_ble_eq_true rfl) ?_
  refine J_iload_n 13 rfl dX10_knocksIn_12 rfl ?_
  refine J_aload_n 14 rfl dX10_knocksIn_13 rfl ?_
  refine g_X10_house 17 rfl dX10_knocksIn_14 lkX10_10 ?_
  refine g_X3_knockBook 20 (by first | assumption | exact isH_1 | exact isH_31 | exact isH_61 | exact isH_p (by omega) | exact isH_E (by assumption) (by omega) | exact isH_R (by assumption) | exact isH_K (by assumption) | exact isH_E isH_1 (by omega) | exact isH_R isH_1 | exact isH_K isH_1 | exact isH_R isH_31 | exact isH_K isH_31 | exact isH_E isH_31 (by omega)) rfl dX10_knocksIn_17 lkX10_308 ?_
  refine g_X4_kept 23 (by first | assumption | exact isH_1 | exact isH_31 | exact isH_61 | exact isH_p (by omega) | exact isH_E (by assumption) (by omega) | exact isH_R (by assumption) | exact isH_K (by assumption) | exact isH_E isH_1 (by omega) | exact isH_R isH_1 | exact isH_K isH_1 | exact isH_R isH_31 | exact isH_K isH_31 | exact isH_E isH_31 (by omega)) rfl dX10_knocksIn_20 lkX10_317 ?_
  refine J_cv (b := f 6) s7 ?_
  refine J_icmp_ge 46 26 (by decide) rfl dX10_knocksIn_23 (by omega) (by omega) (fun c23 => ?_) (fun c23 => ?_)
  · refine J_iconst 47 0 rfl dX10_knocksIn_46 ic_0 ?_
    refine J_cv (b := bt False) rfl ?_
    refine J_reqElement (hdp := _) 50 rfl dX10_knocksIn_47 lkX10_178 (by exact Nat.le_of_ble_eq_true rfl) (by omega) (by omega) (by omega) (fun c47 => ⟨by rw [if_neg (by rw [e9 (by first | (intro _; assumption) | (intro _; omega))]; omega)]; omega, by rw [if_neg (by rw [e9 (by first | (intro _; assumption) | (intro _; omega))]; omega)]; rfl, Sc.refl⟩) (fun c47 => absurd c47 id)
  · refine J_aload_n 27 rfl dX10_knocksIn_26 rfl ?_
    refine g_X10_house 30 rfl dX10_knocksIn_27 lkX10_10 ?_
    refine g_X3_knockBook 33 (by first | assumption | exact isH_1 | exact isH_31 | exact isH_61 | exact isH_p (by omega) | exact isH_E (by assumption) (by omega) | exact isH_R (by assumption) | exact isH_K (by assumption) | exact isH_E isH_1 (by omega) | exact isH_R isH_1 | exact isH_K isH_1 | exact isH_R isH_31 | exact isH_K isH_31 | exact isH_E isH_31 (by omega)) rfl dX10_knocksIn_30 lkX10_308 ?_
    refine g_X4_hours 36 (by first | assumption | exact isH_1 | exact isH_31 | exact isH_61 | exact isH_p (by omega) | exact isH_E (by assumption) (by omega) | exact isH_R (by assumption) | exact isH_K (by assumption) | exact isH_E isH_1 (by omega) | exact isH_R isH_1 | exact isH_K isH_1 | exact isH_R isH_31 | exact isH_K isH_31 | exact isH_E isH_31 (by omega)) rfl dX10_knocksIn_33 lkX10_320 ?_
    refine J_iload_n 37 rfl dX10_knocksIn_36 rfl ?_
    refine J_iald 38 rfl dX10_knocksIn_37 (sa_X4_hours (by first | assumption | exact isH_1 | exact isH_31 | exact isH_61 | exact isH_p (by omega) | exact isH_E (by assumption) (by omega) | exact isH_R (by assumption) | exact isH_K (by assumption) | exact isH_E isH_1 (by omega) | exact isH_R isH_1 | exact isH_K isH_1 | exact isH_R isH_31 | exact isH_K isH_31 | exact isH_E isH_31 (by omega))) (by omega) ?_
    refine J_cv (b := f (245 + 2 * r8)) (hcb r8 (by omega)).1 ?_
    refine J_iload_n 39 rfl dX10_knocksIn_38 rfl ?_
    refine J_icmp_ne 46 42 (by decide) rfl dX10_knocksIn_39 (by have := hB6 r8 (by omega); omega) h_t (fun c39 => ?_) (fun c39 => ?_)
    · refine J_iconst 47 0 rfl dX10_knocksIn_46 ic_0 ?_
      refine J_cv (b := bt False) rfl ?_
      refine J_reqElement (hdp := _) 50 rfl dX10_knocksIn_47 lkX10_178 (by exact Nat.le_of_ble_eq_true rfl) (by omega) (by omega) (by omega) (fun c47 => ⟨by rw [if_neg (by rw [e9 (by first | (intro _; assumption) | (intro _; omega))]; omega)]; omega, by rw [if_neg (by rw [e9 (by first | (intro _; assumption) | (intro _; omega))]; omega)]; rfl, Sc.refl⟩) (fun c47 => absurd c47 id)
    · refine J_iconst 43 1 rfl dX10_knocksIn_42 ic_1 ?_
      refine J_goto 47 (by decide) dX10_knocksIn_43 ?_
      refine J_cv (b := bt True) rfl ?_
      refine J_reqElement (hdp := _) 50 rfl dX10_knocksIn_47 lkX10_178 (by exact Nat.le_of_ble_eq_true rfl) (by omega) (by omega) (by omega) (fun c47 => absurd trivial c47) (fun c47 => ?_)
      refine J_aload_n 51 rfl dX10_knocksIn_50 rfl ?_
      refine g_X10_house 54 rfl dX10_knocksIn_51 lkX10_10 ?_
      refine g_X3_knockBook 57 (by first | assumption | exact isH_1 | exact isH_31 | exact isH_61 | exact isH_p (by omega) | exact isH_E (by assumption) (by omega) | exact isH_R (by assumption) | exact isH_K (by assumption) | exact isH_E isH_1 (by omega) | exact isH_R isH_1 | exact isH_K isH_1 | exact isH_R isH_31 | exact isH_K isH_31 | exact isH_E isH_31 (by omega)) rfl dX10_knocksIn_54 lkX10_308 ?_
      refine g_X4_knocks 60 (by first | assumption | exact isH_1 | exact isH_31 | exact isH_61 | exact isH_p (by omega) | exact isH_E (by assumption) (by omega) | exact isH_R (by assumption) | exact isH_K (by assumption) | exact isH_E isH_1 (by omega) | exact isH_R isH_1 | exact isH_K isH_1 | exact isH_R isH_31 | exact isH_K isH_31 | exact isH_E isH_31 (by omega)) rfl dX10_knocksIn_57 lkX10_323 ?_
      refine J_iload_n 61 rfl dX10_knocksIn_60 rfl ?_
      refine J_iald 62 rfl dX10_knocksIn_61 (sa_X4_knocks (by first | assumption | exact isH_1 | exact isH_31 | exact isH_61 | exact isH_p (by omega) | exact isH_E (by assumption) (by omega) | exact isH_R (by assumption) | exact isH_K (by assumption) | exact isH_E isH_1 (by omega) | exact isH_R isH_1 | exact isH_K isH_1 | exact isH_R isH_31 | exact isH_K isH_31 | exact isH_E isH_31 (by omega))) (by omega) ?_
      refine J_iret rfl dX10_knocksIn_62 ?_
      have e := e8 (by omega) c39
      exact ⟨by rw [if_pos (by omega)], by rw [(hcb r8 (by omega)).2, e], Sc.refl⟩

theorem S_X10_errorPosition {g : Gn} {J : DJ} {n B : Nat} {fs : Nat → Nat → Nat} {f s : Nat → Nat} (h : CI J f n fs s B) (h_x : J 0 10 < 4294967296) : SJ g mX10_errorPosition 16 1 6 [.ref (g.2 0)] J (QF (if J 0 10 = 4294967295 then 4 else 0) (J 0 10) (fun J2 => Sc J J2)) (XF (if J 0 10 = 4294967295 then 4 else 0) J) := by
  obtain ⟨hc, hw, hp, hsn, h350, hB⟩ := h
  have h0 := hw.1
  have h2 := hw.2.1
  have h3 := hw.2.2.1
  have h4 := hw.2.2.2.2.1.1
  have hr := hw.2.2.2.2.1
  have h6 := hw.2.2.2.1.1
  have s0 := hc.1.1.1
  have s3 := hc.1.1.2.1
  have s2 := hc.1.1.2.2.1
  have s1 := hc.1.1.2.2.2.1
  have s5 := hc.1.1.2.2.2.2
  have h5 := hw.2.2.2.2.2.2.2.2.2
  have hEn := hw.2.2.2.2.2.1
  have hCE := hc.1.2.2.2.2
  have hb := hw.2.2.2.2.2.2.2.2.1
  have hmo := hw.2.2.2.2.2.2.2.1
  have hv : ∀ m, m < 6 → J (1 + 2) m = fvig f m ∧ fvig f m < 256 := fun m hm => ⟨hc.1.2.1 m hm, (hmo m hm).1⟩
  have s4 : J (1 + 3) 3 = f 4 := hc.1.2.2.1.1
  have s7 : J (1 + 7) 2 = f 6 := hc.1.2.2.2.1.1
  have hh := hw.2.2.2.1
  have hx : J 0 10 < 4294967296 := h_x
  refine SJ_of_VJ (by decide +kernel) (Nat.le_of_ble_eq_true rfl) ?_
  show VJ g mX10_errorPosition 16 1 6 _ _ 0 [(0, .ref (g.2 0))] [] J
  refine J_aload_n 1 rfl dX10_errorPosition_0 rfl ?_
  refine g_X10_lastErrorPosition 4 rfl dX10_errorPosition_1 lkX10_68 ?_
  refine J_iconst 5 4294967295 rfl dX10_errorPosition_4 ic_m1 ?_
  refine J_icmp_eq 12 8 (by decide) rfl dX10_errorPosition_5 (by omega) (by omega) (fun c5 => ?_) (fun c5 => ?_)
  · refine J_iconst 13 0 rfl dX10_errorPosition_12 ic_0 ?_
    refine J_cv (b := bt False) rfl ?_
    refine J_reqElement (hdp := _) 16 rfl dX10_errorPosition_13 lkX10_178 (by exact Nat.le_of_ble_eq_true rfl) (by omega) (by omega) (by omega) (fun c13 => ⟨by rw [if_pos (by omega)]; omega, by rw [if_pos (by omega)]; rfl, Sc.refl⟩) (fun c13 => absurd c13 id)
  · refine J_iconst 9 1 rfl dX10_errorPosition_8 ic_1 ?_
    refine J_goto 13 (by decide) dX10_errorPosition_9 ?_
    refine J_cv (b := bt True) rfl ?_
    refine J_reqElement (hdp := _) 16 rfl dX10_errorPosition_13 lkX10_178 (by exact Nat.le_of_ble_eq_true rfl) (by omega) (by omega) (by omega) (fun c13 => absurd trivial c13) (fun c13 => ?_)
    refine J_aload_n 17 rfl dX10_errorPosition_16 rfl ?_
    refine g_X10_lastErrorPosition 20 rfl dX10_errorPosition_17 lkX10_68 ?_
    refine J_iret rfl dX10_errorPosition_20 ?_
    exact ⟨by rw [if_neg (by omega)], rfl, Sc.refl⟩

theorem S_X10_failedCommand {g : Gn} {J : DJ} {n B : Nat} {fs : Nat → Nat → Nat} {f s : Nat → Nat} (h : CI J f n fs s B) (h_x : J 0 11 < 4294967296) : SJ g mX10_failedCommand 16 1 6 [.ref (g.2 0)] J (QF (if J 0 11 = 4294967295 then 4 else 0) (J 0 11) (fun J2 => Sc J J2)) (XF (if J 0 11 = 4294967295 then 4 else 0) J) := by
  obtain ⟨hc, hw, hp, hsn, h350, hB⟩ := h
  have h0 := hw.1
  have h2 := hw.2.1
  have h3 := hw.2.2.1
  have h4 := hw.2.2.2.2.1.1
  have hr := hw.2.2.2.2.1
  have h6 := hw.2.2.2.1.1
  have s0 := hc.1.1.1
  have s3 := hc.1.1.2.1
  have s2 := hc.1.1.2.2.1
  have s1 := hc.1.1.2.2.2.1
  have s5 := hc.1.1.2.2.2.2
  have h5 := hw.2.2.2.2.2.2.2.2.2
  have hEn := hw.2.2.2.2.2.1
  have hCE := hc.1.2.2.2.2
  have hb := hw.2.2.2.2.2.2.2.2.1
  have hmo := hw.2.2.2.2.2.2.2.1
  have hv : ∀ m, m < 6 → J (1 + 2) m = fvig f m ∧ fvig f m < 256 := fun m hm => ⟨hc.1.2.1 m hm, (hmo m hm).1⟩
  have s4 : J (1 + 3) 3 = f 4 := hc.1.2.2.1.1
  have s7 : J (1 + 7) 2 = f 6 := hc.1.2.2.2.1.1
  have hh := hw.2.2.2.1
  have hx : J 0 11 < 4294967296 := h_x
  refine SJ_of_VJ (by decide +kernel) (Nat.le_of_ble_eq_true rfl) ?_
  show VJ g mX10_failedCommand 16 1 6 _ _ 0 [(0, .ref (g.2 0))] [] J
  refine J_aload_n 1 rfl dX10_failedCommand_0 rfl ?_
  refine g_X10_lastFailedCommand 4 rfl dX10_failedCommand_1 lkX10_72 ?_
  refine J_iconst 5 4294967295 rfl dX10_failedCommand_4 ic_m1 ?_
  refine J_icmp_eq 12 8 (by decide) rfl dX10_failedCommand_5 (by omega) (by omega) (fun c5 => ?_) (fun c5 => ?_)
  · refine J_iconst 13 0 rfl dX10_failedCommand_12 ic_0 ?_
    refine J_cv (b := bt False) rfl ?_
    refine J_reqElement (hdp := _) 16 rfl dX10_failedCommand_13 lkX10_178 (by exact Nat.le_of_ble_eq_true rfl) (by omega) (by omega) (by omega) (fun c13 => ⟨by rw [if_pos (by omega)]; omega, by rw [if_pos (by omega)]; rfl, Sc.refl⟩) (fun c13 => absurd c13 id)
  · refine J_iconst 9 1 rfl dX10_failedCommand_8 ic_1 ?_
    refine J_goto 13 (by decide) dX10_failedCommand_9 ?_
    refine J_cv (b := bt True) rfl ?_
    refine J_reqElement (hdp := _) 16 rfl dX10_failedCommand_13 lkX10_178 (by exact Nat.le_of_ble_eq_true rfl) (by omega) (by omega) (by omega) (fun c13 => absurd trivial c13) (fun c13 => ?_)
    refine J_aload_n 17 rfl dX10_failedCommand_16 rfl ?_
    refine g_X10_lastFailedCommand 20 rfl dX10_failedCommand_17 lkX10_72 ?_
    refine J_iret rfl dX10_failedCommand_20 ?_
    exact ⟨by rw [if_neg (by omega)], rfl, Sc.refl⟩

theorem S_X10_undo {g : Gn} {J : DJ} {n B : Nat} {fs : Nat → Nat → Nat} {f s : Nat → Nat} (h : CI J f n fs s B) : SJ g mX10_undo 16 1 6 [.ref (g.2 0)] J (QF (if 0 < n then 0 else 3) (n - 1) (fun J2 => (∀ c, c < 1 ∨ 333 ≤ c ∨ (31 ≤ c ∧ c < 91) → J2 c = J c) ∧ CP J2 1 (fs (n - 1)) B ∧ PP J2 B (n - 1) fs)) (XF (if 0 < n then 0 else 3) J) := by
  obtain ⟨hc, hw, hp, hsn, h350, hB⟩ := h
  have h0 := hw.1
  have h2 := hw.2.1
  have h3 := hw.2.2.1
  have h4 := hw.2.2.2.2.1.1
  have hr := hw.2.2.2.2.1
  have h6 := hw.2.2.2.1.1
  have s0 := hc.1.1.1
  have s3 := hc.1.1.2.1
  have s2 := hc.1.1.2.2.1
  have s1 := hc.1.1.2.2.2.1
  have s5 := hc.1.1.2.2.2.2
  have h5 := hw.2.2.2.2.2.2.2.2.2
  have hEn := hw.2.2.2.2.2.1
  have hCE := hc.1.2.2.2.2
  have hb := hw.2.2.2.2.2.2.2.2.1
  have hmo := hw.2.2.2.2.2.2.2.1
  have hv : ∀ m, m < 6 → J (1 + 2) m = fvig f m ∧ fvig f m < 256 := fun m hm => ⟨hc.1.2.1 m hm, (hmo m hm).1⟩
  have s4 : J (1 + 3) 3 = f 4 := hc.1.2.2.1.1
  have s7 : J (1 + 7) 2 = f 6 := hc.1.2.2.2.1.1
  have hh := hw.2.2.2.1
  have hn1 := hp.1
  have hn8 := hp.2.1
  refine SJ_of_VJ (by decide +kernel) (Nat.le_of_ble_eq_true rfl) ?_
  show VJ g mX10_undo 16 1 6 _ _ 0 [(0, .ref (g.2 0))] [] J
  refine J_aload_n 1 rfl dX10_undo_0 rfl ?_
  refine g_X10_past 4 rfl dX10_undo_1 lkX10_25 ?_
  refine g_X6_kept 7 rfl dX10_undo_4 lkX10_410 ?_
  refine J_if_le 14 10 (by decide) rfl dX10_undo_7 (by omega) (fun c7 => ?_) (fun c7 => ?_)
  · refine J_iconst 15 0 rfl dX10_undo_14 ic_0 ?_
    refine J_cv (b := bt False) rfl ?_
    refine J_reqState (hdp := _) 18 rfl dX10_undo_15 lkX10_330 (by exact Nat.le_of_ble_eq_true rfl) (by omega) (by omega) (by omega) (fun c15 => ⟨by rw [if_neg (by omega)]; omega, by rw [if_neg (by omega)]; rfl, Sc.refl⟩) (fun c15 => absurd c15 id)
  · refine J_iconst 11 1 rfl dX10_undo_10 ic_1 ?_
    refine J_goto 15 (by decide) dX10_undo_11 ?_
    refine J_cv (b := bt True) rfl ?_
    refine J_reqState (hdp := _) 18 rfl dX10_undo_15 lkX10_330 (by exact Nat.le_of_ble_eq_true rfl) (by omega) (by omega) (by omega) (fun c15 => absurd trivial c15) (fun c15 => ?_)
    refine J_aload_n 19 rfl dX10_undo_18 rfl ?_
    refine g_X10_past 22 rfl dX10_undo_19 lkX10_25 ?_
    refine J_aload_n 23 rfl dX10_undo_22 rfl ?_
    refine g_X10_house 26 rfl dX10_undo_23 lkX10_10 ?_
    refine J_callVip (As := [_]) 29 _ rfl kalX6_takeBack lkX10_411 dX10_undo_26 (lt_X6) (so_X6) rfl rfl rfl (by exact Nat.le_of_ble_eq_true rfl) (by omega) (S_X6_takeBack hp (by omega)) (fun J26 q26 => ?_)
    refine J_iret rfl dX10_undo_29 ?_
    exact ⟨by rw [if_pos (by omega)], rfl, q26⟩

theorem S_X10_save {g : Gn} {J : DJ} {n B : Nat} {fs : Nat → Nat → Nat} {f s : Nat → Nat} (h : CI J f n fs s B) : SJ g mX10_save 16 0 0 [.ref (g.2 0)] J (QF 0 (f 0) (fun J2 => ∃ J1, J2 = up2 J1 0 12 1 ∧ Fr 61 30 J J1 ∧ CP J1 61 f B)) NoX := by
  obtain ⟨hc, hw, hp, hsn, h350, hB⟩ := h
  have h0 := hw.1
  have h2 := hw.2.1
  have h3 := hw.2.2.1
  have h4 := hw.2.2.2.2.1.1
  have hr := hw.2.2.2.2.1
  have h6 := hw.2.2.2.1.1
  have s0 := hc.1.1.1
  have s3 := hc.1.1.2.1
  have s2 := hc.1.1.2.2.1
  have s1 := hc.1.1.2.2.2.1
  have s5 := hc.1.1.2.2.2.2
  have h5 := hw.2.2.2.2.2.2.2.2.2
  have hEn := hw.2.2.2.2.2.1
  have hCE := hc.1.2.2.2.2
  have hb := hw.2.2.2.2.2.2.2.2.1
  have hmo := hw.2.2.2.2.2.2.2.1
  have hv : ∀ m, m < 6 → J (1 + 2) m = fvig f m ∧ fvig f m < 256 := fun m hm => ⟨hc.1.2.1 m hm, (hmo m hm).1⟩
  have s4 : J (1 + 3) 3 = f 4 := hc.1.2.2.1.1
  have s7 : J (1 + 7) 2 = f 6 := hc.1.2.2.2.1.1
  have hh := hw.2.2.2.1
  refine SJ_of_VJ (by decide +kernel) (Nat.le_of_ble_eq_true rfl) ?_
  show VJ g mX10_save 16 0 0 _ _ 0 [(0, .ref (g.2 0))] [] J
  refine J_aload_n 1 rfl dX10_save_0 rfl ?_
  refine g_X10_snapshot 4 rfl dX10_save_1 lkX10_19 ?_
  refine J_aload_n 5 rfl dX10_save_4 rfl ?_
  refine g_X10_house 8 rfl dX10_save_5 lkX10_10 ?_
  refine J_callVvp (As := [_]) 11 _ rfl kalX3_become lkX10_184 dX10_save_8 (lt_X3 (by first | assumption | exact isH_1 | exact isH_31 | exact isH_61 | exact isH_p (by omega) | exact isH_E (by assumption) (by omega) | exact isH_R (by assumption) | exact isH_K (by assumption) | exact isH_E isH_1 (by omega) | exact isH_R isH_1 | exact isH_K isH_1 | exact isH_R isH_31 | exact isH_K isH_31 | exact isH_E isH_31 (by omega))) (so_X3 (by first | assumption | exact isH_1 | exact isH_31 | exact isH_61 | exact isH_p (by omega) | exact isH_E (by assumption) (by omega) | exact isH_R (by assumption) | exact isH_K (by assumption) | exact isH_E isH_1 (by omega) | exact isH_R isH_1 | exact isH_K isH_1 | exact isH_R isH_31 | exact isH_K isH_31 | exact isH_E isH_31 (by omega))) rfl rfl rfl (by exact Nat.le_of_ble_eq_true rfl) (by omega) (S_X3_become isH_61 isH_1 (by omega) hc hw) (fun J8 q8 => ?_)
  refine J_aload_n 12 rfl dX10_save_11 rfl ?_
  refine J_iconst 13 1 rfl dX10_save_12 ic_1 ?_
  refine p_X10_hasSnapshot 16 (by omega) rfl dX10_save_13 lkX10_415 ?_
  refine J_aload_n 17 rfl dX10_save_16 rfl ?_
  refine g_X10_house 20 rfl dX10_save_17 lkX10_10 ?_
  refine g_X3_engineCount 23 (by first | assumption | exact isH_1 | exact isH_31 | exact isH_61 | exact isH_p (by omega) | exact isH_E (by assumption) (by omega) | exact isH_R (by assumption) | exact isH_K (by assumption) | exact isH_E isH_1 (by omega) | exact isH_R isH_1 | exact isH_K isH_1 | exact isH_R isH_31 | exact isH_K isH_31 | exact isH_E isH_31 (by omega)) rfl dX10_save_20 lkX10_110 ?_
  refine J_iret rfl dX10_save_23 ?_
  exact ⟨rfl, by rw [up2_ne (by omega), q8.1 1 (by omega), s0], J8, rfl, q8.1, q8.2⟩

theorem S_X10_restore {g : Gn} {J : DJ} {n B : Nat} {fs : Nat → Nat → Nat} {f s : Nat → Nat} (h : CI J f n fs s B) : SJ g mX10_restore 16 1 6 [.ref (g.2 0)] J (QF (if J 0 12 = 1 then 0 else 3) (s 0) (fun J2 => ∃ J1, J2 = up2 J1 91 2 0 ∧ Fr 1 30 J J1 ∧ CP J1 1 s B)) (XF (if J 0 12 = 1 then 0 else 3) J) := by
  obtain ⟨hc, hw, hp, hsn, h350, hB⟩ := h
  have h0 := hw.1
  have h2 := hw.2.1
  have h3 := hw.2.2.1
  have h4 := hw.2.2.2.2.1.1
  have hr := hw.2.2.2.2.1
  have h6 := hw.2.2.2.1.1
  have s0 := hc.1.1.1
  have s3 := hc.1.1.2.1
  have s2 := hc.1.1.2.2.1
  have s1 := hc.1.1.2.2.2.1
  have s5 := hc.1.1.2.2.2.2
  have h5 := hw.2.2.2.2.2.2.2.2.2
  have hEn := hw.2.2.2.2.2.1
  have hCE := hc.1.2.2.2.2
  have hb := hw.2.2.2.2.2.2.2.2.1
  have hmo := hw.2.2.2.2.2.2.2.1
  have hv : ∀ m, m < 6 → J (1 + 2) m = fvig f m ∧ fvig f m < 256 := fun m hm => ⟨hc.1.2.1 m hm, (hmo m hm).1⟩
  have s4 : J (1 + 3) 3 = f 4 := hc.1.2.2.1.1
  have s7 : J (1 + 7) 2 = f 6 := hc.1.2.2.2.1.1
  have hh := hw.2.2.2.1
  refine SJ_of_VJ (by decide +kernel) (Nat.le_of_ble_eq_true rfl) ?_
  show VJ g mX10_restore 16 1 6 _ _ 0 [(0, .ref (g.2 0))] [] J
  refine J_aload_n 1 rfl dX10_restore_0 rfl ?_
  refine g_X10_hasSnapshot 4 rfl dX10_restore_1 lkX10_415 ?_
  refine J_cv (b := bt (J 0 12 = 1)) (hsn.elim (fun z => by unfold bt; rw [z]; rfl) (fun z => by unfold bt; rw [z.1]; rfl)) ?_
  refine J_reqState (hdp := _) 7 rfl dX10_restore_4 lkX10_330 (by exact Nat.le_of_ble_eq_true rfl) (by omega) (by omega) (by omega) (fun c4 => ⟨by rw [if_neg c4]; omega, by rw [if_neg c4]; rfl, Sc.refl⟩) (fun c4 => ?_)
  have cS : CP J 61 s B ∧ WF s B := by
    rcases hsn with z | z
    · omega
    · exact z.2
  refine J_aload_n 8 rfl dX10_restore_7 rfl ?_
  refine g_X10_house 11 rfl dX10_restore_8 lkX10_10 ?_
  refine J_aload_n 12 rfl dX10_restore_11 rfl ?_
  refine g_X10_snapshot 15 rfl dX10_restore_12 lkX10_19 ?_
  refine J_callVvp (As := [_]) 18 _ rfl kalX3_become lkX10_184 dX10_restore_15 (lt_X3 (by first | assumption | exact isH_1 | exact isH_31 | exact isH_61 | exact isH_p (by omega) | exact isH_E (by assumption) (by omega) | exact isH_R (by assumption) | exact isH_K (by assumption) | exact isH_E isH_1 (by omega) | exact isH_R isH_1 | exact isH_K isH_1 | exact isH_R isH_31 | exact isH_K isH_31 | exact isH_E isH_31 (by omega))) (so_X3 (by first | assumption | exact isH_1 | exact isH_31 | exact isH_61 | exact isH_p (by omega) | exact isH_E (by assumption) (by omega) | exact isH_R (by assumption) | exact isH_K (by assumption) | exact isH_E isH_1 (by omega) | exact isH_R isH_1 | exact isH_K isH_1 | exact isH_R isH_31 | exact isH_K isH_31 | exact isH_E isH_31 (by omega))) rfl rfl rfl (by exact Nat.le_of_ble_eq_true rfl) (by omega) (S_X3_become isH_1 isH_61 (by omega) cS.1 cS.2) (fun J15 q15 => ?_)
  have k0 := q15.2.1.1.1
  refine J_aload_n 19 rfl dX10_restore_18 rfl ?_
  refine g_X10_past 22 rfl dX10_restore_19 lkX10_25 ?_
  refine J_callVvp (As := []) 25 _ rfl kalX6_forget lkX10_419 dX10_restore_22 (lt_X6) (so_X6) rfl rfl rfl (by exact Nat.le_of_ble_eq_true rfl) (by omega) (S_X6_forget) (fun J22 q22 => ?_)
  subst q22
  refine J_aload_n 26 rfl dX10_restore_25 rfl ?_
  refine g_X10_house 29 rfl dX10_restore_26 lkX10_10 ?_
  refine g_X3_engineCount 32 (by first | assumption | exact isH_1 | exact isH_31 | exact isH_61 | exact isH_p (by omega) | exact isH_E (by assumption) (by omega) | exact isH_R (by assumption) | exact isH_K (by assumption) | exact isH_E isH_1 (by omega) | exact isH_R isH_1 | exact isH_K isH_1 | exact isH_R isH_31 | exact isH_K isH_31 | exact isH_E isH_31 (by omega)) rfl dX10_restore_29 lkX10_110 ?_
  refine J_iret rfl dX10_restore_32 ?_
  exact ⟨by rw [if_pos c4], by rw [up2_ne (by omega), k0], J15, rfl, q15.1, q15.2⟩

