/-! THE PERIOD BY BORDERS (laid by wip/whole/src/p45.py) -/
def isB (w : Nat → Nat) (m l : Nat) : Prop := l < m ∧ ∀ i, i < l → w i = w (m - l + i)
def LB (w : Nat → Nat) (m l : Nat) : Prop := isB w m l ∧ ∀ k, isB w m k → k ≤ l
theorem isB_0 {w : Nat → Nat} {m : Nat} (h : 0 < m) : isB w m 0 := ⟨h, fun i hi => absurd hi (by omega)⟩
theorem isB_tr {w : Nat → Nat} {m l k : Nat} (h1 : isB w m l) (h2 : isB w l k) : isB w m k := ⟨by have := h1.1; have := h2.1; omega, fun i hi => by
  have a := h1.1
  have b := h2.1
  rw [h2.2 i hi, h1.2 (l - k + i) (by omega), show m - l + (l - k + i) = m - k + i by omega]⟩
theorem isB_sub {w : Nat → Nat} {m l k : Nat} (h1 : isB w m l) (h2 : isB w m k) (h : k < l) : isB w l k := ⟨h, fun i hi => by
  have a := h1.1
  rw [h2.2 i hi, h1.2 (l - k + i) (by omega), show m - l + (l - k + i) = m - k + i by omega]⟩
theorem isB_ext {w : Nat → Nat} {p k : Nat} : isB w (p + 1) (k + 1) ↔ isB w p k ∧ w k = w p := by
  constructor
  · rintro ⟨h1, h2⟩
    refine ⟨⟨by omega, fun i hi => ?_⟩, ?_⟩
    · rw [h2 i (by omega), show p + 1 - (k + 1) + i = p - k + i by omega]
    · rw [h2 k (by omega), show p + 1 - (k + 1) + k = p by omega]
  · rintro ⟨⟨h1, h2⟩, h3⟩
    refine ⟨by omega, fun i hi => ?_⟩
    by_cases e : i = k
    · rw [e, h3, show p + 1 - (k + 1) + k = p by omega]
    · rw [h2 i (by omega), show p + 1 - (k + 1) + i = p - k + i by omega]
theorem LB_ext {w : Nat → Nat} {p l : Nat} (h1 : isB w p l) (h2 : ∀ k, isB w p k → w k = w p → k ≤ l) (h3 : w l = w p) : LB w (p + 1) (l + 1) := ⟨isB_ext.mpr ⟨h1, h3⟩, fun k hk => by
  cases k with
  | zero => omega
  | succ k =>
    have q := isB_ext.mp hk
    have := h2 k q.1 q.2
    omega⟩
theorem LB_ext0 {w : Nat → Nat} {p : Nat} (hp : 1 ≤ p) (h2 : ∀ k, isB w p k → w k = w p → k ≤ 0) (h3 : ¬ w 0 = w p) : LB w (p + 1) 0 := ⟨isB_0 (by omega), fun k hk => by
  cases k with
  | zero => omega
  | succ k =>
    have q := isB_ext.mp hk
    have z := h2 k q.1 q.2
    have e : k = 0 := by omega
    rw [e] at q
    exact absurd q.2 h3⟩
theorem LB_down {w : Nat → Nat} {p l r : Nat} (h1 : isB w p l) (h2 : ∀ k, isB w p k → w k = w p → k ≤ l) (h3 : ¬ w l = w p) (hr : LB w l r) : isB w p r ∧ ∀ k, isB w p k → w k = w p → k ≤ r := ⟨isB_tr h1 hr.1, fun k hk hw => by
  have a := h2 k hk hw
  have b : k ≠ l := fun e => h3 (by rw [← e]; exact hw)
  exact hr.2 k (isB_sub h1 hk (by omega))⟩
theorem LB_per {w : Nat → Nat} {n l : Nat} (h : LB w n l) : perP w n (n - l) := by
  obtain ⟨⟨h1, h2⟩, h3⟩ := h
  refine ⟨by omega, by omega, fun i hi hn => ?_, fun t ht1 ht2 hr => ?_⟩
  · have := h2 (i - (n - l)) (by omega)
    rw [show n - l + (i - (n - l)) = i by omega] at this
    exact this.symm
  · have := h3 (n - t) ⟨by omega, fun i hi => by
      have := hr (n - (n - t) + i) (by omega) (by omega)
      rw [this]
      congr 1
      omega⟩
    omega
theorem S_X1_periodByBorders {g : Gn} {J : DJ} {b : Nat} (hb : isE b) (h4 : J b 4 < 24) (h5 : J b 5 ≤ 24) (hw : ∀ i, i < J b 5 → knk J b i < 1000) (h1 : 1 ≤ J b 5) (h0 : J 350 0 = 0) : SJ g mX1_periodByBorders 1 0 0 [.ref (g.2 b), .ref (g.2 350)] J (Re (fun r J2 => perP (knk J b) (J b 5) r ∧ ∃ R, J2 = sR J 350 R ∧ R 0 = 0)) NoX := by
  have hb4 := isE_lt hb
  have hbb : b + 4 < 350 := by
    obtain ⟨c, e, hc, he, rfl⟩ := hb
    have := isH_le hc
    omega
  refine SJ_of_VJ (by decide +kernel) (Nat.le_of_ble_eq_true rfl) ?_
  show VJ g mX1_periodByBorders 1 0 0 _ _ 0 [(0, .ref (g.2 b)), (1, .ref (g.2 350))] [] J
  have loop : ∀ (n9 : Nat) (p l : Nat) (R : Nat → Nat), J b 5 - p = n9 → 1 ≤ p → p ≤ J b 5 → LB (knk J b) p l → R 0 = 0 → (∀ i, i < p → LB (knk J b) (i + 1) (R i)) → VJ g mX1_periodByBorders 1 0 0 (Re (fun r J2 => perP (knk J b) (J b 5) r ∧ ∃ R, J2 = sR J 350 R ∧ R 0 = 0)) NoX 4 [(0, .ref (g.2 b)), (1, .ref (g.2 350)), (2, .int (nI (l))), (3, .int (nI (p)))] [] (sR J 350 R) := by
    intro n9
    induction n9 using Nat.strongRecOn with
    | ind n9 ih =>
    intro p l R hi h1p hle hL hR0 hR
    have lp := hL.1.1
    refine J_iload_n 5 rfl dX1_periodByBorders_4 rfl ?_
    refine J_aload_n 6 rfl dX1_periodByBorders_5 rfl ?_
    refine g_X1_knocksKept 9 (by first | assumption | exact isH_1 | exact isH_31 | exact isH_61 | exact isH_p (by omega) | exact isH_E (by assumption) (by omega) | exact isH_R (by assumption) | exact isH_K (by assumption) | exact isH_E isH_1 (by omega) | exact isH_R isH_1 | exact isH_K isH_1 | exact isH_R isH_31 | exact isH_K isH_31 | exact isH_E isH_31 (by omega)) rfl dX1_periodByBorders_6 lkX1_37 ?_
    refine J_cv (b := J b 5) (by rw [sR_ne (by omega)]) ?_
    refine J_icmp_ge 77 12 (by decide) rfl dX1_periodByBorders_9 (by omega) (by omega) (fun c9 => ?_) (fun c9 => ?_)
    · refine J_aload_n 78 rfl dX1_periodByBorders_77 rfl ?_
      refine g_X1_knocksKept 81 (by first | assumption | exact isH_1 | exact isH_31 | exact isH_61 | exact isH_p (by omega) | exact isH_E (by assumption) (by omega) | exact isH_R (by assumption) | exact isH_K (by assumption) | exact isH_E isH_1 (by omega) | exact isH_R isH_1 | exact isH_K isH_1 | exact isH_R isH_31 | exact isH_K isH_31 | exact isH_E isH_31 (by omega)) rfl dX1_periodByBorders_78 lkX1_37 ?_
      refine J_cv (b := J b 5) (by rw [sR_ne (by omega)]) ?_
      refine J_iload_n 82 rfl dX1_periodByBorders_81 rfl ?_
      refine J_isub 83 rfl dX1_periodByBorders_82 (by have := hL.1.1; omega) ?_
      refine J_iret rfl dX1_periodByBorders_83 ?_
      have e : p = J b 5 := by omega
      subst e
      exact ⟨_, rfl, LB_per hL, R, rfl, hR0⟩
    · have tail : ∀ (l t : Nat), isB (knk J b) p l → (∀ k, isB (knk J b) p k → knk J b k = knk J b p → k ≤ l) → (l = 0 ∨ knk J b l = knk J b p) → VJ g mX1_periodByBorders 1 0 0 (Re (fun r J2 => perP (knk J b) (J b 5) r ∧ ∃ R, J2 = sR J 350 R ∧ R 0 = 0)) NoX 54 [(0, .ref (g.2 b)), (1, .ref (g.2 350)), (2, .int (nI (l))), (3, .int (nI (p))), (4, .int (nI (knk J b p))), (5, .int (nI (t)))] [] (sR J 350 R) := by
        intro l t b1 b2 b3
        have bl := b1.1
        have wl := hw l (by omega)
        have wp := hw p (by omega)
        refine J_aload_n 55 rfl dX1_periodByBorders_54 rfl ?_
        refine J_iload_n 56 rfl dX1_periodByBorders_55 rfl ?_
        refine J_callVi (As := [_]) 59 _ rfl kalX1_keptKnock lkX1_78 dX1_periodByBorders_56 (lt_X1 (by first | assumption | exact isH_1 | exact isH_31 | exact isH_61 | exact isH_p (by omega) | exact isH_E (by assumption) (by omega) | exact isH_R (by assumption) | exact isH_K (by assumption) | exact isH_E isH_1 (by omega) | exact isH_R isH_1 | exact isH_K isH_1 | exact isH_R isH_31 | exact isH_K isH_31 | exact isH_E isH_31 (by omega))) (so_X1 (by first | assumption | exact isH_1 | exact isH_31 | exact isH_61 | exact isH_p (by omega) | exact isH_E (by assumption) (by omega) | exact isH_R (by assumption) | exact isH_K (by assumption) | exact isH_E isH_1 (by omega) | exact isH_R isH_1 | exact isH_K isH_1 | exact isH_R isH_31 | exact isH_K isH_31 | exact isH_E isH_31 (by omega))) rfl rfl rfl (by exact Nat.le_of_ble_eq_true rfl) (by omega) (S_X1_keptKnock hb (by rw [sR_ne (by omega)]; exact h4) (by omega)) ?_
        refine J_cv (b := knk J b l) (by rw [sR_ne (by omega), sR_ne (by omega)]; rfl) ?_
        refine J_iload 61 rfl dX1_periodByBorders_59 rfl ?_
        refine J_icmp_ne 67 64 (by decide) rfl dX1_periodByBorders_61 (by omega) (by omega) (fun c61 => ?_) (fun c61 => ?_)
        · refine J_aload_n 68 rfl dX1_periodByBorders_67 rfl ?_
          refine J_iload_n 69 rfl dX1_periodByBorders_68 rfl ?_
          refine J_iload_n 70 rfl dX1_periodByBorders_69 rfl ?_
          refine J_iast 71 rfl dX1_periodByBorders_70 (sa_X10_borders) (by omega) ?_
          refine J_iinc 74 1 rfl dX1_periodByBorders_71 ic_1 rfl (Nat.le_of_ble_eq_true rfl) ?_
          refine J_goto 4 (by decide) dX1_periodByBorders_74 ?_
          rw [up2_in]
          refine J_keep [0, 1, 2, 3] ?_
          first
            | refine ih _ (by omega) (p + 1) (l + 1) _ rfl (by omega) (by omega) (LB_ext b1 b2 (by assumption)) (by rw [up1_ne (by omega)]; exact hR0) (fun i hi => ?_)
              rw [up1_app]
              split
              · next e => rw [e]; exact LB_ext b1 b2 (by assumption)
              · exact hR i (by omega)
            | have l0 : l = 0 := by
                rcases b3 with z | z
                · exact z
                · exact absurd z (by assumption)
              subst l0
              refine ih _ (by omega) (p + 1) 0 _ rfl (by omega) (by omega) (LB_ext0 (by omega) b2 (by assumption)) (by rw [up1_ne (by omega)]; exact hR0) (fun i hi => ?_)
              rw [up1_app]
              split
              · next e => rw [e]; exact LB_ext0 (by omega) b2 (by assumption)
              · exact hR i (by omega)
        · refine J_iinc 67 1 rfl dX1_periodByBorders_64 ic_1 rfl (Nat.le_of_ble_eq_true rfl) ?_
          refine J_aload_n 68 rfl dX1_periodByBorders_67 rfl ?_
          refine J_iload_n 69 rfl dX1_periodByBorders_68 rfl ?_
          refine J_iload_n 70 rfl dX1_periodByBorders_69 rfl ?_
          refine J_iast 71 rfl dX1_periodByBorders_70 (sa_X10_borders) (by omega) ?_
          refine J_iinc 74 1 rfl dX1_periodByBorders_71 ic_1 rfl (Nat.le_of_ble_eq_true rfl) ?_
          refine J_goto 4 (by decide) dX1_periodByBorders_74 ?_
          rw [up2_in]
          refine J_keep [0, 1, 2, 3] ?_
          first
            | refine ih _ (by omega) (p + 1) (l + 1) _ rfl (by omega) (by omega) (LB_ext b1 b2 (by assumption)) (by rw [up1_ne (by omega)]; exact hR0) (fun i hi => ?_)
              rw [up1_app]
              split
              · next e => rw [e]; exact LB_ext b1 b2 (by assumption)
              · exact hR i (by omega)
            | have l0 : l = 0 := by
                rcases b3 with z | z
                · exact z
                · exact absurd z (by assumption)
              subst l0
              refine ih _ (by omega) (p + 1) 0 _ rfl (by omega) (by omega) (LB_ext0 (by omega) b2 (by assumption)) (by rw [up1_ne (by omega)]; exact hR0) (fun i hi => ?_)
              rw [up1_app]
              split
              · next e => rw [e]; exact LB_ext0 (by omega) b2 (by assumption)
              · exact hR i (by omega)
      have inner : ∀ (n9 : Nat) (t l : Nat), p - t = n9 → isB (knk J b) p l → (∀ k, isB (knk J b) p k → knk J b k = knk J b p → k ≤ l) → l + t < p → VJ g mX1_periodByBorders 1 0 0 (Re (fun r J2 => perP (knk J b) (J b 5) r ∧ ∃ R, J2 = sR J 350 R ∧ R 0 = 0)) NoX 22 [(0, .ref (g.2 b)), (1, .ref (g.2 350)), (2, .int (nI (l))), (3, .int (nI (p))), (4, .int (nI (knk J b p))), (5, .int (nI (t)))] [] (sR J 350 R) := by
        intro n9
        induction n9 using Nat.strongRecOn with
        | ind n9 iht =>
        intro t l hi2 b1 b2 hlt
        have bl := b1.1
        have wl := hw l (by omega)
        have wp := hw p (by omega)
        refine J_iload 24 rfl dX1_periodByBorders_22 rfl ?_
        refine J_iload_n 25 rfl dX1_periodByBorders_24 rfl ?_
        refine J_icmp_ge 54 28 (by decide) rfl dX1_periodByBorders_25 (by omega) (by omega) (fun c25 => ?_) (fun c25 => ?_)
        · first
            | exact tail l t b1 b2 (Or.inl (by omega))
            | exact tail l t b1 b2 (Or.inr (by assumption))
        · refine J_iload_n 29 rfl dX1_periodByBorders_28 rfl ?_
          refine J_if_le 54 32 (by decide) rfl dX1_periodByBorders_29 (by omega) (fun c29 => ?_) (fun c29 => ?_)
          · first
              | exact tail l t b1 b2 (Or.inl (by omega))
              | exact tail l t b1 b2 (Or.inr (by assumption))
          · refine J_aload_n 33 rfl dX1_periodByBorders_32 rfl ?_
            refine J_iload_n 34 rfl dX1_periodByBorders_33 rfl ?_
            refine J_callVi (As := [_]) 37 _ rfl kalX1_keptKnock lkX1_78 dX1_periodByBorders_34 (lt_X1 (by first | assumption | exact isH_1 | exact isH_31 | exact isH_61 | exact isH_p (by omega) | exact isH_E (by assumption) (by omega) | exact isH_R (by assumption) | exact isH_K (by assumption) | exact isH_E isH_1 (by omega) | exact isH_R isH_1 | exact isH_K isH_1 | exact isH_R isH_31 | exact isH_K isH_31 | exact isH_E isH_31 (by omega))) (so_X1 (by first | assumption | exact isH_1 | exact isH_31 | exact isH_61 | exact isH_p (by omega) | exact isH_E (by assumption) (by omega) | exact isH_R (by assumption) | exact isH_K (by assumption) | exact isH_E isH_1 (by omega) | exact isH_R isH_1 | exact isH_K isH_1 | exact isH_R isH_31 | exact isH_K isH_31 | exact isH_E isH_31 (by omega))) rfl rfl rfl (by exact Nat.le_of_ble_eq_true rfl) (by omega) (S_X1_keptKnock hb (by rw [sR_ne (by omega)]; exact h4) (by omega)) ?_
            refine J_cv (b := knk J b l) (by rw [sR_ne (by omega), sR_ne (by omega)]; rfl) ?_
            refine J_iload 39 rfl dX1_periodByBorders_37 rfl ?_
            refine J_icmp_eq 54 42 (by decide) rfl dX1_periodByBorders_39 (by omega) (by omega) (fun c39 => ?_) (fun c39 => ?_)
            · first
                | exact tail l t b1 b2 (Or.inl (by omega))
                | exact tail l t b1 b2 (Or.inr (by assumption))
            · refine J_aload_n 43 rfl dX1_periodByBorders_42 rfl ?_
              refine J_iload_n 44 rfl dX1_periodByBorders_43 rfl ?_
              refine J_iconst 45 1 rfl dX1_periodByBorders_44 ic_1 ?_
              refine J_isub 46 rfl dX1_periodByBorders_45 (by omega) ?_
              refine J_iald 47 rfl dX1_periodByBorders_46 (sa_X10_borders) (by omega) ?_
              refine J_cv (b := R (l - 1)) (by rw [sR_at]) ?_
              refine J_istore_n 48 rfl dX1_periodByBorders_47 rfl (Nat.le_of_ble_eq_true rfl) ?_
              refine J_iinc 51 1 rfl dX1_periodByBorders_48 ic_1 rfl (Nat.le_of_ble_eq_true rfl) ?_
              refine J_goto 22 (by decide) dX1_periodByBorders_51 ?_
              have lr := hR (l - 1) (by omega)
              rw [show l - 1 + 1 = l by omega] at lr
              have ld := LB_down b1 b2 (by assumption) lr
              have := lr.1.1
              exact iht _ (by omega) (t + 1) _ rfl ld.1 ld.2 (by omega)
      refine J_aload_n 13 rfl dX1_periodByBorders_12 rfl ?_
      refine J_iload_n 14 rfl dX1_periodByBorders_13 rfl ?_
      refine J_callVi (As := [_]) 17 _ rfl kalX1_keptKnock lkX1_78 dX1_periodByBorders_14 (lt_X1 (by first | assumption | exact isH_1 | exact isH_31 | exact isH_61 | exact isH_p (by omega) | exact isH_E (by assumption) (by omega) | exact isH_R (by assumption) | exact isH_K (by assumption) | exact isH_E isH_1 (by omega) | exact isH_R isH_1 | exact isH_K isH_1 | exact isH_R isH_31 | exact isH_K isH_31 | exact isH_E isH_31 (by omega))) (so_X1 (by first | assumption | exact isH_1 | exact isH_31 | exact isH_61 | exact isH_p (by omega) | exact isH_E (by assumption) (by omega) | exact isH_R (by assumption) | exact isH_K (by assumption) | exact isH_E isH_1 (by omega) | exact isH_R isH_1 | exact isH_K isH_1 | exact isH_R isH_31 | exact isH_K isH_31 | exact isH_E isH_31 (by omega))) rfl rfl rfl (by exact Nat.le_of_ble_eq_true rfl) (by omega) (S_X1_keptKnock hb (by rw [sR_ne (by omega)]; exact h4) (by omega)) ?_
      refine J_cv (b := knk J b p) (by rw [sR_ne (by omega), sR_ne (by omega)]; rfl) ?_
      refine J_istore 19 rfl dX1_periodByBorders_17 (Nat.le_of_ble_eq_true rfl) ?_
      refine J_iconst 20 0 rfl dX1_periodByBorders_19 ic_0 ?_
      refine J_istore 22 rfl dX1_periodByBorders_20 (Nat.le_of_ble_eq_true rfl) ?_
      exact inner _ 0 l rfl hL.1 (fun k hk _ => hL.2 k hk) (by have := hL.1.1; omega)
  refine J_iconst 1 0 rfl dX1_periodByBorders_0 ic_0 ?_
  refine J_istore_n 2 rfl dX1_periodByBorders_1 rfl (Nat.le_of_ble_eq_true rfl) ?_
  refine J_iconst 3 1 rfl dX1_periodByBorders_2 ic_1 ?_
  refine J_istore_n 4 rfl dX1_periodByBorders_3 rfl (Nat.le_of_ble_eq_true rfl) ?_
  have b1 : LB (knk J b) 1 0 := ⟨isB_0 (by omega), fun k hk => by have := hk.1; omega⟩
  have l9 := loop _ 1 0 (J 350) rfl (by omega) h1 b1 h0 (fun i hi => by rw [show i = 0 by omega, h0]; exact b1)
  rw [sR_id] at l9
  exact l9

