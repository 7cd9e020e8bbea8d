/-! PENANCES (laid by wip/whole/src/p44.py) -/
abbrev rh (f : Nat → Nat) : Nat → Nat := (fun i => f (222 + 3 * i))
abbrev rp (f : Nat → Nat) : Nat → Nat := (fun i => f (223 + 3 * i))
theorem S_X7_queueUp {g : Gn} {J : DJ} {b x : Nat} {f q : Nat → Nat} (hb : isH b) (h : CR J (b + 3) f) (hr : ROk f) (hx : x < f 4) (hq : J 342 = q) (hs : Srt (rh f) (rp f) q x) : SJ g mX7_queueUp 1 0 0 [.ref (g.2 341), .ref (g.2 (b + 3)), .int (nI (x))] J (Rq (fun J2 => ∃ r, J2 = sR J 342 r ∧ Srt (rh f) (rp f) r (x + 1))) NoX := by
  have h8 := hr.1
  have hb3 := isH_le hb
  refine SJ_of_VJ (by decide +kernel) (Nat.le_of_ble_eq_true rfl) ?_
  show VJ g mX7_queueUp 1 0 0 _ _ 0 [(0, .ref (g.2 341)), (1, .ref (g.2 (b + 3))), (2, .int (nI (x)))] [] J
  have loop : ∀ (n9 : Nat) (l : Nat) (r : Nat → Nat), l = n9 → l ≤ x → (∀ i, i < l → r i = q i) → (∀ i, l ≤ i → i < x → r (i + 1) = q i ∧ sb (rh f) (rp f) x (q i) = true) → VJ g mX7_queueUp 1 0 0 (Rq (fun J2 => ∃ r, J2 = sR J 342 r ∧ Srt (rh f) (rp f) r (x + 1))) NoX 2 [(0, .ref (g.2 341)), (1, .ref (g.2 (b + 3))), (2, .int (nI (x))), (3, .int (nI (l)))] [] (sR J 342 r) := by
    intro n9
    induction n9 using Nat.strongRecOn with
    | ind n9 ih =>
    intro l r hi hle hlo hhi
    refine J_iload_n 3 rfl dX7_queueUp_2 rfl ?_
    refine J_if_le 42 6 (by decide) rfl dX7_queueUp_3 (by omega) (fun c3 => ?_) (fun c3 => ?_)
    · refine J_aload_n 43 rfl dX7_queueUp_42 rfl ?_
      refine g_X7_queue 46 rfl dX7_queueUp_43 lkX7_9 ?_
      refine J_iload_n 47 rfl dX7_queueUp_46 rfl ?_
      refine J_iload_n 48 rfl dX7_queueUp_47 rfl ?_
      refine J_iast 49 rfl dX7_queueUp_48 (sa_X7_queue) (by omega) ?_
      refine J_vret rfl dX7_queueUp_49 ?_
      rw [up2_in]
      have key : l = 0 ∨ sb (rh f) (rp f) x (q (l - 1)) = false := by
        first
          | exact Or.inl (by omega)
          | exact Or.inr (decide_eq_false (by assumption))
      refine ⟨rfl, _, rfl, Srt_congr (ins_Srt (fun i hi => (hr.2 i (by omega)).2.2.2.1) hs hle (fun i h1 h2 => (hhi i h1 h2).2) key) (fun i hi => ?_)⟩
      rw [up1_app]
      unfold ins
      by_cases a : i = l
      · rw [if_pos a, if_neg (by omega), if_pos a]
      · rw [if_neg a]
        by_cases c : i < l
        · rw [if_pos c]; exact hlo i c
        · rw [if_neg c, if_neg a]
          have z := (hhi (i - 1) (by omega) (by omega)).1
          rw [show i - 1 + 1 = i by omega] at z
          exact z
    · have ql := hs.2.1 (l - 1) (by omega)
      refine J_aload_n 7 rfl dX7_queueUp_6 rfl ?_
      refine J_iload_n 8 rfl dX7_queueUp_7 rfl ?_
      refine J_aload_n 9 rfl dX7_queueUp_8 rfl ?_
      refine g_X7_queue 12 rfl dX7_queueUp_9 lkX7_9 ?_
      refine J_iload_n 13 rfl dX7_queueUp_12 rfl ?_
      refine J_iconst 14 1 rfl dX7_queueUp_13 ic_1 ?_
      refine J_isub 15 rfl dX7_queueUp_14 (by omega) ?_
      refine J_iald 16 rfl dX7_queueUp_15 (sa_X7_queue) (by omega) ?_
      refine J_cv (b := q (l - 1)) (by rw [sR_at, hlo (l - 1) (by omega)]) ?_
      refine J_callVi (As := [_, _]) 19 _ rfl kalX8_isBefore lkX7_34 dX7_queueUp_16 (lt_X8 (by first | assumption | exact isH_1 | exact isH_31 | exact isH_61 | exact isH_p (by omega) | exact isH_E (by assumption) (by omega) | exact isH_R (by assumption) | exact isH_K (by assumption) | exact isH_E isH_1 (by omega) | exact isH_R isH_1 | exact isH_K isH_1 | exact isH_R isH_31 | exact isH_K isH_31 | exact isH_E isH_31 (by omega))) (so_X8 (by first | assumption | exact isH_1 | exact isH_31 | exact isH_61 | exact isH_p (by omega) | exact isH_E (by assumption) (by omega) | exact isH_R (by assumption) | exact isH_K (by assumption) | exact isH_E isH_1 (by omega) | exact isH_R isH_1 | exact isH_K isH_1 | exact isH_R isH_31 | exact isH_K isH_31 | exact isH_E isH_31 (by omega))) rfl rfl rfl (by exact Nat.le_of_ble_eq_true rfl) (by omega) (S_X8_isBefore (isH_R hb) (CR_fr h (fun c x y => sR_ne (by omega))) hr hx (by omega)) ?_
      refine J_ifb_eq (hdp := _) 42 22 (by decide) rfl dX7_queueUp_19 (fun c19 => ?_) (fun c19 => ?_)
      · refine J_aload_n 43 rfl dX7_queueUp_42 rfl ?_
        refine g_X7_queue 46 rfl dX7_queueUp_43 lkX7_9 ?_
        refine J_iload_n 47 rfl dX7_queueUp_46 rfl ?_
        refine J_iload_n 48 rfl dX7_queueUp_47 rfl ?_
        refine J_iast 49 rfl dX7_queueUp_48 (sa_X7_queue) (by omega) ?_
        refine J_vret rfl dX7_queueUp_49 ?_
        rw [up2_in]
        have key : l = 0 ∨ sb (rh f) (rp f) x (q (l - 1)) = false := by
          first
            | exact Or.inl (by omega)
            | exact Or.inr (decide_eq_false (by assumption))
        refine ⟨rfl, _, rfl, Srt_congr (ins_Srt (fun i hi => (hr.2 i (by omega)).2.2.2.1) hs hle (fun i h1 h2 => (hhi i h1 h2).2) key) (fun i hi => ?_)⟩
        rw [up1_app]
        unfold ins
        by_cases a : i = l
        · rw [if_pos a, if_neg (by omega), if_pos a]
        · rw [if_neg a]
          by_cases c : i < l
          · rw [if_pos c]; exact hlo i c
          · rw [if_neg c, if_neg a]
            have z := (hhi (i - 1) (by omega) (by omega)).1
            rw [show i - 1 + 1 = i by omega] at z
            exact z
      · refine J_aload_n 23 rfl dX7_queueUp_22 rfl ?_
        refine g_X7_queue 26 rfl dX7_queueUp_23 lkX7_9 ?_
        refine J_iload_n 27 rfl dX7_queueUp_26 rfl ?_
        refine J_aload_n 28 rfl dX7_queueUp_27 rfl ?_
        refine g_X7_queue 31 rfl dX7_queueUp_28 lkX7_9 ?_
        refine J_iload_n 32 rfl dX7_queueUp_31 rfl ?_
        refine J_iconst 33 1 rfl dX7_queueUp_32 ic_1 ?_
        refine J_isub 34 rfl dX7_queueUp_33 (by omega) ?_
        refine J_iald 35 rfl dX7_queueUp_34 (sa_X7_queue) (by omega) ?_
        refine J_cv (b := q (l - 1)) (by rw [sR_at, hlo (l - 1) (by omega)]) ?_
        refine J_iast 36 rfl dX7_queueUp_35 (sa_X7_queue) (by omega) ?_
        refine J_iincM 39 rfl dX7_queueUp_36 rfl (Nat.le_of_ble_eq_true rfl) (by omega) ?_
        refine J_goto 2 (by decide) dX7_queueUp_39 ?_
        rw [up2_in]
        refine ih (l - 1) (by omega) (l - 1) _ rfl (by omega) (fun i hi => ?_) (fun i h1 h2 => ?_)
        · rw [up1_ne (by omega)]; exact hlo i (by omega)
        · by_cases a : i = l - 1
          · rw [a, show l - 1 + 1 = l by omega, up1_self]
            exact ⟨rfl, decide_eq_true (by assumption)⟩
          · rw [up1_ne (by omega)]; exact hhi i (by omega) h2
  refine J_iload_n 1 rfl dX7_queueUp_0 rfl ?_
  refine J_istore_n 2 rfl dX7_queueUp_1 rfl (Nat.le_of_ble_eq_true rfl) ?_
  have l9 := loop _ x q rfl (Nat.le_refl _) (fun i _ => rfl) (fun i h1 h2 => absurd h1 (by omega))
  rw [show sR J 342 q = J by rw [← hq, sR_id]] at l9
  exact l9

theorem S_X7_leastByQueue {g : Gn} {J : DJ} {b : Nat} {f : Nat → Nat} (hb : isH b) (h : CR J (b + 3) f) (hr : ROk f) : SJ g mX7_leastByQueue 2 0 0 [.ref (g.2 341), .ref (g.2 (b + 3))] J (Rp (lpn (rh f) (rp f) (f 4)) (fun J2 => ∃ r, J2 = sR J 342 r)) NoX := by
  have h8 := hr.1
  have hb3 := isH_le hb
  refine SJ_of_VJ (by decide +kernel) (Nat.le_of_ble_eq_true rfl) ?_
  show VJ g mX7_leastByQueue 2 0 0 _ _ 0 [(0, .ref (g.2 341)), (1, .ref (g.2 (b + 3)))] [] J
  have sums : ∀ (n9 : Nat) (i : Nat) (r : Nat → Nat), f 4 - i = n9 → i ≤ f 4 → Srt (rh f) (rp f) r (f 4) → VJ g mX7_leastByQueue 2 0 0 (Rp (lpn (rh f) (rp f) (f 4)) (fun J2 => ∃ r, J2 = sR J 342 r)) NoX 29 [(0, .ref (g.2 341)), (1, .ref (g.2 (b + 3))), (2, .int (nI (sumN (fun j => rh f (r j)) i))), (3, .int (nI (sumN (fun i => rp f (r i) * sumN (fun j => rh f (r j)) (i + 1)) i))), (4, .int (nI (i)))] [] (sR J 342 r) := by
    intro n9
    induction n9 using Nat.strongRecOn with
    | ind n9 ih =>
    intro i r hi hle hs
    refine J_iload 31 rfl dX7_leastByQueue_29 rfl ?_
    refine J_aload_n 32 rfl dX7_leastByQueue_31 rfl ?_
    refine g_X8_count 35 (by first | assumption | exact isH_1 | exact isH_31 | exact isH_61 | exact isH_p (by omega) | exact isH_E (by assumption) (by omega) | exact isH_R (by assumption) | exact isH_K (by assumption) | exact isH_E isH_1 (by omega) | exact isH_R isH_1 | exact isH_K isH_1 | exact isH_R isH_31 | exact isH_K isH_31 | exact isH_E isH_31 (by omega)) rfl dX7_leastByQueue_32 lkX7_18 ?_
    refine J_cv (b := f 4) (by rw [sR_ne (by omega)]; exact h.1) ?_
    refine J_icmp_ge 76 38 (by decide) rfl dX7_leastByQueue_35 (by omega) (by omega) (fun c35 => ?_) (fun c35 => ?_)
    · refine J_iload_n 77 rfl dX7_leastByQueue_76 rfl ?_
      refine J_iret rfl dX7_leastByQueue_77 ?_
      have e : i = f 4 := by omega
      subst e
      exact ⟨by rw [Srt_sum hs], r, rfl⟩
    · have ri := hs.2.1 i (by omega)
      refine J_iload_n 39 rfl dX7_leastByQueue_38 rfl ?_
      refine J_aload_n 40 rfl dX7_leastByQueue_39 rfl ?_
      refine g_X8_hours 43 (by first | assumption | exact isH_1 | exact isH_31 | exact isH_61 | exact isH_p (by omega) | exact isH_E (by assumption) (by omega) | exact isH_R (by assumption) | exact isH_K (by assumption) | exact isH_E isH_1 (by omega) | exact isH_R isH_1 | exact isH_K isH_1 | exact isH_R isH_31 | exact isH_K isH_31 | exact isH_E isH_31 (by omega)) rfl dX7_leastByQueue_40 lkX7_28 ?_
      refine J_aload_n 44 rfl dX7_leastByQueue_43 rfl ?_
      refine g_X7_queue 47 rfl dX7_leastByQueue_44 lkX7_9 ?_
      refine J_iload 49 rfl dX7_leastByQueue_47 rfl ?_
      refine J_iald 50 rfl dX7_leastByQueue_49 (sa_X7_queue) (by omega) ?_
      refine J_cv (b := r i) (by rw [sR_at]) ?_
      refine J_iald 51 rfl dX7_leastByQueue_50 (sa_X8_hours (by first | assumption | exact isH_1 | exact isH_31 | exact isH_61 | exact isH_p (by omega) | exact isH_E (by assumption) (by omega) | exact isH_R (by assumption) | exact isH_K (by assumption) | exact isH_E isH_1 (by omega) | exact isH_R isH_1 | exact isH_K isH_1 | exact isH_R isH_31 | exact isH_K isH_31 | exact isH_E isH_31 (by omega))) (by omega) ?_
      refine J_cv (b := rh f (r i)) (by rw [sR_ne (by omega)]; exact (h.2 _ ri).2.1) ?_
      refine J_iadd 52 rfl dX7_leastByQueue_51 ?_
      refine J_istore_n 53 rfl dX7_leastByQueue_52 rfl (Nat.le_of_ble_eq_true rfl) ?_
      refine J_iload_n 54 rfl dX7_leastByQueue_53 rfl ?_
      refine J_aload_n 55 rfl dX7_leastByQueue_54 rfl ?_
      refine g_X8_penances 58 (by first | assumption | exact isH_1 | exact isH_31 | exact isH_61 | exact isH_p (by omega) | exact isH_E (by assumption) (by omega) | exact isH_R (by assumption) | exact isH_K (by assumption) | exact isH_E isH_1 (by omega) | exact isH_R isH_1 | exact isH_K isH_1 | exact isH_R isH_31 | exact isH_K isH_31 | exact isH_E isH_31 (by omega)) rfl dX7_leastByQueue_55 lkX7_31 ?_
      refine J_aload_n 59 rfl dX7_leastByQueue_58 rfl ?_
      refine g_X7_queue 62 rfl dX7_leastByQueue_59 lkX7_9 ?_
      refine J_iload 64 rfl dX7_leastByQueue_62 rfl ?_
      refine J_iald 65 rfl dX7_leastByQueue_64 (sa_X7_queue) (by omega) ?_
      refine J_cv (b := r i) (by rw [sR_at]) ?_
      refine J_iald 66 rfl dX7_leastByQueue_65 (sa_X8_penances (by first | assumption | exact isH_1 | exact isH_31 | exact isH_61 | exact isH_p (by omega) | exact isH_E (by assumption) (by omega) | exact isH_R (by assumption) | exact isH_K (by assumption) | exact isH_E isH_1 (by omega) | exact isH_R isH_1 | exact isH_K isH_1 | exact isH_R isH_31 | exact isH_K isH_31 | exact isH_E isH_31 (by omega))) (by omega) ?_
      refine J_cv (b := rp f (r i)) (by rw [sR_ne (by omega)]; exact (h.2 _ ri).2.2) ?_
      refine J_iload_n 67 rfl dX7_leastByQueue_66 rfl ?_
      refine J_imul 68 rfl dX7_leastByQueue_67 ?_
      refine J_iadd 69 rfl dX7_leastByQueue_68 ?_
      refine J_istore_n 70 rfl dX7_leastByQueue_69 rfl (Nat.le_of_ble_eq_true rfl) ?_
      refine J_iinc 73 1 rfl dX7_leastByQueue_70 ic_1 rfl (Nat.le_of_ble_eq_true rfl) ?_
      refine J_goto 29 (by decide) dX7_leastByQueue_73 ?_
      exact ih _ (by omega) (i + 1) r rfl (by omega) hs
  have loop : ∀ (n9 : Nat) (x : Nat) (r : Nat → Nat), f 4 - x = n9 → x ≤ f 4 → Srt (rh f) (rp f) r x → VJ g mX7_leastByQueue 2 0 0 (Rp (lpn (rh f) (rp f) (f 4)) (fun J2 => ∃ r, J2 = sR J 342 r)) NoX 2 [(0, .ref (g.2 341)), (1, .ref (g.2 (b + 3))), (2, .int (nI (x)))] [] (sR J 342 r) := by
    intro n9
    induction n9 using Nat.strongRecOn with
    | ind n9 ih =>
    intro x r hi hle hs
    refine J_iload_n 3 rfl dX7_leastByQueue_2 rfl ?_
    refine J_aload_n 4 rfl dX7_leastByQueue_3 rfl ?_
    refine g_X8_count 7 (by first | assumption | exact isH_1 | exact isH_31 | exact isH_61 | exact isH_p (by omega) | exact isH_E (by assumption) (by omega) | exact isH_R (by assumption) | exact isH_K (by assumption) | exact isH_E isH_1 (by omega) | exact isH_R isH_1 | exact isH_K isH_1 | exact isH_R isH_31 | exact isH_K isH_31 | exact isH_E isH_31 (by omega)) rfl dX7_leastByQueue_4 lkX7_18 ?_
    refine J_cv (b := f 4) (by rw [sR_ne (by omega)]; exact h.1) ?_
    refine J_icmp_ge 22 10 (by decide) rfl dX7_leastByQueue_7 (by omega) (by omega) (fun c7 => ?_) (fun c7 => ?_)
    · refine J_iconst 23 0 rfl dX7_leastByQueue_22 ic_0 ?_
      refine J_istore_n 24 rfl dX7_leastByQueue_23 rfl (Nat.le_of_ble_eq_true rfl) ?_
      refine J_iconst 25 0 rfl dX7_leastByQueue_24 ic_0 ?_
      refine J_istore_n 26 rfl dX7_leastByQueue_25 rfl (Nat.le_of_ble_eq_true rfl) ?_
      refine J_iconst 27 0 rfl dX7_leastByQueue_26 ic_0 ?_
      refine J_istore 29 rfl dX7_leastByQueue_27 (Nat.le_of_ble_eq_true rfl) ?_
      have e : x = f 4 := by omega
      subst e
      refine J_keep [0, 1, 2, 3, 4] ?_
      exact sums _ 0 r rfl (Nat.zero_le _) hs
    · refine J_aload_n 11 rfl dX7_leastByQueue_10 rfl ?_
      refine J_aload_n 12 rfl dX7_leastByQueue_11 rfl ?_
      refine J_iload_n 13 rfl dX7_leastByQueue_12 rfl ?_
      refine J_callVvp (As := [_, _]) 16 _ rfl kalX7_queueUp lkX7_24 dX7_leastByQueue_13 (lt_X7) (so_X7) rfl rfl rfl (by exact Nat.le_of_ble_eq_true rfl) (by omega) (S_X7_queueUp hb (CR_fr h (fun c x y => sR_ne (by omega))) hr (by omega) sR_at hs) (fun J13 q13 => ?_)
      obtain ⟨r2, e2, h2⟩ := q13
      rw [e2, sR_sR]
      refine J_iinc 19 1 rfl dX7_leastByQueue_16 ic_1 rfl (Nat.le_of_ble_eq_true rfl) ?_
      refine J_goto 2 (by decide) dX7_leastByQueue_19 ?_
      exact ih _ (by omega) (x + 1) r2 rfl (by omega) h2
  refine J_iconst 1 0 rfl dX7_leastByQueue_0 ic_0 ?_
  refine J_istore_n 2 rfl dX7_leastByQueue_1 rfl (Nat.le_of_ble_eq_true rfl) ?_
  have l9 := loop _ 0 (J 342) rfl (Nat.zero_le _) ⟨fun i j _ hj => absurd hj (by omega), fun i hi => absurd hi (by omega), fun g => rfl⟩
  rw [sR_id] at l9
  exact l9

theorem S_X7_hoursOf {g : Gn} {J : DJ} {b S : Nat} {f : Nat → Nat} (hb : isH b) (h : CR J (b + 3) f) (hr : ROk f) (hS : S < 256) : SJ g mX7_hoursOf 0 0 0 [.ref (g.2 (b + 3)), .int (nI (S))] J (Ri (hrs (rh f) (f 4) S) J) NoX := by
  have h8 := hr.1
  refine SJ_of_VJ (by decide +kernel) (Nat.le_of_ble_eq_true rfl) ?_
  show VJ g mX7_hoursOf 0 0 0 _ _ 0 [(0, .ref (g.2 (b + 3))), (1, .int (nI (S)))] [] J
  have loop : ∀ (n9 : Nat) (j : Nat), f 4 - j = n9 → j ≤ f 4 → VJ g mX7_hoursOf 0 0 0 (Ri (hrs (rh f) (f 4) S) J) NoX 4 [(0, .ref (g.2 (b + 3))), (1, .int (nI (S))), (2, .int (nI (hrs (rh f) j S))), (3, .int (nI (j)))] [] J := by
    intro n9
    induction n9 using Nat.strongRecOn with
    | ind n9 ih =>
    intro j hi hle
    refine J_iload_n 5 rfl dX7_hoursOf_4 rfl ?_
    refine J_aload_n 6 rfl dX7_hoursOf_5 rfl ?_
    refine g_X8_count 9 (by first | assumption | exact isH_1 | exact isH_31 | exact isH_61 | exact isH_p (by omega) | exact isH_E (by assumption) (by omega) | exact isH_R (by assumption) | exact isH_K (by assumption) | exact isH_E isH_1 (by omega) | exact isH_R isH_1 | exact isH_K isH_1 | exact isH_R isH_31 | exact isH_K isH_31 | exact isH_E isH_31 (by omega)) rfl dX7_hoursOf_6 lkX7_18 ?_
    refine J_cv (b := f 4) h.1 ?_
    refine J_icmp_ge 35 12 (by decide) rfl dX7_hoursOf_9 (by omega) (by omega) (fun c9 => ?_) (fun c9 => ?_)
    · refine J_iload_n 36 rfl dX7_hoursOf_35 rfl ?_
      refine J_iret rfl dX7_hoursOf_36 ?_
      have e : j = f 4 := by omega
      subst e
      exact ⟨rfl, rfl⟩
    · have pu := Nat.two_pow_pos j
      have p8 := Nat.pow_lt_pow_right (show 1 < 2 by omega) (show j < 8 by omega)
      have p2 : (if S.testBit j then 2 ^ j else 0) < 4294967296 := by
        split <;> omega
      refine J_iload_n 13 rfl dX7_hoursOf_12 rfl ?_
      refine J_iconst 14 1 rfl dX7_hoursOf_13 ic_1 ?_
      refine J_iload_n 15 rfl dX7_hoursOf_14 rfl ?_
      refine J_ishl 16 (2 ^ j) rfl dX7_hoursOf_15 (sh1 j (by omega)) ?_
      refine J_iand 17 (if S.testBit j then 2 ^ j else 0) rfl dX7_hoursOf_16 (and_bit j (by omega) S hS) ?_
      refine J_if_eq 29 20 (by decide) rfl dX7_hoursOf_17 p2 (fun c17 => ?_) (fun c17 => ?_)
      · refine J_iinc 32 1 rfl dX7_hoursOf_29 ic_1 rfl (Nat.le_of_ble_eq_true rfl) ?_
        refine J_goto 4 (by decide) dX7_hoursOf_32 ?_
        have nx := ih _ (by omega) (j + 1) rfl (by omega)
        rw [show hrs (rh f) (j + 1) S = hrs (rh f) j S + (if S.testBit j = true then rh f j else 0) from rfl] at nx
        by_cases hb2 : S.testBit j = true
        · rw [if_pos hb2] at nx
          first
            | (exfalso; rw [if_pos hb2] at c17; omega)
            | (rw [Nat.min_eq_right (by omega)] at nx; exact nx)
            | exact nx
        · rw [if_neg hb2] at nx
          first
            | (exfalso; rw [if_neg hb2] at c17; exact c17 rfl)
            | exact nx
      · refine J_iload_n 21 rfl dX7_hoursOf_20 rfl ?_
        refine J_aload_n 22 rfl dX7_hoursOf_21 rfl ?_
        refine g_X8_hours 25 (by first | assumption | exact isH_1 | exact isH_31 | exact isH_61 | exact isH_p (by omega) | exact isH_E (by assumption) (by omega) | exact isH_R (by assumption) | exact isH_K (by assumption) | exact isH_E isH_1 (by omega) | exact isH_R isH_1 | exact isH_K isH_1 | exact isH_R isH_31 | exact isH_K isH_31 | exact isH_E isH_31 (by omega)) rfl dX7_hoursOf_22 lkX7_28 ?_
        refine J_iload_n 26 rfl dX7_hoursOf_25 rfl ?_
        refine J_iald 27 rfl dX7_hoursOf_26 (sa_X8_hours (by first | assumption | exact isH_1 | exact isH_31 | exact isH_61 | exact isH_p (by omega) | exact isH_E (by assumption) (by omega) | exact isH_R (by assumption) | exact isH_K (by assumption) | exact isH_E isH_1 (by omega) | exact isH_R isH_1 | exact isH_K isH_1 | exact isH_R isH_31 | exact isH_K isH_31 | exact isH_E isH_31 (by omega))) (by omega) ?_
        refine J_cv (b := rh f j) ((h.2 j (by omega)).2.1) ?_
        refine J_iadd 28 rfl dX7_hoursOf_27 ?_
        refine J_istore_n 29 rfl dX7_hoursOf_28 rfl (Nat.le_of_ble_eq_true rfl) ?_
        refine J_iinc 32 1 rfl dX7_hoursOf_29 ic_1 rfl (Nat.le_of_ble_eq_true rfl) ?_
        refine J_goto 4 (by decide) dX7_hoursOf_32 ?_
        have nx := ih _ (by omega) (j + 1) rfl (by omega)
        rw [show hrs (rh f) (j + 1) S = hrs (rh f) j S + (if S.testBit j = true then rh f j else 0) from rfl] at nx
        by_cases hb2 : S.testBit j = true
        · rw [if_pos hb2] at nx
          first
            | (exfalso; rw [if_pos hb2] at c17; omega)
            | (rw [Nat.min_eq_right (by omega)] at nx; exact nx)
            | exact nx
        · rw [if_neg hb2] at nx
          first
            | (exfalso; rw [if_neg hb2] at c17; exact c17 rfl)
            | exact nx
  refine J_iconst 1 0 rfl dX7_hoursOf_0 ic_0 ?_
  refine J_istore_n 2 rfl dX7_hoursOf_1 rfl (Nat.le_of_ble_eq_true rfl) ?_
  refine J_iconst 3 0 rfl dX7_hoursOf_2 ic_0 ?_
  refine J_istore_n 4 rfl dX7_hoursOf_3 rfl (Nat.le_of_ble_eq_true rfl) ?_
  exact loop _ 0 rfl (Nat.zero_le _)

theorem S_X7_leastOfSet {g : Gn} {J : DJ} {b S : Nat} {f : Nat → Nat} (hb : isH b) (h : CR J (b + 3) f) (hr : ROk f) (hS : S < 2 ^ f 4) (h0 : S ≠ 0) (hT : ∀ s, s < S → J 343 s = lpS (rh f) (rp f) (f 4) s) : SJ g mX7_leastOfSet 1 0 0 [.ref (g.2 341), .ref (g.2 (b + 3)), .int (nI (S))] J (Ri (lpS (rh f) (rp f) (f 4) S) J) NoX := by
  have h8 := hr.1
  have h256 : S < 256 := Nat.lt_of_lt_of_le hS (Nat.le_trans (Nat.pow_le_pow_right (by omega) h8) (by decide))
  have hh9 : ∀ i, i < f 4 → rh f i ≤ 9 := fun i hi => (hr.2 i hi).2.2.1
  have hp9 : ∀ i, i < f 4 → rp f i ≤ 9 := fun i hi => (hr.2 i hi).2.2.2.2
  have hB : ∀ s, lpS (rh f) (rp f) (f 4) s ≤ 8 * 729 := fun s => lpS_B h8 hh9 hp9
  have hH := hrs_le (S := S) h8 hh9
  have mle : ∀ j, j ≤ f 4 → mnS (rh f) (rp f) (f 4) S j = 4294967295 ∨ mnS (rh f) (rp f) (f 4) S j ≤ 2147483647 := fun j => by
    induction j with
    | zero => exact fun _ => Or.inl rfl
    | succ j ih =>
      intro hj
      have i2 := ih (by omega)
      have lb := hB (S - 2 ^ j)
      have pm : rp f j * hrs (rh f) (f 4) S ≤ 9 * 72 := Nat.mul_le_mul (hp9 j (by omega)) hH
      simp only [mnS]
      split
      · omega
      · exact i2
  refine SJ_of_VJ (by decide +kernel) (Nat.le_of_ble_eq_true rfl) ?_
  show VJ g mX7_leastOfSet 1 0 0 _ _ 0 [(0, .ref (g.2 341)), (1, .ref (g.2 (b + 3))), (2, .int (nI (S)))] [] J
  have loop : ∀ (n9 : Nat) (j : Nat), f 4 - j = n9 → j ≤ f 4 → VJ g mX7_leastOfSet 1 0 0 (Ri (lpS (rh f) (rp f) (f 4) S) J) NoX 12 [(0, .ref (g.2 341)), (1, .ref (g.2 (b + 3))), (2, .int (nI (S))), (3, .int (nI (hrs (rh f) (f 4) S))), (4, .int (nI (mnS (rh f) (rp f) (f 4) S j))), (5, .int (nI (j)))] [] J := by
    intro n9
    induction n9 using Nat.strongRecOn with
    | ind n9 ih =>
    intro j hi hle
    refine J_iload 14 rfl dX7_leastOfSet_12 rfl ?_
    refine J_aload_n 15 rfl dX7_leastOfSet_14 rfl ?_
    refine g_X8_count 18 (by first | assumption | exact isH_1 | exact isH_31 | exact isH_61 | exact isH_p (by omega) | exact isH_E (by assumption) (by omega) | exact isH_R (by assumption) | exact isH_K (by assumption) | exact isH_E isH_1 (by omega) | exact isH_R isH_1 | exact isH_K isH_1 | exact isH_R isH_31 | exact isH_K isH_31 | exact isH_E isH_31 (by omega)) rfl dX7_leastOfSet_15 lkX7_18 ?_
    refine J_cv (b := f 4) h.1 ?_
    refine J_icmp_ge 81 21 (by decide) rfl dX7_leastOfSet_18 (by omega) (by omega) (fun c18 => ?_) (fun c18 => ?_)
    · refine J_iload 83 rfl dX7_leastOfSet_81 rfl ?_
      refine J_iret rfl dX7_leastOfSet_83 ?_
      have e : j = f 4 := by omega
      subst e
      exact ⟨by rw [mnS_eq h8 (fun i hi => (hr.2 i hi).2.2.2.1) hS h0 (Nat.le_trans (hB S) (by decide))], rfl⟩
    · have pu := Nat.two_pow_pos j
      have p8 := Nat.pow_lt_pow_right (show 1 < 2 by omega) (show j < 8 by omega)
      have p2 : (if S.testBit j then 2 ^ j else 0) < 4294967296 := by
        split <;> omega
      refine J_iconst 22 1 rfl dX7_leastOfSet_21 ic_1 ?_
      refine J_iload 24 rfl dX7_leastOfSet_22 rfl ?_
      refine J_ishl 25 (2 ^ j) rfl dX7_leastOfSet_24 (sh1 j (by omega)) ?_
      refine J_istore 27 rfl dX7_leastOfSet_25 (Nat.le_of_ble_eq_true rfl) ?_
      refine J_iload_n 28 rfl dX7_leastOfSet_27 rfl ?_
      refine J_iload 30 rfl dX7_leastOfSet_28 rfl ?_
      refine J_iand 31 (if S.testBit j then 2 ^ j else 0) rfl dX7_leastOfSet_30 (and_bit j (by omega) S h256) ?_
      refine J_if_eq 75 34 (by decide) rfl dX7_leastOfSet_31 p2 (fun c31 => ?_) (fun c31 => ?_)
      · refine J_iinc 78 1 rfl dX7_leastOfSet_75 ic_1 rfl (Nat.le_of_ble_eq_true rfl) ?_
        refine J_goto 12 (by decide) dX7_leastOfSet_78 ?_
        refine J_keep [0, 1, 2, 3, 4, 5] ?_
        have nx := ih _ (by omega) (j + 1) rfl (by omega)
        rw [show mnS (rh f) (rp f) (f 4) S (j + 1) = (if S.testBit j = true then min (mnS (rh f) (rp f) (f 4) S j) (lpS (rh f) (rp f) (f 4) (S - 2 ^ j) + rp f j * hrs (rh f) (f 4) S) else mnS (rh f) (rp f) (f 4) S j) from rfl] at nx
        by_cases hb2 : S.testBit j = true
        · rw [if_pos hb2] at nx
          first
            | (exfalso; rw [if_pos hb2] at c31; omega)
            | (rw [Nat.min_eq_right (by omega)] at nx; exact nx)
            | exact nx
        · rw [if_neg hb2] at nx
          first
            | (exfalso; rw [if_neg hb2] at c31; exact c31 rfl)
            | exact nx
      · have sbt : S.testBit j = true := by
          by_cases z : S.testBit j = true
          · exact z
          · rw [if_neg z] at c31; first | omega | exact absurd rfl c31
        have tg := tb_ge j (by omega) S h256 sbt
        have mj := mle j hle
        have lb := hB (S - 2 ^ j)
        have pm : rp f j * hrs (rh f) (f 4) S ≤ 9 * 72 := Nat.mul_le_mul (hp9 j (by omega)) hH
        refine J_aload_n 35 rfl dX7_leastOfSet_34 rfl ?_
        refine g_X7_table 38 rfl dX7_leastOfSet_35 lkX7_15 ?_
        refine J_iload_n 39 rfl dX7_leastOfSet_38 rfl ?_
        refine J_iload 41 rfl dX7_leastOfSet_39 rfl ?_
        refine J_isub 42 rfl dX7_leastOfSet_41 (by omega) ?_
        refine J_iald 43 rfl dX7_leastOfSet_42 (sa_X7_table) (by omega) ?_
        refine J_cv (b := lpS (rh f) (rp f) (f 4) (S - 2 ^ j)) (hT _ (by omega)) ?_
        refine J_aload_n 44 rfl dX7_leastOfSet_43 rfl ?_
        refine g_X8_penances 47 (by first | assumption | exact isH_1 | exact isH_31 | exact isH_61 | exact isH_p (by omega) | exact isH_E (by assumption) (by omega) | exact isH_R (by assumption) | exact isH_K (by assumption) | exact isH_E isH_1 (by omega) | exact isH_R isH_1 | exact isH_K isH_1 | exact isH_R isH_31 | exact isH_K isH_31 | exact isH_E isH_31 (by omega)) rfl dX7_leastOfSet_44 lkX7_31 ?_
        refine J_iload 49 rfl dX7_leastOfSet_47 rfl ?_
        refine J_iald 50 rfl dX7_leastOfSet_49 (sa_X8_penances (by first | assumption | exact isH_1 | exact isH_31 | exact isH_61 | exact isH_p (by omega) | exact isH_E (by assumption) (by omega) | exact isH_R (by assumption) | exact isH_K (by assumption) | exact isH_E isH_1 (by omega) | exact isH_R isH_1 | exact isH_K isH_1 | exact isH_R isH_31 | exact isH_K isH_31 | exact isH_E isH_31 (by omega))) (by omega) ?_
        refine J_cv (b := rp f j) ((h.2 j (by omega)).2.2) ?_
        refine J_iload_n 51 rfl dX7_leastOfSet_50 rfl ?_
        refine J_imul 52 rfl dX7_leastOfSet_51 ?_
        refine J_iadd 53 rfl dX7_leastOfSet_52 ?_
        refine J_istore 55 rfl dX7_leastOfSet_53 (Nat.le_of_ble_eq_true rfl) ?_
        refine J_iload 57 rfl dX7_leastOfSet_55 rfl ?_
        refine J_iconst 58 4294967295 rfl dX7_leastOfSet_57 ic_m1 ?_
        refine J_icmp_ne 66 61 (by decide) rfl dX7_leastOfSet_58 (by omega) (by omega) (fun c58 => ?_) (fun c58 => ?_)
        · refine J_iload 68 rfl dX7_leastOfSet_66 rfl ?_
          refine J_iload 70 rfl dX7_leastOfSet_68 rfl ?_
          refine J_mmin 73 rfl dX7_leastOfSet_70 lkX7_45 (by exact Nat.le_of_ble_eq_true rfl) (by omega) (by omega) (by omega) ?_
          refine J_istore 75 rfl dX7_leastOfSet_73 (Nat.le_of_ble_eq_true rfl) ?_
          refine J_iinc 78 1 rfl dX7_leastOfSet_75 ic_1 rfl (Nat.le_of_ble_eq_true rfl) ?_
          refine J_goto 12 (by decide) dX7_leastOfSet_78 ?_
          refine J_keep [0, 1, 2, 3, 4, 5] ?_
          have nx := ih _ (by omega) (j + 1) rfl (by omega)
          rw [show mnS (rh f) (rp f) (f 4) S (j + 1) = (if S.testBit j = true then min (mnS (rh f) (rp f) (f 4) S j) (lpS (rh f) (rp f) (f 4) (S - 2 ^ j) + rp f j * hrs (rh f) (f 4) S) else mnS (rh f) (rp f) (f 4) S j) from rfl] at nx
          by_cases hb2 : S.testBit j = true
          · rw [if_pos hb2] at nx
            first
              | (exfalso; rw [if_pos hb2] at c31; omega)
              | (rw [Nat.min_eq_right (by omega)] at nx; exact nx)
              | exact nx
          · rw [if_neg hb2] at nx
            first
              | (exfalso; rw [if_neg hb2] at c31; exact c31 rfl)
              | exact nx
        · refine J_iload 63 rfl dX7_leastOfSet_61 rfl ?_
          refine J_goto 73 (by decide) dX7_leastOfSet_63 ?_
          refine J_istore 75 rfl dX7_leastOfSet_73 (Nat.le_of_ble_eq_true rfl) ?_
          refine J_iinc 78 1 rfl dX7_leastOfSet_75 ic_1 rfl (Nat.le_of_ble_eq_true rfl) ?_
          refine J_goto 12 (by decide) dX7_leastOfSet_78 ?_
          refine J_keep [0, 1, 2, 3, 4, 5] ?_
          have nx := ih _ (by omega) (j + 1) rfl (by omega)
          rw [show mnS (rh f) (rp f) (f 4) S (j + 1) = (if S.testBit j = true then min (mnS (rh f) (rp f) (f 4) S j) (lpS (rh f) (rp f) (f 4) (S - 2 ^ j) + rp f j * hrs (rh f) (f 4) S) else mnS (rh f) (rp f) (f 4) S j) from rfl] at nx
          by_cases hb2 : S.testBit j = true
          · rw [if_pos hb2] at nx
            first
              | (exfalso; rw [if_pos hb2] at c31; omega)
              | (rw [Nat.min_eq_right (by omega)] at nx; exact nx)
              | exact nx
          · rw [if_neg hb2] at nx
            first
              | (exfalso; rw [if_neg hb2] at c31; exact c31 rfl)
              | exact nx
  refine J_aload_n 1 rfl dX7_leastOfSet_0 rfl ?_
  refine J_iload_n 2 rfl dX7_leastOfSet_1 rfl ?_
  refine J_callSi (As := [_, _]) 5 rfl kalX7_hoursOf lkX7_42 dX7_leastOfSet_2 rfl rfl (by exact Nat.le_of_ble_eq_true rfl) (by omega) (S_X7_hoursOf hb h hr h256) ?_
  refine J_istore_n 6 rfl dX7_leastOfSet_5 rfl (Nat.le_of_ble_eq_true rfl) ?_
  refine J_iconst 7 4294967295 rfl dX7_leastOfSet_6 ic_m1 ?_
  refine J_istore 9 rfl dX7_leastOfSet_7 (Nat.le_of_ble_eq_true rfl) ?_
  refine J_iconst 10 0 rfl dX7_leastOfSet_9 ic_0 ?_
  refine J_istore 12 rfl dX7_leastOfSet_10 (Nat.le_of_ble_eq_true rfl) ?_
  exact loop _ 0 rfl (Nat.zero_le _)

theorem S_X7_leastBySets {g : Gn} {J : DJ} {b : Nat} {f : Nat → Nat} (hb : isH b) (h : CR J (b + 3) f) (hr : ROk f) : SJ g mX7_leastBySets 2 0 0 [.ref (g.2 341), .ref (g.2 (b + 3))] J (Rp (lpn (rh f) (rp f) (f 4)) (fun J2 => ∃ r, J2 = sR J 343 r)) NoX := by
  have h8 := hr.1
  have hb3 := isH_le hb
  have p256 : 2 ^ f 4 ≤ 256 := Nat.le_trans (Nat.pow_le_pow_right (by omega) h8) (by decide)
  have p1 := Nat.two_pow_pos (f 4)
  refine SJ_of_VJ (by decide +kernel) (Nat.le_of_ble_eq_true rfl) ?_
  show VJ g mX7_leastBySets 2 0 0 _ _ 0 [(0, .ref (g.2 341)), (1, .ref (g.2 (b + 3)))] [] J
  have loop : ∀ (n9 : Nat) (S : Nat) (r : Nat → Nat), 2 ^ f 4 - S = n9 → 1 ≤ S → S ≤ 2 ^ f 4 → (∀ s, s < S → r s = lpS (rh f) (rp f) (f 4) s) → VJ g mX7_leastBySets 2 0 0 (Rp (lpn (rh f) (rp f) (f 4)) (fun J2 => ∃ r, J2 = sR J 343 r)) NoX 16 [(0, .ref (g.2 341)), (1, .ref (g.2 (b + 3))), (2, .int (nI (2 ^ f 4))), (3, .int (nI (S)))] [] (sR J 343 r) := by
    intro n9
    induction n9 using Nat.strongRecOn with
    | ind n9 ih =>
    intro S r hi h1 hle hT
    refine J_iload_n 17 rfl dX7_leastBySets_16 rfl ?_
    refine J_iload_n 18 rfl dX7_leastBySets_17 rfl ?_
    refine J_icmp_ge 39 21 (by decide) rfl dX7_leastBySets_18 (by omega) (by omega) (fun c18 => ?_) (fun c18 => ?_)
    · refine J_aload_n 40 rfl dX7_leastBySets_39 rfl ?_
      refine g_X7_table 43 rfl dX7_leastBySets_40 lkX7_15 ?_
      refine J_iload_n 44 rfl dX7_leastBySets_43 rfl ?_
      refine J_iconst 45 1 rfl dX7_leastBySets_44 ic_1 ?_
      refine J_isub 46 rfl dX7_leastBySets_45 (by omega) ?_
      refine J_iald 47 rfl dX7_leastBySets_46 (sa_X7_table) (by omega) ?_
      refine J_cv (b := lpn (rh f) (rp f) (f 4)) (by rw [sR_at, hT _ (by omega), lpS_full h8]) ?_
      refine J_iret rfl dX7_leastBySets_47 ?_
      exact ⟨rfl, r, rfl⟩
    · refine J_aload_n 22 rfl dX7_leastBySets_21 rfl ?_
      refine g_X7_table 25 rfl dX7_leastBySets_22 lkX7_15 ?_
      refine J_iload_n 26 rfl dX7_leastBySets_25 rfl ?_
      refine J_aload_n 27 rfl dX7_leastBySets_26 rfl ?_
      refine J_aload_n 28 rfl dX7_leastBySets_27 rfl ?_
      refine J_iload_n 29 rfl dX7_leastBySets_28 rfl ?_
      refine J_callVi (As := [_, _]) 32 _ rfl kalX7_leastOfSet lkX7_38 dX7_leastBySets_29 (lt_X7) (so_X7) rfl rfl rfl (by exact Nat.le_of_ble_eq_true rfl) (by omega) (S_X7_leastOfSet hb (CR_fr h (fun c x y => sR_ne (by omega))) hr (by omega) (by omega) (fun s hs => by rw [sR_at]; exact hT s hs)) ?_
      refine J_iast 33 rfl dX7_leastBySets_32 (sa_X7_table) (by omega) ?_
      refine J_iinc 36 1 rfl dX7_leastBySets_33 ic_1 rfl (Nat.le_of_ble_eq_true rfl) ?_
      refine J_goto 16 (by decide) dX7_leastBySets_36 ?_
      rw [up2_in]
      refine ih _ (by omega) (S + 1) _ rfl (by omega) (by omega) (fun s hs => ?_)
      rw [up1_app]
      split
      · next e => rw [e]
      · exact hT s (by omega)
  refine J_iconst 1 1 rfl dX7_leastBySets_0 ic_1 ?_
  refine J_aload_n 2 rfl dX7_leastBySets_1 rfl ?_
  refine g_X8_count 5 (by first | assumption | exact isH_1 | exact isH_31 | exact isH_61 | exact isH_p (by omega) | exact isH_E (by assumption) (by omega) | exact isH_R (by assumption) | exact isH_K (by assumption) | exact isH_E isH_1 (by omega) | exact isH_R isH_1 | exact isH_K isH_1 | exact isH_R isH_31 | exact isH_K isH_31 | exact isH_E isH_31 (by omega)) rfl dX7_leastBySets_2 lkX7_18 ?_
  refine J_cv (b := f 4) h.1 ?_
  refine J_ishl 6 (2 ^ f 4) rfl dX7_leastBySets_5 (sh1 (f 4) (by omega)) ?_
  refine J_istore_n 7 rfl dX7_leastBySets_6 rfl (Nat.le_of_ble_eq_true rfl) ?_
  refine J_aload_n 8 rfl dX7_leastBySets_7 rfl ?_
  refine g_X7_table 11 rfl dX7_leastBySets_8 lkX7_15 ?_
  refine J_iconst 12 0 rfl dX7_leastBySets_11 ic_0 ?_
  refine J_iconst 13 0 rfl dX7_leastBySets_12 ic_0 ?_
  refine J_iast 14 rfl dX7_leastBySets_13 (sa_X7_table) (by omega) ?_
  refine J_iconst 15 1 rfl dX7_leastBySets_14 ic_1 ?_
  refine J_istore_n 16 rfl dX7_leastBySets_15 rfl (Nat.le_of_ble_eq_true rfl) ?_
  rw [up2_sR]
  refine loop _ 1 _ rfl (by omega) (by omega) (fun s hs => ?_)
  rw [show s = 0 by omega, up1_self]
  have : lpS (rh f) (rp f) (f 4) 0 ≤ f 4 * 0 := sumN_le _ (fun i _ => by rw [if_neg (by rw [Nat.zero_testBit]; decide)]; exact Nat.le_refl _)
  omega

