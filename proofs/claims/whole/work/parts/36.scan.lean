/-! SCANNING ALL CYLINDERS (laid by wip/whole/src/p36.py) -/
theorem xGN_oil {f : Nat → Nat} {B : Nat} (hw : WF f B) (h : 0 < f 0) : ∀ k, allOil (xGN f k) = allOil f + k
  | 0 => rfl
  | k + 1 => by
    have q := xGN_WF hw h k
    have ih := xGN_oil hw h k
    have d := amN_lt (ol (xGN f k)) _ (cnt_pos q.1 (by rw [q.2]; exact h))
    have l := ln_ok q.1.1 d
    have p := put_oil (v := ol (xGN f k) (amN (ol (xGN f k)) (cnt (xGN f k))) + 1) q.1 l.1 l.2.1
    have e : xGN f k (19 + 52 * lnE (xGN f k) (amN (ol (xGN f k)) (cnt (xGN f k))) + lnC (xGN f k) (amN (ol (xGN f k)) (cnt (xGN f k)))) = ol (xGN f k) (amN (ol (xGN f k)) (cnt (xGN f k))) := rfl
    rw [e] at p
    show allOil (xG (xGN f k)) = _
    unfold xG
    omega
theorem lsN_le {f : Nat → Nat} {B : Nat} (hw : WF f B) (hB : B < 2147483647) {j : Nat} (hj : j ≤ cnt f) : lsN f j = 4294967295 ∨ lsN f j ≤ B := by
  unfold lsN
  split
  · exact Or.inl rfl
  · have := ol_B hw (Nat.lt_of_lt_of_le (amN_lt (ol f) j (by omega)) hj)
    omega
def xFill (f : Nat → Nat) (u : Nat) : Nat → Nat := xGN (up1 f 2 (f 2 - u)) u
def worn (f : Nat → Nat) (e : Nat) : Nat := sumN (fun c => f (27 + 52 * e + c)) (f (7 + 52 * e))
def bef (f : Nat → Nat) (e : Nat) : Nat := sumN (fun a => if worn f e < worn f a ∨ (worn f a = worn f e ∧ a < e) then 1 else 0) (f 0)
def befN (f : Nat → Nat) (e : Nat) : Nat → Nat := sumN (fun a => if worn f e < worn f a ∨ (worn f a = worn f e ∧ a < e) then 1 else 0)
theorem befN_le (f : Nat → Nat) (e n : Nat) : befN f e n ≤ n := by
  have := sumN_le (f := fun a => if worn f e < worn f a ∨ (worn f a = worn f e ∧ a < e) then 1 else 0) (B := 1) n (fun i _ => by show (if _ then 1 else 0) ≤ 1; split <;> omega)
  show sumN _ n ≤ n
  omega
theorem worn_le {f : Nat → Nat} {B e : Nat} (hw : WF f B) (he : e < f 0) : worn f e ≤ 8 * B := by
  have h8 := (hw.2.2.2.2.2.1 e he).2.1
  have h0 := hw.1
  refine Nat.le_trans (sumN_le (B := B) _ (fun i hi => hw.2.2.2.2.2.2.2.2.1 _ (by omega))) (Nat.mul_le_mul_right B h8)
theorem eOil_le {f : Nat → Nat} {B e : Nat} (hw : WF f B) (he : e < f 0) : eOil f (7 + 52 * e) ≤ 8 * B := by
  have h8 := (hw.2.2.2.2.2.1 e he).2.1
  have h0 := hw.1
  refine Nat.le_trans (sumN_le (B := B) _ (fun i hi => hw.2.2.2.2.2.2.2.2.1 _ (by omega))) (Nat.mul_le_mul_right B h8)
theorem cyN_cnt {f : Nat → Nat} {e c : Nat} (he : e < f 0) (hc : c ≤ f (7 + 52 * e)) : cyN f e + c ≤ cnt f := by
  have a := cyN_mono f (show e + 1 ≤ f 0 by omega)
  rw [cyN_succ] at a
  show _ ≤ cyN f (f 0)
  omega
theorem S_X3_driestSpot {g : Gn} {J : DJ} {b  B : Nat} {f : Nat → Nat} (hb : isH b) (h : CQ J b f) (hw : WF f B) (hB9 : B < 50000000) : SJ g mX3_driestSpot 0 0 0 [.ref (g.2 b)] J (Ri (spN f (cnt f)) J) NoX := by
  have h0 := hw.1
  have h2 := hw.2.1
  have s0 := h.1.1
  have s2 := h.1.2.2.1
  have hB := hw.2.2.2.2.2.2.2.2.1
  have h5 := hw.2.2.2.2.2.2.2.2.2
  refine SJ_of_VJ (by decide +kernel) (Nat.le_of_ble_eq_true rfl) ?_
  show VJ g mX3_driestSpot 0 0 0 _ _ 0 [(0, .ref (g.2 b))] [] J
  have loop : ∀ (n9 : Nat) (e : Nat), f 0 - e = n9 → e ≤ f 0 → VJ g mX3_driestSpot 0 0 0 (Ri (spN f (cnt f)) J) NoX 6 [(0, .ref (g.2 b)), (1, .int (nI (spN f (cyN f e)))), (2, .int (nI (lsN f (cyN f e)))), (3, .int (nI (e)))] [] J := by
    intro n9
    induction n9 using Nat.strongRecOn with
    | ind n9 ih =>
    intro e hi hle
    refine J_iload_n 7 rfl dX3_driestSpot_6 rfl ?_
    refine J_aload_n 8 rfl dX3_driestSpot_7 rfl ?_
    refine g_X3_engineCount 11 (by first | assumption | exact isH_1 | exact isH_31 | exact isH_61 | exact isH_p (by omega) | exact isH_E (by assumption) (by omega) | exact isH_R (by assumption) | exact isH_K (by assumption) | exact isH_E isH_1 (by omega) | exact isH_R isH_1 | exact isH_K isH_1 | exact isH_R isH_31 | exact isH_K isH_31 | exact isH_E isH_31 (by omega)) rfl dX3_driestSpot_8 lkX3_43 ?_
    refine J_cv (b := f 0) s0 ?_
    refine J_icmp_ge 82 14 (by decide) rfl dX3_driestSpot_11 (by omega) (by omega) (fun c11 => ?_) (fun c11 => ?_)
    · refine J_iload_n 83 rfl dX3_driestSpot_82 rfl ?_
      refine J_iret rfl dX3_driestSpot_83 ?_
      have e0 : e = f 0 := by omega
      subst e0
      exact ⟨rfl, rfl⟩
    · have he : e < f 0 := by omega
      have ce := h.2.2.2.2 e he
      have c6 := ce.1
      have hok := hw.2.2.2.2.2.1 e he
      have h8 := hok.2.1
      have kont : VJ g mX3_driestSpot 0 0 0 (Ri (spN f (cnt f)) J) NoX 76 [(0, .ref (g.2 b)), (1, .int (nI (spN f (cyN f e + (f (7 + 52 * e)))))), (2, .int (nI (lsN f (cyN f e + (f (7 + 52 * e)))))), (3, .int (nI (e))), (4, .ref (g.2 (b + 10 + 5 * e + 2))), (5, .int (nI ((f (7 + 52 * e)))))] [] J := by
        skip
        refine J_iinc 79 1 rfl dX3_driestSpot_76 ic_1 rfl (Nat.le_of_ble_eq_true rfl) ?_
        refine J_goto 6 (by decide) dX3_driestSpot_79 ?_
        refine J_keep [0, 1, 2, 3] ?_
        exact ih _ (by omega) (e + 1) rfl (by omega)
      have inner : ∀ (n9 : Nat) (c : Nat), f (7 + 52 * e) - c = n9 → c ≤ f (7 + 52 * e) → VJ g mX3_driestSpot 0 0 0 (Ri (spN f (cnt f)) J) NoX 28 [(0, .ref (g.2 b)), (1, .int (nI (spN f (cyN f e + c)))), (2, .int (nI (lsN f (cyN f e + c)))), (3, .int (nI (e))), (4, .ref (g.2 (b + 10 + 5 * e + 2))), (5, .int (nI (c)))] [] J := by
        intro n9
        induction n9 using Nat.strongRecOn with
        | ind n9 ihe =>
        intro c hi2 hle2
        have jn := cyN_cnt (f := f) he hle2
        refine J_iload 30 rfl dX3_driestSpot_28 rfl ?_
        refine J_aload_n 31 rfl dX3_driestSpot_30 rfl ?_
        refine g_X3_engines 34 (by first | assumption | exact isH_1 | exact isH_31 | exact isH_61 | exact isH_p (by omega) | exact isH_E (by assumption) (by omega) | exact isH_R (by assumption) | exact isH_K (by assumption) | exact isH_E isH_1 (by omega) | exact isH_R isH_1 | exact isH_K isH_1 | exact isH_R isH_31 | exact isH_K isH_31 | exact isH_E isH_31 (by omega)) rfl dX3_driestSpot_31 lkX3_11 ?_
        refine J_iload_n 35 rfl dX3_driestSpot_34 rfl ?_
        refine J_aaldE 36 _ rfl dX3_driestSpot_35 (by first | assumption | exact isH_1 | exact isH_31 | exact isH_61 | exact isH_p (by omega) | exact isH_E (by assumption) (by omega) | exact isH_R (by assumption) | exact isH_K (by assumption) | exact isH_E isH_1 (by omega) | exact isH_R isH_1 | exact isH_K isH_1 | exact isH_R isH_31 | exact isH_K isH_31 | exact isH_E isH_31 (by omega)) (by omega) ?_
        refine g_X1_cylinders 39 (by first | assumption | exact isH_1 | exact isH_31 | exact isH_61 | exact isH_p (by omega) | exact isH_E (by assumption) (by omega) | exact isH_R (by assumption) | exact isH_K (by assumption) | exact isH_E isH_1 (by omega) | exact isH_R isH_1 | exact isH_K isH_1 | exact isH_R isH_31 | exact isH_K isH_31 | exact isH_E isH_31 (by omega)) rfl dX3_driestSpot_36 lkX3_202 ?_
        refine J_cv (b := f (7 + 52 * e)) c6 ?_
        refine J_icmp_ge 76 42 (by decide) rfl dX3_driestSpot_39 (by omega) (by omega) (fun c39 => ?_) (fun c39 => ?_)
        · have e0 : c = f (7 + 52 * e) := by omega
          subst e0
          exact kont
        · have jl : cyN f e + c < cnt f := by
            have := cyN_cnt (f := f) (c := c + 1) he (by omega)
            omega
          have ob := ol_B hw jl
          have lb := lsN_le hw (by omega) jn
          have sc := scan_step (f := f) (j := cyN f e + c) (by omega)
          have ln := ln_of (f := f) (show e < 4 by omega) (show c < f (7 + 52 * e) by omega)
          refine J_iload_n 43 rfl dX3_driestSpot_42 rfl ?_
          refine J_iconst 44 4294967295 rfl dX3_driestSpot_43 ic_m1 ?_
          refine J_icmp_eq 56 47 (by decide) rfl dX3_driestSpot_44 (by omega) (by omega) (fun c44 => ?_) (fun c44 => ?_)
          · refine J_aload 58 rfl dX3_driestSpot_56 rfl ?_
            refine J_iload 60 rfl dX3_driestSpot_58 rfl ?_
            refine J_iald 61 rfl dX3_driestSpot_60 (sa_X1_oil (isH_E hb (show e < 4 by omega))) (by omega) ?_
            refine J_cv (b := ol f (cyN f e + c)) (by rw [(ce.2.2.2.2.2.1 c (by omega)).2.1, show 7 + 52 * e + 12 + c = 19 + 52 * e + c by omega, ol_of (by omega) (by omega)]) ?_
            refine J_istore_n 62 rfl dX3_driestSpot_61 rfl (Nat.le_of_ble_eq_true rfl) ?_
            refine J_iload_n 63 rfl dX3_driestSpot_62 rfl ?_
            refine J_bipush 65 8 rfl dX3_driestSpot_63 bc_8 ?_
            refine J_imul 66 rfl dX3_driestSpot_65 ?_
            refine J_iload 68 rfl dX3_driestSpot_66 rfl ?_
            refine J_iadd 69 rfl dX3_driestSpot_68 ?_
            refine J_istore_n 70 rfl dX3_driestSpot_69 rfl (Nat.le_of_ble_eq_true rfl) ?_
            refine J_iinc 73 1 rfl dX3_driestSpot_70 ic_1 rfl (Nat.le_of_ble_eq_true rfl) ?_
            refine J_goto 28 (by decide) dX3_driestSpot_73 ?_
            have nx := ihe _ (by omega) (c + 1) rfl (by omega)
            rw [show cyN f e + (c + 1) = cyN f e + c + 1 from rfl, sc.1, sc.2] at nx
            first
              | rw [if_neg (by omega), if_neg (by omega)] at nx; exact nx
              | rw [if_pos (by omega), if_pos (by omega), ln.1, ln.2] at nx; exact nx
          · refine J_aload 49 rfl dX3_driestSpot_47 rfl ?_
            refine J_iload 51 rfl dX3_driestSpot_49 rfl ?_
            refine J_iald 52 rfl dX3_driestSpot_51 (sa_X1_oil (isH_E hb (show e < 4 by omega))) (by omega) ?_
            refine J_cv (b := ol f (cyN f e + c)) (by rw [(ce.2.2.2.2.2.1 c (by omega)).2.1, show 7 + 52 * e + 12 + c = 19 + 52 * e + c by omega, ol_of (by omega) (by omega)]) ?_
            refine J_iload_n 53 rfl dX3_driestSpot_52 rfl ?_
            refine J_icmp_ge 70 56 (by decide) rfl dX3_driestSpot_53 (by omega) (by omega) (fun c53 => ?_) (fun c53 => ?_)
            · refine J_iinc 73 1 rfl dX3_driestSpot_70 ic_1 rfl (Nat.le_of_ble_eq_true rfl) ?_
              refine J_goto 28 (by decide) dX3_driestSpot_73 ?_
              have nx := ihe _ (by omega) (c + 1) rfl (by omega)
              rw [show cyN f e + (c + 1) = cyN f e + c + 1 from rfl, sc.1, sc.2] at nx
              first
                | rw [if_neg (by omega), if_neg (by omega)] at nx; exact nx
                | rw [if_pos (by omega), if_pos (by omega), ln.1, ln.2] at nx; exact nx
            · refine J_aload 58 rfl dX3_driestSpot_56 rfl ?_
              refine J_iload 60 rfl dX3_driestSpot_58 rfl ?_
              refine J_iald 61 rfl dX3_driestSpot_60 (sa_X1_oil (isH_E hb (show e < 4 by omega))) (by omega) ?_
              refine J_cv (b := ol f (cyN f e + c)) (by rw [(ce.2.2.2.2.2.1 c (by omega)).2.1, show 7 + 52 * e + 12 + c = 19 + 52 * e + c by omega, ol_of (by omega) (by omega)]) ?_
              refine J_istore_n 62 rfl dX3_driestSpot_61 rfl (Nat.le_of_ble_eq_true rfl) ?_
              refine J_iload_n 63 rfl dX3_driestSpot_62 rfl ?_
              refine J_bipush 65 8 rfl dX3_driestSpot_63 bc_8 ?_
              refine J_imul 66 rfl dX3_driestSpot_65 ?_
              refine J_iload 68 rfl dX3_driestSpot_66 rfl ?_
              refine J_iadd 69 rfl dX3_driestSpot_68 ?_
              refine J_istore_n 70 rfl dX3_driestSpot_69 rfl (Nat.le_of_ble_eq_true rfl) ?_
              refine J_iinc 73 1 rfl dX3_driestSpot_70 ic_1 rfl (Nat.le_of_ble_eq_true rfl) ?_
              refine J_goto 28 (by decide) dX3_driestSpot_73 ?_
              have nx := ihe _ (by omega) (c + 1) rfl (by omega)
              rw [show cyN f e + (c + 1) = cyN f e + c + 1 from rfl, sc.1, sc.2] at nx
              first
                | rw [if_neg (by omega), if_neg (by omega)] at nx; exact nx
                | rw [if_pos (by omega), if_pos (by omega), ln.1, ln.2] at nx; exact nx
      refine J_aload_n 15 rfl dX3_driestSpot_14 rfl ?_
      refine g_X3_engines 18 (by first | assumption | exact isH_1 | exact isH_31 | exact isH_61 | exact isH_p (by omega) | exact isH_E (by assumption) (by omega) | exact isH_R (by assumption) | exact isH_K (by assumption) | exact isH_E isH_1 (by omega) | exact isH_R isH_1 | exact isH_K isH_1 | exact isH_R isH_31 | exact isH_K isH_31 | exact isH_E isH_31 (by omega)) rfl dX3_driestSpot_15 lkX3_11 ?_
      refine J_iload_n 19 rfl dX3_driestSpot_18 rfl ?_
      refine J_aaldE 20 _ rfl dX3_driestSpot_19 (by first | assumption | exact isH_1 | exact isH_31 | exact isH_61 | exact isH_p (by omega) | exact isH_E (by assumption) (by omega) | exact isH_R (by assumption) | exact isH_K (by assumption) | exact isH_E isH_1 (by omega) | exact isH_R isH_1 | exact isH_K isH_1 | exact isH_R isH_31 | exact isH_K isH_31 | exact isH_E isH_31 (by omega)) (by omega) ?_
      refine g_X1_oil 23 (by first | assumption | exact isH_1 | exact isH_31 | exact isH_61 | exact isH_p (by omega) | exact isH_E (by assumption) (by omega) | exact isH_R (by assumption) | exact isH_K (by assumption) | exact isH_E isH_1 (by omega) | exact isH_R isH_1 | exact isH_K isH_1 | exact isH_R isH_31 | exact isH_K isH_31 | exact isH_E isH_31 (by omega)) rfl dX3_driestSpot_20 lkX3_190 ?_
      refine J_astore 25 rfl dX3_driestSpot_23 (Nat.le_of_ble_eq_true rfl) ?_
      refine J_iconst 26 0 rfl dX3_driestSpot_25 ic_0 ?_
      refine J_istore 28 rfl dX3_driestSpot_26 (Nat.le_of_ble_eq_true rfl) ?_
      exact inner _ 0 rfl (Nat.zero_le _)
  refine J_iconst 1 0 rfl dX3_driestSpot_0 ic_0 ?_
  refine J_istore_n 2 rfl dX3_driestSpot_1 rfl (Nat.le_of_ble_eq_true rfl) ?_
  refine J_iconst 3 4294967295 rfl dX3_driestSpot_2 ic_m1 ?_
  refine J_istore_n 4 rfl dX3_driestSpot_3 rfl (Nat.le_of_ble_eq_true rfl) ?_
  refine J_iconst 5 0 rfl dX3_driestSpot_4 ic_0 ?_
  refine J_istore_n 6 rfl dX3_driestSpot_5 rfl (Nat.le_of_ble_eq_true rfl) ?_
  exact loop _ 0 rfl (Nat.zero_le _)

theorem S_X3_cylindersUpTo {g : Gn} {J : DJ} {b l B : Nat} {f : Nat → Nat} (hb : isH b) (h : CQ J b f) (hw : WF f B) (hB9 : B < 50000000) (hl : l < 2147483648) : SJ g mX3_cylindersUpTo 0 0 0 [.ref (g.2 b), .int (nI (l))] J (Ri (upTo (ol f) l (cnt f)) J) NoX := by
  have h0 := hw.1
  have h2 := hw.2.1
  have s0 := h.1.1
  have s2 := h.1.2.2.1
  have hB := hw.2.2.2.2.2.2.2.2.1
  have h5 := hw.2.2.2.2.2.2.2.2.2
  refine SJ_of_VJ (by decide +kernel) (Nat.le_of_ble_eq_true rfl) ?_
  show VJ g mX3_cylindersUpTo 0 0 0 _ _ 0 [(0, .ref (g.2 b)), (1, .int (nI (l)))] [] J
  have loop : ∀ (n9 : Nat) (e : Nat), f 0 - e = n9 → e ≤ f 0 → VJ g mX3_cylindersUpTo 0 0 0 (Ri (upTo (ol f) l (cnt f)) J) NoX 4 [(0, .ref (g.2 b)), (1, .int (nI (l))), (2, .int (nI (upTo (ol f) l (cyN f e)))), (3, .int (nI (e)))] [] J := by
    intro n9
    induction n9 using Nat.strongRecOn with
    | ind n9 ih =>
    intro e hi hle
    refine J_iload_n 5 rfl dX3_cylindersUpTo_4 rfl ?_
    refine J_aload_n 6 rfl dX3_cylindersUpTo_5 rfl ?_
    refine g_X3_engineCount 9 (by first | assumption | exact isH_1 | exact isH_31 | exact isH_61 | exact isH_p (by omega) | exact isH_E (by assumption) (by omega) | exact isH_R (by assumption) | exact isH_K (by assumption) | exact isH_E isH_1 (by omega) | exact isH_R isH_1 | exact isH_K isH_1 | exact isH_R isH_31 | exact isH_K isH_31 | exact isH_E isH_31 (by omega)) rfl dX3_cylindersUpTo_6 lkX3_43 ?_
    refine J_cv (b := f 0) s0 ?_
    refine J_icmp_ge 60 12 (by decide) rfl dX3_cylindersUpTo_9 (by omega) (by omega) (fun c9 => ?_) (fun c9 => ?_)
    · refine J_iload_n 61 rfl dX3_cylindersUpTo_60 rfl ?_
      refine J_iret rfl dX3_cylindersUpTo_61 ?_
      have e0 : e = f 0 := by omega
      subst e0
      exact ⟨rfl, rfl⟩
    · have he : e < f 0 := by omega
      have ce := h.2.2.2.2 e he
      have c6 := ce.1
      have hok := hw.2.2.2.2.2.1 e he
      have h8 := hok.2.1
      have kont : VJ g mX3_cylindersUpTo 0 0 0 (Ri (upTo (ol f) l (cnt f)) J) NoX 54 [(0, .ref (g.2 b)), (1, .int (nI (l))), (2, .int (nI (upTo (ol f) l (cyN f e + (f (7 + 52 * e)))))), (3, .int (nI (e))), (4, .int (nI ((f (7 + 52 * e)))))] [] J := by
        skip
        refine J_iinc 57 1 rfl dX3_cylindersUpTo_54 ic_1 rfl (Nat.le_of_ble_eq_true rfl) ?_
        refine J_goto 4 (by decide) dX3_cylindersUpTo_57 ?_
        refine J_keep [0, 1, 2, 3] ?_
        exact ih _ (by omega) (e + 1) rfl (by omega)
      have inner : ∀ (n9 : Nat) (c : Nat), f (7 + 52 * e) - c = n9 → c ≤ f (7 + 52 * e) → VJ g mX3_cylindersUpTo 0 0 0 (Ri (upTo (ol f) l (cnt f)) J) NoX 15 [(0, .ref (g.2 b)), (1, .int (nI (l))), (2, .int (nI (upTo (ol f) l (cyN f e + c)))), (3, .int (nI (e))), (4, .int (nI (c)))] [] J := by
        intro n9
        induction n9 using Nat.strongRecOn with
        | ind n9 ihe =>
        intro c hi2 hle2
        have jn := cyN_cnt (f := f) he hle2
        refine J_iload 17 rfl dX3_cylindersUpTo_15 rfl ?_
        refine J_aload_n 18 rfl dX3_cylindersUpTo_17 rfl ?_
        refine g_X3_engines 21 (by first | assumption | exact isH_1 | exact isH_31 | exact isH_61 | exact isH_p (by omega) | exact isH_E (by assumption) (by omega) | exact isH_R (by assumption) | exact isH_K (by assumption) | exact isH_E isH_1 (by omega) | exact isH_R isH_1 | exact isH_K isH_1 | exact isH_R isH_31 | exact isH_K isH_31 | exact isH_E isH_31 (by omega)) rfl dX3_cylindersUpTo_18 lkX3_11 ?_
        refine J_iload_n 22 rfl dX3_cylindersUpTo_21 rfl ?_
        refine J_aaldE 23 _ rfl dX3_cylindersUpTo_22 (by first | assumption | exact isH_1 | exact isH_31 | exact isH_61 | exact isH_p (by omega) | exact isH_E (by assumption) (by omega) | exact isH_R (by assumption) | exact isH_K (by assumption) | exact isH_E isH_1 (by omega) | exact isH_R isH_1 | exact isH_K isH_1 | exact isH_R isH_31 | exact isH_K isH_31 | exact isH_E isH_31 (by omega)) (by omega) ?_
        refine g_X1_cylinders 26 (by first | assumption | exact isH_1 | exact isH_31 | exact isH_61 | exact isH_p (by omega) | exact isH_E (by assumption) (by omega) | exact isH_R (by assumption) | exact isH_K (by assumption) | exact isH_E isH_1 (by omega) | exact isH_R isH_1 | exact isH_K isH_1 | exact isH_R isH_31 | exact isH_K isH_31 | exact isH_E isH_31 (by omega)) rfl dX3_cylindersUpTo_23 lkX3_202 ?_
        refine J_cv (b := f (7 + 52 * e)) c6 ?_
        refine J_icmp_ge 54 29 (by decide) rfl dX3_cylindersUpTo_26 (by omega) (by omega) (fun c26 => ?_) (fun c26 => ?_)
        · have e0 : c = f (7 + 52 * e) := by omega
          subst e0
          exact kont
        · have jl : cyN f e + c < cnt f := by
            have := cyN_cnt (f := f) (c := c + 1) he (by omega)
            omega
          have ob := ol_B hw jl
          refine J_aload_n 30 rfl dX3_cylindersUpTo_29 rfl ?_
          refine g_X3_engines 33 (by first | assumption | exact isH_1 | exact isH_31 | exact isH_61 | exact isH_p (by omega) | exact isH_E (by assumption) (by omega) | exact isH_R (by assumption) | exact isH_K (by assumption) | exact isH_E isH_1 (by omega) | exact isH_R isH_1 | exact isH_K isH_1 | exact isH_R isH_31 | exact isH_K isH_31 | exact isH_E isH_31 (by omega)) rfl dX3_cylindersUpTo_30 lkX3_11 ?_
          refine J_iload_n 34 rfl dX3_cylindersUpTo_33 rfl ?_
          refine J_aaldE 35 _ rfl dX3_cylindersUpTo_34 (by first | assumption | exact isH_1 | exact isH_31 | exact isH_61 | exact isH_p (by omega) | exact isH_E (by assumption) (by omega) | exact isH_R (by assumption) | exact isH_K (by assumption) | exact isH_E isH_1 (by omega) | exact isH_R isH_1 | exact isH_K isH_1 | exact isH_R isH_31 | exact isH_K isH_31 | exact isH_E isH_31 (by omega)) (by omega) ?_
          refine g_X1_oil 38 (by first | assumption | exact isH_1 | exact isH_31 | exact isH_61 | exact isH_p (by omega) | exact isH_E (by assumption) (by omega) | exact isH_R (by assumption) | exact isH_K (by assumption) | exact isH_E isH_1 (by omega) | exact isH_R isH_1 | exact isH_K isH_1 | exact isH_R isH_31 | exact isH_K isH_31 | exact isH_E isH_31 (by omega)) rfl dX3_cylindersUpTo_35 lkX3_190 ?_
          refine J_iload 40 rfl dX3_cylindersUpTo_38 rfl ?_
          refine J_iald 41 rfl dX3_cylindersUpTo_40 (sa_X1_oil (by first | assumption | exact isH_1 | exact isH_31 | exact isH_61 | exact isH_p (by omega) | exact isH_E (by assumption) (by omega) | exact isH_R (by assumption) | exact isH_K (by assumption) | exact isH_E isH_1 (by omega) | exact isH_R isH_1 | exact isH_K isH_1 | exact isH_R isH_31 | exact isH_K isH_31 | exact isH_E isH_31 (by omega))) (by omega) ?_
          refine J_cv (b := ol f (cyN f e + c)) (by rw [(ce.2.2.2.2.2.1 c (by omega)).2.1, show 7 + 52 * e + 12 + c = 19 + 52 * e + c by omega, ol_of (by omega) (by omega)]) ?_
          refine J_iload_n 42 rfl dX3_cylindersUpTo_41 rfl ?_
          refine J_icmp_gt 48 45 (by decide) rfl dX3_cylindersUpTo_42 (by omega) (by omega) (fun c42 => ?_) (fun c42 => ?_)
          · refine J_iinc 51 1 rfl dX3_cylindersUpTo_48 ic_1 rfl (Nat.le_of_ble_eq_true rfl) ?_
            refine J_goto 15 (by decide) dX3_cylindersUpTo_51 ?_
            have nx := ihe _ (by omega) (c + 1) rfl (by omega)
            rw [show upTo (ol f) l (cyN f e + (c + 1)) = upTo (ol f) l (cyN f e + c) + (if ol f (cyN f e + c) ≤ l then 1 else 0) from rfl] at nx
            first
              | rw [if_neg (by omega)] at nx; exact nx
              | rw [if_pos (by omega)] at nx; exact nx
          · refine J_iinc 48 1 rfl dX3_cylindersUpTo_45 ic_1 rfl (Nat.le_of_ble_eq_true rfl) ?_
            refine J_iinc 51 1 rfl dX3_cylindersUpTo_48 ic_1 rfl (Nat.le_of_ble_eq_true rfl) ?_
            refine J_goto 15 (by decide) dX3_cylindersUpTo_51 ?_
            have nx := ihe _ (by omega) (c + 1) rfl (by omega)
            rw [show upTo (ol f) l (cyN f e + (c + 1)) = upTo (ol f) l (cyN f e + c) + (if ol f (cyN f e + c) ≤ l then 1 else 0) from rfl] at nx
            first
              | rw [if_neg (by omega)] at nx; exact nx
              | rw [if_pos (by omega)] at nx; exact nx
      refine J_iconst 13 0 rfl dX3_cylindersUpTo_12 ic_0 ?_
      refine J_istore 15 rfl dX3_cylindersUpTo_13 (Nat.le_of_ble_eq_true rfl) ?_
      exact inner _ 0 rfl (Nat.zero_le _)
  refine J_iconst 1 0 rfl dX3_cylindersUpTo_0 ic_0 ?_
  refine J_istore_n 2 rfl dX3_cylindersUpTo_1 rfl (Nat.le_of_ble_eq_true rfl) ?_
  refine J_iconst 3 0 rfl dX3_cylindersUpTo_2 ic_0 ?_
  refine J_istore_n 4 rfl dX3_cylindersUpTo_3 rfl (Nat.le_of_ble_eq_true rfl) ?_
  exact loop _ 0 rfl (Nat.zero_le _)

theorem S_X3_leastOilAbove {g : Gn} {J : DJ} {b l B : Nat} {f : Nat → Nat} (hb : isH b) (h : CQ J b f) (hw : WF f B) (hB9 : B < 50000000) (hl : l < 2147483648) : SJ g mX3_leastOilAbove 0 0 0 [.ref (g.2 b), .int (nI (l))] J (Ri (abv (ol f) l (cnt f)) J) NoX := by
  have h0 := hw.1
  have h2 := hw.2.1
  have s0 := h.1.1
  have s2 := h.1.2.2.1
  have hB := hw.2.2.2.2.2.2.2.2.1
  have h5 := hw.2.2.2.2.2.2.2.2.2
  refine SJ_of_VJ (by decide +kernel) (Nat.le_of_ble_eq_true rfl) ?_
  show VJ g mX3_leastOilAbove 0 0 0 _ _ 0 [(0, .ref (g.2 b)), (1, .int (nI (l)))] [] J
  have loop : ∀ (n9 : Nat) (e : Nat), f 0 - e = n9 → e ≤ f 0 → VJ g mX3_leastOilAbove 0 0 0 (Ri (abv (ol f) l (cnt f)) J) NoX 4 [(0, .ref (g.2 b)), (1, .int (nI (l))), (2, .int (nI (abv (ol f) l (cyN f e)))), (3, .int (nI (e)))] [] J := by
    intro n9
    induction n9 using Nat.strongRecOn with
    | ind n9 ih =>
    intro e hi hle
    refine J_iload_n 5 rfl dX3_leastOilAbove_4 rfl ?_
    refine J_aload_n 6 rfl dX3_leastOilAbove_5 rfl ?_
    refine g_X3_engineCount 9 (by first | assumption | exact isH_1 | exact isH_31 | exact isH_61 | exact isH_p (by omega) | exact isH_E (by assumption) (by omega) | exact isH_R (by assumption) | exact isH_K (by assumption) | exact isH_E isH_1 (by omega) | exact isH_R isH_1 | exact isH_K isH_1 | exact isH_R isH_31 | exact isH_K isH_31 | exact isH_E isH_31 (by omega)) rfl dX3_leastOilAbove_6 lkX3_43 ?_
    refine J_cv (b := f 0) s0 ?_
    refine J_icmp_ge 75 12 (by decide) rfl dX3_leastOilAbove_9 (by omega) (by omega) (fun c9 => ?_) (fun c9 => ?_)
    · refine J_iload_n 76 rfl dX3_leastOilAbove_75 rfl ?_
      refine J_iret rfl dX3_leastOilAbove_76 ?_
      have e0 : e = f 0 := by omega
      subst e0
      exact ⟨rfl, rfl⟩
    · have he : e < f 0 := by omega
      have ce := h.2.2.2.2 e he
      have c6 := ce.1
      have hok := hw.2.2.2.2.2.1 e he
      have h8 := hok.2.1
      have kont : VJ g mX3_leastOilAbove 0 0 0 (Ri (abv (ol f) l (cnt f)) J) NoX 69 [(0, .ref (g.2 b)), (1, .int (nI (l))), (2, .int (nI (abv (ol f) l (cyN f e + (f (7 + 52 * e)))))), (3, .int (nI (e))), (4, .int (nI ((f (7 + 52 * e)))))] [] J := by
        skip
        refine J_iinc 72 1 rfl dX3_leastOilAbove_69 ic_1 rfl (Nat.le_of_ble_eq_true rfl) ?_
        refine J_goto 4 (by decide) dX3_leastOilAbove_72 ?_
        refine J_keep [0, 1, 2, 3] ?_
        exact ih _ (by omega) (e + 1) rfl (by omega)
      have inner : ∀ (n9 : Nat) (c : Nat), f (7 + 52 * e) - c = n9 → c ≤ f (7 + 52 * e) → VJ g mX3_leastOilAbove 0 0 0 (Ri (abv (ol f) l (cnt f)) J) NoX 15 [(0, .ref (g.2 b)), (1, .int (nI (l))), (2, .int (nI (abv (ol f) l (cyN f e + c)))), (3, .int (nI (e))), (4, .int (nI (c)))] [] J := by
        intro n9
        induction n9 using Nat.strongRecOn with
        | ind n9 ihe =>
        intro c hi2 hle2
        have jn := cyN_cnt (f := f) he hle2
        refine J_iload 17 rfl dX3_leastOilAbove_15 rfl ?_
        refine J_aload_n 18 rfl dX3_leastOilAbove_17 rfl ?_
        refine g_X3_engines 21 (by first | assumption | exact isH_1 | exact isH_31 | exact isH_61 | exact isH_p (by omega) | exact isH_E (by assumption) (by omega) | exact isH_R (by assumption) | exact isH_K (by assumption) | exact isH_E isH_1 (by omega) | exact isH_R isH_1 | exact isH_K isH_1 | exact isH_R isH_31 | exact isH_K isH_31 | exact isH_E isH_31 (by omega)) rfl dX3_leastOilAbove_18 lkX3_11 ?_
        refine J_iload_n 22 rfl dX3_leastOilAbove_21 rfl ?_
        refine J_aaldE 23 _ rfl dX3_leastOilAbove_22 (by first | assumption | exact isH_1 | exact isH_31 | exact isH_61 | exact isH_p (by omega) | exact isH_E (by assumption) (by omega) | exact isH_R (by assumption) | exact isH_K (by assumption) | exact isH_E isH_1 (by omega) | exact isH_R isH_1 | exact isH_K isH_1 | exact isH_R isH_31 | exact isH_K isH_31 | exact isH_E isH_31 (by omega)) (by omega) ?_
        refine g_X1_cylinders 26 (by first | assumption | exact isH_1 | exact isH_31 | exact isH_61 | exact isH_p (by omega) | exact isH_E (by assumption) (by omega) | exact isH_R (by assumption) | exact isH_K (by assumption) | exact isH_E isH_1 (by omega) | exact isH_R isH_1 | exact isH_K isH_1 | exact isH_R isH_31 | exact isH_K isH_31 | exact isH_E isH_31 (by omega)) rfl dX3_leastOilAbove_23 lkX3_202 ?_
        refine J_cv (b := f (7 + 52 * e)) c6 ?_
        refine J_icmp_ge 69 29 (by decide) rfl dX3_leastOilAbove_26 (by omega) (by omega) (fun c26 => ?_) (fun c26 => ?_)
        · have e0 : c = f (7 + 52 * e) := by omega
          subst e0
          exact kont
        · have jl : cyN f e + c < cnt f := by
            have := cyN_cnt (f := f) (c := c + 1) he (by omega)
            omega
          have ob := ol_B hw jl
          have ab := abv_is (w := ol f) (L := l) (B := B) (by omega) (cyN f e + c) (fun j hj => ol_B hw (by omega))
          have ab2 : abv (ol f) l (cyN f e + c) = 4294967295 ∨ abv (ol f) l (cyN f e + c) ≤ B := ab.elim (fun z => Or.inl z.1) (fun z => Or.inr z.2.1)
          clear ab
          refine J_aload_n 30 rfl dX3_leastOilAbove_29 rfl ?_
          refine g_X3_engines 33 (by first | assumption | exact isH_1 | exact isH_31 | exact isH_61 | exact isH_p (by omega) | exact isH_E (by assumption) (by omega) | exact isH_R (by assumption) | exact isH_K (by assumption) | exact isH_E isH_1 (by omega) | exact isH_R isH_1 | exact isH_K isH_1 | exact isH_R isH_31 | exact isH_K isH_31 | exact isH_E isH_31 (by omega)) rfl dX3_leastOilAbove_30 lkX3_11 ?_
          refine J_iload_n 34 rfl dX3_leastOilAbove_33 rfl ?_
          refine J_aaldE 35 _ rfl dX3_leastOilAbove_34 (by first | assumption | exact isH_1 | exact isH_31 | exact isH_61 | exact isH_p (by omega) | exact isH_E (by assumption) (by omega) | exact isH_R (by assumption) | exact isH_K (by assumption) | exact isH_E isH_1 (by omega) | exact isH_R isH_1 | exact isH_K isH_1 | exact isH_R isH_31 | exact isH_K isH_31 | exact isH_E isH_31 (by omega)) (by omega) ?_
          refine g_X1_oil 38 (by first | assumption | exact isH_1 | exact isH_31 | exact isH_61 | exact isH_p (by omega) | exact isH_E (by assumption) (by omega) | exact isH_R (by assumption) | exact isH_K (by assumption) | exact isH_E isH_1 (by omega) | exact isH_R isH_1 | exact isH_K isH_1 | exact isH_R isH_31 | exact isH_K isH_31 | exact isH_E isH_31 (by omega)) rfl dX3_leastOilAbove_35 lkX3_190 ?_
          refine J_iload 40 rfl dX3_leastOilAbove_38 rfl ?_
          refine J_iald 41 rfl dX3_leastOilAbove_40 (sa_X1_oil (by first | assumption | exact isH_1 | exact isH_31 | exact isH_61 | exact isH_p (by omega) | exact isH_E (by assumption) (by omega) | exact isH_R (by assumption) | exact isH_K (by assumption) | exact isH_E isH_1 (by omega) | exact isH_R isH_1 | exact isH_K isH_1 | exact isH_R isH_31 | exact isH_K isH_31 | exact isH_E isH_31 (by omega))) (by omega) ?_
          refine J_cv (b := ol f (cyN f e + c)) (by rw [(ce.2.2.2.2.2.1 c (by omega)).2.1, show 7 + 52 * e + 12 + c = 19 + 52 * e + c by omega, ol_of (by omega) (by omega)]) ?_
          refine J_istore 43 rfl dX3_leastOilAbove_41 (Nat.le_of_ble_eq_true rfl) ?_
          refine J_iload 45 rfl dX3_leastOilAbove_43 rfl ?_
          refine J_iload_n 46 rfl dX3_leastOilAbove_45 rfl ?_
          refine J_icmp_le 63 49 (by decide) rfl dX3_leastOilAbove_46 (by omega) (by omega) (fun c46 => ?_) (fun c46 => ?_)
          · refine J_iinc 66 1 rfl dX3_leastOilAbove_63 ic_1 rfl (Nat.le_of_ble_eq_true rfl) ?_
            refine J_goto 15 (by decide) dX3_leastOilAbove_66 ?_
            have nx := ihe _ (by omega) (c + 1) rfl (by omega)
            rw [show abv (ol f) l (cyN f e + (c + 1)) = (if l < ol f (cyN f e + c) ∧ (abv (ol f) l (cyN f e + c) = 4294967295 ∨ ol f (cyN f e + c) < abv (ol f) l (cyN f e + c)) then ol f (cyN f e + c) else abv (ol f) l (cyN f e + c)) from rfl] at nx
            refine J_keep [0, 1, 2, 3, 4] ?_
            first
              | rw [if_neg (by omega)] at nx; exact nx
              | rw [if_pos (by omega)] at nx; exact nx
          · refine J_iload_n 50 rfl dX3_leastOilAbove_49 rfl ?_
            refine J_iconst 51 4294967295 rfl dX3_leastOilAbove_50 ic_m1 ?_
            refine J_icmp_eq 60 54 (by decide) rfl dX3_leastOilAbove_51 (by omega) (by omega) (fun c51 => ?_) (fun c51 => ?_)
            · refine J_iload 62 rfl dX3_leastOilAbove_60 rfl ?_
              refine J_istore_n 63 rfl dX3_leastOilAbove_62 rfl (Nat.le_of_ble_eq_true rfl) ?_
              refine J_iinc 66 1 rfl dX3_leastOilAbove_63 ic_1 rfl (Nat.le_of_ble_eq_true rfl) ?_
              refine J_goto 15 (by decide) dX3_leastOilAbove_66 ?_
              have nx := ihe _ (by omega) (c + 1) rfl (by omega)
              rw [show abv (ol f) l (cyN f e + (c + 1)) = (if l < ol f (cyN f e + c) ∧ (abv (ol f) l (cyN f e + c) = 4294967295 ∨ ol f (cyN f e + c) < abv (ol f) l (cyN f e + c)) then ol f (cyN f e + c) else abv (ol f) l (cyN f e + c)) from rfl] at nx
              refine J_keep [0, 1, 2, 3, 4] ?_
              first
                | rw [if_neg (by omega)] at nx; exact nx
                | rw [if_pos (by omega)] at nx; exact nx
            · refine J_iload 56 rfl dX3_leastOilAbove_54 rfl ?_
              refine J_iload_n 57 rfl dX3_leastOilAbove_56 rfl ?_
              refine J_icmp_ge 63 60 (by decide) rfl dX3_leastOilAbove_57 (by omega) (by omega) (fun c57 => ?_) (fun c57 => ?_)
              · refine J_iinc 66 1 rfl dX3_leastOilAbove_63 ic_1 rfl (Nat.le_of_ble_eq_true rfl) ?_
                refine J_goto 15 (by decide) dX3_leastOilAbove_66 ?_
                have nx := ihe _ (by omega) (c + 1) rfl (by omega)
                rw [show abv (ol f) l (cyN f e + (c + 1)) = (if l < ol f (cyN f e + c) ∧ (abv (ol f) l (cyN f e + c) = 4294967295 ∨ ol f (cyN f e + c) < abv (ol f) l (cyN f e + c)) then ol f (cyN f e + c) else abv (ol f) l (cyN f e + c)) from rfl] at nx
                refine J_keep [0, 1, 2, 3, 4] ?_
                first
                  | rw [if_neg (by omega)] at nx; exact nx
                  | rw [if_pos (by omega)] at nx; exact nx
              · refine J_iload 62 rfl dX3_leastOilAbove_60 rfl ?_
                refine J_istore_n 63 rfl dX3_leastOilAbove_62 rfl (Nat.le_of_ble_eq_true rfl) ?_
                refine J_iinc 66 1 rfl dX3_leastOilAbove_63 ic_1 rfl (Nat.le_of_ble_eq_true rfl) ?_
                refine J_goto 15 (by decide) dX3_leastOilAbove_66 ?_
                have nx := ihe _ (by omega) (c + 1) rfl (by omega)
                rw [show abv (ol f) l (cyN f e + (c + 1)) = (if l < ol f (cyN f e + c) ∧ (abv (ol f) l (cyN f e + c) = 4294967295 ∨ ol f (cyN f e + c) < abv (ol f) l (cyN f e + c)) then ol f (cyN f e + c) else abv (ol f) l (cyN f e + c)) from rfl] at nx
                refine J_keep [0, 1, 2, 3, 4] ?_
                first
                  | rw [if_neg (by omega)] at nx; exact nx
                  | rw [if_pos (by omega)] at nx; exact nx
      refine J_iconst 13 0 rfl dX3_leastOilAbove_12 ic_0 ?_
      refine J_istore 15 rfl dX3_leastOilAbove_13 (Nat.le_of_ble_eq_true rfl) ?_
      exact inner _ 0 rfl (Nat.zero_le _)
  refine J_iconst 1 4294967295 rfl dX3_leastOilAbove_0 ic_m1 ?_
  refine J_istore_n 2 rfl dX3_leastOilAbove_1 rfl (Nat.le_of_ble_eq_true rfl) ?_
  refine J_iconst 3 0 rfl dX3_leastOilAbove_2 ic_0 ?_
  refine J_istore_n 4 rfl dX3_leastOilAbove_3 rfl (Nat.le_of_ble_eq_true rfl) ?_
  exact loop _ 0 rfl (Nat.zero_le _)

theorem S_X3_leastOil {g : Gn} {J : DJ} {b  B : Nat} {f : Nat → Nat} (hb : isH b) (h : CQ J b f) (hw : WF f B) (hB9 : B < 50000000) (hf : 0 < f 0) : SJ g mX3_leastOil 1 0 0 [.ref (g.2 b)] J (Ri (lst (ol f) (cnt f)) J) NoX := by
  have h0 := hw.1
  have h2 := hw.2.1
  have s0 := h.1.1
  have s2 := h.1.2.2.1
  have hB := hw.2.2.2.2.2.2.2.2.1
  have h5 := hw.2.2.2.2.2.2.2.2.2
  have d := amN_lt (ol f) _ (cnt_pos hw hf)
  have l := ln_ok hw.1 d
  have l8 := (hw.2.2.2.2.2.1 _ l.1).2.1
  have ce := (h.2.2.2.2 _ l.1).2.2.2.2.2.1 _ l.2.1
  have c1 := cnt_pos hw hf
  have sp : spN f (cnt f) = lnE f (amN (ol f) (cnt f)) * 8 + lnC f (amN (ol f) (cnt f)) := by unfold spN; rw [if_neg (by omega)]
  refine SJ_of_VJ (by decide +kernel) (Nat.le_of_ble_eq_true rfl) ?_
  show VJ g mX3_leastOil 1 0 0 _ _ 0 [(0, .ref (g.2 b))] [] J
  refine J_aload_n 1 rfl dX3_leastOil_0 rfl ?_
  refine J_callVi (As := []) 4 _ rfl kalX3_driestSpot lkX3_199 dX3_leastOil_1 (lt_X3 (by first | assumption | exact isH_1 | exact isH_31 | exact isH_61 | exact isH_p (by omega) | exact isH_E (by assumption) (by omega) | exact isH_R (by assumption) | exact isH_K (by assumption) | exact isH_E isH_1 (by omega) | exact isH_R isH_1 | exact isH_K isH_1 | exact isH_R isH_31 | exact isH_K isH_31 | exact isH_E isH_31 (by omega))) (so_X3 (by first | assumption | exact isH_1 | exact isH_31 | exact isH_61 | exact isH_p (by omega) | exact isH_E (by assumption) (by omega) | exact isH_R (by assumption) | exact isH_K (by assumption) | exact isH_E isH_1 (by omega) | exact isH_R isH_1 | exact isH_K isH_1 | exact isH_R isH_31 | exact isH_K isH_31 | exact isH_E isH_31 (by omega))) rfl rfl rfl (by exact Nat.le_of_ble_eq_true rfl) (by omega) (S_X3_driestSpot hb h hw hB9) ?_
  refine J_cv (b := lnE f (amN (ol f) (cnt f)) * 8 + lnC f (amN (ol f) (cnt f))) sp ?_
  refine J_istore_n 5 rfl dX3_leastOil_4 rfl (Nat.le_of_ble_eq_true rfl) ?_
  refine J_aload_n 6 rfl dX3_leastOil_5 rfl ?_
  refine g_X3_engines 9 (by first | assumption | exact isH_1 | exact isH_31 | exact isH_61 | exact isH_p (by omega) | exact isH_E (by assumption) (by omega) | exact isH_R (by assumption) | exact isH_K (by assumption) | exact isH_E isH_1 (by omega) | exact isH_R isH_1 | exact isH_K isH_1 | exact isH_R isH_31 | exact isH_K isH_31 | exact isH_E isH_31 (by omega)) rfl dX3_leastOil_6 lkX3_11 ?_
  refine J_iload_n 10 rfl dX3_leastOil_9 rfl ?_
  refine J_bipush 12 8 rfl dX3_leastOil_10 bc_8 ?_
  refine J_idiv 13 rfl dX3_leastOil_12 (by omega) (by omega) (by omega) ?_
  refine J_cv (b := lnE f (amN (ol f) (cnt f))) (by omega) ?_
  refine J_aaldE 14 _ rfl dX3_leastOil_13 (by first | assumption | exact isH_1 | exact isH_31 | exact isH_61 | exact isH_p (by omega) | exact isH_E (by assumption) (by omega) | exact isH_R (by assumption) | exact isH_K (by assumption) | exact isH_E isH_1 (by omega) | exact isH_R isH_1 | exact isH_K isH_1 | exact isH_R isH_31 | exact isH_K isH_31 | exact isH_E isH_31 (by omega)) (by omega) ?_
  refine g_X1_oil 17 (by first | assumption | exact isH_1 | exact isH_31 | exact isH_61 | exact isH_p (by omega) | exact isH_E (by assumption) (by omega) | exact isH_R (by assumption) | exact isH_K (by assumption) | exact isH_E isH_1 (by omega) | exact isH_R isH_1 | exact isH_K isH_1 | exact isH_R isH_31 | exact isH_K isH_31 | exact isH_E isH_31 (by omega)) rfl dX3_leastOil_14 lkX3_190 ?_
  refine J_iload_n 18 rfl dX3_leastOil_17 rfl ?_
  refine J_bipush 20 8 rfl dX3_leastOil_18 bc_8 ?_
  refine J_irem 21 rfl dX3_leastOil_20 (by omega) (by omega) (by omega) ?_
  refine J_cv (b := lnC f (amN (ol f) (cnt f))) (by omega) ?_
  refine J_iald 22 rfl dX3_leastOil_21 (sa_X1_oil (by first | assumption | exact isH_1 | exact isH_31 | exact isH_61 | exact isH_p (by omega) | exact isH_E (by assumption) (by omega) | exact isH_R (by assumption) | exact isH_K (by assumption) | exact isH_E isH_1 (by omega) | exact isH_R isH_1 | exact isH_K isH_1 | exact isH_R isH_31 | exact isH_K isH_31 | exact isH_E isH_31 (by omega))) (by omega) ?_
  refine J_cv (b := lst (ol f) (cnt f)) (by rw [ce.2.1, show 7 + 52 * lnE f (amN (ol f) (cnt f)) + 12 + lnC f (amN (ol f) (cnt f)) = 19 + 52 * lnE f (amN (ol f) (cnt f)) + lnC f (amN (ol f) (cnt f)) by omega]; rfl) ?_
  refine J_iret rfl dX3_leastOil_22 ?_
  exact ⟨rfl, rfl⟩

theorem S_X3_giveToDriest {g : Gn} {J : DJ} {b n B : Nat} {f : Nat → Nat} (hb : isH b) (h : CQ J b f) (hw : WF f B) (hBn : B + n < 50000000) (hf : 0 < f 0) : SJ g mX3_giveToDriest 1 0 0 [.ref (g.2 b), .int (nI (n))] J (Rq (fun J2 => Fr b 30 J J2 ∧ J2 b = J b ∧ CQ J2 b (xGN f n))) NoX := by
  have h0 := hw.1
  have h2 := hw.2.1
  have s0 := h.1.1
  have s2 := h.1.2.2.1
  have hB := hw.2.2.2.2.2.2.2.2.1
  have h5 := hw.2.2.2.2.2.2.2.2.2
  refine SJ_of_VJ (by decide +kernel) (Nat.le_of_ble_eq_true rfl) ?_
  show VJ g mX3_giveToDriest 1 0 0 _ _ 0 [(0, .ref (g.2 b)), (1, .int (nI (n)))] [] J
  have loop : ∀ (n9 : Nat) (i : Nat) (J1 : DJ), n - i = n9 → i ≤ n → Fr b 30 J J1 → J1 b = J b → CQ J1 b (xGN f i) → VJ g mX3_giveToDriest 1 0 0 (Rq (fun J2 => Fr b 30 J J2 ∧ J2 b = J b ∧ CQ J2 b (xGN f n))) NoX 2 [(0, .ref (g.2 b)), (1, .int (nI (n))), (2, .int (nI (i)))] [] J1 := by
    intro n9
    induction n9 using Nat.strongRecOn with
    | ind n9 ih =>
    intro i J1 hi hle f1 r1 c1
    refine J_iload_n 3 rfl dX3_giveToDriest_2 rfl ?_
    refine J_iload_n 4 rfl dX3_giveToDriest_3 rfl ?_
    refine J_icmp_ge 39 7 (by decide) rfl dX3_giveToDriest_4 (by omega) (by omega) (fun c4 => ?_) (fun c4 => ?_)
    · refine J_vret rfl dX3_giveToDriest_39 ?_
      have e : i = n := by omega
      subst e
      exact ⟨rfl, f1, r1, c1⟩
    · have w1 := xGN_WF hw hf i
      have p1 : 0 < xGN f i 0 := by rw [w1.2]; exact hf
      have c1' := cnt_pos w1.1 p1
      have d := amN_lt (ol (xGN f i)) _ c1'
      have l := ln_ok w1.1.1 d
      have l8 := (w1.1.2.2.2.2.2.1 _ l.1).2.1
      have l0 := w1.1.1
      have ce := (c1.2.2.2.2 _ l.1).2.2.2.2.2.1 _ l.2.1
      have sp : spN (xGN f i) (cnt (xGN f i)) = lnE (xGN f i) (amN (ol (xGN f i)) (cnt (xGN f i))) * 8 + lnC (xGN f i) (amN (ol (xGN f i)) (cnt (xGN f i))) := by unfold spN; rw [if_neg (by omega)]
      refine J_aload_n 8 rfl dX3_giveToDriest_7 rfl ?_
      refine J_callVi (As := []) 11 _ rfl kalX3_driestSpot lkX3_199 dX3_giveToDriest_8 (lt_X3 (by first | assumption | exact isH_1 | exact isH_31 | exact isH_61 | exact isH_p (by omega) | exact isH_E (by assumption) (by omega) | exact isH_R (by assumption) | exact isH_K (by assumption) | exact isH_E isH_1 (by omega) | exact isH_R isH_1 | exact isH_K isH_1 | exact isH_R isH_31 | exact isH_K isH_31 | exact isH_E isH_31 (by omega))) (so_X3 (by first | assumption | exact isH_1 | exact isH_31 | exact isH_61 | exact isH_p (by omega) | exact isH_E (by assumption) (by omega) | exact isH_R (by assumption) | exact isH_K (by assumption) | exact isH_E isH_1 (by omega) | exact isH_R isH_1 | exact isH_K isH_1 | exact isH_R isH_31 | exact isH_K isH_31 | exact isH_E isH_31 (by omega))) rfl rfl rfl (by exact Nat.le_of_ble_eq_true rfl) (by omega) (S_X3_driestSpot hb c1 w1.1 (by omega)) ?_
      refine J_cv (b := lnE (xGN f i) (amN (ol (xGN f i)) (cnt (xGN f i))) * 8 + lnC (xGN f i) (amN (ol (xGN f i)) (cnt (xGN f i)))) sp ?_
      refine J_istore_n 12 rfl dX3_giveToDriest_11 rfl (Nat.le_of_ble_eq_true rfl) ?_
      refine J_aload_n 13 rfl dX3_giveToDriest_12 rfl ?_
      refine g_X3_engines 16 (by first | assumption | exact isH_1 | exact isH_31 | exact isH_61 | exact isH_p (by omega) | exact isH_E (by assumption) (by omega) | exact isH_R (by assumption) | exact isH_K (by assumption) | exact isH_E isH_1 (by omega) | exact isH_R isH_1 | exact isH_K isH_1 | exact isH_R isH_31 | exact isH_K isH_31 | exact isH_E isH_31 (by omega)) rfl dX3_giveToDriest_13 lkX3_11 ?_
      refine J_iload_n 17 rfl dX3_giveToDriest_16 rfl ?_
      refine J_bipush 19 8 rfl dX3_giveToDriest_17 bc_8 ?_
      refine J_idiv 20 rfl dX3_giveToDriest_19 (by omega) (by omega) (by omega) ?_
      refine J_cv (b := lnE (xGN f i) (amN (ol (xGN f i)) (cnt (xGN f i)))) (by omega) ?_
      refine J_aaldE 21 _ rfl dX3_giveToDriest_20 (by first | assumption | exact isH_1 | exact isH_31 | exact isH_61 | exact isH_p (by omega) | exact isH_E (by assumption) (by omega) | exact isH_R (by assumption) | exact isH_K (by assumption) | exact isH_E isH_1 (by omega) | exact isH_R isH_1 | exact isH_K isH_1 | exact isH_R isH_31 | exact isH_K isH_31 | exact isH_E isH_31 (by omega)) (by omega) ?_
      refine g_X1_oil 24 (by first | assumption | exact isH_1 | exact isH_31 | exact isH_61 | exact isH_p (by omega) | exact isH_E (by assumption) (by omega) | exact isH_R (by assumption) | exact isH_K (by assumption) | exact isH_E isH_1 (by omega) | exact isH_R isH_1 | exact isH_K isH_1 | exact isH_R isH_31 | exact isH_K isH_31 | exact isH_E isH_31 (by omega)) rfl dX3_giveToDriest_21 lkX3_190 ?_
      refine J_iload_n 25 rfl dX3_giveToDriest_24 rfl ?_
      refine J_bipush 27 8 rfl dX3_giveToDriest_25 bc_8 ?_
      refine J_irem 28 rfl dX3_giveToDriest_27 (by omega) (by omega) (by omega) ?_
      refine J_cv (b := lnC (xGN f i) (amN (ol (xGN f i)) (cnt (xGN f i)))) (by omega) ?_
      refine J_dup2 29 rfl dX3_giveToDriest_28 rfl rfl ?_
      refine J_iald 30 rfl dX3_giveToDriest_29 (sa_X1_oil (by first | assumption | exact isH_1 | exact isH_31 | exact isH_61 | exact isH_p (by omega) | exact isH_E (by assumption) (by omega) | exact isH_R (by assumption) | exact isH_K (by assumption) | exact isH_E isH_1 (by omega) | exact isH_R isH_1 | exact isH_K isH_1 | exact isH_R isH_31 | exact isH_K isH_31 | exact isH_E isH_31 (by omega))) (by omega) ?_
      refine J_cv (b := ol (xGN f i) (amN (ol (xGN f i)) (cnt (xGN f i)))) (by rw [ce.2.1, show 7 + 52 * lnE (xGN f i) (amN (ol (xGN f i)) (cnt (xGN f i))) + 12 + lnC (xGN f i) (amN (ol (xGN f i)) (cnt (xGN f i))) = 19 + 52 * lnE (xGN f i) (amN (ol (xGN f i)) (cnt (xGN f i))) + lnC (xGN f i) (amN (ol (xGN f i)) (cnt (xGN f i))) by omega]; rfl) ?_
      refine J_iconst 31 1 rfl dX3_giveToDriest_30 ic_1 ?_
      refine J_iadd 32 rfl dX3_giveToDriest_31 ?_
      refine J_iast 33 rfl dX3_giveToDriest_32 (sa_X1_oil (by first | assumption | exact isH_1 | exact isH_31 | exact isH_61 | exact isH_p (by omega) | exact isH_E (by assumption) (by omega) | exact isH_R (by assumption) | exact isH_K (by assumption) | exact isH_E isH_1 (by omega) | exact isH_R isH_1 | exact isH_K isH_1 | exact isH_R isH_31 | exact isH_K isH_31 | exact isH_E isH_31 (by omega))) (by omega) ?_
      refine J_iinc 36 1 rfl dX3_giveToDriest_33 ic_1 rfl (Nat.le_of_ble_eq_true rfl) ?_
      refine J_goto 2 (by decide) dX3_giveToDriest_36 ?_
      refine J_keep [0, 1, 2] ?_
      refine ih _ (by omega) (i + 1) _ rfl (by omega) (f1.up (by omega)) (by rw [up2_ne (by omega)]; exact r1) ?_
      exact CQ_put c1 w1.1 l.1 l.2.1
  refine J_iconst 1 0 rfl dX3_giveToDriest_0 ic_0 ?_
  refine J_istore_n 2 rfl dX3_giveToDriest_1 rfl (Nat.le_of_ble_eq_true rfl) ?_
  exact loop _ 0 J rfl (Nat.zero_le _) Fr.refl rfl h

theorem S_X3_fillFromStore {g : Gn} {J : DJ} {b u B B0 : Nat} {f : Nat → Nat} (hb : isH b) (h : CP J b f B0) (hw : WF f B) (hBn : B + u < 50000000) (hf : 0 < f 0) (hu : u ≤ f 2) : SJ g mX3_fillFromStore 2 0 0 [.ref (g.2 b), .int (nI (u))] J (Rp (lst (ol (xFill f u)) (cnt (xFill f u))) (fun J2 => Fr b 30 J J2 ∧ CP J2 b (xFill f u) B0)) NoX := by
  have s2 := h.1.1.2.2.1
  have h2 := hw.2.1
  have w1 := store_WF (v := f 2 - u) hw (by omega)
  have q1 := CQ_store (v := f 2 - u) h.1 hw
  have p1 : 0 < up1 f 2 (f 2 - u) 0 := hf
  have w2 := xGN_WF w1 p1 u
  refine SJ_of_VJ (by decide +kernel) (Nat.le_of_ble_eq_true rfl) ?_
  show VJ g mX3_fillFromStore 2 0 0 _ _ 0 [(0, .ref (g.2 b)), (1, .int (nI (u)))] [] J
  refine J_aload_n 1 rfl dX3_fillFromStore_0 rfl ?_
  refine J_dup 2 rfl dX3_fillFromStore_1 rfl ?_
  refine g_X3_store 5 (by first | assumption | exact isH_1 | exact isH_31 | exact isH_61 | exact isH_p (by omega) | exact isH_E (by assumption) (by omega) | exact isH_R (by assumption) | exact isH_K (by assumption) | exact isH_E isH_1 (by omega) | exact isH_R isH_1 | exact isH_K isH_1 | exact isH_R isH_31 | exact isH_K isH_31 | exact isH_E isH_31 (by omega)) rfl dX3_fillFromStore_2 lkX3_35 ?_
  refine J_cv (b := f 2) s2 ?_
  refine J_iload_n 6 rfl dX3_fillFromStore_5 rfl ?_
  refine J_isub 7 rfl dX3_fillFromStore_6 (by omega) ?_
  refine p_X3_store 10 (by first | assumption | exact isH_1 | exact isH_31 | exact isH_61 | exact isH_p (by omega) | exact isH_E (by assumption) (by omega) | exact isH_R (by assumption) | exact isH_K (by assumption) | exact isH_E isH_1 (by omega) | exact isH_R isH_1 | exact isH_K isH_1 | exact isH_R isH_31 | exact isH_K isH_31 | exact isH_E isH_31 (by omega)) rfl dX3_fillFromStore_7 lkX3_35 ?_
  refine J_aload_n 11 rfl dX3_fillFromStore_10 rfl ?_
  refine J_iload_n 12 rfl dX3_fillFromStore_11 rfl ?_
  refine J_callVvp (As := [_]) 15 _ rfl kalX3_giveToDriest lkX3_193 dX3_fillFromStore_12 (lt_X3 (by first | assumption | exact isH_1 | exact isH_31 | exact isH_61 | exact isH_p (by omega) | exact isH_E (by assumption) (by omega) | exact isH_R (by assumption) | exact isH_K (by assumption) | exact isH_E isH_1 (by omega) | exact isH_R isH_1 | exact isH_K isH_1 | exact isH_R isH_31 | exact isH_K isH_31 | exact isH_E isH_31 (by omega))) (so_X3 (by first | assumption | exact isH_1 | exact isH_31 | exact isH_61 | exact isH_p (by omega) | exact isH_E (by assumption) (by omega) | exact isH_R (by assumption) | exact isH_K (by assumption) | exact isH_E isH_1 (by omega) | exact isH_R isH_1 | exact isH_K isH_1 | exact isH_R isH_31 | exact isH_K isH_31 | exact isH_E isH_31 (by omega))) rfl rfl rfl (by exact Nat.le_of_ble_eq_true rfl) (by omega) (S_X3_giveToDriest hb q1 w1 hBn p1) (fun J12 q12 => ?_)
  refine J_aload_n 16 rfl dX3_fillFromStore_15 rfl ?_
  refine J_callVi (As := []) 19 _ rfl kalX3_leastOil lkX3_196 dX3_fillFromStore_16 (lt_X3 (by first | assumption | exact isH_1 | exact isH_31 | exact isH_61 | exact isH_p (by omega) | exact isH_E (by assumption) (by omega) | exact isH_R (by assumption) | exact isH_K (by assumption) | exact isH_E isH_1 (by omega) | exact isH_R isH_1 | exact isH_K isH_1 | exact isH_R isH_31 | exact isH_K isH_31 | exact isH_E isH_31 (by omega))) (so_X3 (by first | assumption | exact isH_1 | exact isH_31 | exact isH_61 | exact isH_p (by omega) | exact isH_E (by assumption) (by omega) | exact isH_R (by assumption) | exact isH_K (by assumption) | exact isH_E isH_1 (by omega) | exact isH_R isH_1 | exact isH_K isH_1 | exact isH_R isH_31 | exact isH_K isH_31 | exact isH_E isH_31 (by omega))) rfl rfl rfl (by exact Nat.le_of_ble_eq_true rfl) (by omega) (S_X3_leastOil hb q12.2.2 w2.1 (by omega) (by rw [w2.2]; exact p1)) ?_
  refine J_iret rfl dX3_fillFromStore_19 ?_
  refine ⟨rfl, ⟨(Fr.refl.up (by omega)).trans q12.1, q12.2.2, ?_⟩⟩
  have o1 := xGN_oil w1 p1 u
  rw [store_oil hw] at o1
  obtain ⟨a1, a2, a3⟩ := h.2
  have rn : ∀ j, j ≠ 6 → J12 b j = J b j := fun j hj => by rw [q12.2.1, up2_app, if_neg (fun z => hj z.2)]
  have st : ∀ k, xGN (up1 f 2 (f 2 - u)) k 2 = f 2 - u := by
    intro k
    induction k with
    | zero => exact up1_self
    | succ k ih =>
      show xG _ 2 = _
      unfold xG
      rw [up1_ne (by omega)]
      exact ih
  unfold CA xFill
  rw [rn 7 (by omega), rn 8 (by omega), rn 9 (by omega), st, o1]
  exact ⟨by omega, a2, a3⟩

theorem S_X3_levelByFilling {g : Gn} {J : DJ} {b u B : Nat} {f : Nat → Nat} (hb : isH b) (h : CQ J b f) (hw : WF f B) (hB9 : B < 50000000) (hf : 0 < f 0) (hu : u < 1000) : SJ g mX3_levelByFilling 2 0 0 [.ref (g.2 b), .int (nI (u))] J (Ri (lst (gvN (ol f) (cnt f) u) (cnt f)) J) NoX := by
  have h0 := hw.1
  have h2 := hw.2.1
  have s0 := h.1.1
  have s2 := h.1.2.2.1
  have hB := hw.2.2.2.2.2.2.2.2.1
  have h5 := hw.2.2.2.2.2.2.2.2.2
  have c1 := cnt_pos hw hf
  have c32 := cnt_le hw
  have hol : ∀ j, j < cnt f → ol f j ≤ B := fun j hj => ol_B hw hj
  refine SJ_of_VJ (by decide +kernel) (Nat.le_of_ble_eq_true rfl) ?_
  show VJ g mX3_levelByFilling 2 0 0 _ _ 0 [(0, .ref (g.2 b)), (1, .int (nI (u)))] [] J
  have loop : ∀ (n9 : Nat) (L left i : Nat), 32 - i = n9 → i + 1 ≤ upTo (ol f) L (cnt f) → L ≤ B → wants (ol f) (cnt f) L + left = u → VJ g mX3_levelByFilling 2 0 0 (Ri (lst (gvN (ol f) (cnt f) u) (cnt f)) J) NoX 10 [(0, .ref (g.2 b)), (1, .int (nI (u))), (2, .int (nI (L))), (3, .int (nI (left))), (4, .int (nI (i)))] [] J := by
    intro n9
    induction n9 using Nat.strongRecOn with
    | ind n9 ih =>
    intro L left i hi hlow hL hwk
    have ul0 := upTo_le (w := ol f) (L := L) (cnt f)
    refine J_iload 12 rfl dX3_levelByFilling_10 rfl ?_
    refine J_bipush 14 32 rfl dX3_levelByFilling_12 bc_32 ?_
    refine J_icmp_ge 81 17 (by decide) rfl dX3_levelByFilling_14 (by omega) (by omega) (fun c14 => ?_) (fun c14 => ?_)
    · refine J_iload_n 82 rfl dX3_levelByFilling_81 rfl ?_
      refine J_iret rfl dX3_levelByFilling_82 ?_
      exfalso; omega
    · refine J_aload_n 18 rfl dX3_levelByFilling_17 rfl ?_
      refine J_iload_n 19 rfl dX3_levelByFilling_18 rfl ?_
      refine J_callVi (As := [_]) 22 _ rfl kalX3_cylindersUpTo lkX3_229 dX3_levelByFilling_19 (lt_X3 (by first | assumption | exact isH_1 | exact isH_31 | exact isH_61 | exact isH_p (by omega) | exact isH_E (by assumption) (by omega) | exact isH_R (by assumption) | exact isH_K (by assumption) | exact isH_E isH_1 (by omega) | exact isH_R isH_1 | exact isH_K isH_1 | exact isH_R isH_31 | exact isH_K isH_31 | exact isH_E isH_31 (by omega))) (so_X3 (by first | assumption | exact isH_1 | exact isH_31 | exact isH_61 | exact isH_p (by omega) | exact isH_E (by assumption) (by omega) | exact isH_R (by assumption) | exact isH_K (by assumption) | exact isH_E isH_1 (by omega) | exact isH_R isH_1 | exact isH_K isH_1 | exact isH_R isH_31 | exact isH_K isH_31 | exact isH_E isH_31 (by omega))) rfl rfl rfl (by exact Nat.le_of_ble_eq_true rfl) (by omega) (S_X3_cylindersUpTo hb h hw hB9 (by omega)) ?_
      refine J_istore 24 rfl dX3_levelByFilling_22 (Nat.le_of_ble_eq_true rfl) ?_
      refine J_aload_n 25 rfl dX3_levelByFilling_24 rfl ?_
      refine J_iload_n 26 rfl dX3_levelByFilling_25 rfl ?_
      refine J_callVi (As := [_]) 29 _ rfl kalX3_leastOilAbove lkX3_232 dX3_levelByFilling_26 (lt_X3 (by first | assumption | exact isH_1 | exact isH_31 | exact isH_61 | exact isH_p (by omega) | exact isH_E (by assumption) (by omega) | exact isH_R (by assumption) | exact isH_K (by assumption) | exact isH_E isH_1 (by omega) | exact isH_R isH_1 | exact isH_K isH_1 | exact isH_R isH_31 | exact isH_K isH_31 | exact isH_E isH_31 (by omega))) (so_X3 (by first | assumption | exact isH_1 | exact isH_31 | exact isH_61 | exact isH_p (by omega) | exact isH_E (by assumption) (by omega) | exact isH_R (by assumption) | exact isH_K (by assumption) | exact isH_E isH_1 (by omega) | exact isH_R isH_1 | exact isH_K isH_1 | exact isH_R isH_31 | exact isH_K isH_31 | exact isH_E isH_31 (by omega))) rfl rfl rfl (by exact Nat.le_of_ble_eq_true rfl) (by omega) (S_X3_leastOilAbove hb h hw hB9 (by omega)) ?_
      refine J_istore 31 rfl dX3_levelByFilling_29 (Nat.le_of_ble_eq_true rfl) ?_
      refine J_iload 33 rfl dX3_levelByFilling_31 rfl ?_
      refine J_if_ne 38 36 (by decide) rfl dX3_levelByFilling_33 (by omega) (fun c33 => ?_) (fun c33 => ?_)
      · have ab2 : abv (ol f) L (cnt f) < 4294967296 := (abv_is (w := ol f) (L := L) (B := B) (by omega) (cnt f) hol).elim (fun z => by rw [z.1]; omega) (fun z => Nat.lt_of_le_of_lt z.2.1 (by omega))
        refine J_iload 40 rfl dX3_levelByFilling_38 rfl ?_
        refine J_iconst 41 4294967295 rfl dX3_levelByFilling_40 ic_m1 ?_
        refine J_icmp_eq 55 44 (by decide) rfl dX3_levelByFilling_41 (by omega) (by omega) (fun c41 => ?_) (fun c41 => ?_)
        · have ul := upTo_le (w := ol f) (L := L) (cnt f)
          refine J_iload_n 56 rfl dX3_levelByFilling_55 rfl ?_
          refine J_iload_n 57 rfl dX3_levelByFilling_56 rfl ?_
          refine J_iload 59 rfl dX3_levelByFilling_57 rfl ?_
          refine J_idiv 60 rfl dX3_levelByFilling_59 (by omega) (by omega) (by omega) ?_
          refine J_iadd 61 rfl dX3_levelByFilling_60 ?_
          refine J_iret rfl dX3_levelByFilling_61 ?_
          refine ⟨?_, rfl⟩
          rw [fill_end (B := B) (by omega) hol c1 (by omega) hwk (by first | exact Or.inl (by omega) | exact Or.inr (by omega))]
        · have ab : L < abv (ol f) L (cnt f) ∧ abv (ol f) L (cnt f) ≤ B ∧ ∃ d, d < cnt f ∧ ol f d = abv (ol f) L (cnt f) ∧ ∀ j, j < cnt f → ol f j ≤ L ∨ abv (ol f) L (cnt f) ≤ ol f j := (abv_is (by omega) (cnt f) hol).elim (fun z => absurd z.1 (by omega)) id
          have a1 := ab.1
          have a2 := ab.2.1
          have ul := upTo_le (w := ol f) (L := L) (cnt f)
          have pm : (abv (ol f) L (cnt f) - L) * upTo (ol f) L (cnt f) ≤ 50000000 * 32 := Nat.mul_le_mul (by omega) (by omega)
          refine J_iload_n 45 rfl dX3_levelByFilling_44 rfl ?_
          refine J_iload 47 rfl dX3_levelByFilling_45 rfl ?_
          refine J_iload_n 48 rfl dX3_levelByFilling_47 rfl ?_
          refine J_isub 49 rfl dX3_levelByFilling_48 (by omega) ?_
          refine J_iload 51 rfl dX3_levelByFilling_49 rfl ?_
          refine J_imul 52 rfl dX3_levelByFilling_51 ?_
          refine J_icmp_ge 62 55 (by decide) rfl dX3_levelByFilling_52 (by omega) (by omega) (fun c52 => ?_) (fun c52 => ?_)
          · refine J_iload_n 63 rfl dX3_levelByFilling_62 rfl ?_
            refine J_iload 65 rfl dX3_levelByFilling_63 rfl ?_
            refine J_iload_n 66 rfl dX3_levelByFilling_65 rfl ?_
            refine J_isub 67 rfl dX3_levelByFilling_66 (by omega) ?_
            refine J_iload 69 rfl dX3_levelByFilling_67 rfl ?_
            refine J_imul 70 rfl dX3_levelByFilling_69 ?_
            refine J_isub 71 rfl dX3_levelByFilling_70 (by omega) ?_
            refine J_istore_n 72 rfl dX3_levelByFilling_71 rfl (Nat.le_of_ble_eq_true rfl) ?_
            refine J_iload 74 rfl dX3_levelByFilling_72 rfl ?_
            refine J_istore_n 75 rfl dX3_levelByFilling_74 rfl (Nat.le_of_ble_eq_true rfl) ?_
            refine J_iinc 78 1 rfl dX3_levelByFilling_75 ic_1 rfl (Nat.le_of_ble_eq_true rfl) ?_
            refine J_goto 10 (by decide) dX3_levelByFilling_78 ?_
            have ws := wants_step (w := ol f) (show L ≤ abv (ol f) L (cnt f) by omega) (cnt f) ab.2.2.choose_spec.2.2
            have um := upTo_more (w := ol f) (L := L) (M := abv (ol f) L (cnt f)) (cnt f) ab.2.2.choose_spec.1 (by rw [ab.2.2.choose_spec.2.1]; exact a1) (by rw [ab.2.2.choose_spec.2.1]; exact Nat.le_refl _)
            clear ab
            refine J_keep [0, 1, 2, 3, 4] ?_
            exact ih _ (by omega) (abv (ol f) L (cnt f)) _ (i + 1) rfl (by omega) a2 (by rw [ws]; omega)
          · have ul := upTo_le (w := ol f) (L := L) (cnt f)
            refine J_iload_n 56 rfl dX3_levelByFilling_55 rfl ?_
            refine J_iload_n 57 rfl dX3_levelByFilling_56 rfl ?_
            refine J_iload 59 rfl dX3_levelByFilling_57 rfl ?_
            refine J_idiv 60 rfl dX3_levelByFilling_59 (by omega) (by omega) (by omega) ?_
            refine J_iadd 61 rfl dX3_levelByFilling_60 ?_
            refine J_iret rfl dX3_levelByFilling_61 ?_
            refine ⟨?_, rfl⟩
            rw [fill_end (B := B) (by omega) hol c1 (by omega) hwk (by first | exact Or.inl (by omega) | exact Or.inr (by omega))]
      · refine J_iload_n 37 rfl dX3_levelByFilling_36 rfl ?_
        refine J_iret rfl dX3_levelByFilling_37 ?_
        exfalso; omega
  refine J_aload_n 1 rfl dX3_levelByFilling_0 rfl ?_
  refine J_callVi (As := []) 4 _ rfl kalX3_leastOil lkX3_196 dX3_levelByFilling_1 (lt_X3 (by first | assumption | exact isH_1 | exact isH_31 | exact isH_61 | exact isH_p (by omega) | exact isH_E (by assumption) (by omega) | exact isH_R (by assumption) | exact isH_K (by assumption) | exact isH_E isH_1 (by omega) | exact isH_R isH_1 | exact isH_K isH_1 | exact isH_R isH_31 | exact isH_K isH_31 | exact isH_E isH_31 (by omega))) (so_X3 (by first | assumption | exact isH_1 | exact isH_31 | exact isH_61 | exact isH_p (by omega) | exact isH_E (by assumption) (by omega) | exact isH_R (by assumption) | exact isH_K (by assumption) | exact isH_E isH_1 (by omega) | exact isH_R isH_1 | exact isH_K isH_1 | exact isH_R isH_31 | exact isH_K isH_31 | exact isH_E isH_31 (by omega))) rfl rfl rfl (by exact Nat.le_of_ble_eq_true rfl) (by omega) (S_X3_leastOil hb h hw hB9 hf) ?_
  refine J_istore_n 5 rfl dX3_levelByFilling_4 rfl (Nat.le_of_ble_eq_true rfl) ?_
  refine J_iload_n 6 rfl dX3_levelByFilling_5 rfl ?_
  refine J_istore_n 7 rfl dX3_levelByFilling_6 rfl (Nat.le_of_ble_eq_true rfl) ?_
  refine J_iconst 8 0 rfl dX3_levelByFilling_7 ic_0 ?_
  refine J_istore 10 rfl dX3_levelByFilling_8 (Nat.le_of_ble_eq_true rfl) ?_
  exact loop _ (lst (ol f) (cnt f)) u 0 rfl (upTo_pos _ (amN_lt (ol f) _ c1) (Nat.le_refl _)) (hol _ (amN_lt (ol f) _ c1)) (by rw [wants_min]; omega)

theorem S_X3_allCylinders {g : Gn} {J : DJ} {b  B : Nat} {f : Nat → Nat} (hb : isH b) (h : CQ J b f) (hw : WF f B) : SJ g mX3_allCylinders 0 0 0 [.ref (g.2 b)] J (Ri (cnt f) J) NoX := by
  have h0 := hw.1
  have h2 := hw.2.1
  have s0 := h.1.1
  have s2 := h.1.2.2.1
  have hB := hw.2.2.2.2.2.2.2.2.1
  have h5 := hw.2.2.2.2.2.2.2.2.2
  refine SJ_of_VJ (by decide +kernel) (Nat.le_of_ble_eq_true rfl) ?_
  show VJ g mX3_allCylinders 0 0 0 _ _ 0 [(0, .ref (g.2 b))] [] J
  have loop : ∀ (n9 : Nat) (e : Nat), f 0 - e = n9 → e ≤ f 0 → VJ g mX3_allCylinders 0 0 0 (Ri (cnt f) J) NoX 4 [(0, .ref (g.2 b)), (1, .int (nI (cyN f e))), (2, .int (nI (e)))] [] J := by
    intro n9
    induction n9 using Nat.strongRecOn with
    | ind n9 ih =>
    intro e hi hle
    refine J_iload_n 5 rfl dX3_allCylinders_4 rfl ?_
    refine J_aload_n 6 rfl dX3_allCylinders_5 rfl ?_
    refine g_X3_engineCount 9 (by first | assumption | exact isH_1 | exact isH_31 | exact isH_61 | exact isH_p (by omega) | exact isH_E (by assumption) (by omega) | exact isH_R (by assumption) | exact isH_K (by assumption) | exact isH_E isH_1 (by omega) | exact isH_R isH_1 | exact isH_K isH_1 | exact isH_R isH_31 | exact isH_K isH_31 | exact isH_E isH_31 (by omega)) rfl dX3_allCylinders_6 lkX3_43 ?_
    refine J_cv (b := f 0) s0 ?_
    refine J_icmp_ge 30 12 (by decide) rfl dX3_allCylinders_9 (by omega) (by omega) (fun c9 => ?_) (fun c9 => ?_)
    · refine J_iload_n 31 rfl dX3_allCylinders_30 rfl ?_
      refine J_iret rfl dX3_allCylinders_31 ?_
      have e0 : e = f 0 := by omega
      subst e0
      exact ⟨rfl, rfl⟩
    · refine J_iload_n 13 rfl dX3_allCylinders_12 rfl ?_
      refine J_aload_n 14 rfl dX3_allCylinders_13 rfl ?_
      refine g_X3_engines 17 (by first | assumption | exact isH_1 | exact isH_31 | exact isH_61 | exact isH_p (by omega) | exact isH_E (by assumption) (by omega) | exact isH_R (by assumption) | exact isH_K (by assumption) | exact isH_E isH_1 (by omega) | exact isH_R isH_1 | exact isH_K isH_1 | exact isH_R isH_31 | exact isH_K isH_31 | exact isH_E isH_31 (by omega)) rfl dX3_allCylinders_14 lkX3_11 ?_
      refine J_iload_n 18 rfl dX3_allCylinders_17 rfl ?_
      refine J_aaldE 19 _ rfl dX3_allCylinders_18 (by first | assumption | exact isH_1 | exact isH_31 | exact isH_61 | exact isH_p (by omega) | exact isH_E (by assumption) (by omega) | exact isH_R (by assumption) | exact isH_K (by assumption) | exact isH_E isH_1 (by omega) | exact isH_R isH_1 | exact isH_K isH_1 | exact isH_R isH_31 | exact isH_K isH_31 | exact isH_E isH_31 (by omega)) (by omega) ?_
      refine g_X1_cylinders 22 (by first | assumption | exact isH_1 | exact isH_31 | exact isH_61 | exact isH_p (by omega) | exact isH_E (by assumption) (by omega) | exact isH_R (by assumption) | exact isH_K (by assumption) | exact isH_E isH_1 (by omega) | exact isH_R isH_1 | exact isH_K isH_1 | exact isH_R isH_31 | exact isH_K isH_31 | exact isH_E isH_31 (by omega)) rfl dX3_allCylinders_19 lkX3_202 ?_
      refine J_cv (b := f (7 + 52 * e)) (h.2.2.2.2 e (by omega)).1 ?_
      refine J_iadd 23 rfl dX3_allCylinders_22 ?_
      refine J_istore_n 24 rfl dX3_allCylinders_23 rfl (Nat.le_of_ble_eq_true rfl) ?_
      refine J_iinc 27 1 rfl dX3_allCylinders_24 ic_1 rfl (Nat.le_of_ble_eq_true rfl) ?_
      refine J_goto 4 (by decide) dX3_allCylinders_27 ?_
      exact ih _ (by omega) (e + 1) rfl (by omega)
  refine J_iconst 1 0 rfl dX3_allCylinders_0 ic_0 ?_
  refine J_istore_n 2 rfl dX3_allCylinders_1 rfl (Nat.le_of_ble_eq_true rfl) ?_
  refine J_iconst 3 0 rfl dX3_allCylinders_2 ic_0 ?_
  refine J_istore_n 4 rfl dX3_allCylinders_3 rfl (Nat.le_of_ble_eq_true rfl) ?_
  exact loop _ 0 rfl (Nat.zero_le _)

theorem S_X3_oilInCylinders {g : Gn} {J : DJ} {b  B : Nat} {f : Nat → Nat} (hb : isH b) (h : CQ J b f) (hw : WF f B) : SJ g mX3_oilInCylinders 1 0 0 [.ref (g.2 b)] J (Ri (allOil f) J) NoX := by
  have h0 := hw.1
  have h2 := hw.2.1
  have s0 := h.1.1
  have s2 := h.1.2.2.1
  have hB := hw.2.2.2.2.2.2.2.2.1
  have h5 := hw.2.2.2.2.2.2.2.2.2
  refine SJ_of_VJ (by decide +kernel) (Nat.le_of_ble_eq_true rfl) ?_
  show VJ g mX3_oilInCylinders 1 0 0 _ _ 0 [(0, .ref (g.2 b))] [] J
  have loop : ∀ (n9 : Nat) (e : Nat), f 0 - e = n9 → e ≤ f 0 → VJ g mX3_oilInCylinders 1 0 0 (Ri (allOil f) J) NoX 4 [(0, .ref (g.2 b)), (1, .int (nI (sumN (fun e => eOil f (7 + 52 * e)) e))), (2, .int (nI (e)))] [] J := by
    intro n9
    induction n9 using Nat.strongRecOn with
    | ind n9 ih =>
    intro e hi hle
    refine J_iload_n 5 rfl dX3_oilInCylinders_4 rfl ?_
    refine J_aload_n 6 rfl dX3_oilInCylinders_5 rfl ?_
    refine g_X3_engineCount 9 (by first | assumption | exact isH_1 | exact isH_31 | exact isH_61 | exact isH_p (by omega) | exact isH_E (by assumption) (by omega) | exact isH_R (by assumption) | exact isH_K (by assumption) | exact isH_E isH_1 (by omega) | exact isH_R isH_1 | exact isH_K isH_1 | exact isH_R isH_31 | exact isH_K isH_31 | exact isH_E isH_31 (by omega)) rfl dX3_oilInCylinders_6 lkX3_43 ?_
    refine J_cv (b := f 0) s0 ?_
    refine J_icmp_ge 39 12 (by decide) rfl dX3_oilInCylinders_9 (by omega) (by omega) (fun c9 => ?_) (fun c9 => ?_)
    · refine J_iload_n 40 rfl dX3_oilInCylinders_39 rfl ?_
      refine J_iret rfl dX3_oilInCylinders_40 ?_
      have e0 : e = f 0 := by omega
      subst e0
      exact ⟨rfl, rfl⟩
    · have ce := h.2.2.2.2 e (by omega)
      have c8 := (hw.2.2.2.2.2.1 e (by omega)).2.1
      have hE := isH_E hb (show e < 4 by omega)
      refine J_iload_n 13 rfl dX3_oilInCylinders_12 rfl ?_
      refine J_aload_n 14 rfl dX3_oilInCylinders_13 rfl ?_
      refine g_X3_engines 17 (by first | assumption | exact isH_1 | exact isH_31 | exact isH_61 | exact isH_p (by omega) | exact isH_E (by assumption) (by omega) | exact isH_R (by assumption) | exact isH_K (by assumption) | exact isH_E isH_1 (by omega) | exact isH_R isH_1 | exact isH_K isH_1 | exact isH_R isH_31 | exact isH_K isH_31 | exact isH_E isH_31 (by omega)) rfl dX3_oilInCylinders_14 lkX3_11 ?_
      refine J_iload_n 18 rfl dX3_oilInCylinders_17 rfl ?_
      refine J_aaldE 19 _ rfl dX3_oilInCylinders_18 (by first | assumption | exact isH_1 | exact isH_31 | exact isH_61 | exact isH_p (by omega) | exact isH_E (by assumption) (by omega) | exact isH_R (by assumption) | exact isH_K (by assumption) | exact isH_E isH_1 (by omega) | exact isH_R isH_1 | exact isH_K isH_1 | exact isH_R isH_31 | exact isH_K isH_31 | exact isH_E isH_31 (by omega)) (by omega) ?_
      refine J_aload_n 20 rfl dX3_oilInCylinders_19 rfl ?_
      refine g_X3_engines 23 (by first | assumption | exact isH_1 | exact isH_31 | exact isH_61 | exact isH_p (by omega) | exact isH_E (by assumption) (by omega) | exact isH_R (by assumption) | exact isH_K (by assumption) | exact isH_E isH_1 (by omega) | exact isH_R isH_1 | exact isH_K isH_1 | exact isH_R isH_31 | exact isH_K isH_31 | exact isH_E isH_31 (by omega)) rfl dX3_oilInCylinders_20 lkX3_11 ?_
      refine J_iload_n 24 rfl dX3_oilInCylinders_23 rfl ?_
      refine J_aaldE 25 _ rfl dX3_oilInCylinders_24 (by first | assumption | exact isH_1 | exact isH_31 | exact isH_61 | exact isH_p (by omega) | exact isH_E (by assumption) (by omega) | exact isH_R (by assumption) | exact isH_K (by assumption) | exact isH_E isH_1 (by omega) | exact isH_R isH_1 | exact isH_K isH_1 | exact isH_R isH_31 | exact isH_K isH_31 | exact isH_E isH_31 (by omega)) (by omega) ?_
      refine g_X1_oil 28 (by first | assumption | exact isH_1 | exact isH_31 | exact isH_61 | exact isH_p (by omega) | exact isH_E (by assumption) (by omega) | exact isH_R (by assumption) | exact isH_K (by assumption) | exact isH_E isH_1 (by omega) | exact isH_R isH_1 | exact isH_K isH_1 | exact isH_R isH_31 | exact isH_K isH_31 | exact isH_E isH_31 (by omega)) rfl dX3_oilInCylinders_25 lkX3_190 ?_
      refine J_callVi (As := [_]) 31 _ rfl kalX1_sumOf lkX3_225 dX3_oilInCylinders_28 (lt_X1 (by first | assumption | exact isH_1 | exact isH_31 | exact isH_61 | exact isH_p (by omega) | exact isH_E (by assumption) (by omega) | exact isH_R (by assumption) | exact isH_K (by assumption) | exact isH_E isH_1 (by omega) | exact isH_R isH_1 | exact isH_K isH_1 | exact isH_R isH_31 | exact isH_K isH_31 | exact isH_E isH_31 (by omega))) (so_X1 (by first | assumption | exact isH_1 | exact isH_31 | exact isH_61 | exact isH_p (by omega) | exact isH_E (by assumption) (by omega) | exact isH_R (by assumption) | exact isH_K (by assumption) | exact isH_E isH_1 (by omega) | exact isH_R isH_1 | exact isH_K isH_1 | exact isH_R isH_31 | exact isH_K isH_31 | exact isH_E isH_31 (by omega))) rfl rfl rfl (by exact Nat.le_of_ble_eq_true rfl) (by omega) (S_X1_sumOf (N := 8) hE (sa_X1_oil hE) (by rw [ce.1]; exact c8) (by rw [ce.1]; exact c8)) ?_
      refine J_cv (b := eOil f (7 + 52 * e)) (by rw [ce.1]; exact sumN_congr _ (fun c hc => (ce.2.2.2.2.2.1 c hc).2.1)) ?_
      refine J_iadd 32 rfl dX3_oilInCylinders_31 ?_
      refine J_istore_n 33 rfl dX3_oilInCylinders_32 rfl (Nat.le_of_ble_eq_true rfl) ?_
      refine J_iinc 36 1 rfl dX3_oilInCylinders_33 ic_1 rfl (Nat.le_of_ble_eq_true rfl) ?_
      refine J_goto 4 (by decide) dX3_oilInCylinders_36 ?_
      exact ih _ (by omega) (e + 1) rfl (by omega)
  refine J_iconst 1 0 rfl dX3_oilInCylinders_0 ic_0 ?_
  refine J_istore_n 2 rfl dX3_oilInCylinders_1 rfl (Nat.le_of_ble_eq_true rfl) ?_
  refine J_iconst 3 0 rfl dX3_oilInCylinders_2 ic_0 ?_
  refine J_istore_n 4 rfl dX3_oilInCylinders_3 rfl (Nat.le_of_ble_eq_true rfl) ?_
  exact loop _ 0 rfl (Nat.zero_le _)

theorem S_X3_enginesBefore {g : Gn} {J : DJ} {b k B : Nat} {f : Nat → Nat} (hb : isH b) (h : CQ J b f) (hw : WF f B) (hB9 : B < 50000000) (hk : k < f 0) : SJ g mX3_enginesBefore 1 0 0 [.ref (g.2 b), .int (nI (k))] J (Ri (bef f k) J) NoX := by
  have h0 := hw.1
  have h2 := hw.2.1
  have s0 := h.1.1
  have s2 := h.1.2.2.1
  have hB := hw.2.2.2.2.2.2.2.2.1
  have h5 := hw.2.2.2.2.2.2.2.2.2
  have wk := worn_le hw hk
  have ce := h.2.2.2.2 k hk
  have c8 := (hw.2.2.2.2.2.1 k hk).2.1
  have hE := isH_E hb (show k < 4 by omega)
  refine SJ_of_VJ (by decide +kernel) (Nat.le_of_ble_eq_true rfl) ?_
  show VJ g mX3_enginesBefore 1 0 0 _ _ 0 [(0, .ref (g.2 b)), (1, .int (nI (k)))] [] J
  have loop : ∀ (n9 : Nat) (e : Nat), f 0 - e = n9 → e ≤ f 0 → VJ g mX3_enginesBefore 1 0 0 (Ri (bef f k) J) NoX 24 [(0, .ref (g.2 b)), (1, .int (nI (k))), (2, .int (nI (worn f k))), (3, .int (nI (befN f k e))), (4, .int (nI (e)))] [] J := by
    intro n9
    induction n9 using Nat.strongRecOn with
    | ind n9 ih =>
    intro e hi hle
    refine J_iload 26 rfl dX3_enginesBefore_24 rfl ?_
    refine J_aload_n 27 rfl dX3_enginesBefore_26 rfl ?_
    refine g_X3_engineCount 30 (by first | assumption | exact isH_1 | exact isH_31 | exact isH_61 | exact isH_p (by omega) | exact isH_E (by assumption) (by omega) | exact isH_R (by assumption) | exact isH_K (by assumption) | exact isH_E isH_1 (by omega) | exact isH_R isH_1 | exact isH_K isH_1 | exact isH_R isH_31 | exact isH_K isH_31 | exact isH_E isH_31 (by omega)) rfl dX3_enginesBefore_27 lkX3_43 ?_
    refine J_cv (b := f 0) s0 ?_
    refine J_icmp_ge 82 33 (by decide) rfl dX3_enginesBefore_30 (by omega) (by omega) (fun c30 => ?_) (fun c30 => ?_)
    · refine J_iload_n 83 rfl dX3_enginesBefore_82 rfl ?_
      refine J_iret rfl dX3_enginesBefore_83 ?_
      have e0 : e = f 0 := by omega
      subst e0
      exact ⟨rfl, rfl⟩
    · have we := worn_le hw (show e < f 0 by omega)
      have ce := h.2.2.2.2 e (by omega)
      have c8 := (hw.2.2.2.2.2.1 e (by omega)).2.1
      have hE := isH_E hb (show e < 4 by omega)
      refine J_aload_n 34 rfl dX3_enginesBefore_33 rfl ?_
      refine g_X3_engines 37 (by first | assumption | exact isH_1 | exact isH_31 | exact isH_61 | exact isH_p (by omega) | exact isH_E (by assumption) (by omega) | exact isH_R (by assumption) | exact isH_K (by assumption) | exact isH_E isH_1 (by omega) | exact isH_R isH_1 | exact isH_K isH_1 | exact isH_R isH_31 | exact isH_K isH_31 | exact isH_E isH_31 (by omega)) rfl dX3_enginesBefore_34 lkX3_11 ?_
      refine J_iload 39 rfl dX3_enginesBefore_37 rfl ?_
      refine J_aaldE 40 _ rfl dX3_enginesBefore_39 (by first | assumption | exact isH_1 | exact isH_31 | exact isH_61 | exact isH_p (by omega) | exact isH_E (by assumption) (by omega) | exact isH_R (by assumption) | exact isH_K (by assumption) | exact isH_E isH_1 (by omega) | exact isH_R isH_1 | exact isH_K isH_1 | exact isH_R isH_31 | exact isH_K isH_31 | exact isH_E isH_31 (by omega)) (by omega) ?_
      refine J_aload_n 41 rfl dX3_enginesBefore_40 rfl ?_
      refine g_X3_engines 44 (by first | assumption | exact isH_1 | exact isH_31 | exact isH_61 | exact isH_p (by omega) | exact isH_E (by assumption) (by omega) | exact isH_R (by assumption) | exact isH_K (by assumption) | exact isH_E isH_1 (by omega) | exact isH_R isH_1 | exact isH_K isH_1 | exact isH_R isH_31 | exact isH_K isH_31 | exact isH_E isH_31 (by omega)) rfl dX3_enginesBefore_41 lkX3_11 ?_
      refine J_iload 46 rfl dX3_enginesBefore_44 rfl ?_
      refine J_aaldE 47 _ rfl dX3_enginesBefore_46 (by first | assumption | exact isH_1 | exact isH_31 | exact isH_61 | exact isH_p (by omega) | exact isH_E (by assumption) (by omega) | exact isH_R (by assumption) | exact isH_K (by assumption) | exact isH_E isH_1 (by omega) | exact isH_R isH_1 | exact isH_K isH_1 | exact isH_R isH_31 | exact isH_K isH_31 | exact isH_E isH_31 (by omega)) (by omega) ?_
      refine g_X1_wear 50 (by first | assumption | exact isH_1 | exact isH_31 | exact isH_61 | exact isH_p (by omega) | exact isH_E (by assumption) (by omega) | exact isH_R (by assumption) | exact isH_K (by assumption) | exact isH_E isH_1 (by omega) | exact isH_R isH_1 | exact isH_K isH_1 | exact isH_R isH_31 | exact isH_K isH_31 | exact isH_E isH_31 (by omega)) rfl dX3_enginesBefore_47 lkX3_238 ?_
      refine J_callVi (As := [_]) 53 _ rfl kalX1_sumOf lkX3_225 dX3_enginesBefore_50 (lt_X1 (by first | assumption | exact isH_1 | exact isH_31 | exact isH_61 | exact isH_p (by omega) | exact isH_E (by assumption) (by omega) | exact isH_R (by assumption) | exact isH_K (by assumption) | exact isH_E isH_1 (by omega) | exact isH_R isH_1 | exact isH_K isH_1 | exact isH_R isH_31 | exact isH_K isH_31 | exact isH_E isH_31 (by omega))) (so_X1 (by first | assumption | exact isH_1 | exact isH_31 | exact isH_61 | exact isH_p (by omega) | exact isH_E (by assumption) (by omega) | exact isH_R (by assumption) | exact isH_K (by assumption) | exact isH_E isH_1 (by omega) | exact isH_R isH_1 | exact isH_K isH_1 | exact isH_R isH_31 | exact isH_K isH_31 | exact isH_E isH_31 (by omega))) rfl rfl rfl (by exact Nat.le_of_ble_eq_true rfl) (by omega) (S_X1_sumOf (N := 8) hE (sa_X1_wear hE) (by rw [ce.1]; exact c8) (by rw [ce.1]; exact c8)) ?_
      refine J_cv (b := worn f e) (by rw [ce.1]; exact sumN_congr _ (fun c hc => by rw [(ce.2.2.2.2.2.1 c hc).2.2, show 7 + 52 * e + 20 + c = 27 + 52 * e + c by omega])) ?_
      refine J_istore 55 rfl dX3_enginesBefore_53 (Nat.le_of_ble_eq_true rfl) ?_
      refine J_iload 57 rfl dX3_enginesBefore_55 rfl ?_
      refine J_iload_n 58 rfl dX3_enginesBefore_57 rfl ?_
      refine J_icmp_gt 73 61 (by decide) rfl dX3_enginesBefore_58 (by omega) (by omega) (fun c58 => ?_) (fun c58 => ?_)
      · refine J_iinc 76 1 rfl dX3_enginesBefore_73 ic_1 rfl (Nat.le_of_ble_eq_true rfl) ?_
        refine J_iinc 79 1 rfl dX3_enginesBefore_76 ic_1 rfl (Nat.le_of_ble_eq_true rfl) ?_
        refine J_goto 24 (by decide) dX3_enginesBefore_79 ?_
        refine J_keep [0, 1, 2, 3, 4] ?_
        have nx := ih _ (by omega) (e + 1) rfl (by omega)
        rw [show befN f k (e + 1) = befN f k e + (if worn f k < worn f e ∨ (worn f e = worn f k ∧ e < k) then 1 else 0) from rfl] at nx
        first
          | rw [if_neg (by omega)] at nx; exact nx
          | rw [if_pos (by omega)] at nx; exact nx
      · refine J_iload 63 rfl dX3_enginesBefore_61 rfl ?_
        refine J_iload_n 64 rfl dX3_enginesBefore_63 rfl ?_
        refine J_icmp_ne 76 67 (by decide) rfl dX3_enginesBefore_64 (by omega) (by omega) (fun c64 => ?_) (fun c64 => ?_)
        · refine J_iinc 79 1 rfl dX3_enginesBefore_76 ic_1 rfl (Nat.le_of_ble_eq_true rfl) ?_
          refine J_goto 24 (by decide) dX3_enginesBefore_79 ?_
          refine J_keep [0, 1, 2, 3, 4] ?_
          have nx := ih _ (by omega) (e + 1) rfl (by omega)
          rw [show befN f k (e + 1) = befN f k e + (if worn f k < worn f e ∨ (worn f e = worn f k ∧ e < k) then 1 else 0) from rfl] at nx
          first
            | rw [if_neg (by omega)] at nx; exact nx
            | rw [if_pos (by omega)] at nx; exact nx
        · refine J_iload 69 rfl dX3_enginesBefore_67 rfl ?_
          refine J_iload_n 70 rfl dX3_enginesBefore_69 rfl ?_
          refine J_icmp_ge 76 73 (by decide) rfl dX3_enginesBefore_70 (by omega) (by omega) (fun c70 => ?_) (fun c70 => ?_)
          · refine J_iinc 79 1 rfl dX3_enginesBefore_76 ic_1 rfl (Nat.le_of_ble_eq_true rfl) ?_
            refine J_goto 24 (by decide) dX3_enginesBefore_79 ?_
            refine J_keep [0, 1, 2, 3, 4] ?_
            have nx := ih _ (by omega) (e + 1) rfl (by omega)
            rw [show befN f k (e + 1) = befN f k e + (if worn f k < worn f e ∨ (worn f e = worn f k ∧ e < k) then 1 else 0) from rfl] at nx
            first
              | rw [if_neg (by omega)] at nx; exact nx
              | rw [if_pos (by omega)] at nx; exact nx
          · refine J_iinc 76 1 rfl dX3_enginesBefore_73 ic_1 rfl (Nat.le_of_ble_eq_true rfl) ?_
            refine J_iinc 79 1 rfl dX3_enginesBefore_76 ic_1 rfl (Nat.le_of_ble_eq_true rfl) ?_
            refine J_goto 24 (by decide) dX3_enginesBefore_79 ?_
            refine J_keep [0, 1, 2, 3, 4] ?_
            have nx := ih _ (by omega) (e + 1) rfl (by omega)
            rw [show befN f k (e + 1) = befN f k e + (if worn f k < worn f e ∨ (worn f e = worn f k ∧ e < k) then 1 else 0) from rfl] at nx
            first
              | rw [if_neg (by omega)] at nx; exact nx
              | rw [if_pos (by omega)] at nx; exact nx
  refine J_aload_n 1 rfl dX3_enginesBefore_0 rfl ?_
  refine g_X3_engines 4 (by first | assumption | exact isH_1 | exact isH_31 | exact isH_61 | exact isH_p (by omega) | exact isH_E (by assumption) (by omega) | exact isH_R (by assumption) | exact isH_K (by assumption) | exact isH_E isH_1 (by omega) | exact isH_R isH_1 | exact isH_K isH_1 | exact isH_R isH_31 | exact isH_K isH_31 | exact isH_E isH_31 (by omega)) rfl dX3_enginesBefore_1 lkX3_11 ?_
  refine J_iload_n 5 rfl dX3_enginesBefore_4 rfl ?_
  refine J_aaldE 6 _ rfl dX3_enginesBefore_5 (by first | assumption | exact isH_1 | exact isH_31 | exact isH_61 | exact isH_p (by omega) | exact isH_E (by assumption) (by omega) | exact isH_R (by assumption) | exact isH_K (by assumption) | exact isH_E isH_1 (by omega) | exact isH_R isH_1 | exact isH_K isH_1 | exact isH_R isH_31 | exact isH_K isH_31 | exact isH_E isH_31 (by omega)) (by omega) ?_
  refine J_aload_n 7 rfl dX3_enginesBefore_6 rfl ?_
  refine g_X3_engines 10 (by first | assumption | exact isH_1 | exact isH_31 | exact isH_61 | exact isH_p (by omega) | exact isH_E (by assumption) (by omega) | exact isH_R (by assumption) | exact isH_K (by assumption) | exact isH_E isH_1 (by omega) | exact isH_R isH_1 | exact isH_K isH_1 | exact isH_R isH_31 | exact isH_K isH_31 | exact isH_E isH_31 (by omega)) rfl dX3_enginesBefore_7 lkX3_11 ?_
  refine J_iload_n 11 rfl dX3_enginesBefore_10 rfl ?_
  refine J_aaldE 12 _ rfl dX3_enginesBefore_11 (by first | assumption | exact isH_1 | exact isH_31 | exact isH_61 | exact isH_p (by omega) | exact isH_E (by assumption) (by omega) | exact isH_R (by assumption) | exact isH_K (by assumption) | exact isH_E isH_1 (by omega) | exact isH_R isH_1 | exact isH_K isH_1 | exact isH_R isH_31 | exact isH_K isH_31 | exact isH_E isH_31 (by omega)) (by omega) ?_
  refine g_X1_wear 15 (by first | assumption | exact isH_1 | exact isH_31 | exact isH_61 | exact isH_p (by omega) | exact isH_E (by assumption) (by omega) | exact isH_R (by assumption) | exact isH_K (by assumption) | exact isH_E isH_1 (by omega) | exact isH_R isH_1 | exact isH_K isH_1 | exact isH_R isH_31 | exact isH_K isH_31 | exact isH_E isH_31 (by omega)) rfl dX3_enginesBefore_12 lkX3_238 ?_
  refine J_callVi (As := [_]) 18 _ rfl kalX1_sumOf lkX3_225 dX3_enginesBefore_15 (lt_X1 (by first | assumption | exact isH_1 | exact isH_31 | exact isH_61 | exact isH_p (by omega) | exact isH_E (by assumption) (by omega) | exact isH_R (by assumption) | exact isH_K (by assumption) | exact isH_E isH_1 (by omega) | exact isH_R isH_1 | exact isH_K isH_1 | exact isH_R isH_31 | exact isH_K isH_31 | exact isH_E isH_31 (by omega))) (so_X1 (by first | assumption | exact isH_1 | exact isH_31 | exact isH_61 | exact isH_p (by omega) | exact isH_E (by assumption) (by omega) | exact isH_R (by assumption) | exact isH_K (by assumption) | exact isH_E isH_1 (by omega) | exact isH_R isH_1 | exact isH_K isH_1 | exact isH_R isH_31 | exact isH_K isH_31 | exact isH_E isH_31 (by omega))) rfl rfl rfl (by exact Nat.le_of_ble_eq_true rfl) (by omega) (S_X1_sumOf (N := 8) hE (sa_X1_wear hE) (by rw [ce.1]; exact c8) (by rw [ce.1]; exact c8)) ?_
  refine J_cv (b := worn f k) (by rw [ce.1]; exact sumN_congr _ (fun c hc => by rw [(ce.2.2.2.2.2.1 c hc).2.2, show 7 + 52 * k + 20 + c = 27 + 52 * k + c by omega])) ?_
  refine J_istore_n 19 rfl dX3_enginesBefore_18 rfl (Nat.le_of_ble_eq_true rfl) ?_
  refine J_iconst 20 0 rfl dX3_enginesBefore_19 ic_0 ?_
  refine J_istore_n 21 rfl dX3_enginesBefore_20 rfl (Nat.le_of_ble_eq_true rfl) ?_
  refine J_iconst 22 0 rfl dX3_enginesBefore_21 ic_0 ?_
  refine J_istore 24 rfl dX3_enginesBefore_22 (Nat.le_of_ble_eq_true rfl) ?_
  exact loop _ 0 rfl (Nat.zero_le _)

theorem S_X3_engineOfRank {g : Gn} {J : DJ} {b r B : Nat} {f : Nat → Nat} (hb : isH b) (h : CQ J b f) (hw : WF f B) (hB9 : B < 50000000) (hr : r < 4294967296) : SJ g mX3_engineOfRank 2 0 0 [.ref (g.2 b), .int (nI (r))] J (Rn (fun res => (res < f 0 ∧ bef f res = r ∧ ∀ a, a < res → bef f a ≠ r) ∨ (res = 4294967295 ∧ ∀ a, a < f 0 → bef f a ≠ r)) J) NoX := by
  have h0 := hw.1
  have h2 := hw.2.1
  have s0 := h.1.1
  have s2 := h.1.2.2.1
  have hB := hw.2.2.2.2.2.2.2.2.1
  have h5 := hw.2.2.2.2.2.2.2.2.2
  refine SJ_of_VJ (by decide +kernel) (Nat.le_of_ble_eq_true rfl) ?_
  show VJ g mX3_engineOfRank 2 0 0 _ _ 0 [(0, .ref (g.2 b)), (1, .int (nI (r)))] [] J
  have loop : ∀ (n9 : Nat) (e : Nat), f 0 - e = n9 → e ≤ f 0 → (∀ a, a < e → bef f a ≠ r) → VJ g mX3_engineOfRank 2 0 0 (Rn (fun res => (res < f 0 ∧ bef f res = r ∧ ∀ a, a < res → bef f a ≠ r) ∨ (res = 4294967295 ∧ ∀ a, a < f 0 → bef f a ≠ r)) J) NoX 2 [(0, .ref (g.2 b)), (1, .int (nI (r))), (2, .int (nI (e)))] [] J := by
    intro n9
    induction n9 using Nat.strongRecOn with
    | ind n9 ih =>
    intro e hi hle hm
    refine J_iload_n 3 rfl dX3_engineOfRank_2 rfl ?_
    refine J_aload_n 4 rfl dX3_engineOfRank_3 rfl ?_
    refine g_X3_engineCount 7 (by first | assumption | exact isH_1 | exact isH_31 | exact isH_61 | exact isH_p (by omega) | exact isH_E (by assumption) (by omega) | exact isH_R (by assumption) | exact isH_K (by assumption) | exact isH_E isH_1 (by omega) | exact isH_R isH_1 | exact isH_K isH_1 | exact isH_R isH_31 | exact isH_K isH_31 | exact isH_E isH_31 (by omega)) rfl dX3_engineOfRank_4 lkX3_43 ?_
    refine J_cv (b := f 0) s0 ?_
    refine J_icmp_ge 27 10 (by decide) rfl dX3_engineOfRank_7 (by omega) (by omega) (fun c7 => ?_) (fun c7 => ?_)
    · refine J_iconst 28 4294967295 rfl dX3_engineOfRank_27 ic_m1 ?_
      refine J_iret rfl dX3_engineOfRank_28 ?_
      exact ⟨_, rfl, Or.inr ⟨rfl, fun a ha => hm a (by omega)⟩, rfl⟩
    · have bl := befN_le f e (f 0)
      have bl2 : bef f e ≤ f 0 := bl
      refine J_aload_n 11 rfl dX3_engineOfRank_10 rfl ?_
      refine J_iload_n 12 rfl dX3_engineOfRank_11 rfl ?_
      refine J_callVi (As := [_]) 15 _ rfl kalX3_enginesBefore lkX3_235 dX3_engineOfRank_12 (lt_X3 (by first | assumption | exact isH_1 | exact isH_31 | exact isH_61 | exact isH_p (by omega) | exact isH_E (by assumption) (by omega) | exact isH_R (by assumption) | exact isH_K (by assumption) | exact isH_E isH_1 (by omega) | exact isH_R isH_1 | exact isH_K isH_1 | exact isH_R isH_31 | exact isH_K isH_31 | exact isH_E isH_31 (by omega))) (so_X3 (by first | assumption | exact isH_1 | exact isH_31 | exact isH_61 | exact isH_p (by omega) | exact isH_E (by assumption) (by omega) | exact isH_R (by assumption) | exact isH_K (by assumption) | exact isH_E isH_1 (by omega) | exact isH_R isH_1 | exact isH_K isH_1 | exact isH_R isH_31 | exact isH_K isH_31 | exact isH_E isH_31 (by omega))) rfl rfl rfl (by exact Nat.le_of_ble_eq_true rfl) (by omega) (S_X3_enginesBefore hb h hw hB9 (by omega)) ?_
      refine J_iload_n 16 rfl dX3_engineOfRank_15 rfl ?_
      refine J_icmp_ne 21 19 (by decide) rfl dX3_engineOfRank_16 (by omega) (by omega) (fun c16 => ?_) (fun c16 => ?_)
      · refine J_iinc 24 1 rfl dX3_engineOfRank_21 ic_1 rfl (Nat.le_of_ble_eq_true rfl) ?_
        refine J_goto 2 (by decide) dX3_engineOfRank_24 ?_
        exact ih _ (by omega) (e + 1) rfl (by omega) (fun a q => (Nat.lt_or_eq_of_le (Nat.le_of_lt_succ q)).elim (fun q => hm a q) (fun z => by rw [z]; omega))
      · refine J_iload_n 20 rfl dX3_engineOfRank_19 rfl ?_
        refine J_iret rfl dX3_engineOfRank_20 ?_
        exact ⟨e, rfl, Or.inl ⟨by omega, by omega, hm⟩, rfl⟩
  refine J_iconst 1 0 rfl dX3_engineOfRank_0 ic_0 ?_
  refine J_istore_n 2 rfl dX3_engineOfRank_1 rfl (Nat.le_of_ble_eq_true rfl) ?_
  exact loop _ 0 rfl (Nat.zero_le _) (fun a q => absurd q (by omega))

