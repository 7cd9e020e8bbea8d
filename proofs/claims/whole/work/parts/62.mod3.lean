/-! THE MODEL: changes (laid by wip/whole/src/p62.py) -/
/-- little else of the model changes -/
def Sm (J J2 : DJ) : Prop := (∀ c, c ≠ 351 → c ≠ 357 → J2 c = J c) ∧ ∀ j, j ≠ 12 → J2 351 j = J 351 j
theorem Sm.refl {J : DJ} : Sm J J := ⟨fun _ _ _ => rfl, fun _ _ => rfl⟩
def MOx (J : DJ) (f : Nat → Nat) (F p R : Nat) (x : Nat → Nat) : Option Value → DJ → Prop := Re (fun r J2 => ∃ J1, Sm J J1 ∧ ((F = 0 ∧ r = R ∧ J2 = sR J1 352 x) ∨ (F ≠ 0 ∧ r = 4294967295 ∧ J2 = sR (up2 J1 351 8 p) 352 f)))
theorem MO.x {J : DJ} {f x : Nat → Nat} {F p R : Nat} (v : Option Value) (J2 : DJ) (h : MO J f F p R x v J2) : MOx J f F p R x v J2 := by
  obtain ⟨r, e, q⟩ := h
  exact ⟨r, e, J, Sm.refl, q⟩
theorem SJ.mo {g : Gn} {y : MI} {d : Nat} {av : List Value} {J J0 : DJ} {f x : Nat → Nat} {F p R : Nat} (h : SJ g y d 0 0 av J0 (MO J f F p R x) NoX) : SJ g y d 0 0 av J0 (MOx J f F p R x) NoX := SJ.mono h MO.x (fun _ _ h => h)
theorem S_X11_fillIt {g : Gn} {J : DJ} {f : Nat → Nat} {B u : Nat} (hw : WF f B) (hB9 : B < 600000000) (h_u : u < 4294967296) : SJ g mX11_fillIt 4 0 0 [.ref (g.2 351), .int (nI (u))] (sR J 352 f) (MOx J f (fFill f u) (fFill f u - 1) (lst (ol (xFill f u)) (cnt (xFill f u))) (xFill f u)) NoX := by
  have h0 := hw.1
  have h2 := hw.2.1
  have h3 := hw.2.2.1
  have hO := hw.2.2.2.2.2.1
  have h4 := hw.2.2.2.2.1.1
  have hB := hw.2.2.2.2.2.2.2.2.1
  refine SJ_of_VJ (by decide +kernel) (Nat.le_of_ble_eq_true rfl) ?_
  show VJ g mX11_fillIt 4 0 0 _ _ 0 [(0, .ref (g.2 351)), (1, .int (nI (u)))] [] (sR J 352 f)
  refine J_iload_n 1 rfl dX11_fillIt_0 rfl ?_
  refine J_i2l 2 _ rfl dX11_fillIt_1 rfl ?_
  refine J_lconst 3 _ rfl dX11_fillIt_2 rfl ?_
  refine J_ldc2 6 rfl dX11_fillIt_3 lkX11_148 ?_
  refine J_callSi (As := [_, _, _]) 9 rfl kalX11_in lkX11_63 dX11_fillIt_6 rfl rfl (by exact Nat.le_of_ble_eq_true rfl) (by omega) (S_in_le 1 99 (by decide) (by decide) h_u (by omega) (by omega)) ?_
  refine J_ifb_ne (hdp := _) 18 12 (by decide) rfl dX11_fillIt_9 (fun c9 => ?_) (fun c9 => ?_)
  · refine J_iload_n 19 rfl dX11_fillIt_18 rfl ?_
    refine J_aload_n 20 rfl dX11_fillIt_19 rfl ?_
    refine g_X11_m 23 rfl dX11_fillIt_20 lkX11_9 ?_
    refine J_iconst 24 2 rfl dX11_fillIt_23 ic_2 ?_
    refine J_mald 25 rfl dX11_fillIt_24 (by omega) ?_
    refine J_icmp_gt 37 28 (by decide) rfl dX11_fillIt_25 (by omega) (by omega) (fun c25 => ?_) (fun c25 => ?_)
    · refine J_aload_n 38 rfl dX11_fillIt_37 rfl ?_
      refine J_iconst 39 2 rfl dX11_fillIt_38 ic_2 ?_
      refine J_callVi (As := [_]) 42 _ rfl kalX11_throwing lkX11_125 dX11_fillIt_39 (lt_X11) (so_X11) rfl rfl rfl (by exact Nat.le_of_ble_eq_true rfl) (by omega) (S_X11_throwing) ?_
      refine J_iret rfl dX11_fillIt_42 ?_
      refine ⟨_, rfl, J, Sm.refl, Or.inr ⟨?_, rfl, ?_⟩⟩
      · unfold fFill; (repeat' split) <;> omega
      · rw [up2_out (by omega)]; congr 2; unfold fFill; (repeat' split) <;> omega
    · refine J_aload_n 29 rfl dX11_fillIt_28 rfl ?_
      refine g_X11_m 32 rfl dX11_fillIt_29 lkX11_9 ?_
      refine J_iconst 33 0 rfl dX11_fillIt_32 ic_0 ?_
      refine J_mald 34 rfl dX11_fillIt_33 (by omega) ?_
      refine J_if_ne 43 37 (by decide) rfl dX11_fillIt_34 (by omega) (fun c34 => ?_) (fun c34 => ?_)
      · refine J_aload_n 44 rfl dX11_fillIt_43 rfl ?_
        refine J_iload_n 45 rfl dX11_fillIt_44 rfl ?_
        refine J_callVip (As := [_]) 48 _ rfl kalX11_least lkX11_156 dX11_fillIt_45 (lt_X11) (so_X11) rfl rfl rfl (by exact Nat.le_of_ble_eq_true rfl) (by omega) (S_X11_least hw hB9 (by omega) (by omega)) (fun J45 q45 => ?_)
        obtain ⟨O, rfl, hO2⟩ := q45
        refine J_istore_n 49 rfl dX11_fillIt_48 rfl (Nat.le_of_ble_eq_true rfl) ?_
        refine J_aload_n 50 rfl dX11_fillIt_49 rfl ?_
        refine g_X11_m 53 rfl dX11_fillIt_50 lkX11_9 ?_
        refine J_iconst 54 2 rfl dX11_fillIt_53 ic_2 ?_
        refine J_dup2 55 rfl dX11_fillIt_54 rfl rfl ?_
        refine J_mald 56 rfl dX11_fillIt_55 (by omega) ?_
        refine J_iload_n 57 rfl dX11_fillIt_56 rfl ?_
        refine J_isub 58 rfl dX11_fillIt_57 (by omega) ?_
        refine J_mast 59 rfl dX11_fillIt_58 (by omega) ?_
        refine J_aload_n 60 rfl dX11_fillIt_59 rfl ?_
        refine J_callVvp (As := []) 63 _ rfl kalX11_bringsOils lkX11_159 dX11_fillIt_60 (lt_X11) (so_X11) rfl rfl rfl (by exact Nat.le_of_ble_eq_true rfl) (by omega) (S_X11_bringsOils (store_WF hw (v := f 2 - u) (by omega))) (fun J60 q60 => ?_)
        obtain ⟨h, rfl, hP⟩ := q60
        refine J_iload_n 64 rfl dX11_fillIt_63 rfl ?_
        refine J_iret rfl dX11_fillIt_64 ?_
        have sw := store_WF hw (v := f 2 - u) (by omega)
        have s0 : up1 f 2 (f 2 - u) 0 = f 0 := up1_ne (by omega)
        have sc : cnt (up1 f 2 (f 2 - u)) = cnt f := by
          unfold cnt
          rw [s0]
          exact cyN_congr (fun a _ => up1_ne (by omega))
        have sl : ∀ j, ol (up1 f 2 (f 2 - u)) j = ol f j := fun j => by
          have p := ln_put (f := f) (i := 2) (v := f 2 - u) (fun a => by omega) (by omega)
          unfold ol
          rw [p.2.1, p.2.2, up1_ne (by omega)]
        have so : ol (up1 f 2 (f 2 - u)) = ol f := funext sl
        have O5 : (sR (sR (up2 J 351 12 (cnt f)) 357 O) 352 f) 357 = O := by rw [sR_ne (by omega), sR_at]
        have e := bro_xGN (u := u) sw (by rw [s0]; omega) (O := O) (fun j hj => by rw [sc] at hj ⊢; rw [so]; exact hO2 j hj) hP
        have eq := xGN_eq sw (by rw [s0]; omega) u
        refine ⟨_, rfl, sR (up2 J 351 12 (cnt f)) 357 O, ⟨fun c h1 h2 => by rw [sR_ne h2, up2_ne h1], fun j hj => by rw [sR_ne (by omega), up2_app, if_neg (fun z => hj z.2)]⟩, Or.inl ⟨by unfold fFill; (repeat' split) <;> omega, ?_, ?_⟩⟩
        · unfold xFill
          rw [eq.1, sc, ← lst_congr (cnt_pos hw (by omega)) (w := gvN (ol f) (cnt f) u) (w' := ol (xGN (up1 f 2 (f 2 - u)) u)) (fun j hj => by rw [eq.2.2.2 j (by rw [sc]; exact hj), sc, so])]
        · rw [e]; rfl
      · refine J_aload_n 38 rfl dX11_fillIt_37 rfl ?_
        refine J_iconst 39 2 rfl dX11_fillIt_38 ic_2 ?_
        refine J_callVi (As := [_]) 42 _ rfl kalX11_throwing lkX11_125 dX11_fillIt_39 (lt_X11) (so_X11) rfl rfl rfl (by exact Nat.le_of_ble_eq_true rfl) (by omega) (S_X11_throwing) ?_
        refine J_iret rfl dX11_fillIt_42 ?_
        refine ⟨_, rfl, J, Sm.refl, Or.inr ⟨?_, rfl, ?_⟩⟩
        · unfold fFill; (repeat' split) <;> omega
        · rw [up2_out (by omega)]; congr 2; unfold fFill; (repeat' split) <;> omega
  · refine J_aload_n 13 rfl dX11_fillIt_12 rfl ?_
    refine J_iconst 14 1 rfl dX11_fillIt_13 ic_1 ?_
    refine J_callVi (As := [_]) 17 _ rfl kalX11_throwing lkX11_125 dX11_fillIt_14 (lt_X11) (so_X11) rfl rfl rfl (by exact Nat.le_of_ble_eq_true rfl) (by omega) (S_X11_throwing) ?_
    refine J_iret rfl dX11_fillIt_17 ?_
    refine ⟨_, rfl, J, Sm.refl, Or.inr ⟨?_, rfl, ?_⟩⟩
    · unfold fFill; (repeat' split) <;> omega
    · rw [up2_out (by omega)]; congr 2; unfold fFill; (repeat' split) <;> omega

theorem S_X11_dropsRepair {g : Gn} {J : DJ} {f : Nat → Nat} {p : Nat} (hp : p < 8) (h4 : 1 ≤ f 4) : SJ g mX11_dropsRepair 0 0 0 [.ref (g.2 351), .int (nI (p))] (sR J 352 f) (Rv (sR J 352 (mDrop f p))) NoX := by
  refine SJ_of_VJ (by decide +kernel) (Nat.le_of_ble_eq_true rfl) ?_
  show VJ g mX11_dropsRepair 0 0 0 _ _ 0 [(0, .ref (g.2 351)), (1, .int (nI (p)))] [] (sR J 352 f)
  have l2 : ∀ (n9 : Nat) (k : Nat) (h : Nat → Nat), 245 - k = n9 → 242 ≤ k → k ≤ 245 → (∀ j, h j = if 221 + 3 * p ≤ j ∧ j < 242 then f (j + 3) else if 242 ≤ j ∧ j < k then 0 else f j) → VJ g mX11_dropsRepair 0 0 0 (Rv (sR J 352 (mDrop f p))) NoX 39 [(0, .ref (g.2 351)), (1, .int (nI p)), (2, .int (nI k))] [] (sR J 352 h) := by
    intro n9
    induction n9 using Nat.strongRecOn with
    | ind n9 ih =>
      intro k h hi h1 h2 hh
      have z4 : h 4 = f 4 := by rw [hh 4, if_neg (by omega), if_neg (by omega)]
      refine J_iload_n 40 rfl dX11_dropsRepair_39 rfl ?_
      refine J_sipush 43 245 rfl dX11_dropsRepair_40 sc_245 ?_
      refine J_icmp_ge 59 46 (by decide) rfl dX11_dropsRepair_43 (by omega) (by omega) (fun c43 => ?_) (fun c43 => ?_)
      · refine J_aload_n 60 rfl dX11_dropsRepair_59 rfl ?_
        refine g_X11_m 63 rfl dX11_dropsRepair_60 lkX11_9 ?_
        refine J_iconst 64 4 rfl dX11_dropsRepair_63 ic_4 ?_
        refine J_dup2 65 rfl dX11_dropsRepair_64 rfl rfl ?_
        refine J_mald 66 rfl dX11_dropsRepair_65 (by omega) ?_
        refine J_iconst 67 1 rfl dX11_dropsRepair_66 ic_1 ?_
        refine J_isub 68 rfl dX11_dropsRepair_67 (by omega) ?_
        refine J_mast 69 rfl dX11_dropsRepair_68 (by omega) ?_
        refine J_vret rfl dX11_dropsRepair_69 ?_
        refine ⟨rfl, ?_⟩
        congr 1
        funext j
        unfold mDrop
        rw [up1_app, up1_app, z4]
        have e9 : k = 245 := by omega
        subst e9
        by_cases a : j = 4
        · rw [if_pos a, if_pos a]
        · rw [if_neg a, if_neg a, hh j]
      · refine J_aload_n 47 rfl dX11_dropsRepair_46 rfl ?_
        refine g_X11_m 50 rfl dX11_dropsRepair_47 lkX11_9 ?_
        refine J_iload_n 51 rfl dX11_dropsRepair_50 rfl ?_
        refine J_iconst 52 0 rfl dX11_dropsRepair_51 ic_0 ?_
        refine J_mast 53 rfl dX11_dropsRepair_52 (by omega) ?_
        refine J_iinc 56 1 rfl dX11_dropsRepair_53 ic_1 rfl (Nat.le_of_ble_eq_true rfl) ?_
        refine J_goto 39 (by decide) dX11_dropsRepair_56 ?_
        refine ih _ (by omega) (k + 1) _ rfl (by omega) (by omega) (fun j => ?_)
        rw [up1_app, hh j]
        by_cases a : j = k
        · rw [if_pos a, if_neg (by omega), if_pos (by omega)]
        · rw [if_neg a]
          by_cases b : 221 + 3 * p ≤ j ∧ j < 242
          · rw [if_pos b, if_pos b]
          · rw [if_neg b, if_neg b]
            by_cases c : 242 ≤ j ∧ j < k
            · rw [if_pos c, if_pos (by omega)]
            · rw [if_neg c, if_neg (by omega)]
  have l1 : ∀ (n9 : Nat) (k : Nat) (h : Nat → Nat), 242 - k = n9 → 221 + 3 * p ≤ k → k ≤ 242 → (∀ j, h j = if 221 + 3 * p ≤ j ∧ j < k then f (j + 3) else f j) → VJ g mX11_dropsRepair 0 0 0 (Rv (sR J 352 (mDrop f p))) NoX 8 [(0, .ref (g.2 351)), (1, .int (nI p)), (2, .int (nI k))] [] (sR J 352 h) := by
    intro n9
    induction n9 using Nat.strongRecOn with
    | ind n9 ih =>
      intro k h hi h1 h2 hh
      refine J_iload_n 9 rfl dX11_dropsRepair_8 rfl ?_
      refine J_sipush 12 242 rfl dX11_dropsRepair_9 sc_242 ?_
      refine J_icmp_ge 35 15 (by decide) rfl dX11_dropsRepair_12 (by omega) (by omega) (fun c12 => ?_) (fun c12 => ?_)
      · refine J_sipush 38 242 rfl dX11_dropsRepair_35 sc_242 ?_
        refine J_istore_n 39 rfl dX11_dropsRepair_38 rfl (Nat.le_of_ble_eq_true rfl) ?_
        refine l2 _ 242 h rfl (by omega) (by omega) (fun j => ?_)
        have e9 : k = 242 := by omega
        subst e9
        rw [hh j]
        split
        · rfl
        · rw [if_neg (by omega)]
      · refine J_aload_n 16 rfl dX11_dropsRepair_15 rfl ?_
        refine g_X11_m 19 rfl dX11_dropsRepair_16 lkX11_9 ?_
        refine J_iload_n 20 rfl dX11_dropsRepair_19 rfl ?_
        refine J_aload_n 21 rfl dX11_dropsRepair_20 rfl ?_
        refine g_X11_m 24 rfl dX11_dropsRepair_21 lkX11_9 ?_
        refine J_iload_n 25 rfl dX11_dropsRepair_24 rfl ?_
        refine J_iconst 26 3 rfl dX11_dropsRepair_25 ic_3 ?_
        refine J_iadd 27 rfl dX11_dropsRepair_26 ?_
        refine J_mald 28 rfl dX11_dropsRepair_27 (by omega) ?_
        refine J_mast 29 rfl dX11_dropsRepair_28 (by omega) ?_
        refine J_iinc 32 1 rfl dX11_dropsRepair_29 ic_1 rfl (Nat.le_of_ble_eq_true rfl) ?_
        refine J_goto 8 (by decide) dX11_dropsRepair_32 ?_
        refine ih _ (by omega) (k + 1) _ rfl (by omega) (by omega) (fun j => ?_)
        rw [up1_app, hh j, hh (k + 3), if_neg (show ¬ (221 + 3 * p ≤ k + 3 ∧ k + 3 < k) by omega)]
        by_cases a : j = k
        · rw [if_pos a, if_pos (by omega), a]
        · rw [if_neg a]
          by_cases b : 221 + 3 * p ≤ j ∧ j < k
          · rw [if_pos b, if_pos (by omega)]
          · rw [if_neg b, if_neg (by omega)]
  refine J_sipush 3 221 rfl dX11_dropsRepair_0 sc_221 ?_
  refine J_iconst 4 3 rfl dX11_dropsRepair_3 ic_3 ?_
  refine J_iload_n 5 rfl dX11_dropsRepair_4 rfl ?_
  refine J_imul 6 rfl dX11_dropsRepair_5 ?_
  refine J_iadd 7 rfl dX11_dropsRepair_6 ?_
  refine J_istore_n 8 rfl dX11_dropsRepair_7 rfl (Nat.le_of_ble_eq_true rfl) ?_
  exact l1 _ _ f rfl (by omega) (by omega) (fun j => by rw [if_neg (by omega)])

theorem S_X11_repairAt {g : Gn} {J : DJ} {f : Nat → Nat} {k w : Nat} (hk : k < 8) (hw3 : w < 3) : SJ g mX11_repairAt 0 0 0 [.ref (g.2 351), .int (nI (k)), .int (nI (w))] (sR J 352 f) (Ri (f (221 + 3 * k + w)) (sR J 352 f)) NoX := by
  refine SJ_of_VJ (by decide +kernel) (Nat.le_of_ble_eq_true rfl) ?_
  show VJ g mX11_repairAt 0 0 0 _ _ 0 [(0, .ref (g.2 351)), (1, .int (nI (k))), (2, .int (nI (w)))] [] (sR J 352 f)
  refine J_aload_n 1 rfl dX11_repairAt_0 rfl ?_
  refine g_X11_m 4 rfl dX11_repairAt_1 lkX11_9 ?_
  refine J_sipush 7 221 rfl dX11_repairAt_4 sc_221 ?_
  refine J_iconst 8 3 rfl dX11_repairAt_7 ic_3 ?_
  refine J_iload_n 9 rfl dX11_repairAt_8 rfl ?_
  refine J_imul 10 rfl dX11_repairAt_9 ?_
  refine J_iadd 11 rfl dX11_repairAt_10 ?_
  refine J_iload_n 12 rfl dX11_repairAt_11 rfl ?_
  refine J_iadd 13 rfl dX11_repairAt_12 ?_
  refine J_mald 14 rfl dX11_repairAt_13 (by omega) ?_
  refine J_iret rfl dX11_repairAt_14 ?_
  exact ⟨rfl, rfl⟩

theorem S_X11_isSooner {g : Gn} {J : DJ} {f : Nat → Nat} {a b : Nat} (ha : a < 8) (hb : b < 8) (h1 : f (222 + 3 * a) * f (223 + 3 * b) < 1000) (h2 : f (222 + 3 * b) * f (223 + 3 * a) < 1000) : SJ g mX11_isSooner 1 0 0 [.ref (g.2 351), .int (nI (a)), .int (nI (b))] (sR J 352 f) (Ri (bt (f (222 + 3 * a) * f (223 + 3 * b) < f (222 + 3 * b) * f (223 + 3 * a) ∨ (f (222 + 3 * a) * f (223 + 3 * b) = f (222 + 3 * b) * f (223 + 3 * a) ∧ a < b))) (sR J 352 f)) NoX := by
  have a1 : f (221 + 3 * a + 1) = f (222 + 3 * a) := by rw [show 221 + 3 * a + 1 = 222 + 3 * a by omega]
  have a2 : f (221 + 3 * a + 2) = f (223 + 3 * a) := by rw [show 221 + 3 * a + 2 = 223 + 3 * a by omega]
  have b1 : f (221 + 3 * b + 1) = f (222 + 3 * b) := by rw [show 221 + 3 * b + 1 = 222 + 3 * b by omega]
  have b2 : f (221 + 3 * b + 2) = f (223 + 3 * b) := by rw [show 221 + 3 * b + 2 = 223 + 3 * b by omega]
  refine SJ_of_VJ (by decide +kernel) (Nat.le_of_ble_eq_true rfl) ?_
  show VJ g mX11_isSooner 1 0 0 _ _ 0 [(0, .ref (g.2 351)), (1, .int (nI (a))), (2, .int (nI (b)))] [] (sR J 352 f)
  refine J_aload_n 1 rfl dX11_isSooner_0 rfl ?_
  refine J_iload_n 2 rfl dX11_isSooner_1 rfl ?_
  refine J_iconst 3 1 rfl dX11_isSooner_2 ic_1 ?_
  refine J_callVi (As := [_, _]) 6 _ rfl kalX11_repairAt lkX11_115 dX11_isSooner_3 (lt_X11) (so_X11) rfl rfl rfl (by exact Nat.le_of_ble_eq_true rfl) (by omega) (S_X11_repairAt (by omega) (by omega)) ?_
  refine J_cv (b := f (222 + 3 * a)) a1 ?_
  refine J_aload_n 7 rfl dX11_isSooner_6 rfl ?_
  refine J_iload_n 8 rfl dX11_isSooner_7 rfl ?_
  refine J_iconst 9 2 rfl dX11_isSooner_8 ic_2 ?_
  refine J_callVi (As := [_, _]) 12 _ rfl kalX11_repairAt lkX11_115 dX11_isSooner_9 (lt_X11) (so_X11) rfl rfl rfl (by exact Nat.le_of_ble_eq_true rfl) (by omega) (S_X11_repairAt (by omega) (by omega)) ?_
  refine J_cv (b := f (223 + 3 * b)) b2 ?_
  refine J_imul 13 rfl dX11_isSooner_12 ?_
  refine J_aload_n 14 rfl dX11_isSooner_13 rfl ?_
  refine J_iload_n 15 rfl dX11_isSooner_14 rfl ?_
  refine J_iconst 16 1 rfl dX11_isSooner_15 ic_1 ?_
  refine J_callVi (As := [_, _]) 19 _ rfl kalX11_repairAt lkX11_115 dX11_isSooner_16 (lt_X11) (so_X11) rfl rfl rfl (by exact Nat.le_of_ble_eq_true rfl) (by omega) (S_X11_repairAt (by omega) (by omega)) ?_
  refine J_cv (b := f (222 + 3 * b)) b1 ?_
  refine J_aload_n 20 rfl dX11_isSooner_19 rfl ?_
  refine J_iload_n 21 rfl dX11_isSooner_20 rfl ?_
  refine J_iconst 22 2 rfl dX11_isSooner_21 ic_2 ?_
  refine J_callVi (As := [_, _]) 25 _ rfl kalX11_repairAt lkX11_115 dX11_isSooner_22 (lt_X11) (so_X11) rfl rfl rfl (by exact Nat.le_of_ble_eq_true rfl) (by omega) (S_X11_repairAt (by omega) (by omega)) ?_
  refine J_cv (b := f (223 + 3 * a)) a2 ?_
  refine J_imul 26 rfl dX11_isSooner_25 ?_
  refine J_isubR 27 rfl dX11_isSooner_26 ?_
  refine J_istore_n 28 rfl dX11_isSooner_27 rfl (Nat.le_of_ble_eq_true rfl) ?_
  refine J_iload_n 29 rfl dX11_isSooner_28 rfl ?_
  refine J_ifR_lt 41 32 (by decide) rfl dX11_isSooner_29 (fun c29 => ?_) (fun c29 => ?_)
  · rw [sub_lt0 (by omega) (by omega)] at c29
    refine J_iconst 42 1 rfl dX11_isSooner_41 ic_1 ?_
    refine J_goto 46 (by decide) dX11_isSooner_42 ?_
    refine J_zret1 rfl dX11_isSooner_46 ?_
    first
      | exact ⟨by rw [bt_t (by omega)], rfl⟩
      | exact ⟨by rw [bt_f (by omega)], rfl⟩
  · rw [sub_lt0 (by omega) (by omega)] at c29
    refine J_iload_n 33 rfl dX11_isSooner_32 rfl ?_
    refine J_ifR_ne 45 36 (by decide) rfl dX11_isSooner_33 (fun c33 => ?_) (fun c33 => ?_)
    · rw [sub_eq0 (by omega) (by omega)] at c33
      refine J_iconst 46 0 rfl dX11_isSooner_45 ic_0 ?_
      refine J_zret0 rfl dX11_isSooner_46 ?_
      first
        | exact ⟨by rw [bt_t (by omega)], rfl⟩
        | exact ⟨by rw [bt_f (by omega)], rfl⟩
    · rw [sub_eq0 (by omega) (by omega)] at c33
      refine J_iload_n 37 rfl dX11_isSooner_36 rfl ?_
      refine J_iload_n 38 rfl dX11_isSooner_37 rfl ?_
      refine J_icmp_ge 45 41 (by decide) rfl dX11_isSooner_38 (by omega) (by omega) (fun c38 => ?_) (fun c38 => ?_)
      · refine J_iconst 46 0 rfl dX11_isSooner_45 ic_0 ?_
        refine J_zret0 rfl dX11_isSooner_46 ?_
        first
          | exact ⟨by rw [bt_t (by omega)], rfl⟩
          | exact ⟨by rw [bt_f (by omega)], rfl⟩
      · refine J_iconst 42 1 rfl dX11_isSooner_41 ic_1 ?_
        refine J_goto 46 (by decide) dX11_isSooner_42 ?_
        refine J_zret1 rfl dX11_isSooner_46 ?_
        first
          | exact ⟨by rw [bt_t (by omega)], rfl⟩
          | exact ⟨by rw [bt_f (by omega)], rfl⟩

theorem S_X11_repairIt {g : Gn} {J : DJ} {f : Nat → Nat} {B : Nat} (hw : WF f B) (hB9 : B < 600000000) : SJ g mX11_repairIt 4 0 0 [.ref (g.2 351)] (sR J 352 f) (MO J f (fRep f) 1 (f (221 + 3 * fBst f (f 4))) (xRep f)) NoX := by
  have h0 := hw.1
  have h2 := hw.2.1
  have h3 := hw.2.2.1
  have hO := hw.2.2.2.2.2.1
  have h4 := hw.2.2.2.2.1.1
  have hB := hw.2.2.2.2.2.2.2.2.1
  have hr := hw.2.2.2.2.1.2
  have mu : ∀ a b, a < f 4 → b < f 4 → f (222 + 3 * a) * f (223 + 3 * b) < 1000 := fun a b x y => by
    have := Nat.mul_le_mul (hr a x).2.2.1 (hr b y).2.2.2.2
    omega
  have sp : ∀ k, k ≤ f 4 → sumN (fun i => f (223 + 3 * i)) k ≤ k * 9 := fun k hk => sumN_le (B := 9) _ (fun i hi => (hr i (by omega)).2.2.2.2)
  refine SJ_of_VJ (by decide +kernel) (Nat.le_of_ble_eq_true rfl) ?_
  show VJ g mX11_repairIt 4 0 0 _ _ 0 [(0, .ref (g.2 351))] [] (sR J 352 f)
  have tail : 0 < f 4 → VJ g mX11_repairIt 4 0 0 (MO J f (fRep f) 1 (f (221 + 3 * fBst f (f 4))) (xRep f)) NoX 61 [(0, .ref (g.2 351)), (1, .int (nI (fBst f (f 4)))), (2, .int (nI (sumN (fun i => f (223 + 3 * i)) (f 4))))] [] (sR J 352 f) := by
    intro hp4
    have fb : fBst f (f 4) < f 4 := (fBst_lt f (f 4)).elim id (fun z => by omega)
    have rr := hr _ fb
    have sp4 := sp (f 4) (Nat.le_refl _)
    have hm : f (222 + 3 * fBst f (f 4)) * sumN (fun i => f (223 + 3 * i)) (f 4) ≤ 9 * 72 := Nat.mul_le_mul rr.2.2.1 (by omega)
    have b5 := hB 5 (by omega)
    have wp := pen_WF (v := f 5 + f (222 + 3 * fBst f (f 4)) * sumN (fun i => f (223 + 3 * i)) (f 4)) (B2 := B + 1000) hw (by omega) (by omega)
    have wq := psN_WF wp (f (222 + 3 * fBst f (f 4)))
    have po : ∀ i, i ≠ 1 → i ≠ 5 → i ≠ 6 → (i < 7 ∨ 215 ≤ i) → i < 245 → psN (up1 f 5 (f 5 + f (222 + 3 * fBst f (f 4)) * sumN (fun i => f (223 + 3 * i)) (f 4))) (f (222 + 3 * fBst f (f 4))) i = f i := fun i a1 a2 a3 a4 a5 => (psN_out wp a1 a3 a4 a5 _).trans (up1_ne a2)
    have loop : ∀ (n9 : Nat) (k : Nat) (h : Nat → Nat), psN (up1 f 5 (f 5 + f (222 + 3 * fBst f (f 4)) * sumN (fun i => f (223 + 3 * i)) (f 4))) (f (222 + 3 * fBst f (f 4))) (7 + 52 * f (221 + 3 * fBst f (f 4))) - k = n9 → k ≤ psN (up1 f 5 (f 5 + f (222 + 3 * fBst f (f 4)) * sumN (fun i => f (223 + 3 * i)) (f 4))) (f (222 + 3 * fBst f (f 4))) (7 + 52 * f (221 + 3 * fBst f (f 4))) → (∀ j, h j = if 7 + 52 * f (221 + 3 * fBst f (f 4)) + 20 ≤ j ∧ j < 7 + 52 * f (221 + 3 * fBst f (f 4)) + 20 + k then 0 else psN (up1 f 5 (f 5 + f (222 + 3 * fBst f (f 4)) * sumN (fun i => f (223 + 3 * i)) (f 4))) (f (222 + 3 * fBst f (f 4))) j) → VJ g mX11_repairIt 4 0 0 (MO J f (fRep f) 1 (f (221 + 3 * fBst f (f 4))) (xRep f)) NoX 99 [(0, .ref (g.2 351)), (1, .int (nI (fBst f (f 4)))), (3, .int (nI (f (221 + 3 * fBst f (f 4))))), (4, .int (nI k))] [] (sR J 352 h) := by
      intro n9
      induction n9 using Nat.strongRecOn with
      | ind n9 ih =>
        intro k h hi hk hh
        have p0 := po 0 (by omega) (by omega) (by omega) (by omega) (by omega)
        have cy := (wq.1.2.2.2.2.2.1 (f (221 + 3 * fBst f (f 4))) (by omega)).2.1
        have hc : h (7 + 52 * f (221 + 3 * fBst f (f 4))) = psN (up1 f 5 (f 5 + f (222 + 3 * fBst f (f 4)) * sumN (fun i => f (223 + 3 * i)) (f 4))) (f (222 + 3 * fBst f (f 4))) (7 + 52 * f (221 + 3 * fBst f (f 4))) := by rw [hh, if_neg (by omega)]
        have z4 : h 4 = f 4 := by rw [hh 4, if_neg (by omega)]; exact po 4 (by omega) (by omega) (by omega) (by omega) (by omega)
        refine J_iload 101 rfl dX11_repairIt_99 rfl ?_
        refine J_aload_n 102 rfl dX11_repairIt_101 rfl ?_
        refine J_iload_n 103 rfl dX11_repairIt_102 rfl ?_
        refine J_callVi (As := [_]) 106 _ rfl kalX11_many lkX11_75 dX11_repairIt_103 (lt_X11) (so_X11) rfl rfl rfl (by exact Nat.le_of_ble_eq_true rfl) (by omega) (S_X11_many (by omega)) ?_
        refine J_cv (b := psN (up1 f 5 (f 5 + f (222 + 3 * fBst f (f 4)) * sumN (fun i => f (223 + 3 * i)) (f 4))) (f (222 + 3 * fBst f (f 4))) (7 + 52 * f (221 + 3 * fBst f (f 4)))) hc ?_
        refine J_icmp_ge 131 109 (by decide) rfl dX11_repairIt_106 (by omega) (by omega) (fun c106 => ?_) (fun c106 => ?_)
        · refine J_aload_n 132 rfl dX11_repairIt_131 rfl ?_
          refine J_iload_n 133 rfl dX11_repairIt_132 rfl ?_
          refine J_callVv (As := [_]) 136 _ rfl kalX11_dropsRepair lkX11_180 dX11_repairIt_133 (lt_X11) (so_X11) rfl rfl rfl (by exact Nat.le_of_ble_eq_true rfl) (by omega) (S_X11_dropsRepair (by omega) (by omega)) ?_
          refine J_iload_n 137 rfl dX11_repairIt_136 rfl ?_
          refine J_iret rfl dX11_repairIt_137 ?_
          refine ⟨_, rfl, Or.inl ⟨by unfold fRep; rw [if_pos hp4], rfl, ?_⟩⟩
          unfold xRep
          congr 2
          funext j
          unfold mRenew
          rw [hh j]
          have e9 : k = psN (up1 f 5 (f 5 + f (222 + 3 * fBst f (f 4)) * sumN (fun i => f (223 + 3 * i)) (f 4))) (f (222 + 3 * fBst f (f 4))) (7 + 52 * f (221 + 3 * fBst f (f 4))) := by omega
          rw [← e9]
        · refine J_aload_n 110 rfl dX11_repairIt_109 rfl ?_
          refine g_X11_m 113 rfl dX11_repairIt_110 lkX11_9 ?_
          refine J_iload_n 114 rfl dX11_repairIt_113 rfl ?_
          refine J_callSi (As := [_]) 117 rfl kalX11_engineAt lkX11_67 dX11_repairIt_114 rfl rfl (by exact Nat.le_of_ble_eq_true rfl) (by omega) (S_X11_engineAt) ?_
          refine J_bipush 119 20 rfl dX11_repairIt_117 bc_20 ?_
          refine J_iadd 120 rfl dX11_repairIt_119 ?_
          refine J_iload 122 rfl dX11_repairIt_120 rfl ?_
          refine J_iadd 123 rfl dX11_repairIt_122 ?_
          refine J_iconst 124 0 rfl dX11_repairIt_123 ic_0 ?_
          refine J_mast 125 rfl dX11_repairIt_124 (by omega) ?_
          refine J_iinc 128 1 rfl dX11_repairIt_125 ic_1 rfl (Nat.le_of_ble_eq_true rfl) ?_
          refine J_goto 99 (by decide) dX11_repairIt_128 ?_
          refine ih _ (by omega) (k + 1) _ rfl (by omega) (fun j => ?_)
          rw [up1_app, hh j]
          by_cases a : j = 7 + 52 * f (221 + 3 * fBst f (f 4)) + 20 + k
          · rw [if_pos a, if_pos (by omega)]
          · rw [if_neg a]
            by_cases b : 7 + 52 * f (221 + 3 * fBst f (f 4)) + 20 ≤ j ∧ j < 7 + 52 * f (221 + 3 * fBst f (f 4)) + 20 + k
            · rw [if_pos b, if_pos (by omega)]
            · rw [if_neg b, if_neg (by omega)]
    refine J_aload_n 62 rfl dX11_repairIt_61 rfl ?_
    refine J_iload_n 63 rfl dX11_repairIt_62 rfl ?_
    refine J_iconst 64 0 rfl dX11_repairIt_63 ic_0 ?_
    refine J_callVi (As := [_, _]) 67 _ rfl kalX11_repairAt lkX11_115 dX11_repairIt_64 (lt_X11) (so_X11) rfl rfl rfl (by exact Nat.le_of_ble_eq_true rfl) (by omega) (S_X11_repairAt (by omega) (by omega)) ?_
    refine J_cv (b := f (221 + 3 * fBst f (f 4))) rfl ?_
    refine J_istore_n 68 rfl dX11_repairIt_67 rfl (Nat.le_of_ble_eq_true rfl) ?_
    refine J_aload_n 69 rfl dX11_repairIt_68 rfl ?_
    refine g_X11_m 72 rfl dX11_repairIt_69 lkX11_9 ?_
    refine J_iconst 73 5 rfl dX11_repairIt_72 ic_5 ?_
    refine J_dup2 74 rfl dX11_repairIt_73 rfl rfl ?_
    refine J_mald 75 rfl dX11_repairIt_74 (by omega) ?_
    refine J_aload_n 76 rfl dX11_repairIt_75 rfl ?_
    refine J_iload_n 77 rfl dX11_repairIt_76 rfl ?_
    refine J_iconst 78 1 rfl dX11_repairIt_77 ic_1 ?_
    refine J_callVi (As := [_, _]) 81 _ rfl kalX11_repairAt lkX11_115 dX11_repairIt_78 (lt_X11) (so_X11) rfl rfl rfl (by exact Nat.le_of_ble_eq_true rfl) (by omega) (S_X11_repairAt (by omega) (by omega)) ?_
    refine J_cv (b := f (222 + 3 * fBst f (f 4))) (by rw [show 221 + 3 * fBst f (f 4) + 1 = 222 + 3 * fBst f (f 4) by omega]) ?_
    refine J_iload_n 82 rfl dX11_repairIt_81 rfl ?_
    refine J_imul 83 rfl dX11_repairIt_82 ?_
    refine J_iadd 84 rfl dX11_repairIt_83 ?_
    refine J_mast 85 rfl dX11_repairIt_84 (by omega) ?_
    refine J_aload_n 86 rfl dX11_repairIt_85 rfl ?_
    refine J_aload_n 87 rfl dX11_repairIt_86 rfl ?_
    refine J_iload_n 88 rfl dX11_repairIt_87 rfl ?_
    refine J_iconst 89 1 rfl dX11_repairIt_88 ic_1 ?_
    refine J_callVi (As := [_, _]) 92 _ rfl kalX11_repairAt lkX11_115 dX11_repairIt_89 (lt_X11) (so_X11) rfl rfl rfl (by exact Nat.le_of_ble_eq_true rfl) (by omega) (S_X11_repairAt (by omega) (by omega)) ?_
    refine J_cv (b := f (222 + 3 * fBst f (f 4))) (by rw [show 221 + 3 * fBst f (f 4) + 1 = 222 + 3 * fBst f (f 4) by omega]; exact up1_ne (by omega)) ?_
    refine J_callVip (As := [_]) 95 _ rfl kalX11_passesHours lkX11_184 dX11_repairIt_92 (lt_X11) (so_X11) rfl rfl rfl (by exact Nat.le_of_ble_eq_true rfl) (by omega) (S_X11_passesHours wp (by omega) (by omega)) (fun J92 q92 => ?_)
    subst q92
    refine J_pop 96 rfl dX11_repairIt_95 rfl ?_
    refine J_iconst 97 0 rfl dX11_repairIt_96 ic_0 ?_
    refine J_istore 99 rfl dX11_repairIt_97 (Nat.le_of_ble_eq_true rfl) ?_
    refine J_keep [0, 1, 3, 4] ?_
    exact loop _ 0 _ rfl (Nat.zero_le _) (fun j => by rw [if_neg (by omega)])
  have scan : 0 < f 4 → ∀ (n9 : Nat) (k : Nat), f 4 - k = n9 → k ≤ f 4 → VJ g mX11_repairIt 4 0 0 (MO J f (fRep f) 1 (f (221 + 3 * fBst f (f 4))) (xRep f)) NoX 21 [(0, .ref (g.2 351)), (1, .int (nI (fBst f k))), (2, .int (nI (sumN (fun i => f (223 + 3 * i)) k))), (3, .int (nI k))] [] (sR J 352 f) := by
    intro hp4 n9
    induction n9 using Nat.strongRecOn with
    | ind n9 ih =>
      intro k hi hk
      have fk := fBst_lt f k
      have st : fBst f (k + 1) = if f (222 + 3 * k) * f (223 + 3 * fBst f k) < f (222 + 3 * fBst f k) * f (223 + 3 * k) ∨ (f (222 + 3 * k) * f (223 + 3 * fBst f k) = f (222 + 3 * fBst f k) * f (223 + 3 * k) ∧ k < fBst f k) then k else fBst f k := rfl
      have ss : sumN (fun i => f (223 + 3 * i)) (k + 1) = sumN (fun i => f (223 + 3 * i)) k + f (223 + 3 * k) := rfl
      refine J_iload_n 22 rfl dX11_repairIt_21 rfl ?_
      refine J_aload_n 23 rfl dX11_repairIt_22 rfl ?_
      refine g_X11_m 26 rfl dX11_repairIt_23 lkX11_9 ?_
      refine J_iconst 27 4 rfl dX11_repairIt_26 ic_4 ?_
      refine J_mald 28 rfl dX11_repairIt_27 (by omega) ?_
      refine J_icmp_ge 61 31 (by decide) rfl dX11_repairIt_28 (by omega) (by omega) (fun c28 => ?_) (fun c28 => ?_)
      · have e9 : k = f 4 := by omega
        subst e9
        refine J_keep [0, 1, 2] ?_
        exact tail hp4
      · refine J_aload_n 32 rfl dX11_repairIt_31 rfl ?_
        refine J_iload_n 33 rfl dX11_repairIt_32 rfl ?_
        refine J_iload_n 34 rfl dX11_repairIt_33 rfl ?_
        refine J_callVi (As := [_, _]) 37 _ rfl kalX11_isSooner lkX11_118 dX11_repairIt_34 (lt_X11) (so_X11) rfl rfl rfl (by exact Nat.le_of_ble_eq_true rfl) (by omega) (S_X11_isSooner (by omega) (by omega) (mu _ _ (by omega) (by omega)) (mu _ _ (by omega) (by omega))) ?_
        refine J_ifb_eq (hdp := _) 44 40 (by decide) rfl dX11_repairIt_37 (fun c37 => ?_) (fun c37 => ?_)
        · refine J_iload_n 45 rfl dX11_repairIt_44 rfl ?_
          refine J_istore_n 46 rfl dX11_repairIt_45 rfl (Nat.le_of_ble_eq_true rfl) ?_
          refine J_iload_n 47 rfl dX11_repairIt_46 rfl ?_
          refine J_aload_n 48 rfl dX11_repairIt_47 rfl ?_
          refine J_iload_n 49 rfl dX11_repairIt_48 rfl ?_
          refine J_iconst 50 2 rfl dX11_repairIt_49 ic_2 ?_
          refine J_callVi (As := [_, _]) 53 _ rfl kalX11_repairAt lkX11_115 dX11_repairIt_50 (lt_X11) (so_X11) rfl rfl rfl (by exact Nat.le_of_ble_eq_true rfl) (by omega) (S_X11_repairAt (by omega) (by omega)) ?_
          refine J_cv (b := f (223 + 3 * k)) (by rw [show 221 + 3 * k + 2 = 223 + 3 * k by omega]) ?_
          refine J_iadd 54 rfl dX11_repairIt_53 ?_
          refine J_istore_n 55 rfl dX11_repairIt_54 rfl (Nat.le_of_ble_eq_true rfl) ?_
          refine J_iinc 58 1 rfl dX11_repairIt_55 ic_1 rfl (Nat.le_of_ble_eq_true rfl) ?_
          refine J_goto 21 (by decide) dX11_repairIt_58 ?_
          have z := ih _ (by omega) (k + 1) rfl (by omega)
          rw [ss, st] at z
          first
            | (rw [if_pos (by assumption)] at z; exact z)
            | (rw [if_neg (by assumption)] at z; exact z)
        · refine J_iload_n 41 rfl dX11_repairIt_40 rfl ?_
          refine J_goto 45 (by decide) dX11_repairIt_41 ?_
          refine J_istore_n 46 rfl dX11_repairIt_45 rfl (Nat.le_of_ble_eq_true rfl) ?_
          refine J_iload_n 47 rfl dX11_repairIt_46 rfl ?_
          refine J_aload_n 48 rfl dX11_repairIt_47 rfl ?_
          refine J_iload_n 49 rfl dX11_repairIt_48 rfl ?_
          refine J_iconst 50 2 rfl dX11_repairIt_49 ic_2 ?_
          refine J_callVi (As := [_, _]) 53 _ rfl kalX11_repairAt lkX11_115 dX11_repairIt_50 (lt_X11) (so_X11) rfl rfl rfl (by exact Nat.le_of_ble_eq_true rfl) (by omega) (S_X11_repairAt (by omega) (by omega)) ?_
          refine J_cv (b := f (223 + 3 * k)) (by rw [show 221 + 3 * k + 2 = 223 + 3 * k by omega]) ?_
          refine J_iadd 54 rfl dX11_repairIt_53 ?_
          refine J_istore_n 55 rfl dX11_repairIt_54 rfl (Nat.le_of_ble_eq_true rfl) ?_
          refine J_iinc 58 1 rfl dX11_repairIt_55 ic_1 rfl (Nat.le_of_ble_eq_true rfl) ?_
          refine J_goto 21 (by decide) dX11_repairIt_58 ?_
          have z := ih _ (by omega) (k + 1) rfl (by omega)
          rw [ss, st] at z
          first
            | (rw [if_pos (by assumption)] at z; exact z)
            | (rw [if_neg (by assumption)] at z; exact z)
  refine J_aload_n 1 rfl dX11_repairIt_0 rfl ?_
  refine g_X11_m 4 rfl dX11_repairIt_1 lkX11_9 ?_
  refine J_iconst 5 4 rfl dX11_repairIt_4 ic_4 ?_
  refine J_mald 6 rfl dX11_repairIt_5 (by omega) ?_
  refine J_if_ne 15 9 (by decide) rfl dX11_repairIt_6 (by omega) (fun c6 => ?_) (fun c6 => ?_)
  · refine J_iconst 16 0 rfl dX11_repairIt_15 ic_0 ?_
    refine J_istore_n 17 rfl dX11_repairIt_16 rfl (Nat.le_of_ble_eq_true rfl) ?_
    refine J_iconst 18 0 rfl dX11_repairIt_17 ic_0 ?_
    refine J_istore_n 19 rfl dX11_repairIt_18 rfl (Nat.le_of_ble_eq_true rfl) ?_
    refine J_iconst 20 0 rfl dX11_repairIt_19 ic_0 ?_
    refine J_istore_n 21 rfl dX11_repairIt_20 rfl (Nat.le_of_ble_eq_true rfl) ?_
    exact scan (by omega) _ 0 rfl (Nat.zero_le _)
  · refine J_aload_n 10 rfl dX11_repairIt_9 rfl ?_
    refine J_iconst 11 1 rfl dX11_repairIt_10 ic_1 ?_
    refine J_callVi (As := [_]) 14 _ rfl kalX11_throwing lkX11_125 dX11_repairIt_11 (lt_X11) (so_X11) rfl rfl rfl (by exact Nat.le_of_ble_eq_true rfl) (by omega) (S_X11_throwing) ?_
    refine J_iret rfl dX11_repairIt_14 ?_
    refine ⟨_, rfl, Or.inr ⟨by unfold fRep; rw [if_neg (by omega)]; omega, rfl, ?_⟩⟩
    rw [up2_out (by omega)]

/-! CHANGES of the model -/
def MNo (J J2 : DJ) (p : Nat) : Prop := (∀ c, c < 351 ∨ c = 352 ∨ c = 354 ∨ c = 355 ∨ c = 356 ∨ 361 ≤ c → J2 c = J c) ∧ (∀ j, j ≠ 8 → j ≠ 12 → J2 351 j = J 351 j) ∧ J2 351 8 = p
def MCh (J J2 : DJ) (x : Nat → Nat) : Prop := (∀ c, c < 351 ∨ c = 354 ∨ c = 356 ∨ 361 ≤ c → J2 c = J c) ∧ J2 352 = x ∧ (∀ j, j ≠ 5 → j ≠ 8 → j ≠ 12 → J2 351 j = J 351 j) ∧ J2 351 8 = 0 ∧ J2 351 5 = min (J 351 5 + 1) 8 ∧ ∀ c, c < min (J 351 5 + 1) 8 → ∀ i, i < 269 → J2 355 (269 * c + i) = psh (J 351 5) (pfs J) (J 352) c i
def MP (J : DJ) (F p R : Nat) (x : Nat → Nat) : Option Value → DJ → Prop := Re (fun r J2 => (F = 0 ∧ r = R ∧ MCh J J2 x) ∨ (F ≠ 0 ∧ r = 4294967295 ∧ MNo J J2 p))
theorem psh_congr {n c i : Nat} {fs fs2 : Nat → Nat → Nat} {f f2 : Nat → Nat} (hi : i < 269) (e : ∀ i, i < 269 → f2 i = f i) (es : ∀ c i, fs2 c i = fs c i) : psh n fs2 f2 c i = psh n fs f c i := by
  unfold psh
  (repeat' split) <;> first | exact e i hi | exact es _ _
theorem MCh_of {J J1 J2 : DJ} {A P x : Nat → Nat} (hA : ∀ i, i < 269 → A i = J 352 i) (hs : Sm (sR (up2 J 351 8 0) 353 A) J1) (e : J2 = sR (up2 (sR J1 352 x) 351 5 (min (J 351 5 + 1) 8)) 355 P) (hP : ∀ c, c < min (J 351 5 + 1) 8 → ∀ i, i < 269 → P (269 * c + i) = psh (J 351 5) (pfs (sR J1 352 x)) ((sR J1 352 x) 353) c i) : MCh J J2 x := by
  subst e
  have a : ∀ c, c ≠ 351 → c ≠ 357 → c ≠ 353 → J1 c = J c := fun c h1 h2 h3 => by rw [hs.1 c h1 h2, sR_ne h3, up2_ne h1]
  have b : ∀ j, j ≠ 12 → j ≠ 8 → J1 351 j = J 351 j := fun j h1 h2 => by rw [hs.2 j h1, sR_ne (by omega), up2_app, if_neg (fun z => h2 z.2)]
  have b8 : J1 351 8 = 0 := by rw [hs.2 8 (by omega), sR_ne (by omega), up2_app, if_pos ⟨rfl, rfl⟩]
  refine ⟨fun c hc => by rw [sR_ne (by omega), up2_ne (by omega), sR_ne (by omega)]; exact a c (by omega) (by omega) (by omega), by rw [sR_ne (by omega), up2_ne (by omega), sR_at], fun j h1 h2 h3 => ?_, ?_, ?_, fun c hc i hi => ?_⟩
  · rw [sR_ne (by omega), up2_app, if_neg (fun z => h1 z.2), sR_ne (by omega)]; exact b j h3 h2
  · rw [sR_ne (by omega), up2_app, if_neg (fun z => absurd z.2 (by omega)), sR_ne (by omega)]; exact b8
  · rw [sR_ne (by omega), up2_app, if_pos ⟨rfl, rfl⟩]
  · rw [sR_at, hP c hc i hi]
    refine psh_congr hi (fun i hi => ?_) (fun c i => ?_)
    · rw [sR_ne (by omega), hs.1 353 (by omega) (by omega), sR_at]; exact hA i hi
    · unfold pfs
      rw [sR_ne (by omega), a 355 (by omega) (by omega) (by omega)]
theorem MNo_of {J J1 J2 : DJ} {A : Nat → Nat} {p : Nat} (hs : Sm (sR (up2 J 351 8 0) 353 A) J1) (e : J2 = sR (up2 J1 351 8 p) 352 (J 352)) : MNo J J2 p := by
  subst e
  refine ⟨fun c hc => ?_, fun j h1 h2 => ?_, by rw [sR_ne (by omega), up2_app, if_pos ⟨rfl, rfl⟩]⟩
  · by_cases z : c = 352
    · rw [z, sR_at]
    · rw [sR_ne z, up2_ne (by omega), hs.1 c (by omega) (by omega), sR_ne (by omega), up2_ne (by omega)]
  · rw [sR_ne (by omega), up2_app, if_neg (fun z => h1 z.2), hs.2 j h2, sR_ne (by omega), up2_app, if_neg (fun z => h1 z.2)]
theorem st_in {J : DJ} {A : Nat → Nat} : sR (up2 J 351 8 0) 353 A = sR (sR (up2 J 351 8 0) 353 A) 352 (J 352) := by
  have e : (sR (up2 J 351 8 0) 353 A) 352 = J 352 := by rw [sR_ne (by omega), up2_ne (by omega)]
  rw [← e, sR_id]
theorem S_X11_addEngine {g : Gn} {J : DJ} {B : Nat} (hw : WF (J 352) B) (hB9 : B < 500000000) (hn8 : J 351 5 ≤ 8) {n : Nat} (h_n : n < 4294967296) : SJ g mX11_addEngine 6 0 0 [.ref (g.2 351), .int (nI (n))] J (MP J (fE (J 352) n) (fE (J 352) n - 1) ((J 352) 0) (xE (J 352) n)) NoX := by
  refine SJ_of_VJ (by decide +kernel) (Nat.le_of_ble_eq_true rfl) ?_
  show VJ g mX11_addEngine 6 0 0 _ _ 0 [(0, .ref (g.2 351)), (1, .int (nI (n)))] [] J
  refine J_aload_n 1 rfl dX11_addEngine_0 rfl ?_
  refine J_callVvp (As := []) 4 _ rfl kalX11_starts lkX11_128 dX11_addEngine_1 (lt_X11) (so_X11) rfl rfl rfl (by exact Nat.le_of_ble_eq_true rfl) (by omega) (S_X11_starts) (fun J1 q1 => ?_)
  obtain ⟨A, rfl, hA⟩ := q1
  rw [st_in]
  refine J_aload_n 5 rfl dX11_addEngine_4 rfl ?_
  refine J_aload_n 6 rfl dX11_addEngine_5 rfl ?_
  refine J_iload_n 7 rfl dX11_addEngine_6 rfl ?_
  refine J_callVie (As := [_]) 10 _ rfl kalX11_engineIt lkX11_131 dX11_addEngine_7 (lt_X11) (so_X11) rfl rfl rfl (by exact Nat.le_of_ble_eq_true rfl) (by omega) (SJ.mo (S_X11_engineIt hw (by omega) h_n)) (fun r7 J7 q7 => ?_)
  obtain ⟨J1, hs, hq⟩ := q7
  rcases hq with ⟨qa, qb, qc⟩ | ⟨qa, qb, qc⟩
  · subst qb
    subst qc
    refine J_callVip (As := [_]) 13 _ rfl kalX11_changed lkX11_134 dX11_addEngine_10 (lt_X11) (so_X11) rfl rfl rfl (by exact Nat.le_of_ble_eq_true rfl) (by omega) (S_X11_changed (n := J 351 5) (by rw [sR_ne (by omega), hs.2 8 (by omega), sR_ne (by omega), up2_app, if_pos ⟨rfl, rfl⟩]) (by rw [sR_ne (by omega), hs.2 5 (by omega), sR_ne (by omega), up2_app, if_neg (by omega)]) hn8) (fun J10 q10 => ?_)
    obtain ⟨P, rfl, hP⟩ := q10
    refine J_iret rfl dX11_addEngine_13 ?_
    exact ⟨_, rfl, Or.inl ⟨qa, rfl, MCh_of hA hs rfl hP⟩⟩
  · subst qb
    subst qc
    refine J_callVi (As := [_]) 13 _ rfl kalX11_changed lkX11_134 dX11_addEngine_10 (lt_X11) (so_X11) rfl rfl rfl (by exact Nat.le_of_ble_eq_true rfl) (by omega) (S_X11_changedX (by rw [sR_ne (by omega), up2_app, if_pos ⟨rfl, rfl⟩]; (first | omega | (revert qa; unfold fE; (repeat' split) <;> omega))) (by rw [sR_ne (by omega), up2_app, if_pos ⟨rfl, rfl⟩]; (first | omega | (unfold fE; (repeat' split) <;> omega)))) ?_
    refine J_iret rfl dX11_addEngine_13 ?_
    exact ⟨_, rfl, Or.inr ⟨qa, rfl, MNo_of hs rfl⟩⟩

theorem S_X11_exchange {g : Gn} {J : DJ} {B : Nat} (hw : WF (J 352) B) (hB9 : B < 500000000) (hn8 : J 351 5 ≤ 8) {e : Nat} {p : Nat} {q : Nat} (h_e : e < 4294967296) (h_p : p < 4294967296) (h_q : q < 4294967296) : SJ g mX11_exchange 6 0 0 [.ref (g.2 351), .int (nI (e)), .int (nI (p)), .int (nI (q))] J (MP J (fSwap (J 352) e p q) (1) (xSwap (J 352) e p q (11 + 52 * e + p)) (xSwap (J 352) e p q)) NoX := by
  refine SJ_of_VJ (by decide +kernel) (Nat.le_of_ble_eq_true rfl) ?_
  show VJ g mX11_exchange 6 0 0 _ _ 0 [(0, .ref (g.2 351)), (1, .int (nI (e))), (2, .int (nI (p))), (3, .int (nI (q)))] [] J
  refine J_aload_n 1 rfl dX11_exchange_0 rfl ?_
  refine J_callVvp (As := []) 4 _ rfl kalX11_starts lkX11_128 dX11_exchange_1 (lt_X11) (so_X11) rfl rfl rfl (by exact Nat.le_of_ble_eq_true rfl) (by omega) (S_X11_starts) (fun J1 q1 => ?_)
  obtain ⟨A, rfl, hA⟩ := q1
  rw [st_in]
  refine J_aload_n 5 rfl dX11_exchange_4 rfl ?_
  refine J_aload_n 6 rfl dX11_exchange_5 rfl ?_
  refine J_iload_n 7 rfl dX11_exchange_6 rfl ?_
  refine J_iload_n 8 rfl dX11_exchange_7 rfl ?_
  refine J_iload_n 9 rfl dX11_exchange_8 rfl ?_
  refine J_callVie (As := [_, _, _]) 12 _ rfl kalX11_swapIt lkX11_140 dX11_exchange_9 (lt_X11) (so_X11) rfl rfl rfl (by exact Nat.le_of_ble_eq_true rfl) (by omega) (SJ.mo (S_X11_swapIt hw (by omega) h_e h_p h_q)) (fun r9 J9 q9 => ?_)
  obtain ⟨J1, hs, hq⟩ := q9
  rcases hq with ⟨qa, qb, qc⟩ | ⟨qa, qb, qc⟩
  · subst qb
    subst qc
    refine J_callVip (As := [_]) 15 _ rfl kalX11_changed lkX11_134 dX11_exchange_12 (lt_X11) (so_X11) rfl rfl rfl (by exact Nat.le_of_ble_eq_true rfl) (by omega) (S_X11_changed (n := J 351 5) (by rw [sR_ne (by omega), hs.2 8 (by omega), sR_ne (by omega), up2_app, if_pos ⟨rfl, rfl⟩]) (by rw [sR_ne (by omega), hs.2 5 (by omega), sR_ne (by omega), up2_app, if_neg (by omega)]) hn8) (fun J12 q12 => ?_)
    obtain ⟨P, rfl, hP⟩ := q12
    refine J_iret rfl dX11_exchange_15 ?_
    exact ⟨_, rfl, Or.inl ⟨qa, rfl, MCh_of hA hs rfl hP⟩⟩
  · subst qb
    subst qc
    refine J_callVi (As := [_]) 15 _ rfl kalX11_changed lkX11_134 dX11_exchange_12 (lt_X11) (so_X11) rfl rfl rfl (by exact Nat.le_of_ble_eq_true rfl) (by omega) (S_X11_changedX (by rw [sR_ne (by omega), up2_app, if_pos ⟨rfl, rfl⟩]; (first | omega | (revert qa; unfold fSwap; (repeat' split) <;> omega))) (by rw [sR_ne (by omega), up2_app, if_pos ⟨rfl, rfl⟩]; (first | omega | (unfold fSwap; (repeat' split) <;> omega)))) ?_
    refine J_iret rfl dX11_exchange_15 ?_
    exact ⟨_, rfl, Or.inr ⟨qa, rfl, MNo_of hs rfl⟩⟩

theorem S_X11_setRate {g : Gn} {J : DJ} {B : Nat} (hw : WF (J 352) B) (hB9 : B < 500000000) (hn8 : J 351 5 ≤ 8) {e : Nat} {t : Nat} (h_e : e < 4294967296) (h_t : t < 4294967296) : SJ g mX11_setRate 6 0 0 [.ref (g.2 351), .int (nI (e)), .int (nI (t))] J (MP J (fRate (J 352) e t) (fRate (J 352) e t) ((J 352) (9 + 52 * e)) (xRate (J 352) e t)) NoX := by
  refine SJ_of_VJ (by decide +kernel) (Nat.le_of_ble_eq_true rfl) ?_
  show VJ g mX11_setRate 6 0 0 _ _ 0 [(0, .ref (g.2 351)), (1, .int (nI (e))), (2, .int (nI (t)))] [] J
  refine J_aload_n 1 rfl dX11_setRate_0 rfl ?_
  refine J_callVvp (As := []) 4 _ rfl kalX11_starts lkX11_128 dX11_setRate_1 (lt_X11) (so_X11) rfl rfl rfl (by exact Nat.le_of_ble_eq_true rfl) (by omega) (S_X11_starts) (fun J1 q1 => ?_)
  obtain ⟨A, rfl, hA⟩ := q1
  rw [st_in]
  refine J_aload_n 5 rfl dX11_setRate_4 rfl ?_
  refine J_aload_n 6 rfl dX11_setRate_5 rfl ?_
  refine J_iload_n 7 rfl dX11_setRate_6 rfl ?_
  refine J_iload_n 8 rfl dX11_setRate_7 rfl ?_
  refine J_callVie (As := [_, _]) 11 _ rfl kalX11_rateIt lkX11_145 dX11_setRate_8 (lt_X11) (so_X11) rfl rfl rfl (by exact Nat.le_of_ble_eq_true rfl) (by omega) (SJ.mo (S_X11_rateIt hw (by omega) h_e h_t)) (fun r8 J8 q8 => ?_)
  obtain ⟨J1, hs, hq⟩ := q8
  rcases hq with ⟨qa, qb, qc⟩ | ⟨qa, qb, qc⟩
  · subst qb
    subst qc
    refine J_callVip (As := [_]) 14 _ rfl kalX11_changed lkX11_134 dX11_setRate_11 (lt_X11) (so_X11) rfl rfl rfl (by exact Nat.le_of_ble_eq_true rfl) (by omega) (S_X11_changed (n := J 351 5) (by rw [sR_ne (by omega), hs.2 8 (by omega), sR_ne (by omega), up2_app, if_pos ⟨rfl, rfl⟩]) (by rw [sR_ne (by omega), hs.2 5 (by omega), sR_ne (by omega), up2_app, if_neg (by omega)]) hn8) (fun J11 q11 => ?_)
    obtain ⟨P, rfl, hP⟩ := q11
    refine J_iret rfl dX11_setRate_14 ?_
    exact ⟨_, rfl, Or.inl ⟨qa, rfl, MCh_of hA hs rfl hP⟩⟩
  · subst qb
    subst qc
    refine J_callVi (As := [_]) 14 _ rfl kalX11_changed lkX11_134 dX11_setRate_11 (lt_X11) (so_X11) rfl rfl rfl (by exact Nat.le_of_ble_eq_true rfl) (by omega) (S_X11_changedX (by rw [sR_ne (by omega), up2_app, if_pos ⟨rfl, rfl⟩]; (first | omega | (revert qa; unfold fRate; (repeat' split) <;> omega))) (by rw [sR_ne (by omega), up2_app, if_pos ⟨rfl, rfl⟩]; (first | omega | (unfold fRate; (repeat' split) <;> omega)))) ?_
    refine J_iret rfl dX11_setRate_14 ?_
    exact ⟨_, rfl, Or.inr ⟨qa, rfl, MNo_of hs rfl⟩⟩

theorem S_X11_run {g : Gn} {J : DJ} {B : Nat} (hw : WF (J 352) B) (hB9 : B < 500000000) (hn8 : J 351 5 ≤ 8) {e : Nat} {t : Nat} (h_e : e < 4294967296) (h_t : t < 4294967296) : SJ g mX11_run 6 0 0 [.ref (g.2 351), .int (nI (e)), .int (nI (t))] J (MP J (fRun (J 352) e t) (fRun (J 352) e t) (eKn (J 352) (7 + 52 * e) t) (xRun (J 352) e t)) NoX := by
  refine SJ_of_VJ (by decide +kernel) (Nat.le_of_ble_eq_true rfl) ?_
  show VJ g mX11_run 6 0 0 _ _ 0 [(0, .ref (g.2 351)), (1, .int (nI (e))), (2, .int (nI (t)))] [] J
  refine J_aload_n 1 rfl dX11_run_0 rfl ?_
  refine J_callVvp (As := []) 4 _ rfl kalX11_starts lkX11_128 dX11_run_1 (lt_X11) (so_X11) rfl rfl rfl (by exact Nat.le_of_ble_eq_true rfl) (by omega) (S_X11_starts) (fun J1 q1 => ?_)
  obtain ⟨A, rfl, hA⟩ := q1
  rw [st_in]
  refine J_aload_n 5 rfl dX11_run_4 rfl ?_
  refine J_aload_n 6 rfl dX11_run_5 rfl ?_
  refine J_iload_n 7 rfl dX11_run_6 rfl ?_
  refine J_iload_n 8 rfl dX11_run_7 rfl ?_
  refine J_callVie (As := [_, _]) 11 _ rfl kalX11_runIt lkX11_150 dX11_run_8 (lt_X11) (so_X11) rfl rfl rfl (by exact Nat.le_of_ble_eq_true rfl) (by omega) (SJ.mo (S_X11_runIt hw (by omega) h_e h_t)) (fun r8 J8 q8 => ?_)
  obtain ⟨J1, hs, hq⟩ := q8
  rcases hq with ⟨qa, qb, qc⟩ | ⟨qa, qb, qc⟩
  · subst qb
    subst qc
    refine J_callVip (As := [_]) 14 _ rfl kalX11_changed lkX11_134 dX11_run_11 (lt_X11) (so_X11) rfl rfl rfl (by exact Nat.le_of_ble_eq_true rfl) (by omega) (S_X11_changed (n := J 351 5) (by rw [sR_ne (by omega), hs.2 8 (by omega), sR_ne (by omega), up2_app, if_pos ⟨rfl, rfl⟩]) (by rw [sR_ne (by omega), hs.2 5 (by omega), sR_ne (by omega), up2_app, if_neg (by omega)]) hn8) (fun J11 q11 => ?_)
    obtain ⟨P, rfl, hP⟩ := q11
    refine J_iret rfl dX11_run_14 ?_
    exact ⟨_, rfl, Or.inl ⟨qa, rfl, MCh_of hA hs rfl hP⟩⟩
  · subst qb
    subst qc
    refine J_callVi (As := [_]) 14 _ rfl kalX11_changed lkX11_134 dX11_run_11 (lt_X11) (so_X11) rfl rfl rfl (by exact Nat.le_of_ble_eq_true rfl) (by omega) (S_X11_changedX (by rw [sR_ne (by omega), up2_app, if_pos ⟨rfl, rfl⟩]; (first | omega | (revert qa; unfold fRun; (repeat' split) <;> omega))) (by rw [sR_ne (by omega), up2_app, if_pos ⟨rfl, rfl⟩]; (first | omega | (unfold fRun; (repeat' split) <;> omega)))) ?_
    refine J_iret rfl dX11_run_14 ?_
    exact ⟨_, rfl, Or.inr ⟨qa, rfl, MNo_of hs rfl⟩⟩

theorem S_X11_oil {g : Gn} {J : DJ} {B : Nat} (hw : WF (J 352) B) (hB9 : B < 500000000) (hn8 : J 351 5 ≤ 8) {e : Nat} {c : Nat} {u : Nat} (h_e : e < 4294967296) (h_c : c < 4294967296) (h_u : u < 4294967296) : SJ g mX11_oil 6 0 0 [.ref (g.2 351), .int (nI (e)), .int (nI (c)), .int (nI (u))] J (MP J (fOil (J 352) e c u) (fOil (J 352) e c u) ((J 352) (19 + 52 * e + c) + u) (xOil (J 352) e c u)) NoX := by
  refine SJ_of_VJ (by decide +kernel) (Nat.le_of_ble_eq_true rfl) ?_
  show VJ g mX11_oil 6 0 0 _ _ 0 [(0, .ref (g.2 351)), (1, .int (nI (e))), (2, .int (nI (c))), (3, .int (nI (u)))] [] J
  refine J_aload_n 1 rfl dX11_oil_0 rfl ?_
  refine J_callVvp (As := []) 4 _ rfl kalX11_starts lkX11_128 dX11_oil_1 (lt_X11) (so_X11) rfl rfl rfl (by exact Nat.le_of_ble_eq_true rfl) (by omega) (S_X11_starts) (fun J1 q1 => ?_)
  obtain ⟨A, rfl, hA⟩ := q1
  rw [st_in]
  refine J_aload_n 5 rfl dX11_oil_4 rfl ?_
  refine J_aload_n 6 rfl dX11_oil_5 rfl ?_
  refine J_iload_n 7 rfl dX11_oil_6 rfl ?_
  refine J_iload_n 8 rfl dX11_oil_7 rfl ?_
  refine J_iload_n 9 rfl dX11_oil_8 rfl ?_
  refine J_callVie (As := [_, _, _]) 12 _ rfl kalX11_oilIt lkX11_153 dX11_oil_9 (lt_X11) (so_X11) rfl rfl rfl (by exact Nat.le_of_ble_eq_true rfl) (by omega) (SJ.mo (S_X11_oilIt hw (by omega) h_e h_c h_u)) (fun r9 J9 q9 => ?_)
  obtain ⟨J1, hs, hq⟩ := q9
  rcases hq with ⟨qa, qb, qc⟩ | ⟨qa, qb, qc⟩
  · subst qb
    subst qc
    refine J_callVip (As := [_]) 15 _ rfl kalX11_changed lkX11_134 dX11_oil_12 (lt_X11) (so_X11) rfl rfl rfl (by exact Nat.le_of_ble_eq_true rfl) (by omega) (S_X11_changed (n := J 351 5) (by rw [sR_ne (by omega), hs.2 8 (by omega), sR_ne (by omega), up2_app, if_pos ⟨rfl, rfl⟩]) (by rw [sR_ne (by omega), hs.2 5 (by omega), sR_ne (by omega), up2_app, if_neg (by omega)]) hn8) (fun J12 q12 => ?_)
    obtain ⟨P, rfl, hP⟩ := q12
    refine J_iret rfl dX11_oil_15 ?_
    exact ⟨_, rfl, Or.inl ⟨qa, rfl, MCh_of hA hs rfl hP⟩⟩
  · subst qb
    subst qc
    refine J_callVi (As := [_]) 15 _ rfl kalX11_changed lkX11_134 dX11_oil_12 (lt_X11) (so_X11) rfl rfl rfl (by exact Nat.le_of_ble_eq_true rfl) (by omega) (S_X11_changedX (by rw [sR_ne (by omega), up2_app, if_pos ⟨rfl, rfl⟩]; (first | omega | (revert qa; unfold fOil; (repeat' split) <;> omega))) (by rw [sR_ne (by omega), up2_app, if_pos ⟨rfl, rfl⟩]; (first | omega | (unfold fOil; (repeat' split) <;> omega)))) ?_
    refine J_iret rfl dX11_oil_15 ?_
    exact ⟨_, rfl, Or.inr ⟨qa, rfl, MNo_of hs rfl⟩⟩

theorem S_X11_oilDriest {g : Gn} {J : DJ} {B : Nat} (hw : WF (J 352) B) (hB9 : B < 500000000) (hn8 : J 351 5 ≤ 8) {u : Nat} (h_u : u < 4294967296) : SJ g mX11_oilDriest 6 0 0 [.ref (g.2 351), .int (nI (u))] J (MP J (fFill (J 352) u) (fFill (J 352) u - 1) (lst (ol (xFill (J 352) u)) (cnt (xFill (J 352) u))) (xFill (J 352) u)) NoX := by
  refine SJ_of_VJ (by decide +kernel) (Nat.le_of_ble_eq_true rfl) ?_
  show VJ g mX11_oilDriest 6 0 0 _ _ 0 [(0, .ref (g.2 351)), (1, .int (nI (u)))] [] J
  refine J_aload_n 1 rfl dX11_oilDriest_0 rfl ?_
  refine J_callVvp (As := []) 4 _ rfl kalX11_starts lkX11_128 dX11_oilDriest_1 (lt_X11) (so_X11) rfl rfl rfl (by exact Nat.le_of_ble_eq_true rfl) (by omega) (S_X11_starts) (fun J1 q1 => ?_)
  obtain ⟨A, rfl, hA⟩ := q1
  rw [st_in]
  refine J_aload_n 5 rfl dX11_oilDriest_4 rfl ?_
  refine J_aload_n 6 rfl dX11_oilDriest_5 rfl ?_
  refine J_iload_n 7 rfl dX11_oilDriest_6 rfl ?_
  refine J_callVie (As := [_]) 10 _ rfl kalX11_fillIt lkX11_162 dX11_oilDriest_7 (lt_X11) (so_X11) rfl rfl rfl (by exact Nat.le_of_ble_eq_true rfl) (by omega) (S_X11_fillIt hw (by omega) h_u) (fun r7 J7 q7 => ?_)
  obtain ⟨J1, hs, hq⟩ := q7
  rcases hq with ⟨qa, qb, qc⟩ | ⟨qa, qb, qc⟩
  · subst qb
    subst qc
    refine J_callVip (As := [_]) 13 _ rfl kalX11_changed lkX11_134 dX11_oilDriest_10 (lt_X11) (so_X11) rfl rfl rfl (by exact Nat.le_of_ble_eq_true rfl) (by omega) (S_X11_changed (n := J 351 5) (by rw [sR_ne (by omega), hs.2 8 (by omega), sR_ne (by omega), up2_app, if_pos ⟨rfl, rfl⟩]) (by rw [sR_ne (by omega), hs.2 5 (by omega), sR_ne (by omega), up2_app, if_neg (by omega)]) hn8) (fun J10 q10 => ?_)
    obtain ⟨P, rfl, hP⟩ := q10
    refine J_iret rfl dX11_oilDriest_13 ?_
    exact ⟨_, rfl, Or.inl ⟨qa, rfl, MCh_of hA hs rfl hP⟩⟩
  · subst qb
    subst qc
    refine J_callVi (As := [_]) 13 _ rfl kalX11_changed lkX11_134 dX11_oilDriest_10 (lt_X11) (so_X11) rfl rfl rfl (by exact Nat.le_of_ble_eq_true rfl) (by omega) (S_X11_changedX (by rw [sR_ne (by omega), up2_app, if_pos ⟨rfl, rfl⟩]; (first | omega | (revert qa; unfold fFill; (repeat' split) <;> omega))) (by rw [sR_ne (by omega), up2_app, if_pos ⟨rfl, rfl⟩]; (first | omega | (unfold fFill; (repeat' split) <;> omega)))) ?_
    refine J_iret rfl dX11_oilDriest_13 ?_
    exact ⟨_, rfl, Or.inr ⟨qa, rfl, MNo_of hs rfl⟩⟩

theorem S_X11_buyOil {g : Gn} {J : DJ} {B : Nat} (hw : WF (J 352) B) (hB9 : B < 500000000) (hn8 : J 351 5 ≤ 8) {u : Nat} (h_u : u < 4294967296) : SJ g mX11_buyOil 6 0 0 [.ref (g.2 351), .int (nI (u))] J (MP J (fBuy (J 352) u) (fBuy (J 352) u - 1) ((J 352) 2 + u) (xBuy (J 352) u)) NoX := by
  refine SJ_of_VJ (by decide +kernel) (Nat.le_of_ble_eq_true rfl) ?_
  show VJ g mX11_buyOil 6 0 0 _ _ 0 [(0, .ref (g.2 351)), (1, .int (nI (u)))] [] J
  refine J_aload_n 1 rfl dX11_buyOil_0 rfl ?_
  refine J_callVvp (As := []) 4 _ rfl kalX11_starts lkX11_128 dX11_buyOil_1 (lt_X11) (so_X11) rfl rfl rfl (by exact Nat.le_of_ble_eq_true rfl) (by omega) (S_X11_starts) (fun J1 q1 => ?_)
  obtain ⟨A, rfl, hA⟩ := q1
  rw [st_in]
  refine J_aload_n 5 rfl dX11_buyOil_4 rfl ?_
  refine J_aload_n 6 rfl dX11_buyOil_5 rfl ?_
  refine J_iload_n 7 rfl dX11_buyOil_6 rfl ?_
  refine J_callVie (As := [_]) 10 _ rfl kalX11_buyIt lkX11_165 dX11_buyOil_7 (lt_X11) (so_X11) rfl rfl rfl (by exact Nat.le_of_ble_eq_true rfl) (by omega) (SJ.mo (S_X11_buyIt hw (by omega) h_u)) (fun r7 J7 q7 => ?_)
  obtain ⟨J1, hs, hq⟩ := q7
  rcases hq with ⟨qa, qb, qc⟩ | ⟨qa, qb, qc⟩
  · subst qb
    subst qc
    refine J_callVip (As := [_]) 13 _ rfl kalX11_changed lkX11_134 dX11_buyOil_10 (lt_X11) (so_X11) rfl rfl rfl (by exact Nat.le_of_ble_eq_true rfl) (by omega) (S_X11_changed (n := J 351 5) (by rw [sR_ne (by omega), hs.2 8 (by omega), sR_ne (by omega), up2_app, if_pos ⟨rfl, rfl⟩]) (by rw [sR_ne (by omega), hs.2 5 (by omega), sR_ne (by omega), up2_app, if_neg (by omega)]) hn8) (fun J10 q10 => ?_)
    obtain ⟨P, rfl, hP⟩ := q10
    refine J_iret rfl dX11_buyOil_13 ?_
    exact ⟨_, rfl, Or.inl ⟨qa, rfl, MCh_of hA hs rfl hP⟩⟩
  · subst qb
    subst qc
    refine J_callVi (As := [_]) 13 _ rfl kalX11_changed lkX11_134 dX11_buyOil_10 (lt_X11) (so_X11) rfl rfl rfl (by exact Nat.le_of_ble_eq_true rfl) (by omega) (S_X11_changedX (by rw [sR_ne (by omega), up2_app, if_pos ⟨rfl, rfl⟩]; (first | omega | (revert qa; unfold fBuy; (repeat' split) <;> omega))) (by rw [sR_ne (by omega), up2_app, if_pos ⟨rfl, rfl⟩]; (first | omega | (unfold fBuy; (repeat' split) <;> omega)))) ?_
    refine J_iret rfl dX11_buyOil_13 ?_
    exact ⟨_, rfl, Or.inr ⟨qa, rfl, MNo_of hs rfl⟩⟩

theorem S_X11_addMonk {g : Gn} {J : DJ} {B : Nat} (hw : WF (J 352) B) (hB9 : B < 500000000) (hn8 : J 351 5 ≤ 8) : SJ g mX11_addMonk 6 0 0 [.ref (g.2 351)] J (MP J (fMonk (J 352)) (fMonk (J 352) - 2) ((J 352) 3) (xMonk (J 352))) NoX := by
  refine SJ_of_VJ (by decide +kernel) (Nat.le_of_ble_eq_true rfl) ?_
  show VJ g mX11_addMonk 6 0 0 _ _ 0 [(0, .ref (g.2 351))] [] J
  refine J_aload_n 1 rfl dX11_addMonk_0 rfl ?_
  refine J_callVvp (As := []) 4 _ rfl kalX11_starts lkX11_128 dX11_addMonk_1 (lt_X11) (so_X11) rfl rfl rfl (by exact Nat.le_of_ble_eq_true rfl) (by omega) (S_X11_starts) (fun J1 q1 => ?_)
  obtain ⟨A, rfl, hA⟩ := q1
  rw [st_in]
  refine J_aload_n 5 rfl dX11_addMonk_4 rfl ?_
  refine J_aload_n 6 rfl dX11_addMonk_5 rfl ?_
  refine J_callVie (As := []) 9 _ rfl kalX11_monkIt lkX11_168 dX11_addMonk_6 (lt_X11) (so_X11) rfl rfl rfl (by exact Nat.le_of_ble_eq_true rfl) (by omega) (SJ.mo (S_X11_monkIt hw (by omega))) (fun r6 J6 q6 => ?_)
  obtain ⟨J1, hs, hq⟩ := q6
  rcases hq with ⟨qa, qb, qc⟩ | ⟨qa, qb, qc⟩
  · subst qb
    subst qc
    refine J_callVip (As := [_]) 12 _ rfl kalX11_changed lkX11_134 dX11_addMonk_9 (lt_X11) (so_X11) rfl rfl rfl (by exact Nat.le_of_ble_eq_true rfl) (by omega) (S_X11_changed (n := J 351 5) (by rw [sR_ne (by omega), hs.2 8 (by omega), sR_ne (by omega), up2_app, if_pos ⟨rfl, rfl⟩]) (by rw [sR_ne (by omega), hs.2 5 (by omega), sR_ne (by omega), up2_app, if_neg (by omega)]) hn8) (fun J9 q9 => ?_)
    obtain ⟨P, rfl, hP⟩ := q9
    refine J_iret rfl dX11_addMonk_12 ?_
    exact ⟨_, rfl, Or.inl ⟨qa, rfl, MCh_of hA hs rfl hP⟩⟩
  · subst qb
    subst qc
    refine J_callVi (As := [_]) 12 _ rfl kalX11_changed lkX11_134 dX11_addMonk_9 (lt_X11) (so_X11) rfl rfl rfl (by exact Nat.le_of_ble_eq_true rfl) (by omega) (S_X11_changedX (by rw [sR_ne (by omega), up2_app, if_pos ⟨rfl, rfl⟩]; (first | omega | (revert qa; unfold fMonk; (repeat' split) <;> omega))) (by rw [sR_ne (by omega), up2_app, if_pos ⟨rfl, rfl⟩]; (first | omega | (unfold fMonk; (repeat' split) <;> omega)))) ?_
    refine J_iret rfl dX11_addMonk_12 ?_
    exact ⟨_, rfl, Or.inr ⟨qa, rfl, MNo_of hs rfl⟩⟩

theorem S_X11_setAble {g : Gn} {J : DJ} {B : Nat} (hw : WF (J 352) B) (hB9 : B < 500000000) (hn8 : J 351 5 ≤ 8) {m : Nat} {v : Nat} (h_m : m < 4294967296) (h_v : v < 4294967296) {a : Nat} (h_a : a < 2) : SJ g mX11_setAble 6 0 0 [.ref (g.2 351), .int (nI (m)), .int (nI (v)), .int (nI (a))] J ((fun w0 J2 => (fAble (J 352) m v = 0 ∧ w0 = some (.int (nI (bt ((if ((J 352) (215 + m)).testBit v then 1 else 0) = 1)))) ∧ MCh J J2 (xAble (J 352) m v a)) ∨ (fAble (J 352) m v ≠ 0 ∧ (∃ w9, w0 = some (.int (nI w9))) ∧ MNo J J2 (fAble (J 352) m v)))) NoX := by
  refine SJ_of_VJ (by decide +kernel) (Nat.le_of_ble_eq_true rfl) ?_
  show VJ g mX11_setAble 6 0 0 _ _ 0 [(0, .ref (g.2 351)), (1, .int (nI (m))), (2, .int (nI (v))), (3, .int (nI (a)))] [] J
  refine J_aload_n 1 rfl dX11_setAble_0 rfl ?_
  refine J_callVvp (As := []) 4 _ rfl kalX11_starts lkX11_128 dX11_setAble_1 (lt_X11) (so_X11) rfl rfl rfl (by exact Nat.le_of_ble_eq_true rfl) (by omega) (S_X11_starts) (fun J1 q1 => ?_)
  obtain ⟨A, rfl, hA⟩ := q1
  rw [st_in]
  refine J_aload_n 5 rfl dX11_setAble_4 rfl ?_
  refine J_aload_n 6 rfl dX11_setAble_5 rfl ?_
  refine J_iload_n 7 rfl dX11_setAble_6 rfl ?_
  refine J_iload_n 8 rfl dX11_setAble_7 rfl ?_
  refine J_iload_n 9 rfl dX11_setAble_8 rfl ?_
  refine J_callVie (As := [_, _, _]) 12 _ rfl kalX11_ableIt lkX11_173 dX11_setAble_9 (lt_X11) (so_X11) rfl rfl rfl (by exact Nat.le_of_ble_eq_true rfl) (by omega) (SJ.mo (S_X11_ableIt hw (by omega) h_m h_v h_a)) (fun r9 J9 q9 => ?_)
  obtain ⟨J1, hs, hq⟩ := q9
  rcases hq with ⟨qa, qb, qc⟩ | ⟨qa, qb, qc⟩
  · subst qb
    subst qc
    refine J_callVip (As := [_]) 15 _ rfl kalX11_changed lkX11_134 dX11_setAble_12 (lt_X11) (so_X11) rfl rfl rfl (by exact Nat.le_of_ble_eq_true rfl) (by omega) (S_X11_changed (n := J 351 5) (by rw [sR_ne (by omega), hs.2 8 (by omega), sR_ne (by omega), up2_app, if_pos ⟨rfl, rfl⟩]) (by rw [sR_ne (by omega), hs.2 5 (by omega), sR_ne (by omega), up2_app, if_neg (by omega)]) hn8) (fun J12 q12 => ?_)
    obtain ⟨P, rfl, hP⟩ := q12
    refine J_istore 17 rfl dX11_setAble_15 (Nat.le_of_ble_eq_true rfl) ?_
    refine J_iload 19 rfl dX11_setAble_17 rfl ?_
    refine J_iconst 20 1 rfl dX11_setAble_19 ic_1 ?_
    refine J_icmp_ne 27 23 (by decide) rfl dX11_setAble_20 (by split <;> omega) (by omega) (fun c20 => ?_) (fun c20 => ?_)
    · refine J_iconst 28 0 rfl dX11_setAble_27 ic_0 ?_
      refine J_zret0 rfl dX11_setAble_28 ?_
      first
        | exact Or.inl ⟨qa, by rw [bt_t (by assumption)], MCh_of hA hs rfl hP⟩
        | exact Or.inl ⟨qa, by rw [bt_f (by assumption)], MCh_of hA hs rfl hP⟩
    · refine J_iconst 24 1 rfl dX11_setAble_23 ic_1 ?_
      refine J_goto 28 (by decide) dX11_setAble_24 ?_
      refine J_zret1 rfl dX11_setAble_28 ?_
      first
        | exact Or.inl ⟨qa, by rw [bt_t (by assumption)], MCh_of hA hs rfl hP⟩
        | exact Or.inl ⟨qa, by rw [bt_f (by assumption)], MCh_of hA hs rfl hP⟩
  · subst qb
    subst qc
    refine J_callVi (As := [_]) 15 _ rfl kalX11_changed lkX11_134 dX11_setAble_12 (lt_X11) (so_X11) rfl rfl rfl (by exact Nat.le_of_ble_eq_true rfl) (by omega) (S_X11_changedX (by rw [sR_ne (by omega), up2_app, if_pos ⟨rfl, rfl⟩]; (first | omega | (revert qa; unfold fAble; (repeat' split) <;> omega))) (by rw [sR_ne (by omega), up2_app, if_pos ⟨rfl, rfl⟩]; (first | omega | (unfold fAble; (repeat' split) <;> omega)))) ?_
    refine J_istore 17 rfl dX11_setAble_15 (Nat.le_of_ble_eq_true rfl) ?_
    refine J_iload 19 rfl dX11_setAble_17 rfl ?_
    refine J_iconst 20 1 rfl dX11_setAble_19 ic_1 ?_
    refine J_icmp_ne 27 23 (by decide) rfl dX11_setAble_20 (by omega) (by omega) (fun c20 => ?_) (fun c20 => ?_)
    · refine J_iconst 28 0 rfl dX11_setAble_27 ic_0 ?_
      refine J_zret0 rfl dX11_setAble_28 ?_
      exact Or.inr ⟨qa, ⟨_, rfl⟩, MNo_of hs rfl⟩
    · refine J_iconst 24 1 rfl dX11_setAble_23 ic_1 ?_
      refine J_goto 28 (by decide) dX11_setAble_24 ?_
      refine J_zret1 rfl dX11_setAble_28 ?_
      exact Or.inr ⟨qa, ⟨_, rfl⟩, MNo_of hs rfl⟩

theorem S_X11_addRepair {g : Gn} {J : DJ} {B : Nat} (hw : WF (J 352) B) (hB9 : B < 500000000) (hn8 : J 351 5 ≤ 8) {e : Nat} {t : Nat} {p : Nat} (h_e : e < 4294967296) (h_t : t < 4294967296) (h_p : p < 4294967296) : SJ g mX11_addRepair 6 0 0 [.ref (g.2 351), .int (nI (e)), .int (nI (t)), .int (nI (p))] J (MP J (fMend (J 352) e t p) (fMend (J 352) e t p) ((J 352) 4) (mAsk (J 352) e t p)) NoX := by
  refine SJ_of_VJ (by decide +kernel) (Nat.le_of_ble_eq_true rfl) ?_
  show VJ g mX11_addRepair 6 0 0 _ _ 0 [(0, .ref (g.2 351)), (1, .int (nI (e))), (2, .int (nI (t))), (3, .int (nI (p)))] [] J
  refine J_aload_n 1 rfl dX11_addRepair_0 rfl ?_
  refine J_callVvp (As := []) 4 _ rfl kalX11_starts lkX11_128 dX11_addRepair_1 (lt_X11) (so_X11) rfl rfl rfl (by exact Nat.le_of_ble_eq_true rfl) (by omega) (S_X11_starts) (fun J1 q1 => ?_)
  obtain ⟨A, rfl, hA⟩ := q1
  rw [st_in]
  refine J_aload_n 5 rfl dX11_addRepair_4 rfl ?_
  refine J_aload_n 6 rfl dX11_addRepair_5 rfl ?_
  refine J_iload_n 7 rfl dX11_addRepair_6 rfl ?_
  refine J_iload_n 8 rfl dX11_addRepair_7 rfl ?_
  refine J_iload_n 9 rfl dX11_addRepair_8 rfl ?_
  refine J_callVie (As := [_, _, _]) 12 _ rfl kalX11_mendIt lkX11_177 dX11_addRepair_9 (lt_X11) (so_X11) rfl rfl rfl (by exact Nat.le_of_ble_eq_true rfl) (by omega) (SJ.mo (S_X11_mendIt hw (by omega) h_e h_t h_p)) (fun r9 J9 q9 => ?_)
  obtain ⟨J1, hs, hq⟩ := q9
  rcases hq with ⟨qa, qb, qc⟩ | ⟨qa, qb, qc⟩
  · subst qb
    subst qc
    refine J_callVip (As := [_]) 15 _ rfl kalX11_changed lkX11_134 dX11_addRepair_12 (lt_X11) (so_X11) rfl rfl rfl (by exact Nat.le_of_ble_eq_true rfl) (by omega) (S_X11_changed (n := J 351 5) (by rw [sR_ne (by omega), hs.2 8 (by omega), sR_ne (by omega), up2_app, if_pos ⟨rfl, rfl⟩]) (by rw [sR_ne (by omega), hs.2 5 (by omega), sR_ne (by omega), up2_app, if_neg (by omega)]) hn8) (fun J12 q12 => ?_)
    obtain ⟨P, rfl, hP⟩ := q12
    refine J_iret rfl dX11_addRepair_15 ?_
    exact ⟨_, rfl, Or.inl ⟨qa, rfl, MCh_of hA hs rfl hP⟩⟩
  · subst qb
    subst qc
    refine J_callVi (As := [_]) 15 _ rfl kalX11_changed lkX11_134 dX11_addRepair_12 (lt_X11) (so_X11) rfl rfl rfl (by exact Nat.le_of_ble_eq_true rfl) (by omega) (S_X11_changedX (by rw [sR_ne (by omega), up2_app, if_pos ⟨rfl, rfl⟩]; (first | omega | (revert qa; unfold fMend; (repeat' split) <;> omega))) (by rw [sR_ne (by omega), up2_app, if_pos ⟨rfl, rfl⟩]; (first | omega | (unfold fMend; (repeat' split) <;> omega)))) ?_
    refine J_iret rfl dX11_addRepair_15 ?_
    exact ⟨_, rfl, Or.inr ⟨qa, rfl, MNo_of hs rfl⟩⟩

theorem S_X11_repair {g : Gn} {J : DJ} {B : Nat} (hw : WF (J 352) B) (hB9 : B < 500000000) (hn8 : J 351 5 ≤ 8) : SJ g mX11_repair 6 0 0 [.ref (g.2 351)] J (MP J (fRep (J 352)) (1) ((J 352) (221 + 3 * fBst (J 352) ((J 352) 4))) (xRep (J 352))) NoX := by
  refine SJ_of_VJ (by decide +kernel) (Nat.le_of_ble_eq_true rfl) ?_
  show VJ g mX11_repair 6 0 0 _ _ 0 [(0, .ref (g.2 351))] [] J
  refine J_aload_n 1 rfl dX11_repair_0 rfl ?_
  refine J_callVvp (As := []) 4 _ rfl kalX11_starts lkX11_128 dX11_repair_1 (lt_X11) (so_X11) rfl rfl rfl (by exact Nat.le_of_ble_eq_true rfl) (by omega) (S_X11_starts) (fun J1 q1 => ?_)
  obtain ⟨A, rfl, hA⟩ := q1
  rw [st_in]
  refine J_aload_n 5 rfl dX11_repair_4 rfl ?_
  refine J_aload_n 6 rfl dX11_repair_5 rfl ?_
  refine J_callVie (As := []) 9 _ rfl kalX11_repairIt lkX11_187 dX11_repair_6 (lt_X11) (so_X11) rfl rfl rfl (by exact Nat.le_of_ble_eq_true rfl) (by omega) (SJ.mo (S_X11_repairIt hw (by omega))) (fun r6 J6 q6 => ?_)
  obtain ⟨J1, hs, hq⟩ := q6
  rcases hq with ⟨qa, qb, qc⟩ | ⟨qa, qb, qc⟩
  · subst qb
    subst qc
    refine J_callVip (As := [_]) 12 _ rfl kalX11_changed lkX11_134 dX11_repair_9 (lt_X11) (so_X11) rfl rfl rfl (by exact Nat.le_of_ble_eq_true rfl) (by omega) (S_X11_changed (n := J 351 5) (by rw [sR_ne (by omega), hs.2 8 (by omega), sR_ne (by omega), up2_app, if_pos ⟨rfl, rfl⟩]) (by rw [sR_ne (by omega), hs.2 5 (by omega), sR_ne (by omega), up2_app, if_neg (by omega)]) hn8) (fun J9 q9 => ?_)
    obtain ⟨P, rfl, hP⟩ := q9
    refine J_iret rfl dX11_repair_12 ?_
    exact ⟨_, rfl, Or.inl ⟨qa, rfl, MCh_of hA hs rfl hP⟩⟩
  · subst qb
    subst qc
    refine J_callVi (As := [_]) 12 _ rfl kalX11_changed lkX11_134 dX11_repair_9 (lt_X11) (so_X11) rfl rfl rfl (by exact Nat.le_of_ble_eq_true rfl) (by omega) (S_X11_changedX (by rw [sR_ne (by omega), up2_app, if_pos ⟨rfl, rfl⟩]; (first | omega | (revert qa; unfold fRep; (repeat' split) <;> omega))) (by rw [sR_ne (by omega), up2_app, if_pos ⟨rfl, rfl⟩]; (first | omega | (unfold fRep; (repeat' split) <;> omega)))) ?_
    refine J_iret rfl dX11_repair_12 ?_
    exact ⟨_, rfl, Or.inr ⟨qa, rfl, MNo_of hs rfl⟩⟩

theorem S_X11_pass {g : Gn} {J : DJ} {B : Nat} (hw : WF (J 352) B) (hB9 : B < 500000000) (hn8 : J 351 5 ≤ 8) {t : Nat} (h_t : t < 4294967296) : SJ g mX11_pass 6 0 0 [.ref (g.2 351), .int (nI (t))] J (MP J (fPass t) (1) (psK (J 352) t) (psN (J 352) t)) NoX := by
  refine SJ_of_VJ (by decide +kernel) (Nat.le_of_ble_eq_true rfl) ?_
  show VJ g mX11_pass 6 0 0 _ _ 0 [(0, .ref (g.2 351)), (1, .int (nI (t)))] [] J
  refine J_aload_n 1 rfl dX11_pass_0 rfl ?_
  refine J_callVvp (As := []) 4 _ rfl kalX11_starts lkX11_128 dX11_pass_1 (lt_X11) (so_X11) rfl rfl rfl (by exact Nat.le_of_ble_eq_true rfl) (by omega) (S_X11_starts) (fun J1 q1 => ?_)
  obtain ⟨A, rfl, hA⟩ := q1
  rw [st_in]
  refine J_aload_n 5 rfl dX11_pass_4 rfl ?_
  refine J_aload_n 6 rfl dX11_pass_5 rfl ?_
  refine J_iload_n 7 rfl dX11_pass_6 rfl ?_
  refine J_callVie (As := [_]) 10 _ rfl kalX11_passIt lkX11_192 dX11_pass_7 (lt_X11) (so_X11) rfl rfl rfl (by exact Nat.le_of_ble_eq_true rfl) (by omega) (SJ.mo (S_X11_passIt hw (by omega) h_t)) (fun r7 J7 q7 => ?_)
  obtain ⟨J1, hs, hq⟩ := q7
  rcases hq with ⟨qa, qb, qc⟩ | ⟨qa, qb, qc⟩
  · subst qb
    subst qc
    refine J_callVip (As := [_]) 13 _ rfl kalX11_changed lkX11_134 dX11_pass_10 (lt_X11) (so_X11) rfl rfl rfl (by exact Nat.le_of_ble_eq_true rfl) (by omega) (S_X11_changed (n := J 351 5) (by rw [sR_ne (by omega), hs.2 8 (by omega), sR_ne (by omega), up2_app, if_pos ⟨rfl, rfl⟩]) (by rw [sR_ne (by omega), hs.2 5 (by omega), sR_ne (by omega), up2_app, if_neg (by omega)]) hn8) (fun J10 q10 => ?_)
    obtain ⟨P, rfl, hP⟩ := q10
    refine J_iret rfl dX11_pass_13 ?_
    exact ⟨_, rfl, Or.inl ⟨qa, rfl, MCh_of hA hs rfl hP⟩⟩
  · subst qb
    subst qc
    refine J_callVi (As := [_]) 13 _ rfl kalX11_changed lkX11_134 dX11_pass_10 (lt_X11) (so_X11) rfl rfl rfl (by exact Nat.le_of_ble_eq_true rfl) (by omega) (S_X11_changedX (by rw [sR_ne (by omega), up2_app, if_pos ⟨rfl, rfl⟩]; (first | omega | (revert qa; unfold fPass; (repeat' split) <;> omega))) (by rw [sR_ne (by omega), up2_app, if_pos ⟨rfl, rfl⟩]; (first | omega | (unfold fPass; (repeat' split) <;> omega)))) ?_
    refine J_iret rfl dX11_pass_13 ?_
    exact ⟨_, rfl, Or.inr ⟨qa, rfl, MNo_of hs rfl⟩⟩

theorem S_X11_removeRepair {g : Gn} {J : DJ} {B : Nat} (hw : WF (J 352) B) (hB9 : B < 500000000) (hn8 : J 351 5 ≤ 8) {p : Nat} (h_p : p < 4294967296) : SJ g mX11_removeRepair 6 0 0 [.ref (g.2 351), .int (nI (p))] J (MP J (qRm (J 352) p) 1 ((J 352) 4 - 1) (mDrop (J 352) p)) NoX := by
  have h4 := hw.2.2.2.2.1.1
  refine SJ_of_VJ (by decide +kernel) (Nat.le_of_ble_eq_true rfl) ?_
  show VJ g mX11_removeRepair 6 0 0 _ _ 0 [(0, .ref (g.2 351)), (1, .int (nI (p)))] [] J
  refine J_aload_n 1 rfl dX11_removeRepair_0 rfl ?_
  refine J_callVvp (As := []) 4 _ rfl kalX11_starts lkX11_128 dX11_removeRepair_1 (lt_X11) (so_X11) rfl rfl rfl (by exact Nat.le_of_ble_eq_true rfl) (by omega) (S_X11_starts) (fun J1 q1 => ?_)
  obtain ⟨A, rfl, hA⟩ := q1
  rw [st_in]
  refine J_iload_n 5 rfl dX11_removeRepair_4 rfl ?_
  refine J_i2l 6 _ rfl dX11_removeRepair_5 rfl ?_
  refine J_lconst 7 _ rfl dX11_removeRepair_6 rfl ?_
  refine J_aload_n 8 rfl dX11_removeRepair_7 rfl ?_
  refine g_X11_m 11 rfl dX11_removeRepair_8 lkX11_9 ?_
  refine J_iconst 12 4 rfl dX11_removeRepair_11 ic_4 ?_
  refine J_mald 13 rfl dX11_removeRepair_12 (by omega) ?_
  refine J_iconst 14 1 rfl dX11_removeRepair_13 ic_1 ?_
  refine J_isubR 15 rfl dX11_removeRepair_14 ?_
  refine J_i2l 16 _ rfl dX11_removeRepair_15 rfl ?_
  refine J_callSi (As := [_, _, _]) 19 rfl kalX11_in lkX11_63 dX11_removeRepair_16 rfl rfl (by exact Nat.le_of_ble_eq_true rfl) (by omega) (S_in_lt (by decide) h_p (by omega)) ?_
  refine J_ifb_ne (hdp := _) 28 22 (by decide) rfl dX11_removeRepair_19 (fun c19 => ?_) (fun c19 => ?_)
  · refine J_aload_n 29 rfl dX11_removeRepair_28 rfl ?_
    refine J_iload_n 30 rfl dX11_removeRepair_29 rfl ?_
    refine J_callVv (As := [_]) 33 _ rfl kalX11_dropsRepair lkX11_180 dX11_removeRepair_30 (lt_X11) (so_X11) rfl rfl rfl (by exact Nat.le_of_ble_eq_true rfl) (by omega) (S_X11_dropsRepair (by omega) (by omega)) ?_
    refine J_aload_n 34 rfl dX11_removeRepair_33 rfl ?_
    refine J_aload_n 35 rfl dX11_removeRepair_34 rfl ?_
    refine g_X11_m 38 rfl dX11_removeRepair_35 lkX11_9 ?_
    refine J_iconst 39 4 rfl dX11_removeRepair_38 ic_4 ?_
    refine J_mald 40 rfl dX11_removeRepair_39 (by omega) ?_
    refine J_callVip (As := [_]) 43 _ rfl kalX11_changed lkX11_134 dX11_removeRepair_40 (lt_X11) (so_X11) rfl rfl rfl (by exact Nat.le_of_ble_eq_true rfl) (by omega) (S_X11_changed (n := J 351 5) (by rw [sR_ne (by omega), sR_ne (by omega), up2_app, if_pos ⟨rfl, rfl⟩]) (by rw [sR_ne (by omega), sR_ne (by omega), up2_app, if_neg (by omega)]) hn8) (fun J40 q40 => ?_)
    obtain ⟨P, rfl, hP⟩ := q40
    refine J_iret rfl dX11_removeRepair_43 ?_
    exact ⟨_, rfl, Or.inl ⟨by unfold qRm; rw [if_pos (by omega)], by unfold mDrop; rw [up1_self], MCh_of hA Sm.refl rfl hP⟩⟩
  · refine J_aload_n 23 rfl dX11_removeRepair_22 rfl ?_
    refine J_iconst 24 1 rfl dX11_removeRepair_23 ic_1 ?_
    refine J_callVi (As := [_]) 27 _ rfl kalX11_throwing lkX11_125 dX11_removeRepair_24 (lt_X11) (so_X11) rfl rfl rfl (by exact Nat.le_of_ble_eq_true rfl) (by omega) (S_X11_throwing) ?_
    refine J_iret rfl dX11_removeRepair_27 ?_
    exact ⟨_, rfl, Or.inr ⟨by unfold qRm; rw [if_neg (by omega)]; omega, rfl, MNo_of Sm.refl (by rw [up2_out (by omega)])⟩⟩

