/-! THE MODEL: vigils, line, means (laid by wip/whole/src/p67.py) -/
theorem MNo_TK {J : DJ} {f T K : Nat → Nat} {p : Nat} (hp : (sR (sR (sR (up2 J 351 8 0) 358 T) 359 K) 352 f) 351 8 = p) : MNo (sR J 352 f) (sR (sR (sR (up2 J 351 8 0) 358 T) 359 K) 352 f) p := by
  have e : sR (sR (sR (up2 J 351 8 0) 358 T) 359 K) 352 f = sR (sR (up2 (sR J 352 f) 351 8 0) 358 T) 359 K := by
    rw [up2_out (by omega), sR_comm (k := 352) (c := 358) (by omega), sR_comm (k := 352) (c := 359) (by omega)]
  rw [e] at hp ⊢
  have z := ((MNo.rf (J := sR J 352 f)).th (q := 0)).sc (c := 358) (r := T) (Or.inr ⟨by omega, by omega⟩)
  have z2 := z.sc (c := 359) (r := K) (Or.inr ⟨by omega, by omega⟩)
  rw [sR_ne (by omega), sR_ne (by omega), up2_app, if_pos ⟨rfl, rfl⟩] at hp
  rw [← hp]; exact z2
theorem MNo_TK0 {J : DJ} {f T K : Nat → Nat} : MNo (sR J 352 f) (sR (sR (sR (up2 J 351 8 0) 358 T) 359 K) 352 f) 0 := MNo_TK (by rw [sR_ne (by omega), sR_ne (by omega), sR_ne (by omega), up2_app, if_pos ⟨rfl, rfl⟩])
theorem MNo_TK2 {J : DJ} {f T K : Nat → Nat} {q : Nat} : MNo (sR J 352 f) (sR (up2 (sR (sR (up2 J 351 8 0) 358 T) 359 K) 351 8 q) 352 f) q := by
  rw [← up2_out (by omega)]
  exact MNo_TK0.th
theorem S_X11_mostVigils {g : Gn} {J : DJ} {f : Nat → Nat} {B : Nat} (hw : WF f B) (hB9 : B < 600000000) : SJ g mX11_mostVigils 4 0 0 [.ref (g.2 351)] (sR J 352 f) (MoQ (sR J 352 f) (0) (0) (rW (fvig f) 8 0)) NoX := by
  have h0 := hw.1
  have h2 := hw.2.1
  have h3 := hw.2.2.1
  have hO := hw.2.2.2.2.2.1
  have h4 := hw.2.2.2.2.1.1
  have hB := hw.2.2.2.2.2.2.2.2.1
  refine SJ_of_VJ (by decide +kernel) (Nat.le_of_ble_eq_true rfl) ?_
  show VJ g mX11_mostVigils 4 0 0 _ _ 0 [(0, .ref (g.2 351))] [] (sR J 352 f)
  refine J_aload_n 1 rfl dX11_mostVigils_0 rfl ?_
  refine J_iconst 2 0 rfl dX11_mostVigils_1 ic_0 ?_
  refine p_X11_thrown 5 rfl dX11_mostVigils_2 lkX11_57 ?_
  rw [up2_out (by omega)]
  refine J_aload_n 6 rfl dX11_mostVigils_5 rfl ?_
  refine J_callVip (As := []) 9 _ rfl kalX11_rotas lkX11_240 dX11_mostVigils_6 (lt_X11) (so_X11) rfl rfl rfl (by exact Nat.le_of_ble_eq_true rfl) (by omega) (S_X11_rotas hw) (fun J6 q6 => ?_)
  obtain ⟨T, K, rfl, hK⟩ := q6
  refine J_iret rfl dX11_mostVigils_9 ?_
  exact ⟨_, rfl, Or.inl ⟨rfl, rfl, MNo_TK0⟩⟩

theorem S_X11_mostVigilsByTable {g : Gn} {J : DJ} {f : Nat → Nat} {B : Nat} (hw : WF f B) (hB9 : B < 600000000) : SJ g mX11_mostVigilsByTable 5 0 0 [.ref (g.2 351)] (sR J 352 f) (MoQ (sR J 352 f) (0) (0) (rW (fvig f) 8 0)) NoX := by
  have h0 := hw.1
  have h2 := hw.2.1
  have h3 := hw.2.2.1
  have hO := hw.2.2.2.2.2.1
  have h4 := hw.2.2.2.2.1.1
  have hB := hw.2.2.2.2.2.2.2.2.1
  refine SJ_of_VJ (by decide +kernel) (Nat.le_of_ble_eq_true rfl) ?_
  show VJ g mX11_mostVigilsByTable 5 0 0 _ _ 0 [(0, .ref (g.2 351))] [] (sR J 352 f)
  refine J_aload_n 1 rfl dX11_mostVigilsByTable_0 rfl ?_
  refine J_callVie (As := []) 4 _ rfl kalX11_mostVigils lkX11_243 dX11_mostVigilsByTable_1 (lt_X11) (so_X11) rfl rfl rfl (by exact Nat.le_of_ble_eq_true rfl) (by omega) (S_X11_mostVigils hw hB9) (fun r1 J1 q1 => ?_)
  refine J_iret rfl dX11_mostVigilsByTable_4 ?_
  exact ⟨_, rfl, q1⟩

theorem S_X11_keeperOf {g : Gn} {J : DJ} {f : Nat → Nat} {B : Nat} (hw : WF f B) (hB9 : B < 600000000) {v : Nat} (h_v : v < 4294967296) : SJ g mX11_keeperOf 4 0 0 [.ref (g.2 351), .int (nI (v))] (sR J 352 f) (MoQ (sR J 352 f) (qKe f v) (if qKe f v = 1 then 1 else 2) (kp (fvig f) v)) NoX := by
  have h0 := hw.1
  have h2 := hw.2.1
  have h3 := hw.2.2.1
  have hO := hw.2.2.2.2.2.1
  have h4 := hw.2.2.2.2.1.1
  have hB := hw.2.2.2.2.2.2.2.2.1
  refine SJ_of_VJ (by decide +kernel) (Nat.le_of_ble_eq_true rfl) ?_
  show VJ g mX11_keeperOf 4 0 0 _ _ 0 [(0, .ref (g.2 351)), (1, .int (nI (v)))] [] (sR J 352 f)
  refine J_aload_n 1 rfl dX11_keeperOf_0 rfl ?_
  refine J_iconst 2 0 rfl dX11_keeperOf_1 ic_0 ?_
  refine p_X11_thrown 5 rfl dX11_keeperOf_2 lkX11_57 ?_
  rw [up2_out (by omega)]
  refine J_iload_n 6 rfl dX11_keeperOf_5 rfl ?_
  refine J_i2l 7 _ rfl dX11_keeperOf_6 rfl ?_
  refine J_lconst 8 _ rfl dX11_keeperOf_7 rfl ?_
  refine J_ldc2 11 rfl dX11_keeperOf_8 lkX11_171 ?_
  refine J_callSi (As := [_, _, _]) 14 rfl kalX11_in lkX11_63 dX11_keeperOf_11 rfl rfl (by exact Nat.le_of_ble_eq_true rfl) (by omega) (S_in_le 0 7 (by decide) (by decide) h_v (by omega) (by omega)) ?_
  refine J_ifb_ne (hdp := _) 23 17 (by decide) rfl dX11_keeperOf_14 (fun c14 => ?_) (fun c14 => ?_)
  · refine J_aload_n 24 rfl dX11_keeperOf_23 rfl ?_
    refine J_callVip (As := []) 27 _ rfl kalX11_rotas lkX11_240 dX11_keeperOf_24 (lt_X11) (so_X11) rfl rfl rfl (by exact Nat.le_of_ble_eq_true rfl) (by omega) (S_X11_rotas hw) (fun J24 q24 => ?_)
    obtain ⟨T, K, rfl, hK⟩ := q24
    have kl := kp_lt (fvig f) v
    refine J_pop 28 rfl dX11_keeperOf_27 rfl ?_
    refine J_aload_n 29 rfl dX11_keeperOf_28 rfl ?_
    refine g_X11_keepers 32 rfl dX11_keeperOf_29 lkX11_38 ?_
    refine J_iload_n 33 rfl dX11_keeperOf_32 rfl ?_
    refine J_iald 34 rfl dX11_keeperOf_33 (sa_X11_keepers) (by omega) ?_
    refine J_cv (b := kp (fvig f) v) (by rw [sR_ne (by omega), sR_at]; exact hK v (by omega)) ?_
    refine J_iconst 35 4294967295 rfl dX11_keeperOf_34 ic_m1 ?_
    refine J_icmp_ne 46 38 (by decide) rfl dX11_keeperOf_35 (by omega) (by omega) (fun c35 => ?_) (fun c35 => ?_)
    · refine J_aload_n 47 rfl dX11_keeperOf_46 rfl ?_
      refine g_X11_keepers 50 rfl dX11_keeperOf_47 lkX11_38 ?_
      refine J_iload_n 51 rfl dX11_keeperOf_50 rfl ?_
      refine J_iald 52 rfl dX11_keeperOf_51 (sa_X11_keepers) (by omega) ?_
      refine J_cv (b := kp (fvig f) v) (by rw [sR_ne (by omega), sR_at]; exact hK v (by omega)) ?_
      refine J_iret rfl dX11_keeperOf_52 ?_
      first
        | (exact ⟨_, rfl, Or.inl ⟨by unfold qKe; rw [if_pos (by omega), if_neg (by omega)], rfl, MNo_TK0⟩⟩)
        | (refine ⟨_, rfl, Or.inr ⟨by unfold qKe; rw [if_pos (by omega), if_pos (by omega)]; omega, rfl, ?_⟩⟩
           rw [up2_out (by omega)]
           refine MNo.eq (MNo_TK2 (q := 2)) rfl ?_
           unfold qKe
           rw [if_pos (show v < 8 by omega), if_pos (show kp (fvig f) v = 4294967295 by omega)]
           rfl)
    · refine J_aload_n 39 rfl dX11_keeperOf_38 rfl ?_
      refine J_iconst 40 2 rfl dX11_keeperOf_39 ic_2 ?_
      refine J_callVi (As := [_]) 43 _ rfl kalX11_throwing lkX11_125 dX11_keeperOf_40 (lt_X11) (so_X11) rfl rfl rfl (by exact Nat.le_of_ble_eq_true rfl) (by omega) (S_X11_throwing) ?_
      refine J_goto 52 (by decide) dX11_keeperOf_43 ?_
      refine J_iret rfl dX11_keeperOf_52 ?_
      first
        | (exact ⟨_, rfl, Or.inl ⟨by unfold qKe; rw [if_pos (by omega), if_neg (by omega)], rfl, MNo_TK0⟩⟩)
        | (refine ⟨_, rfl, Or.inr ⟨by unfold qKe; rw [if_pos (by omega), if_pos (by omega)]; omega, rfl, ?_⟩⟩
           rw [up2_out (by omega)]
           refine MNo.eq (MNo_TK2 (q := 2)) rfl ?_
           unfold qKe
           rw [if_pos (show v < 8 by omega), if_pos (show kp (fvig f) v = 4294967295 by omega)]
           rfl)
  · refine J_aload_n 18 rfl dX11_keeperOf_17 rfl ?_
    refine J_iconst 19 1 rfl dX11_keeperOf_18 ic_1 ?_
    refine J_callVi (As := [_]) 22 _ rfl kalX11_throwing lkX11_125 dX11_keeperOf_19 (lt_X11) (so_X11) rfl rfl rfl (by exact Nat.le_of_ble_eq_true rfl) (by omega) (S_X11_throwing) ?_
    refine J_iret rfl dX11_keeperOf_22 ?_
    refine ⟨_, rfl, Or.inr ⟨by unfold qKe; rw [if_neg (by omega)]; omega, rfl, ?_⟩⟩
    rw [up2_out (by omega)]
    exact MNo_2 (by unfold qKe; rw [if_neg (show ¬ v < 8 by omega)]; rfl)

def LnM (J : DJ) (l : List Nat) : Prop := J 351 24 = l.length ∧ ∀ i, i < l.length → J 364 i = l.getD i 0
/-- what writing a line changes in the model -/
def MWr (J J2 : DJ) (l : List Nat) : Prop := LnM J2 l ∧ (∀ c, c < 351 ∨ (351 < c ∧ c < 357) ∨ (360 < c ∧ c ≠ 364) → J2 c = J c) ∧ (∀ j, j ≠ 8 → j ≠ 12 → j ≠ 24 → J2 351 j = J 351 j) ∧ J2 351 8 = 0
theorem LnM.nil {J : DJ} {f : Nat → Nat} : LnM (sR (up2 J 351 24 0) 352 f) [] := ⟨by rw [sR_ne (by omega), up2_app, if_pos ⟨rfl, rfl⟩]; rfl, fun i hi => absurd hi (Nat.not_lt_zero _)⟩
theorem LnM.snoc {J : DJ} {l : List Nat} {c : Nat} (h : LnM J l) : LnM (up2 (up2 J 364 l.length c) 351 24 (l.length + 1)) (l ++ [c]) := by
  refine ⟨by rw [up2_app, if_pos ⟨rfl, rfl⟩, List.length_append]; rfl, fun i hi => ?_⟩
  rw [List.length_append] at hi
  simp only [List.length_cons, List.length_nil] at hi
  rw [up2_app, if_neg (by omega), up2_app]
  by_cases e : i = l.length
  · rw [if_pos ⟨rfl, e⟩, e, getD_end]
  · rw [if_neg (fun z => e z.2), h.2 i (by omega), getD_app (by omega)]
/-- what a sign changes -/
def Sg (J J2 : DJ) : Prop := (∀ c, c ≠ 351 → c ≠ 364 → J2 c = J c) ∧ ∀ j, j ≠ 24 → J2 351 j = J 351 j
theorem Sg.refl {J : DJ} : Sg J J := ⟨fun _ _ _ => rfl, fun _ _ => rfl⟩
theorem Sg.trans {J J1 J2 : DJ} (h : Sg J J1) (h2 : Sg J1 J2) : Sg J J2 := ⟨fun c a b => (h2.1 c a b).trans (h.1 c a b), fun j a => (h2.2 j a).trans (h.2 j a)⟩
theorem Sg.in {J J2 : DJ} {f : Nat → Nat} (h : Sg (sR J 352 f) J2) : J2 = sR J2 352 f := by
  have e : J2 352 = f := by rw [h.1 352 (by omega) (by omega), sR_at]
  rw [← e, sR_id]
theorem MWr_of {J J1 J2 : DJ} {l : List Nat} (hl : LnM J2 l) (hs : Sg J1 J2) (h1 : ∀ c, c < 351 ∨ (351 < c ∧ c < 357) ∨ (360 < c ∧ c ≠ 364) → J1 c = J c) (h2 : ∀ j, j ≠ 8 → j ≠ 12 → j ≠ 24 → J1 351 j = J 351 j) (h3 : J1 351 8 = 0) : MWr J J2 l := ⟨hl, fun c hc => by rw [hs.1 c (by omega) (by omega)]; exact h1 c hc, fun j a b c => by rw [hs.2 j c]; exact h2 j a b c, by rw [hs.2 8 (by omega)]; exact h3⟩
theorem S_X11_sign {g : Gn} {J : DJ} {l : List Nat} {c : Nat} (h : LnM J l) (hl : l.length < 40) : SJ g mX11_sign 0 0 0 [.ref (g.2 351), .int (nI (c))] J (Rq (fun J2 => LnM J2 (l ++ [c]) ∧ Sg J J2)) NoX := by
  have h1 := h.1
  refine SJ_of_VJ (by decide +kernel) (Nat.le_of_ble_eq_true rfl) ?_
  show VJ g mX11_sign 0 0 0 _ _ 0 [(0, .ref (g.2 351)), (1, .int (nI (c)))] [] J
  refine J_aload_n 1 rfl dX11_sign_0 rfl ?_
  refine g_X11_line 4 rfl dX11_sign_1 lkX11_54 ?_
  refine J_aload_n 5 rfl dX11_sign_4 rfl ?_
  refine g_X11_lineMany 8 rfl dX11_sign_5 lkX11_304 ?_
  refine J_cv (b := l.length) h1 ?_
  refine J_iload_n 9 rfl dX11_sign_8 rfl ?_
  refine J_iast 10 rfl dX11_sign_9 (sa_X11_line) (by omega) ?_
  refine J_aload_n 11 rfl dX11_sign_10 rfl ?_
  refine J_dup 12 rfl dX11_sign_11 rfl ?_
  refine g_X11_lineMany 15 rfl dX11_sign_12 lkX11_304 ?_
  refine J_cv (b := l.length) (by rw [up2_ne (by omega)]; exact h1) ?_
  refine J_iconst 16 1 rfl dX11_sign_15 ic_1 ?_
  refine J_iadd 17 rfl dX11_sign_16 ?_
  refine p_X11_lineMany 20 rfl dX11_sign_17 lkX11_304 ?_
  refine J_vret rfl dX11_sign_20 ?_
  exact ⟨rfl, h.snoc, fun c2 a b => by rw [up2_ne a, up2_ne b], fun j a => by rw [up2_app, if_neg (fun z => a z.2), up2_ne (by omega)]⟩

theorem S_X11_describeEngine {g : Gn} {J : DJ} {f : Nat → Nat} {B e : Nat} (hw : WF f B) (hB9 : B < 600000000) (h_e : e < 4294967296) : SJ g mX11_describeEngine 3 0 0 [.ref (g.2 351), .int (nI (e))] (sR J 352 f) (Re (fun r J2 => (qE f e = 0 ∧ r = (lnE2 f e).length ∧ MWr (sR J 352 f) J2 (lnE2 f e)) ∨ (qE f e ≠ 0 ∧ r = 4294967295 ∧ MNo (sR J 352 f) J2 1))) NoX := by
  have h0 := hw.1
  have h2 := hw.2.1
  have h3 := hw.2.2.1
  have hO := hw.2.2.2.2.2.1
  have h4 := hw.2.2.2.2.1.1
  have hB := hw.2.2.2.2.2.2.2.2.1
  refine SJ_of_VJ (by decide +kernel) (Nat.le_of_ble_eq_true rfl) ?_
  show VJ g mX11_describeEngine 3 0 0 _ _ 0 [(0, .ref (g.2 351)), (1, .int (nI (e)))] [] (sR J 352 f)
  have main : e < f 0 → ∀ (n9 : Nat) (k : Nat) (J1 : DJ), (f (7 + 52 * e)) - k = n9 → k ≤ (f (7 + 52 * e)) → LnM J1 ([48 + e] ++ ([58] ++ lnN f (7 + 52 * e) k)) → Sg (sR (up2 (up2 J 351 8 0) 351 24 0) 352 f) J1 → VJ g mX11_describeEngine 3 0 0 (Re (fun r J2 => (qE f e = 0 ∧ r = (lnE2 f e).length ∧ MWr (sR J 352 f) J2 (lnE2 f e)) ∨ (qE f e ≠ 0 ∧ r = 4294967295 ∧ MNo (sR J 352 f) J2 1))) NoX 45 [(0, .ref (g.2 351)), (1, .int (nI e)), (2, .int (nI (7 + 52 * e))), (3, .int (nI k))] [] J1 := by
    intro hef n9
    have oe := hO e hef
    have o1 := oe.1
    have o2 := oe.2.1
    have o3 := oe.2.2.1
    have lenB : ∀ k, k ≤ (f (7 + 52 * e)) → ([48 + e] ++ ([58] ++ lnN f (7 + 52 * e) k)).length ≤ 19 := fun k hk => by
      have := lnN_len f (7 + 52 * e) k
      simp only [List.length_append, List.length_cons, List.length_nil]
      split at this <;> omega
    induction n9 using Nat.strongRecOn with
    | ind n9 ih =>
      intro k J1 hi hk hL hS
      have ok : k < (f (7 + 52 * e)) → f (7 + 52 * e + 4 + k) < (f (7 + 52 * e)) := fun h => oe.2.2.2.2.2.1 k h
      have lb : k < (f (7 + 52 * e)) → ([48 + e] ++ ([58] ++ lnN f (7 + 52 * e) k) ++ lnP f (7 + 52 * e) k).length ≤ 19 := fun h => by
        have z := lenB (k + 1) (by omega)
        simp only [lnN] at z
        rw [List.append_assoc, List.append_assoc]
        exact z
      have nxt : k < (f (7 + 52 * e)) → ∀ (J2 : DJ), LnM J2 ([48 + e] ++ ([58] ++ lnN f (7 + 52 * e) k) ++ lnP f (7 + 52 * e) k) → Sg (sR (up2 (up2 J 351 8 0) 351 24 0) 352 f) J2 → VJ g mX11_describeEngine 3 0 0 (Re (fun r J2 => (qE f e = 0 ∧ r = (lnE2 f e).length ∧ MWr (sR J 352 f) J2 (lnE2 f e)) ∨ (qE f e ≠ 0 ∧ r = 4294967295 ∧ MNo (sR J 352 f) J2 1))) NoX 110 [(0, .ref (g.2 351)), (1, .int (nI e)), (2, .int (nI (7 + 52 * e))), (3, .int (nI k))] [] J2 := by
        intro hkn J2 hL2 hS2
        have z := ih _ (by omega) (k + 1) J2 rfl (by omega) (by
          simp only [lnN]
          rw [List.append_assoc, List.append_assoc] at hL2
          exact hL2) hS2
        refine J_iinc 113 1 rfl dX11_describeEngine_110 ic_1 rfl (Nat.le_of_ble_eq_true rfl) ?_
        refine J_goto 45 (by decide) dX11_describeEngine_113 ?_
        exact z
      have tl : k < (f (7 + 52 * e)) → ∀ (J2 : DJ) (l1 : List Nat), LnM J2 l1 → Sg (sR (up2 (up2 J 351 8 0) 351 24 0) 352 f) J2 → (l1 ++ ([48 + f (7 + 52 * e + 4 + k)] ++ (if f (7 + 52 * e + 12 + f (7 + 52 * e + 4 + k)) = 0 then [33] else []))) = [48 + e] ++ ([58] ++ lnN f (7 + 52 * e) k) ++ lnP f (7 + 52 * e) k → VJ g mX11_describeEngine 3 0 0 (Re (fun r J2 => (qE f e = 0 ∧ r = (lnE2 f e).length ∧ MWr (sR J 352 f) J2 (lnE2 f e)) ∨ (qE f e ≠ 0 ∧ r = 4294967295 ∧ MNo (sR J 352 f) J2 1))) NoX 72 [(0, .ref (g.2 351)), (1, .int (nI e)), (2, .int (nI (7 + 52 * e))), (3, .int (nI k))] [] J2 := by
        intro hkn J2 l1 hL2 hS2 hq
        have ln := lb hkn
        rw [← hq] at ln
        have wb := hB (7 + 52 * e + 12 + f (7 + 52 * e + 4 + k)) (by have := ok hkn; omega)
        rw [Sg.in hS2]
        have hL3 := hL2
        rw [Sg.in hS2] at hL3
        refine J_aload_n 73 rfl dX11_describeEngine_72 rfl ?_
        refine J_bipush 75 48 rfl dX11_describeEngine_73 bc_48 ?_
        refine J_aload_n 76 rfl dX11_describeEngine_75 rfl ?_
        refine J_iload_n 77 rfl dX11_describeEngine_76 rfl ?_
        refine J_iload_n 78 rfl dX11_describeEngine_77 rfl ?_
        refine J_callVi (As := [_, _]) 81 _ rfl kalX11_order lkX11_81 dX11_describeEngine_78 (lt_X11) (so_X11) rfl rfl rfl (by exact Nat.le_of_ble_eq_true rfl) (by omega) (S_X11_order (by omega) (by omega)) ?_
        refine J_iadd 82 rfl dX11_describeEngine_81 ?_
        refine J_callVvp (As := [_]) 85 _ rfl kalX11_sign lkX11_307 dX11_describeEngine_82 (lt_X11) (so_X11) rfl rfl rfl (by exact Nat.le_of_ble_eq_true rfl) (by omega) (S_X11_sign hL3 (by simp only [List.length_append, List.length_cons] at ln; omega)) (fun J82 q82 => ?_)
        have s82 : Sg (sR (up2 (up2 J 351 8 0) 351 24 0) 352 f) J82 := hS2.trans (by have z := q82.2; rw [← Sg.in hS2] at z; exact z)
        have l82 := q82.1
        rw [Sg.in s82]
        rw [Sg.in s82] at l82
        refine J_aload_n 86 rfl dX11_describeEngine_85 rfl ?_
        refine g_X11_m 89 rfl dX11_describeEngine_86 lkX11_9 ?_
        refine J_iload_n 90 rfl dX11_describeEngine_89 rfl ?_
        refine J_bipush 92 12 rfl dX11_describeEngine_90 bc_12 ?_
        refine J_iadd 93 rfl dX11_describeEngine_92 ?_
        refine J_aload_n 94 rfl dX11_describeEngine_93 rfl ?_
        refine J_iload_n 95 rfl dX11_describeEngine_94 rfl ?_
        refine J_iload_n 96 rfl dX11_describeEngine_95 rfl ?_
        refine J_callVi (As := [_, _]) 99 _ rfl kalX11_order lkX11_81 dX11_describeEngine_96 (lt_X11) (so_X11) rfl rfl rfl (by exact Nat.le_of_ble_eq_true rfl) (by omega) (S_X11_order (by omega) (by omega)) ?_
        refine J_iadd 100 rfl dX11_describeEngine_99 ?_
        refine J_mald 101 rfl dX11_describeEngine_100 (by have := ok hkn; omega) ?_
        refine J_if_ne 110 104 (by decide) rfl dX11_describeEngine_101 (by omega) (fun c101 => ?_) (fun c101 => ?_)
        · first
            | (refine nxt hkn J107 ?_ s107
               rw [← hq, if_pos (by omega), ← List.append_assoc]
               exact q107.1)
            | (rw [← Sg.in s82]
               refine nxt hkn J82 ?_ s82
               rw [← hq, if_neg (by omega), List.append_nil]
               exact q82.1)
        · refine J_aload_n 105 rfl dX11_describeEngine_104 rfl ?_
          refine J_bipush 107 33 rfl dX11_describeEngine_105 bc_33 ?_
          refine J_callVvp (As := [_]) 110 _ rfl kalX11_sign lkX11_307 dX11_describeEngine_107 (lt_X11) (so_X11) rfl rfl rfl (by exact Nat.le_of_ble_eq_true rfl) (by omega) (S_X11_sign l82 (by rw [if_pos (by omega)] at ln; simp only [List.length_append, List.length_cons, List.length_nil] at ln ⊢; omega)) (fun J107 q107 => ?_)
          have s107 : Sg (sR (up2 (up2 J 351 8 0) 351 24 0) 352 f) J107 := s82.trans (by have z := q107.2; rw [← Sg.in s82] at z; exact z)
          first
            | (refine nxt hkn J107 ?_ s107
               rw [← hq, if_pos (by omega), ← List.append_assoc]
               exact q107.1)
            | (rw [← Sg.in s82]
               refine nxt hkn J82 ?_ s82
               rw [← hq, if_neg (by omega), List.append_nil]
               exact q82.1)
      rw [Sg.in hS]
      have hL0 := hL
      rw [Sg.in hS] at hL0
      refine J_iload_n 46 rfl dX11_describeEngine_45 rfl ?_
      refine J_aload_n 47 rfl dX11_describeEngine_46 rfl ?_
      refine J_iload_n 48 rfl dX11_describeEngine_47 rfl ?_
      refine J_callVi (As := [_]) 51 _ rfl kalX11_many lkX11_75 dX11_describeEngine_48 (lt_X11) (so_X11) rfl rfl rfl (by exact Nat.le_of_ble_eq_true rfl) (by omega) (S_X11_many (by omega)) ?_
      refine J_icmp_ge 116 54 (by decide) rfl dX11_describeEngine_51 (by omega) (by omega) (fun c51 => ?_) (fun c51 => ?_)
      · refine J_aload_n 117 rfl dX11_describeEngine_116 rfl ?_
        refine g_X11_lineMany 120 rfl dX11_describeEngine_117 lkX11_304 ?_
        refine J_cv (b := (lnE2 f e).length) (by rw [← Sg.in hS, hL.1, show k = (f (7 + 52 * e)) by omega]; rfl) ?_
        refine J_iret rfl dX11_describeEngine_120 ?_
        rw [← Sg.in hS]
        refine ⟨_, rfl, Or.inl ⟨by unfold qE; rw [if_pos hef], rfl, MWr_of (J1 := (sR (up2 (up2 J 351 8 0) 351 24 0) 352 f)) ?_ hS (fun c hc => ?_) (fun j a b c => ?_) ?_⟩⟩
        · have z := hL
          rw [show k = (f (7 + 52 * e)) by omega] at z
          exact z
        · by_cases y : c = 352
          · rw [y, sR_at, sR_at]
          · rw [sR_ne y, sR_ne y, up2_ne (by omega), up2_ne (by omega)]
        · rw [sR_ne (by omega), sR_ne (by omega), up2_app, if_neg (fun z => c z.2), up2_app, if_neg (fun z => a z.2)]
        · rw [sR_ne (by omega), up2_app, if_neg (by omega), up2_app, if_pos ⟨rfl, rfl⟩]
      · refine J_iload_n 55 rfl dX11_describeEngine_54 rfl ?_
        refine J_aload_n 56 rfl dX11_describeEngine_55 rfl ?_
        refine g_X11_m 59 rfl dX11_describeEngine_56 lkX11_9 ?_
        refine J_iload_n 60 rfl dX11_describeEngine_59 rfl ?_
        refine J_iconst 61 1 rfl dX11_describeEngine_60 ic_1 ?_
        refine J_iadd 62 rfl dX11_describeEngine_61 ?_
        refine J_mald 63 rfl dX11_describeEngine_62 (by omega) ?_
        refine J_icmp_ne 72 66 (by decide) rfl dX11_describeEngine_63 (by omega) (by omega) (fun c63 => ?_) (fun c63 => ?_)
        · first
            | exact tl (by omega) J69 _ q69.1 s69 (by unfold lnP; rw [if_pos (show k = f (7 + 52 * e + 1) by omega)]; simp only [List.append_assoc])
            | (rw [← Sg.in hS]
               exact tl (by omega) J1 _ hL hS (by unfold lnP; rw [if_neg (show ¬ k = f (7 + 52 * e + 1) by omega)]; rfl))
        · refine J_aload_n 67 rfl dX11_describeEngine_66 rfl ?_
          refine J_bipush 69 42 rfl dX11_describeEngine_67 bc_42 ?_
          refine J_callVvp (As := [_]) 72 _ rfl kalX11_sign lkX11_307 dX11_describeEngine_69 (lt_X11) (so_X11) rfl rfl rfl (by exact Nat.le_of_ble_eq_true rfl) (by omega) (S_X11_sign hL0 (by have := lenB k (by omega); omega)) (fun J69 q69 => ?_)
          have s69 : Sg (sR (up2 (up2 J 351 8 0) 351 24 0) 352 f) J69 := hS.trans (by have z := q69.2; rw [← Sg.in hS] at z; exact z)
          first
            | exact tl (by omega) J69 _ q69.1 s69 (by unfold lnP; rw [if_pos (show k = f (7 + 52 * e + 1) by omega)]; simp only [List.append_assoc])
            | (rw [← Sg.in hS]
               exact tl (by omega) J1 _ hL hS (by unfold lnP; rw [if_neg (show ¬ k = f (7 + 52 * e + 1) by omega)]; rfl))
  refine J_aload_n 1 rfl dX11_describeEngine_0 rfl ?_
  refine J_iconst 2 0 rfl dX11_describeEngine_1 ic_0 ?_
  refine p_X11_thrown 5 rfl dX11_describeEngine_2 lkX11_57 ?_
  rw [up2_out (by omega)]
  refine J_aload_n 6 rfl dX11_describeEngine_5 rfl ?_
  refine J_iload_n 7 rfl dX11_describeEngine_6 rfl ?_
  refine J_callVi (As := [_]) 10 _ rfl kalX11_isEngine lkX11_71 dX11_describeEngine_7 (lt_X11) (so_X11) rfl rfl rfl (by exact Nat.le_of_ble_eq_true rfl) (by omega) (S_X11_isEngine (by assumption) h0) ?_
  refine J_ifb_ne (hdp := _) 19 13 (by decide) rfl dX11_describeEngine_10 (fun c10 => ?_) (fun c10 => ?_)
  · refine J_iload_n 20 rfl dX11_describeEngine_19 rfl ?_
    refine J_callSi (As := [_]) 23 rfl kalX11_engineAt lkX11_67 dX11_describeEngine_20 rfl rfl (by exact Nat.le_of_ble_eq_true rfl) (by omega) (S_X11_engineAt) ?_
    refine J_istore_n 24 rfl dX11_describeEngine_23 rfl (Nat.le_of_ble_eq_true rfl) ?_
    refine J_aload_n 25 rfl dX11_describeEngine_24 rfl ?_
    refine J_iconst 26 0 rfl dX11_describeEngine_25 ic_0 ?_
    refine p_X11_lineMany 29 rfl dX11_describeEngine_26 lkX11_304 ?_
    rw [up2_out (by omega)]
    refine J_aload_n 30 rfl dX11_describeEngine_29 rfl ?_
    refine J_bipush 32 48 rfl dX11_describeEngine_30 bc_48 ?_
    refine J_iload_n 33 rfl dX11_describeEngine_32 rfl ?_
    refine J_iadd 34 rfl dX11_describeEngine_33 ?_
    refine J_callVvp (As := [_]) 37 _ rfl kalX11_sign lkX11_307 dX11_describeEngine_34 (lt_X11) (so_X11) rfl rfl rfl (by exact Nat.le_of_ble_eq_true rfl) (by omega) (S_X11_sign LnM.nil (by simp)) (fun J34 q34 => ?_)
    refine J_aload_n 38 rfl dX11_describeEngine_37 rfl ?_
    refine J_bipush 40 58 rfl dX11_describeEngine_38 bc_58 ?_
    refine J_callVvp (As := [_]) 43 _ rfl kalX11_sign lkX11_307 dX11_describeEngine_40 (lt_X11) (so_X11) rfl rfl rfl (by exact Nat.le_of_ble_eq_true rfl) (by omega) (S_X11_sign q34.1 (by simp)) (fun J40 q40 => ?_)
    refine J_iconst 44 0 rfl dX11_describeEngine_43 ic_0 ?_
    refine J_istore_n 45 rfl dX11_describeEngine_44 rfl (Nat.le_of_ble_eq_true rfl) ?_
    exact main (by omega) _ 0 J40 rfl (Nat.zero_le _) (by
      have z := q40.1
      simp only [List.nil_append] at z
      simp only [lnN, List.append_nil]
      exact z) (q34.2.trans q40.2)
  · refine J_aload_n 14 rfl dX11_describeEngine_13 rfl ?_
    refine J_iconst 15 1 rfl dX11_describeEngine_14 ic_1 ?_
    refine J_callVi (As := [_]) 18 _ rfl kalX11_throwing lkX11_125 dX11_describeEngine_15 (lt_X11) (so_X11) rfl rfl rfl (by exact Nat.le_of_ble_eq_true rfl) (by omega) (S_X11_throwing) ?_
    refine J_iret rfl dX11_describeEngine_18 ?_
    refine ⟨_, rfl, Or.inr ⟨by unfold qE; (repeat' split) <;> omega, rfl, ?_⟩⟩
    rw [up2_out (by omega)]
    exact MNo_2 (by first | rfl | (unfold qE; (repeat' split) <;> omega))

theorem S_X11_describeRota {g : Gn} {J : DJ} {f : Nat → Nat} {B : Nat} (hw : WF f B) : SJ g mX11_describeRota 3 0 0 [.ref (g.2 351)] (sR J 352 f) (Rp 8 (fun J2 => MWr (sR J 352 f) J2 (rtN f 8))) NoX := by
  refine SJ_of_VJ (by decide +kernel) (Nat.le_of_ble_eq_true rfl) ?_
  show VJ g mX11_describeRota 3 0 0 _ _ 0 [(0, .ref (g.2 351))] [] (sR J 352 f)
  have main : ∀ (T K : Nat → Nat), (∀ u, u < 8 → K u = kp (fvig f) u) → ∀ (n9 : Nat) (k : Nat) (J1 : DJ), 8 - k = n9 → k ≤ 8 → LnM J1 (rtN f k) → Sg (sR (up2 (sR (sR (up2 J 351 8 0) 358 T) 359 K) 351 24 0) 352 f) J1 → VJ g mX11_describeRota 3 0 0 (Rp 8 (fun J2 => MWr (sR J 352 f) J2 (rtN f 8))) NoX 17 [(0, .ref (g.2 351)), (1, .int (nI k))] [] J1 := by
    intro T K hK n9
    induction n9 using Nat.strongRecOn with
    | ind n9 ih =>
      intro k J1 hi hk hL hS
      have len := rtN_len f k
      have kl := kp_lt (fvig f) k
      have k9 : k < 8 → J1 359 k = kp (fvig f) k := fun h => by rw [hS.1 359 (by omega) (by omega), sR_ne (by omega), up2_ne (by omega), sR_at]; exact hK k h
      refine J_iload_n 18 rfl dX11_describeRota_17 rfl ?_
      refine J_bipush 20 8 rfl dX11_describeRota_18 bc_8 ?_
      refine J_icmp_ge 57 23 (by decide) rfl dX11_describeRota_20 (by omega) (by omega) (fun c20 => ?_) (fun c20 => ?_)
      · refine J_aload_n 58 rfl dX11_describeRota_57 rfl ?_
        refine g_X11_lineMany 61 rfl dX11_describeRota_58 lkX11_304 ?_
        refine J_cv (b := 8) (by rw [hL.1, len]; omega) ?_
        refine J_iret rfl dX11_describeRota_61 ?_
        refine ⟨rfl, MWr_of (J1 := (sR (up2 (sR (sR (up2 J 351 8 0) 358 T) 359 K) 351 24 0) 352 f)) ?_ hS (fun c hc => ?_) (fun j a b c => ?_) ?_⟩
        · have z := hL
          rw [show k = 8 by omega] at z
          exact z
        · by_cases y : c = 352
          · rw [y, sR_at, sR_at]
          · rw [sR_ne y, sR_ne y, up2_ne (by omega), sR_ne (by omega), sR_ne (by omega), up2_ne (by omega)]
        · rw [sR_ne (by omega), sR_ne (by omega), up2_app, if_neg (fun z => c z.2), sR_ne (by omega), sR_ne (by omega), up2_app, if_neg (fun z => a z.2)]
        · rw [sR_ne (by omega), up2_app, if_neg (by omega), sR_ne (by omega), sR_ne (by omega), up2_app, if_pos ⟨rfl, rfl⟩]
      · refine J_aload_n 24 rfl dX11_describeRota_23 rfl ?_
        refine J_aload_n 25 rfl dX11_describeRota_24 rfl ?_
        refine g_X11_keepers 28 rfl dX11_describeRota_25 lkX11_38 ?_
        refine J_iload_n 29 rfl dX11_describeRota_28 rfl ?_
        refine J_iald 30 rfl dX11_describeRota_29 (sa_X11_keepers) (by omega) ?_
        refine J_cv (b := kp (fvig f) k) (k9 (by omega)) ?_
        refine J_iconst 31 4294967295 rfl dX11_describeRota_30 ic_m1 ?_
        refine J_icmp_ne 39 34 (by decide) rfl dX11_describeRota_31 (by omega) (by omega) (fun c31 => ?_) (fun c31 => ?_)
        · refine J_bipush 41 48 rfl dX11_describeRota_39 bc_48 ?_
          refine J_aload_n 42 rfl dX11_describeRota_41 rfl ?_
          refine g_X11_keepers 45 rfl dX11_describeRota_42 lkX11_38 ?_
          refine J_iload_n 46 rfl dX11_describeRota_45 rfl ?_
          refine J_iald 47 rfl dX11_describeRota_46 (sa_X11_keepers) (by omega) ?_
          refine J_cv (b := kp (fvig f) k) (k9 (by omega)) ?_
          refine J_iadd 48 rfl dX11_describeRota_47 ?_
          refine J_callVvp (As := [_]) 51 _ rfl kalX11_sign lkX11_307 dX11_describeRota_48 (lt_X11) (so_X11) rfl rfl rfl (by exact Nat.le_of_ble_eq_true rfl) (by omega) (S_X11_sign hL (by omega)) (fun J48 q48 => ?_)
          refine J_iinc 54 1 rfl dX11_describeRota_51 ic_1 rfl (Nat.le_of_ble_eq_true rfl) ?_
          refine J_goto 17 (by decide) dX11_describeRota_54 ?_
          refine ih _ (by omega) (k + 1) J48 rfl (by omega) ?_ (hS.trans q48.2)
          have z := q48.1
          simp only [rtN]
          unfold rtC
          first
            | (rw [if_pos (by omega)]; exact z)
            | (rw [if_neg (by omega)]; exact z)
        · refine J_bipush 36 45 rfl dX11_describeRota_34 bc_45 ?_
          refine J_goto 48 (by decide) dX11_describeRota_36 ?_
          refine J_callVvp (As := [_]) 51 _ rfl kalX11_sign lkX11_307 dX11_describeRota_48 (lt_X11) (so_X11) rfl rfl rfl (by exact Nat.le_of_ble_eq_true rfl) (by omega) (S_X11_sign hL (by omega)) (fun J48 q48 => ?_)
          refine J_iinc 54 1 rfl dX11_describeRota_51 ic_1 rfl (Nat.le_of_ble_eq_true rfl) ?_
          refine J_goto 17 (by decide) dX11_describeRota_54 ?_
          refine ih _ (by omega) (k + 1) J48 rfl (by omega) ?_ (hS.trans q48.2)
          have z := q48.1
          simp only [rtN]
          unfold rtC
          first
            | (rw [if_pos (by omega)]; exact z)
            | (rw [if_neg (by omega)]; exact z)
  refine J_aload_n 1 rfl dX11_describeRota_0 rfl ?_
  refine J_iconst 2 0 rfl dX11_describeRota_1 ic_0 ?_
  refine p_X11_thrown 5 rfl dX11_describeRota_2 lkX11_57 ?_
  rw [up2_out (by omega)]
  refine J_aload_n 6 rfl dX11_describeRota_5 rfl ?_
  refine J_callVip (As := []) 9 _ rfl kalX11_rotas lkX11_240 dX11_describeRota_6 (lt_X11) (so_X11) rfl rfl rfl (by exact Nat.le_of_ble_eq_true rfl) (by omega) (S_X11_rotas hw) (fun J6 q6 => ?_)
  obtain ⟨T, K, rfl, hK⟩ := q6
  refine J_pop 10 rfl dX11_describeRota_9 rfl ?_
  refine J_aload_n 11 rfl dX11_describeRota_10 rfl ?_
  refine J_iconst 12 0 rfl dX11_describeRota_11 ic_0 ?_
  refine p_X11_lineMany 15 rfl dX11_describeRota_12 lkX11_304 ?_
  rw [up2_out (by omega)]
  refine J_iconst 16 0 rfl dX11_describeRota_15 ic_0 ?_
  refine J_istore_n 17 rfl dX11_describeRota_16 rfl (Nat.le_of_ble_eq_true rfl) ?_
  exact main T K hK _ 0 _ rfl (Nat.zero_le _) LnM.nil Sg.refl

theorem i2c_m1 : ((nI 4294967295).toUInt32 % 65536).toInt32 = nI 65535 := by decide
theorem S_X11_lineAt {g : Gn} {J : DJ} {i : Nat} {l : List Nat} (h_i : i < 4294967296) (h : LnM J l) (hl : l.length ≤ 40) (hc : ∀ j, j < l.length → l.getD j 0 < 65536) : SJ g mX11_lineAt 3 0 0 [.ref (g.2 351), .int (nI (i))] J (fun v J2 => (i < l.length ∧ v = some (.int (nI (l.getD i 0))) ∧ MNo J J2 0) ∨ (¬ i < l.length ∧ (∃ w, v = some (.int (nI w)) ∧ w < 65536) ∧ MNo J J2 1)) NoX := by
  have h1 := h.1
  refine SJ_of_VJ (by decide +kernel) (Nat.le_of_ble_eq_true rfl) ?_
  show VJ g mX11_lineAt 3 0 0 _ _ 0 [(0, .ref (g.2 351)), (1, .int (nI (i)))] [] J
  refine J_aload_n 1 rfl dX11_lineAt_0 rfl ?_
  refine J_iconst 2 0 rfl dX11_lineAt_1 ic_0 ?_
  refine p_X11_thrown 5 rfl dX11_lineAt_2 lkX11_57 ?_
  refine J_iload_n 6 rfl dX11_lineAt_5 rfl ?_
  refine J_i2l 7 _ rfl dX11_lineAt_6 rfl ?_
  refine J_lconst 8 _ rfl dX11_lineAt_7 rfl ?_
  refine J_aload_n 9 rfl dX11_lineAt_8 rfl ?_
  refine g_X11_lineMany 12 rfl dX11_lineAt_9 lkX11_304 ?_
  refine J_cv (b := l.length) (by rw [up2_app, if_neg (by omega)]; exact h1) ?_
  refine J_iconst 13 1 rfl dX11_lineAt_12 ic_1 ?_
  refine J_isubR 14 rfl dX11_lineAt_13 ?_
  refine J_i2l 15 _ rfl dX11_lineAt_14 rfl ?_
  refine J_callSi (As := [_, _, _]) 18 rfl kalX11_in lkX11_63 dX11_lineAt_15 rfl rfl (by exact Nat.le_of_ble_eq_true rfl) (by omega) (S_in_lt (by decide) h_i (by omega)) ?_
  refine J_ifb_eq (hdp := _) 31 21 (by decide) rfl dX11_lineAt_18 (fun c18 => ?_) (fun c18 => ?_)
  · refine J_aload_n 32 rfl dX11_lineAt_31 rfl ?_
    refine J_iconst 33 1 rfl dX11_lineAt_32 ic_1 ?_
    refine J_callVi (As := [_]) 36 _ rfl kalX11_throwing lkX11_125 dX11_lineAt_33 (lt_X11) (so_X11) rfl rfl rfl (by exact Nat.le_of_ble_eq_true rfl) (by omega) (S_X11_throwing) ?_
    refine J_i2c 37 _ rfl dX11_lineAt_36 i2c_m1 ?_
    first
      | exact J_cret rfl dX11_lineAt_37 (hc i (by omega)) (Or.inl ⟨by omega, rfl, MNo.rf.th⟩)
      | exact J_cret rfl dX11_lineAt_37 (by omega) (Or.inr ⟨by omega, ⟨65535, rfl, by omega⟩, MNo.rf.th.th⟩)
  · refine J_aload_n 22 rfl dX11_lineAt_21 rfl ?_
    refine g_X11_line 25 rfl dX11_lineAt_22 lkX11_54 ?_
    refine J_iload_n 26 rfl dX11_lineAt_25 rfl ?_
    refine J_iald 27 rfl dX11_lineAt_26 (sa_X11_line) (by omega) ?_
    refine J_cv (b := l.getD i 0) (by rw [up2_ne (by omega)]; exact h.2 i (by omega)) ?_
    refine J_i2cN 28 rfl dX11_lineAt_27 (hc i (by omega)) ?_
    refine J_goto 37 (by decide) dX11_lineAt_28 ?_
    first
      | exact J_cret rfl dX11_lineAt_37 (hc i (by omega)) (Or.inl ⟨by omega, rfl, MNo.rf.th⟩)
      | exact J_cret rfl dX11_lineAt_37 (by omega) (Or.inr ⟨by omega, ⟨65535, rfl, by omega⟩, MNo.rf.th.th⟩)

section DC
variable {u : Un} {g : Gn} {y : MI} {d kc ks : Nat} {pc : Nat} {L : List (Nat × Value)} {st : List Value}
theorem V_dconst {Q : Option Value → va_W → Prop} {X : String → va_W → Prop} {ws : va_W} (pc' : Nat) (v : UInt64) (hp : pc + 1 = pc') (hd : decode y.2.1 pc = .ok (.dconst 0, 1)) (hv : FP.dconst0 = v) (k : V u y d kc ks Q X pc' L (.double v :: st) ws) : V u y d kc ks Q X pc L (st) ws := by
  subst hp
  subst hv
  intro p e R s m args below meth c H locs cells slots ls C q1 q2 q3 q4 hw hS hl
  exact lv_dconst0 C.1 C.2.1 hd (k p e R s m args below meth c H locs cells slots ls C q1 q2 q3 q4 hw hS hl)
theorem J_dconst {Q : Option Value → DJ → Prop} {X : String → DJ → Prop} {J : DJ} (pc' : Nat) (v : UInt64) (hp : pc + 1 = pc') (hd : decode y.2.1 pc = .ok (.dconst 0, 1)) (hv : FP.dconst0 = v) (k : VJ g y d kc ks Q X pc' L (.double v :: st) J) : VJ g y d kc ks Q X pc L (st) J := V_dconst pc' v hp hd hv k
end DC
theorem S_X11_meanOil {g : Gn} {J : DJ} {f : Nat → Nat} {B : Nat} (hw : WF f B) (hB9 : B < 600000000) : SJ g mX11_meanOil 4 0 0 [.ref (g.2 351)] (sR J 352 f) (fun v J2 => (0 < cnt f ∧ v = some (.double (FP.ddiv (FP.i2d (nI (allOil f))) (FP.i2d (nI (cnt f))))) ∧ MNo (sR J 352 f) J2 0) ∨ (cnt f = 0 ∧ (∃ w, v = some (.double w)) ∧ MNo (sR J 352 f) J2 1)) NoX := by
  have c32 := cnt_le hw
  refine SJ_of_VJ (by decide +kernel) (Nat.le_of_ble_eq_true rfl) ?_
  show VJ g mX11_meanOil 4 0 0 _ _ 0 [(0, .ref (g.2 351))] [] (sR J 352 f)
  refine J_aload_n 1 rfl dX11_meanOil_0 rfl ?_
  refine J_iconst 2 0 rfl dX11_meanOil_1 ic_0 ?_
  refine p_X11_thrown 5 rfl dX11_meanOil_2 lkX11_57 ?_
  rw [up2_out (by omega)]
  refine J_aload_n 6 rfl dX11_meanOil_5 rfl ?_
  refine J_callVip (As := []) 9 _ rfl kalX11_inEngines lkX11_228 dX11_meanOil_6 (lt_X11) (so_X11) rfl rfl rfl (by exact Nat.le_of_ble_eq_true rfl) (by omega) (S_X11_inEngines hw hB9) (fun J6 q6 => ?_)
  obtain ⟨O, rfl⟩ := q6
  refine J_istore_n 10 rfl dX11_meanOil_9 rfl (Nat.le_of_ble_eq_true rfl) ?_
  refine J_aload_n 11 rfl dX11_meanOil_10 rfl ?_
  refine g_X11_oilMany 14 rfl dX11_meanOil_11 lkX11_92 ?_
  refine J_cv (b := cnt f) (by rw [sR_ne (by omega), sR_ne (by omega), up2_app, if_pos ⟨rfl, rfl⟩]) ?_
  refine J_if_ne 25 17 (by decide) rfl dX11_meanOil_14 (by omega) (fun c14 => ?_) (fun c14 => ?_)
  · refine J_iload_n 26 rfl dX11_meanOil_25 rfl ?_
    refine J_i2d 27 rfl dX11_meanOil_26 ?_
    refine J_aload_n 28 rfl dX11_meanOil_27 rfl ?_
    refine g_X11_oilMany 31 rfl dX11_meanOil_28 lkX11_92 ?_
    refine J_cv (b := cnt f) (by rw [sR_ne (by omega), sR_ne (by omega), up2_app, if_pos ⟨rfl, rfl⟩]) ?_
    refine J_i2d 32 rfl dX11_meanOil_31 ?_
    refine J_ddiv 33 rfl dX11_meanOil_32 (div_nn (by omega) (by omega)) ?_
    refine J_dret rfl dX11_meanOil_33 ?_
    exact Or.inl ⟨by omega, rfl, MNo_O⟩
  · refine J_aload_n 18 rfl dX11_meanOil_17 rfl ?_
    refine J_iconst 19 1 rfl dX11_meanOil_18 ic_1 ?_
    refine J_callVi (As := [_]) 22 _ rfl kalX11_throwing lkX11_125 dX11_meanOil_19 (lt_X11) (so_X11) rfl rfl rfl (by exact Nat.le_of_ble_eq_true rfl) (by omega) (S_X11_throwing) ?_
    refine J_pop 23 rfl dX11_meanOil_22 rfl ?_
    refine J_dconst 24 _ rfl dX11_meanOil_23 rfl ?_
    refine J_dret rfl dX11_meanOil_24 ?_
    refine Or.inr ⟨by omega, ⟨_, rfl⟩, ?_⟩
    exact MNo_O.th

theorem S_X11_vigilShare {g : Gn} {J : DJ} {f : Nat → Nat} {B : Nat} (hw : WF f B) : SJ g mX11_vigilShare 4 0 0 [.ref (g.2 351)] (sR J 352 f) (fun v J2 => v = some (.float (FP.fdiv (FP.i2f (nI (rW (fvig f) 8 0))) 1090519040)) ∧ MNo (sR J 352 f) J2 0) NoX := by
  have r8 := rW_le (fvig f) 8 0
  refine SJ_of_VJ (by decide +kernel) (Nat.le_of_ble_eq_true rfl) ?_
  show VJ g mX11_vigilShare 4 0 0 _ _ 0 [(0, .ref (g.2 351))] [] (sR J 352 f)
  refine J_aload_n 1 rfl dX11_vigilShare_0 rfl ?_
  refine J_iconst 2 0 rfl dX11_vigilShare_1 ic_0 ?_
  refine p_X11_thrown 5 rfl dX11_vigilShare_2 lkX11_57 ?_
  rw [up2_out (by omega)]
  refine J_aload_n 6 rfl dX11_vigilShare_5 rfl ?_
  refine J_callVip (As := []) 9 _ rfl kalX11_rotas lkX11_240 dX11_vigilShare_6 (lt_X11) (so_X11) rfl rfl rfl (by exact Nat.le_of_ble_eq_true rfl) (by omega) (S_X11_rotas hw) (fun J6 q6 => ?_)
  obtain ⟨T, K, rfl, hK⟩ := q6
  refine J_i2f 10 rfl dX11_vigilShare_9 ?_
  refine J_ldcwF 13 rfl dX11_vigilShare_10 lkX11_310 ?_
  refine J_fdiv 14 rfl dX11_vigilShare_13 (div8_nn _ (by omega)) ?_
  refine J_fret rfl dX11_vigilShare_14 ?_
  exact ⟨rfl, MNo_TK0⟩

theorem S_X11_isConsistent {g : Gn} {J : DJ} : SJ g mX11_isConsistent 1 0 0 [.ref (g.2 351)] J (Rp 1 (fun J2 => MNo J J2 0)) NoX := by
  refine SJ_of_VJ (by decide +kernel) (Nat.le_of_ble_eq_true rfl) ?_
  show VJ g mX11_isConsistent 1 0 0 _ _ 0 [(0, .ref (g.2 351))] [] J
  refine J_aload_n 1 rfl dX11_isConsistent_0 rfl ?_
  refine J_iconst 2 0 rfl dX11_isConsistent_1 ic_0 ?_
  refine p_X11_thrown 5 rfl dX11_isConsistent_2 lkX11_57 ?_
  refine J_iconst 6 1 rfl dX11_isConsistent_5 ic_1 ?_
  refine J_zret1 rfl dX11_isConsistent_6 ?_
  exact ⟨rfl, MNo.rf.th⟩

