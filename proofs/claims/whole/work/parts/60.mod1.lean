/-! THE MODEL: its row, its strokes (laid by wip/whole/src/p60.py) -/
theorem w_le (a b : Int32) : a.toInt64 ≤ b.toInt64 ↔ a ≤ b := by
  rw [Int64.le_iff_toInt_le, Int32.le_iff_toInt_le, Int32.toInt_toInt64, Int32.toInt_toInt64]
theorem w_eq (a b : Int32) : a.toInt64 = b.toInt64 ↔ a = b := by
  constructor
  · intro h
    apply Int32.toInt_inj.mp
    rw [← Int32.toInt_toInt64, ← Int32.toInt_toInt64, h]
  · intro h; rw [h]
section MROW
variable {g : Gn} {y : MI} {d kc ks : Nat} {Q : Option Value → DJ → Prop} {X : String → DJ → Prop} {pc : Nat} {L : List (Nat × Value)} {st : List Value} {J : DJ} {f : Nat → Nat}
/-- the model's row m: reading, writing -/
theorem J_mald (pc' : Nat) {i : Nat} (hp : pc + 1 = pc') (hd : decode y.2.1 pc = .ok (.iaload, 1)) (hi : i < 269) (h : VJ g y d kc ks Q X pc' L (.int (nI (f i)) :: st) (sR J 352 f)) : VJ g y d kc ks Q X pc L (.int (nI i) :: .ref (g.2 352) :: st) (sR J 352 f) := by
  refine J_iald pc' hp hd sa_X11_m hi ?_
  rw [sR_at]
  exact h
theorem J_mast (pc' : Nat) {i n : Nat} (hp : pc + 1 = pc') (hd : decode y.2.1 pc = .ok (.iastore, 1)) (hi : i < 269) (h : VJ g y d kc ks Q X pc' L st (sR J 352 (up1 f i n))) : VJ g y d kc ks Q X pc L (.int (nI n) :: .int (nI i) :: .ref (g.2 352) :: st) (sR J 352 f) := by
  refine J_iast pc' hp hd sa_X11_m hi ?_
  rw [up2_in]
  exact h
theorem J_lltS (tgt pc' : Nat) {x z : Int64} {off : Int} (ht : (pc : Int) + off = (tgt : Int)) (hp : pc + 3 = pc') (hd : decode y.2.1 pc = .ok (.ifCond .lt off, 3)) (kt : x < z → VJ g y d kc ks Q X tgt L st J) (kf : ¬ x < z → VJ g y d kc ks Q X pc' L st J) : VJ g y d kc ks Q X pc L (.int (lg_cmp x z) :: st) J := J_ifR_lt tgt pc' ht hp hd (fun c => kt ((lg_cmp_lt x z).mp c)) (fun c => kf (fun q => c ((lg_cmp_lt x z).mpr q)))
theorem J_lgtS (tgt pc' : Nat) {x z : Int64} {off : Int} (ht : (pc : Int) + off = (tgt : Int)) (hp : pc + 3 = pc') (hd : decode y.2.1 pc = .ok (.ifCond .gt off, 3)) (kt : z < x → VJ g y d kc ks Q X tgt L st J) (kf : ¬ z < x → VJ g y d kc ks Q X pc' L st J) : VJ g y d kc ks Q X pc L (.int (lg_cmp x z) :: st) J := J_ifR_gt tgt pc' ht hp hd (fun c => kt ((lg_cmp_gt x z).mp c)) (fun c => kf (fun q => c ((lg_cmp_gt x z).mpr q)))
end MROW
theorem S_X11_in {g : Gn} {J : DJ} {x lo hi : Int64} (p : Prop) [hdp : Decidable p] (h : (lo ≤ x ∧ x ≤ hi) ↔ p) : SJ g mX11_in 0 0 0 [.long x, .long lo, .long hi] J (Ri (bt p) J) NoX := by
  refine SJ_of_VJ (by decide +kernel) (Nat.le_of_ble_eq_true rfl) ?_
  show VJ g mX11_in 0 0 0 _ _ 0 [(0, .long x), (2, .long lo), (4, .long hi)] [] J
  refine J_lload_n 1 rfl dX11_in_0 rfl ?_
  refine J_lload_n 2 rfl dX11_in_1 rfl ?_
  refine J_lcmp 3 rfl dX11_in_2 ?_
  refine J_lltS 17 6 (by decide) rfl dX11_in_3 (fun c2 => ?_) (fun c2 => ?_)
  · refine J_iconst 18 0 rfl dX11_in_17 ic_0 ?_
    refine J_zret0 rfl dX11_in_18 ?_
    exact ⟨by rw [bt_f (fun q => absurd (Int64.not_lt.mpr (h.mpr q).1) (fun z => z c2))], rfl⟩
  · refine J_lload_n 7 rfl dX11_in_6 rfl ?_
    refine J_lload 9 rfl dX11_in_7 rfl ?_
    refine J_lcmp 10 rfl dX11_in_9 ?_
    refine J_lgtS 17 13 (by decide) rfl dX11_in_10 (fun c7 => ?_) (fun c7 => ?_)
    · refine J_iconst 18 0 rfl dX11_in_17 ic_0 ?_
      refine J_zret0 rfl dX11_in_18 ?_
      exact ⟨by rw [bt_f (fun q => absurd (Int64.not_lt.mpr (h.mpr q).2) (fun z => z c7))], rfl⟩
    · refine J_iconst 14 1 rfl dX11_in_13 ic_1 ?_
      refine J_goto 18 (by decide) dX11_in_14 ?_
      refine J_zret1 rfl dX11_in_18 ?_
      exact ⟨by rw [bt_t (h.mp ⟨Int64.not_lt.mp c2, Int64.not_lt.mp c7⟩)], rfl⟩
theorem S_in_le {g : Gn} {J : DJ} {n : Nat} (a c : Nat) {lo hi : Int64} (elo : (nI a).toInt64 = lo) (ehi : (nI c).toInt64 = hi) (hn : n < 4294967296) (ha : a < 2147483648) (hc : c < 2147483648) : SJ g mX11_in 0 0 0 [.long (nI n).toInt64, .long lo, .long hi] J (Ri (bt (a ≤ n ∧ n ≤ c)) J) NoX := by
  subst elo; subst ehi
  refine S_X11_in _ ?_
  rw [w_le, w_le, wi_le hn ha hc]
  omega
theorem S_in_lt {g : Gn} {J : DJ} {n c : Nat} {lo : Int64} (elo : (nI 0).toInt64 = lo) (hn : n < 4294967296) (hc : c < 2147483648) : SJ g mX11_in 0 0 0 [.long (nI n).toInt64, .long lo, .long (nI c - nI 1).toInt64] J (Ri (bt (n < c)) J) NoX := by
  subst elo
  refine S_X11_in _ ?_
  rw [w_le, w_le, wi_lt hn (by omega) hc]
  omega
theorem S_X11_thrown {g : Gn} {J : DJ} : SJ g mX11_thrown 0 0 0 [.ref (g.2 351)] J (Ri (J 351 8) J) NoX := by
  refine SJ_of_VJ (by decide +kernel) (Nat.le_of_ble_eq_true rfl) ?_
  show VJ g mX11_thrown 0 0 0 _ _ 0 [(0, .ref (g.2 351))] [] J
  refine J_aload_n 1 rfl dX11_thrown_0 rfl ?_
  refine g_X11_thrown 4 rfl dX11_thrown_1 lkX11_57 ?_
  refine J_iret rfl dX11_thrown_4 ?_
  exact ⟨rfl, rfl⟩

theorem S_X11_throwing {g : Gn} {J : DJ} {k : Nat} : SJ g mX11_throwing 0 0 0 [.ref (g.2 351), .int (nI (k))] J (Ri 4294967295 (up2 J 351 8 k)) NoX := by
  refine SJ_of_VJ (by decide +kernel) (Nat.le_of_ble_eq_true rfl) ?_
  show VJ g mX11_throwing 0 0 0 _ _ 0 [(0, .ref (g.2 351)), (1, .int (nI (k)))] [] J
  refine J_aload_n 1 rfl dX11_throwing_0 rfl ?_
  refine J_iload_n 2 rfl dX11_throwing_1 rfl ?_
  refine p_X11_thrown 5 rfl dX11_throwing_2 lkX11_57 ?_
  refine J_iconst 6 4294967295 rfl dX11_throwing_5 ic_m1 ?_
  refine J_iret rfl dX11_throwing_6 ?_
  exact ⟨rfl, rfl⟩

theorem S_X11_engineAt {g : Gn} {J : DJ} {e : Nat} : SJ g mX11_engineAt 0 0 0 [.int (nI (e))] J (Ri (7 + 52 * e) J) NoX := by
  refine SJ_of_VJ (by decide +kernel) (Nat.le_of_ble_eq_true rfl) ?_
  show VJ g mX11_engineAt 0 0 0 _ _ 0 [(0, .int (nI (e)))] [] J
  refine J_bipush 2 7 rfl dX11_engineAt_0 bc_7 ?_
  refine J_bipush 4 52 rfl dX11_engineAt_2 bc_52 ?_
  refine J_iload_n 5 rfl dX11_engineAt_4 rfl ?_
  refine J_imul 6 rfl dX11_engineAt_5 ?_
  refine J_iadd 7 rfl dX11_engineAt_6 ?_
  refine J_iret rfl dX11_engineAt_7 ?_
  exact ⟨rfl, rfl⟩

theorem S_X11_isEngine {g : Gn} {J : DJ} {f : Nat → Nat} {e : Nat} (h_e : e < 4294967296) (h0 : f 0 ≤ 4) : SJ g mX11_isEngine 1 0 0 [.ref (g.2 351), .int (nI (e))] (sR J 352 f) (Ri (bt (e < f 0)) (sR J 352 f)) NoX := by
  refine SJ_of_VJ (by decide +kernel) (Nat.le_of_ble_eq_true rfl) ?_
  show VJ g mX11_isEngine 1 0 0 _ _ 0 [(0, .ref (g.2 351)), (1, .int (nI (e)))] [] (sR J 352 f)
  refine J_iload_n 1 rfl dX11_isEngine_0 rfl ?_
  refine J_i2l 2 _ rfl dX11_isEngine_1 rfl ?_
  refine J_lconst 3 _ rfl dX11_isEngine_2 rfl ?_
  refine J_aload_n 4 rfl dX11_isEngine_3 rfl ?_
  refine g_X11_m 7 rfl dX11_isEngine_4 lkX11_9 ?_
  refine J_iconst 8 0 rfl dX11_isEngine_7 ic_0 ?_
  refine J_mald 9 rfl dX11_isEngine_8 (by omega) ?_
  refine J_iconst 10 1 rfl dX11_isEngine_9 ic_1 ?_
  refine J_isubR 11 rfl dX11_isEngine_10 ?_
  refine J_i2l 12 _ rfl dX11_isEngine_11 rfl ?_
  refine J_callSi (As := [_, _, _]) 15 rfl kalX11_in lkX11_63 dX11_isEngine_12 rfl rfl (by exact Nat.le_of_ble_eq_true rfl) (by omega) (S_in_lt (by decide) h_e (by omega)) ?_
  refine J_zret (hdp := _) rfl dX11_isEngine_15 ?_
  exact ⟨rfl, rfl⟩

theorem S_X11_many {g : Gn} {J : DJ} {f : Nat → Nat} {e : Nat} (he : e < 4) : SJ g mX11_many 1 0 0 [.ref (g.2 351), .int (nI (e))] (sR J 352 f) (Ri (f (7 + 52 * e)) (sR J 352 f)) NoX := by
  refine SJ_of_VJ (by decide +kernel) (Nat.le_of_ble_eq_true rfl) ?_
  show VJ g mX11_many 1 0 0 _ _ 0 [(0, .ref (g.2 351)), (1, .int (nI (e)))] [] (sR J 352 f)
  refine J_aload_n 1 rfl dX11_many_0 rfl ?_
  refine g_X11_m 4 rfl dX11_many_1 lkX11_9 ?_
  refine J_iload_n 5 rfl dX11_many_4 rfl ?_
  refine J_callSi (As := [_]) 8 rfl kalX11_engineAt lkX11_67 dX11_many_5 rfl rfl (by exact Nat.le_of_ble_eq_true rfl) (by omega) (S_X11_engineAt) ?_
  refine J_mald 9 rfl dX11_many_8 (by omega) ?_
  refine J_iret rfl dX11_many_9 ?_
  exact ⟨rfl, rfl⟩

theorem S_X11_isPart {g : Gn} {J : DJ} {f : Nat → Nat} {e p : Nat} (h_e : e < 4294967296) (h_p : p < 4294967296) (h0 : f 0 ≤ 4) (h8 : ∀ e, e < f 0 → f (7 + 52 * e) ≤ 8) : SJ g mX11_isPart 2 0 0 [.ref (g.2 351), .int (nI (e)), .int (nI (p))] (sR J 352 f) (Ri (bt (e < f 0 ∧ p < f (7 + 52 * e))) (sR J 352 f)) NoX := by
  refine SJ_of_VJ (by decide +kernel) (Nat.le_of_ble_eq_true rfl) ?_
  show VJ g mX11_isPart 2 0 0 _ _ 0 [(0, .ref (g.2 351)), (1, .int (nI (e))), (2, .int (nI (p)))] [] (sR J 352 f)
  refine J_aload_n 1 rfl dX11_isPart_0 rfl ?_
  refine J_iload_n 2 rfl dX11_isPart_1 rfl ?_
  refine J_callVi (As := [_]) 5 _ rfl kalX11_isEngine lkX11_71 dX11_isPart_2 (lt_X11) (so_X11) rfl rfl rfl (by exact Nat.le_of_ble_eq_true rfl) (by omega) (S_X11_isEngine h_e h0) ?_
  refine J_ifb_eq (hdp := _) 29 8 (by decide) rfl dX11_isPart_5 (fun c5 => ?_) (fun c5 => ?_)
  · refine J_iconst 30 0 rfl dX11_isPart_29 ic_0 ?_
    refine J_zret0 rfl dX11_isPart_30 ?_
    first
      | exact ⟨by rw [bt_t (by omega)], rfl⟩
      | exact ⟨by rw [bt_f (by omega)], rfl⟩
  · refine J_iload_n 9 rfl dX11_isPart_8 rfl ?_
    refine J_i2l 10 _ rfl dX11_isPart_9 rfl ?_
    refine J_lconst 11 _ rfl dX11_isPart_10 rfl ?_
    refine J_aload_n 12 rfl dX11_isPart_11 rfl ?_
    refine J_iload_n 13 rfl dX11_isPart_12 rfl ?_
    refine J_callVi (As := [_]) 16 _ rfl kalX11_many lkX11_75 dX11_isPart_13 (lt_X11) (so_X11) rfl rfl rfl (by exact Nat.le_of_ble_eq_true rfl) (by omega) (S_X11_many (by omega)) ?_
    refine J_iconst 17 1 rfl dX11_isPart_16 ic_1 ?_
    refine J_isubR 18 rfl dX11_isPart_17 ?_
    refine J_i2l 19 _ rfl dX11_isPart_18 rfl ?_
    refine J_callSi (As := [_, _, _]) 22 rfl kalX11_in lkX11_63 dX11_isPart_19 rfl rfl (by exact Nat.le_of_ble_eq_true rfl) (by omega) (S_in_lt (by decide) h_p (by have := h8 e (by omega); omega)) ?_
    refine J_ifb_eq (hdp := _) 29 25 (by decide) rfl dX11_isPart_22 (fun c22 => ?_) (fun c22 => ?_)
    · refine J_iconst 30 0 rfl dX11_isPart_29 ic_0 ?_
      refine J_zret0 rfl dX11_isPart_30 ?_
      first
        | exact ⟨by rw [bt_t (by omega)], rfl⟩
        | exact ⟨by rw [bt_f (by omega)], rfl⟩
    · refine J_iconst 26 1 rfl dX11_isPart_25 ic_1 ?_
      refine J_goto 30 (by decide) dX11_isPart_26 ?_
      refine J_zret1 rfl dX11_isPart_30 ?_
      first
        | exact ⟨by rw [bt_t (by omega)], rfl⟩
        | exact ⟨by rw [bt_f (by omega)], rfl⟩

theorem S_X11_order {g : Gn} {J : DJ} {f : Nat → Nat} {e p : Nat} (he : e < 4) (hp : p < 8) : SJ g mX11_order 1 0 0 [.ref (g.2 351), .int (nI (e)), .int (nI (p))] (sR J 352 f) (Ri (f (7 + 52 * e + 4 + p)) (sR J 352 f)) NoX := by
  refine SJ_of_VJ (by decide +kernel) (Nat.le_of_ble_eq_true rfl) ?_
  show VJ g mX11_order 1 0 0 _ _ 0 [(0, .ref (g.2 351)), (1, .int (nI (e))), (2, .int (nI (p)))] [] (sR J 352 f)
  refine J_aload_n 1 rfl dX11_order_0 rfl ?_
  refine g_X11_m 4 rfl dX11_order_1 lkX11_9 ?_
  refine J_iload_n 5 rfl dX11_order_4 rfl ?_
  refine J_callSi (As := [_]) 8 rfl kalX11_engineAt lkX11_67 dX11_order_5 rfl rfl (by exact Nat.le_of_ble_eq_true rfl) (by omega) (S_X11_engineAt) ?_
  refine J_iconst 9 4 rfl dX11_order_8 ic_4 ?_
  refine J_iadd 10 rfl dX11_order_9 ?_
  refine J_iload_n 11 rfl dX11_order_10 rfl ?_
  refine J_iadd 12 rfl dX11_order_11 ?_
  refine J_mald 13 rfl dX11_order_12 (by omega) ?_
  refine J_iret rfl dX11_order_13 ?_
  exact ⟨rfl, rfl⟩

theorem S_X11_starts {g : Gn} {J : DJ} : SJ g mX11_starts 0 0 0 [.ref (g.2 351)] J (Rq (fun J2 => ∃ A, J2 = sR (up2 J 351 8 0) 353 A ∧ ∀ i, i < 269 → A i = J 352 i)) NoX := by
  refine SJ_of_VJ (by decide +kernel) (Nat.le_of_ble_eq_true rfl) ?_
  show VJ g mX11_starts 0 0 0 _ _ 0 [(0, .ref (g.2 351))] [] J
  have loop : ∀ (n9 : Nat) (k : Nat) (A : Nat → Nat), 269 - k = n9 → k ≤ 269 → (∀ i, i < k → A i = J 352 i) → VJ g mX11_starts 0 0 0 (Rq (fun J2 => ∃ A, J2 = sR (up2 J 351 8 0) 353 A ∧ ∀ i, i < 269 → A i = J 352 i)) NoX 7 [(0, .ref (g.2 351)), (1, .int (nI k))] [] (sR (up2 J 351 8 0) 353 A) := by
    intro n9
    induction n9 using Nat.strongRecOn with
    | ind n9 ih =>
      intro k A hi hk hA
      refine J_iload_n 8 rfl dX11_starts_7 rfl ?_
      refine J_sipush 11 269 rfl dX11_starts_8 sc_269 ?_
      refine J_icmp_ge 32 14 (by decide) rfl dX11_starts_11 (by omega) (by omega) (fun c11 => ?_) (fun c11 => ?_)
      · refine J_vret rfl dX11_starts_32 ?_
        exact ⟨rfl, A, rfl, fun i hi2 => hA i (by omega)⟩
      · refine J_aload_n 15 rfl dX11_starts_14 rfl ?_
        refine g_X11_aside 18 rfl dX11_starts_15 lkX11_13 ?_
        refine J_iload_n 19 rfl dX11_starts_18 rfl ?_
        refine J_aload_n 20 rfl dX11_starts_19 rfl ?_
        refine g_X11_m 23 rfl dX11_starts_20 lkX11_9 ?_
        refine J_iload_n 24 rfl dX11_starts_23 rfl ?_
        refine J_iald 25 rfl dX11_starts_24 (sa_X11_m) (by omega) ?_
        refine J_iast 26 rfl dX11_starts_25 (sa_X11_aside) (by omega) ?_
        refine J_iinc 29 1 rfl dX11_starts_26 ic_1 rfl (Nat.le_of_ble_eq_true rfl) ?_
        refine J_goto 7 (by decide) dX11_starts_29 ?_
        rw [up2_in]
        refine ih _ (by omega) (k + 1) _ rfl (by omega) (fun i hi2 => ?_)
        rw [up1_app]
        split
        · next e => rw [e, sR_ne (by omega), up2_ne (by omega)]
        · exact hA i (by omega)
  refine J_aload_n 1 rfl dX11_starts_0 rfl ?_
  refine J_iconst 2 0 rfl dX11_starts_1 ic_0 ?_
  refine p_X11_thrown 5 rfl dX11_starts_2 lkX11_57 ?_
  refine J_iconst 6 0 rfl dX11_starts_5 ic_0 ?_
  refine J_istore_n 7 rfl dX11_starts_6 rfl (Nat.le_of_ble_eq_true rfl) ?_
  have z := loop _ 0 (J 353) rfl (by omega) (fun i hi2 => absurd hi2 (by omega))
  rw [← up2_ne (J := J) (k := 351) (j := 8) (v := 0) (show 353 ≠ 351 by omega), sR_id] at z
  exact z

/-- the rows of the kept changes -/
def pfs (J : DJ) : Nat → Nat → Nat := fun c i => J 355 (269 * c + i)
theorem S_X11_changed {g : Gn} {J : DJ} {t n : Nat} (ht : J 351 8 = 0) (hn : J 351 5 = n) (hn8 : n ≤ 8) : SJ g mX11_changed 0 0 0 [.ref (g.2 351), .int (nI (t))] J (Rp t (fun J2 => ∃ P, J2 = sR (up2 J 351 5 (min (n + 1) 8)) 355 P ∧ ∀ c, c < min (n + 1) 8 → ∀ i, i < 269 → P (269 * c + i) = psh n (pfs J) (J 353) c i)) NoX := by
  refine SJ_of_VJ (by decide +kernel) (Nat.le_of_ble_eq_true rfl) ?_
  show VJ g mX11_changed 0 0 0 _ _ 0 [(0, .ref (g.2 351)), (1, .int (nI (t)))] [] J
  have last : ∀ (n9 : Nat) (k : Nat) (P0 P : Nat → Nat) (q : Nat), 269 - k = n9 → k ≤ 269 → q < 8 → (∀ j, j < k → P (269 * q + j) = J 353 j) → (∀ j, j < 269 * q → P j = P0 j) → q + 1 = min (n + 1) 8 → (∀ c, c < q → ∀ i, i < 269 → P0 (269 * c + i) = psh n (pfs J) (J 353) c i) → (∀ i, psh n (pfs J) (J 353) q i = J 353 i) → VJ g mX11_changed 0 0 0 (Rp t (fun J2 => ∃ P, J2 = sR (up2 J 351 5 (min (n + 1) 8)) 355 P ∧ ∀ c, c < min (n + 1) 8 → ∀ i, i < 269 → P (269 * c + i) = psh n (pfs J) (J 353) c i)) NoX 61 [(0, .ref (g.2 351)), (1, .int (nI t)), (2, .int (nI k))] [] (sR (up2 J 351 5 q) 355 P) := by
    intro n9
    induction n9 using Nat.strongRecOn with
    | ind n9 ih =>
      intro k P0 P q hi hk hq hP hlo hq1 hps hpl
      refine J_iload_n 62 rfl dX11_changed_61 rfl ?_
      refine J_sipush 65 269 rfl dX11_changed_62 sc_269 ?_
      refine J_icmp_ge 95 68 (by decide) rfl dX11_changed_65 (by omega) (by omega) (fun c65 => ?_) (fun c65 => ?_)
      · refine J_aload_n 96 rfl dX11_changed_95 rfl ?_
        refine J_dup 97 rfl dX11_changed_96 rfl ?_
        refine g_X11_changes 100 rfl dX11_changed_97 lkX11_60 ?_
        refine J_cv (b := q) (by rw [sR_ne (by omega), up2_app, if_pos ⟨rfl, rfl⟩]) ?_
        refine J_iconst 101 1 rfl dX11_changed_100 ic_1 ?_
        refine J_iadd 102 rfl dX11_changed_101 ?_
        refine p_X11_changes 105 rfl dX11_changed_102 lkX11_60 ?_
        refine J_iload_n 106 rfl dX11_changed_105 rfl ?_
        refine J_iret rfl dX11_changed_106 ?_
        refine ⟨rfl, P, ?_, fun c hc i hi2 => ?_⟩
        · rw [up2_out (by omega), up2_sR _ 351 5, up2_sR _ 351 5, up2_sR _ 351 5, sR_sR, sR_at, up1_up1, hq1]
        · by_cases e : c = q
          · rw [e, hP i (by omega), hpl]
          · rw [hlo _ (by omega)]
            exact hps c (by omega) i hi2
      · refine J_aload_n 69 rfl dX11_changed_68 rfl ?_
        refine g_X11_past 72 rfl dX11_changed_69 lkX11_19 ?_
        refine J_sipush 75 269 rfl dX11_changed_72 sc_269 ?_
        refine J_aload_n 76 rfl dX11_changed_75 rfl ?_
        refine g_X11_changes 79 rfl dX11_changed_76 lkX11_60 ?_
        refine J_cv (b := q) (by rw [sR_ne (by omega), up2_app, if_pos ⟨rfl, rfl⟩]) ?_
        refine J_imul 80 rfl dX11_changed_79 ?_
        refine J_iload_n 81 rfl dX11_changed_80 rfl ?_
        refine J_iadd 82 rfl dX11_changed_81 ?_
        refine J_aload_n 83 rfl dX11_changed_82 rfl ?_
        refine g_X11_aside 86 rfl dX11_changed_83 lkX11_13 ?_
        refine J_iload_n 87 rfl dX11_changed_86 rfl ?_
        refine J_iald 88 rfl dX11_changed_87 (sa_X11_aside) (by omega) ?_
        refine J_iast 89 rfl dX11_changed_88 (sa_X11_past) (by omega) ?_
        refine J_iinc 92 1 rfl dX11_changed_89 ic_1 rfl (Nat.le_of_ble_eq_true rfl) ?_
        refine J_goto 61 (by decide) dX11_changed_92 ?_
        rw [up2_in]
        refine ih _ (by omega) (k + 1) P0 _ q rfl (by omega) hq (fun j hj => ?_) (fun j hj => by rw [up1_ne (by omega)]; exact hlo j hj) hq1 hps hpl
        rw [up1_app]
        split
        · next e => rw [sR_ne (by omega), up2_ne (by omega)]; congr 1; omega
        · exact hP j (by omega)
  have shift : ∀ (n9 : Nat) (k : Nat) (P : Nat → Nat), n = 8 → 1883 - k = n9 → k ≤ 1883 → (∀ j, j < k → P j = J 355 (j + 269)) → (∀ j, k ≤ j → P j = J 355 j) → VJ g mX11_changed 0 0 0 (Rp t (fun J2 => ∃ P, J2 = sR (up2 J 351 5 (min (n + 1) 8)) 355 P ∧ ∀ c, c < min (n + 1) 8 → ∀ i, i < 269 → P (269 * c + i) = psh n (pfs J) (J 353) c i)) NoX 20 [(0, .ref (g.2 351)), (1, .int (nI t)), (2, .int (nI k))] [] (sR J 355 P) := by
    intro n9
    induction n9 using Nat.strongRecOn with
    | ind n9 ih =>
      intro k P hn8 hi hk hP hQ
      refine J_iload_n 21 rfl dX11_changed_20 rfl ?_
      refine J_sipush 24 1883 rfl dX11_changed_21 sc_1883 ?_
      refine J_icmp_ge 49 27 (by decide) rfl dX11_changed_24 (by omega) (by omega) (fun c24 => ?_) (fun c24 => ?_)
      · refine J_aload_n 50 rfl dX11_changed_49 rfl ?_
        refine J_dup 51 rfl dX11_changed_50 rfl ?_
        refine g_X11_changes 54 rfl dX11_changed_51 lkX11_60 ?_
        refine J_cv (b := 8) (by rw [sR_ne (by omega), hn, hn8]) ?_
        refine J_iconst 55 1 rfl dX11_changed_54 ic_1 ?_
        refine J_isub 56 rfl dX11_changed_55 (by omega) ?_
        refine p_X11_changes 59 rfl dX11_changed_56 lkX11_60 ?_
        refine J_iconst 60 0 rfl dX11_changed_59 ic_0 ?_
        refine J_istore_n 61 rfl dX11_changed_60 rfl (Nat.le_of_ble_eq_true rfl) ?_
        rw [up2_out (by omega)]
        refine last _ 0 P P 7 rfl (by omega) (by omega) (fun j hj => absurd hj (by omega)) (fun _ _ => rfl) (by omega) (fun c hc i hi2 => ?_) (fun i => ?_)
        · rw [hP _ (by omega)]
          unfold psh pfs
          rw [if_neg (by omega), if_neg (by omega)]
          congr 1
          omega
        · unfold psh
          rw [if_neg (by omega), if_pos rfl]
      · refine J_aload_n 28 rfl dX11_changed_27 rfl ?_
        refine g_X11_past 31 rfl dX11_changed_28 lkX11_19 ?_
        refine J_iload_n 32 rfl dX11_changed_31 rfl ?_
        refine J_aload_n 33 rfl dX11_changed_32 rfl ?_
        refine g_X11_past 36 rfl dX11_changed_33 lkX11_19 ?_
        refine J_iload_n 37 rfl dX11_changed_36 rfl ?_
        refine J_sipush 40 269 rfl dX11_changed_37 sc_269 ?_
        refine J_iadd 41 rfl dX11_changed_40 ?_
        refine J_iald 42 rfl dX11_changed_41 (sa_X11_past) (by omega) ?_
        refine J_iast 43 rfl dX11_changed_42 (sa_X11_past) (by omega) ?_
        refine J_iinc 46 1 rfl dX11_changed_43 ic_1 rfl (Nat.le_of_ble_eq_true rfl) ?_
        refine J_goto 20 (by decide) dX11_changed_46 ?_
        rw [up2_in]
        refine ih _ (by omega) (k + 1) _ hn8 rfl (by omega) (fun j hj => ?_) (fun j hj => by rw [up1_ne (by omega)]; exact hQ j (by omega))
        rw [up1_app]
        split
        · next e => rw [sR_at, hQ _ (by omega), e]
        · exact hP j (by omega)
  refine J_aload_n 1 rfl dX11_changed_0 rfl ?_
  refine g_X11_thrown 4 rfl dX11_changed_1 lkX11_57 ?_
  refine J_cv (b := 0) ht ?_
  refine J_if_le 9 7 (by decide) rfl dX11_changed_4 (by omega) (fun c4 => ?_) (fun c4 => ?_)
  · refine J_aload_n 10 rfl dX11_changed_9 rfl ?_
    refine g_X11_changes 13 rfl dX11_changed_10 lkX11_60 ?_
    refine J_cv (b := n) hn ?_
    refine J_bipush 15 8 rfl dX11_changed_13 bc_8 ?_
    refine J_icmp_ne 59 18 (by decide) rfl dX11_changed_15 (by omega) (by omega) (fun c15 => ?_) (fun c15 => ?_)
    · refine J_iconst 60 0 rfl dX11_changed_59 ic_0 ?_
      refine J_istore_n 61 rfl dX11_changed_60 rfl (Nat.le_of_ble_eq_true rfl) ?_
      have z := last _ 0 (J 355) (J 355) n rfl (by omega) (by omega) (fun j hj => absurd hj (by omega)) (fun _ _ => rfl) (by omega) (fun c hc i hi2 => ?_) (fun i => ?_)
      · rw [show sR (up2 J 351 5 n) 355 (J 355) = J by
          rw [← up2_ne (J := J) (k := 351) (j := 5) (v := n) (show 355 ≠ 351 by omega), sR_id]
          rw [← hn, up2_sR, up1_id, sR_id]] at z
        exact z
      · unfold psh pfs
        rw [if_pos (by omega), if_neg (by omega)]
      · unfold psh
        rw [if_pos (by omega), if_pos rfl]
    · refine J_iconst 19 0 rfl dX11_changed_18 ic_0 ?_
      refine J_istore_n 20 rfl dX11_changed_19 rfl (Nat.le_of_ble_eq_true rfl) ?_
      have z := shift _ 0 (J 355) (by omega) rfl (by omega) (fun j hj => absurd hj (by omega)) (fun _ _ => rfl)
      rw [sR_id] at z
      exact z
  · refine J_iload_n 8 rfl dX11_changed_7 rfl ?_
    refine J_iret rfl dX11_changed_8 ?_
    exfalso; omega

theorem S_X11_changedX {g : Gn} {J : DJ} {t : Nat} (ht : 0 < J 351 8) (h9 : J 351 8 < 10) : SJ g mX11_changed 0 0 0 [.ref (g.2 351), .int (nI t)] J (Ri t J) NoX := by
  refine SJ_of_VJ (by decide +kernel) (Nat.le_of_ble_eq_true rfl) ?_
  show VJ g mX11_changed 0 0 0 _ _ 0 [(0, .ref (g.2 351)), (1, .int (nI t))] [] J
  refine J_aload_n 1 rfl dX11_changed_0 rfl ?_
  refine g_X11_thrown 4 rfl dX11_changed_1 lkX11_57 ?_
  refine J_if_le 9 7 (by decide) rfl dX11_changed_4 (by omega) (fun c4 => ?_) (fun c4 => ?_)
  · exfalso; omega
  · refine J_iload_n 8 rfl dX11_changed_7 rfl ?_
    refine J_iret rfl dX11_changed_8 ?_
    exact ⟨rfl, rfl⟩

/-! STROKES of the model -/
theorem S_X11_keepsHour {g : Gn} {J : DJ} {f : Nat → Nat} (h6 : f 6 ≤ 12) (hb : ∀ i, i < 269 → f i < 1000000000) : SJ g mX11_keepsHour 0 0 0 [.ref (g.2 351)] (sR J 352 f) (Rv (sR J 352 (mHour f))) NoX := by
  have shb : ∀ (h : Nat → Nat), h 6 ≤ 12 → (∀ i, i < 269 → h i < 1000000000) → mIs h → VJ g mX11_keepsHour 0 0 0 (Rv (sR J 352 (mAdd h 1))) NoX 163 [(0, .ref (g.2 351))] [] (sR J 352 h) := by
    intro h q6 qb qi
    have q0 := qi.1
    refine J_aload_n 164 rfl dX11_keepsHour_163 rfl ?_
    refine g_X11_m 167 rfl dX11_keepsHour_164 lkX11_9 ?_
    refine J_sipush 170 245 rfl dX11_keepsHour_167 sc_245 ?_
    refine J_iconst 171 2 rfl dX11_keepsHour_170 ic_2 ?_
    refine J_aload_n 172 rfl dX11_keepsHour_171 rfl ?_
    refine g_X11_m 175 rfl dX11_keepsHour_172 lkX11_9 ?_
    refine J_bipush 177 6 rfl dX11_keepsHour_175 bc_6 ?_
    refine J_mald 178 rfl dX11_keepsHour_177 (by omega) ?_
    refine J_imul 179 rfl dX11_keepsHour_178 ?_
    refine J_iadd 180 rfl dX11_keepsHour_179 ?_
    refine J_iconst 181 1 rfl dX11_keepsHour_180 ic_1 ?_
    refine J_isub 182 rfl dX11_keepsHour_181 (by omega) ?_
    refine J_dup2 183 rfl dX11_keepsHour_182 rfl rfl ?_
    refine J_mald 184 rfl dX11_keepsHour_183 (by omega) ?_
    refine J_iconst 185 1 rfl dX11_keepsHour_184 ic_1 ?_
    refine J_iadd 186 rfl dX11_keepsHour_185 ?_
    refine J_mast 187 rfl dX11_keepsHour_186 (by omega) ?_
    refine J_vret rfl dX11_keepsHour_187 ?_
    refine ⟨rfl, ?_⟩
    unfold mAdd
    rw [show 245 + 2 * h 6 - 1 = 244 + 2 * h 6 by omega]
  have opn : ∀ (h : Nat → Nat), h 6 < 12 → (∀ i, i < 269 → h i < 1000000000) → VJ g mX11_keepsHour 0 0 0 (Rv (sR J 352 (mAdd (mOpn h) 1))) NoX 107 [(0, .ref (g.2 351))] [] (sR J 352 h) := by
    intro h q6 qb
    have q1 := qb 1 (by omega)
    refine J_aload_n 108 rfl dX11_keepsHour_107 rfl ?_
    refine g_X11_m 111 rfl dX11_keepsHour_108 lkX11_9 ?_
    refine J_sipush 114 245 rfl dX11_keepsHour_111 sc_245 ?_
    refine J_iconst 115 2 rfl dX11_keepsHour_114 ic_2 ?_
    refine J_aload_n 116 rfl dX11_keepsHour_115 rfl ?_
    refine g_X11_m 119 rfl dX11_keepsHour_116 lkX11_9 ?_
    refine J_bipush 121 6 rfl dX11_keepsHour_119 bc_6 ?_
    refine J_mald 122 rfl dX11_keepsHour_121 (by omega) ?_
    refine J_imul 123 rfl dX11_keepsHour_122 ?_
    refine J_iadd 124 rfl dX11_keepsHour_123 ?_
    refine J_aload_n 125 rfl dX11_keepsHour_124 rfl ?_
    refine g_X11_m 128 rfl dX11_keepsHour_125 lkX11_9 ?_
    refine J_iconst 129 1 rfl dX11_keepsHour_128 ic_1 ?_
    refine J_mald 130 rfl dX11_keepsHour_129 (by omega) ?_
    refine J_mast 131 rfl dX11_keepsHour_130 (by omega) ?_
    refine J_aload_n 132 rfl dX11_keepsHour_131 rfl ?_
    refine g_X11_m 135 rfl dX11_keepsHour_132 lkX11_9 ?_
    refine J_sipush 138 245 rfl dX11_keepsHour_135 sc_245 ?_
    refine J_iconst 139 2 rfl dX11_keepsHour_138 ic_2 ?_
    refine J_aload_n 140 rfl dX11_keepsHour_139 rfl ?_
    refine g_X11_m 143 rfl dX11_keepsHour_140 lkX11_9 ?_
    refine J_bipush 145 6 rfl dX11_keepsHour_143 bc_6 ?_
    refine J_mald 146 rfl dX11_keepsHour_145 (by omega) ?_
    refine J_imul 147 rfl dX11_keepsHour_146 ?_
    refine J_iadd 148 rfl dX11_keepsHour_147 ?_
    refine J_iconst 149 1 rfl dX11_keepsHour_148 ic_1 ?_
    refine J_iadd 150 rfl dX11_keepsHour_149 ?_
    refine J_iconst 151 0 rfl dX11_keepsHour_150 ic_0 ?_
    refine J_mast 152 rfl dX11_keepsHour_151 (by rw [up1_ne (by omega)]; omega) ?_
    refine J_aload_n 153 rfl dX11_keepsHour_152 rfl ?_
    refine g_X11_m 156 rfl dX11_keepsHour_153 lkX11_9 ?_
    refine J_bipush 158 6 rfl dX11_keepsHour_156 bc_6 ?_
    refine J_dup2 159 rfl dX11_keepsHour_158 rfl rfl ?_
    refine J_mald 160 rfl dX11_keepsHour_159 (by omega) ?_
    refine J_iconst 161 1 rfl dX11_keepsHour_160 ic_1 ?_
    refine J_iadd 162 rfl dX11_keepsHour_161 ?_
    refine J_mast 163 rfl dX11_keepsHour_162 (by omega) ?_
    have eo : up1 (up1 (up1 h (245 + 2 * h 6) (h 1)) (245 + 2 * up1 h (245 + 2 * h 6) (h 1) 6 + 1) 0) 6 (up1 (up1 h (245 + 2 * h 6) (h 1)) (245 + 2 * up1 h (245 + 2 * h 6) (h 1) 6 + 1) 0 6 + 1) = mOpn h := by
      rw [up1_ne (i := 245 + 2 * h 6) (j := 6) (by omega), up1_ne (i := 245 + 2 * h 6 + 1) (j := 6) (by omega), up1_ne (i := 245 + 2 * h 6) (j := 6) (by omega)]
      unfold mOpn
      rw [show 245 + 2 * h 6 + 1 = 246 + 2 * h 6 by omega]
    rw [eo]
    have m6 : mOpn h 6 = h 6 + 1 := by unfold mOpn; rw [up1_self]
    refine shb (mOpn h) (by omega) (fun i hi => ?_) ⟨by omega, ?_⟩
    · have := qb i hi
      unfold mOpn
      simp only [up1_app]
      (repeat' split) <;> omega
    · rw [m6]
      unfold mOpn
      rw [up1_ne (by omega), up1_ne (by omega), show 243 + 2 * (h 6 + 1) = 245 + 2 * h 6 by omega, up1_self, up1_ne (by omega), up1_ne (by omega), up1_ne (by omega)]
  have sh : ∀ (n9 : Nat) (k : Nat) (h : Nat → Nat), 267 - k = n9 → 245 ≤ k → k ≤ 267 → f 6 = 12 → (∀ j, 245 ≤ j → j < k → h j = f (j + 2)) → (∀ j, j < 245 ∨ k ≤ j → h j = f j) → VJ g mX11_keepsHour 0 0 0 (Rv (sR J 352 (mAdd (mOpn (mSh f)) 1))) NoX 65 [(0, .ref (g.2 351)), (1, .int (nI 0)), (2, .int (nI k))] [] (sR J 352 h) := by
    intro n9
    induction n9 using Nat.strongRecOn with
    | ind n9 ih =>
      intro k h hi h1 h2 q6 hP hQ
      have e6 : h 6 = 12 := by rw [hQ 6 (by omega)]; exact q6
      refine J_iload_n 66 rfl dX11_keepsHour_65 rfl ?_
      refine J_sipush 69 267 rfl dX11_keepsHour_66 sc_267 ?_
      refine J_icmp_ge 92 72 (by decide) rfl dX11_keepsHour_69 (by omega) (by omega) (fun c69 => ?_) (fun c69 => ?_)
      · refine J_aload_n 93 rfl dX11_keepsHour_92 rfl ?_
        refine g_X11_m 96 rfl dX11_keepsHour_93 lkX11_9 ?_
        refine J_bipush 98 6 rfl dX11_keepsHour_96 bc_6 ?_
        refine J_dup2 99 rfl dX11_keepsHour_98 rfl rfl ?_
        refine J_mald 100 rfl dX11_keepsHour_99 (by omega) ?_
        refine J_iconst 101 1 rfl dX11_keepsHour_100 ic_1 ?_
        refine J_isub 102 rfl dX11_keepsHour_101 (by omega) ?_
        refine J_mast 103 rfl dX11_keepsHour_102 (by omega) ?_
        refine J_iload_n 104 rfl dX11_keepsHour_103 rfl ?_
        refine J_if_ne 163 107 (by decide) rfl dX11_keepsHour_104 (by omega) (fun c => absurd rfl c) (fun _ => ?_)
        have es : up1 h 6 (h 6 - 1) = mSh f := by
          funext j
          unfold mSh
          rw [up1_app, up1_app]
          by_cases a : j = 6
          · rw [if_pos a, if_pos a, e6]
          · rw [if_neg a, if_neg a]
            by_cases b : 245 ≤ j ∧ j < 267
            · rw [if_pos b, hP j b.1 (by omega)]
            · rw [if_neg b, hQ j (by omega)]
        rw [es]
        refine J_keep [0] ?_
        refine opn (mSh f) (by unfold mSh; rw [up1_self]; omega) (fun i hi2 => ?_)
        unfold mSh
        rw [up1_app]
        split
        · omega
        · split
          · exact hb _ (by omega)
          · exact hb _ hi2
      · refine J_aload_n 73 rfl dX11_keepsHour_72 rfl ?_
        refine g_X11_m 76 rfl dX11_keepsHour_73 lkX11_9 ?_
        refine J_iload_n 77 rfl dX11_keepsHour_76 rfl ?_
        refine J_aload_n 78 rfl dX11_keepsHour_77 rfl ?_
        refine g_X11_m 81 rfl dX11_keepsHour_78 lkX11_9 ?_
        refine J_iload_n 82 rfl dX11_keepsHour_81 rfl ?_
        refine J_iconst 83 2 rfl dX11_keepsHour_82 ic_2 ?_
        refine J_iadd 84 rfl dX11_keepsHour_83 ?_
        refine J_mald 85 rfl dX11_keepsHour_84 (by omega) ?_
        refine J_mast 86 rfl dX11_keepsHour_85 (by omega) ?_
        refine J_iinc 89 1 rfl dX11_keepsHour_86 ic_1 rfl (Nat.le_of_ble_eq_true rfl) ?_
        refine J_goto 65 (by decide) dX11_keepsHour_89 ?_
        refine ih _ (by omega) (k + 1) _ rfl (by omega) (by omega) q6 (fun j a b => ?_) (fun j hj => by rw [up1_ne (by omega)]; exact hQ j (by omega))
        rw [up1_app]
        split
        · next e => rw [hQ _ (by omega), e]
        · exact hP j a (by omega)
  refine SJ_of_VJ (by decide +kernel) (Nat.le_of_ble_eq_true rfl) ?_
  show VJ g mX11_keepsHour 0 0 0 _ _ 0 [(0, .ref (g.2 351))] [] (sR J 352 f)
  have b1 := hb 1 (by omega)
  have b2 : 0 < f 6 → f (245 + 2 * (f 6 - 1)) < 1000000000 := fun z => hb _ (by omega)
  have mid : ∀ (t : Nat), t < 2 → (t = 1 → (0 < f 6 ∧ f (243 + 2 * f 6) = f 1)) → (t = 0 → ¬ (0 < f 6 ∧ f (243 + 2 * f 6) = f 1)) → VJ g mX11_keepsHour 0 0 0 (Rv (sR J 352 (mHour f))) NoX 45 [(0, .ref (g.2 351)), (1, .int (nI t))] [] (sR J 352 f) := by
    intro t ht ht1 ht0
    unfold mHour mOp
    refine J_iload_n 46 rfl dX11_keepsHour_45 rfl ?_
    refine J_if_ne 103 49 (by decide) rfl dX11_keepsHour_46 (by omega) (fun c46 => ?_) (fun c46 => ?_)
    · refine J_iload_n 104 rfl dX11_keepsHour_103 rfl ?_
      refine J_if_ne 163 107 (by decide) rfl dX11_keepsHour_104 (by omega) (fun c104 => ?_) (fun c104 => ?_)
      · rw [if_pos (ht1 (by omega))]
        refine J_keep [0] ?_
        exact shb f h6 hb (ht1 (by omega))
      · rw [if_neg (ht0 (by omega)), if_neg (by omega)]
        refine J_keep [0] ?_
        exact opn f (by omega) hb
    · refine J_aload_n 50 rfl dX11_keepsHour_49 rfl ?_
      refine g_X11_m 53 rfl dX11_keepsHour_50 lkX11_9 ?_
      refine J_bipush 55 6 rfl dX11_keepsHour_53 bc_6 ?_
      refine J_mald 56 rfl dX11_keepsHour_55 (by omega) ?_
      refine J_bipush 58 12 rfl dX11_keepsHour_56 bc_12 ?_
      refine J_icmp_ne 103 61 (by decide) rfl dX11_keepsHour_58 (by omega) (by omega) (fun c58 => ?_) (fun c58 => ?_)
      · refine J_iload_n 104 rfl dX11_keepsHour_103 rfl ?_
        refine J_if_ne 163 107 (by decide) rfl dX11_keepsHour_104 (by omega) (fun c104 => ?_) (fun c104 => ?_)
        · rw [if_pos (ht1 (by omega))]
          refine J_keep [0] ?_
          exact shb f h6 hb (ht1 (by omega))
        · rw [if_neg (ht0 (by omega)), if_neg (by omega)]
          refine J_keep [0] ?_
          exact opn f (by omega) hb
      · refine J_sipush 64 245 rfl dX11_keepsHour_61 sc_245 ?_
        refine J_istore_n 65 rfl dX11_keepsHour_64 rfl (Nat.le_of_ble_eq_true rfl) ?_
        rw [if_neg (ht0 (by omega)), if_pos (by omega)]
        have t0 : t = 0 := by omega
        subst t0
        exact sh _ 245 f rfl (by omega) (by omega) (by omega) (fun j a b => absurd a (by omega)) (fun _ _ => rfl)
  refine J_aload_n 1 rfl dX11_keepsHour_0 rfl ?_
  refine g_X11_m 4 rfl dX11_keepsHour_1 lkX11_9 ?_
  refine J_bipush 6 6 rfl dX11_keepsHour_4 bc_6 ?_
  refine J_mald 7 rfl dX11_keepsHour_6 (by omega) ?_
  refine J_if_le 43 10 (by decide) rfl dX11_keepsHour_7 (by omega) (fun c7 => ?_) (fun c7 => ?_)
  · refine J_iconst 44 0 rfl dX11_keepsHour_43 ic_0 ?_
    refine J_istore_n 45 rfl dX11_keepsHour_44 rfl (Nat.le_of_ble_eq_true rfl) ?_
    first
      | exact mid 1 (by omega) (fun _ => ⟨by omega, by rw [show 243 + 2 * f 6 = 245 + 2 * (f 6 - 1) by omega]; omega⟩) (fun z => absurd z (by omega))
      | exact mid 0 (by omega) (fun z => absurd z (by omega)) (fun _ z => by
          have z1 := z.1
          have z2 := z.2
          rw [show 243 + 2 * f 6 = 245 + 2 * (f 6 - 1) by omega] at z2
          omega)
  · refine J_aload_n 11 rfl dX11_keepsHour_10 rfl ?_
    refine g_X11_m 14 rfl dX11_keepsHour_11 lkX11_9 ?_
    refine J_sipush 17 245 rfl dX11_keepsHour_14 sc_245 ?_
    refine J_iconst 18 2 rfl dX11_keepsHour_17 ic_2 ?_
    refine J_aload_n 19 rfl dX11_keepsHour_18 rfl ?_
    refine g_X11_m 22 rfl dX11_keepsHour_19 lkX11_9 ?_
    refine J_bipush 24 6 rfl dX11_keepsHour_22 bc_6 ?_
    refine J_mald 25 rfl dX11_keepsHour_24 (by omega) ?_
    refine J_iconst 26 1 rfl dX11_keepsHour_25 ic_1 ?_
    refine J_isub 27 rfl dX11_keepsHour_26 (by omega) ?_
    refine J_imul 28 rfl dX11_keepsHour_27 ?_
    refine J_iadd 29 rfl dX11_keepsHour_28 ?_
    refine J_mald 30 rfl dX11_keepsHour_29 (by omega) ?_
    refine J_aload_n 31 rfl dX11_keepsHour_30 rfl ?_
    refine g_X11_m 34 rfl dX11_keepsHour_31 lkX11_9 ?_
    refine J_iconst 35 1 rfl dX11_keepsHour_34 ic_1 ?_
    refine J_mald 36 rfl dX11_keepsHour_35 (by omega) ?_
    refine J_icmp_ne 43 39 (by decide) rfl dX11_keepsHour_36 (by have := b2 (by omega); omega) (by omega) (fun c36 => ?_) (fun c36 => ?_)
    · refine J_iconst 44 0 rfl dX11_keepsHour_43 ic_0 ?_
      refine J_istore_n 45 rfl dX11_keepsHour_44 rfl (Nat.le_of_ble_eq_true rfl) ?_
      first
        | exact mid 1 (by omega) (fun _ => ⟨by omega, by rw [show 243 + 2 * f 6 = 245 + 2 * (f 6 - 1) by omega]; omega⟩) (fun z => absurd z (by omega))
        | exact mid 0 (by omega) (fun z => absurd z (by omega)) (fun _ z => by
            have z1 := z.1
            have z2 := z.2
            rw [show 243 + 2 * f 6 = 245 + 2 * (f 6 - 1) by omega] at z2
            omega)
    · refine J_iconst 40 1 rfl dX11_keepsHour_39 ic_1 ?_
      refine J_goto 44 (by decide) dX11_keepsHour_40 ?_
      refine J_istore_n 45 rfl dX11_keepsHour_44 rfl (Nat.le_of_ble_eq_true rfl) ?_
      first
        | exact mid 1 (by omega) (fun _ => ⟨by omega, by rw [show 243 + 2 * f 6 = 245 + 2 * (f 6 - 1) by omega]; omega⟩) (fun z => absurd z (by omega))
        | exact mid 0 (by omega) (fun z => absurd z (by omega)) (fun _ z => by
            have z1 := z.1
            have z2 := z.2
            rw [show 243 + 2 * f 6 = 245 + 2 * (f 6 - 1) by omega] at z2
            omega)

theorem S_X11_keepsKnock {g : Gn} {J : DJ} {f : Nat → Nat} {e c : Nat} (he : e < 4) (hc : c < 8) (h3 : f (7 + 52 * e + 3) ≤ 24) (h6 : f 6 ≤ 12) (hb : ∀ i, i < 269 → f i < 900000000) : SJ g mX11_keepsKnock 1 0 0 [.ref (g.2 351), .int (nI (e)), .int (nI (c))] (sR J 352 f) (Rv (sR J 352 (mHour (mKn f (7 + 52 * e) c)))) NoX := by
  refine SJ_of_VJ (by decide +kernel) (Nat.le_of_ble_eq_true rfl) ?_
  show VJ g mX11_keepsKnock 1 0 0 _ _ 0 [(0, .ref (g.2 351)), (1, .int (nI (e))), (2, .int (nI (c)))] [] (sR J 352 f)
  have fin : ∀ (h : Nat → Nat), (∀ i, i < 269 → h i < 900000000) → h 6 ≤ 12 → h (7 + 52 * e + 3) < 24 → up1 (up1 h (7 + 52 * e + 28 + h (7 + 52 * e + 3)) c) (7 + 52 * e + 3) (h (7 + 52 * e + 3) + 1) = mKn f (7 + 52 * e) c → VJ g mX11_keepsKnock 1 0 0 (Rv (sR J 352 (mHour (mKn f (7 + 52 * e) c)))) NoX 72 [(0, .ref (g.2 351)), (1, .int (nI e)), (2, .int (nI c)), (3, .int (nI (7 + 52 * e)))] [] (sR J 352 h) := by
    intro h qb q6 q3 eq
    refine J_aload_n 73 rfl dX11_keepsKnock_72 rfl ?_
    refine g_X11_m 76 rfl dX11_keepsKnock_73 lkX11_9 ?_
    refine J_iload_n 77 rfl dX11_keepsKnock_76 rfl ?_
    refine J_bipush 79 28 rfl dX11_keepsKnock_77 bc_28 ?_
    refine J_iadd 80 rfl dX11_keepsKnock_79 ?_
    refine J_aload_n 81 rfl dX11_keepsKnock_80 rfl ?_
    refine g_X11_m 84 rfl dX11_keepsKnock_81 lkX11_9 ?_
    refine J_iload_n 85 rfl dX11_keepsKnock_84 rfl ?_
    refine J_iconst 86 3 rfl dX11_keepsKnock_85 ic_3 ?_
    refine J_iadd 87 rfl dX11_keepsKnock_86 ?_
    refine J_mald 88 rfl dX11_keepsKnock_87 (by omega) ?_
    refine J_iadd 89 rfl dX11_keepsKnock_88 ?_
    refine J_iload_n 90 rfl dX11_keepsKnock_89 rfl ?_
    refine J_mast 91 rfl dX11_keepsKnock_90 (by omega) ?_
    refine J_aload_n 92 rfl dX11_keepsKnock_91 rfl ?_
    refine g_X11_m 95 rfl dX11_keepsKnock_92 lkX11_9 ?_
    refine J_iload_n 96 rfl dX11_keepsKnock_95 rfl ?_
    refine J_iconst 97 3 rfl dX11_keepsKnock_96 ic_3 ?_
    refine J_iadd 98 rfl dX11_keepsKnock_97 ?_
    refine J_dup2 99 rfl dX11_keepsKnock_98 rfl rfl ?_
    refine J_mald 100 rfl dX11_keepsKnock_99 (by omega) ?_
    refine J_iconst 101 1 rfl dX11_keepsKnock_100 ic_1 ?_
    refine J_iadd 102 rfl dX11_keepsKnock_101 ?_
    refine J_mast 103 rfl dX11_keepsKnock_102 (by omega) ?_
    refine J_aload_n 104 rfl dX11_keepsKnock_103 rfl ?_
    refine J_callVv (As := []) 107 _ rfl kalX11_keepsHour lkX11_78 dX11_keepsKnock_104 (lt_X11) (so_X11) rfl rfl rfl (by exact Nat.le_of_ble_eq_true rfl) (by omega) (S_X11_keepsHour (by rw [up1_ne (by omega), up1_ne (by omega)]; exact q6) (fun i hi => by
    have := qb i hi
    have := qb (7 + 52 * e + 3) (by omega)
    simp only [up1_app]
    (repeat' split) <;> omega)) ?_
    refine J_vret rfl dX11_keepsKnock_107 ?_
    rw [up1_ne (i := 7 + 52 * e + 28 + h (7 + 52 * e + 3)) (j := 7 + 52 * e + 3) (by omega), eq]
    exact ⟨rfl, rfl⟩
  have sh : ∀ (n9 : Nat) (k : Nat) (h : Nat → Nat), 24 - k = n9 → 1 ≤ k → k ≤ 24 → f (7 + 52 * e + 3) = 24 → (∀ j, 7 + 52 * e + 28 ≤ j → j + 1 < 7 + 52 * e + 28 + k → h j = f (j + 1)) → (∀ j, j < 7 + 52 * e + 28 ∨ 7 + 52 * e + 28 + k ≤ j + 1 → h j = f j) → VJ g mX11_keepsKnock 1 0 0 (Rv (sR J 352 (mHour (mKn f (7 + 52 * e) c)))) NoX 21 [(0, .ref (g.2 351)), (1, .int (nI e)), (2, .int (nI c)), (3, .int (nI (7 + 52 * e))), (4, .int (nI k))] [] (sR J 352 h) := by
    intro n9
    induction n9 using Nat.strongRecOn with
    | ind n9 ih =>
      intro k h hi h1 h2 q3 hP hQ
      have e3 : h (7 + 52 * e + 3) = 24 := by rw [hQ _ (by omega)]; exact q3
      refine J_iload 23 rfl dX11_keepsKnock_21 rfl ?_
      refine J_bipush 25 24 rfl dX11_keepsKnock_23 bc_24 ?_
      refine J_icmp_ge 60 28 (by decide) rfl dX11_keepsKnock_25 (by omega) (by omega) (fun c25 => ?_) (fun c25 => ?_)
      · refine J_aload_n 61 rfl dX11_keepsKnock_60 rfl ?_
        refine g_X11_m 64 rfl dX11_keepsKnock_61 lkX11_9 ?_
        refine J_iload_n 65 rfl dX11_keepsKnock_64 rfl ?_
        refine J_iconst 66 3 rfl dX11_keepsKnock_65 ic_3 ?_
        refine J_iadd 67 rfl dX11_keepsKnock_66 ?_
        refine J_dup2 68 rfl dX11_keepsKnock_67 rfl rfl ?_
        refine J_mald 69 rfl dX11_keepsKnock_68 (by omega) ?_
        refine J_iconst 70 1 rfl dX11_keepsKnock_69 ic_1 ?_
        refine J_isub 71 rfl dX11_keepsKnock_70 (by omega) ?_
        refine J_mast 72 rfl dX11_keepsKnock_71 (by omega) ?_
        refine J_keep [0, 1, 2, 3] ?_
        have e23 : up1 h (7 + 52 * e + 3) (h (7 + 52 * e + 3) - 1) (7 + 52 * e + 3) = 23 := by rw [up1_self, e3]
        refine fin (up1 h (7 + 52 * e + 3) (h (7 + 52 * e + 3) - 1)) (fun i hi2 => ?_) ?_ (by omega) ?_
        · rw [up1_app]
          split
          · omega
          · by_cases a : 7 + 52 * e + 28 ≤ i ∧ i + 1 < 7 + 52 * e + 28 + k
            · rw [hP i a.1 a.2]; exact hb _ (by omega)
            · rw [hQ i (by omega)]; exact hb _ hi2
        · rw [up1_ne (by omega), hQ 6 (by omega)]; exact h6
        · rw [e23]
          unfold mKn
          rw [if_pos q3]
          funext j
          simp only [up1_app]
          by_cases a : j = 7 + 52 * e + 3
          · rw [if_pos a, if_pos a]
          · rw [if_neg a, if_neg a, if_neg a]
            by_cases b : j = 7 + 52 * e + 51
            · rw [if_pos (by omega), if_pos b]
            · rw [if_neg (by omega), if_neg b]
              unfold mShK
              by_cases z : 7 + 52 * e + 28 ≤ j ∧ j < 7 + 52 * e + 51
              · rw [if_pos z, hP j z.1 (by omega)]
              · rw [if_neg z, hQ j (by omega)]
      · refine J_aload_n 29 rfl dX11_keepsKnock_28 rfl ?_
        refine g_X11_m 32 rfl dX11_keepsKnock_29 lkX11_9 ?_
        refine J_iload_n 33 rfl dX11_keepsKnock_32 rfl ?_
        refine J_bipush 35 28 rfl dX11_keepsKnock_33 bc_28 ?_
        refine J_iadd 36 rfl dX11_keepsKnock_35 ?_
        refine J_iload 38 rfl dX11_keepsKnock_36 rfl ?_
        refine J_iadd 39 rfl dX11_keepsKnock_38 ?_
        refine J_iconst 40 1 rfl dX11_keepsKnock_39 ic_1 ?_
        refine J_isub 41 rfl dX11_keepsKnock_40 (by omega) ?_
        refine J_aload_n 42 rfl dX11_keepsKnock_41 rfl ?_
        refine g_X11_m 45 rfl dX11_keepsKnock_42 lkX11_9 ?_
        refine J_iload_n 46 rfl dX11_keepsKnock_45 rfl ?_
        refine J_bipush 48 28 rfl dX11_keepsKnock_46 bc_28 ?_
        refine J_iadd 49 rfl dX11_keepsKnock_48 ?_
        refine J_iload 51 rfl dX11_keepsKnock_49 rfl ?_
        refine J_iadd 52 rfl dX11_keepsKnock_51 ?_
        refine J_mald 53 rfl dX11_keepsKnock_52 (by omega) ?_
        refine J_mast 54 rfl dX11_keepsKnock_53 (by omega) ?_
        refine J_iinc 57 1 rfl dX11_keepsKnock_54 ic_1 rfl (Nat.le_of_ble_eq_true rfl) ?_
        refine J_goto 21 (by decide) dX11_keepsKnock_57 ?_
        refine ih _ (by omega) (k + 1) _ rfl (by omega) (by omega) q3 (fun j a b => ?_) (fun j hj => by rw [up1_ne (by omega)]; exact hQ j (by omega))
        rw [up1_app]
        split
        · next z => rw [hQ _ (by omega)]; congr 1; omega
        · exact hP j a (by omega)
  refine J_iload_n 1 rfl dX11_keepsKnock_0 rfl ?_
  refine J_callSi (As := [_]) 4 rfl kalX11_engineAt lkX11_67 dX11_keepsKnock_1 rfl rfl (by exact Nat.le_of_ble_eq_true rfl) (by omega) (S_X11_engineAt) ?_
  refine J_istore_n 5 rfl dX11_keepsKnock_4 rfl (Nat.le_of_ble_eq_true rfl) ?_
  refine J_aload_n 6 rfl dX11_keepsKnock_5 rfl ?_
  refine g_X11_m 9 rfl dX11_keepsKnock_6 lkX11_9 ?_
  refine J_iload_n 10 rfl dX11_keepsKnock_9 rfl ?_
  refine J_iconst 11 3 rfl dX11_keepsKnock_10 ic_3 ?_
  refine J_iadd 12 rfl dX11_keepsKnock_11 ?_
  refine J_mald 13 rfl dX11_keepsKnock_12 (by omega) ?_
  refine J_bipush 15 24 rfl dX11_keepsKnock_13 bc_24 ?_
  refine J_icmp_ne 72 18 (by decide) rfl dX11_keepsKnock_15 (by omega) (by omega) (fun c15 => ?_) (fun c15 => ?_)
  · refine fin f hb h6 (by omega) ?_
    unfold mKn
    rw [if_neg (by omega)]
  · refine J_iconst 19 1 rfl dX11_keepsKnock_18 ic_1 ?_
    refine J_istore 21 rfl dX11_keepsKnock_19 (Nat.le_of_ble_eq_true rfl) ?_
    exact sh _ 1 f rfl (by omega) (by omega) (by omega) (fun j a b => absurd b (by omega)) (fun _ _ => rfl)

theorem mHour_far {h h2 : Nat → Nat} (h6 : h 6 ≤ 12) (e : HEq2 h h2) {j : Nat} (hj : j ≠ 6 ∧ (j < 245 ∨ 269 ≤ j)) : mHour h2 j = h2 j := mHour_out (by rw [e.2.1]; exact h6) hj.1 hj.2
theorem eSt_mHourN {h : Nat → Nat} {o : Nat} (ho : EOk h o) (h6 : h 6 ≤ 12) (h7 : 7 ≤ o) (h2 : o + 52 ≤ 245) (K : Nat) : eSt (mHourN h K) o = mHourN (eSt h o) K := by
  have ee : EEq h (mHourN h K) o := fun i a b => mHourN_out h6 (by omega) (by omega) K
  have oN := EEq.ok ho ee
  have e6 : eSt h o 6 ≤ 12 := by rw [eSt_out ho (by omega)]; exact h6
  have he : HEq2 h (eSt h o) := ⟨eSt_out ho (by omega), eSt_out ho (by omega), fun k a b => eSt_out ho (by omega)⟩
  have hN := HEq2.hourN he h6 K
  funext j
  by_cases a : o ≤ j ∧ j < o + 52
  · rw [mHourN_out e6 (by omega) (by omega)]
    exact EEq.st ho ee j a.1 a.2
  · rw [eSt_out oN (by omega)]
    by_cases b1 : j = 1
    · rw [b1]; exact hN.1.symm
    · by_cases b2 : j = 6
      · rw [b2]; exact hN.2.1.symm
      · by_cases b3 : 245 ≤ j ∧ j < 269
        · exact (hN.2.2 j b3.1 b3.2).symm
        · rw [mHourN_out h6 b2 (by omega), mHourN_out e6 b2 (by omega), eSt_out ho (by omega)]
theorem mHour_up {h : Nat → Nat} {i v : Nat} (h6 : h 6 ≤ 12) (hi : i ≠ 1 ∧ i ≠ 6 ∧ i < 245) : mHour (up1 h i v) = up1 (mHour h) i v := by
  have he : HEq2 h (up1 h i v) := ⟨up1_ne (by omega), up1_ne (by omega), fun k a b => up1_ne (by omega)⟩
  have hN := HEq2.hour he h6
  have e6 : up1 h i v 6 ≤ 12 := by rw [up1_ne (by omega)]; exact h6
  funext j
  by_cases a : j = i
  · rw [a, up1_self, mHour_out e6 hi.2.1 (by omega), up1_self]
  · rw [up1_ne a]
    by_cases b1 : j = 1
    · rw [b1]; exact hN.1
    · by_cases b2 : j = 6
      · rw [b2]; exact hN.2.1
      · by_cases b3 : 245 ≤ j ∧ j < 269
        · exact hN.2.2 j b3.1 b3.2
        · rw [mHour_out e6 b2 (by omega), mHour_out h6 b2 (by omega), up1_ne a]
theorem S_X11_strokes {g : Gn} {J : DJ} {f : Nat → Nat} {e t B : Nat} (hw : WF f B) (he : e < f 0) (hB : B + t < 800000000) : SJ g mX11_strokes 2 0 0 [.ref (g.2 351), .int (nI (e)), .int (nI (t))] (sR J 352 f) (Rp (eKn f (7 + 52 * e) t) (fun J2 => J2 = sR J 352 (xRun f e t))) NoX := by
  have h0 := hw.1
  have hO := hw.2.2.2.2.2.1 e he
  refine SJ_of_VJ (by decide +kernel) (Nat.le_of_ble_eq_true rfl) ?_
  show VJ g mX11_strokes 2 0 0 _ _ 0 [(0, .ref (g.2 351)), (1, .int (nI (e))), (2, .int (nI (t)))] [] (sR J 352 f)
  have loop : ∀ (n9 : Nat) (k : Nat), t - k = n9 → k ≤ t → VJ g mX11_strokes 2 0 0 (Rp (eKn f (7 + 52 * e) t) (fun J2 => J2 = sR J 352 (xRun f e t))) NoX 11 [(0, .ref (g.2 351)), (1, .int (nI e)), (2, .int (nI t)), (3, .int (nI (7 + 52 * e))), (4, .int (nI (eKn f (7 + 52 * e) k))), (5, .int (nI k))] [] (sR J 352 (xRun f e k)) := by
    intro n9
    induction n9 using Nat.strongRecOn with
    | ind n9 ih =>
      intro k hi hk
      have wk := xRun_WF (s := k) hw he
      have ok : EOk (xRun f e k) (7 + 52 * e) := wk.2.2.2.2.2.1 e (by
        have : xRun f e k 0 = f 0 := xRun_out hw.2.2.2.1.1 (by omega) hO (by omega) (by omega) (by omega)
        omega)
      have w6 := wk.2.2.2.1.1
      have wb := wk.2.2.2.2.2.2.2.2.1
      have o1 := ok.1
      have o2 := ok.2.1
      have o3 := ok.2.2.1
      have oc := eCy_lt ok
      have wv := wb (7 + 52 * e + 12 + eCy (xRun f e k) (7 + 52 * e)) (by omega)
      have sO := eStN_ok hO k
      have ee := xRun_eng (s := k) hw.2.2.2.1.1 (by omega) hO
      have eK : eKn f (7 + 52 * e) (k + 1) = eKn f (7 + 52 * e) k + eK1 (xRun f e k) (7 + 52 * e) := by
        show eKn f (7 + 52 * e) k + eK1 (eStN f (7 + 52 * e) k) (7 + 52 * e) = _
        rw [EEq.k1 sO ee]
      have s6 : eStN f (7 + 52 * e) k 6 ≤ 12 := by rw [eStN_out hO (by omega)]; exact hw.2.2.2.1.1
      have eS : xRun f e (k + 1) = if 0 < xRun f e k (7 + 52 * e + 12 + eCy (xRun f e k) (7 + 52 * e)) then eSt (xRun f e k) (7 + 52 * e) else mHour (eSt (xRun f e k) (7 + 52 * e)) := by
        have q := eSt_mHourN sO s6 (by omega) (by omega) (eKn f (7 + 52 * e) k)
        have q2 : eSt (xRun f e k) (7 + 52 * e) = mHourN (eStN f (7 + 52 * e) (k + 1)) (eKn f (7 + 52 * e) k) := q
        unfold eK1 at eK
        show mHourN (eStN f (7 + 52 * e) (k + 1)) (eKn f (7 + 52 * e) (k + 1)) = _
        rw [eK, q2]
        split
        · rfl
        · rfl
      unfold eK1 at eK
      refine J_iload 13 rfl dX11_strokes_11 rfl ?_
      refine J_iload_n 14 rfl dX11_strokes_13 rfl ?_
      refine J_icmp_ge 122 17 (by decide) rfl dX11_strokes_14 (by omega) (by omega) (fun c14 => ?_) (fun c14 => ?_)
      · refine J_iload 124 rfl dX11_strokes_122 rfl ?_
        refine J_iret rfl dX11_strokes_124 ?_
        have e9 : k = t := by omega
        subst e9
        exact ⟨rfl, rfl⟩
      · refine J_aload_n 18 rfl dX11_strokes_17 rfl ?_
        refine J_iload_n 19 rfl dX11_strokes_18 rfl ?_
        refine J_aload_n 20 rfl dX11_strokes_19 rfl ?_
        refine g_X11_m 23 rfl dX11_strokes_20 lkX11_9 ?_
        refine J_iload_n 24 rfl dX11_strokes_23 rfl ?_
        refine J_iconst 25 1 rfl dX11_strokes_24 ic_1 ?_
        refine J_iadd 26 rfl dX11_strokes_25 ?_
        refine J_mald 27 rfl dX11_strokes_26 (by omega) ?_
        refine J_callVi (As := [_, _]) 30 _ rfl kalX11_order lkX11_81 dX11_strokes_27 (lt_X11) (so_X11) rfl rfl rfl (by exact Nat.le_of_ble_eq_true rfl) (by omega) (S_X11_order (by omega) (by omega)) ?_
        refine J_cv (b := eCy (xRun f e k) (7 + 52 * e)) rfl ?_
        refine J_istore 32 rfl dX11_strokes_30 (Nat.le_of_ble_eq_true rfl) ?_
        refine J_aload_n 33 rfl dX11_strokes_32 rfl ?_
        refine g_X11_m 36 rfl dX11_strokes_33 lkX11_9 ?_
        refine J_iload_n 37 rfl dX11_strokes_36 rfl ?_
        refine J_bipush 39 12 rfl dX11_strokes_37 bc_12 ?_
        refine J_iadd 40 rfl dX11_strokes_39 ?_
        refine J_iload 42 rfl dX11_strokes_40 rfl ?_
        refine J_iadd 43 rfl dX11_strokes_42 ?_
        refine J_mald 44 rfl dX11_strokes_43 (by omega) ?_
        refine J_if_le 82 47 (by decide) rfl dX11_strokes_44 (by omega) (fun c44 => ?_) (fun c44 => ?_)
        · refine J_aload_n 83 rfl dX11_strokes_82 rfl ?_
          refine J_iload_n 84 rfl dX11_strokes_83 rfl ?_
          refine J_iload 86 rfl dX11_strokes_84 rfl ?_
          refine J_callVv (As := [_, _]) 89 _ rfl kalX11_keepsKnock lkX11_85 dX11_strokes_86 (lt_X11) (so_X11) rfl rfl rfl (by exact Nat.le_of_ble_eq_true rfl) (by omega) (S_X11_keepsKnock (by omega) (by omega) ok.2.2.2.2.1 w6 (fun i hi2 => by have := wb i hi2; omega)) ?_
          refine J_iinc 92 1 rfl dX11_strokes_89 ic_1 rfl (Nat.le_of_ble_eq_true rfl) ?_
          have tl : ∀ (h : Nat → Nat) (K : Nat), h (7 + 52 * e) = xRun f e k (7 + 52 * e) → h (7 + 52 * e + 1) = xRun f e k (7 + 52 * e + 1) → up1 h (7 + 52 * e + 1) ((xRun f e k (7 + 52 * e + 1) + 1) % xRun f e k (7 + 52 * e)) = xRun f e (k + 1) → K = eKn f (7 + 52 * e) (k + 1) → VJ g mX11_strokes 2 0 0 (Rp (eKn f (7 + 52 * e) t) (fun J2 => J2 = sR J 352 (xRun f e t))) NoX 92 [(0, .ref (g.2 351)), (1, .int (nI e)), (2, .int (nI t)), (3, .int (nI (7 + 52 * e))), (4, .int (nI K)), (5, .int (nI k))] [] (sR J 352 h) := by
            intro h K q0 q1 q2 q3
            refine J_aload_n 93 rfl dX11_strokes_92 rfl ?_
            refine g_X11_m 96 rfl dX11_strokes_93 lkX11_9 ?_
            refine J_iload_n 97 rfl dX11_strokes_96 rfl ?_
            refine J_iconst 98 1 rfl dX11_strokes_97 ic_1 ?_
            refine J_iadd 99 rfl dX11_strokes_98 ?_
            refine J_aload_n 100 rfl dX11_strokes_99 rfl ?_
            refine g_X11_m 103 rfl dX11_strokes_100 lkX11_9 ?_
            refine J_iload_n 104 rfl dX11_strokes_103 rfl ?_
            refine J_iconst 105 1 rfl dX11_strokes_104 ic_1 ?_
            refine J_iadd 106 rfl dX11_strokes_105 ?_
            refine J_mald 107 rfl dX11_strokes_106 (by omega) ?_
            refine J_iconst 108 1 rfl dX11_strokes_107 ic_1 ?_
            refine J_iadd 109 rfl dX11_strokes_108 ?_
            refine J_aload_n 110 rfl dX11_strokes_109 rfl ?_
            refine J_iload_n 111 rfl dX11_strokes_110 rfl ?_
            refine J_callVi (As := [_]) 114 _ rfl kalX11_many lkX11_75 dX11_strokes_111 (lt_X11) (so_X11) rfl rfl rfl (by exact Nat.le_of_ble_eq_true rfl) (by omega) (S_X11_many (by omega)) ?_
            refine J_irem 115 rfl dX11_strokes_114 (by omega) (by omega) (by omega) ?_
            refine J_mast 116 rfl dX11_strokes_115 (by omega) ?_
            refine J_iinc 119 1 rfl dX11_strokes_116 ic_1 rfl (Nat.le_of_ble_eq_true rfl) ?_
            refine J_goto 11 (by decide) dX11_strokes_119 ?_
            rw [q0, q1, q2, q3]
            exact ih _ (by omega) (k + 1) rfl (by omega)
          refine J_keep [0, 1, 2, 3, 4, 5] ?_
          first
            | (have hp : 0 < xRun f e k (7 + 52 * e + 12 + eCy (xRun f e k) (7 + 52 * e)) := by omega
               rw [if_pos hp] at eK eS
               refine tl _ _ ?_ ?_ ?_ (by omega)
               · rw [up1_ne (by omega), up1_ne (by omega)]
               · rw [up1_ne (by omega), up1_ne (by omega)]
               · rw [eS]
                 unfold eSt eDo
                 rw [if_pos hp, up1_ne (i := 7 + 52 * e + 12 + eCy (xRun f e k) (7 + 52 * e)) (j := 7 + 52 * e + 20 + eCy (xRun f e k) (7 + 52 * e)) (by omega)]; done)
            | (have hp : ¬ 0 < xRun f e k (7 + 52 * e + 12 + eCy (xRun f e k) (7 + 52 * e)) := by omega
               rw [if_neg hp] at eK eS
               have k6 : mKn (xRun f e k) (7 + 52 * e) (eCy (xRun f e k) (7 + 52 * e)) 6 ≤ 12 := by rw [mKn_out ok.2.2.2.2.1 (by omega)]; exact w6
               refine tl _ _ ?_ ?_ ?_ (by omega)
               · rw [mHour_out k6 (by omega) (by omega), mKn_lo ok.2.2.2.2.1 (by omega) (by omega)]
               · rw [mHour_out k6 (by omega) (by omega), mKn_lo ok.2.2.2.2.1 (by omega) (by omega)]
               · rw [← mHour_up k6 (by omega), eS]
                 unfold eSt eDo
                 rw [if_neg hp]; done)
        · refine J_aload_n 48 rfl dX11_strokes_47 rfl ?_
          refine g_X11_m 51 rfl dX11_strokes_48 lkX11_9 ?_
          refine J_iload_n 52 rfl dX11_strokes_51 rfl ?_
          refine J_bipush 54 12 rfl dX11_strokes_52 bc_12 ?_
          refine J_iadd 55 rfl dX11_strokes_54 ?_
          refine J_iload 57 rfl dX11_strokes_55 rfl ?_
          refine J_iadd 58 rfl dX11_strokes_57 ?_
          refine J_dup2 59 rfl dX11_strokes_58 rfl rfl ?_
          refine J_mald 60 rfl dX11_strokes_59 (by omega) ?_
          refine J_iconst 61 1 rfl dX11_strokes_60 ic_1 ?_
          refine J_isub 62 rfl dX11_strokes_61 (by omega) ?_
          refine J_mast 63 rfl dX11_strokes_62 (by omega) ?_
          refine J_aload_n 64 rfl dX11_strokes_63 rfl ?_
          refine g_X11_m 67 rfl dX11_strokes_64 lkX11_9 ?_
          refine J_iload_n 68 rfl dX11_strokes_67 rfl ?_
          refine J_bipush 70 20 rfl dX11_strokes_68 bc_20 ?_
          refine J_iadd 71 rfl dX11_strokes_70 ?_
          refine J_iload 73 rfl dX11_strokes_71 rfl ?_
          refine J_iadd 74 rfl dX11_strokes_73 ?_
          refine J_dup2 75 rfl dX11_strokes_74 rfl rfl ?_
          refine J_mald 76 rfl dX11_strokes_75 (by omega) ?_
          refine J_iconst 77 1 rfl dX11_strokes_76 ic_1 ?_
          refine J_iadd 78 rfl dX11_strokes_77 ?_
          refine J_mast 79 rfl dX11_strokes_78 (by omega) ?_
          refine J_goto 92 (by decide) dX11_strokes_79 ?_
          have tl : ∀ (h : Nat → Nat) (K : Nat), h (7 + 52 * e) = xRun f e k (7 + 52 * e) → h (7 + 52 * e + 1) = xRun f e k (7 + 52 * e + 1) → up1 h (7 + 52 * e + 1) ((xRun f e k (7 + 52 * e + 1) + 1) % xRun f e k (7 + 52 * e)) = xRun f e (k + 1) → K = eKn f (7 + 52 * e) (k + 1) → VJ g mX11_strokes 2 0 0 (Rp (eKn f (7 + 52 * e) t) (fun J2 => J2 = sR J 352 (xRun f e t))) NoX 92 [(0, .ref (g.2 351)), (1, .int (nI e)), (2, .int (nI t)), (3, .int (nI (7 + 52 * e))), (4, .int (nI K)), (5, .int (nI k))] [] (sR J 352 h) := by
            intro h K q0 q1 q2 q3
            refine J_aload_n 93 rfl dX11_strokes_92 rfl ?_
            refine g_X11_m 96 rfl dX11_strokes_93 lkX11_9 ?_
            refine J_iload_n 97 rfl dX11_strokes_96 rfl ?_
            refine J_iconst 98 1 rfl dX11_strokes_97 ic_1 ?_
            refine J_iadd 99 rfl dX11_strokes_98 ?_
            refine J_aload_n 100 rfl dX11_strokes_99 rfl ?_
            refine g_X11_m 103 rfl dX11_strokes_100 lkX11_9 ?_
            refine J_iload_n 104 rfl dX11_strokes_103 rfl ?_
            refine J_iconst 105 1 rfl dX11_strokes_104 ic_1 ?_
            refine J_iadd 106 rfl dX11_strokes_105 ?_
            refine J_mald 107 rfl dX11_strokes_106 (by omega) ?_
            refine J_iconst 108 1 rfl dX11_strokes_107 ic_1 ?_
            refine J_iadd 109 rfl dX11_strokes_108 ?_
            refine J_aload_n 110 rfl dX11_strokes_109 rfl ?_
            refine J_iload_n 111 rfl dX11_strokes_110 rfl ?_
            refine J_callVi (As := [_]) 114 _ rfl kalX11_many lkX11_75 dX11_strokes_111 (lt_X11) (so_X11) rfl rfl rfl (by exact Nat.le_of_ble_eq_true rfl) (by omega) (S_X11_many (by omega)) ?_
            refine J_irem 115 rfl dX11_strokes_114 (by omega) (by omega) (by omega) ?_
            refine J_mast 116 rfl dX11_strokes_115 (by omega) ?_
            refine J_iinc 119 1 rfl dX11_strokes_116 ic_1 rfl (Nat.le_of_ble_eq_true rfl) ?_
            refine J_goto 11 (by decide) dX11_strokes_119 ?_
            rw [q0, q1, q2, q3]
            exact ih _ (by omega) (k + 1) rfl (by omega)
          refine J_keep [0, 1, 2, 3, 4, 5] ?_
          first
            | (have hp : 0 < xRun f e k (7 + 52 * e + 12 + eCy (xRun f e k) (7 + 52 * e)) := by omega
               rw [if_pos hp] at eK eS
               refine tl _ _ ?_ ?_ ?_ (by omega)
               · rw [up1_ne (by omega), up1_ne (by omega)]
               · rw [up1_ne (by omega), up1_ne (by omega)]
               · rw [eS]
                 unfold eSt eDo
                 rw [if_pos hp, up1_ne (i := 7 + 52 * e + 12 + eCy (xRun f e k) (7 + 52 * e)) (j := 7 + 52 * e + 20 + eCy (xRun f e k) (7 + 52 * e)) (by omega)]; done)
            | (have hp : ¬ 0 < xRun f e k (7 + 52 * e + 12 + eCy (xRun f e k) (7 + 52 * e)) := by omega
               rw [if_neg hp] at eK eS
               have k6 : mKn (xRun f e k) (7 + 52 * e) (eCy (xRun f e k) (7 + 52 * e)) 6 ≤ 12 := by rw [mKn_out ok.2.2.2.2.1 (by omega)]; exact w6
               refine tl _ _ ?_ ?_ ?_ (by omega)
               · rw [mHour_out k6 (by omega) (by omega), mKn_lo ok.2.2.2.2.1 (by omega) (by omega)]
               · rw [mHour_out k6 (by omega) (by omega), mKn_lo ok.2.2.2.2.1 (by omega) (by omega)]
               · rw [← mHour_up k6 (by omega), eS]
                 unfold eSt eDo
                 rw [if_neg hp]; done)
  refine J_iload_n 1 rfl dX11_strokes_0 rfl ?_
  refine J_callSi (As := [_]) 4 rfl kalX11_engineAt lkX11_67 dX11_strokes_1 rfl rfl (by exact Nat.le_of_ble_eq_true rfl) (by omega) (S_X11_engineAt) ?_
  refine J_istore_n 5 rfl dX11_strokes_4 rfl (Nat.le_of_ble_eq_true rfl) ?_
  refine J_iconst 6 0 rfl dX11_strokes_5 ic_0 ?_
  refine J_istore 8 rfl dX11_strokes_6 (Nat.le_of_ble_eq_true rfl) ?_
  refine J_iconst 9 0 rfl dX11_strokes_8 ic_0 ?_
  refine J_istore 11 rfl dX11_strokes_9 (Nat.le_of_ble_eq_true rfl) ?_
  exact loop _ 0 rfl (Nat.zero_le _)

theorem S_X11_passesHours {g : Gn} {J : DJ} {f : Nat → Nat} {t B : Nat} (hw : WF f B) (ht : t ≤ 48) (hB : B < 700000000) : SJ g mX11_passesHours 3 0 0 [.ref (g.2 351), .int (nI (t))] (sR J 352 f) (Rp (psK f t) (fun J2 => J2 = sR J 352 (psN f t))) NoX := by
  refine SJ_of_VJ (by decide +kernel) (Nat.le_of_ble_eq_true rfl) ?_
  show VJ g mX11_passesHours 3 0 0 _ _ 0 [(0, .ref (g.2 351)), (1, .int (nI (t)))] [] (sR J 352 f)
  have outer : ∀ (n9 : Nat) (k : Nat), t - k = n9 → k ≤ t → VJ g mX11_passesHours 3 0 0 (Rp (psK f t) (fun J2 => J2 = sR J 352 (psN f t))) NoX 4 [(0, .ref (g.2 351)), (1, .int (nI t)), (2, .int (nI (psK f k))), (3, .int (nI k))] [] (sR J 352 (psN f k)) := by
    intro n9
    induction n9 using Nat.strongRecOn with
    | ind n9 ih =>
      intro k hi hk
      have wk := psN_WF hw k
      have w0 := wk.1.1
      have inner : k < t → ∀ (m9 : Nat) (e : Nat), psN f k 0 - e = m9 → e ≤ psN f k 0 → VJ g mX11_passesHours 3 0 0 (Rp (psK f t) (fun J2 => J2 = sR J 352 (psN f t))) NoX 22 [(0, .ref (g.2 351)), (1, .int (nI t)), (2, .int (nI (psK f k + hrK (psN f k) e))), (3, .int (nI k)), (4, .int (nI e))] [] (sR J 352 (hrE (psN f k) e)) := by
        intro hkt m9
        induction m9 using Nat.strongRecOn with
        | ind m9 ih2 =>
          intro e hi2 he
          have we := hrE_WF wk.1 e he
          have hO := we.1.2.2.2.2.2.1
          have e0 := we.2
          refine J_iload 24 rfl dX11_passesHours_22 rfl ?_
          refine J_aload_n 25 rfl dX11_passesHours_24 rfl ?_
          refine g_X11_m 28 rfl dX11_passesHours_25 lkX11_9 ?_
          refine J_iconst 29 0 rfl dX11_passesHours_28 ic_0 ?_
          refine J_mald 30 rfl dX11_passesHours_29 (by omega) ?_
          refine J_cv (b := psN f k 0) e0 ?_
          refine J_icmp_ge 60 33 (by decide) rfl dX11_passesHours_30 (by omega) (by omega) (fun c30 => ?_) (fun c30 => ?_)
          · refine J_iinc 63 1 rfl dX11_passesHours_60 ic_1 rfl (Nat.le_of_ble_eq_true rfl) ?_
            refine J_goto 4 (by decide) dX11_passesHours_63 ?_
            refine J_keep [0, 1, 2, 3] ?_
            have e9 : e = psN f k 0 := by omega
            subst e9
            exact ih _ (by omega) (k + 1) rfl (by omega)
          · refine J_iload_n 34 rfl dX11_passesHours_33 rfl ?_
            refine J_aload_n 35 rfl dX11_passesHours_34 rfl ?_
            refine J_iload 37 rfl dX11_passesHours_35 rfl ?_
            refine J_aload_n 38 rfl dX11_passesHours_37 rfl ?_
            refine g_X11_m 41 rfl dX11_passesHours_38 lkX11_9 ?_
            refine J_iload 43 rfl dX11_passesHours_41 rfl ?_
            refine J_callSi (As := [_]) 46 rfl kalX11_engineAt lkX11_67 dX11_passesHours_43 rfl rfl (by exact Nat.le_of_ble_eq_true rfl) (by omega) (S_X11_engineAt) ?_
            refine J_iconst 47 2 rfl dX11_passesHours_46 ic_2 ?_
            refine J_iadd 48 rfl dX11_passesHours_47 ?_
            refine J_mald 49 rfl dX11_passesHours_48 (by omega) ?_
            refine J_cv (b := hrE (psN f k) e (9 + 52 * e)) (by rw [show 7 + 52 * e + 2 = 9 + 52 * e by omega]) ?_
            refine J_callVip (As := [_, _]) 52 _ rfl kalX11_strokes lkX11_89 dX11_passesHours_49 (lt_X11) (so_X11) rfl rfl rfl (by exact Nat.le_of_ble_eq_true rfl) (by omega) (S_X11_strokes we.1 (by omega) (by have := (hO e (by omega)).2.2.2.1; rw [show 7 + 52 * e + 2 = 9 + 52 * e by omega] at this; omega)) (fun J49 q49 => ?_)
            subst q49
            refine J_iadd 53 rfl dX11_passesHours_52 ?_
            refine J_istore_n 54 rfl dX11_passesHours_53 rfl (Nat.le_of_ble_eq_true rfl) ?_
            refine J_iinc 57 1 rfl dX11_passesHours_54 ic_1 rfl (Nat.le_of_ble_eq_true rfl) ?_
            refine J_goto 22 (by decide) dX11_passesHours_57 ?_
            have z := ih2 _ (by omega) (e + 1) rfl (by omega)
            rw [show psK f k + hrK (psN f k) (e + 1) = psK f k + hrK (psN f k) e + eKn (hrE (psN f k) e) (7 + 52 * e) (hrE (psN f k) e (9 + 52 * e)) from (Nat.add_assoc _ _ _).symm] at z
            exact z
      refine J_iload_n 5 rfl dX11_passesHours_4 rfl ?_
      refine J_iload_n 6 rfl dX11_passesHours_5 rfl ?_
      refine J_icmp_ge 66 9 (by decide) rfl dX11_passesHours_6 (by omega) (by omega) (fun c6 => ?_) (fun c6 => ?_)
      · refine J_iload_n 67 rfl dX11_passesHours_66 rfl ?_
        refine J_iret rfl dX11_passesHours_67 ?_
        have e9 : k = t := by omega
        subst e9
        exact ⟨rfl, rfl⟩
      · refine J_aload_n 10 rfl dX11_passesHours_9 rfl ?_
        refine g_X11_m 13 rfl dX11_passesHours_10 lkX11_9 ?_
        refine J_iconst 14 1 rfl dX11_passesHours_13 ic_1 ?_
        refine J_dup2 15 rfl dX11_passesHours_14 rfl rfl ?_
        refine J_mald 16 rfl dX11_passesHours_15 (by omega) ?_
        refine J_iconst 17 1 rfl dX11_passesHours_16 ic_1 ?_
        refine J_iadd 18 rfl dX11_passesHours_17 ?_
        refine J_mast 19 rfl dX11_passesHours_18 (by omega) ?_
        refine J_iconst 20 0 rfl dX11_passesHours_19 ic_0 ?_
        refine J_istore 22 rfl dX11_passesHours_20 (Nat.le_of_ble_eq_true rfl) ?_
        exact inner (by omega) _ 0 rfl (Nat.zero_le _)
  refine J_iconst 1 0 rfl dX11_passesHours_0 ic_0 ?_
  refine J_istore_n 2 rfl dX11_passesHours_1 rfl (Nat.le_of_ble_eq_true rfl) ?_
  refine J_iconst 3 0 rfl dX11_passesHours_2 ic_0 ?_
  refine J_istore_n 4 rfl dX11_passesHours_3 rfl (Nat.le_of_ble_eq_true rfl) ?_
  exact outer _ 0 rfl (Nat.zero_le _)

