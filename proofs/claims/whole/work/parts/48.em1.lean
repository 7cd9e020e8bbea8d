/-! THE CLASS ITSELF: CHANGES (laid by wip/whole/src/p48.py) -/
theorem fE_0 {f : Nat → Nat} {n : Nat} (h : fE f n = 0) : (3 ≤ n ∧ n ≤ 8) ∧ f 0 < 4 := by unfold fE at h; (repeat' split at h) <;> omega
theorem fSwap_0 {f : Nat → Nat} {e p q : Nat} (h : fSwap f e p q = 0) : e < f 0 ∧ p < f (7 + 52 * e) ∧ q < f (7 + 52 * e) := by unfold fSwap at h; (repeat' split at h) <;> omega
theorem fRate_0 {f : Nat → Nat} {e s : Nat} (h : fRate f e s = 0) : e < f 0 ∧ s ≤ 9 := by unfold fRate at h; (repeat' split at h) <;> omega
theorem fRun_0 {f : Nat → Nat} {e s : Nat} (h : fRun f e s = 0) : e < f 0 ∧ 1 ≤ s ∧ s ≤ 99 := by unfold fRun at h; (repeat' split at h) <;> omega
theorem fOil_0 {f : Nat → Nat} {e c u : Nat} (h : fOil f e c u = 0) : e < f 0 ∧ c < f (7 + 52 * e) ∧ 1 ≤ u ∧ u ≤ 99 ∧ u ≤ f 2 := by unfold fOil at h; (repeat' split at h) <;> omega
theorem fFill_0 {f : Nat → Nat} {u : Nat} (h : fFill f u = 0) : 1 ≤ u ∧ u ≤ 99 ∧ u ≤ f 2 ∧ 0 < f 0 := by unfold fFill at h; (repeat' split at h) <;> omega
theorem fBuy_0 {f : Nat → Nat} {u : Nat} (h : fBuy f u = 0) : 1 ≤ u ∧ u ≤ 99 ∧ f 2 + u ≤ 500 := by unfold fBuy at h; (repeat' split at h) <;> omega
theorem fMonk_0 {f : Nat → Nat} (h : fMonk f = 0) : f 3 < 6 := by unfold fMonk at h; (repeat' split at h) <;> omega
theorem fAble_0 {f : Nat → Nat} {m v : Nat} (h : fAble f m v = 0) : m < f 3 ∧ v < 8 := by unfold fAble at h; (repeat' split at h) <;> omega
theorem fMend_0 {f : Nat → Nat} {e t p : Nat} (h : fMend f e t p = 0) : e < f 0 ∧ 1 ≤ t ∧ t ≤ 9 ∧ 1 ≤ p ∧ p ≤ 9 ∧ f 4 < 8 := by unfold fMend at h; (repeat' split at h) <;> omega
theorem fRep_0 {f : Nat → Nat} (h : fRep f = 0) : 0 < f 4 := by unfold fRep at h; (repeat' split at h) <;> omega
theorem fPass_0 {t : Nat} (h : fPass t = 0) : 1 ≤ t ∧ t ≤ 48 := by unfold fPass at h; (repeat' split at h) <;> omega
def qE (f : Nat → Nat) (e : Nat) : Nat := if e < f 0 then 0 else 1
def qPt (f : Nat → Nat) (e p : Nat) : Nat := if e < f 0 ∧ p < f (7 + 52 * e) then 0 else 1
def qDue (f : Nat → Nat) (e s : Nat) : Nat := if e < f 0 then (if s ≤ 9999 then 0 else 2) else 1
def qEv (f : Nat → Nat) (e v : Nat) : Nat := if e < f 0 then (if 1 ≤ v ∧ v ≤ 4 then 0 else 2) else 1
def qLo (f : Nat → Nat) (u : Nat) : Nat := if u ≤ 999 then (if 0 < f 0 then 0 else 4) else 2
def qKa (f : Nat → Nat) (e p : Nat) : Nat := if e < f 0 then (if p < f (10 + 52 * e) then 0 else 4) else 1
def qKp (f : Nat → Nat) (e : Nat) : Nat := if e < f 0 then (if 0 < f (10 + 52 * e) then 0 else 4) else 1
def qRk (f : Nat → Nat) (r : Nat) : Nat := if r < f 0 then 0 else 4
def qRm (f : Nat → Nat) (p : Nat) : Nat := if p < f 4 then 0 else 1
def ford (f : Nat → Nat) (e : Nat) : Nat → Nat := fun c => f (11 + 52 * e + c)
def fkno (f : Nat → Nat) (e : Nat) : Nat → Nat := fun i => f (35 + 52 * e + i)
def fvig (f : Nat → Nat) : Nat → Nat := fun i => f (215 + i)
theorem itN_congr {w w' : Nat → Nat} {n : Nat} (hw : ∀ c, c < n → w c < n) (h : ∀ c, c < n → w' c = w c) {c : Nat} (hc : c < n) : ∀ t, itN w' t c = itN w t c
  | 0 => rfl
  | t + 1 => by
    show w' (itN w' t c) = w (itN w t c)
    rw [itN_congr hw h hc t, h _ (itN_lt hw hc t)]
theorem cyW_congr {w w' : Nat → Nat} {n c : Nat} (hw : ∀ c, c < n → w c < n) (h : ∀ c, c < n → w' c = w c) : ∀ k p len, p < n → cyW w' n c k p len = cyW w n c k p len
  | 0, _, _, _ => rfl
  | k + 1, p, len, hp => by
    simp only [cyW]
    rw [h p hp, cyW_congr hw h k (w p) (len + 1) (hw p hp)]
theorem tuC_congr {w w' : Nat → Nat} {n : Nat} (hw : ∀ c, c < n → w c < n) (h : ∀ c, c < n → w' c = w c) : ∀ k, k ≤ n → tuC w' n k = tuC w n k
  | 0, _ => rfl
  | k + 1, hk => by
    simp only [tuC]
    unfold cyc
    rw [tuC_congr hw h k (by omega), h k (by omega), cyW_congr hw h n (w k) 1 (hw k (by omega))]
theorem ldN_congr {w w' : Nat → Nat} {n : Nat} (h : ∀ c, c < n → w' c = w c) : ∀ k, k ≤ n → ldN w' n k = ldN w n k
  | 0, _ => rfl
  | k + 1, hk => by
    simp only [ldN]
    rw [ldN_congr h k (by omega), h k (by omega), h _ (show (if k + 1 < n then k + 1 else 0) < n by split <;> omega)]
theorem turnB_congr {w w' : Nat → Nat} {n r : Nat} (hw : ∀ c, c < n → w c < n) (h : ∀ c, c < n → w' c = w c) (q : turnB w' n r) : turnB w n r := by
  have e : ∀ t, backAt w' n t ↔ backAt w n t := fun t => by
    unfold backAt
    constructor
    · intro z c hc
      rw [← itN_congr hw h hc t]; exact z c hc
    · intro z c hc
      rw [itN_congr hw h hc t]; exact z c hc
  obtain ⟨a, b, c, d⟩ := q
  exact ⟨a, b, c.elim Or.inl (fun z => Or.inr ((e r).mp z)), fun t h1 h2 z => d t h1 h2 ((e t).mpr z)⟩
theorem perP_congr {w w' : Nat → Nat} {n r : Nat} (h : ∀ c, c < n → w' c = w c) (q : perP w' n r) : perP w n r := by
  have e : ∀ t, repP w' n t ↔ repP w n t := fun t => by
    unfold repP
    constructor
    · intro z i h1 h2
      rw [← h i h2, ← h (i - t) (by omega)]; exact z i h1 h2
    · intro z i h1 h2
      rw [h i h2, h (i - t) (by omega)]; exact z i h1 h2
  obtain ⟨a, b, c, d⟩ := q
  exact ⟨a, b, (e r).mp c, fun t h1 h2 z => d t h1 h2 ((e t).mpr z)⟩
theorem S_X10_addEngine {g : Gn} {J : DJ} {n B a1 : Nat} {fs : Nat → Nat → Nat} {f s : Nat → Nat} (h : CI J f n fs s B) (h_a1 : a1 < 4294967296) : SJ g mX10_addEngine 16 1 6 [.ref (g.2 0), .int (nI (a1))] J (QF (fE f a1) (f 0) (Ch J n fs f (xE f a1) B)) (XF (fE f a1) J) := by
  obtain ⟨hc, hw, hp, hsn, h350, hB⟩ := h
  have h0 := hw.1
  have h2 := hw.2.1
  have h3 := hw.2.2.1
  have h4 := hw.2.2.2.2.1.1
  have hr := hw.2.2.2.2.1
  have h6 := hw.2.2.2.1.1
  have s0 := hc.1.1.1
  have s3 := hc.1.1.2.1
  have s2 := hc.1.1.2.2.1
  have s1 := hc.1.1.2.2.2.1
  have s5 := hc.1.1.2.2.2.2
  have h5 := hw.2.2.2.2.2.2.2.2.2
  refine SJ_of_VJ (by decide +kernel) (Nat.le_of_ble_eq_true rfl) ?_
  show VJ g mX10_addEngine 16 1 6 _ _ 0 [(0, .ref (g.2 0)), (1, .int (nI (a1)))] [] J
  refine J_aload_n 1 rfl dX10_addEngine_0 rfl ?_
  refine g_X10_house 4 rfl dX10_addEngine_1 lkX10_10 ?_
  refine J_iload_n 5 rfl dX10_addEngine_4 rfl ?_
  refine J_callVi (As := [_]) 8 _ rfl kalX3_faultOfEngine lkX10_75 dX10_addEngine_5 (lt_X3 (by first | assumption | exact isH_1 | exact isH_31 | exact isH_61 | exact isH_p (by omega) | exact isH_E (by assumption) (by omega) | exact isH_R (by assumption) | exact isH_K (by assumption) | exact isH_E isH_1 (by omega) | exact isH_R isH_1 | exact isH_K isH_1 | exact isH_R isH_31 | exact isH_K isH_31 | exact isH_E isH_31 (by omega))) (so_X3 (by first | assumption | exact isH_1 | exact isH_31 | exact isH_61 | exact isH_p (by omega) | exact isH_E (by assumption) (by omega) | exact isH_R (by assumption) | exact isH_K (by assumption) | exact isH_E isH_1 (by omega) | exact isH_R isH_1 | exact isH_K isH_1 | exact isH_R isH_31 | exact isH_K isH_31 | exact isH_E isH_31 (by omega))) rfl rfl rfl (by exact Nat.le_of_ble_eq_true rfl) (by omega) (S_X3_faultOfEngine isH_1 hc.1 hw (by omega)) ?_
  refine J_refuse 11 rfl dX10_addEngine_8 lkX10_79 (by exact Nat.le_of_ble_eq_true rfl) (by omega) (by omega) (by omega) (fun c8 => ⟨by unfold fE; (repeat' split) <;> omega, by assumption, rfl, Sc.refl⟩) (fun c8 => ?_)
  refine J_aload_n 12 rfl dX10_addEngine_11 rfl ?_
  refine g_X10_past 15 rfl dX10_addEngine_12 lkX10_25 ?_
  refine J_aload_n 16 rfl dX10_addEngine_15 rfl ?_
  refine g_X10_house 19 rfl dX10_addEngine_16 lkX10_10 ?_
  refine J_callVvp (As := [_]) 22 _ rfl kalX6_keep lkX10_83 dX10_addEngine_19 (lt_X6) (so_X6) rfl rfl rfl (by exact Nat.le_of_ble_eq_true rfl) (by omega) (S_X6_keep hp hc hw) (fun J19 q19 => ?_)
  have z := fE_0 (by assumption)
  have cK := CP_fr hc h0 (fun c x y => q19.1 c (by omega))
  have cK1 := cK.1.1.1
  refine J_aload_n 23 rfl dX10_addEngine_22 rfl ?_
  refine g_X10_house 26 rfl dX10_addEngine_23 lkX10_10 ?_
  refine J_iload_n 27 rfl dX10_addEngine_26 rfl ?_
  refine J_callVip (As := [_]) 30 _ rfl kalX3_buildEngine lkX10_87 dX10_addEngine_27 (lt_X3 (by first | assumption | exact isH_1 | exact isH_31 | exact isH_61 | exact isH_p (by omega) | exact isH_E (by assumption) (by omega) | exact isH_R (by assumption) | exact isH_K (by assumption) | exact isH_E isH_1 (by omega) | exact isH_R isH_1 | exact isH_K isH_1 | exact isH_R isH_31 | exact isH_K isH_31 | exact isH_E isH_31 (by omega))) (so_X3 (by first | assumption | exact isH_1 | exact isH_31 | exact isH_61 | exact isH_p (by omega) | exact isH_E (by assumption) (by omega) | exact isH_R (by assumption) | exact isH_K (by assumption) | exact isH_E isH_1 (by omega) | exact isH_R isH_1 | exact isH_K isH_1 | exact isH_R isH_31 | exact isH_K isH_31 | exact isH_E isH_31 (by omega))) rfl rfl rfl (by exact Nat.le_of_ble_eq_true rfl) (by omega) (S_X3_buildEngine isH_1 cK hw z.1.1 z.1.2 z.2) (fun J27 q27 => ?_)
  refine J_iret rfl dX10_addEngine_30 ?_
  exact ⟨by assumption, rfl, Ch.of q19.1 q19.2 q27.1 (CP_le q27.2 (by omega))⟩

theorem S_X10_run {g : Gn} {J : DJ} {n B e t : Nat} {fs : Nat → Nat → Nat} {f s : Nat → Nat} (h : CI J f n fs s B) (h_e : e < 4294967296) (h_t : t < 4294967296) : SJ g mX10_run 16 1 6 [.ref (g.2 0), .int (nI (e)), .int (nI (t))] J (QF (fRun f e t) (eKn f (7 + 52 * e) t) (Ch J n fs f (xRun f e t) B)) (XF (fRun f e t) J) := by
  obtain ⟨hc, hw, hp, hsn, h350, hB⟩ := h
  have h0 := hw.1
  have h2 := hw.2.1
  have h3 := hw.2.2.1
  have h4 := hw.2.2.2.2.1.1
  have hr := hw.2.2.2.2.1
  have h6 := hw.2.2.2.1.1
  have s0 := hc.1.1.1
  have s3 := hc.1.1.2.1
  have s2 := hc.1.1.2.2.1
  have s1 := hc.1.1.2.2.2.1
  have s5 := hc.1.1.2.2.2.2
  have h5 := hw.2.2.2.2.2.2.2.2.2
  refine SJ_of_VJ (by decide +kernel) (Nat.le_of_ble_eq_true rfl) ?_
  show VJ g mX10_run 16 1 6 _ _ 0 [(0, .ref (g.2 0)), (1, .int (nI (e))), (2, .int (nI (t)))] [] J
  refine J_aload_n 1 rfl dX10_run_0 rfl ?_
  refine g_X10_house 4 rfl dX10_run_1 lkX10_10 ?_
  refine J_iload_n 5 rfl dX10_run_4 rfl ?_
  refine J_iload_n 6 rfl dX10_run_5 rfl ?_
  refine J_callVi (As := [_, _]) 9 _ rfl kalX3_faultOfRun lkX10_160 dX10_run_6 (lt_X3 (by first | assumption | exact isH_1 | exact isH_31 | exact isH_61 | exact isH_p (by omega) | exact isH_E (by assumption) (by omega) | exact isH_R (by assumption) | exact isH_K (by assumption) | exact isH_E isH_1 (by omega) | exact isH_R isH_1 | exact isH_K isH_1 | exact isH_R isH_31 | exact isH_K isH_31 | exact isH_E isH_31 (by omega))) (so_X3 (by first | assumption | exact isH_1 | exact isH_31 | exact isH_61 | exact isH_p (by omega) | exact isH_E (by assumption) (by omega) | exact isH_R (by assumption) | exact isH_K (by assumption) | exact isH_E isH_1 (by omega) | exact isH_R isH_1 | exact isH_K isH_1 | exact isH_R isH_31 | exact isH_K isH_31 | exact isH_E isH_31 (by omega))) rfl rfl rfl (by exact Nat.le_of_ble_eq_true rfl) (by omega) (S_X3_faultOfRun isH_1 hc.1 hw (by omega) (by omega)) ?_
  refine J_refuse 12 rfl dX10_run_9 lkX10_79 (by exact Nat.le_of_ble_eq_true rfl) (by omega) (by omega) (by omega) (fun c9 => ⟨by unfold fRun; (repeat' split) <;> omega, by assumption, rfl, Sc.refl⟩) (fun c9 => ?_)
  refine J_aload_n 13 rfl dX10_run_12 rfl ?_
  refine g_X10_past 16 rfl dX10_run_13 lkX10_25 ?_
  refine J_aload_n 17 rfl dX10_run_16 rfl ?_
  refine g_X10_house 20 rfl dX10_run_17 lkX10_10 ?_
  refine J_callVvp (As := [_]) 23 _ rfl kalX6_keep lkX10_83 dX10_run_20 (lt_X6) (so_X6) rfl rfl rfl (by exact Nat.le_of_ble_eq_true rfl) (by omega) (S_X6_keep hp hc hw) (fun J20 q20 => ?_)
  have z := fRun_0 (by assumption)
  have cK := CP_fr hc h0 (fun c x y => q20.1 c (by omega))
  have cK1 := cK.1.1.1
  refine J_aload_n 24 rfl dX10_run_23 rfl ?_
  refine g_X10_house 27 rfl dX10_run_24 lkX10_10 ?_
  refine J_iload_n 28 rfl dX10_run_27 rfl ?_
  refine J_iload_n 29 rfl dX10_run_28 rfl ?_
  refine J_callVip (As := [_, _]) 32 _ rfl kalX3_runEngine lkX10_163 dX10_run_29 (lt_X3 (by first | assumption | exact isH_1 | exact isH_31 | exact isH_61 | exact isH_p (by omega) | exact isH_E (by assumption) (by omega) | exact isH_R (by assumption) | exact isH_K (by assumption) | exact isH_E isH_1 (by omega) | exact isH_R isH_1 | exact isH_K isH_1 | exact isH_R isH_31 | exact isH_K isH_31 | exact isH_E isH_31 (by omega))) (so_X3 (by first | assumption | exact isH_1 | exact isH_31 | exact isH_61 | exact isH_p (by omega) | exact isH_E (by assumption) (by omega) | exact isH_R (by assumption) | exact isH_K (by assumption) | exact isH_E isH_1 (by omega) | exact isH_R isH_1 | exact isH_K isH_1 | exact isH_R isH_31 | exact isH_K isH_31 | exact isH_E isH_31 (by omega))) rfl rfl rfl (by exact Nat.le_of_ble_eq_true rfl) (by omega) (S_X3_runEngine isH_1 cK hw z.1 (by omega)) (fun J29 q29 => ?_)
  refine J_iret rfl dX10_run_32 ?_
  exact ⟨by assumption, rfl, Ch.of q20.1 q20.2 q29.1 (CP_le q29.2 (by omega))⟩

theorem S_X10_oil {g : Gn} {J : DJ} {n B e c1 u : Nat} {fs : Nat → Nat → Nat} {f s : Nat → Nat} (h : CI J f n fs s B) (h_e : e < 4294967296) (h_c1 : c1 < 4294967296) (h_u : u < 4294967296) : SJ g mX10_oil 16 1 6 [.ref (g.2 0), .int (nI (e)), .int (nI (c1)), .int (nI (u))] J (QF (fOil f e c1 u) (f (19 + 52 * e + c1) + u) (Ch J n fs f (xOil f e c1 u) B)) (XF (fOil f e c1 u) J) := by
  obtain ⟨hc, hw, hp, hsn, h350, hB⟩ := h
  have h0 := hw.1
  have h2 := hw.2.1
  have h3 := hw.2.2.1
  have h4 := hw.2.2.2.2.1.1
  have hr := hw.2.2.2.2.1
  have h6 := hw.2.2.2.1.1
  have s0 := hc.1.1.1
  have s3 := hc.1.1.2.1
  have s2 := hc.1.1.2.2.1
  have s1 := hc.1.1.2.2.2.1
  have s5 := hc.1.1.2.2.2.2
  have h5 := hw.2.2.2.2.2.2.2.2.2
  refine SJ_of_VJ (by decide +kernel) (Nat.le_of_ble_eq_true rfl) ?_
  show VJ g mX10_oil 16 1 6 _ _ 0 [(0, .ref (g.2 0)), (1, .int (nI (e))), (2, .int (nI (c1))), (3, .int (nI (u)))] [] J
  refine J_aload_n 1 rfl dX10_oil_0 rfl ?_
  refine g_X10_house 4 rfl dX10_oil_1 lkX10_10 ?_
  refine J_iload_n 5 rfl dX10_oil_4 rfl ?_
  refine J_iload_n 6 rfl dX10_oil_5 rfl ?_
  refine J_iload_n 7 rfl dX10_oil_6 rfl ?_
  refine J_callVi (As := [_, _, _]) 10 _ rfl kalX3_faultOfOil lkX10_166 dX10_oil_7 (lt_X3 (by first | assumption | exact isH_1 | exact isH_31 | exact isH_61 | exact isH_p (by omega) | exact isH_E (by assumption) (by omega) | exact isH_R (by assumption) | exact isH_K (by assumption) | exact isH_E isH_1 (by omega) | exact isH_R isH_1 | exact isH_K isH_1 | exact isH_R isH_31 | exact isH_K isH_31 | exact isH_E isH_31 (by omega))) (so_X3 (by first | assumption | exact isH_1 | exact isH_31 | exact isH_61 | exact isH_p (by omega) | exact isH_E (by assumption) (by omega) | exact isH_R (by assumption) | exact isH_K (by assumption) | exact isH_E isH_1 (by omega) | exact isH_R isH_1 | exact isH_K isH_1 | exact isH_R isH_31 | exact isH_K isH_31 | exact isH_E isH_31 (by omega))) rfl rfl rfl (by exact Nat.le_of_ble_eq_true rfl) (by omega) (S_X3_faultOfOil isH_1 hc.1 hw (by omega) (by omega) (by omega)) ?_
  refine J_refuse 13 rfl dX10_oil_10 lkX10_79 (by exact Nat.le_of_ble_eq_true rfl) (by omega) (by omega) (by omega) (fun c10 => ⟨by unfold fOil; (repeat' split) <;> omega, by assumption, rfl, Sc.refl⟩) (fun c10 => ?_)
  refine J_aload_n 14 rfl dX10_oil_13 rfl ?_
  refine g_X10_past 17 rfl dX10_oil_14 lkX10_25 ?_
  refine J_aload_n 18 rfl dX10_oil_17 rfl ?_
  refine g_X10_house 21 rfl dX10_oil_18 lkX10_10 ?_
  refine J_callVvp (As := [_]) 24 _ rfl kalX6_keep lkX10_83 dX10_oil_21 (lt_X6) (so_X6) rfl rfl rfl (by exact Nat.le_of_ble_eq_true rfl) (by omega) (S_X6_keep hp hc hw) (fun J21 q21 => ?_)
  have z := fOil_0 (by assumption)
  have cK := CP_fr hc h0 (fun c x y => q21.1 c (by omega))
  have cK1 := cK.1.1.1
  refine J_aload_n 25 rfl dX10_oil_24 rfl ?_
  refine g_X10_house 28 rfl dX10_oil_25 lkX10_10 ?_
  refine J_iload_n 29 rfl dX10_oil_28 rfl ?_
  refine J_iload_n 30 rfl dX10_oil_29 rfl ?_
  refine J_iload_n 31 rfl dX10_oil_30 rfl ?_
  refine J_callVip (As := [_, _, _]) 34 _ rfl kalX3_giveOil lkX10_169 dX10_oil_31 (lt_X3 (by first | assumption | exact isH_1 | exact isH_31 | exact isH_61 | exact isH_p (by omega) | exact isH_E (by assumption) (by omega) | exact isH_R (by assumption) | exact isH_K (by assumption) | exact isH_E isH_1 (by omega) | exact isH_R isH_1 | exact isH_K isH_1 | exact isH_R isH_31 | exact isH_K isH_31 | exact isH_E isH_31 (by omega))) (so_X3 (by first | assumption | exact isH_1 | exact isH_31 | exact isH_61 | exact isH_p (by omega) | exact isH_E (by assumption) (by omega) | exact isH_R (by assumption) | exact isH_K (by assumption) | exact isH_E isH_1 (by omega) | exact isH_R isH_1 | exact isH_K isH_1 | exact isH_R isH_31 | exact isH_K isH_31 | exact isH_E isH_31 (by omega))) rfl rfl rfl (by exact Nat.le_of_ble_eq_true rfl) (by omega) (S_X3_giveOil isH_1 cK hw z.1 z.2.1 (by omega)) (fun J31 q31 => ?_)
  refine J_iret rfl dX10_oil_34 ?_
  exact ⟨by assumption, rfl, Ch.of q21.1 q21.2 q31.1 (CP_le q31.2 (by omega))⟩

theorem S_X10_oilDriest {g : Gn} {J : DJ} {n B u : Nat} {fs : Nat → Nat → Nat} {f s : Nat → Nat} (h : CI J f n fs s B) (h_u : u < 4294967296) : SJ g mX10_oilDriest 16 1 6 [.ref (g.2 0), .int (nI (u))] J (QF (fFill f u) (lst (ol (xFill f u)) (cnt (xFill f u))) (Ch J n fs f (xFill f u) B)) (XF (fFill f u) J) := by
  obtain ⟨hc, hw, hp, hsn, h350, hB⟩ := h
  have h0 := hw.1
  have h2 := hw.2.1
  have h3 := hw.2.2.1
  have h4 := hw.2.2.2.2.1.1
  have hr := hw.2.2.2.2.1
  have h6 := hw.2.2.2.1.1
  have s0 := hc.1.1.1
  have s3 := hc.1.1.2.1
  have s2 := hc.1.1.2.2.1
  have s1 := hc.1.1.2.2.2.1
  have s5 := hc.1.1.2.2.2.2
  have h5 := hw.2.2.2.2.2.2.2.2.2
  refine SJ_of_VJ (by decide +kernel) (Nat.le_of_ble_eq_true rfl) ?_
  show VJ g mX10_oilDriest 16 1 6 _ _ 0 [(0, .ref (g.2 0)), (1, .int (nI (u)))] [] J
  refine J_aload_n 1 rfl dX10_oilDriest_0 rfl ?_
  refine g_X10_house 4 rfl dX10_oilDriest_1 lkX10_10 ?_
  refine J_iload_n 5 rfl dX10_oilDriest_4 rfl ?_
  refine J_callVi (As := [_]) 8 _ rfl kalX3_faultOfFill lkX10_172 dX10_oilDriest_5 (lt_X3 (by first | assumption | exact isH_1 | exact isH_31 | exact isH_61 | exact isH_p (by omega) | exact isH_E (by assumption) (by omega) | exact isH_R (by assumption) | exact isH_K (by assumption) | exact isH_E isH_1 (by omega) | exact isH_R isH_1 | exact isH_K isH_1 | exact isH_R isH_31 | exact isH_K isH_31 | exact isH_E isH_31 (by omega))) (so_X3 (by first | assumption | exact isH_1 | exact isH_31 | exact isH_61 | exact isH_p (by omega) | exact isH_E (by assumption) (by omega) | exact isH_R (by assumption) | exact isH_K (by assumption) | exact isH_E isH_1 (by omega) | exact isH_R isH_1 | exact isH_K isH_1 | exact isH_R isH_31 | exact isH_K isH_31 | exact isH_E isH_31 (by omega))) rfl rfl rfl (by exact Nat.le_of_ble_eq_true rfl) (by omega) (S_X3_faultOfFill isH_1 hc.1 hw (by omega)) ?_
  refine J_refuse 11 rfl dX10_oilDriest_8 lkX10_79 (by exact Nat.le_of_ble_eq_true rfl) (by omega) (by omega) (by omega) (fun c8 => ⟨by unfold fFill; (repeat' split) <;> omega, by assumption, rfl, Sc.refl⟩) (fun c8 => ?_)
  refine J_aload_n 12 rfl dX10_oilDriest_11 rfl ?_
  refine g_X10_past 15 rfl dX10_oilDriest_12 lkX10_25 ?_
  refine J_aload_n 16 rfl dX10_oilDriest_15 rfl ?_
  refine g_X10_house 19 rfl dX10_oilDriest_16 lkX10_10 ?_
  refine J_callVvp (As := [_]) 22 _ rfl kalX6_keep lkX10_83 dX10_oilDriest_19 (lt_X6) (so_X6) rfl rfl rfl (by exact Nat.le_of_ble_eq_true rfl) (by omega) (S_X6_keep hp hc hw) (fun J19 q19 => ?_)
  have z := fFill_0 (by assumption)
  have cK := CP_fr hc h0 (fun c x y => q19.1 c (by omega))
  have cK1 := cK.1.1.1
  refine J_aload_n 23 rfl dX10_oilDriest_22 rfl ?_
  refine g_X10_house 26 rfl dX10_oilDriest_23 lkX10_10 ?_
  refine J_iload_n 27 rfl dX10_oilDriest_26 rfl ?_
  refine J_callVip (As := [_]) 30 _ rfl kalX3_fillFromStore lkX10_175 dX10_oilDriest_27 (lt_X3 (by first | assumption | exact isH_1 | exact isH_31 | exact isH_61 | exact isH_p (by omega) | exact isH_E (by assumption) (by omega) | exact isH_R (by assumption) | exact isH_K (by assumption) | exact isH_E isH_1 (by omega) | exact isH_R isH_1 | exact isH_K isH_1 | exact isH_R isH_31 | exact isH_K isH_31 | exact isH_E isH_31 (by omega))) (so_X3 (by first | assumption | exact isH_1 | exact isH_31 | exact isH_61 | exact isH_p (by omega) | exact isH_E (by assumption) (by omega) | exact isH_R (by assumption) | exact isH_K (by assumption) | exact isH_E isH_1 (by omega) | exact isH_R isH_1 | exact isH_K isH_1 | exact isH_R isH_31 | exact isH_K isH_31 | exact isH_E isH_31 (by omega))) rfl rfl rfl (by exact Nat.le_of_ble_eq_true rfl) (by omega) (S_X3_fillFromStore isH_1 cK hw (by omega) (by omega) (by omega)) (fun J27 q27 => ?_)
  refine J_iret rfl dX10_oilDriest_30 ?_
  exact ⟨by assumption, rfl, Ch.of q19.1 q19.2 q27.1 (CP_le q27.2 (by omega))⟩

theorem S_X10_buyOil {g : Gn} {J : DJ} {n B u : Nat} {fs : Nat → Nat → Nat} {f s : Nat → Nat} (h : CI J f n fs s B) (h_u : u < 4294967296) : SJ g mX10_buyOil 16 1 6 [.ref (g.2 0), .int (nI (u))] J (QF (fBuy f u) (f 2 + u) (Ch J n fs f (xBuy f u) B)) (XF (fBuy f u) J) := by
  obtain ⟨hc, hw, hp, hsn, h350, hB⟩ := h
  have h0 := hw.1
  have h2 := hw.2.1
  have h3 := hw.2.2.1
  have h4 := hw.2.2.2.2.1.1
  have hr := hw.2.2.2.2.1
  have h6 := hw.2.2.2.1.1
  have s0 := hc.1.1.1
  have s3 := hc.1.1.2.1
  have s2 := hc.1.1.2.2.1
  have s1 := hc.1.1.2.2.2.1
  have s5 := hc.1.1.2.2.2.2
  have h5 := hw.2.2.2.2.2.2.2.2.2
  refine SJ_of_VJ (by decide +kernel) (Nat.le_of_ble_eq_true rfl) ?_
  show VJ g mX10_buyOil 16 1 6 _ _ 0 [(0, .ref (g.2 0)), (1, .int (nI (u)))] [] J
  refine J_aload_n 1 rfl dX10_buyOil_0 rfl ?_
  refine g_X10_house 4 rfl dX10_buyOil_1 lkX10_10 ?_
  refine J_iload_n 5 rfl dX10_buyOil_4 rfl ?_
  refine J_callVi (As := [_]) 8 _ rfl kalX3_faultOfPurchase lkX10_193 dX10_buyOil_5 (lt_X3 (by first | assumption | exact isH_1 | exact isH_31 | exact isH_61 | exact isH_p (by omega) | exact isH_E (by assumption) (by omega) | exact isH_R (by assumption) | exact isH_K (by assumption) | exact isH_E isH_1 (by omega) | exact isH_R isH_1 | exact isH_K isH_1 | exact isH_R isH_31 | exact isH_K isH_31 | exact isH_E isH_31 (by omega))) (so_X3 (by first | assumption | exact isH_1 | exact isH_31 | exact isH_61 | exact isH_p (by omega) | exact isH_E (by assumption) (by omega) | exact isH_R (by assumption) | exact isH_K (by assumption) | exact isH_E isH_1 (by omega) | exact isH_R isH_1 | exact isH_K isH_1 | exact isH_R isH_31 | exact isH_K isH_31 | exact isH_E isH_31 (by omega))) rfl rfl rfl (by exact Nat.le_of_ble_eq_true rfl) (by omega) (S_X3_faultOfPurchase isH_1 hc.1 hw (by omega)) ?_
  refine J_refuse 11 rfl dX10_buyOil_8 lkX10_79 (by exact Nat.le_of_ble_eq_true rfl) (by omega) (by omega) (by omega) (fun c8 => ⟨by unfold fBuy; (repeat' split) <;> omega, by assumption, rfl, Sc.refl⟩) (fun c8 => ?_)
  refine J_aload_n 12 rfl dX10_buyOil_11 rfl ?_
  refine g_X10_past 15 rfl dX10_buyOil_12 lkX10_25 ?_
  refine J_aload_n 16 rfl dX10_buyOil_15 rfl ?_
  refine g_X10_house 19 rfl dX10_buyOil_16 lkX10_10 ?_
  refine J_callVvp (As := [_]) 22 _ rfl kalX6_keep lkX10_83 dX10_buyOil_19 (lt_X6) (so_X6) rfl rfl rfl (by exact Nat.le_of_ble_eq_true rfl) (by omega) (S_X6_keep hp hc hw) (fun J19 q19 => ?_)
  have z := fBuy_0 (by assumption)
  have cK := CP_fr hc h0 (fun c x y => q19.1 c (by omega))
  have cK1 := cK.1.1.1
  refine J_aload_n 23 rfl dX10_buyOil_22 rfl ?_
  refine g_X10_house 26 rfl dX10_buyOil_23 lkX10_10 ?_
  refine J_iload_n 27 rfl dX10_buyOil_26 rfl ?_
  refine J_callVip (As := [_]) 30 _ rfl kalX3_buyUnits lkX10_196 dX10_buyOil_27 (lt_X3 (by first | assumption | exact isH_1 | exact isH_31 | exact isH_61 | exact isH_p (by omega) | exact isH_E (by assumption) (by omega) | exact isH_R (by assumption) | exact isH_K (by assumption) | exact isH_E isH_1 (by omega) | exact isH_R isH_1 | exact isH_K isH_1 | exact isH_R isH_31 | exact isH_K isH_31 | exact isH_E isH_31 (by omega))) (so_X3 (by first | assumption | exact isH_1 | exact isH_31 | exact isH_61 | exact isH_p (by omega) | exact isH_E (by assumption) (by omega) | exact isH_R (by assumption) | exact isH_K (by assumption) | exact isH_E isH_1 (by omega) | exact isH_R isH_1 | exact isH_K isH_1 | exact isH_R isH_31 | exact isH_K isH_31 | exact isH_E isH_31 (by omega))) rfl rfl rfl (by exact Nat.le_of_ble_eq_true rfl) (by omega) (S_X3_buyUnits isH_1 cK hw) (fun J27 q27 => ?_)
  refine J_iret rfl dX10_buyOil_30 ?_
  exact ⟨by assumption, rfl, Ch.of q19.1 q19.2 q27.1 (CP_le q27.2 (by omega))⟩

theorem S_X10_addMonk {g : Gn} {J : DJ} {n B : Nat} {fs : Nat → Nat → Nat} {f s : Nat → Nat} (h : CI J f n fs s B) : SJ g mX10_addMonk 16 1 6 [.ref (g.2 0)] J (QF (fMonk f) (f 3) (Ch J n fs f (xMonk f) B)) (XF (fMonk f) J) := by
  obtain ⟨hc, hw, hp, hsn, h350, hB⟩ := h
  have h0 := hw.1
  have h2 := hw.2.1
  have h3 := hw.2.2.1
  have h4 := hw.2.2.2.2.1.1
  have hr := hw.2.2.2.2.1
  have h6 := hw.2.2.2.1.1
  have s0 := hc.1.1.1
  have s3 := hc.1.1.2.1
  have s2 := hc.1.1.2.2.1
  have s1 := hc.1.1.2.2.2.1
  have s5 := hc.1.1.2.2.2.2
  have h5 := hw.2.2.2.2.2.2.2.2.2
  refine SJ_of_VJ (by decide +kernel) (Nat.le_of_ble_eq_true rfl) ?_
  show VJ g mX10_addMonk 16 1 6 _ _ 0 [(0, .ref (g.2 0))] [] J
  refine J_aload_n 1 rfl dX10_addMonk_0 rfl ?_
  refine g_X10_house 4 rfl dX10_addMonk_1 lkX10_10 ?_
  refine J_callVi (As := []) 7 _ rfl kalX3_faultOfMonk lkX10_236 dX10_addMonk_4 (lt_X3 (by first | assumption | exact isH_1 | exact isH_31 | exact isH_61 | exact isH_p (by omega) | exact isH_E (by assumption) (by omega) | exact isH_R (by assumption) | exact isH_K (by assumption) | exact isH_E isH_1 (by omega) | exact isH_R isH_1 | exact isH_K isH_1 | exact isH_R isH_31 | exact isH_K isH_31 | exact isH_E isH_31 (by omega))) (so_X3 (by first | assumption | exact isH_1 | exact isH_31 | exact isH_61 | exact isH_p (by omega) | exact isH_E (by assumption) (by omega) | exact isH_R (by assumption) | exact isH_K (by assumption) | exact isH_E isH_1 (by omega) | exact isH_R isH_1 | exact isH_K isH_1 | exact isH_R isH_31 | exact isH_K isH_31 | exact isH_E isH_31 (by omega))) rfl rfl rfl (by exact Nat.le_of_ble_eq_true rfl) (by omega) (S_X3_faultOfMonk isH_1 hc.1 hw ) ?_
  refine J_refuse 10 rfl dX10_addMonk_7 lkX10_79 (by exact Nat.le_of_ble_eq_true rfl) (by omega) (by omega) (by omega) (fun c7 => ⟨by unfold fMonk; (repeat' split) <;> omega, by assumption, rfl, Sc.refl⟩) (fun c7 => ?_)
  refine J_aload_n 11 rfl dX10_addMonk_10 rfl ?_
  refine g_X10_past 14 rfl dX10_addMonk_11 lkX10_25 ?_
  refine J_aload_n 15 rfl dX10_addMonk_14 rfl ?_
  refine g_X10_house 18 rfl dX10_addMonk_15 lkX10_10 ?_
  refine J_callVvp (As := [_]) 21 _ rfl kalX6_keep lkX10_83 dX10_addMonk_18 (lt_X6) (so_X6) rfl rfl rfl (by exact Nat.le_of_ble_eq_true rfl) (by omega) (S_X6_keep hp hc hw) (fun J18 q18 => ?_)
  have z := fMonk_0 (by assumption)
  have cK := CP_fr hc h0 (fun c x y => q18.1 c (by omega))
  have cK1 := cK.1.1.1
  refine J_aload_n 22 rfl dX10_addMonk_21 rfl ?_
  refine g_X10_house 25 rfl dX10_addMonk_22 lkX10_10 ?_
  refine J_callVip (As := []) 28 _ rfl kalX3_receiveMonk lkX10_239 dX10_addMonk_25 (lt_X3 (by first | assumption | exact isH_1 | exact isH_31 | exact isH_61 | exact isH_p (by omega) | exact isH_E (by assumption) (by omega) | exact isH_R (by assumption) | exact isH_K (by assumption) | exact isH_E isH_1 (by omega) | exact isH_R isH_1 | exact isH_K isH_1 | exact isH_R isH_31 | exact isH_K isH_31 | exact isH_E isH_31 (by omega))) (so_X3 (by first | assumption | exact isH_1 | exact isH_31 | exact isH_61 | exact isH_p (by omega) | exact isH_E (by assumption) (by omega) | exact isH_R (by assumption) | exact isH_K (by assumption) | exact isH_E isH_1 (by omega) | exact isH_R isH_1 | exact isH_K isH_1 | exact isH_R isH_31 | exact isH_K isH_31 | exact isH_E isH_31 (by omega))) rfl rfl rfl (by exact Nat.le_of_ble_eq_true rfl) (by omega) (S_X3_receiveMonk isH_1 cK hw z) (fun J25 q25 => ?_)
  refine J_iret rfl dX10_addMonk_28 ?_
  exact ⟨by assumption, rfl, Ch.of q18.1 q18.2 q25.1 (CP_le q25.2 (by omega))⟩

theorem S_X10_repair {g : Gn} {J : DJ} {n B : Nat} {fs : Nat → Nat → Nat} {f s : Nat → Nat} (h : CI J f n fs s B) : SJ g mX10_repair 16 1 6 [.ref (g.2 0)] J (QF (fRep f) (f (221 + 3 * fBst f (f 4))) (Ch J n fs f (xRep f) B)) (XF (fRep f) J) := by
  obtain ⟨hc, hw, hp, hsn, h350, hB⟩ := h
  have h0 := hw.1
  have h2 := hw.2.1
  have h3 := hw.2.2.1
  have h4 := hw.2.2.2.2.1.1
  have hr := hw.2.2.2.2.1
  have h6 := hw.2.2.2.1.1
  have s0 := hc.1.1.1
  have s3 := hc.1.1.2.1
  have s2 := hc.1.1.2.2.1
  have s1 := hc.1.1.2.2.2.1
  have s5 := hc.1.1.2.2.2.2
  have h5 := hw.2.2.2.2.2.2.2.2.2
  refine SJ_of_VJ (by decide +kernel) (Nat.le_of_ble_eq_true rfl) ?_
  show VJ g mX10_repair 16 1 6 _ _ 0 [(0, .ref (g.2 0))] [] J
  refine J_aload_n 1 rfl dX10_repair_0 rfl ?_
  refine g_X10_house 4 rfl dX10_repair_1 lkX10_10 ?_
  refine J_callVi (As := []) 7 _ rfl kalX3_faultOfRepairing lkX10_290 dX10_repair_4 (lt_X3 (by first | assumption | exact isH_1 | exact isH_31 | exact isH_61 | exact isH_p (by omega) | exact isH_E (by assumption) (by omega) | exact isH_R (by assumption) | exact isH_K (by assumption) | exact isH_E isH_1 (by omega) | exact isH_R isH_1 | exact isH_K isH_1 | exact isH_R isH_31 | exact isH_K isH_31 | exact isH_E isH_31 (by omega))) (so_X3 (by first | assumption | exact isH_1 | exact isH_31 | exact isH_61 | exact isH_p (by omega) | exact isH_E (by assumption) (by omega) | exact isH_R (by assumption) | exact isH_K (by assumption) | exact isH_E isH_1 (by omega) | exact isH_R isH_1 | exact isH_K isH_1 | exact isH_R isH_31 | exact isH_K isH_31 | exact isH_E isH_31 (by omega))) rfl rfl rfl (by exact Nat.le_of_ble_eq_true rfl) (by omega) (S_X3_faultOfRepairing isH_1 hc.1 hw ) ?_
  refine J_refuse 10 rfl dX10_repair_7 lkX10_79 (by exact Nat.le_of_ble_eq_true rfl) (by omega) (by omega) (by omega) (fun c7 => ⟨by unfold fRep; (repeat' split) <;> omega, by assumption, rfl, Sc.refl⟩) (fun c7 => ?_)
  refine J_aload_n 11 rfl dX10_repair_10 rfl ?_
  refine g_X10_past 14 rfl dX10_repair_11 lkX10_25 ?_
  refine J_aload_n 15 rfl dX10_repair_14 rfl ?_
  refine g_X10_house 18 rfl dX10_repair_15 lkX10_10 ?_
  refine J_callVvp (As := [_]) 21 _ rfl kalX6_keep lkX10_83 dX10_repair_18 (lt_X6) (so_X6) rfl rfl rfl (by exact Nat.le_of_ble_eq_true rfl) (by omega) (S_X6_keep hp hc hw) (fun J18 q18 => ?_)
  have z := fRep_0 (by assumption)
  have cK := CP_fr hc h0 (fun c x y => q18.1 c (by omega))
  have cK1 := cK.1.1.1
  refine J_aload_n 22 rfl dX10_repair_21 rfl ?_
  refine g_X10_house 25 rfl dX10_repair_22 lkX10_10 ?_
  refine J_callVip (As := []) 28 _ rfl kalX3_doFirstRepair lkX10_293 dX10_repair_25 (lt_X3 (by first | assumption | exact isH_1 | exact isH_31 | exact isH_61 | exact isH_p (by omega) | exact isH_E (by assumption) (by omega) | exact isH_R (by assumption) | exact isH_K (by assumption) | exact isH_E isH_1 (by omega) | exact isH_R isH_1 | exact isH_K isH_1 | exact isH_R isH_31 | exact isH_K isH_31 | exact isH_E isH_31 (by omega))) (so_X3 (by first | assumption | exact isH_1 | exact isH_31 | exact isH_61 | exact isH_p (by omega) | exact isH_E (by assumption) (by omega) | exact isH_R (by assumption) | exact isH_K (by assumption) | exact isH_E isH_1 (by omega) | exact isH_R isH_1 | exact isH_K isH_1 | exact isH_R isH_31 | exact isH_K isH_31 | exact isH_E isH_31 (by omega))) rfl rfl rfl (by exact Nat.le_of_ble_eq_true rfl) (by omega) (S_X3_doFirstRepair isH_1 cK hw z (by omega)) (fun J25 q25 => ?_)
  refine J_iret rfl dX10_repair_28 ?_
  exact ⟨by assumption, rfl, Ch.of q18.1 q18.2 q25.1 (CP_le q25.2 (by omega))⟩

theorem S_X10_pass {g : Gn} {J : DJ} {n B t : Nat} {fs : Nat → Nat → Nat} {f s : Nat → Nat} (h : CI J f n fs s B) (h_t : t < 4294967296) : SJ g mX10_pass 16 1 6 [.ref (g.2 0), .int (nI (t))] J (QF (fPass t) (psK f t) (Ch J n fs f (psN f t) B)) (XF (fPass t) J) := by
  obtain ⟨hc, hw, hp, hsn, h350, hB⟩ := h
  have h0 := hw.1
  have h2 := hw.2.1
  have h3 := hw.2.2.1
  have h4 := hw.2.2.2.2.1.1
  have hr := hw.2.2.2.2.1
  have h6 := hw.2.2.2.1.1
  have s0 := hc.1.1.1
  have s3 := hc.1.1.2.1
  have s2 := hc.1.1.2.2.1
  have s1 := hc.1.1.2.2.2.1
  have s5 := hc.1.1.2.2.2.2
  have h5 := hw.2.2.2.2.2.2.2.2.2
  refine SJ_of_VJ (by decide +kernel) (Nat.le_of_ble_eq_true rfl) ?_
  show VJ g mX10_pass 16 1 6 _ _ 0 [(0, .ref (g.2 0)), (1, .int (nI (t)))] [] J
  refine J_aload_n 1 rfl dX10_pass_0 rfl ?_
  refine g_X10_house 4 rfl dX10_pass_1 lkX10_10 ?_
  refine J_iload_n 5 rfl dX10_pass_4 rfl ?_
  refine J_callVi (As := [_]) 8 _ rfl kalX3_faultOfHours lkX10_299 dX10_pass_5 (lt_X3 (by first | assumption | exact isH_1 | exact isH_31 | exact isH_61 | exact isH_p (by omega) | exact isH_E (by assumption) (by omega) | exact isH_R (by assumption) | exact isH_K (by assumption) | exact isH_E isH_1 (by omega) | exact isH_R isH_1 | exact isH_K isH_1 | exact isH_R isH_31 | exact isH_K isH_31 | exact isH_E isH_31 (by omega))) (so_X3 (by first | assumption | exact isH_1 | exact isH_31 | exact isH_61 | exact isH_p (by omega) | exact isH_E (by assumption) (by omega) | exact isH_R (by assumption) | exact isH_K (by assumption) | exact isH_E isH_1 (by omega) | exact isH_R isH_1 | exact isH_K isH_1 | exact isH_R isH_31 | exact isH_K isH_31 | exact isH_E isH_31 (by omega))) rfl rfl rfl (by exact Nat.le_of_ble_eq_true rfl) (by omega) (S_X3_faultOfHours isH_1 hc.1 hw (by omega)) ?_
  refine J_refuse 11 rfl dX10_pass_8 lkX10_79 (by exact Nat.le_of_ble_eq_true rfl) (by omega) (by omega) (by omega) (fun c8 => ⟨by unfold fPass; (repeat' split) <;> omega, by assumption, rfl, Sc.refl⟩) (fun c8 => ?_)
  refine J_aload_n 12 rfl dX10_pass_11 rfl ?_
  refine g_X10_past 15 rfl dX10_pass_12 lkX10_25 ?_
  refine J_aload_n 16 rfl dX10_pass_15 rfl ?_
  refine g_X10_house 19 rfl dX10_pass_16 lkX10_10 ?_
  refine J_callVvp (As := [_]) 22 _ rfl kalX6_keep lkX10_83 dX10_pass_19 (lt_X6) (so_X6) rfl rfl rfl (by exact Nat.le_of_ble_eq_true rfl) (by omega) (S_X6_keep hp hc hw) (fun J19 q19 => ?_)
  have z := fPass_0 (by assumption)
  have cK := CP_fr hc h0 (fun c x y => q19.1 c (by omega))
  have cK1 := cK.1.1.1
  refine J_aload_n 23 rfl dX10_pass_22 rfl ?_
  refine g_X10_house 26 rfl dX10_pass_23 lkX10_10 ?_
  refine J_iload_n 27 rfl dX10_pass_26 rfl ?_
  refine J_callVip (As := [_]) 30 _ rfl kalX3_passHours lkX10_302 dX10_pass_27 (lt_X3 (by first | assumption | exact isH_1 | exact isH_31 | exact isH_61 | exact isH_p (by omega) | exact isH_E (by assumption) (by omega) | exact isH_R (by assumption) | exact isH_K (by assumption) | exact isH_E isH_1 (by omega) | exact isH_R isH_1 | exact isH_K isH_1 | exact isH_R isH_31 | exact isH_K isH_31 | exact isH_E isH_31 (by omega))) (so_X3 (by first | assumption | exact isH_1 | exact isH_31 | exact isH_61 | exact isH_p (by omega) | exact isH_E (by assumption) (by omega) | exact isH_R (by assumption) | exact isH_K (by assumption) | exact isH_E isH_1 (by omega) | exact isH_R isH_1 | exact isH_K isH_1 | exact isH_R isH_31 | exact isH_K isH_31 | exact isH_E isH_31 (by omega))) rfl rfl rfl (by exact Nat.le_of_ble_eq_true rfl) (by omega) (S_X3_passHours isH_1 cK hw z.2 (by omega)) (fun J27 q27 => ?_)
  refine J_iret rfl dX10_pass_30 ?_
  exact ⟨by assumption, rfl, Ch.of q19.1 q19.2 q27.1 (CP_le q27.2 (by omega))⟩

theorem S_X10_exchange {g : Gn} {J : DJ} {n B e p q : Nat} {fs : Nat → Nat → Nat} {f s : Nat → Nat} (h : CI J f n fs s B) (h_e : e < 4294967296) (h_p : p < 4294967296) (h_q : q < 4294967296) : SJ g mX10_exchange 16 1 6 [.ref (g.2 0), .int (nI (e)), .int (nI (p)), .int (nI (q))] J (QF (fSwap f e p q) (xSwap f e p q (11 + 52 * e + p)) (Ch J n fs f (xSwap f e p q) B)) (XF (fSwap f e p q) J) := by
  obtain ⟨hc, hw, hp, hsn, h350, hB⟩ := h
  have h0 := hw.1
  have h2 := hw.2.1
  have h3 := hw.2.2.1
  have h4 := hw.2.2.2.2.1.1
  have hr := hw.2.2.2.2.1
  have h6 := hw.2.2.2.1.1
  have s0 := hc.1.1.1
  have s3 := hc.1.1.2.1
  have s2 := hc.1.1.2.2.1
  have s1 := hc.1.1.2.2.2.1
  have s5 := hc.1.1.2.2.2.2
  have h5 := hw.2.2.2.2.2.2.2.2.2
  refine SJ_of_VJ (by decide +kernel) (Nat.le_of_ble_eq_true rfl) ?_
  show VJ g mX10_exchange 16 1 6 _ _ 0 [(0, .ref (g.2 0)), (1, .int (nI (e))), (2, .int (nI (p))), (3, .int (nI (q)))] [] J
  refine J_aload_n 1 rfl dX10_exchange_0 rfl ?_
  refine g_X10_house 4 rfl dX10_exchange_1 lkX10_10 ?_
  refine J_iload_n 5 rfl dX10_exchange_4 rfl ?_
  refine J_iload_n 6 rfl dX10_exchange_5 rfl ?_
  refine J_iload_n 7 rfl dX10_exchange_6 rfl ?_
  refine J_callVi (As := [_, _, _]) 10 _ rfl kalX3_faultOfExchange lkX10_90 dX10_exchange_7 (lt_X3 (by first | assumption | exact isH_1 | exact isH_31 | exact isH_61 | exact isH_p (by omega) | exact isH_E (by assumption) (by omega) | exact isH_R (by assumption) | exact isH_K (by assumption) | exact isH_E isH_1 (by omega) | exact isH_R isH_1 | exact isH_K isH_1 | exact isH_R isH_31 | exact isH_K isH_31 | exact isH_E isH_31 (by omega))) (so_X3 (by first | assumption | exact isH_1 | exact isH_31 | exact isH_61 | exact isH_p (by omega) | exact isH_E (by assumption) (by omega) | exact isH_R (by assumption) | exact isH_K (by assumption) | exact isH_E isH_1 (by omega) | exact isH_R isH_1 | exact isH_K isH_1 | exact isH_R isH_31 | exact isH_K isH_31 | exact isH_E isH_31 (by omega))) rfl rfl rfl (by exact Nat.le_of_ble_eq_true rfl) (by omega) (S_X3_faultOfExchange isH_1 hc.1 hw (by omega) (by omega) (by omega)) ?_
  refine J_refuse 13 rfl dX10_exchange_10 lkX10_79 (by exact Nat.le_of_ble_eq_true rfl) (by omega) (by omega) (by omega) (fun c10 => ⟨by unfold fSwap; (repeat' split) <;> omega, by assumption, rfl, Sc.refl⟩) (fun c10 => ?_)
  refine J_aload_n 14 rfl dX10_exchange_13 rfl ?_
  refine g_X10_past 17 rfl dX10_exchange_14 lkX10_25 ?_
  refine J_aload_n 18 rfl dX10_exchange_17 rfl ?_
  refine g_X10_house 21 rfl dX10_exchange_18 lkX10_10 ?_
  refine J_callVvp (As := [_]) 24 _ rfl kalX6_keep lkX10_83 dX10_exchange_21 (lt_X6) (so_X6) rfl rfl rfl (by exact Nat.le_of_ble_eq_true rfl) (by omega) (S_X6_keep hp hc hw) (fun J21 q21 => ?_)
  have z := fSwap_0 (by assumption)
  have cK := CP_fr hc h0 (fun c x y => q21.1 c (by omega))
  have cK1 := cK.1.1.1
  have e8 := (hw.2.2.2.2.2.1 e z.1).2.1
  refine J_aload_n 25 rfl dX10_exchange_24 rfl ?_
  refine g_X10_house 28 rfl dX10_exchange_25 lkX10_10 ?_
  refine g_X3_engines 31 (by first | assumption | exact isH_1 | exact isH_31 | exact isH_61 | exact isH_p (by omega) | exact isH_E (by assumption) (by omega) | exact isH_R (by assumption) | exact isH_K (by assumption) | exact isH_E isH_1 (by omega) | exact isH_R isH_1 | exact isH_K isH_1 | exact isH_R isH_31 | exact isH_K isH_31 | exact isH_E isH_31 (by omega)) rfl dX10_exchange_28 lkX10_94 ?_
  refine J_iload_n 32 rfl dX10_exchange_31 rfl ?_
  refine J_aaldE 33 _ rfl dX10_exchange_32 (by first | assumption | exact isH_1 | exact isH_31 | exact isH_61 | exact isH_p (by omega) | exact isH_E (by assumption) (by omega) | exact isH_R (by assumption) | exact isH_K (by assumption) | exact isH_E isH_1 (by omega) | exact isH_R isH_1 | exact isH_K isH_1 | exact isH_R isH_31 | exact isH_K isH_31 | exact isH_E isH_31 (by omega)) (by omega) ?_
  refine J_iload_n 34 rfl dX10_exchange_33 rfl ?_
  refine J_iload_n 35 rfl dX10_exchange_34 rfl ?_
  refine J_callVi (As := [_, _]) 38 _ rfl kalX1_swapPlaces lkX10_98 dX10_exchange_35 (lt_X1 (by first | assumption | exact isH_1 | exact isH_31 | exact isH_61 | exact isH_p (by omega) | exact isH_E (by assumption) (by omega) | exact isH_R (by assumption) | exact isH_K (by assumption) | exact isH_E isH_1 (by omega) | exact isH_R isH_1 | exact isH_K isH_1 | exact isH_R isH_31 | exact isH_K isH_31 | exact isH_E isH_31 (by omega))) (so_X1 (by first | assumption | exact isH_1 | exact isH_31 | exact isH_61 | exact isH_p (by omega) | exact isH_E (by assumption) (by omega) | exact isH_R (by assumption) | exact isH_K (by assumption) | exact isH_E isH_1 (by omega) | exact isH_R isH_1 | exact isH_K isH_1 | exact isH_R isH_31 | exact isH_K isH_31 | exact isH_E isH_31 (by omega))) rfl rfl rfl (by exact Nat.le_of_ble_eq_true rfl) (by omega) (S_X1_swapPlaces (isH_E isH_1 (by omega)) (by omega) (by omega)) ?_
  refine J_iret rfl dX10_exchange_38 ?_
  have w := CP_swap cK hw z.1 z.2.1 z.2.2
  exact ⟨by assumption, by rw [w.2.2], Ch.of q21.1 q21.2 w.1 (CP_le w.2.1 (by omega))⟩

theorem S_X10_setRate {g : Gn} {J : DJ} {n B e t : Nat} {fs : Nat → Nat → Nat} {f s : Nat → Nat} (h : CI J f n fs s B) (h_e : e < 4294967296) (h_t : t < 4294967296) : SJ g mX10_setRate 16 1 6 [.ref (g.2 0), .int (nI (e)), .int (nI (t))] J (QF (fRate f e t) (f (9 + 52 * e)) (Ch J n fs f (xRate f e t) B)) (XF (fRate f e t) J) := by
  obtain ⟨hc, hw, hp, hsn, h350, hB⟩ := h
  have h0 := hw.1
  have h2 := hw.2.1
  have h3 := hw.2.2.1
  have h4 := hw.2.2.2.2.1.1
  have hr := hw.2.2.2.2.1
  have h6 := hw.2.2.2.1.1
  have s0 := hc.1.1.1
  have s3 := hc.1.1.2.1
  have s2 := hc.1.1.2.2.1
  have s1 := hc.1.1.2.2.2.1
  have s5 := hc.1.1.2.2.2.2
  have h5 := hw.2.2.2.2.2.2.2.2.2
  refine SJ_of_VJ (by decide +kernel) (Nat.le_of_ble_eq_true rfl) ?_
  show VJ g mX10_setRate 16 1 6 _ _ 0 [(0, .ref (g.2 0)), (1, .int (nI (e))), (2, .int (nI (t)))] [] J
  refine J_aload_n 1 rfl dX10_setRate_0 rfl ?_
  refine g_X10_house 4 rfl dX10_setRate_1 lkX10_10 ?_
  refine J_iload_n 5 rfl dX10_setRate_4 rfl ?_
  refine J_iload_n 6 rfl dX10_setRate_5 rfl ?_
  refine J_callVi (As := [_, _]) 9 _ rfl kalX3_faultOfRate lkX10_104 dX10_setRate_6 (lt_X3 (by first | assumption | exact isH_1 | exact isH_31 | exact isH_61 | exact isH_p (by omega) | exact isH_E (by assumption) (by omega) | exact isH_R (by assumption) | exact isH_K (by assumption) | exact isH_E isH_1 (by omega) | exact isH_R isH_1 | exact isH_K isH_1 | exact isH_R isH_31 | exact isH_K isH_31 | exact isH_E isH_31 (by omega))) (so_X3 (by first | assumption | exact isH_1 | exact isH_31 | exact isH_61 | exact isH_p (by omega) | exact isH_E (by assumption) (by omega) | exact isH_R (by assumption) | exact isH_K (by assumption) | exact isH_E isH_1 (by omega) | exact isH_R isH_1 | exact isH_K isH_1 | exact isH_R isH_31 | exact isH_K isH_31 | exact isH_E isH_31 (by omega))) rfl rfl rfl (by exact Nat.le_of_ble_eq_true rfl) (by omega) (S_X3_faultOfRate isH_1 hc.1 hw (by omega) (by omega)) ?_
  refine J_refuse 12 rfl dX10_setRate_9 lkX10_79 (by exact Nat.le_of_ble_eq_true rfl) (by omega) (by omega) (by omega) (fun c9 => ⟨by unfold fRate; (repeat' split) <;> omega, by assumption, rfl, Sc.refl⟩) (fun c9 => ?_)
  refine J_aload_n 13 rfl dX10_setRate_12 rfl ?_
  refine g_X10_past 16 rfl dX10_setRate_13 lkX10_25 ?_
  refine J_aload_n 17 rfl dX10_setRate_16 rfl ?_
  refine g_X10_house 20 rfl dX10_setRate_17 lkX10_10 ?_
  refine J_callVvp (As := [_]) 23 _ rfl kalX6_keep lkX10_83 dX10_setRate_20 (lt_X6) (so_X6) rfl rfl rfl (by exact Nat.le_of_ble_eq_true rfl) (by omega) (S_X6_keep hp hc hw) (fun J20 q20 => ?_)
  have z := fRate_0 (by assumption)
  have cK := CP_fr hc h0 (fun c x y => q20.1 c (by omega))
  have cK1 := cK.1.1.1
  refine J_aload_n 24 rfl dX10_setRate_23 rfl ?_
  refine g_X10_house 27 rfl dX10_setRate_24 lkX10_10 ?_
  refine g_X3_engines 30 (by first | assumption | exact isH_1 | exact isH_31 | exact isH_61 | exact isH_p (by omega) | exact isH_E (by assumption) (by omega) | exact isH_R (by assumption) | exact isH_K (by assumption) | exact isH_E isH_1 (by omega) | exact isH_R isH_1 | exact isH_K isH_1 | exact isH_R isH_31 | exact isH_K isH_31 | exact isH_E isH_31 (by omega)) rfl dX10_setRate_27 lkX10_94 ?_
  refine J_iload_n 31 rfl dX10_setRate_30 rfl ?_
  refine J_aaldE 32 _ rfl dX10_setRate_31 (by first | assumption | exact isH_1 | exact isH_31 | exact isH_61 | exact isH_p (by omega) | exact isH_E (by assumption) (by omega) | exact isH_R (by assumption) | exact isH_K (by assumption) | exact isH_E isH_1 (by omega) | exact isH_R isH_1 | exact isH_K isH_1 | exact isH_R isH_31 | exact isH_K isH_31 | exact isH_E isH_31 (by omega)) (by omega) ?_
  refine J_iload_n 33 rfl dX10_setRate_32 rfl ?_
  refine J_callVi (As := [_]) 36 _ rfl kalX1_changeRate lkX10_107 dX10_setRate_33 (lt_X1 (by first | assumption | exact isH_1 | exact isH_31 | exact isH_61 | exact isH_p (by omega) | exact isH_E (by assumption) (by omega) | exact isH_R (by assumption) | exact isH_K (by assumption) | exact isH_E isH_1 (by omega) | exact isH_R isH_1 | exact isH_K isH_1 | exact isH_R isH_31 | exact isH_K isH_31 | exact isH_E isH_31 (by omega))) (so_X1 (by first | assumption | exact isH_1 | exact isH_31 | exact isH_61 | exact isH_p (by omega) | exact isH_E (by assumption) (by omega) | exact isH_R (by assumption) | exact isH_K (by assumption) | exact isH_E isH_1 (by omega) | exact isH_R isH_1 | exact isH_K isH_1 | exact isH_R isH_31 | exact isH_K isH_31 | exact isH_E isH_31 (by omega))) rfl rfl rfl (by exact Nat.le_of_ble_eq_true rfl) (by omega) (S_X1_changeRate (isH_E isH_1 (by omega))) ?_
  refine J_cv (b := f (9 + 52 * e)) (by rw [(cK.1.2.2.2.2 e z.1).2.2.1, show 7 + 52 * e + 2 = 9 + 52 * e by omega]) ?_
  refine J_iret rfl dX10_setRate_36 ?_
  have w := CP_rate (s := t) cK hw z.1
  exact ⟨by assumption, rfl, Ch.of q20.1 q20.2 w.1 (CP_le w.2 (by omega))⟩

theorem S_X10_setAble {g : Gn} {J : DJ} {n B m v : Nat} {fs : Nat → Nat → Nat} {f s : Nat → Nat} (h : CI J f n fs s B) (h_m : m < 4294967296) (h_v : v < 4294967296) {a : Nat} (h_a : a < 2) : SJ g mX10_setAble 16 1 6 [.ref (g.2 0), .int (nI (m)), .int (nI (v)), .int (nI (a))] J (QF (fAble f m v) (if (f (215 + m)).testBit v then 1 else 0) (Ch J n fs f (xAble f m v a) B)) (XF (fAble f m v) J) := by
  obtain ⟨hc, hw, hp, hsn, h350, hB⟩ := h
  have h0 := hw.1
  have h2 := hw.2.1
  have h3 := hw.2.2.1
  have h4 := hw.2.2.2.2.1.1
  have hr := hw.2.2.2.2.1
  have h6 := hw.2.2.2.1.1
  have s0 := hc.1.1.1
  have s3 := hc.1.1.2.1
  have s2 := hc.1.1.2.2.1
  have s1 := hc.1.1.2.2.2.1
  have s5 := hc.1.1.2.2.2.2
  have h5 := hw.2.2.2.2.2.2.2.2.2
  refine SJ_of_VJ (by decide +kernel) (Nat.le_of_ble_eq_true rfl) ?_
  show VJ g mX10_setAble 16 1 6 _ _ 0 [(0, .ref (g.2 0)), (1, .int (nI (m))), (2, .int (nI (v))), (3, .int (nI (a)))] [] J
  refine J_aload_n 1 rfl dX10_setAble_0 rfl ?_
  refine g_X10_house 4 rfl dX10_setAble_1 lkX10_10 ?_
  refine J_iload_n 5 rfl dX10_setAble_4 rfl ?_
  refine J_iload_n 6 rfl dX10_setAble_5 rfl ?_
  refine J_callVi (As := [_, _]) 9 _ rfl kalX3_faultOfAble lkX10_242 dX10_setAble_6 (lt_X3 (by first | assumption | exact isH_1 | exact isH_31 | exact isH_61 | exact isH_p (by omega) | exact isH_E (by assumption) (by omega) | exact isH_R (by assumption) | exact isH_K (by assumption) | exact isH_E isH_1 (by omega) | exact isH_R isH_1 | exact isH_K isH_1 | exact isH_R isH_31 | exact isH_K isH_31 | exact isH_E isH_31 (by omega))) (so_X3 (by first | assumption | exact isH_1 | exact isH_31 | exact isH_61 | exact isH_p (by omega) | exact isH_E (by assumption) (by omega) | exact isH_R (by assumption) | exact isH_K (by assumption) | exact isH_E isH_1 (by omega) | exact isH_R isH_1 | exact isH_K isH_1 | exact isH_R isH_31 | exact isH_K isH_31 | exact isH_E isH_31 (by omega))) rfl rfl rfl (by exact Nat.le_of_ble_eq_true rfl) (by omega) (S_X3_faultOfAble isH_1 hc.1 hw (by omega) (by omega)) ?_
  refine J_refuse 12 rfl dX10_setAble_9 lkX10_79 (by exact Nat.le_of_ble_eq_true rfl) (by omega) (by omega) (by omega) (fun c9 => ⟨by unfold fAble; (repeat' split) <;> omega, by assumption, rfl, Sc.refl⟩) (fun c9 => ?_)
  refine J_aload_n 13 rfl dX10_setAble_12 rfl ?_
  refine g_X10_past 16 rfl dX10_setAble_13 lkX10_25 ?_
  refine J_aload_n 17 rfl dX10_setAble_16 rfl ?_
  refine g_X10_house 20 rfl dX10_setAble_17 lkX10_10 ?_
  refine J_callVvp (As := [_]) 23 _ rfl kalX6_keep lkX10_83 dX10_setAble_20 (lt_X6) (so_X6) rfl rfl rfl (by exact Nat.le_of_ble_eq_true rfl) (by omega) (S_X6_keep hp hc hw) (fun J20 q20 => ?_)
  have z := fAble_0 (by assumption)
  have cK := CP_fr hc h0 (fun c x y => q20.1 c (by omega))
  refine J_aload_n 24 rfl dX10_setAble_23 rfl ?_
  refine g_X10_house 27 rfl dX10_setAble_24 lkX10_10 ?_
  refine J_iload_n 28 rfl dX10_setAble_27 rfl ?_
  refine J_iload_n 29 rfl dX10_setAble_28 rfl ?_
  refine J_iload_n 30 rfl dX10_setAble_29 rfl ?_
  refine J_callVip (As := [_, _, _]) 33 _ rfl kalX3_changeAble lkX10_245 dX10_setAble_30 (lt_X3 (by first | assumption | exact isH_1 | exact isH_31 | exact isH_61 | exact isH_p (by omega) | exact isH_E (by assumption) (by omega) | exact isH_R (by assumption) | exact isH_K (by assumption) | exact isH_E isH_1 (by omega) | exact isH_R isH_1 | exact isH_K isH_1 | exact isH_R isH_31 | exact isH_K isH_31 | exact isH_E isH_31 (by omega))) (so_X3 (by first | assumption | exact isH_1 | exact isH_31 | exact isH_61 | exact isH_p (by omega) | exact isH_E (by assumption) (by omega) | exact isH_R (by assumption) | exact isH_K (by assumption) | exact isH_E isH_1 (by omega) | exact isH_R isH_1 | exact isH_K isH_1 | exact isH_R isH_31 | exact isH_K isH_31 | exact isH_E isH_31 (by omega))) rfl rfl rfl (by exact Nat.le_of_ble_eq_true rfl) (by omega) (S_X3_changeAble isH_1 cK hw z.1 z.2 h_a) (fun J30 q30 => ?_)
  refine J_cv (b := bt ((f (215 + m)).testBit v = true)) (by unfold bt; rfl) ?_
  refine J_zret (hdp := _) rfl dX10_setAble_33 ?_
  exact ⟨by assumption, by unfold bt; rfl, Ch.of q20.1 q20.2 q30.1 (CP_le q30.2 (by omega))⟩

theorem S_X10_addRepair {g : Gn} {J : DJ} {n B e t p : Nat} {fs : Nat → Nat → Nat} {f s : Nat → Nat} (h : CI J f n fs s B) (h_e : e < 4294967296) (h_t : t < 4294967296) (h_p : p < 4294967296) : SJ g mX10_addRepair 16 1 6 [.ref (g.2 0), .int (nI (e)), .int (nI (t)), .int (nI (p))] J (QF (fMend f e t p) (f 4) (Ch J n fs f (mAsk f e t p) B)) (XF (fMend f e t p) J) := by
  obtain ⟨hc, hw, hp, hsn, h350, hB⟩ := h
  have h0 := hw.1
  have h2 := hw.2.1
  have h3 := hw.2.2.1
  have h4 := hw.2.2.2.2.1.1
  have hr := hw.2.2.2.2.1
  have h6 := hw.2.2.2.1.1
  have s0 := hc.1.1.1
  have s3 := hc.1.1.2.1
  have s2 := hc.1.1.2.2.1
  have s1 := hc.1.1.2.2.2.1
  have s5 := hc.1.1.2.2.2.2
  have h5 := hw.2.2.2.2.2.2.2.2.2
  refine SJ_of_VJ (by decide +kernel) (Nat.le_of_ble_eq_true rfl) ?_
  show VJ g mX10_addRepair 16 1 6 _ _ 0 [(0, .ref (g.2 0)), (1, .int (nI (e))), (2, .int (nI (t))), (3, .int (nI (p)))] [] J
  refine J_aload_n 1 rfl dX10_addRepair_0 rfl ?_
  refine g_X10_house 4 rfl dX10_addRepair_1 lkX10_10 ?_
  refine J_iload_n 5 rfl dX10_addRepair_4 rfl ?_
  refine J_iload_n 6 rfl dX10_addRepair_5 rfl ?_
  refine J_iload_n 7 rfl dX10_addRepair_6 rfl ?_
  refine J_callVi (As := [_, _, _]) 10 _ rfl kalX3_faultOfRepair lkX10_265 dX10_addRepair_7 (lt_X3 (by first | assumption | exact isH_1 | exact isH_31 | exact isH_61 | exact isH_p (by omega) | exact isH_E (by assumption) (by omega) | exact isH_R (by assumption) | exact isH_K (by assumption) | exact isH_E isH_1 (by omega) | exact isH_R isH_1 | exact isH_K isH_1 | exact isH_R isH_31 | exact isH_K isH_31 | exact isH_E isH_31 (by omega))) (so_X3 (by first | assumption | exact isH_1 | exact isH_31 | exact isH_61 | exact isH_p (by omega) | exact isH_E (by assumption) (by omega) | exact isH_R (by assumption) | exact isH_K (by assumption) | exact isH_E isH_1 (by omega) | exact isH_R isH_1 | exact isH_K isH_1 | exact isH_R isH_31 | exact isH_K isH_31 | exact isH_E isH_31 (by omega))) rfl rfl rfl (by exact Nat.le_of_ble_eq_true rfl) (by omega) (S_X3_faultOfRepair isH_1 hc.1 hw (by omega) (by omega) (by omega)) ?_
  refine J_refuse 13 rfl dX10_addRepair_10 lkX10_79 (by exact Nat.le_of_ble_eq_true rfl) (by omega) (by omega) (by omega) (fun c10 => ⟨by unfold fMend; (repeat' split) <;> omega, by assumption, rfl, Sc.refl⟩) (fun c10 => ?_)
  refine J_aload_n 14 rfl dX10_addRepair_13 rfl ?_
  refine g_X10_past 17 rfl dX10_addRepair_14 lkX10_25 ?_
  refine J_aload_n 18 rfl dX10_addRepair_17 rfl ?_
  refine g_X10_house 21 rfl dX10_addRepair_18 lkX10_10 ?_
  refine J_callVvp (As := [_]) 24 _ rfl kalX6_keep lkX10_83 dX10_addRepair_21 (lt_X6) (so_X6) rfl rfl rfl (by exact Nat.le_of_ble_eq_true rfl) (by omega) (S_X6_keep hp hc hw) (fun J21 q21 => ?_)
  have z := fMend_0 (by assumption)
  have cK := CP_fr hc h0 (fun c x y => q21.1 c (by omega))
  have cK1 := cK.1.1.1
  refine J_aload_n 25 rfl dX10_addRepair_24 rfl ?_
  refine g_X10_house 28 rfl dX10_addRepair_25 lkX10_10 ?_
  refine g_X3_repairs 31 (by first | assumption | exact isH_1 | exact isH_31 | exact isH_61 | exact isH_p (by omega) | exact isH_E (by assumption) (by omega) | exact isH_R (by assumption) | exact isH_K (by assumption) | exact isH_E isH_1 (by omega) | exact isH_R isH_1 | exact isH_K isH_1 | exact isH_R isH_31 | exact isH_K isH_31 | exact isH_E isH_31 (by omega)) rfl dX10_addRepair_28 lkX10_268 ?_
  refine J_iload_n 32 rfl dX10_addRepair_31 rfl ?_
  refine J_iload_n 33 rfl dX10_addRepair_32 rfl ?_
  refine J_iload_n 34 rfl dX10_addRepair_33 rfl ?_
  refine J_callVip (As := [_, _, _]) 37 _ rfl kalX8_ask lkX10_272 dX10_addRepair_34 (lt_X8 (by first | assumption | exact isH_1 | exact isH_31 | exact isH_61 | exact isH_p (by omega) | exact isH_E (by assumption) (by omega) | exact isH_R (by assumption) | exact isH_K (by assumption) | exact isH_E isH_1 (by omega) | exact isH_R isH_1 | exact isH_K isH_1 | exact isH_R isH_31 | exact isH_K isH_31 | exact isH_E isH_31 (by omega))) (so_X8 (by first | assumption | exact isH_1 | exact isH_31 | exact isH_61 | exact isH_p (by omega) | exact isH_E (by assumption) (by omega) | exact isH_R (by assumption) | exact isH_K (by assumption) | exact isH_E isH_1 (by omega) | exact isH_R isH_1 | exact isH_K isH_1 | exact isH_R isH_31 | exact isH_K isH_31 | exact isH_E isH_31 (by omega))) rfl rfl rfl (by exact Nat.le_of_ble_eq_true rfl) (by omega) (S_X8_ask (isH_R isH_1) cK.1.2.2.1 (by omega)) (fun J34 q34 => ?_)
  refine J_iret rfl dX10_addRepair_37 ?_
  have w := CP_reps cK hw q34.1 (fun i a b => mAsk_out (by omega) a b) q34.2
  exact ⟨by assumption, rfl, Ch.of q21.1 q21.2 w.1 (CP_le w.2 (by omega))⟩

theorem S_X10_removeRepair {g : Gn} {J : DJ} {n B p : Nat} {fs : Nat → Nat → Nat} {f s : Nat → Nat} (h : CI J f n fs s B) (h_p : p < 4294967296) : SJ g mX10_removeRepair 16 1 6 [.ref (g.2 0), .int (nI (p))] J (QF (qRm f p) (f 4 - 1) (Ch J n fs f (mDrop f p) B)) (XF (qRm f p) J) := by
  obtain ⟨hc, hw, hp, hsn, h350, hB⟩ := h
  have h0 := hw.1
  have h2 := hw.2.1
  have h3 := hw.2.2.1
  have h4 := hw.2.2.2.2.1.1
  have hr := hw.2.2.2.2.1
  have h6 := hw.2.2.2.1.1
  have s0 := hc.1.1.1
  have s3 := hc.1.1.2.1
  have s2 := hc.1.1.2.2.1
  have s1 := hc.1.1.2.2.2.1
  have s5 := hc.1.1.2.2.2.2
  have h5 := hw.2.2.2.2.2.2.2.2.2
  have s4 : J (1 + 3) 3 = f 4 := hc.1.2.2.1.1
  refine SJ_of_VJ (by decide +kernel) (Nat.le_of_ble_eq_true rfl) ?_
  show VJ g mX10_removeRepair 16 1 6 _ _ 0 [(0, .ref (g.2 0)), (1, .int (nI (p)))] [] J
  refine J_iload_n 1 rfl dX10_removeRepair_0 rfl ?_
  refine J_iconst 2 0 rfl dX10_removeRepair_1 ic_0 ?_
  refine J_aload_n 3 rfl dX10_removeRepair_2 rfl ?_
  refine g_X10_house 6 rfl dX10_removeRepair_3 lkX10_10 ?_
  refine g_X3_repairs 9 (by first | assumption | exact isH_1 | exact isH_31 | exact isH_61 | exact isH_p (by omega) | exact isH_E (by assumption) (by omega) | exact isH_R (by assumption) | exact isH_K (by assumption) | exact isH_E isH_1 (by omega) | exact isH_R isH_1 | exact isH_K isH_1 | exact isH_R isH_31 | exact isH_K isH_31 | exact isH_E isH_31 (by omega)) rfl dX10_removeRepair_6 lkX10_268 ?_
  refine g_X8_count 12 (by first | assumption | exact isH_1 | exact isH_31 | exact isH_61 | exact isH_p (by omega) | exact isH_E (by assumption) (by omega) | exact isH_R (by assumption) | exact isH_K (by assumption) | exact isH_E isH_1 (by omega) | exact isH_R isH_1 | exact isH_K isH_1 | exact isH_R isH_31 | exact isH_K isH_31 | exact isH_E isH_31 (by omega)) rfl dX10_removeRepair_9 lkX10_277 ?_
  refine J_cv (b := f 4) s4 ?_
  refine J_iconst 13 1 rfl dX10_removeRepair_12 ic_1 ?_
  refine J_isubR 14 rfl dX10_removeRepair_13 ?_
  refine J_callSi (As := [_, _, _]) 17 rfl kalX10_isWithin lkX10_131 dX10_removeRepair_14 rfl rfl (by exact Nat.le_of_ble_eq_true rfl) (by omega) (S_within_lt (by omega) (by omega) (by omega)) ?_
  refine J_reqIndex (hdp := _) 20 rfl dX10_removeRepair_17 lkX10_124 (by exact Nat.le_of_ble_eq_true rfl) (by omega) (by omega) (by omega) (fun c17 => ⟨by unfold qRm; rw [if_neg (by omega)]; omega, by unfold qRm; rw [if_neg (by omega)]; rfl, Sc.refl⟩) (fun c17 => ?_)
  refine J_aload_n 21 rfl dX10_removeRepair_20 rfl ?_
  refine g_X10_past 24 rfl dX10_removeRepair_21 lkX10_25 ?_
  refine J_aload_n 25 rfl dX10_removeRepair_24 rfl ?_
  refine g_X10_house 28 rfl dX10_removeRepair_25 lkX10_10 ?_
  refine J_callVvp (As := [_]) 31 _ rfl kalX6_keep lkX10_83 dX10_removeRepair_28 (lt_X6) (so_X6) rfl rfl rfl (by exact Nat.le_of_ble_eq_true rfl) (by omega) (S_X6_keep hp hc hw) (fun J28 q28 => ?_)
  have cK := CP_fr hc h0 (fun c x y => q28.1 c (by omega))
  refine J_aload_n 32 rfl dX10_removeRepair_31 rfl ?_
  refine g_X10_house 35 rfl dX10_removeRepair_32 lkX10_10 ?_
  refine g_X3_repairs 38 (by first | assumption | exact isH_1 | exact isH_31 | exact isH_61 | exact isH_p (by omega) | exact isH_E (by assumption) (by omega) | exact isH_R (by assumption) | exact isH_K (by assumption) | exact isH_E isH_1 (by omega) | exact isH_R isH_1 | exact isH_K isH_1 | exact isH_R isH_31 | exact isH_K isH_31 | exact isH_E isH_31 (by omega)) rfl dX10_removeRepair_35 lkX10_268 ?_
  refine J_iload_n 39 rfl dX10_removeRepair_38 rfl ?_
  refine J_callVip (As := [_]) 42 _ rfl kalX8_withdraw lkX10_280 dX10_removeRepair_39 (lt_X8 (by first | assumption | exact isH_1 | exact isH_31 | exact isH_61 | exact isH_p (by omega) | exact isH_E (by assumption) (by omega) | exact isH_R (by assumption) | exact isH_K (by assumption) | exact isH_E isH_1 (by omega) | exact isH_R isH_1 | exact isH_K isH_1 | exact isH_R isH_31 | exact isH_K isH_31 | exact isH_E isH_31 (by omega))) (so_X8 (by first | assumption | exact isH_1 | exact isH_31 | exact isH_61 | exact isH_p (by omega) | exact isH_E (by assumption) (by omega) | exact isH_R (by assumption) | exact isH_K (by assumption) | exact isH_E isH_1 (by omega) | exact isH_R isH_1 | exact isH_K isH_1 | exact isH_R isH_31 | exact isH_K isH_31 | exact isH_E isH_31 (by omega))) rfl rfl rfl (by exact Nat.le_of_ble_eq_true rfl) (by omega) (S_X8_withdraw (isH_R isH_1) cK.1.2.2.1 h4 (by omega)) (fun J39 q39 => ?_)
  refine J_iret rfl dX10_removeRepair_42 ?_
  have w := CP_reps cK hw q39.1 (fun i a b => mDrop_out a b) q39.2
  exact ⟨by unfold qRm; rw [if_pos (by omega)], rfl, Ch.of q28.1 q28.2 w.1 (CP_le w.2 (by omega))⟩

