/-! THE LAW: cases that ask both sides straight (laid by wip/whole/src/p76.py) -/
theorem getD_lt {l : List Nat} {N : Nat} (hN : 0 < N) (h : ∀ x, x ∈ l → x < N) (j : Nat) : l.getD j 0 < N := by
  rw [List.getD_eq_getElem?_getD]
  by_cases q : j < l.length
  · rw [List.getElem?_eq_getElem q]; exact h _ (List.getElem_mem q)
  · rw [List.getElem?_eq_none (by omega)]; exact hN
theorem rtN_lt (f : Nat → Nat) : ∀ k x, x ∈ rtN f k → x < 65536
  | 0, x, h => absurd h List.not_mem_nil
  | k + 1, x, h => by
    simp only [rtN] at h
    rcases List.mem_append.mp h with h | h
    · exact rtN_lt f k x h
    · have e : x = rtC f k := by simpa using h
      have q := kp_lt (fvig f) k
      rw [e]; unfold rtC
      split <;> omega
theorem lnN_lt {f : Nat → Nat} {o : Nat} (ok : EOk f o) : ∀ k, k ≤ f o → ∀ x, x ∈ lnN f o k → x < 65536
  | 0, _, x, h => absurd h List.not_mem_nil
  | k + 1, hk, x, h => by
    simp only [lnN] at h
    have o8 := ok.2.1
    have oc := ok.2.2.2.2.2.1 k (by omega)
    rcases List.mem_append.mp h with h | h
    · exact lnN_lt ok k (by omega) x h
    · unfold lnP at h
      rcases List.mem_append.mp h with h | h
      · split at h
        · have e : x = 42 := by simpa using h
          omega
        · exact absurd h List.not_mem_nil
      · rcases List.mem_append.mp h with h | h
        · have e : x = 48 + f (o + 4 + k) := by simpa using h
          omega
        · split at h
          · have e : x = 33 := by simpa using h
            omega
          · exact absurd h List.not_mem_nil
theorem lnE2_ok {f : Nat → Nat} {e : Nat} (he : e < 4) (ok : EOk f (7 + 52 * e)) : (lnE2 f e).length ≤ 19 ∧ ∀ x, x ∈ lnE2 f e → x < 65536 := by
  have o8 := ok.2.1
  have ln := lnN_len f (7 + 52 * e) (f (7 + 52 * e))
  refine ⟨?_, fun x h => ?_⟩
  · unfold lnE2
    rw [List.length_append, List.length_append]
    simp only [List.length_cons, List.length_nil]
    split at ln <;> omega
  · unfold lnE2 at h
    rcases List.mem_append.mp h with h | h
    · have q : x = 48 + e := by simpa using h
      omega
    · rcases List.mem_append.mp h with h | h
      · have q : x = 58 := by simpa using h
        omega
      · exact lnN_lt ok _ (Nat.le_refl _) x h
theorem op_3 {g : Gn} {S : State → Prop} {b Ln i kc ks B : Nat} {xs : Nat → Int32} {J : DJ} (hS : ScrS g S b Ln xs) (hi : i + 3 < Ln) (h : LI J B) (hB : B + 39000 < 40000000) (hkc : 34 ≤ kc) (hks : 204 ≤ ks) (next : ∀ J2, LI J2 (B + 39000) → TJ g S (kc - 34) (ks - 204) 3074 (LL g b i) [] J2) : TJ g S kc ks 492 (LL g b i) [] J := by
  have hw := h.1.2.1
  refine T_aload_n 493 rfl dL_law_492 rfl ?_
  refine TJ_callM (As := []) 0 kalX10_engineCount lkL_177 dL_law_493 (by omega) rfl rfl rfl rfl (by exact Nat.le_of_ble_eq_true rfl) (by omega) (by omega) (by omega) (S_X10_engineCount h.1) (fun v J1 q => ?_)
  obtain ⟨-, rfl, sc⟩ := q
  have kq := Kq.sc sc
  have e52 : J1 352 = J 352 := kq.1 352 (by omega)
  refine T_aload_n 497 rfl dL_law_496 rfl ?_
  have hm := S_X11_engineCount (g := g) (J := J1) (f := J 352) hw (by have := h.1.2.2.2.2.2; omega)
  rw [LI_f h e52] at hm
  refine TJ_callM (As := []) 351 kalX11_engineCount lkL_180 dL_law_497 (by omega) rfl rfl rfl rfl (by exact Nat.le_of_ble_eq_true rfl) (by omega) (Nat.zero_le _) (Nat.zero_le _) hm (fun v J2 q => ?_)
  obtain ⟨r, rfl, q⟩ := q
  have z : r = _ ∧ MNo J1 J2 0 := q.elim (fun y => y.2) (fun y => absurd rfl y.1)
  obtain ⟨rfl, mn⟩ := z
  have li := LI_q h kq mn
  exact T_icmp_eq 3074 503 (by decide) rfl dL_law_500 (fun _ => T_more (by omega) (by omega) (next J2 (LI_le li (by omega) hB))) (fun z => absurd rfl z)
theorem op_21 {g : Gn} {S : State → Prop} {b Ln i kc ks B : Nat} {xs : Nat → Int32} {J : DJ} (hS : ScrS g S b Ln xs) (hi : i + 3 < Ln) (h : LI J B) (hB : B + 39000 < 40000000) (hkc : 34 ≤ kc) (hks : 204 ≤ ks) (next : ∀ J2, LI J2 (B + 39000) → TJ g S (kc - 34) (ks - 204) 3074 (LL g b i) [] J2) : TJ g S kc ks 1577 (LL g b i) [] J := by
  have hw := h.1.2.1
  refine T_aload_n 1578 rfl dL_law_1577 rfl ?_
  refine TJ_callM (As := []) 0 kalX10_allOil lkL_232 dL_law_1578 (by omega) rfl rfl rfl rfl (by exact Nat.le_of_ble_eq_true rfl) (by omega) (by omega) (by omega) (S_X10_allOil h.1) (fun v J1 q => ?_)
  obtain ⟨-, rfl, sc⟩ := q
  have kq := Kq.sc sc
  have e52 : J1 352 = J 352 := kq.1 352 (by omega)
  refine T_aload_n 1582 rfl dL_law_1581 rfl ?_
  have hm := S_X11_allOil (g := g) (J := J1) (f := J 352) hw (by have := h.1.2.2.2.2.2; omega)
  rw [LI_f h e52] at hm
  refine TJ_callM (As := []) 351 kalX11_allOil lkL_235 dL_law_1582 (by omega) rfl rfl rfl rfl (by exact Nat.le_of_ble_eq_true rfl) (by omega) (Nat.zero_le _) (Nat.zero_le _) hm (fun v J2 q => ?_)
  obtain ⟨r, rfl, q⟩ := q
  have z : r = _ ∧ MNo J1 J2 0 := q.elim (fun y => y.2) (fun y => absurd rfl y.1)
  obtain ⟨rfl, mn⟩ := z
  have li := LI_q h kq mn
  exact T_icmp_eq 3074 1588 (by decide) rfl dL_law_1585 (fun _ => T_more (by omega) (by omega) (next J2 (LI_le li (by omega) hB))) (fun z => absurd rfl z)
theorem op_22 {g : Gn} {S : State → Prop} {b Ln i kc ks B : Nat} {xs : Nat → Int32} {J : DJ} (hS : ScrS g S b Ln xs) (hi : i + 3 < Ln) (h : LI J B) (hB : B + 39000 < 40000000) (hkc : 34 ≤ kc) (hks : 204 ≤ ks) (next : ∀ J2, LI J2 (B + 39000) → TJ g S (kc - 34) (ks - 204) 3074 (LL g b i) [] J2) : TJ g S kc ks 1590 (LL g b i) [] J := by
  have hw := h.1.2.1
  refine T_aload_n 1591 rfl dL_law_1590 rfl ?_
  refine TJ_callM (As := []) 0 kalX10_allOilByAccounts lkL_236 dL_law_1591 (by omega) rfl rfl rfl rfl (by exact Nat.le_of_ble_eq_true rfl) (by omega) (by omega) (by omega) (S_X10_allOilByAccounts h.1) (fun v J1 q => ?_)
  obtain ⟨-, rfl, sc⟩ := q
  have kq := Kq.sc sc
  have e52 : J1 352 = J 352 := kq.1 352 (by omega)
  refine T_aload_n 1595 rfl dL_law_1594 rfl ?_
  have hm := S_X11_allOilByAccounts (g := g) (J := J1) (f := J 352) hw (by have := h.1.2.2.2.2.2; omega)
  rw [LI_f h e52] at hm
  refine TJ_callM (As := []) 351 kalX11_allOilByAccounts lkL_239 dL_law_1595 (by omega) rfl rfl rfl rfl (by exact Nat.le_of_ble_eq_true rfl) (by omega) (Nat.zero_le _) (Nat.zero_le _) hm (fun v J2 q => ?_)
  obtain ⟨r, rfl, q⟩ := q
  have z : r = _ ∧ MNo J1 J2 0 := q.elim (fun y => y.2) (fun y => absurd rfl y.1)
  obtain ⟨rfl, mn⟩ := z
  have li := LI_q h kq mn
  exact T_icmp_eq 3074 1601 (by decide) rfl dL_law_1598 (fun _ => T_more (by omega) (by omega) (next J2 (LI_le li (by omega) hB))) (fun z => absurd rfl z)
theorem op_30 {g : Gn} {S : State → Prop} {b Ln i kc ks B : Nat} {xs : Nat → Int32} {J : DJ} (hS : ScrS g S b Ln xs) (hi : i + 3 < Ln) (h : LI J B) (hB : B + 39000 < 40000000) (hkc : 34 ≤ kc) (hks : 204 ≤ ks) (next : ∀ J2, LI J2 (B + 39000) → TJ g S (kc - 34) (ks - 204) 3074 (LL g b i) [] J2) : TJ g S kc ks 2042 (LL g b i) [] J := by
  have hw := h.1.2.1
  refine T_aload_n 2043 rfl dL_law_2042 rfl ?_
  refine TJ_callM (As := []) 0 kalX10_mostVigils lkL_263 dL_law_2043 (by omega) rfl rfl rfl rfl (by exact Nat.le_of_ble_eq_true rfl) (by omega) (by omega) (by omega) (S_X10_mostVigils h.1) (fun v J1 q => ?_)
  obtain ⟨-, rfl, sc⟩ := q
  have kq := Kq.sc sc
  have e52 : J1 352 = J 352 := kq.1 352 (by omega)
  refine T_aload_n 2047 rfl dL_law_2046 rfl ?_
  have hm := S_X11_mostVigils (g := g) (J := J1) (f := J 352) hw (by have := h.1.2.2.2.2.2; omega)
  rw [LI_f h e52] at hm
  refine TJ_callM (As := []) 351 kalX11_mostVigils lkL_266 dL_law_2047 (by omega) rfl rfl rfl rfl (by exact Nat.le_of_ble_eq_true rfl) (by omega) (Nat.zero_le _) (Nat.zero_le _) hm (fun v J2 q => ?_)
  obtain ⟨r, rfl, q⟩ := q
  have z : r = _ ∧ MNo J1 J2 0 := q.elim (fun y => y.2) (fun y => absurd rfl y.1)
  obtain ⟨rfl, mn⟩ := z
  have li := LI_q h kq mn
  exact T_icmp_eq 3074 2053 (by decide) rfl dL_law_2050 (fun _ => T_more (by omega) (by omega) (next J2 (LI_le li (by omega) hB))) (fun z => absurd rfl z)
theorem op_31 {g : Gn} {S : State → Prop} {b Ln i kc ks B : Nat} {xs : Nat → Int32} {J : DJ} (hS : ScrS g S b Ln xs) (hi : i + 3 < Ln) (h : LI J B) (hB : B + 39000 < 40000000) (hkc : 34 ≤ kc) (hks : 204 ≤ ks) (next : ∀ J2, LI J2 (B + 39000) → TJ g S (kc - 34) (ks - 204) 3074 (LL g b i) [] J2) : TJ g S kc ks 2055 (LL g b i) [] J := by
  have hw := h.1.2.1
  refine T_aload_n 2056 rfl dL_law_2055 rfl ?_
  refine TJ_callM (As := []) 0 kalX10_mostVigilsByTable lkL_267 dL_law_2056 (by omega) rfl rfl rfl rfl (by exact Nat.le_of_ble_eq_true rfl) (by omega) (by omega) (by omega) (S_X10_mostVigilsByTable h.1) (fun v J1 q => ?_)
  obtain ⟨-, rfl, sc⟩ := q
  have kq := Kq.sc sc
  have e52 : J1 352 = J 352 := kq.1 352 (by omega)
  refine T_aload_n 2060 rfl dL_law_2059 rfl ?_
  have hm := S_X11_mostVigilsByTable (g := g) (J := J1) (f := J 352) hw (by have := h.1.2.2.2.2.2; omega)
  rw [LI_f h e52] at hm
  refine TJ_callM (As := []) 351 kalX11_mostVigilsByTable lkL_270 dL_law_2060 (by omega) rfl rfl rfl rfl (by exact Nat.le_of_ble_eq_true rfl) (by omega) (Nat.zero_le _) (Nat.zero_le _) hm (fun v J2 q => ?_)
  obtain ⟨r, rfl, q⟩ := q
  have z : r = _ ∧ MNo J1 J2 0 := q.elim (fun y => y.2) (fun y => absurd rfl y.1)
  obtain ⟨rfl, mn⟩ := z
  have li := LI_q h kq mn
  exact T_icmp_eq 3074 2066 (by decide) rfl dL_law_2063 (fun _ => T_more (by omega) (by omega) (next J2 (LI_le li (by omega) hB))) (fun z => absurd rfl z)
theorem op_35 {g : Gn} {S : State → Prop} {b Ln i kc ks B : Nat} {xs : Nat → Int32} {J : DJ} (hS : ScrS g S b Ln xs) (hi : i + 3 < Ln) (h : LI J B) (hB : B + 39000 < 40000000) (hkc : 34 ≤ kc) (hks : 204 ≤ ks) (next : ∀ J2, LI J2 (B + 39000) → TJ g S (kc - 34) (ks - 204) 3074 (LL g b i) [] J2) : TJ g S kc ks 2260 (LL g b i) [] J := by
  have hw := h.1.2.1
  refine T_aload_n 2261 rfl dL_law_2260 rfl ?_
  refine TJ_callM (As := []) 0 kalX10_repairCount lkL_280 dL_law_2261 (by omega) rfl rfl rfl rfl (by exact Nat.le_of_ble_eq_true rfl) (by omega) (by omega) (by omega) (S_X10_repairCount h.1) (fun v J1 q => ?_)
  obtain ⟨-, rfl, sc⟩ := q
  have kq := Kq.sc sc
  have e52 : J1 352 = J 352 := kq.1 352 (by omega)
  refine T_aload_n 2265 rfl dL_law_2264 rfl ?_
  have hm := S_X11_repairCount (g := g) (J := J1) (f := J 352) hw (by have := h.1.2.2.2.2.2; omega)
  rw [LI_f h e52] at hm
  refine TJ_callM (As := []) 351 kalX11_repairCount lkL_283 dL_law_2265 (by omega) rfl rfl rfl rfl (by exact Nat.le_of_ble_eq_true rfl) (by omega) (Nat.zero_le _) (Nat.zero_le _) hm (fun v J2 q => ?_)
  obtain ⟨r, rfl, q⟩ := q
  have z : r = _ ∧ MNo J1 J2 0 := q.elim (fun y => y.2) (fun y => absurd rfl y.1)
  obtain ⟨rfl, mn⟩ := z
  have li := LI_q h kq mn
  exact T_icmp_eq 3074 2271 (by decide) rfl dL_law_2268 (fun _ => T_more (by omega) (by omega) (next J2 (LI_le li (by omega) hB))) (fun z => absurd rfl z)
theorem op_37 {g : Gn} {S : State → Prop} {b Ln i kc ks B : Nat} {xs : Nat → Int32} {J : DJ} (hS : ScrS g S b Ln xs) (hi : i + 3 < Ln) (h : LI J B) (hB : B + 39000 < 40000000) (hkc : 34 ≤ kc) (hks : 204 ≤ ks) (next : ∀ J2, LI J2 (B + 39000) → TJ g S (kc - 34) (ks - 204) 3074 (LL g b i) [] J2) : TJ g S kc ks 2286 (LL g b i) [] J := by
  have hw := h.1.2.1
  refine T_aload_n 2287 rfl dL_law_2286 rfl ?_
  refine TJ_callM (As := []) 0 kalX10_leastPenanceByTable lkL_288 dL_law_2287 (by omega) rfl rfl rfl rfl (by exact Nat.le_of_ble_eq_true rfl) (by omega) (by omega) (by omega) (S_X10_leastPenanceByTable h.1) (fun v J1 q => ?_)
  obtain ⟨-, rfl, sc⟩ := q
  have kq := Kq.sc sc
  have e52 : J1 352 = J 352 := kq.1 352 (by omega)
  refine T_aload_n 2291 rfl dL_law_2290 rfl ?_
  have hm := S_X11_leastPenanceByTable (g := g) (J := J1) (f := J 352) hw (by have := h.1.2.2.2.2.2; omega)
  rw [LI_f h e52] at hm
  refine TJ_callM (As := []) 351 kalX11_leastPenanceByTable lkL_291 dL_law_2291 (by omega) rfl rfl rfl rfl (by exact Nat.le_of_ble_eq_true rfl) (by omega) (Nat.zero_le _) (Nat.zero_le _) hm (fun v J2 q => ?_)
  obtain ⟨r, rfl, q⟩ := q
  have z : r = _ ∧ MNo J1 J2 0 := q.elim (fun y => y.2) (fun y => absurd rfl y.1)
  obtain ⟨rfl, mn⟩ := z
  have li := LI_q h kq mn
  exact T_icmp_eq 3074 2297 (by decide) rfl dL_law_2294 (fun _ => T_more (by omega) (by omega) (next J2 (LI_le li (by omega) hB))) (fun z => absurd rfl z)
theorem op_39 {g : Gn} {S : State → Prop} {b Ln i kc ks B : Nat} {xs : Nat → Int32} {J : DJ} (hS : ScrS g S b Ln xs) (hi : i + 3 < Ln) (h : LI J B) (hB : B + 39000 < 40000000) (hkc : 34 ≤ kc) (hks : 204 ≤ ks) (next : ∀ J2, LI J2 (B + 39000) → TJ g S (kc - 34) (ks - 204) 3074 (LL g b i) [] J2) : TJ g S kc ks 2343 (LL g b i) [] J := by
  have hw := h.1.2.1
  refine T_aload_n 2344 rfl dL_law_2343 rfl ?_
  refine TJ_callM (As := []) 0 kalX10_penanceDone lkL_295 dL_law_2344 (by omega) rfl rfl rfl rfl (by exact Nat.le_of_ble_eq_true rfl) (by omega) (by omega) (by omega) (S_X10_penanceDone h.1) (fun v J1 q => ?_)
  obtain ⟨-, rfl, sc⟩ := q
  have kq := Kq.sc sc
  have e52 : J1 352 = J 352 := kq.1 352 (by omega)
  refine T_aload_n 2348 rfl dL_law_2347 rfl ?_
  have hm := S_X11_penanceDone (g := g) (J := J1) (f := J 352) hw (by have := h.1.2.2.2.2.2; omega)
  rw [LI_f h e52] at hm
  refine TJ_callM (As := []) 351 kalX11_penanceDone lkL_298 dL_law_2348 (by omega) rfl rfl rfl rfl (by exact Nat.le_of_ble_eq_true rfl) (by omega) (Nat.zero_le _) (Nat.zero_le _) hm (fun v J2 q => ?_)
  obtain ⟨r, rfl, q⟩ := q
  have z : r = _ ∧ MNo J1 J2 0 := q.elim (fun y => y.2) (fun y => absurd rfl y.1)
  obtain ⟨rfl, mn⟩ := z
  have li := LI_q h kq mn
  exact T_icmp_eq 3074 2354 (by decide) rfl dL_law_2351 (fun _ => T_more (by omega) (by omega) (next J2 (LI_le li (by omega) hB))) (fun z => absurd rfl z)
theorem op_41 {g : Gn} {S : State → Prop} {b Ln i kc ks B : Nat} {xs : Nat → Int32} {J : DJ} (hS : ScrS g S b Ln xs) (hi : i + 3 < Ln) (h : LI J B) (hB : B + 39000 < 40000000) (hkc : 34 ≤ kc) (hks : 204 ≤ ks) (next : ∀ J2, LI J2 (B + 39000) → TJ g S (kc - 34) (ks - 204) 3074 (LL g b i) [] J2) : TJ g S kc ks 2412 (LL g b i) [] J := by
  have hw := h.1.2.1
  refine T_aload_n 2413 rfl dL_law_2412 rfl ?_
  refine TJ_callM (As := []) 0 kalX10_hour lkL_302 dL_law_2413 (by omega) rfl rfl rfl rfl (by exact Nat.le_of_ble_eq_true rfl) (by omega) (by omega) (by omega) (S_X10_hour h.1) (fun v J1 q => ?_)
  obtain ⟨-, rfl, sc⟩ := q
  have kq := Kq.sc sc
  have e52 : J1 352 = J 352 := kq.1 352 (by omega)
  refine T_aload_n 2417 rfl dL_law_2416 rfl ?_
  have hm := S_X11_hour (g := g) (J := J1) (f := J 352) hw (by have := h.1.2.2.2.2.2; omega)
  rw [LI_f h e52] at hm
  refine TJ_callM (As := []) 351 kalX11_hour lkL_305 dL_law_2417 (by omega) rfl rfl rfl rfl (by exact Nat.le_of_ble_eq_true rfl) (by omega) (Nat.zero_le _) (Nat.zero_le _) hm (fun v J2 q => ?_)
  obtain ⟨r, rfl, q⟩ := q
  have z : r = _ ∧ MNo J1 J2 0 := q.elim (fun y => y.2) (fun y => absurd rfl y.1)
  obtain ⟨rfl, mn⟩ := z
  have li := LI_q h kq mn
  exact T_icmp_eq 3074 2423 (by decide) rfl dL_law_2420 (fun _ => T_more (by omega) (by omega) (next J2 (LI_le li (by omega) hB))) (fun z => absurd rfl z)
theorem op_36 {g : Gn} {S : State → Prop} {b Ln i kc ks B : Nat} {xs : Nat → Int32} {J : DJ} (hS : ScrS g S b Ln xs) (hi : i + 3 < Ln) (h : LI J B) (hB : B + 39000 < 40000000) (hkc : 34 ≤ kc) (hks : 204 ≤ ks) (next : ∀ J2, LI J2 (B + 39000) → TJ g S (kc - 34) (ks - 204) 3074 (LL g b i) [] J2) : TJ g S kc ks 2273 (LL g b i) [] J := by
  have hw := h.1.2.1
  refine T_aload_n 2274 rfl dL_law_2273 rfl ?_
  refine TJ_callM (As := []) 0 kalX10_leastPenance lkL_284 dL_law_2274 (by omega) rfl rfl rfl rfl (by exact Nat.le_of_ble_eq_true rfl) (by omega) (by omega) (by omega) (S_X10_leastPenance h.1) (fun v J1 q => ?_)
  obtain ⟨-, rfl, sc⟩ := q
  have kq := Kq.sc sc
  have e52 : J1 352 = J 352 := kq.1 352 (by omega)
  refine T_aload_n 2278 rfl dL_law_2277 rfl ?_
  have hm := S_X11_leastPenance (g := g) (J := J1) (f := J 352) hw
  rw [LI_f h e52] at hm
  refine TJ_callM (As := []) 351 kalX11_leastPenance lkL_287 dL_law_2278 (by omega) rfl rfl rfl rfl (by exact Nat.le_of_ble_eq_true rfl) (by omega) (Nat.zero_le _) (Nat.zero_le _) hm (fun v J2 q => ?_)
  obtain ⟨r, rfl, q⟩ := q
  have z : r = _ ∧ MNo J1 J2 0 := q.elim (fun y => y.2) (fun y => absurd rfl y.1)
  obtain ⟨rfl, mn⟩ := z
  have li := LI_q h kq mn
  exact T_icmp_eq 3074 2284 (by decide) rfl dL_law_2281 (fun _ => T_more (by omega) (by omega) (next J2 (LI_le li (by omega) hB))) (fun z => absurd rfl z)
theorem op_53 {g : Gn} {S : State → Prop} {b Ln i kc ks B : Nat} {xs : Nat → Int32} {J : DJ} (hS : ScrS g S b Ln xs) (hi : i + 3 < Ln) (h : LI J B) (hB : B + 39000 < 40000000) (hkc : 34 ≤ kc) (hks : 204 ≤ ks) (next : ∀ J2, LI J2 (B + 39000) → TJ g S (kc - 34) (ks - 204) 3074 (LL g b i) [] J2) : TJ g S kc ks 2960 (LL g b i) [] J := by
  have hw := h.1.2.1
  refine T_aload_n 2961 rfl dL_law_2960 rfl ?_
  refine TJ_callM (As := []) 0 kalX10_isConsistent lkL_344 dL_law_2961 (by omega) rfl rfl rfl rfl (by exact Nat.le_of_ble_eq_true rfl) (by omega) (by omega) (by omega) (S_X10_isConsistent h.1) (fun v J1 q => ?_)
  obtain ⟨-, rfl, sc⟩ := q
  have kq := Kq.sc sc
  have e52 : J1 352 = J 352 := kq.1 352 (by omega)
  refine T_aload_n 2965 rfl dL_law_2964 rfl ?_
  have hm := S_X11_isConsistent (g := g) (J := J1)
  refine TJ_callM (As := []) 351 kalX11_isConsistent lkL_348 dL_law_2965 (by omega) rfl rfl rfl rfl (by exact Nat.le_of_ble_eq_true rfl) (by omega) (Nat.zero_le _) (Nat.zero_le _) hm (fun v J2 q => ?_)
  obtain ⟨rfl, mn⟩ := q
  have li := LI_q h kq mn
  exact T_icmp_eq 3074 2971 (by decide) rfl dL_law_2968 (fun _ => T_more (by omega) (by omega) (next J2 (LI_le li (by omega) hB))) (fun z => absurd rfl z)
theorem op_49 {g : Gn} {S : State → Prop} {b Ln i kc ks B : Nat} {xs : Nat → Int32} {J : DJ} (hS : ScrS g S b Ln xs) (hi : i + 3 < Ln) (h : LI J B) (hB : B + 39000 < 40000000) (hkc : 34 ≤ kc) (hks : 204 ≤ ks) (next : ∀ J2, LI J2 (B + 39000) → TJ g S (kc - 34) (ks - 204) 3074 (LL g b i) [] J2) : TJ g S kc ks 2783 (LL g b i) [] J := by
  have hw := h.1.2.1
  refine T_aload_n 2784 rfl dL_law_2783 rfl ?_
  refine TJ_callM (As := []) 0 kalX10_describeRota lkL_328 dL_law_2784 (by omega) rfl rfl rfl rfl (by exact Nat.le_of_ble_eq_true rfl) (by omega) (by omega) (by omega) (S_X10_describeRota h.1) (fun v J1 q => ?_)
  obtain ⟨-, rfl, wr⟩ := q
  have e52 : J1 352 = J 352 := wr.2 352 (by omega)
  refine T_aload_n 2788 rfl dL_law_2787 rfl ?_
  have hm := S_X11_describeRota (g := g) (J := J1) (f := J 352) hw
  rw [LI_f h e52] at hm
  refine TJ_callM (As := []) 351 kalX11_describeRota lkL_331 dL_law_2788 (by omega) rfl rfl rfl rfl (by exact Nat.le_of_ble_eq_true rfl) (by omega) (Nat.zero_le _) (Nat.zero_le _) hm (fun v J2 q => ?_)
  obtain ⟨rfl, mw⟩ := q
  have eu : up2 J1 365 0 (J1 365 0) = J1 := by rw [up2_sR, up1_id, sR_id]
  have li := LI_line (v := J1 365 0) h wr (by rw [eu]; exact mw) (by rw [rtN_len]; omega) (fun j _ => getD_lt (by omega) (rtN_lt (J 352) 8) j)
  exact T_icmp_eq 3074 2794 (by decide) rfl dL_law_2791 (fun _ => T_more (by omega) (by omega) (next J2 (LI_le li (by omega) hB))) (fun z => absurd rfl z)
theorem op_55 {g : Gn} {S : State → Prop} {b Ln i kc ks B : Nat} {xs : Nat → Int32} {J : DJ} (hS : ScrS g S b Ln xs) (hi : i + 3 < Ln) (h : LI J B) (hB : B + 39000 < 40000000) (hkc : 34 ≤ kc) (hks : 204 ≤ ks) (next : ∀ J2, LI J2 (B + 39000) → TJ g S (kc - 34) (ks - 204) 3074 (LL g b i) [] J2) : TJ g S kc ks 3017 (LL g b i) [] J := by
  have hw := h.1.2.1
  refine T_aload_n 3018 rfl dL_law_3017 rfl ?_
  refine TJ_callM (As := []) 0 kalX10_save lkL_352 dL_law_3018 (by omega) rfl rfl rfl rfl (by exact Nat.le_of_ble_eq_true rfl) (by omega) (by omega) (by omega) (S_X10_save h.1) (fun v J1 q => ?_)
  obtain ⟨-, rfl, Ja, ea, fa, ca⟩ := q
  have e52 : J1 352 = J 352 := by rw [ea, up2_ne (by omega), fa 352 (by omega)]
  refine T_aload_n 3022 rfl dL_law_3021 rfl ?_
  have hm := S_X11_save (g := g) (J := J1) (f := J 352)
  rw [LI_f h e52] at hm
  refine TJ_callM (As := []) 351 kalX11_save lkL_355 dL_law_3022 (by omega) rfl rfl rfl rfl (by exact Nat.le_of_ble_eq_true rfl) (by omega) (Nat.zero_le _) (Nat.zero_le _) hm (fun v J2 q => ?_)
  obtain ⟨rfl, Sv, es, hs⟩ := q
  have li := LI_save h rfl ea fa ca es hs
  exact T_icmp_eq 3074 3028 (by decide) rfl dL_law_3025 (fun _ => T_more (by omega) (by omega) (next J2 (LI_le li (by omega) hB))) (fun z => absurd rfl z)
theorem i2c_mod {a : Nat} (h : a < 4294967296) : ((nI a).toUInt32 % 65536).toInt32 = nI (a % 65536) := by
  unfold nI
  apply Int32.toBitVec_inj.mp
  apply BitVec.eq_of_toNat_eq
  simp
  omega
/-- a wrapper's answer, whatever the state behind it -/
theorem WP_any {cs : List String} {J J1 : DJ} {F R : Nat} {P : DJ → Prop} {v : Option Value} (w : WP cs (QF F R P) (XF F J) v J1) : ∃ c, v = some (.int (nI c)) ∧ ((F = 0 ∧ c = 0 ∧ Int64.ofNat (J1 365 0) = (nI R).toInt64 ∧ ∃ Jc u, P Jc ∧ J1 = up2 Jc 365 0 u) ∨ (F ≠ 0 ∧ c = cdX cs (exc F) ∧ Kq J J1)) := by
  rcases w with ⟨Ja, r, ⟨f0, er, sc⟩, ev, e⟩ | ⟨E, ⟨f0, ee, sc⟩, hm, ev⟩
  · have e2 : r = nI R := Value.int.inj (Option.some.inj er)
    subst e
    exact ⟨0, ev, Or.inl ⟨f0, rfl, by rw [out_at, e2], Ja, _, sc, rfl⟩⟩
  · exact ⟨_, ev, Or.inr ⟨f0, by rw [ee], Kq.sc sc⟩⟩
theorem op_48 {g : Gn} {S : State → Prop} {b Ln i kc ks B : Nat} {xs : Nat → Int32} {J : DJ} (hS : ScrS g S b Ln xs) (hi : i + 3 < Ln) (h : LI J B) (hB : B + 39000 < 40000000) (hkc : 34 ≤ kc) (hks : 204 ≤ ks) (next : ∀ J2, LI J2 (B + 39000) → TJ g S (kc - 34) (ks - 204) 3074 (LL g b i) [] J2) : TJ g S kc ks 2727 (LL g b i) [] J := by
  have hw := h.1.2.1
  have c40 := h.1.2.2.2.2.2
  obtain ⟨a1, h1, e1⟩ := nI_all (xs (i + 1))
  refine T_aload_n 2728 rfl dL_law_2727 rfl ?_
  refine TJ_arg 1 hS dL_law_2728 dL_law_2729 dL_law_2731 dL_law_2732 dL_law_2733 (by omega) hi rfl rfl ?_
  rw [e1]
  refine T_aload_n 2735 rfl dL_law_2734 rfl ?_
  refine TJ_callW (As := [_, _, _]) kalL_describeEngine lkL_325 dL_law_2735 rfl rfl (by exact Nat.le_of_ble_eq_true rfl) (by omega) (by omega) (WL_describeEngine (S_X10_describeEngine h.1 h1) (by omega) (by omega) (by omega) (fun v J' q => ⟨_, q.2.1⟩) (fun E J' q => by obtain ⟨f0, ee, -⟩ := q; rw [ee]; revert f0; unfold qE; (repeat' split) <;> first | (intro z; exact absurd rfl z) | (intro _; decide +kernel))) (fun v J1 w => ?_)
  obtain ⟨c, ev, wz⟩ := WP_any w
  subst ev
  have e52 : J1 352 = J 352 := by
    rcases wz with ⟨-, -, -, Jc, u, wr, e⟩ | ⟨-, -, kq⟩
    · rw [e, up2_ne (by omega), wr.2 352 (by omega)]
    · exact kq.1 352 (by omega)
  refine T_istore 2740 rfl dL_law_2738 (by decide) ?_
  refine T_aload_n 2741 rfl dL_law_2740 rfl ?_
  refine TJ_arg 1 hS dL_law_2741 dL_law_2742 dL_law_2744 dL_law_2745 dL_law_2746 (by omega) hi rfl rfl ?_
  rw [e1]
  have hm := S_X11_describeEngine (g := g) (J := J1) (f := J 352) hw (by omega) h1
  rw [LI_f h e52] at hm
  refine TJ_callM (As := [_]) 351 kalX11_describeEngine lkL_327 dL_law_2747 (by omega) rfl rfl rfl rfl (by exact Nat.le_of_ble_eq_true rfl) (by omega) (Nat.zero_le _) (Nat.zero_le _) hm (fun v J2 q => ?_)
  obtain ⟨r, rfl, q⟩ := q
  refine T_istore 2752 rfl dL_law_2750 (by decide) ?_
  have fin : LI J2 (B + 39000) ∧ J2 351 8 = c ∧ c < 10 ∧ (c = 0 → Int64.ofNat (J2 365 0) = (nI r).toInt64) := by
    rcases wz with ⟨b1, b2, b3, Jc, u, wr, e⟩ | ⟨b1, b2, kq⟩
    · rcases q with ⟨d1, d2, mw⟩ | ⟨d1, d2, mn⟩
      · have lt : a1 < J 352 0 := by unfold qE at b1; split at b1 <;> omega
        have h0 := hw.1
        have ok := lnE2_ok (by omega) (hw.2.2.2.2.2.1 a1 lt)
        subst e
        exact ⟨LI_le (LI_line h wr mw ok.1 (fun j _ => getD_lt (by omega) ok.2 j)) (by omega) hB, by rw [mw.2.2.2, b2], by omega, fun _ => by rw [mw.2.1 365 (by omega), b3, d2]⟩
      · exact absurd b1 d1
    · rcases q with ⟨d1, d2, mw⟩ | ⟨d1, d2, mn⟩
      · exact absurd d1 b1
      · have e1 : qE (J 352) a1 = 1 := by revert d1; unfold qE; split <;> (intro y; first | rfl | exact absurd rfl y)
        rw [e1, cd_all.2.2.1] at b2
        exact ⟨LI_le (LI_q h kq mn) (by omega) hB, by rw [mn.2.2, b2], by omega, fun z => by omega⟩
  exact TJ_tail ⟨dL_law_2752, dL_law_2753, dL_law_2756, dL_law_2758, dL_law_2763, dL_law_2765, dL_law_2768, dL_law_2769, dL_law_2770, dL_law_2771, dL_law_2773, dL_law_2774, dL_law_2775, dL_law_2780, by decide⟩ fin.2.1 fin.2.2.1 fin.2.2.2 (T_more (by omega) (by omega) (next J2 fin.1))
theorem op_44 {g : Gn} {S : State → Prop} {b Ln i kc ks B : Nat} {xs : Nat → Int32} {J : DJ} (hS : ScrS g S b Ln xs) (hi : i + 3 < Ln) (h : LI J B) (hB : B + 39000 < 40000000) (hkc : 34 ≤ kc) (hks : 204 ≤ ks) (next : ∀ J2, LI J2 (B + 39000) → TJ g S (kc - 34) (ks - 204) 3074 (LL g b i) [] J2) : TJ g S kc ks 2537 (LL g b i) [] J := by
  have hw := h.1.2.1
  have c40 := h.1.2.2.2.2.2
  obtain ⟨a1, h1, e1⟩ := nI_all (xs (i + 1))
  refine T_aload_n 2538 rfl dL_law_2537 rfl ?_
  refine TJ_arg 1 hS dL_law_2538 dL_law_2539 dL_law_2541 dL_law_2542 dL_law_2543 (by omega) hi rfl rfl ?_
  rw [e1]
  refine T_i2c 2545 (nI (a1 % 65536)) rfl dL_law_2544 (i2c_mod h1) ?_
  refine T_aload_n 2546 rfl dL_law_2545 rfl ?_
  refine TJ_callW (As := [_, _, _]) kalL_append lkL_312 dL_law_2546 rfl rfl (by exact Nat.le_of_ble_eq_true rfl) (by omega) (by omega) (WL_append (S_X10_append (u := J 345) (n := J 344 1) ⟨rfl, rfl, h.2.2.2.1.2.2.1, h.2.2.2.1.2.2.2⟩ (show a1 % 65536 < 65536 by omega)) (by omega) (by omega) (by omega) (fun v J' q => ⟨_, q.2.1⟩) (fun E J' q => by obtain ⟨f0, ee, -⟩ := q; rw [ee]; revert f0; unfold fApp; (repeat' split) <;> first | (intro z; exact absurd rfl z) | (intro _; decide +kernel))) (fun v J1 w => ?_)
  obtain ⟨c, ev, wz⟩ := WP_any w
  subst ev
  have e51 : J1 351 10 = J 344 1 := by
    have le := h.2.2.2.1.2.1
    rcases wz with ⟨-, -, -, Jc, u, wr, e⟩ | ⟨-, -, kq⟩
    · rw [e, up2_ne (by omega), wr, up2_ne (by omega), up2_ne (by omega)]; exact le
    · rw [kq.1 351 (by omega)]; exact le
  refine T_istore 2551 rfl dL_law_2549 (by decide) ?_
  refine T_aload_n 2552 rfl dL_law_2551 rfl ?_
  refine TJ_arg 1 hS dL_law_2552 dL_law_2553 dL_law_2555 dL_law_2556 dL_law_2557 (by omega) hi rfl rfl ?_
  rw [e1]
  refine T_i2c 2559 (nI (a1 % 65536)) rfl dL_law_2558 (i2c_mod h1) ?_
  have hm := S_X11_append (g := g) (J := J1) e51 h.2.2.2.1.2.2.1 (show a1 % 65536 < 65536 by omega)
  refine TJ_callM (As := [_]) 351 kalX11_append lkL_315 dL_law_2559 (by omega) rfl rfl rfl rfl (by exact Nat.le_of_ble_eq_true rfl) (by omega) (Nat.zero_le _) (Nat.zero_le _) hm (fun v J2 q => ?_)
  obtain ⟨r, rfl, q⟩ := q
  refine T_istore 2564 rfl dL_law_2562 (by decide) ?_
  have fin : LI J2 (B + 39000) ∧ J2 351 8 = c ∧ c < 10 ∧ (c = 0 → Int64.ofNat (J2 365 0) = (nI r).toInt64) := by
    rcases wz with ⟨b1, b2, b3, Jc, u, wr, e⟩ | ⟨b1, b2, kq⟩
    · rcases q with ⟨d1, d2, mw⟩ | ⟨d1, d2, mn⟩
      · have hc : (32 ≤ a1 % 65536 ∧ a1 % 65536 ≤ 126) ∧ J 344 1 < 60 := by unfold fApp at b1; (repeat' split at b1) <;> omega
        have li : LI J2 B := LI_app (v := u) h rfl hc.2 hc.1 (by rw [mw, e, wr])
        refine ⟨LI_le li (by omega) hB, ?_, by omega, fun _ => ?_⟩
        · rw [mw, up2_app, if_neg (by omega), up2_ne (by omega), up2_app, if_pos ⟨rfl, rfl⟩, b2]
        · rw [mw, up2_ne (by omega), up2_ne (by omega), up2_ne (by omega), b3, d2]
      · exact absurd b1 d1
    · rcases q with ⟨d1, d2, mw⟩ | ⟨d1, d2, mn⟩
      · exact absurd d1 b1
      · have li := LI_q8 h kq mn
        have e8 : J2 351 8 = fApp (J 344 1) (a1 % 65536) - 1 := by rw [mn, up2_app, if_pos ⟨rfl, rfl⟩]
        have f23 : fApp (J 344 1) (a1 % 65536) = 2 ∨ fApp (J 344 1) (a1 % 65536) = 3 := by unfold fApp at b1 ⊢; (repeat' split) <;> simp_all
        rcases f23 with f | f
        · rw [f, cd_all.1] at b2
          exact ⟨LI_le li (by omega) hB, by rw [e8, f, b2], by omega, fun z => by omega⟩
        · rw [f, cd_all.2.1] at b2
          exact ⟨LI_le li (by omega) hB, by rw [e8, f, b2], by omega, fun z => by omega⟩
  exact TJ_tail ⟨dL_law_2564, dL_law_2565, dL_law_2568, dL_law_2570, dL_law_2575, dL_law_2577, dL_law_2580, dL_law_2581, dL_law_2582, dL_law_2583, dL_law_2585, dL_law_2586, dL_law_2587, dL_law_2592, by decide⟩ fin.2.1 fin.2.2.1 fin.2.2.2 (T_more (by omega) (by omega) (next J2 fin.1))
theorem WP_e {cs : List String} {J J1 : DJ} {P : Nat × List (Nat × List Nat)} {n B : Nat} {fs : Nat → Nat → Nat} {f : Nat → Nat} {v : Option Value} (w : WP [IAE, ISE] (QX J P n fs f B) (XX J P f) v J1) : ∃ c, v = some (.int (nI c)) ∧ ((c = 0 ∧ Int64.ofNat (J1 365 0) = (nI P.2.length).toInt64 ∧ ∃ Jc u, J1 = up2 Jc 365 0 u ∧ QX J P n fs f B (some (.int (nI P.2.length))) Jc) ∨
    (c = 1 ∧ P.1 ≠ 4294967295 ∧ J1 0 = up1 (J 0) 10 P.1 ∧ (∀ c, (1 ≤ c ∧ c < 31) ∨ (61 ≤ c ∧ c < 344) ∨ c = 345 ∨ 348 ≤ c → J1 c = J c) ∧ J1 344 1 = 0) ∨
    (c = 2 ∧ P.1 = 4294967295 ∧ (exN P.2 P.2.length 0 f).1 = false ∧ J1 0 = up1 (J 0) 11 (exN P.2 P.2.length 0 f).2.1 ∧ (∀ c, (1 ≤ c ∧ c < 31) ∨ (61 ≤ c ∧ c < 344) ∨ c = 345 ∨ 348 ≤ c → J1 c = J c) ∧ J1 344 1 = 0)) := by
  rcases w with ⟨Ja, r, q, ev, e⟩ | ⟨E, ⟨x1, x2, x3⟩, hm, ev⟩
  · have e2 : r = nI P.2.length := Value.int.inj (Option.some.inj q.2.2.1)
    subst e2
    subst e
    exact ⟨0, ev, Or.inl ⟨rfl, by rw [out_at], Ja, _, rfl, q⟩⟩
  · rcases x3 with ⟨y1, y2, y3⟩ | ⟨y1, y2, y3, y4⟩
    · subst y2
      exact ⟨_, ev, Or.inr (Or.inl ⟨by decide +kernel, y1, y3, x1, x2⟩)⟩
    · subst y3
      exact ⟨_, ev, Or.inr (Or.inr ⟨by decide +kernel, y1, y2, y4, x1, x2⟩)⟩
theorem exN_len (P : List (Nat × List Nat)) : ∀ k i f, (exN P k i f).2.1 ≤ i + k
  | 0, i, f => Nat.le_refl _
  | k + 1, i, f => by
    have ih := exN_len P k (i + 1) (xC f (kC P i) (lC P i))
    rw [exN]
    split
    · omega
    · dsimp only; omega
theorem op_45 {g : Gn} {S : State → Prop} {b Ln i kc ks B : Nat} {xs : Nat → Int32} {J : DJ} (hS : ScrS g S b Ln xs) (hi : i + 3 < Ln) (h : LI J B) (hB : B + 39000 < 40000000) (hkc : 34 ≤ kc) (hks : 204 ≤ ks) (next : ∀ J2, LI J2 (B + 39000) → TJ g S (kc - 34) (ks - 204) 3074 (LL g b i) [] J2) : TJ g S kc ks 2595 (LL g b i) [] J := by
  have hw := h.1.2.1
  have c40 := h.1.2.2.2.2.2
  refine T_aload_n 2596 rfl dL_law_2595 rfl ?_
  refine T_aload_n 2597 rfl dL_law_2596 rfl ?_
  refine TJ_callW (As := [_, _]) kalL_execute lkL_316 dL_law_2597 rfl rfl (by exact Nat.le_of_ble_eq_true rfl) (by omega) (by omega) (WL_execute (S_X10_execute (u := J 345) (nt := J 344 1) ⟨rfl, rfl, h.2.2.2.1.2.2.1, h.2.2.2.1.2.2.2⟩ h.1.1 hw h.1.2.2.1 c40) (by omega) (by omega) (by omega) (fun v J' q => ⟨_, q.2.2.1⟩) (fun E J' q => by rcases q.2.2 with y | y; (rw [y.2.1]; decide +kernel); (rw [y.2.2.1]; decide +kernel))) (fun v J1 w => ?_)
  have pr := prs_1 (s := J 345) h.2.2.2.1.2.2.1 13 0 (Nat.zero_le _)
  have l13 := (prs_ok (s := J 345) (n := J 344 1) 13 0).1
  obtain ⟨P, eP⟩ : ∃ P, P = (prsN (J 345) (J 344 1) 13 0) := ⟨_, rfl⟩
  rw [← eP] at w pr l13
  obtain ⟨c, ev, wz⟩ := WP_e (cs := []) w
  subst ev
  have kk : ∀ a, 351 ≤ a → a ≠ 365 → J1 a = J a := by
    intro a h1 h2
    rcases wz with ⟨-, -, Jc, u, e, qx⟩ | ⟨-, -, -, kx, -⟩ | ⟨-, -, -, -, kx, -⟩
    · rw [e, up2_ne h2, qx.2.2.2.1 a (by omega)]
    · exact kx a (by omega)
    · exact kx a (by omega)
  refine T_istore 2602 rfl dL_law_2600 (by decide) ?_
  refine T_aload_n 2603 rfl dL_law_2602 rfl ?_
  have hm := S_X11_execute (g := g) (J := J1) (s := J 345) (n := J 344 1) (B := B) eP (by rw [kk 356 (by omega) (by omega)]; exact h.2.2.2.1.1) (by rw [kk 351 (by omega) (by omega)]; exact h.2.2.2.1.2.1) h.2.2.2.1.2.2.1 h.2.2.2.1.2.2.2 ⟨by rw [kk 361 (by omega) (by omega)]; exact h.2.2.2.2.1.1, by rw [kk 362 (by omega) (by omega)]; exact h.2.2.2.2.1.2⟩ (by rw [kk 352 (by omega) (by omega)]; exact hw) (by omega) (by rw [kk 351 (by omega) (by omega)]; exact h.1.2.2.1.2.1)
  rw [kk 352 (by omega) (by omega)] at hm
  refine TJ_callM (As := []) 351 kalX11_execute lkL_318 dL_law_2603 (by omega) rfl rfl rfl rfl (by exact Nat.le_of_ble_eq_true rfl) (by omega) (Nat.zero_le _) (Nat.zero_le _) hm (fun v J2 q => ?_)
  obtain ⟨r, rfl, Jm, se, q⟩ := q
  refine T_istore 2608 rfl dL_law_2606 (by decide) ?_
  have fin : LI J2 (B + 39000) ∧ J2 351 8 = c ∧ c < 10 ∧ (c = 0 → Int64.ofNat (J2 365 0) = (nI r).toInt64) := by
    rcases wz with ⟨b1, b3, Jc, u, e, qx⟩ | ⟨b1, b2, b3, b4, b5⟩ | ⟨b1, b2, b3, b4, b5, b6⟩
    · rcases q with ⟨d1, -, -⟩ | ⟨d1, ⟨d2, d3, d4⟩ | ⟨d2, d3, d4⟩⟩
      · exact absurd qx.1 d1
      · obtain ⟨x1, x2, x3, x4, x5, x6, x7, x8⟩ := qx
        subst e
        refine ⟨LI_ex h (by omega) x4 x5 x6 x7 x8 se d4, by rw [d4.2.2.1 8 (by omega) (by omega), se.2.2.1, b1], by omega, fun _ => ?_⟩
        rw [d4.1 365 (by omega) (by omega) (by omega) (by omega), se.1 365 (by omega), b3, d3]
      · exact absurd (qx.2.1.symm.trans d2) (by decide)
    · rcases q with ⟨d1, d2, d3⟩ | ⟨d1, -⟩
      · have z := LI_exX (J2 := J2) (w10 := P.1) (w11 := J 0 11) h b4 b5 (fun j x y => by rw [b3, up1_ne x]) (by rw [b3, up1_self]) (by rw [b3, up1_ne (by omega)]) ⟨pr, h.2.2.1.2.2.2⟩ (fun a ha => by rw [d3, up2_ne (by omega), up2_ne (by omega), se.1 a (by omega)]) (fun a ha => by rw [d3, up2_ne (by omega), up2_ne (by omega), se.1 352 (by omega), b4 352 (by omega)]) (fun j hj => by rw [d3, up2_app, if_neg (by omega), up2_app, if_neg (by omega), se.2.1 j (by omega)]) (by rw [d3, up2_app, if_neg (by omega), up2_app, if_pos ⟨rfl, rfl⟩]) (by rw [d3, up2_app, if_neg (by omega), up2_app, if_neg (by omega), se.2.1 7 (by omega), b4 351 (by omega)]; exact h.2.2.1.2.1) (by rw [d3, up2_app, if_neg (by omega), up2_app, if_neg (by omega)]; exact se.2.2.2)
        exact ⟨LI_le z (by omega) hB, by rw [d3, up2_app, if_pos ⟨rfl, rfl⟩, b1], by omega, fun z => by omega⟩
      · exact absurd d1 b2
    · rcases q with ⟨d1, -, -⟩ | ⟨d1, ⟨d2, d3, d4⟩ | ⟨d2, d3, d4⟩⟩
      · exact absurd b2 d1
      · exact absurd (b3.symm.trans d2) (by decide)
      · obtain ⟨m1, m2, m3, m4, m5⟩ := d4
        have xl := exN_len P.2 P.2.length 0 (J 352)
        have z := LI_exX (J2 := J2) (w10 := J 0 10) (w11 := (exN P.2 P.2.length 0 (J 352)).2.1) h b5 b6 (fun j x y => by rw [b4, up1_ne y]) (by rw [b4, up1_ne (by omega)]) (by rw [b4, up1_self]) ⟨h.2.2.1.2.2.1, by omega⟩ (fun a ha => by rw [m1 a (by omega) (by omega) (by omega), se.1 a (by omega)]) (fun a ha => m5 a ha) (fun j hj => by rw [m2 j (by omega) (by omega) (by omega), se.2.1 j (by omega)]) (by rw [m2 6 (by omega) (by omega) (by omega), se.2.1 6 (by omega), b5 351 (by omega)]; exact h.2.2.1.1) m3 (by rw [m2 10 (by omega) (by omega) (by omega)]; exact se.2.2.2)
        exact ⟨LI_le z (by omega) hB, by rw [m4, b1], by omega, fun z => by omega⟩
  exact TJ_tail ⟨dL_law_2608, dL_law_2609, dL_law_2612, dL_law_2614, dL_law_2619, dL_law_2621, dL_law_2624, dL_law_2625, dL_law_2626, dL_law_2627, dL_law_2629, dL_law_2630, dL_law_2631, dL_law_2636, by decide⟩ fin.2.1 fin.2.2.1 fin.2.2.2 (T_more (by omega) (by omega) (next J2 fin.1))
theorem op_54 {g : Gn} {S : State → Prop} {b Ln i kc ks B : Nat} {xs : Nat → Int32} {J : DJ} (hS : ScrS g S b Ln xs) (hi : i + 3 < Ln) (h : LI J B) (hB : B + 39000 < 40000000) (hkc : 34 ≤ kc) (hks : 204 ≤ ks) (next : ∀ J2, LI J2 (B + 39000) → TJ g S (kc - 34) (ks - 204) 3074 (LL g b i) [] J2) : TJ g S kc ks 2973 (LL g b i) [] J := by
  have hw := h.1.2.1
  have c40 := h.1.2.2.2.2.2
  refine T_aload_n 2974 rfl dL_law_2973 rfl ?_
  refine T_aload_n 2975 rfl dL_law_2974 rfl ?_
  refine TJ_callW (As := [_, _]) kalL_undo lkL_349 dL_law_2975 rfl rfl (by exact Nat.le_of_ble_eq_true rfl) (by omega) (by omega) (WL_undo (S_X10_undo h.1) (by omega) (by omega) (by omega) (fun v J' q => ⟨_, q.2.1⟩) (fun E J' q => by obtain ⟨f0, ee, -⟩ := q; rw [ee]; revert f0; (repeat' split) <;> first | (intro z; exact absurd rfl z) | (intro _; decide +kernel))) (fun v J1 w => ?_)
  obtain ⟨c, ev, wz⟩ := WP_any w
  subst ev
  have kk : ∀ a, 351 ≤ a → a ≠ 365 → a ≠ 366 → J1 a = J a := by
    intro a h1 h2 h3
    rcases wz with ⟨-, -, -, Jc, u, wr, e⟩ | ⟨-, -, kq⟩
    · rw [e, up2_ne (by omega), wr.1 a (by omega)]
    · exact kq.1 a (by omega)
  refine T_istore 2980 rfl dL_law_2978 (by decide) ?_
  refine T_aload_n 2981 rfl dL_law_2980 rfl ?_
  have hm := S_X11_undo (g := g) (J := J1) (f := J 352) (n := J 351 5) (by rw [kk 351 (by omega) (by omega) (by omega)]) h.1.2.2.1.2.1
  rw [LI_f h (kk 352 (by omega) (by omega) (by omega))] at hm
  refine TJ_callM (As := []) 351 kalX11_undo lkL_351 dL_law_2981 (by omega) rfl rfl rfl rfl (by exact Nat.le_of_ble_eq_true rfl) (by omega) (Nat.zero_le _) (Nat.zero_le _) hm (fun v J2 q => ?_)
  obtain ⟨r, rfl, q⟩ := q
  refine T_istore 2986 rfl dL_law_2984 (by decide) ?_
  have fin : LI J2 (B + 39000) ∧ J2 351 8 = c ∧ c < 10 ∧ (c = 0 → Int64.ofNat (J2 365 0) = (nI r).toInt64) := by
    rcases wz with ⟨b1, b2, b3, Jc, u, wr, e⟩ | ⟨b1, b2, kq⟩
    · rcases q with ⟨d1, d2, hh, d3, d4⟩ | ⟨d1, d2, mn⟩
      · have li := LI_undo h d1 wr.1 wr.2.1 wr.2.2 e d3 d4
        refine ⟨LI_le li (by omega) hB, by rw [d3, sR_ne (by omega), up2_app, if_neg (by omega), up2_app, if_pos ⟨rfl, rfl⟩, b2], by omega, fun _ => ?_⟩
        rw [d3, sR_ne (by omega), up2_ne (by omega), up2_ne (by omega), b3, d2]
      · rw [if_neg (by omega)] at b1; omega
    · rcases q with ⟨d1, d2, hh, d3, d4⟩ | ⟨d1, d2, mn⟩
      · rw [if_pos d1] at b1; omega
      · rw [if_neg (by omega), cd_all.2.2.2.2.2.2.2.2.1] at b2
        exact ⟨LI_le (LI_q h kq mn) (by omega) hB, by rw [mn.2.2, b2], by omega, fun z => by omega⟩
  exact TJ_tail ⟨dL_law_2986, dL_law_2987, dL_law_2990, dL_law_2992, dL_law_2997, dL_law_2999, dL_law_3002, dL_law_3003, dL_law_3004, dL_law_3005, dL_law_3007, dL_law_3008, dL_law_3009, dL_law_3014, by decide⟩ fin.2.1 fin.2.2.1 fin.2.2.2 (T_more (by omega) (by omega) (next J2 fin.1))
theorem op_56 {g : Gn} {S : State → Prop} {b Ln i kc ks B : Nat} {xs : Nat → Int32} {J : DJ} (hS : ScrS g S b Ln xs) (hi : i + 3 < Ln) (h : LI J B) (hB : B + 39000 < 40000000) (hkc : 34 ≤ kc) (hks : 204 ≤ ks) (next : ∀ J2, LI J2 (B + 39000) → TJ g S (kc - 34) (ks - 204) 3074 (LL g b i) [] J2) : TJ g S kc ks 3030 (LL g b i) [] J := by
  have hw := h.1.2.1
  have c40 := h.1.2.2.2.2.2
  refine T_aload_n 3031 rfl dL_law_3030 rfl ?_
  refine T_aload_n 3032 rfl dL_law_3031 rfl ?_
  refine TJ_callW (As := [_, _]) kalL_restore lkL_356 dL_law_3032 rfl rfl (by exact Nat.le_of_ble_eq_true rfl) (by omega) (by omega) (WL_restore (S_X10_restore h.1) (by omega) (by omega) (by omega) (fun v J' q => ⟨_, q.2.1⟩) (fun E J' q => by obtain ⟨f0, ee, -⟩ := q; rw [ee]; revert f0; (repeat' split) <;> first | (intro z; exact absurd rfl z) | (intro _; decide +kernel))) (fun v J1 w => ?_)
  obtain ⟨c, ev, wz⟩ := WP_any w
  subst ev
  have kk : ∀ a, 351 ≤ a → a ≠ 365 → a ≠ 366 → J1 a = J a := by
    intro a h1 h2 h3
    rcases wz with ⟨-, -, -, Jc, u, ⟨Ja, ea, fa, ca⟩, e⟩ | ⟨-, -, kq⟩
    · rw [e, up2_ne (by omega), ea, up2_ne (by omega), fa a (by omega)]
    · exact kq.1 a (by omega)
  have q01 : J 0 12 = 0 ∨ J 0 12 = 1 := h.1.2.2.2.1.elim Or.inl (fun z => Or.inr z.1)
  refine T_istore 3037 rfl dL_law_3035 (by decide) ?_
  refine T_aload_n 3038 rfl dL_law_3037 rfl ?_
  have hm := S_X11_restore (g := g) (J := J1) (f := J 352) (q := J 0 12) (by rw [kk 351 (by omega) (by omega) (by omega)]; exact h.2.1) (by omega)
  rw [LI_f h (kk 352 (by omega) (by omega) (by omega)), kk 354 (by omega) (by omega) (by omega)] at hm
  refine TJ_callM (As := []) 351 kalX11_restore lkL_358 dL_law_3038 (by omega) rfl rfl rfl rfl (by exact Nat.le_of_ble_eq_true rfl) (by omega) (Nat.zero_le _) (Nat.zero_le _) hm (fun v J2 q => ?_)
  obtain ⟨r, rfl, q⟩ := q
  refine T_istore 3043 rfl dL_law_3041 (by decide) ?_
  have fin : LI J2 (B + 39000) ∧ J2 351 8 = c ∧ c < 10 ∧ (c = 0 → Int64.ofNat (J2 365 0) = (nI r).toInt64) := by
    rcases wz with ⟨b1, b2, b3, Jc, u, ⟨Ja, ea, fa, ca⟩, e⟩ | ⟨b1, b2, kq⟩
    · rcases q with ⟨d1, d2, hh, d3, d4⟩ | ⟨d1, d2, mn⟩
      · have li := LI_restore h d1 ea fa ca e d3 (fun i hi => by rw [d4 i hi, kk 354 (by omega) (by omega) (by omega)])
        refine ⟨LI_le li (by omega) hB, by rw [d3, sR_ne (by omega), up2_app, if_neg (by omega), up2_app, if_pos ⟨rfl, rfl⟩, b2], by omega, fun _ => ?_⟩
        rw [d3, sR_ne (by omega), up2_ne (by omega), up2_ne (by omega), b3, d2]
      · rw [if_neg (by omega)] at b1; omega
    · rcases q with ⟨d1, d2, hh, d3, d4⟩ | ⟨d1, d2, mn⟩
      · rw [if_pos d1] at b1; omega
      · rw [if_neg (by omega), cd_all.2.2.2.2.2.2.2.2.1] at b2
        exact ⟨LI_le (LI_q h kq mn) (by omega) hB, by rw [mn.2.2, b2], by omega, fun z => by omega⟩
  exact TJ_tail ⟨dL_law_3043, dL_law_3044, dL_law_3047, dL_law_3049, dL_law_3054, dL_law_3056, dL_law_3059, dL_law_3060, dL_law_3061, dL_law_3062, dL_law_3064, dL_law_3065, dL_law_3066, dL_law_3071, by decide⟩ fin.2.1 fin.2.2.1 fin.2.2.2 (T_more (by omega) (by omega) (next J2 fin.1))
