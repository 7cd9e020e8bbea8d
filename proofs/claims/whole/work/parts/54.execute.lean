/-! APPEND AND EXECUTE (laid by wip/whole/src/p54.py) -/
def fApp (n c : Nat) : Nat := if 32 ≤ c ∧ c ≤ 126 then (if n < 60 then 0 else 3) else 2
theorem S_X10_append {g : Gn} {J : DJ} {u : Nat → Nat} {n c : Nat} (t : TX J u n) (hc : c < 65536) : SJ g mX10_append 12 1 6 [.ref (g.2 0), .int (nI (c))] J (QF (fApp n c) (n + 1) (fun J2 => J2 = up2 (up2 J 345 n c) 344 1 (n + 1))) (XF (fApp n c) J) := by
  refine SJ_of_VJ (by decide +kernel) (Nat.le_of_ble_eq_true rfl) ?_
  show VJ g mX10_append 12 1 6 _ _ 0 [(0, .ref (g.2 0)), (1, .int (nI (c)))] [] J
  refine J_iload_n 1 rfl dX10_append_0 rfl ?_
  refine J_bipush 3 32 rfl dX10_append_1 bc_32 ?_
  refine J_bipush 5 126 rfl dX10_append_3 bc_126 ?_
  refine J_callSi (As := [_, _, _]) 8 rfl kalX10_isWithin lkX10_131 dX10_append_5 rfl rfl (by exact Nat.le_of_ble_eq_true rfl) (by omega) (S_within_le (by omega) (by omega) (by omega)) ?_
  refine J_reqArgument (hdp := _) 11 rfl dX10_append_8 lkX10_135 (by exact Nat.le_of_ble_eq_true rfl) (by omega) (by omega) (by omega) (fun c8 => ⟨by unfold fApp; (repeat' split) <;> omega, by unfold fApp; (repeat' split) <;> first | rfl | (exfalso; omega), Sc.refl⟩) (fun c8 => ?_)
  refine J_aload_n 12 rfl dX10_append_11 rfl ?_
  refine g_X10_text 15 rfl dX10_append_12 lkX10_53 ?_
  refine J_callVi (As := []) 18 _ rfl kalX0_hasRoom lkX10_326 dX10_append_15 (lt_X0) (so_X0) rfl rfl rfl (by exact Nat.le_of_ble_eq_true rfl) (by omega) (S_X0_hasRoom t) ?_
  refine J_reqState (hdp := _) 21 rfl dX10_append_18 lkX10_330 (by exact Nat.le_of_ble_eq_true rfl) (by omega) (by omega) (by omega) (fun c18 => ⟨by unfold fApp; (repeat' split) <;> omega, by unfold fApp; (repeat' split) <;> first | rfl | (exfalso; omega), Sc.refl⟩) (fun c18 => ?_)
  refine J_aload_n 22 rfl dX10_append_21 rfl ?_
  refine g_X10_text 25 rfl dX10_append_22 lkX10_53 ?_
  refine J_iload_n 26 rfl dX10_append_25 rfl ?_
  refine J_callVi (As := [_]) 29 _ rfl kalX0_add lkX10_333 dX10_append_26 (lt_X0) (so_X0) rfl rfl rfl (by exact Nat.le_of_ble_eq_true rfl) (by omega) (S_X0_add t (by omega) hc) ?_
  refine J_iret rfl dX10_append_29 ?_
  exact ⟨by unfold fApp; (repeat' split) <;> omega, rfl, rfl⟩

theorem fstN_t {p : Nat → Bool} : ∀ {n : Nat}, fstN p n < n → p (fstN p n) = true
  | 0, h => absurd h (by omega)
  | n + 1, h => by
    simp only [fstN] at h ⊢
    by_cases q : fstN p n < n
    · rw [if_pos q]; exact fstN_t q
    · rw [if_neg q] at h ⊢
      by_cases z : p n = true
      · rw [if_pos z]; exact z
      · rw [if_neg z] at h; omega
theorem fstN_t2 {p : Nat → Bool} {n r : Nat} (e : fstN p n = r) (h : r < n) : p r = true := by
  subst e; exact fstN_t h
theorem fC_le {f : Nat → Nat} {k : Nat} {l : Nat → Nat} : fC f k l ≤ 3 := by
  have h1 : ∀ n, fE f n ≤ 3 := fun n => by unfold fE; (repeat' split) <;> omega
  have h2 : ∀ a b c, fSwap f a b c ≤ 3 := fun a b c => by unfold fSwap; (repeat' split) <;> omega
  have h3 : ∀ a b, fRate f a b ≤ 3 := fun a b => by unfold fRate; (repeat' split) <;> omega
  have h4 : ∀ a b, fRun f a b ≤ 3 := fun a b => by unfold fRun; (repeat' split) <;> omega
  have h5 : ∀ a b c, fOil f a b c ≤ 3 := fun a b c => by unfold fOil; (repeat' split) <;> omega
  have h6 : ∀ a, fFill f a ≤ 3 := fun a => by unfold fFill; (repeat' split) <;> omega
  have h7 : ∀ a, fBuy f a ≤ 3 := fun a => by unfold fBuy; (repeat' split) <;> omega
  have h8 : fMonk f ≤ 3 := by unfold fMonk; (repeat' split) <;> omega
  have h9 : ∀ a b, fAble f a b ≤ 3 := fun a b => by unfold fAble; (repeat' split) <;> omega
  have h10 : ∀ a b c, fMend f a b c ≤ 3 := fun a b c => by unfold fMend; (repeat' split) <;> omega
  have h11 : fRep f ≤ 3 := by unfold fRep; (repeat' split) <;> omega
  have h12 : ∀ a, fPass a ≤ 3 := fun a => by unfold fPass; (repeat' split) <;> omega
  unfold fC
  by_cases c0 : k = 0
  · rw [if_pos c0]; exact h1 _
  rw [if_neg c0]
  by_cases c1 : k = 1
  · rw [if_pos c1]; exact h2 _ _ _
  rw [if_neg c1]
  by_cases c2 : k = 2
  · rw [if_pos c2]; exact h3 _ _
  rw [if_neg c2]
  by_cases c3 : k = 3
  · rw [if_pos c3]; exact h4 _ _
  rw [if_neg c3]
  by_cases c4 : k = 4
  · rw [if_pos c4]; exact h5 _ _ _
  rw [if_neg c4]
  by_cases c5 : k = 5
  · rw [if_pos c5]; exact h6 _
  rw [if_neg c5]
  by_cases c6 : k = 6
  · rw [if_pos c6]; exact h7 _
  rw [if_neg c6]
  by_cases c7 : k = 7
  · rw [if_pos c7]; exact h8
  rw [if_neg c7]
  by_cases c8 : k = 8
  · rw [if_pos c8]; exact h9 _ _
  rw [if_neg c8]
  by_cases c9 : k = 9
  · rw [if_pos c9]; exact h10 _ _ _
  rw [if_neg c9]
  by_cases c10 : k = 10
  · rw [if_pos c10]; exact h11
  rw [if_neg c10]
  exact h12 _
theorem up2_1 {J : DJ} {k i v : Nat} : up2 J k i v k = up1 (J k) i v := by
  funext j
  rw [up2_app]
  unfold up1
  by_cases q : j = i
  · rw [if_pos ⟨rfl, q⟩, if_pos q]
  · rw [if_neg (fun z => q z.2), if_neg q]
def kC (P : List (Nat × List Nat)) (i : Nat) : Nat := (P.getD i (0, [])).1
def lC (P : List (Nat × List Nat)) (i : Nat) : Nat → Nat := fun j => (P.getD i (0, [])).2.getD j 0
def cOk (x : Nat × List Nat) : Prop := x.1 < 12 ∧ x.2.length = ndF (chS.getD x.1 []) ∧ ∀ j, x.2.getD j 0 ≤ 99
theorem getD_le99 {l : List Nat} (h : ∀ x, x ∈ l → x ≤ 99) (j : Nat) : l.getD j 0 ≤ 99 := by
  rw [List.getD_eq_getElem?_getD]
  by_cases q : j < l.length
  · rw [List.getElem?_eq_getElem q]; exact h _ (List.getElem_mem q)
  · rw [List.getElem?_eq_none (by omega)]; exact Nat.zero_le _
theorem ck_ok {s : Nat → Nat} {n a : Nat} (h : ckN s n a ≠ 12) : cOk (ckN s n a, ckL s n a) := by
  have l : ckN s n a ≤ 12 := fstN_le _ 12
  obtain ⟨K, eK⟩ : ∃ K, ckN s n a = K := ⟨_, rfl⟩
  rw [ckL_is eK]
  rw [eK] at l h ⊢
  have lt : K < 12 := by omega
  have z := fstN_t2 (p := fun k => (fitF s n (fm k) a).1) (n := 12) (r := K) eK lt
  have w := (fit_nums (s := s) (n := n) (fm K) a).2 z
  have v := getD_le99 (fit_le (s := s) (n := n) (fm K) a)
  exact ⟨lt, w, v⟩
theorem prs_ok {s : Nat → Nat} {n : Nat} : ∀ k a, (prsN s n k a).2.length ≤ k ∧ ∀ i, i < (prsN s n k a).2.length → cOk ((prsN s n k a).2.getD i (0, []))
  | 0, a => ⟨Nat.le_refl _, fun i hi => absurd hi (Nat.not_lt_zero _)⟩
  | k + 1, a => by
    have ih := prs_ok (s := s) (n := n) k (ckA s n a + 1)
    have one : ∀ (h : ckN s n a ≠ 12) (i : Nat), i < [(ckN s n a, ckL s n a)].length → cOk ([(ckN s n a, ckL s n a)].getD i (0, [])) := fun h i hi => by
      have e0 : i = 0 := by simp only [List.length_cons, List.length_nil] at hi; omega
      subst e0; exact ck_ok h
    rw [prsN_eq]
    by_cases c : ckN s n a = 12
    · rw [if_pos c]; exact ⟨Nat.zero_le _, fun i hi => absurd hi (Nat.not_lt_zero _)⟩
    · rw [if_neg c]
      by_cases d : n ≤ ckA s n a
      · rw [if_pos d]; exact ⟨Nat.succ_le_succ (Nat.zero_le _), one c⟩
      · rw [if_neg d]
        by_cases b : s (ckA s n a) ≠ 59
        · rw [if_pos b]; exact ⟨Nat.succ_le_succ (Nat.zero_le _), one c⟩
        · rw [if_neg b]
          refine ⟨Nat.succ_le_succ ih.1, fun i hi => ?_⟩
          cases i with
          | zero => exact ck_ok c
          | succ i => exact ih.2 i (Nat.lt_of_succ_lt_succ hi)
/-- the commands of P done one after another, k of them from the i-th on: whether all go, how many, the house then -/
def exN (P : List (Nat × List Nat)) : Nat → Nat → (Nat → Nat) → Bool × Nat × (Nat → Nat)
  | 0, i, f => (true, i, f)
  | k + 1, i, f => if fC f (kC P i) (lC P i) = 0 then exN P k (i + 1) (xC f (kC P i) (lC P i)) else (false, i, f)
theorem exN_1 {P : List (Nat × List Nat)} {k i : Nat} {f : Nat → Nat} (h : fC f (kC P i) (lC P i) = 0) : exN P (k + 1) i f = exN P k (i + 1) (xC f (kC P i) (lC P i)) := by rw [exN, if_pos h]
theorem exN_0 {P : List (Nat × List Nat)} {k i : Nat} {f : Nat → Nat} (h : fC f (kC P i) (lC P i) ≠ 0) : exN P (k + 1) i f = (false, i, f) := by rw [exN, if_neg h]
/-- what execute leaves: done, or refused -/
def QX (J : DJ) (P : Nat × List (Nat × List Nat)) (m : Nat) (fs : Nat → Nat → Nat) (f : Nat → Nat) (B : Nat) : Option Value → DJ → Prop := fun v J2 =>
  P.1 = 4294967295 ∧ (exN P.2 P.2.length 0 f).1 = true ∧ v = some (.int (nI P.2.length)) ∧ (∀ c, c < 1 ∨ (61 ≤ c ∧ c < 91) ∨ (333 ≤ c ∧ c < 344) ∨ c = 345 ∨ 348 ≤ c → J2 c = J c) ∧ J2 344 1 = 0 ∧
  CP J2 1 (exN P.2 P.2.length 0 f).2.2 (B + 39000) ∧ WF (exN P.2 P.2.length 0 f).2.2 (B + 39000) ∧ PP J2 B (min (m + 1) 8) (psh m fs f)
def XX (J : DJ) (P : Nat × List (Nat × List Nat)) (f : Nat → Nat) : String → DJ → Prop := fun E J2 =>
  (∀ c, (1 ≤ c ∧ c < 31) ∨ (61 ≤ c ∧ c < 344) ∨ c = 345 ∨ 348 ≤ c → J2 c = J c) ∧ J2 344 1 = 0 ∧
  ((P.1 ≠ 4294967295 ∧ E = IAE ∧ J2 0 = up1 (J 0) 10 P.1) ∨ (P.1 = 4294967295 ∧ (exN P.2 P.2.length 0 f).1 = false ∧ E = ISE ∧ J2 0 = up1 (J 0) 11 (exN P.2 P.2.length 0 f).2.1))
theorem prs_1 {s : Nat → Nat} {n : Nat} (hn : n ≤ 60) : ∀ k a, a ≤ n → (prsN s n k a).1 < 4294967296
  | 0, a, ha => by show a < _; omega
  | k + 1, a, ha => by
    rw [prsN_eq]
    by_cases c : ckN s n a = 12
    · rw [if_pos c]
      have := furN_le (s := s) ha 12
      dsimp only; omega
    · rw [if_neg c]
      by_cases d : n ≤ ckA s n a
      · rw [if_pos d]; dsimp only; omega
      · rw [if_neg d]
        by_cases b : s (ckA s n a) ≠ 59
        · rw [if_pos b]; dsimp only; omega
        · rw [if_neg b]
          exact prs_1 hn k (ckA s n a + 1) (by omega)
theorem S_X10_execute_loop {g : Gn} {J : DJ} {n B nt : Nat} {fs : Nat → Nat → Nat} {f u : Nat → Nat} (t : TX J u nt) (hc : CP J 1 f B) (hw : WF f B) (hp : PP J B n fs) (hB : B < 40000000) (p1 : (prsN u nt 13 0).1 = 4294967295) : ∀ (k i : Nat) (fi : Nat → Nat) (J1 : DJ), k + i = (prsN u nt 13 0).2.length →
    (∀ c, c < 31 ∨ (61 ≤ c ∧ c < 344) ∨ c = 345 ∨ 348 ≤ c → J1 c = J c) → J1 344 1 = 0 → J1 344 4 = (prsN u nt 13 0).2.length → PC J1 (prsN u nt 13 0).2 0 → CP J1 31 fi (B + 100 * i) → WF fi (B + 3000 * i) →
    exN (prsN u nt 13 0).2 k i fi = exN (prsN u nt 13 0).2 (prsN u nt 13 0).2.length 0 f →
    VJ g mX10_execute 16 1 6 (QX J (prsN u nt 13 0) n fs f B) (XX J (prsN u nt 13 0) f) 46 [(0, .ref (g.2 0)), (1, .int (nI (4294967295))), (2, .int (nI (i)))] [] J1 := by
  intro k
  induction k using Nat.strongRecOn with
  | ind k ih =>
    intro i fi J1 hk fr h1 h4 pc cpi wfi ex
    have ok := prs_ok (s := u) (n := nt) 13 0
    have l13 := ok.1
    have h0 := hw.1
    have h0i := wfi.1
    refine J_iload_n 47 rfl dX10_execute_46 rfl ?_
    refine J_aload_n 48 rfl dX10_execute_47 rfl ?_
    refine g_X10_text 51 rfl dX10_execute_48 lkX10_53 ?_
    refine g_X0_commands 54 rfl dX10_execute_51 lkX10_346 ?_
    refine J_cv (b := (prsN u nt 13 0).2.length) h4 ?_
    refine J_icmp_ge 103 57 (by decide) rfl dX10_execute_54 (by omega) (by omega) (fun c54 => ?_) (fun c54 => ?_)
    · have e0 : k = 0 := by omega
      subst e0
      have ei : i = (prsN u nt 13 0).2.length := by omega
      have e9 : exN (prsN u nt 13 0).2 (prsN u nt 13 0).2.length 0 f = (true, i, fi) := ex.symm
      have hcJ := CP_fr hc h0 (J2 := J1) (fun c x y => fr c (by omega))
      have hpJ := PP_fr hp (J2 := J1) (fun c x y => fr c (by omega))
      refine J_aload_n 104 rfl dX10_execute_103 rfl ?_
      refine g_X10_past 107 rfl dX10_execute_104 lkX10_25 ?_
      refine J_aload_n 108 rfl dX10_execute_107 rfl ?_
      refine g_X10_house 111 rfl dX10_execute_108 lkX10_10 ?_
      refine J_callVvp (As := [_]) 114 _ rfl kalX6_keep lkX10_83 dX10_execute_111 (lt_X6) (so_X6) rfl rfl rfl (by exact Nat.le_of_ble_eq_true rfl) (by omega) (S_X6_keep hpJ hcJ hw) (fun J111 q111 => ?_)
      refine J_aload_n 115 rfl dX10_execute_114 rfl ?_
      refine g_X10_house 118 rfl dX10_execute_115 lkX10_10 ?_
      refine J_aload_n 119 rfl dX10_execute_118 rfl ?_
      refine g_X10_trial 122 rfl dX10_execute_119 lkX10_16 ?_
      refine J_callVvp (As := [_]) 125 _ rfl kalX3_become lkX10_184 dX10_execute_122 (lt_X3 (by first | assumption | exact isH_1 | exact isH_31 | exact isH_61 | exact isH_p (by omega) | exact isH_E (by assumption) (by omega) | exact isH_R (by assumption) | exact isH_K (by assumption) | exact isH_E isH_1 (by omega) | exact isH_R isH_1 | exact isH_K isH_1 | exact isH_R isH_31 | exact isH_K isH_31 | exact isH_E isH_31 (by omega))) (so_X3 (by first | assumption | exact isH_1 | exact isH_31 | exact isH_61 | exact isH_p (by omega) | exact isH_E (by assumption) (by omega) | exact isH_R (by assumption) | exact isH_K (by assumption) | exact isH_E isH_1 (by omega) | exact isH_R isH_1 | exact isH_K isH_1 | exact isH_R isH_31 | exact isH_K isH_31 | exact isH_E isH_31 (by omega))) rfl rfl rfl (by exact Nat.le_of_ble_eq_true rfl) (by omega) (S_X3_become isH_1 isH_31 (by omega) (CP_fr cpi h0i (fun c x y => q111.1 c (by omega))) wfi) (fun J122 q122 => ?_)
      refine J_aload_n 126 rfl dX10_execute_125 rfl ?_
      refine g_X10_text 129 rfl dX10_execute_126 lkX10_53 ?_
      refine g_X0_commands 132 rfl dX10_execute_129 lkX10_346 ?_
      refine J_iret rfl dX10_execute_132 ?_
      unfold QX
      rw [e9]
      refine ⟨p1, rfl, by rw [q122.1 344 (by omega), q111.1 344 (by omega), h4], fun c hc => by rw [q122.1 c (by omega), q111.1 c (by omega)]; exact fr c (by omega), by rw [q122.1 344 (by omega), q111.1 344 (by omega)]; exact h1, CP_le q122.2 (by omega), WF_le wfi (by omega), PP_fr q111.2 (fun c x y => q122.1 c (by omega))⟩
    · have oki := ok.2 i (by omega)
      have pci := pc i (by omega)
      rw [show 0 + i = i by omega] at pci
      have hl : ∀ j, j < ndF (chS.getD (kC (prsN u nt 13 0).2 i) []) → J1 347 (i * 3 + j) = lC (prsN u nt 13 0).2 i j ∧ lC (prsN u nt 13 0).2 i j ≤ 99 := fun j hj => ⟨pci.2 j (by rw [oki.2.1]; exact hj), oki.2.2 j⟩
      obtain ⟨k, rfl⟩ : ∃ k2, k = k2 + 1 := ⟨k - 1, by omega⟩
      have fcl := fC_le (f := fi) (k := kC (prsN u nt 13 0).2 i) (l := lC (prsN u nt 13 0).2 i)
      refine J_aload_n 58 rfl dX10_execute_57 rfl ?_
      refine g_X10_trial 61 rfl dX10_execute_58 lkX10_16 ?_
      refine J_aload_n 62 rfl dX10_execute_61 rfl ?_
      refine g_X10_text 65 rfl dX10_execute_62 lkX10_53 ?_
      refine J_iload_n 66 rfl dX10_execute_65 rfl ?_
      refine J_callVi (As := [_, _]) 69 _ rfl kalX3_faultOf lkX10_349 dX10_execute_66 (lt_X3 (by first | assumption | exact isH_1 | exact isH_31 | exact isH_61 | exact isH_p (by omega) | exact isH_E (by assumption) (by omega) | exact isH_R (by assumption) | exact isH_K (by assumption) | exact isH_E isH_1 (by omega) | exact isH_R isH_1 | exact isH_K isH_1 | exact isH_R isH_31 | exact isH_K isH_31 | exact isH_E isH_31 (by omega))) (so_X3 (by first | assumption | exact isH_1 | exact isH_31 | exact isH_61 | exact isH_p (by omega) | exact isH_E (by assumption) (by omega) | exact isH_R (by assumption) | exact isH_K (by assumption) | exact isH_E isH_1 (by omega) | exact isH_R isH_1 | exact isH_K isH_1 | exact isH_R isH_31 | exact isH_K isH_31 | exact isH_E isH_31 (by omega))) rfl rfl rfl (by exact Nat.le_of_ble_eq_true rfl) (by omega) (S_X3_faultOf (c := i) (by omega) oki.1 pci.1 hl cpi.1 wfi) ?_
      refine J_if_eq 85 72 (by decide) rfl dX10_execute_69 (by unfold kC at fcl; omega) (fun c69 => ?_) (fun c69 => ?_)
      · refine J_aload_n 86 rfl dX10_execute_85 rfl ?_
        refine g_X10_trial 89 rfl dX10_execute_86 lkX10_16 ?_
        refine J_aload_n 90 rfl dX10_execute_89 rfl ?_
        refine g_X10_text 93 rfl dX10_execute_90 lkX10_53 ?_
        refine J_iload_n 94 rfl dX10_execute_93 rfl ?_
        refine J_callVvp (As := [_, _]) 97 _ rfl kalX3_carryOut lkX10_356 dX10_execute_94 (lt_X3 (by first | assumption | exact isH_1 | exact isH_31 | exact isH_61 | exact isH_p (by omega) | exact isH_E (by assumption) (by omega) | exact isH_R (by assumption) | exact isH_K (by assumption) | exact isH_E isH_1 (by omega) | exact isH_R isH_1 | exact isH_K isH_1 | exact isH_R isH_31 | exact isH_K isH_31 | exact isH_E isH_31 (by omega))) (so_X3 (by first | assumption | exact isH_1 | exact isH_31 | exact isH_61 | exact isH_p (by omega) | exact isH_E (by assumption) (by omega) | exact isH_R (by assumption) | exact isH_K (by assumption) | exact isH_E isH_1 (by omega) | exact isH_R isH_1 | exact isH_K isH_1 | exact isH_R isH_31 | exact isH_K isH_31 | exact isH_E isH_31 (by omega))) rfl rfl rfl (by exact Nat.le_of_ble_eq_true rfl) (by omega) (S_X3_carryOut (c := i) (by omega) oki.1 pci.1 hl cpi wfi (by omega) (by assumption)) (fun J94 q94 => ?_)
        refine J_iinc 100 1 rfl dX10_execute_97 ic_1 rfl (Nat.le_of_ble_eq_true rfl) ?_
        refine J_goto 46 (by decide) dX10_execute_100 ?_
        have z : fC fi (kC (prsN u nt 13 0).2 i) (lC (prsN u nt 13 0).2 i) = 0 := by assumption
        refine ih k (by omega) (i + 1) (xC fi (kC (prsN u nt 13 0).2 i) (lC (prsN u nt 13 0).2 i)) J94 (by omega) (fun c hc => by rw [q94.1 c (by omega)]; exact fr c hc) (by rw [q94.1 344 (by omega)]; exact h1) (by rw [q94.1 344 (by omega)]; exact h4) (fun j hj => by rw [q94.1 346 (by omega), q94.1 347 (by omega)]; exact pc j hj) ?_ ?_ ?_
        · rw [show B + 100 * (i + 1) = B + 100 * i + 100 by omega]; exact q94.2
        · rw [show B + 3000 * (i + 1) = B + 3000 * i + 3000 by omega]; exact xC_WF wfi oki.1 z
        · rw [← ex, exN_1 z]
      · refine J_aload_n 73 rfl dX10_execute_72 rfl ?_
        refine J_iload_n 74 rfl dX10_execute_73 rfl ?_
        refine p_X10_lastFailedCommand 77 rfl dX10_execute_74 lkX10_72 ?_
        exact th_ISE rfl dX10_execute_77 dX10_execute_80 dX10_execute_81 dX10_execute_84 (by exact Nat.le_of_ble_eq_true rfl) (by omega) (by omega) (by omega) (by
      have e9 := ex
      rw [exN_0 (by assumption)] at e9
      refine ⟨fun c hc => by rw [up2_ne (by omega)]; exact fr c (by omega), by rw [up2_ne (by omega)]; exact h1, Or.inr ⟨p1, by rw [← e9], rfl, by rw [up2_1, ← e9, fr 0 (by omega)]⟩⟩)
theorem S_X10_execute {g : Gn} {J : DJ} {n B nt : Nat} {fs : Nat → Nat → Nat} {f u : Nat → Nat} (t : TX J u nt) (hc : CP J 1 f B) (hw : WF f B) (hp : PP J B n fs) (hB : B < 40000000) : SJ g mX10_execute 16 1 6 [.ref (g.2 0)] J (QX J (prsN u nt 13 0) n fs f B) (XX J (prsN u nt 13 0) f) := by
  have h0 := hw.1
  refine SJ_of_VJ (by decide +kernel) (Nat.le_of_ble_eq_true rfl) ?_
  show VJ g mX10_execute 16 1 6 _ _ 0 [(0, .ref (g.2 0))] [] J
  refine J_aload_n 1 rfl dX10_execute_0 rfl ?_
  refine g_X10_text 4 rfl dX10_execute_1 lkX10_53 ?_
  refine J_callVie (As := []) 7 _ rfl kalX0_read lkX10_337 dX10_execute_4 (lt_X0) (so_X0) rfl rfl rfl (by exact Nat.le_of_ble_eq_true rfl) (by omega) (S_X0_read t) (fun r4 J4 q4 => ?_)
  obtain ⟨qR, e4, q46, q47, qq⟩ := q4
  have pr := prs_1 (s := u) t.2.2.1 13 0 (Nat.zero_le _)
  refine J_istore_n 8 rfl dX10_execute_7 rfl (Nat.le_of_ble_eq_true rfl) ?_
  refine J_aload_n 9 rfl dX10_execute_8 rfl ?_
  refine g_X10_text 12 rfl dX10_execute_9 lkX10_53 ?_
  refine J_callVv (As := []) 15 _ rfl kalX0_empty lkX10_340 dX10_execute_12 (lt_X0) (so_X0) rfl rfl rfl (by exact Nat.le_of_ble_eq_true rfl) (by omega) (S_X0_empty) ?_
  refine J_iload_n 16 rfl dX10_execute_15 rfl ?_
  refine J_iconst 17 4294967295 rfl dX10_execute_16 ic_m1 ?_
  refine J_icmp_eq 33 20 (by decide) rfl dX10_execute_17 (by omega) (by omega) (fun c17 => ?_) (fun c17 => ?_)
  · have e5 : r4 = 4294967295 := by assumption
    have q9 := qq e5
    have hc2 := CP_fr hc h0 (J2 := up2 J4 344 1 0) (fun c x y => by rw [up2_ne (by omega)]; exact qR.1 c (by omega))
    subst e5
    refine J_aload_n 34 rfl dX10_execute_33 rfl ?_
    refine g_X10_trial 37 rfl dX10_execute_34 lkX10_16 ?_
    refine J_aload_n 38 rfl dX10_execute_37 rfl ?_
    refine g_X10_house 41 rfl dX10_execute_38 lkX10_10 ?_
    refine J_callVvp (As := [_]) 44 _ rfl kalX3_become lkX10_184 dX10_execute_41 (lt_X3 (by first | assumption | exact isH_1 | exact isH_31 | exact isH_61 | exact isH_p (by omega) | exact isH_E (by assumption) (by omega) | exact isH_R (by assumption) | exact isH_K (by assumption) | exact isH_E isH_1 (by omega) | exact isH_R isH_1 | exact isH_K isH_1 | exact isH_R isH_31 | exact isH_K isH_31 | exact isH_E isH_31 (by omega))) (so_X3 (by first | assumption | exact isH_1 | exact isH_31 | exact isH_61 | exact isH_p (by omega) | exact isH_E (by assumption) (by omega) | exact isH_R (by assumption) | exact isH_K (by assumption) | exact isH_E isH_1 (by omega) | exact isH_R isH_1 | exact isH_K isH_1 | exact isH_R isH_31 | exact isH_K isH_31 | exact isH_E isH_31 (by omega))) rfl rfl rfl (by exact Nat.le_of_ble_eq_true rfl) (by omega) (S_X3_become isH_31 isH_1 (by omega) hc2 hw) (fun J41 q41 => ?_)
    refine J_iconst 45 0 rfl dX10_execute_44 ic_0 ?_
    refine J_istore_n 46 rfl dX10_execute_45 rfl (Nat.le_of_ble_eq_true rfl) ?_
    refine S_X10_execute_loop t hc hw hp hB e4.symm (prsN u nt 13 0).2.length 0 f J41 (Nat.add_zero _) (fun c hc => by rw [q41.1 c (by omega), up2_ne (by omega)]; exact qR.1 c (by omega)) (by rw [q41.1 344 (by omega), up2_app, if_pos ⟨rfl, rfl⟩]) (by rw [q41.1 344 (by omega), up2_app, if_neg (by omega), q9.1]; omega) (fun j hj => ?_) q41.2 hw rfl
    have z := q9.2 j hj
    rw [q41.1 346 (by omega), q41.1 347 (by omega), up2_ne (by omega), up2_ne (by omega)]
    exact z
  · refine J_aload_n 21 rfl dX10_execute_20 rfl ?_
    refine J_iload_n 22 rfl dX10_execute_21 rfl ?_
    refine p_X10_lastErrorPosition 25 rfl dX10_execute_22 lkX10_68 ?_
    exact th_IAE rfl dX10_execute_25 dX10_execute_28 dX10_execute_29 dX10_execute_32 (by exact Nat.le_of_ble_eq_true rfl) (by omega) (by omega) (by omega) (⟨fun c hc => by rw [up2_ne (by omega), up2_ne (by omega)]; exact qR.1 c (by omega), by rw [up2_ne (by omega), up2_app, if_pos ⟨rfl, rfl⟩], Or.inl ⟨by rw [← e4]; assumption, rfl, by rw [up2_1, up2_ne (by omega), qR.1 0 (by omega), e4]⟩⟩)

