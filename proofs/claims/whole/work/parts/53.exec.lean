/-! READING AND COMMANDS (laid by wip/whole/src/p53.py) -/
section CSR
variable {g : Gn} {y z : MI} {d d' kc ks : Nat} {Q : Option Value → DJ → Prop} {X : String → DJ → Prop} {pc : Nat} {L : List (Nat × Value)} {st st0 As : List Value} {J : DJ}
theorem J_callSr (pc' : Nat) {idx n a : Nat} {J0 : DJ} (hp : pc + 3 = pc') (k : CalS z n) (hl : Cond.methodLink y.1.cls idx z.1 ∈ WALL) (hd : decode y.2.1 pc = .ok (.invokestatic idx, 3)) (hn : As.length = n) (hst : st0 = As.reverse ++ st) (hcat : (st.map fun v => v.category).sum ≤ 8)
    (hdd : d' + 1 ≤ d) (hSem : SJ g z d' 0 0 As J (Rr a J0) NoX) (kr : VJ g y d kc ks Q X pc' L (.ref a :: st) J0) : VJ g y d kc ks Q X pc L st0 J :=
  J_callS pc' hp k hl hd hn hst hcat hdd (Nat.zero_le _) (Nat.zero_le _) hSem (fun _ _ h => absurd h id) (fun v J' ⟨e1, e2⟩ => by rw [e1, e2]; exact kr)
end CSR
theorem fmL4 : ∀ k, k < 12 → 4 ≤ (chS.getD k []).length ∧ (chS.getD k []).length ≤ 9 := by decide
theorem nmK_ge {s : Nat → Nat} {n p : Nat} (m : Nat) : 1 ≤ nmK s n m p := by
  unfold nmK
  split
  · omega
  · omega
theorem fit_ge {s : Nat → Nat} {n : Nat} : ∀ (l : List Nat) (p : Nat), (fitF s n l p).1 = true → p + l.length ≤ (fitF s n l p).2.1
  | [], p, _ => Nat.le_refl _
  | c :: t, p, h => by
    simp only [fitF, List.length_cons] at h ⊢
    by_cases q : c = 35 ∨ c = 37
    · rw [if_pos q] at h ⊢
      by_cases d : dgt s n p
      · rw [if_pos d] at h ⊢
        dsimp only at h ⊢
        have k1 := nmK_ge (s := s) (n := n) (p := p) (if c = 37 then 1 else 0)
        have ih := fit_ge t _ h
        omega
      · rw [if_neg d] at h
        cases h
    · rw [if_neg q] at h ⊢
      by_cases d : p < n ∧ s p = c
      · rw [if_pos d] at h ⊢
        have ih := fit_ge t _ h
        omega
      · rw [if_neg d] at h
        cases h
theorem ckN_is {s : Nat → Nat} {n a k : Nat} (hk : k < 12) (h1 : ∀ i, i < k → (fitF s n (fm i) a).1 = false) (h2 : (fitF s n (fm k) a).1 = true) : ckN s n a = k := fstN_is (by omega) h1 (fun _ => h2)
theorem ckN_12 {s : Nat → Nat} {n a : Nat} (h1 : ∀ i, i < 12 → (fitF s n (fm i) a).1 = false) : ckN s n a = 12 := fstN_is (Nat.le_refl _) h1 (fun z => absurd z (by omega))
/-- the command that is read at a place: its kind, its numbers, where it ends -/
def ckA (s : Nat → Nat) (n a : Nat) : Nat := (fitF s n (fm (ckN s n a)) a).2.1
def ckL (s : Nat → Nat) (n a : Nat) : List Nat := (fitF s n (fm (ckN s n a)) a).2.2
theorem ckA_is {s : Nat → Nat} {n a k : Nat} (h : ckN s n a = k) : ckA s n a = (fitF s n (fm k) a).2.1 := by subst h; rfl
theorem ckL_is {s : Nat → Nat} {n a k : Nat} (h : ckN s n a = k) : ckL s n a = (fitF s n (fm k) a).2.2 := by subst h; rfl
theorem prsN_eq {s : Nat → Nat} {n k a : Nat} : prsN s n (k + 1) a = if ckN s n a = 12 then (furN s n a 12, []) else
      (if n ≤ ckA s n a then (4294967295, [(ckN s n a, ckL s n a)])
      else if s (ckA s n a) ≠ 59 then (ckA s n a, [(ckN s n a, ckL s n a)])
      else ((prsN s n k (ckA s n a + 1)).1, (ckN s n a, ckL s n a) :: (prsN s n k (ckA s n a + 1)).2)) := by
  rw [prsN]
  rfl
theorem ck_facts {s : Nat → Nat} {n a : Nat} (ha : a ≤ n) (h : ckN s n a < 12) (z : (fitF s n (fm (ckN s n a)) a).1 = true) : a + 4 ≤ ckA s n a ∧ ckA s n a ≤ n ∧ (ckL s n a).length ≤ 3 := by
  have z1 := fit_ge _ _ z
  have z2 := (fmL4 (ckN s n a) h).1
  have e : (fm (ckN s n a)).length = (chS.getD (ckN s n a) []).length := rfl
  exact ⟨by unfold ckA; omega, (fit_at (s := s) (n := n) (fm (ckN s n a)) a).2.1 ha, Nat.le_trans (fit_nums (s := s) (n := n) (fm (ckN s n a)) a).1 (fm_nd _ h)⟩
theorem S_X0_readCommand {g : Gn} {J : DJ} {s : Nat → Nat} {n c a : Nat} (t : TX J s n) (hc : c < 13) (ha : a ≤ n) : SJ g mX0_readCommand 6 0 0 [.ref (g.2 344), .int (nI (c)), .int (nI (a))] J (Re (fun r J2 => Rd J J2 ∧ (∀ j, j < c * 3 → J2 347 j = J 347 j) ∧ (∀ j, j ≠ c → J2 346 j = J 346 j) ∧ ((ckN s n a < 12 ∧ (fitF s n (fm (ckN s n a)) a).1 = true ∧ r = 4294967295 ∧ J2 346 c = ckN s n a ∧ J2 344 5 = ckA s n a ∧ ∀ j, j < (ckL s n a).length → J2 347 (c * 3 + j) = (ckL s n a).getD j 0) ∨ (ckN s n a = 12 ∧ r = furN s n a 12)))) NoX := by
  have tn := t.2.2.1
  refine SJ_of_VJ (by decide +kernel) (Nat.le_of_ble_eq_true rfl) ?_
  show VJ g mX0_readCommand 6 0 0 _ _ 0 [(0, .ref (g.2 344)), (1, .int (nI (c))), (2, .int (nI (a)))] [] J
  have loop : ∀ (n9 : Nat) (k : Nat) (J1 : DJ), 12 - k = n9 → k ≤ 12 → Rd J J1 → J1 346 = J 346 → (∀ j, j < c * 3 → J1 347 j = J 347 j) → (∀ i, i < k → (fitF s n (fm i) a).1 = false) → VJ g mX0_readCommand 6 0 0 (Re (fun r J2 => Rd J J2 ∧ (∀ j, j < c * 3 → J2 347 j = J 347 j) ∧ (∀ j, j ≠ c → J2 346 j = J 346 j) ∧ ((ckN s n a < 12 ∧ (fitF s n (fm (ckN s n a)) a).1 = true ∧ r = 4294967295 ∧ J2 346 c = ckN s n a ∧ J2 344 5 = ckA s n a ∧ ∀ j, j < (ckL s n a).length → J2 347 (c * 3 + j) = (ckL s n a).getD j 0) ∨ (ckN s n a = 12 ∧ r = furN s n a 12)))) NoX 5 [(0, .ref (g.2 344)), (1, .int (nI c)), (2, .int (nI a)), (3, .int (nI (furN s n a k))), (4, .int (nI k))] [] J1 := by
    intro n9
    induction n9 using Nat.strongRecOn with
    | ind n9 ih =>
      intro k J1 hi hk hR h46 h47 hne
      have fl := furN_le (s := s) ha k
      have t1 := hR.tx t
      have t2 : TX (up2 J1 344 5 a) s n := ⟨by rw [up2_ne (by omega)]; exact t1.1, by rw [up2_app, if_neg (by omega)]; exact t1.2.1, t1.2.2.1, t1.2.2.2⟩
      have rd2 : Rd J (up2 J1 344 5 a) := hR.trans ⟨fun c hc => by rw [up2_ne (by omega)], by rw [up2_app, if_neg (by omega)]⟩
      have fa := (fit_at (s := s) (n := n) (fm k) a).2.1 ha
      refine J_iload 7 rfl dX0_readCommand_5 rfl ?_
      refine J_bipush 9 12 rfl dX0_readCommand_7 bc_12 ?_
      refine J_icmp_ge 57 12 (by decide) rfl dX0_readCommand_9 (by omega) (by omega) (fun c9 => ?_) (fun c9 => ?_)
      · refine J_iload_n 58 rfl dX0_readCommand_57 rfl ?_
        refine J_iret rfl dX0_readCommand_58 ?_
        have e9 : k = 12 := by omega
        subst e9
        exact ⟨_, rfl, hR, h47, fun j _ => by rw [h46], Or.inr ⟨ckN_12 hne, rfl⟩⟩
      · refine J_aload_n 13 rfl dX0_readCommand_12 rfl ?_
        refine J_iload_n 14 rfl dX0_readCommand_13 rfl ?_
        refine p_X0_at 17 rfl dX0_readCommand_14 lkX0_33 ?_
        refine J_aload_n 18 rfl dX0_readCommand_17 rfl ?_
        refine J_iload 20 rfl dX0_readCommand_18 rfl ?_
        refine J_callSr (As := [_]) 23 rfl kalX0_formOf lkX0_36 dX0_readCommand_20 rfl rfl (by exact Nat.le_of_ble_eq_true rfl) (by omega) (S_X0_formOf (by omega)) ?_
        refine J_iload_n 24 rfl dX0_readCommand_23 rfl ?_
        refine J_iconst 25 3 rfl dX0_readCommand_24 ic_3 ?_
        refine J_imul 26 rfl dX0_readCommand_25 ?_
        refine J_callV (As := [_, _]) 29 _ rfl kalX0_fits lkX0_40 dX0_readCommand_26 (lt_X0) (so_X0) rfl rfl rfl (by exact Nat.le_of_ble_eq_true rfl) (by omega) (Nat.zero_le _) (Nat.zero_le _) (S_X0_fits (by omega) t2 (by rw [up2_app, if_pos ⟨rfl, rfl⟩]) ha (by omega)) (fun _ _ h => absurd h id) (fun v26 J26 q26 => ?_)
        obtain ⟨rfl, q5, qR, q46, qn, qlo⟩ := q26
        have rd3 := rd2.trans qR
        refine J_ifb_eq (hdp := _) 42 32 (by decide) rfl dX0_readCommand_29 (fun c29 => ?_) (fun c29 => ?_)
        · refine J_iload_n 43 rfl dX0_readCommand_42 rfl ?_
          refine J_aload_n 44 rfl dX0_readCommand_43 rfl ?_
          refine g_X0_at 47 rfl dX0_readCommand_44 lkX0_33 ?_
          refine J_cv (b := (fitF s n (fm k) a).2.1) q5 ?_
          refine J_mmax 50 rfl dX0_readCommand_47 lkX0_44 (by exact Nat.le_of_ble_eq_true rfl) (by omega) (by omega) (by omega) ?_
          refine J_istore_n 51 rfl dX0_readCommand_50 rfl (Nat.le_of_ble_eq_true rfl) ?_
          refine J_iinc 54 1 rfl dX0_readCommand_51 ic_1 rfl (Nat.le_of_ble_eq_true rfl) ?_
          refine J_goto 5 (by decide) dX0_readCommand_54 ?_
          refine ih _ (by omega) (k + 1) J26 rfl (by omega) rd3 (by rw [q46, up2_ne (by omega), h46]) (fun j hj => by rw [qlo j hj, up2_ne (by omega), h47 j hj]) (fun i hi2 => ?_)
          by_cases z : i = k
          · rw [z]; exact Bool.eq_false_iff.mpr c29
          · exact hne i (by omega)
        · refine J_aload_n 33 rfl dX0_readCommand_32 rfl ?_
          refine g_X0_kinds 36 rfl dX0_readCommand_33 lkX0_15 ?_
          refine J_iload_n 37 rfl dX0_readCommand_36 rfl ?_
          refine J_iload 39 rfl dX0_readCommand_37 rfl ?_
          refine J_iast 40 rfl dX0_readCommand_39 (sa_X0_kinds) (by omega) ?_
          refine J_iconst 41 4294967295 rfl dX0_readCommand_40 ic_m1 ?_
          refine J_iret rfl dX0_readCommand_41 ?_
          have ck := ckN_is (by omega) hne c29
          refine ⟨_, rfl, rd3.trans ⟨fun c2 h2 => by rw [up2_ne (by omega)], by rw [up2_ne (by omega)]⟩, fun j hj => by rw [up2_ne (by omega), qlo j hj, up2_ne (by omega), h47 j hj], fun j hj => by rw [up2_app, if_neg (fun z => hj z.2), q46, up2_ne (by omega), h46], Or.inl ⟨by omega, by rw [ck]; exact c29, rfl, by rw [up2_app, if_pos ⟨rfl, rfl⟩, ck], by rw [up2_ne (by omega), q5, ckA_is ck], fun j hj => ?_⟩⟩
          rw [ckL_is ck] at hj ⊢
          rw [up2_ne (by omega)]
          exact qn j hj
  refine J_iload_n 1 rfl dX0_readCommand_0 rfl ?_
  refine J_istore_n 2 rfl dX0_readCommand_1 rfl (Nat.le_of_ble_eq_true rfl) ?_
  refine J_iconst 3 0 rfl dX0_readCommand_2 ic_0 ?_
  refine J_istore 5 rfl dX0_readCommand_3 (Nat.le_of_ble_eq_true rfl) ?_
  exact loop _ 0 J rfl (Nat.zero_le _) Rd.refl rfl (fun _ _ => rfl) (fun i h => absurd h (Nat.not_lt_zero _))

/-- the commands cs stand in the cells from off on -/
def PC (J : DJ) (cs : List (Nat × List Nat)) (off : Nat) : Prop := ∀ i, i < cs.length → J 346 (off + i) = (cs.getD i (0, [])).1 ∧ ∀ j, j < (cs.getD i (0, [])).2.length → J 347 ((off + i) * 3 + j) = (cs.getD i (0, [])).2.getD j 0
theorem S_X0_read_loop {g : Gn} {s : Nat → Nat} {n : Nat} : ∀ (k c a : Nat) (J : DJ), c + k = 13 → TX J s n → a ≤ n → 5 * c ≤ a → VJ g mX0_read 7 0 0 (Re (fun r J2 => Rd J J2 ∧ r = (prsN s n k a).1 ∧ (∀ j, j < c → J2 346 j = J 346 j) ∧ (∀ j, j < c * 3 → J2 347 j = J 347 j) ∧ (r = 4294967295 → J2 344 4 = c + (prsN s n k a).2.length ∧ PC J2 (prsN s n k a).2 c))) NoX 4 [(0, .ref (g.2 344)), (1, .int (nI a)), (2, .int (nI c))] [] J
  | 0, c, a, J, hk, t, ha, h5 => absurd t.2.2.1 (by omega)
  | k + 1, c, a, J, hk, t, ha, h5 => by
    have tn := t.2.2.1
    have fl := furN_le (s := s) ha 12
    have st := prsN_eq (s := s) (n := n) (k := k) (a := a)
    obtain ⟨K, eK⟩ : ∃ K, K = ckN s n a := ⟨_, rfl⟩
    obtain ⟨A, eA⟩ : ∃ A, A = ckA s n a := ⟨_, rfl⟩
    obtain ⟨Ls, eL⟩ : ∃ Ls, Ls = ckL s n a := ⟨_, rfl⟩
    have fac := ck_facts (s := s) ha
    rw [← eK, ← eA, ← eL] at st fac
    refine J_iload_n 5 rfl dX0_read_4 rfl ?_
    refine J_bipush 7 13 rfl dX0_read_5 bc_13 ?_
    refine J_icmp_ge 76 10 (by decide) rfl dX0_read_7 (by omega) (by omega) (fun c7 => ?_) (fun c7 => ?_)
    · refine J_iload_n 77 rfl dX0_read_76 rfl ?_
      refine J_iret rfl dX0_read_77 ?_
      exfalso; omega
    · refine J_aload_n 11 rfl dX0_read_10 rfl ?_
      refine J_iload_n 12 rfl dX0_read_11 rfl ?_
      refine J_iload_n 13 rfl dX0_read_12 rfl ?_
      refine J_callVie (As := [_, _]) 16 _ rfl kalX0_readCommand lkX0_26 dX0_read_13 (lt_X0) (so_X0) rfl rfl rfl (by exact Nat.le_of_ble_eq_true rfl) (by omega) (S_X0_readCommand t (by omega) ha) (fun r13 J13 q13 => ?_)
      obtain ⟨qR, q47, q46, qq⟩ := q13
      have t2 := qR.tx t
      have t3 := t2.2.1
      have hr13 : r13 < 4294967296 := by rcases qq with z | z <;> omega
      rw [← eK, ← eA, ← eL] at qq
      refine J_istore_n 17 rfl dX0_read_16 rfl (Nat.le_of_ble_eq_true rfl) ?_
      refine J_iload_n 18 rfl dX0_read_17 rfl ?_
      refine J_iconst 19 4294967295 rfl dX0_read_18 ic_m1 ?_
      refine J_icmp_eq 24 22 (by decide) rfl dX0_read_19 hr13 (by omega) (fun c19 => ?_) (fun c19 => ?_)
      · have ok : K < 12 ∧ (fitF s n (fm K) a).1 = true ∧ r13 = 4294967295 ∧ J13 346 c = K ∧ J13 344 5 = A ∧ ∀ j, j < (Ls).length → J13 347 (c * 3 + j) = (Ls).getD j 0 := by
          rcases qq with z | z
          · exact z
          · omega
        have f2 := fac ok.1 ok.2.1
        have a5 : (up2 J13 344 4 (c + 1)) 344 5 = A := by rw [up2_app, if_neg (by omega)]; exact ok.2.2.2.2.1
        have rd2 : Rd J (up2 J13 344 4 (c + 1)) := qR.trans ⟨fun c2 h2 => by rw [up2_ne (by omega)], by rw [up2_app, if_neg (by omega)]⟩
        rw [if_neg (by omega)] at st
        have one : PC (up2 J13 344 4 (c + 1)) [(K, Ls)] c := fun i hi => by
          have e0 : i = 0 := by simp only [List.length_cons, List.length_nil] at hi; omega
          subst e0
          refine ⟨by rw [up2_ne (by omega)]; exact ok.2.2.2.1, fun j hj => ?_⟩
          rw [up2_ne (by omega)]
          exact ok.2.2.2.2.2 j hj
        have lo46 : ∀ j, j < c → (up2 J13 344 4 (c + 1)) 346 j = J 346 j := fun j hj => by rw [up2_ne (by omega)]; exact q46 j (by omega)
        have lo47 : ∀ j, j < c * 3 → (up2 J13 344 4 (c + 1)) 347 j = J 347 j := fun j hj => by rw [up2_ne (by omega)]; exact q47 j hj
        refine J_aload_n 25 rfl dX0_read_24 rfl ?_
        refine J_iload_n 26 rfl dX0_read_25 rfl ?_
        refine J_iconst 27 1 rfl dX0_read_26 ic_1 ?_
        refine J_iadd 28 rfl dX0_read_27 ?_
        refine p_X0_commands 31 rfl dX0_read_28 lkX0_30 ?_
        refine J_aload_n 32 rfl dX0_read_31 rfl ?_
        refine g_X0_at 35 rfl dX0_read_32 lkX0_33 ?_
        refine J_cv (b := A) a5 ?_
        refine J_aload_n 36 rfl dX0_read_35 rfl ?_
        refine g_X0_length 39 rfl dX0_read_36 lkX0_22 ?_
        refine J_cv (b := n) (by rw [up2_app, if_neg (by omega)]; exact t3) ?_
        refine J_icmp_lt 44 42 (by decide) rfl dX0_read_39 (by omega) (by omega) (fun c39 => ?_) (fun c39 => ?_)
        · refine J_aload_n 45 rfl dX0_read_44 rfl ?_
          refine g_X0_characters 48 rfl dX0_read_45 lkX0_11 ?_
          refine J_aload_n 49 rfl dX0_read_48 rfl ?_
          refine g_X0_at 52 rfl dX0_read_49 lkX0_33 ?_
          refine J_cv (b := A) a5 ?_
          refine J_cald 53 rfl dX0_read_52 (sa_X0_characters) (by omega) ?_
          refine J_cv (b := s (A)) (by rw [up2_ne (by omega), t2.1]) ?_
          refine J_bipush 55 59 rfl dX0_read_53 bc_59 ?_
          refine J_icmp_eq 63 58 (by decide) rfl dX0_read_55 (by have := (t2.2.2.2 (A) (by omega)).2; omega) (by omega) (fun c55 => ?_) (fun c55 => ?_)
          · refine J_aload_n 64 rfl dX0_read_63 rfl ?_
            refine g_X0_at 67 rfl dX0_read_64 lkX0_33 ?_
            refine J_cv (b := A) a5 ?_
            refine J_iconst 68 1 rfl dX0_read_67 ic_1 ?_
            refine J_iadd 69 rfl dX0_read_68 ?_
            refine J_istore_n 70 rfl dX0_read_69 rfl (Nat.le_of_ble_eq_true rfl) ?_
            refine J_iinc 73 1 rfl dX0_read_70 ic_1 rfl (Nat.le_of_ble_eq_true rfl) ?_
            refine J_goto 4 (by decide) dX0_read_73 ?_
            rw [if_neg (by omega), if_neg (by omega)] at st
            refine J_keep [0, 1, 2] ?_
            have ih := S_X0_read_loop (g := g) (s := s) (n := n) k (c + 1) (A + 1) (up2 J13 344 4 (c + 1)) (by omega) (rd2.tx t) (by omega) (by omega)
            refine VJ_mono ih ?_ (fun _ _ q => q)
            rintro v J2 ⟨r, e1, e2, e3, e4, e5, e6⟩
            rw [st]
            refine ⟨r, e1, rd2.trans e2, e3, fun j hj => by rw [e4 j (by omega)]; exact lo46 j hj, fun j hj => by rw [e5 j (by omega)]; exact lo47 j hj, fun w => ?_⟩
            have e7 := e6 w
            refine ⟨by rw [e7.1, List.length_cons]; omega, fun i hi => ?_⟩
            cases i with
            | zero =>
              have o := one 0 (by simp)
              refine ⟨by rw [e4 (c + 0) (by omega)]; exact o.1, fun j hj => ?_⟩
              have nl := f2.2.2
              have hj2 : j < (Ls).length := hj
              rw [e5 ((c + 0) * 3 + j) (by omega)]
              exact o.2 j hj
            | succ i =>
              have q := e7.2 i (by simp only [List.length_cons] at hi; omega)
              rw [show c + 1 + i = c + (i + 1) by omega] at q
              exact q
          · refine J_aload_n 59 rfl dX0_read_58 rfl ?_
            refine g_X0_at 62 rfl dX0_read_59 lkX0_33 ?_
            refine J_cv (b := A) a5 ?_
            refine J_iret rfl dX0_read_62 ?_
            rw [if_neg (by omega), if_pos (by omega)] at st
            rw [st]
            exact ⟨_, rfl, rd2, rfl, lo46, lo47, fun w => by omega⟩
        · refine J_iconst 43 4294967295 rfl dX0_read_42 ic_m1 ?_
          refine J_iret rfl dX0_read_43 ?_
          rw [if_pos (by omega)] at st
          rw [st]
          exact ⟨_, rfl, rd2, rfl, lo46, lo47, fun _ => ⟨by rw [up2_app, if_pos ⟨rfl, rfl⟩]; rfl, one⟩⟩
      · refine J_iload_n 23 rfl dX0_read_22 rfl ?_
        refine J_iret rfl dX0_read_23 ?_
        rcases qq with z | z
        · omega
        rw [if_pos z.1] at st
        rw [st]
        exact ⟨_, rfl, qR, z.2, fun j hj => q46 j (by omega), q47, fun w => by omega⟩
theorem S_X0_read {g : Gn} {J : DJ} {s : Nat → Nat} {n : Nat} (t : TX J s n) : SJ g mX0_read 7 0 0 [.ref (g.2 344)] J (Re (fun r J2 => Rd J J2 ∧ r = (prsN s n 13 0).1 ∧ (∀ j, j < 0 → J2 346 j = J 346 j) ∧ (∀ j, j < 0 * 3 → J2 347 j = J 347 j) ∧ (r = 4294967295 → J2 344 4 = 0 + (prsN s n 13 0).2.length ∧ PC J2 (prsN s n 13 0).2 0))) NoX := by
  refine SJ_of_VJ (by decide +kernel) (Nat.le_of_ble_eq_true rfl) ?_
  show VJ g mX0_read 7 0 0 _ _ 0 [(0, .ref (g.2 344))] [] J
  refine J_iconst 1 0 rfl dX0_read_0 ic_0 ?_
  refine J_istore_n 2 rfl dX0_read_1 rfl (Nat.le_of_ble_eq_true rfl) ?_
  refine J_iconst 3 0 rfl dX0_read_2 ic_0 ?_
  refine J_istore_n 4 rfl dX0_read_3 rfl (Nat.le_of_ble_eq_true rfl) ?_
  exact S_X0_read_loop 13 0 0 J rfl t (Nat.zero_le _) (Nat.zero_le _)

theorem xAble_WF {f : Nat → Nat} {B m v a : Nat} (hw : WF f B) (hm : m < f 3) (hv : v < 8) : WF (xAble f m v a) B := by
  have h3 := hw.2.2.1
  have x := (hw.2.2.2.2.2.2.2.1 m (by omega)).1
  have pv := Nat.two_pow_pos v
  unfold xAble
  refine able_WF hw hm ?_
  split
  · split <;> omega
  · exact (or_bit v hv _ x).2
theorem xRep_WF {f : Nat → Nat} {B : Nat} (hw : WF f B) (hr : 0 < f 4) : WF (xRep f) (B + 3000) := by
  have h4 := hw.2.2.2.2.1.1
  have hB := hw.2.2.2.2.2.2.2.2.1
  have fb : fBst f (f 4) < f 4 := (fBst_lt f (f 4)).elim id (fun z => by omega)
  have rr := hw.2.2.2.2.1.2 _ fb
  have sp : sumN (fun i => f (223 + 3 * i)) (f 4) ≤ 8 * 9 := Nat.le_trans (sumN_le (B := 9) _ (fun i hi => (hw.2.2.2.2.1.2 i hi).2.2.2.2)) (Nat.mul_le_mul_right 9 h4)
  have hm : f (222 + 3 * fBst f (f 4)) * sumN (fun i => f (223 + 3 * i)) (f 4) ≤ 9 * (8 * 9) := Nat.mul_le_mul rr.2.2.1 sp
  have b5 := hB 5 (by omega)
  have wp := pen_WF (v := f 5 + f (222 + 3 * fBst f (f 4)) * sumN (fun i => f (223 + 3 * i)) (f 4)) (B2 := B + 1000) hw (by omega) (by omega)
  have wq := psN_WF wp (f (222 + 3 * fBst f (f 4)))
  have po : ∀ i, i ≠ 1 → i ≠ 5 → i ≠ 6 → (i < 7 ∨ 215 ≤ i) → i < 245 → psN (up1 f 5 (f 5 + f (222 + 3 * fBst f (f 4)) * sumN (fun i => f (223 + 3 * i)) (f 4))) (f (222 + 3 * fBst f (f 4))) i = f i := fun i a1 a2 a3 a4 a5 => (psN_out wp a1 a3 a4 a5 _).trans (up1_ne a2)
  unfold xRep
  have p0 := po 0 (by omega) (by omega) (by omega) (by omega) (by omega)
  have wr := renew_WF wq.1 (e := f (221 + 3 * fBst f (f 4))) (by omega)
  have e4 : mRenew (psN (up1 f 5 (f 5 + f (222 + 3 * fBst f (f 4)) * sumN (fun i => f (223 + 3 * i)) (f 4))) (f (222 + 3 * fBst f (f 4)))) (7 + 52 * f (221 + 3 * fBst f (f 4))) 4 = f 4 := by
    unfold mRenew
    rw [if_neg (by omega)]
    exact po 4 (by omega) (by omega) (by omega) (by omega) (by omega)
  exact WF_le (mDrop_WF wr (by rw [e4]; exact fb)) (by omega)
/-- what stands against a command, and what it does -/
def fC (f : Nat → Nat) (k : Nat) (l : Nat → Nat) : Nat := if k = 0 then fE f (l 0) else (if k = 1 then fSwap f (l 0) (l 1) (l 2) else (if k = 2 then fRate f (l 0) (l 1) else (if k = 3 then fRun f (l 0) (l 1) else (if k = 4 then fOil f (l 0) (l 1) (l 2) else (if k = 5 then fFill f (l 0) else (if k = 6 then fBuy f (l 0) else (if k = 7 then fMonk f else (if k = 8 then fAble f (l 0) (l 1) else (if k = 9 then fMend f (l 0) (l 1) (l 2) else (if k = 10 then fRep f else (fPass (l 0))))))))))))
def xC (f : Nat → Nat) (k : Nat) (l : Nat → Nat) : Nat → Nat := if k = 0 then xE f (l 0) else (if k = 1 then xSwap f (l 0) (l 1) (l 2) else (if k = 2 then xRate f (l 0) (l 1) else (if k = 3 then xRun f (l 0) (l 1) else (if k = 4 then xOil f (l 0) (l 1) (l 2) else (if k = 5 then xFill f (l 0) else (if k = 6 then xBuy f (l 0) else (if k = 7 then xMonk f else (if k = 8 then xAble f (l 0) (l 1) 1 else (if k = 9 then mAsk f (l 0) (l 1) (l 2) else (if k = 10 then xRep f else (psN f (l 0))))))))))))
theorem xC_WF {f : Nat → Nat} {B k : Nat} {l : Nat → Nat} (hw : WF f B) (hk : k < 12) (h : fC f k l = 0) : WF (xC f k l) (B + 3000) := by
  have h4 := hw.2.2.2.2.1.1
  have h3 := hw.2.2.1
  have k12 : k = 0 ∨ k = 1 ∨ k = 2 ∨ k = 3 ∨ k = 4 ∨ k = 5 ∨ k = 6 ∨ k = 7 ∨ k = 8 ∨ k = 9 ∨ k = 10 ∨ k = 11 := by omega
  rcases k12 with e | e | e | e | e | e | e | e | e | e | e | e <;> subst e
  · have z := fE_0 (show fE f (l 0) = 0 from h)
    exact WF_le (xE_WF hw z.1.1 z.1.2 z.2) (by omega)
  · have z := fSwap_0 (show fSwap f (l 0) (l 1) (l 2) = 0 from h)
    exact WF_le (xSwap_WF hw z.1 z.2.1 z.2.2) (by omega)
  · have z := fRate_0 (show fRate f (l 0) (l 1) = 0 from h)
    exact WF_le (xRate_WF hw z.1 z.2) (by omega)
  · have z := fRun_0 (show fRun f (l 0) (l 1) = 0 from h)
    exact WF_le (xRun_WF hw z.1) (by omega)
  · have z := fOil_0 (show fOil f (l 0) (l 1) (l 2) = 0 from h)
    exact WF_le (xOil_WF hw z.1 z.2.1 z.2.2.2.2) (by omega)
  · have z := fFill_0 (show fFill f (l 0) = 0 from h)
    have h2 := hw.2.1
    exact WF_le (xGN_WF (store_WF hw (v := f 2 - l 0) (by omega)) (by rw [up1_ne (by omega)]; exact z.2.2.2) (l 0)).1 (by omega)
  · have z := fBuy_0 (show fBuy f (l 0) = 0 from h)
    exact WF_le (xBuy_WF hw z.2.2) (by omega)
  · have z := fMonk_0 (show fMonk f = 0 from h)
    exact WF_le (xMonk_WF hw z) (by omega)
  · have z := fAble_0 (show fAble f (l 0) (l 1) = 0 from h)
    exact WF_le (xAble_WF hw z.1 z.2) (by omega)
  · have z := fMend_0 (show fMend f (l 0) (l 1) (l 2) = 0 from h)
    exact WF_le (mAsk_WF hw z.2.2.2.2.2 z.1 z.2.1 z.2.2.1 z.2.2.2.1 z.2.2.2.2.1) (by omega)
  · have z := fRep_0 (show fRep f = 0 from h)
    exact xRep_WF hw z
  · have z := fPass_0 (show fPass (l 0) = 0 from h)
    exact WF_le (psN_WF hw (l 0)).1 (by omega)
theorem S_X3_faultOf {g : Gn} {J : DJ} {c k B : Nat} {f l : Nat → Nat} (hc : c < 13) (hk : k < 12) (hK : J 346 c = k) (hl : ∀ j, j < ndF (chS.getD k []) → J 347 (c * 3 + j) = l j ∧ l j ≤ 99) (h : CQ J 31 f) (hw : WF f B) : SJ g mX3_faultOf 5 0 0 [.ref (g.2 31), .ref (g.2 344), .int (nI (c))] J (Ri (fC f k l) J) NoX := by
  refine SJ_of_VJ (by decide +kernel) (Nat.le_of_ble_eq_true rfl) ?_
  show VJ g mX3_faultOf 5 0 0 _ _ 0 [(0, .ref (g.2 31)), (1, .ref (g.2 344)), (2, .int (nI (c)))] [] J
  have k12 : k = 0 ∨ k = 1 ∨ k = 2 ∨ k = 3 ∨ k = 4 ∨ k = 5 ∨ k = 6 ∨ k = 7 ∨ k = 8 ∨ k = 9 ∨ k = 10 ∨ k = 11 := by omega
  rcases k12 with e | e | e | e | e | e | e | e | e | e | e | e <;> subst e
  · have n0 := hl 0 (by decide)
    refine J_aload_n 1 rfl dX3_faultOf_0 rfl ?_
    refine J_iload_n 2 rfl dX3_faultOf_1 rfl ?_
    refine J_iconst 3 0 rfl dX3_faultOf_2 ic_0 ?_
    refine J_callVi (As := [_, _]) 6 _ rfl kalX0_numberOf lkX3_94 dX3_faultOf_3 (lt_X0) (so_X0) rfl rfl rfl (by exact Nat.le_of_ble_eq_true rfl) (by omega) (S_X0_numberOf (by omega) (by omega)) ?_
    refine J_cv (b := l 0) n0.1 ?_
    refine J_istore_n 7 rfl dX3_faultOf_6 rfl (Nat.le_of_ble_eq_true rfl) ?_
    refine J_aload_n 8 rfl dX3_faultOf_7 rfl ?_
    refine J_iload_n 9 rfl dX3_faultOf_8 rfl ?_
    refine J_iconst 10 1 rfl dX3_faultOf_9 ic_1 ?_
    refine J_callVi (As := [_, _]) 13 _ rfl kalX0_numberOf lkX3_94 dX3_faultOf_10 (lt_X0) (so_X0) rfl rfl rfl (by exact Nat.le_of_ble_eq_true rfl) (by omega) (S_X0_numberOf (by omega) (by omega)) ?_
    refine J_istore 15 rfl dX3_faultOf_13 (Nat.le_of_ble_eq_true rfl) ?_
    refine J_aload_n 16 rfl dX3_faultOf_15 rfl ?_
    refine J_iload_n 17 rfl dX3_faultOf_16 rfl ?_
    refine J_iconst 18 2 rfl dX3_faultOf_17 ic_2 ?_
    refine J_callVi (As := [_, _]) 21 _ rfl kalX0_numberOf lkX3_94 dX3_faultOf_18 (lt_X0) (so_X0) rfl rfl rfl (by exact Nat.le_of_ble_eq_true rfl) (by omega) (S_X0_numberOf (by omega) (by omega)) ?_
    refine J_istore 23 rfl dX3_faultOf_21 (Nat.le_of_ble_eq_true rfl) ?_
    refine J_aload_n 24 rfl dX3_faultOf_23 rfl ?_
    refine g_X0_kinds 27 rfl dX3_faultOf_24 lkX3_100 ?_
    refine J_iload_n 28 rfl dX3_faultOf_27 rfl ?_
    refine J_iald 29 rfl dX3_faultOf_28 (sa_X0_kinds) (by omega) ?_
    refine J_cv (b := 0) hK ?_
    refine J_tabIn 88 dX3_faultOf_29 (by omega) (by decide) rfl (by decide) ?_
    refine J_aload_n 89 rfl dX3_faultOf_88 rfl ?_
    refine J_iload_n 90 rfl dX3_faultOf_89 rfl ?_
    refine J_callVi (As := [_]) 93 _ rfl kalX3_faultOfEngine lkX3_103 dX3_faultOf_90 (lt_X3 (by first | assumption | exact isH_1 | exact isH_31 | exact isH_61 | exact isH_p (by omega) | exact isH_E (by assumption) (by omega) | exact isH_R (by assumption) | exact isH_K (by assumption) | exact isH_E isH_1 (by omega) | exact isH_R isH_1 | exact isH_K isH_1 | exact isH_R isH_31 | exact isH_K isH_31 | exact isH_E isH_31 (by omega))) (so_X3 (by first | assumption | exact isH_1 | exact isH_31 | exact isH_61 | exact isH_p (by omega) | exact isH_E (by assumption) (by omega) | exact isH_R (by assumption) | exact isH_K (by assumption) | exact isH_E isH_1 (by omega) | exact isH_R isH_1 | exact isH_K isH_1 | exact isH_R isH_31 | exact isH_K isH_31 | exact isH_E isH_31 (by omega))) rfl rfl rfl (by exact Nat.le_of_ble_eq_true rfl) (by omega) (S_X3_faultOfEngine isH_31 h hw (by omega)) ?_
    refine J_iret rfl dX3_faultOf_93 ?_
    exact ⟨rfl, rfl⟩
  · have n0 := hl 0 (by decide)
    have n1 := hl 1 (by decide)
    have n2 := hl 2 (by decide)
    refine J_aload_n 1 rfl dX3_faultOf_0 rfl ?_
    refine J_iload_n 2 rfl dX3_faultOf_1 rfl ?_
    refine J_iconst 3 0 rfl dX3_faultOf_2 ic_0 ?_
    refine J_callVi (As := [_, _]) 6 _ rfl kalX0_numberOf lkX3_94 dX3_faultOf_3 (lt_X0) (so_X0) rfl rfl rfl (by exact Nat.le_of_ble_eq_true rfl) (by omega) (S_X0_numberOf (by omega) (by omega)) ?_
    refine J_cv (b := l 0) n0.1 ?_
    refine J_istore_n 7 rfl dX3_faultOf_6 rfl (Nat.le_of_ble_eq_true rfl) ?_
    refine J_aload_n 8 rfl dX3_faultOf_7 rfl ?_
    refine J_iload_n 9 rfl dX3_faultOf_8 rfl ?_
    refine J_iconst 10 1 rfl dX3_faultOf_9 ic_1 ?_
    refine J_callVi (As := [_, _]) 13 _ rfl kalX0_numberOf lkX3_94 dX3_faultOf_10 (lt_X0) (so_X0) rfl rfl rfl (by exact Nat.le_of_ble_eq_true rfl) (by omega) (S_X0_numberOf (by omega) (by omega)) ?_
    refine J_cv (b := l 1) n1.1 ?_
    refine J_istore 15 rfl dX3_faultOf_13 (Nat.le_of_ble_eq_true rfl) ?_
    refine J_aload_n 16 rfl dX3_faultOf_15 rfl ?_
    refine J_iload_n 17 rfl dX3_faultOf_16 rfl ?_
    refine J_iconst 18 2 rfl dX3_faultOf_17 ic_2 ?_
    refine J_callVi (As := [_, _]) 21 _ rfl kalX0_numberOf lkX3_94 dX3_faultOf_18 (lt_X0) (so_X0) rfl rfl rfl (by exact Nat.le_of_ble_eq_true rfl) (by omega) (S_X0_numberOf (by omega) (by omega)) ?_
    refine J_cv (b := l 2) n2.1 ?_
    refine J_istore 23 rfl dX3_faultOf_21 (Nat.le_of_ble_eq_true rfl) ?_
    refine J_aload_n 24 rfl dX3_faultOf_23 rfl ?_
    refine g_X0_kinds 27 rfl dX3_faultOf_24 lkX3_100 ?_
    refine J_iload_n 28 rfl dX3_faultOf_27 rfl ?_
    refine J_iald 29 rfl dX3_faultOf_28 (sa_X0_kinds) (by omega) ?_
    refine J_cv (b := 1) hK ?_
    refine J_tabIn 94 dX3_faultOf_29 (by omega) (by decide) rfl (by decide) ?_
    refine J_aload_n 95 rfl dX3_faultOf_94 rfl ?_
    refine J_iload_n 96 rfl dX3_faultOf_95 rfl ?_
    refine J_iload 98 rfl dX3_faultOf_96 rfl ?_
    refine J_iload 100 rfl dX3_faultOf_98 rfl ?_
    refine J_callVi (As := [_, _, _]) 103 _ rfl kalX3_faultOfExchange lkX3_107 dX3_faultOf_100 (lt_X3 (by first | assumption | exact isH_1 | exact isH_31 | exact isH_61 | exact isH_p (by omega) | exact isH_E (by assumption) (by omega) | exact isH_R (by assumption) | exact isH_K (by assumption) | exact isH_E isH_1 (by omega) | exact isH_R isH_1 | exact isH_K isH_1 | exact isH_R isH_31 | exact isH_K isH_31 | exact isH_E isH_31 (by omega))) (so_X3 (by first | assumption | exact isH_1 | exact isH_31 | exact isH_61 | exact isH_p (by omega) | exact isH_E (by assumption) (by omega) | exact isH_R (by assumption) | exact isH_K (by assumption) | exact isH_E isH_1 (by omega) | exact isH_R isH_1 | exact isH_K isH_1 | exact isH_R isH_31 | exact isH_K isH_31 | exact isH_E isH_31 (by omega))) rfl rfl rfl (by exact Nat.le_of_ble_eq_true rfl) (by omega) (S_X3_faultOfExchange isH_31 h hw (by omega) (by omega) (by omega)) ?_
    refine J_iret rfl dX3_faultOf_103 ?_
    exact ⟨rfl, rfl⟩
  · have n0 := hl 0 (by decide)
    have n1 := hl 1 (by decide)
    refine J_aload_n 1 rfl dX3_faultOf_0 rfl ?_
    refine J_iload_n 2 rfl dX3_faultOf_1 rfl ?_
    refine J_iconst 3 0 rfl dX3_faultOf_2 ic_0 ?_
    refine J_callVi (As := [_, _]) 6 _ rfl kalX0_numberOf lkX3_94 dX3_faultOf_3 (lt_X0) (so_X0) rfl rfl rfl (by exact Nat.le_of_ble_eq_true rfl) (by omega) (S_X0_numberOf (by omega) (by omega)) ?_
    refine J_cv (b := l 0) n0.1 ?_
    refine J_istore_n 7 rfl dX3_faultOf_6 rfl (Nat.le_of_ble_eq_true rfl) ?_
    refine J_aload_n 8 rfl dX3_faultOf_7 rfl ?_
    refine J_iload_n 9 rfl dX3_faultOf_8 rfl ?_
    refine J_iconst 10 1 rfl dX3_faultOf_9 ic_1 ?_
    refine J_callVi (As := [_, _]) 13 _ rfl kalX0_numberOf lkX3_94 dX3_faultOf_10 (lt_X0) (so_X0) rfl rfl rfl (by exact Nat.le_of_ble_eq_true rfl) (by omega) (S_X0_numberOf (by omega) (by omega)) ?_
    refine J_cv (b := l 1) n1.1 ?_
    refine J_istore 15 rfl dX3_faultOf_13 (Nat.le_of_ble_eq_true rfl) ?_
    refine J_aload_n 16 rfl dX3_faultOf_15 rfl ?_
    refine J_iload_n 17 rfl dX3_faultOf_16 rfl ?_
    refine J_iconst 18 2 rfl dX3_faultOf_17 ic_2 ?_
    refine J_callVi (As := [_, _]) 21 _ rfl kalX0_numberOf lkX3_94 dX3_faultOf_18 (lt_X0) (so_X0) rfl rfl rfl (by exact Nat.le_of_ble_eq_true rfl) (by omega) (S_X0_numberOf (by omega) (by omega)) ?_
    refine J_istore 23 rfl dX3_faultOf_21 (Nat.le_of_ble_eq_true rfl) ?_
    refine J_aload_n 24 rfl dX3_faultOf_23 rfl ?_
    refine g_X0_kinds 27 rfl dX3_faultOf_24 lkX3_100 ?_
    refine J_iload_n 28 rfl dX3_faultOf_27 rfl ?_
    refine J_iald 29 rfl dX3_faultOf_28 (sa_X0_kinds) (by omega) ?_
    refine J_cv (b := 2) hK ?_
    refine J_tabIn 104 dX3_faultOf_29 (by omega) (by decide) rfl (by decide) ?_
    refine J_aload_n 105 rfl dX3_faultOf_104 rfl ?_
    refine J_iload_n 106 rfl dX3_faultOf_105 rfl ?_
    refine J_iload 108 rfl dX3_faultOf_106 rfl ?_
    refine J_callVi (As := [_, _]) 111 _ rfl kalX3_faultOfRate lkX3_111 dX3_faultOf_108 (lt_X3 (by first | assumption | exact isH_1 | exact isH_31 | exact isH_61 | exact isH_p (by omega) | exact isH_E (by assumption) (by omega) | exact isH_R (by assumption) | exact isH_K (by assumption) | exact isH_E isH_1 (by omega) | exact isH_R isH_1 | exact isH_K isH_1 | exact isH_R isH_31 | exact isH_K isH_31 | exact isH_E isH_31 (by omega))) (so_X3 (by first | assumption | exact isH_1 | exact isH_31 | exact isH_61 | exact isH_p (by omega) | exact isH_E (by assumption) (by omega) | exact isH_R (by assumption) | exact isH_K (by assumption) | exact isH_E isH_1 (by omega) | exact isH_R isH_1 | exact isH_K isH_1 | exact isH_R isH_31 | exact isH_K isH_31 | exact isH_E isH_31 (by omega))) rfl rfl rfl (by exact Nat.le_of_ble_eq_true rfl) (by omega) (S_X3_faultOfRate isH_31 h hw (by omega) (by omega)) ?_
    refine J_iret rfl dX3_faultOf_111 ?_
    exact ⟨rfl, rfl⟩
  · have n0 := hl 0 (by decide)
    have n1 := hl 1 (by decide)
    refine J_aload_n 1 rfl dX3_faultOf_0 rfl ?_
    refine J_iload_n 2 rfl dX3_faultOf_1 rfl ?_
    refine J_iconst 3 0 rfl dX3_faultOf_2 ic_0 ?_
    refine J_callVi (As := [_, _]) 6 _ rfl kalX0_numberOf lkX3_94 dX3_faultOf_3 (lt_X0) (so_X0) rfl rfl rfl (by exact Nat.le_of_ble_eq_true rfl) (by omega) (S_X0_numberOf (by omega) (by omega)) ?_
    refine J_cv (b := l 0) n0.1 ?_
    refine J_istore_n 7 rfl dX3_faultOf_6 rfl (Nat.le_of_ble_eq_true rfl) ?_
    refine J_aload_n 8 rfl dX3_faultOf_7 rfl ?_
    refine J_iload_n 9 rfl dX3_faultOf_8 rfl ?_
    refine J_iconst 10 1 rfl dX3_faultOf_9 ic_1 ?_
    refine J_callVi (As := [_, _]) 13 _ rfl kalX0_numberOf lkX3_94 dX3_faultOf_10 (lt_X0) (so_X0) rfl rfl rfl (by exact Nat.le_of_ble_eq_true rfl) (by omega) (S_X0_numberOf (by omega) (by omega)) ?_
    refine J_cv (b := l 1) n1.1 ?_
    refine J_istore 15 rfl dX3_faultOf_13 (Nat.le_of_ble_eq_true rfl) ?_
    refine J_aload_n 16 rfl dX3_faultOf_15 rfl ?_
    refine J_iload_n 17 rfl dX3_faultOf_16 rfl ?_
    refine J_iconst 18 2 rfl dX3_faultOf_17 ic_2 ?_
    refine J_callVi (As := [_, _]) 21 _ rfl kalX0_numberOf lkX3_94 dX3_faultOf_18 (lt_X0) (so_X0) rfl rfl rfl (by exact Nat.le_of_ble_eq_true rfl) (by omega) (S_X0_numberOf (by omega) (by omega)) ?_
    refine J_istore 23 rfl dX3_faultOf_21 (Nat.le_of_ble_eq_true rfl) ?_
    refine J_aload_n 24 rfl dX3_faultOf_23 rfl ?_
    refine g_X0_kinds 27 rfl dX3_faultOf_24 lkX3_100 ?_
    refine J_iload_n 28 rfl dX3_faultOf_27 rfl ?_
    refine J_iald 29 rfl dX3_faultOf_28 (sa_X0_kinds) (by omega) ?_
    refine J_cv (b := 3) hK ?_
    refine J_tabIn 112 dX3_faultOf_29 (by omega) (by decide) rfl (by decide) ?_
    refine J_aload_n 113 rfl dX3_faultOf_112 rfl ?_
    refine J_iload_n 114 rfl dX3_faultOf_113 rfl ?_
    refine J_iload 116 rfl dX3_faultOf_114 rfl ?_
    refine J_callVi (As := [_, _]) 119 _ rfl kalX3_faultOfRun lkX3_114 dX3_faultOf_116 (lt_X3 (by first | assumption | exact isH_1 | exact isH_31 | exact isH_61 | exact isH_p (by omega) | exact isH_E (by assumption) (by omega) | exact isH_R (by assumption) | exact isH_K (by assumption) | exact isH_E isH_1 (by omega) | exact isH_R isH_1 | exact isH_K isH_1 | exact isH_R isH_31 | exact isH_K isH_31 | exact isH_E isH_31 (by omega))) (so_X3 (by first | assumption | exact isH_1 | exact isH_31 | exact isH_61 | exact isH_p (by omega) | exact isH_E (by assumption) (by omega) | exact isH_R (by assumption) | exact isH_K (by assumption) | exact isH_E isH_1 (by omega) | exact isH_R isH_1 | exact isH_K isH_1 | exact isH_R isH_31 | exact isH_K isH_31 | exact isH_E isH_31 (by omega))) rfl rfl rfl (by exact Nat.le_of_ble_eq_true rfl) (by omega) (S_X3_faultOfRun isH_31 h hw (by omega) (by omega)) ?_
    refine J_iret rfl dX3_faultOf_119 ?_
    exact ⟨rfl, rfl⟩
  · have n0 := hl 0 (by decide)
    have n1 := hl 1 (by decide)
    have n2 := hl 2 (by decide)
    refine J_aload_n 1 rfl dX3_faultOf_0 rfl ?_
    refine J_iload_n 2 rfl dX3_faultOf_1 rfl ?_
    refine J_iconst 3 0 rfl dX3_faultOf_2 ic_0 ?_
    refine J_callVi (As := [_, _]) 6 _ rfl kalX0_numberOf lkX3_94 dX3_faultOf_3 (lt_X0) (so_X0) rfl rfl rfl (by exact Nat.le_of_ble_eq_true rfl) (by omega) (S_X0_numberOf (by omega) (by omega)) ?_
    refine J_cv (b := l 0) n0.1 ?_
    refine J_istore_n 7 rfl dX3_faultOf_6 rfl (Nat.le_of_ble_eq_true rfl) ?_
    refine J_aload_n 8 rfl dX3_faultOf_7 rfl ?_
    refine J_iload_n 9 rfl dX3_faultOf_8 rfl ?_
    refine J_iconst 10 1 rfl dX3_faultOf_9 ic_1 ?_
    refine J_callVi (As := [_, _]) 13 _ rfl kalX0_numberOf lkX3_94 dX3_faultOf_10 (lt_X0) (so_X0) rfl rfl rfl (by exact Nat.le_of_ble_eq_true rfl) (by omega) (S_X0_numberOf (by omega) (by omega)) ?_
    refine J_cv (b := l 1) n1.1 ?_
    refine J_istore 15 rfl dX3_faultOf_13 (Nat.le_of_ble_eq_true rfl) ?_
    refine J_aload_n 16 rfl dX3_faultOf_15 rfl ?_
    refine J_iload_n 17 rfl dX3_faultOf_16 rfl ?_
    refine J_iconst 18 2 rfl dX3_faultOf_17 ic_2 ?_
    refine J_callVi (As := [_, _]) 21 _ rfl kalX0_numberOf lkX3_94 dX3_faultOf_18 (lt_X0) (so_X0) rfl rfl rfl (by exact Nat.le_of_ble_eq_true rfl) (by omega) (S_X0_numberOf (by omega) (by omega)) ?_
    refine J_cv (b := l 2) n2.1 ?_
    refine J_istore 23 rfl dX3_faultOf_21 (Nat.le_of_ble_eq_true rfl) ?_
    refine J_aload_n 24 rfl dX3_faultOf_23 rfl ?_
    refine g_X0_kinds 27 rfl dX3_faultOf_24 lkX3_100 ?_
    refine J_iload_n 28 rfl dX3_faultOf_27 rfl ?_
    refine J_iald 29 rfl dX3_faultOf_28 (sa_X0_kinds) (by omega) ?_
    refine J_cv (b := 4) hK ?_
    refine J_tabIn 120 dX3_faultOf_29 (by omega) (by decide) rfl (by decide) ?_
    refine J_aload_n 121 rfl dX3_faultOf_120 rfl ?_
    refine J_iload_n 122 rfl dX3_faultOf_121 rfl ?_
    refine J_iload 124 rfl dX3_faultOf_122 rfl ?_
    refine J_iload 126 rfl dX3_faultOf_124 rfl ?_
    refine J_callVi (As := [_, _, _]) 129 _ rfl kalX3_faultOfOil lkX3_117 dX3_faultOf_126 (lt_X3 (by first | assumption | exact isH_1 | exact isH_31 | exact isH_61 | exact isH_p (by omega) | exact isH_E (by assumption) (by omega) | exact isH_R (by assumption) | exact isH_K (by assumption) | exact isH_E isH_1 (by omega) | exact isH_R isH_1 | exact isH_K isH_1 | exact isH_R isH_31 | exact isH_K isH_31 | exact isH_E isH_31 (by omega))) (so_X3 (by first | assumption | exact isH_1 | exact isH_31 | exact isH_61 | exact isH_p (by omega) | exact isH_E (by assumption) (by omega) | exact isH_R (by assumption) | exact isH_K (by assumption) | exact isH_E isH_1 (by omega) | exact isH_R isH_1 | exact isH_K isH_1 | exact isH_R isH_31 | exact isH_K isH_31 | exact isH_E isH_31 (by omega))) rfl rfl rfl (by exact Nat.le_of_ble_eq_true rfl) (by omega) (S_X3_faultOfOil isH_31 h hw (by omega) (by omega) (by omega)) ?_
    refine J_iret rfl dX3_faultOf_129 ?_
    exact ⟨rfl, rfl⟩
  · have n0 := hl 0 (by decide)
    refine J_aload_n 1 rfl dX3_faultOf_0 rfl ?_
    refine J_iload_n 2 rfl dX3_faultOf_1 rfl ?_
    refine J_iconst 3 0 rfl dX3_faultOf_2 ic_0 ?_
    refine J_callVi (As := [_, _]) 6 _ rfl kalX0_numberOf lkX3_94 dX3_faultOf_3 (lt_X0) (so_X0) rfl rfl rfl (by exact Nat.le_of_ble_eq_true rfl) (by omega) (S_X0_numberOf (by omega) (by omega)) ?_
    refine J_cv (b := l 0) n0.1 ?_
    refine J_istore_n 7 rfl dX3_faultOf_6 rfl (Nat.le_of_ble_eq_true rfl) ?_
    refine J_aload_n 8 rfl dX3_faultOf_7 rfl ?_
    refine J_iload_n 9 rfl dX3_faultOf_8 rfl ?_
    refine J_iconst 10 1 rfl dX3_faultOf_9 ic_1 ?_
    refine J_callVi (As := [_, _]) 13 _ rfl kalX0_numberOf lkX3_94 dX3_faultOf_10 (lt_X0) (so_X0) rfl rfl rfl (by exact Nat.le_of_ble_eq_true rfl) (by omega) (S_X0_numberOf (by omega) (by omega)) ?_
    refine J_istore 15 rfl dX3_faultOf_13 (Nat.le_of_ble_eq_true rfl) ?_
    refine J_aload_n 16 rfl dX3_faultOf_15 rfl ?_
    refine J_iload_n 17 rfl dX3_faultOf_16 rfl ?_
    refine J_iconst 18 2 rfl dX3_faultOf_17 ic_2 ?_
    refine J_callVi (As := [_, _]) 21 _ rfl kalX0_numberOf lkX3_94 dX3_faultOf_18 (lt_X0) (so_X0) rfl rfl rfl (by exact Nat.le_of_ble_eq_true rfl) (by omega) (S_X0_numberOf (by omega) (by omega)) ?_
    refine J_istore 23 rfl dX3_faultOf_21 (Nat.le_of_ble_eq_true rfl) ?_
    refine J_aload_n 24 rfl dX3_faultOf_23 rfl ?_
    refine g_X0_kinds 27 rfl dX3_faultOf_24 lkX3_100 ?_
    refine J_iload_n 28 rfl dX3_faultOf_27 rfl ?_
    refine J_iald 29 rfl dX3_faultOf_28 (sa_X0_kinds) (by omega) ?_
    refine J_cv (b := 5) hK ?_
    refine J_tabIn 130 dX3_faultOf_29 (by omega) (by decide) rfl (by decide) ?_
    refine J_aload_n 131 rfl dX3_faultOf_130 rfl ?_
    refine J_iload_n 132 rfl dX3_faultOf_131 rfl ?_
    refine J_callVi (As := [_]) 135 _ rfl kalX3_faultOfFill lkX3_120 dX3_faultOf_132 (lt_X3 (by first | assumption | exact isH_1 | exact isH_31 | exact isH_61 | exact isH_p (by omega) | exact isH_E (by assumption) (by omega) | exact isH_R (by assumption) | exact isH_K (by assumption) | exact isH_E isH_1 (by omega) | exact isH_R isH_1 | exact isH_K isH_1 | exact isH_R isH_31 | exact isH_K isH_31 | exact isH_E isH_31 (by omega))) (so_X3 (by first | assumption | exact isH_1 | exact isH_31 | exact isH_61 | exact isH_p (by omega) | exact isH_E (by assumption) (by omega) | exact isH_R (by assumption) | exact isH_K (by assumption) | exact isH_E isH_1 (by omega) | exact isH_R isH_1 | exact isH_K isH_1 | exact isH_R isH_31 | exact isH_K isH_31 | exact isH_E isH_31 (by omega))) rfl rfl rfl (by exact Nat.le_of_ble_eq_true rfl) (by omega) (S_X3_faultOfFill isH_31 h hw (by omega)) ?_
    refine J_iret rfl dX3_faultOf_135 ?_
    exact ⟨rfl, rfl⟩
  · have n0 := hl 0 (by decide)
    refine J_aload_n 1 rfl dX3_faultOf_0 rfl ?_
    refine J_iload_n 2 rfl dX3_faultOf_1 rfl ?_
    refine J_iconst 3 0 rfl dX3_faultOf_2 ic_0 ?_
    refine J_callVi (As := [_, _]) 6 _ rfl kalX0_numberOf lkX3_94 dX3_faultOf_3 (lt_X0) (so_X0) rfl rfl rfl (by exact Nat.le_of_ble_eq_true rfl) (by omega) (S_X0_numberOf (by omega) (by omega)) ?_
    refine J_cv (b := l 0) n0.1 ?_
    refine J_istore_n 7 rfl dX3_faultOf_6 rfl (Nat.le_of_ble_eq_true rfl) ?_
    refine J_aload_n 8 rfl dX3_faultOf_7 rfl ?_
    refine J_iload_n 9 rfl dX3_faultOf_8 rfl ?_
    refine J_iconst 10 1 rfl dX3_faultOf_9 ic_1 ?_
    refine J_callVi (As := [_, _]) 13 _ rfl kalX0_numberOf lkX3_94 dX3_faultOf_10 (lt_X0) (so_X0) rfl rfl rfl (by exact Nat.le_of_ble_eq_true rfl) (by omega) (S_X0_numberOf (by omega) (by omega)) ?_
    refine J_istore 15 rfl dX3_faultOf_13 (Nat.le_of_ble_eq_true rfl) ?_
    refine J_aload_n 16 rfl dX3_faultOf_15 rfl ?_
    refine J_iload_n 17 rfl dX3_faultOf_16 rfl ?_
    refine J_iconst 18 2 rfl dX3_faultOf_17 ic_2 ?_
    refine J_callVi (As := [_, _]) 21 _ rfl kalX0_numberOf lkX3_94 dX3_faultOf_18 (lt_X0) (so_X0) rfl rfl rfl (by exact Nat.le_of_ble_eq_true rfl) (by omega) (S_X0_numberOf (by omega) (by omega)) ?_
    refine J_istore 23 rfl dX3_faultOf_21 (Nat.le_of_ble_eq_true rfl) ?_
    refine J_aload_n 24 rfl dX3_faultOf_23 rfl ?_
    refine g_X0_kinds 27 rfl dX3_faultOf_24 lkX3_100 ?_
    refine J_iload_n 28 rfl dX3_faultOf_27 rfl ?_
    refine J_iald 29 rfl dX3_faultOf_28 (sa_X0_kinds) (by omega) ?_
    refine J_cv (b := 6) hK ?_
    refine J_tabIn 136 dX3_faultOf_29 (by omega) (by decide) rfl (by decide) ?_
    refine J_aload_n 137 rfl dX3_faultOf_136 rfl ?_
    refine J_iload_n 138 rfl dX3_faultOf_137 rfl ?_
    refine J_callVi (As := [_]) 141 _ rfl kalX3_faultOfPurchase lkX3_123 dX3_faultOf_138 (lt_X3 (by first | assumption | exact isH_1 | exact isH_31 | exact isH_61 | exact isH_p (by omega) | exact isH_E (by assumption) (by omega) | exact isH_R (by assumption) | exact isH_K (by assumption) | exact isH_E isH_1 (by omega) | exact isH_R isH_1 | exact isH_K isH_1 | exact isH_R isH_31 | exact isH_K isH_31 | exact isH_E isH_31 (by omega))) (so_X3 (by first | assumption | exact isH_1 | exact isH_31 | exact isH_61 | exact isH_p (by omega) | exact isH_E (by assumption) (by omega) | exact isH_R (by assumption) | exact isH_K (by assumption) | exact isH_E isH_1 (by omega) | exact isH_R isH_1 | exact isH_K isH_1 | exact isH_R isH_31 | exact isH_K isH_31 | exact isH_E isH_31 (by omega))) rfl rfl rfl (by exact Nat.le_of_ble_eq_true rfl) (by omega) (S_X3_faultOfPurchase isH_31 h hw (by omega)) ?_
    refine J_iret rfl dX3_faultOf_141 ?_
    exact ⟨rfl, rfl⟩
  · refine J_aload_n 1 rfl dX3_faultOf_0 rfl ?_
    refine J_iload_n 2 rfl dX3_faultOf_1 rfl ?_
    refine J_iconst 3 0 rfl dX3_faultOf_2 ic_0 ?_
    refine J_callVi (As := [_, _]) 6 _ rfl kalX0_numberOf lkX3_94 dX3_faultOf_3 (lt_X0) (so_X0) rfl rfl rfl (by exact Nat.le_of_ble_eq_true rfl) (by omega) (S_X0_numberOf (by omega) (by omega)) ?_
    refine J_istore_n 7 rfl dX3_faultOf_6 rfl (Nat.le_of_ble_eq_true rfl) ?_
    refine J_aload_n 8 rfl dX3_faultOf_7 rfl ?_
    refine J_iload_n 9 rfl dX3_faultOf_8 rfl ?_
    refine J_iconst 10 1 rfl dX3_faultOf_9 ic_1 ?_
    refine J_callVi (As := [_, _]) 13 _ rfl kalX0_numberOf lkX3_94 dX3_faultOf_10 (lt_X0) (so_X0) rfl rfl rfl (by exact Nat.le_of_ble_eq_true rfl) (by omega) (S_X0_numberOf (by omega) (by omega)) ?_
    refine J_istore 15 rfl dX3_faultOf_13 (Nat.le_of_ble_eq_true rfl) ?_
    refine J_aload_n 16 rfl dX3_faultOf_15 rfl ?_
    refine J_iload_n 17 rfl dX3_faultOf_16 rfl ?_
    refine J_iconst 18 2 rfl dX3_faultOf_17 ic_2 ?_
    refine J_callVi (As := [_, _]) 21 _ rfl kalX0_numberOf lkX3_94 dX3_faultOf_18 (lt_X0) (so_X0) rfl rfl rfl (by exact Nat.le_of_ble_eq_true rfl) (by omega) (S_X0_numberOf (by omega) (by omega)) ?_
    refine J_istore 23 rfl dX3_faultOf_21 (Nat.le_of_ble_eq_true rfl) ?_
    refine J_aload_n 24 rfl dX3_faultOf_23 rfl ?_
    refine g_X0_kinds 27 rfl dX3_faultOf_24 lkX3_100 ?_
    refine J_iload_n 28 rfl dX3_faultOf_27 rfl ?_
    refine J_iald 29 rfl dX3_faultOf_28 (sa_X0_kinds) (by omega) ?_
    refine J_cv (b := 7) hK ?_
    refine J_tabIn 142 dX3_faultOf_29 (by omega) (by decide) rfl (by decide) ?_
    refine J_aload_n 143 rfl dX3_faultOf_142 rfl ?_
    refine J_callVi (As := []) 146 _ rfl kalX3_faultOfMonk lkX3_126 dX3_faultOf_143 (lt_X3 (by first | assumption | exact isH_1 | exact isH_31 | exact isH_61 | exact isH_p (by omega) | exact isH_E (by assumption) (by omega) | exact isH_R (by assumption) | exact isH_K (by assumption) | exact isH_E isH_1 (by omega) | exact isH_R isH_1 | exact isH_K isH_1 | exact isH_R isH_31 | exact isH_K isH_31 | exact isH_E isH_31 (by omega))) (so_X3 (by first | assumption | exact isH_1 | exact isH_31 | exact isH_61 | exact isH_p (by omega) | exact isH_E (by assumption) (by omega) | exact isH_R (by assumption) | exact isH_K (by assumption) | exact isH_E isH_1 (by omega) | exact isH_R isH_1 | exact isH_K isH_1 | exact isH_R isH_31 | exact isH_K isH_31 | exact isH_E isH_31 (by omega))) rfl rfl rfl (by exact Nat.le_of_ble_eq_true rfl) (by omega) (S_X3_faultOfMonk isH_31 h hw) ?_
    refine J_iret rfl dX3_faultOf_146 ?_
    exact ⟨rfl, rfl⟩
  · have n0 := hl 0 (by decide)
    have n1 := hl 1 (by decide)
    refine J_aload_n 1 rfl dX3_faultOf_0 rfl ?_
    refine J_iload_n 2 rfl dX3_faultOf_1 rfl ?_
    refine J_iconst 3 0 rfl dX3_faultOf_2 ic_0 ?_
    refine J_callVi (As := [_, _]) 6 _ rfl kalX0_numberOf lkX3_94 dX3_faultOf_3 (lt_X0) (so_X0) rfl rfl rfl (by exact Nat.le_of_ble_eq_true rfl) (by omega) (S_X0_numberOf (by omega) (by omega)) ?_
    refine J_cv (b := l 0) n0.1 ?_
    refine J_istore_n 7 rfl dX3_faultOf_6 rfl (Nat.le_of_ble_eq_true rfl) ?_
    refine J_aload_n 8 rfl dX3_faultOf_7 rfl ?_
    refine J_iload_n 9 rfl dX3_faultOf_8 rfl ?_
    refine J_iconst 10 1 rfl dX3_faultOf_9 ic_1 ?_
    refine J_callVi (As := [_, _]) 13 _ rfl kalX0_numberOf lkX3_94 dX3_faultOf_10 (lt_X0) (so_X0) rfl rfl rfl (by exact Nat.le_of_ble_eq_true rfl) (by omega) (S_X0_numberOf (by omega) (by omega)) ?_
    refine J_cv (b := l 1) n1.1 ?_
    refine J_istore 15 rfl dX3_faultOf_13 (Nat.le_of_ble_eq_true rfl) ?_
    refine J_aload_n 16 rfl dX3_faultOf_15 rfl ?_
    refine J_iload_n 17 rfl dX3_faultOf_16 rfl ?_
    refine J_iconst 18 2 rfl dX3_faultOf_17 ic_2 ?_
    refine J_callVi (As := [_, _]) 21 _ rfl kalX0_numberOf lkX3_94 dX3_faultOf_18 (lt_X0) (so_X0) rfl rfl rfl (by exact Nat.le_of_ble_eq_true rfl) (by omega) (S_X0_numberOf (by omega) (by omega)) ?_
    refine J_istore 23 rfl dX3_faultOf_21 (Nat.le_of_ble_eq_true rfl) ?_
    refine J_aload_n 24 rfl dX3_faultOf_23 rfl ?_
    refine g_X0_kinds 27 rfl dX3_faultOf_24 lkX3_100 ?_
    refine J_iload_n 28 rfl dX3_faultOf_27 rfl ?_
    refine J_iald 29 rfl dX3_faultOf_28 (sa_X0_kinds) (by omega) ?_
    refine J_cv (b := 8) hK ?_
    refine J_tabIn 147 dX3_faultOf_29 (by omega) (by decide) rfl (by decide) ?_
    refine J_aload_n 148 rfl dX3_faultOf_147 rfl ?_
    refine J_iload_n 149 rfl dX3_faultOf_148 rfl ?_
    refine J_iload 151 rfl dX3_faultOf_149 rfl ?_
    refine J_callVi (As := [_, _]) 154 _ rfl kalX3_faultOfAble lkX3_130 dX3_faultOf_151 (lt_X3 (by first | assumption | exact isH_1 | exact isH_31 | exact isH_61 | exact isH_p (by omega) | exact isH_E (by assumption) (by omega) | exact isH_R (by assumption) | exact isH_K (by assumption) | exact isH_E isH_1 (by omega) | exact isH_R isH_1 | exact isH_K isH_1 | exact isH_R isH_31 | exact isH_K isH_31 | exact isH_E isH_31 (by omega))) (so_X3 (by first | assumption | exact isH_1 | exact isH_31 | exact isH_61 | exact isH_p (by omega) | exact isH_E (by assumption) (by omega) | exact isH_R (by assumption) | exact isH_K (by assumption) | exact isH_E isH_1 (by omega) | exact isH_R isH_1 | exact isH_K isH_1 | exact isH_R isH_31 | exact isH_K isH_31 | exact isH_E isH_31 (by omega))) rfl rfl rfl (by exact Nat.le_of_ble_eq_true rfl) (by omega) (S_X3_faultOfAble isH_31 h hw (by omega) (by omega)) ?_
    refine J_iret rfl dX3_faultOf_154 ?_
    exact ⟨rfl, rfl⟩
  · have n0 := hl 0 (by decide)
    have n1 := hl 1 (by decide)
    have n2 := hl 2 (by decide)
    refine J_aload_n 1 rfl dX3_faultOf_0 rfl ?_
    refine J_iload_n 2 rfl dX3_faultOf_1 rfl ?_
    refine J_iconst 3 0 rfl dX3_faultOf_2 ic_0 ?_
    refine J_callVi (As := [_, _]) 6 _ rfl kalX0_numberOf lkX3_94 dX3_faultOf_3 (lt_X0) (so_X0) rfl rfl rfl (by exact Nat.le_of_ble_eq_true rfl) (by omega) (S_X0_numberOf (by omega) (by omega)) ?_
    refine J_cv (b := l 0) n0.1 ?_
    refine J_istore_n 7 rfl dX3_faultOf_6 rfl (Nat.le_of_ble_eq_true rfl) ?_
    refine J_aload_n 8 rfl dX3_faultOf_7 rfl ?_
    refine J_iload_n 9 rfl dX3_faultOf_8 rfl ?_
    refine J_iconst 10 1 rfl dX3_faultOf_9 ic_1 ?_
    refine J_callVi (As := [_, _]) 13 _ rfl kalX0_numberOf lkX3_94 dX3_faultOf_10 (lt_X0) (so_X0) rfl rfl rfl (by exact Nat.le_of_ble_eq_true rfl) (by omega) (S_X0_numberOf (by omega) (by omega)) ?_
    refine J_cv (b := l 1) n1.1 ?_
    refine J_istore 15 rfl dX3_faultOf_13 (Nat.le_of_ble_eq_true rfl) ?_
    refine J_aload_n 16 rfl dX3_faultOf_15 rfl ?_
    refine J_iload_n 17 rfl dX3_faultOf_16 rfl ?_
    refine J_iconst 18 2 rfl dX3_faultOf_17 ic_2 ?_
    refine J_callVi (As := [_, _]) 21 _ rfl kalX0_numberOf lkX3_94 dX3_faultOf_18 (lt_X0) (so_X0) rfl rfl rfl (by exact Nat.le_of_ble_eq_true rfl) (by omega) (S_X0_numberOf (by omega) (by omega)) ?_
    refine J_cv (b := l 2) n2.1 ?_
    refine J_istore 23 rfl dX3_faultOf_21 (Nat.le_of_ble_eq_true rfl) ?_
    refine J_aload_n 24 rfl dX3_faultOf_23 rfl ?_
    refine g_X0_kinds 27 rfl dX3_faultOf_24 lkX3_100 ?_
    refine J_iload_n 28 rfl dX3_faultOf_27 rfl ?_
    refine J_iald 29 rfl dX3_faultOf_28 (sa_X0_kinds) (by omega) ?_
    refine J_cv (b := 9) hK ?_
    refine J_tabIn 155 dX3_faultOf_29 (by omega) (by decide) rfl (by decide) ?_
    refine J_aload_n 156 rfl dX3_faultOf_155 rfl ?_
    refine J_iload_n 157 rfl dX3_faultOf_156 rfl ?_
    refine J_iload 159 rfl dX3_faultOf_157 rfl ?_
    refine J_iload 161 rfl dX3_faultOf_159 rfl ?_
    refine J_callVi (As := [_, _, _]) 164 _ rfl kalX3_faultOfRepair lkX3_133 dX3_faultOf_161 (lt_X3 (by first | assumption | exact isH_1 | exact isH_31 | exact isH_61 | exact isH_p (by omega) | exact isH_E (by assumption) (by omega) | exact isH_R (by assumption) | exact isH_K (by assumption) | exact isH_E isH_1 (by omega) | exact isH_R isH_1 | exact isH_K isH_1 | exact isH_R isH_31 | exact isH_K isH_31 | exact isH_E isH_31 (by omega))) (so_X3 (by first | assumption | exact isH_1 | exact isH_31 | exact isH_61 | exact isH_p (by omega) | exact isH_E (by assumption) (by omega) | exact isH_R (by assumption) | exact isH_K (by assumption) | exact isH_E isH_1 (by omega) | exact isH_R isH_1 | exact isH_K isH_1 | exact isH_R isH_31 | exact isH_K isH_31 | exact isH_E isH_31 (by omega))) rfl rfl rfl (by exact Nat.le_of_ble_eq_true rfl) (by omega) (S_X3_faultOfRepair isH_31 h hw (by omega) (by omega) (by omega)) ?_
    refine J_iret rfl dX3_faultOf_164 ?_
    exact ⟨rfl, rfl⟩
  · refine J_aload_n 1 rfl dX3_faultOf_0 rfl ?_
    refine J_iload_n 2 rfl dX3_faultOf_1 rfl ?_
    refine J_iconst 3 0 rfl dX3_faultOf_2 ic_0 ?_
    refine J_callVi (As := [_, _]) 6 _ rfl kalX0_numberOf lkX3_94 dX3_faultOf_3 (lt_X0) (so_X0) rfl rfl rfl (by exact Nat.le_of_ble_eq_true rfl) (by omega) (S_X0_numberOf (by omega) (by omega)) ?_
    refine J_istore_n 7 rfl dX3_faultOf_6 rfl (Nat.le_of_ble_eq_true rfl) ?_
    refine J_aload_n 8 rfl dX3_faultOf_7 rfl ?_
    refine J_iload_n 9 rfl dX3_faultOf_8 rfl ?_
    refine J_iconst 10 1 rfl dX3_faultOf_9 ic_1 ?_
    refine J_callVi (As := [_, _]) 13 _ rfl kalX0_numberOf lkX3_94 dX3_faultOf_10 (lt_X0) (so_X0) rfl rfl rfl (by exact Nat.le_of_ble_eq_true rfl) (by omega) (S_X0_numberOf (by omega) (by omega)) ?_
    refine J_istore 15 rfl dX3_faultOf_13 (Nat.le_of_ble_eq_true rfl) ?_
    refine J_aload_n 16 rfl dX3_faultOf_15 rfl ?_
    refine J_iload_n 17 rfl dX3_faultOf_16 rfl ?_
    refine J_iconst 18 2 rfl dX3_faultOf_17 ic_2 ?_
    refine J_callVi (As := [_, _]) 21 _ rfl kalX0_numberOf lkX3_94 dX3_faultOf_18 (lt_X0) (so_X0) rfl rfl rfl (by exact Nat.le_of_ble_eq_true rfl) (by omega) (S_X0_numberOf (by omega) (by omega)) ?_
    refine J_istore 23 rfl dX3_faultOf_21 (Nat.le_of_ble_eq_true rfl) ?_
    refine J_aload_n 24 rfl dX3_faultOf_23 rfl ?_
    refine g_X0_kinds 27 rfl dX3_faultOf_24 lkX3_100 ?_
    refine J_iload_n 28 rfl dX3_faultOf_27 rfl ?_
    refine J_iald 29 rfl dX3_faultOf_28 (sa_X0_kinds) (by omega) ?_
    refine J_cv (b := 10) hK ?_
    refine J_tabIn 165 dX3_faultOf_29 (by omega) (by decide) rfl (by decide) ?_
    refine J_aload_n 166 rfl dX3_faultOf_165 rfl ?_
    refine J_callVi (As := []) 169 _ rfl kalX3_faultOfRepairing lkX3_136 dX3_faultOf_166 (lt_X3 (by first | assumption | exact isH_1 | exact isH_31 | exact isH_61 | exact isH_p (by omega) | exact isH_E (by assumption) (by omega) | exact isH_R (by assumption) | exact isH_K (by assumption) | exact isH_E isH_1 (by omega) | exact isH_R isH_1 | exact isH_K isH_1 | exact isH_R isH_31 | exact isH_K isH_31 | exact isH_E isH_31 (by omega))) (so_X3 (by first | assumption | exact isH_1 | exact isH_31 | exact isH_61 | exact isH_p (by omega) | exact isH_E (by assumption) (by omega) | exact isH_R (by assumption) | exact isH_K (by assumption) | exact isH_E isH_1 (by omega) | exact isH_R isH_1 | exact isH_K isH_1 | exact isH_R isH_31 | exact isH_K isH_31 | exact isH_E isH_31 (by omega))) rfl rfl rfl (by exact Nat.le_of_ble_eq_true rfl) (by omega) (S_X3_faultOfRepairing isH_31 h hw) ?_
    refine J_iret rfl dX3_faultOf_169 ?_
    exact ⟨rfl, rfl⟩
  · have n0 := hl 0 (by decide)
    refine J_aload_n 1 rfl dX3_faultOf_0 rfl ?_
    refine J_iload_n 2 rfl dX3_faultOf_1 rfl ?_
    refine J_iconst 3 0 rfl dX3_faultOf_2 ic_0 ?_
    refine J_callVi (As := [_, _]) 6 _ rfl kalX0_numberOf lkX3_94 dX3_faultOf_3 (lt_X0) (so_X0) rfl rfl rfl (by exact Nat.le_of_ble_eq_true rfl) (by omega) (S_X0_numberOf (by omega) (by omega)) ?_
    refine J_cv (b := l 0) n0.1 ?_
    refine J_istore_n 7 rfl dX3_faultOf_6 rfl (Nat.le_of_ble_eq_true rfl) ?_
    refine J_aload_n 8 rfl dX3_faultOf_7 rfl ?_
    refine J_iload_n 9 rfl dX3_faultOf_8 rfl ?_
    refine J_iconst 10 1 rfl dX3_faultOf_9 ic_1 ?_
    refine J_callVi (As := [_, _]) 13 _ rfl kalX0_numberOf lkX3_94 dX3_faultOf_10 (lt_X0) (so_X0) rfl rfl rfl (by exact Nat.le_of_ble_eq_true rfl) (by omega) (S_X0_numberOf (by omega) (by omega)) ?_
    refine J_istore 15 rfl dX3_faultOf_13 (Nat.le_of_ble_eq_true rfl) ?_
    refine J_aload_n 16 rfl dX3_faultOf_15 rfl ?_
    refine J_iload_n 17 rfl dX3_faultOf_16 rfl ?_
    refine J_iconst 18 2 rfl dX3_faultOf_17 ic_2 ?_
    refine J_callVi (As := [_, _]) 21 _ rfl kalX0_numberOf lkX3_94 dX3_faultOf_18 (lt_X0) (so_X0) rfl rfl rfl (by exact Nat.le_of_ble_eq_true rfl) (by omega) (S_X0_numberOf (by omega) (by omega)) ?_
    refine J_istore 23 rfl dX3_faultOf_21 (Nat.le_of_ble_eq_true rfl) ?_
    refine J_aload_n 24 rfl dX3_faultOf_23 rfl ?_
    refine g_X0_kinds 27 rfl dX3_faultOf_24 lkX3_100 ?_
    refine J_iload_n 28 rfl dX3_faultOf_27 rfl ?_
    refine J_iald 29 rfl dX3_faultOf_28 (sa_X0_kinds) (by omega) ?_
    refine J_cv (b := 11) hK ?_
    refine J_tabOut 170 dX3_faultOf_29 (by omega) (Or.inr (by decide)) (by decide) ?_
    refine J_aload_n 171 rfl dX3_faultOf_170 rfl ?_
    refine J_iload_n 172 rfl dX3_faultOf_171 rfl ?_
    refine J_callVi (As := [_]) 175 _ rfl kalX3_faultOfHours lkX3_139 dX3_faultOf_172 (lt_X3 (by first | assumption | exact isH_1 | exact isH_31 | exact isH_61 | exact isH_p (by omega) | exact isH_E (by assumption) (by omega) | exact isH_R (by assumption) | exact isH_K (by assumption) | exact isH_E isH_1 (by omega) | exact isH_R isH_1 | exact isH_K isH_1 | exact isH_R isH_31 | exact isH_K isH_31 | exact isH_E isH_31 (by omega))) (so_X3 (by first | assumption | exact isH_1 | exact isH_31 | exact isH_61 | exact isH_p (by omega) | exact isH_E (by assumption) (by omega) | exact isH_R (by assumption) | exact isH_K (by assumption) | exact isH_E isH_1 (by omega) | exact isH_R isH_1 | exact isH_K isH_1 | exact isH_R isH_31 | exact isH_K isH_31 | exact isH_E isH_31 (by omega))) rfl rfl rfl (by exact Nat.le_of_ble_eq_true rfl) (by omega) (S_X3_faultOfHours isH_31 h hw (by omega)) ?_
    refine J_iret rfl dX3_faultOf_175 ?_
    exact ⟨rfl, rfl⟩

theorem S_X3_carryOut {g : Gn} {J : DJ} {c k B : Nat} {f l : Nat → Nat} (hc : c < 13) (hk : k < 12) (hK : J 346 c = k) (hl : ∀ j, j < ndF (chS.getD k []) → J 347 (c * 3 + j) = l j ∧ l j ≤ 99) {B0 : Nat} (h : CP J 31 f B0) (hw : WF f B) (hB : B < 49000000) (hf : fC f k l = 0) : SJ g mX3_carryOut 6 0 0 [.ref (g.2 31), .ref (g.2 344), .int (nI (c))] J (Rq (fun J2 => Fr 31 30 J J2 ∧ CP J2 31 (xC f k l) (B0 + 100))) NoX := by
  refine SJ_of_VJ (by decide +kernel) (Nat.le_of_ble_eq_true rfl) ?_
  show VJ g mX3_carryOut 6 0 0 _ _ 0 [(0, .ref (g.2 31)), (1, .ref (g.2 344)), (2, .int (nI (c)))] [] J
  have k12 : k = 0 ∨ k = 1 ∨ k = 2 ∨ k = 3 ∨ k = 4 ∨ k = 5 ∨ k = 6 ∨ k = 7 ∨ k = 8 ∨ k = 9 ∨ k = 10 ∨ k = 11 := by omega
  rcases k12 with e | e | e | e | e | e | e | e | e | e | e | e <;> subst e
  · have n0 := hl 0 (by decide)
    refine J_aload_n 1 rfl dX3_carryOut_0 rfl ?_
    refine J_iload_n 2 rfl dX3_carryOut_1 rfl ?_
    refine J_iconst 3 0 rfl dX3_carryOut_2 ic_0 ?_
    refine J_callVi (As := [_, _]) 6 _ rfl kalX0_numberOf lkX3_94 dX3_carryOut_3 (lt_X0) (so_X0) rfl rfl rfl (by exact Nat.le_of_ble_eq_true rfl) (by omega) (S_X0_numberOf (by omega) (by omega)) ?_
    refine J_cv (b := l 0) n0.1 ?_
    refine J_istore_n 7 rfl dX3_carryOut_6 rfl (Nat.le_of_ble_eq_true rfl) ?_
    refine J_aload_n 8 rfl dX3_carryOut_7 rfl ?_
    refine J_iload_n 9 rfl dX3_carryOut_8 rfl ?_
    refine J_iconst 10 1 rfl dX3_carryOut_9 ic_1 ?_
    refine J_callVi (As := [_, _]) 13 _ rfl kalX0_numberOf lkX3_94 dX3_carryOut_10 (lt_X0) (so_X0) rfl rfl rfl (by exact Nat.le_of_ble_eq_true rfl) (by omega) (S_X0_numberOf (by omega) (by omega)) ?_
    refine J_istore 15 rfl dX3_carryOut_13 (Nat.le_of_ble_eq_true rfl) ?_
    refine J_aload_n 16 rfl dX3_carryOut_15 rfl ?_
    refine J_iload_n 17 rfl dX3_carryOut_16 rfl ?_
    refine J_iconst 18 2 rfl dX3_carryOut_17 ic_2 ?_
    refine J_callVi (As := [_, _]) 21 _ rfl kalX0_numberOf lkX3_94 dX3_carryOut_18 (lt_X0) (so_X0) rfl rfl rfl (by exact Nat.le_of_ble_eq_true rfl) (by omega) (S_X0_numberOf (by omega) (by omega)) ?_
    refine J_istore 23 rfl dX3_carryOut_21 (Nat.le_of_ble_eq_true rfl) ?_
    refine J_aload_n 24 rfl dX3_carryOut_23 rfl ?_
    refine g_X0_kinds 27 rfl dX3_carryOut_24 lkX3_100 ?_
    refine J_iload_n 28 rfl dX3_carryOut_27 rfl ?_
    refine J_iald 29 rfl dX3_carryOut_28 (sa_X0_kinds) (by omega) ?_
    refine J_cv (b := 0) hK ?_
    refine J_tabIn 88 dX3_carryOut_29 (by omega) (by decide) rfl (by decide) ?_
    have z := fE_0 (show fE f (l 0) = 0 from hf)
    refine J_aload_n 89 rfl dX3_carryOut_88 rfl ?_
    refine J_iload_n 90 rfl dX3_carryOut_89 rfl ?_
    refine J_callVip (As := [_]) 93 _ rfl kalX3_buildEngine lkX3_142 dX3_carryOut_90 (lt_X3 (by first | assumption | exact isH_1 | exact isH_31 | exact isH_61 | exact isH_p (by omega) | exact isH_E (by assumption) (by omega) | exact isH_R (by assumption) | exact isH_K (by assumption) | exact isH_E isH_1 (by omega) | exact isH_R isH_1 | exact isH_K isH_1 | exact isH_R isH_31 | exact isH_K isH_31 | exact isH_E isH_31 (by omega))) (so_X3 (by first | assumption | exact isH_1 | exact isH_31 | exact isH_61 | exact isH_p (by omega) | exact isH_E (by assumption) (by omega) | exact isH_R (by assumption) | exact isH_K (by assumption) | exact isH_E isH_1 (by omega) | exact isH_R isH_1 | exact isH_K isH_1 | exact isH_R isH_31 | exact isH_K isH_31 | exact isH_E isH_31 (by omega))) rfl rfl rfl (by exact Nat.le_of_ble_eq_true rfl) (by omega) (S_X3_buildEngine isH_31 h hw z.1.1 z.1.2 z.2) (fun J90 q90 => ?_)
    refine J_pop 94 rfl dX3_carryOut_93 rfl ?_
    refine J_goto 221 (by decide) dX3_carryOut_94 ?_
    refine J_vret rfl dX3_carryOut_221 ?_
    exact ⟨rfl, q90.1, CP_le q90.2 (by omega)⟩
  · have n0 := hl 0 (by decide)
    have n1 := hl 1 (by decide)
    have n2 := hl 2 (by decide)
    refine J_aload_n 1 rfl dX3_carryOut_0 rfl ?_
    refine J_iload_n 2 rfl dX3_carryOut_1 rfl ?_
    refine J_iconst 3 0 rfl dX3_carryOut_2 ic_0 ?_
    refine J_callVi (As := [_, _]) 6 _ rfl kalX0_numberOf lkX3_94 dX3_carryOut_3 (lt_X0) (so_X0) rfl rfl rfl (by exact Nat.le_of_ble_eq_true rfl) (by omega) (S_X0_numberOf (by omega) (by omega)) ?_
    refine J_cv (b := l 0) n0.1 ?_
    refine J_istore_n 7 rfl dX3_carryOut_6 rfl (Nat.le_of_ble_eq_true rfl) ?_
    refine J_aload_n 8 rfl dX3_carryOut_7 rfl ?_
    refine J_iload_n 9 rfl dX3_carryOut_8 rfl ?_
    refine J_iconst 10 1 rfl dX3_carryOut_9 ic_1 ?_
    refine J_callVi (As := [_, _]) 13 _ rfl kalX0_numberOf lkX3_94 dX3_carryOut_10 (lt_X0) (so_X0) rfl rfl rfl (by exact Nat.le_of_ble_eq_true rfl) (by omega) (S_X0_numberOf (by omega) (by omega)) ?_
    refine J_cv (b := l 1) n1.1 ?_
    refine J_istore 15 rfl dX3_carryOut_13 (Nat.le_of_ble_eq_true rfl) ?_
    refine J_aload_n 16 rfl dX3_carryOut_15 rfl ?_
    refine J_iload_n 17 rfl dX3_carryOut_16 rfl ?_
    refine J_iconst 18 2 rfl dX3_carryOut_17 ic_2 ?_
    refine J_callVi (As := [_, _]) 21 _ rfl kalX0_numberOf lkX3_94 dX3_carryOut_18 (lt_X0) (so_X0) rfl rfl rfl (by exact Nat.le_of_ble_eq_true rfl) (by omega) (S_X0_numberOf (by omega) (by omega)) ?_
    refine J_cv (b := l 2) n2.1 ?_
    refine J_istore 23 rfl dX3_carryOut_21 (Nat.le_of_ble_eq_true rfl) ?_
    refine J_aload_n 24 rfl dX3_carryOut_23 rfl ?_
    refine g_X0_kinds 27 rfl dX3_carryOut_24 lkX3_100 ?_
    refine J_iload_n 28 rfl dX3_carryOut_27 rfl ?_
    refine J_iald 29 rfl dX3_carryOut_28 (sa_X0_kinds) (by omega) ?_
    refine J_cv (b := 1) hK ?_
    refine J_tabIn 97 dX3_carryOut_29 (by omega) (by decide) rfl (by decide) ?_
    have z := fSwap_0 (show fSwap f (l 0) (l 1) (l 2) = 0 from hf)
    have h0 := hw.1
    have e8 := (hw.2.2.2.2.2.1 (l 0) z.1).2.1
    refine J_aload_n 98 rfl dX3_carryOut_97 rfl ?_
    refine g_X3_engines 101 (by first | assumption | exact isH_1 | exact isH_31 | exact isH_61 | exact isH_p (by omega) | exact isH_E (by assumption) (by omega) | exact isH_R (by assumption) | exact isH_K (by assumption) | exact isH_E isH_1 (by omega) | exact isH_R isH_1 | exact isH_K isH_1 | exact isH_R isH_31 | exact isH_K isH_31 | exact isH_E isH_31 (by omega)) rfl dX3_carryOut_98 lkX3_11 ?_
    refine J_iload_n 102 rfl dX3_carryOut_101 rfl ?_
    refine J_aaldE 103 _ rfl dX3_carryOut_102 (by first | assumption | exact isH_1 | exact isH_31 | exact isH_61 | exact isH_p (by omega) | exact isH_E (by assumption) (by omega) | exact isH_R (by assumption) | exact isH_K (by assumption) | exact isH_E isH_1 (by omega) | exact isH_R isH_1 | exact isH_K isH_1 | exact isH_R isH_31 | exact isH_K isH_31 | exact isH_E isH_31 (by omega)) (by omega) ?_
    refine J_iload 105 rfl dX3_carryOut_103 rfl ?_
    refine J_iload 107 rfl dX3_carryOut_105 rfl ?_
    refine J_callVi (As := [_, _]) 110 _ rfl kalX1_swapPlaces lkX3_145 dX3_carryOut_107 (lt_X1 (by first | assumption | exact isH_1 | exact isH_31 | exact isH_61 | exact isH_p (by omega) | exact isH_E (by assumption) (by omega) | exact isH_R (by assumption) | exact isH_K (by assumption) | exact isH_E isH_1 (by omega) | exact isH_R isH_1 | exact isH_K isH_1 | exact isH_R isH_31 | exact isH_K isH_31 | exact isH_E isH_31 (by omega))) (so_X1 (by first | assumption | exact isH_1 | exact isH_31 | exact isH_61 | exact isH_p (by omega) | exact isH_E (by assumption) (by omega) | exact isH_R (by assumption) | exact isH_K (by assumption) | exact isH_E isH_1 (by omega) | exact isH_R isH_1 | exact isH_K isH_1 | exact isH_R isH_31 | exact isH_K isH_31 | exact isH_E isH_31 (by omega))) rfl rfl rfl (by exact Nat.le_of_ble_eq_true rfl) (by omega) (S_X1_swapPlaces (isH_E isH_31 (by omega)) (by omega) (by omega)) ?_
    refine J_pop 111 rfl dX3_carryOut_110 rfl ?_
    refine J_goto 221 (by decide) dX3_carryOut_111 ?_
    refine J_vret rfl dX3_carryOut_221 ?_
    have w := CP_swap h hw z.1 z.2.1 z.2.2
    exact ⟨rfl, w.1, CP_le w.2.1 (by omega)⟩
  · have n0 := hl 0 (by decide)
    have n1 := hl 1 (by decide)
    refine J_aload_n 1 rfl dX3_carryOut_0 rfl ?_
    refine J_iload_n 2 rfl dX3_carryOut_1 rfl ?_
    refine J_iconst 3 0 rfl dX3_carryOut_2 ic_0 ?_
    refine J_callVi (As := [_, _]) 6 _ rfl kalX0_numberOf lkX3_94 dX3_carryOut_3 (lt_X0) (so_X0) rfl rfl rfl (by exact Nat.le_of_ble_eq_true rfl) (by omega) (S_X0_numberOf (by omega) (by omega)) ?_
    refine J_cv (b := l 0) n0.1 ?_
    refine J_istore_n 7 rfl dX3_carryOut_6 rfl (Nat.le_of_ble_eq_true rfl) ?_
    refine J_aload_n 8 rfl dX3_carryOut_7 rfl ?_
    refine J_iload_n 9 rfl dX3_carryOut_8 rfl ?_
    refine J_iconst 10 1 rfl dX3_carryOut_9 ic_1 ?_
    refine J_callVi (As := [_, _]) 13 _ rfl kalX0_numberOf lkX3_94 dX3_carryOut_10 (lt_X0) (so_X0) rfl rfl rfl (by exact Nat.le_of_ble_eq_true rfl) (by omega) (S_X0_numberOf (by omega) (by omega)) ?_
    refine J_cv (b := l 1) n1.1 ?_
    refine J_istore 15 rfl dX3_carryOut_13 (Nat.le_of_ble_eq_true rfl) ?_
    refine J_aload_n 16 rfl dX3_carryOut_15 rfl ?_
    refine J_iload_n 17 rfl dX3_carryOut_16 rfl ?_
    refine J_iconst 18 2 rfl dX3_carryOut_17 ic_2 ?_
    refine J_callVi (As := [_, _]) 21 _ rfl kalX0_numberOf lkX3_94 dX3_carryOut_18 (lt_X0) (so_X0) rfl rfl rfl (by exact Nat.le_of_ble_eq_true rfl) (by omega) (S_X0_numberOf (by omega) (by omega)) ?_
    refine J_istore 23 rfl dX3_carryOut_21 (Nat.le_of_ble_eq_true rfl) ?_
    refine J_aload_n 24 rfl dX3_carryOut_23 rfl ?_
    refine g_X0_kinds 27 rfl dX3_carryOut_24 lkX3_100 ?_
    refine J_iload_n 28 rfl dX3_carryOut_27 rfl ?_
    refine J_iald 29 rfl dX3_carryOut_28 (sa_X0_kinds) (by omega) ?_
    refine J_cv (b := 2) hK ?_
    refine J_tabIn 114 dX3_carryOut_29 (by omega) (by decide) rfl (by decide) ?_
    have z := fRate_0 (show fRate f (l 0) (l 1) = 0 from hf)
    have h0 := hw.1
    refine J_aload_n 115 rfl dX3_carryOut_114 rfl ?_
    refine g_X3_engines 118 (by first | assumption | exact isH_1 | exact isH_31 | exact isH_61 | exact isH_p (by omega) | exact isH_E (by assumption) (by omega) | exact isH_R (by assumption) | exact isH_K (by assumption) | exact isH_E isH_1 (by omega) | exact isH_R isH_1 | exact isH_K isH_1 | exact isH_R isH_31 | exact isH_K isH_31 | exact isH_E isH_31 (by omega)) rfl dX3_carryOut_115 lkX3_11 ?_
    refine J_iload_n 119 rfl dX3_carryOut_118 rfl ?_
    refine J_aaldE 120 _ rfl dX3_carryOut_119 (by first | assumption | exact isH_1 | exact isH_31 | exact isH_61 | exact isH_p (by omega) | exact isH_E (by assumption) (by omega) | exact isH_R (by assumption) | exact isH_K (by assumption) | exact isH_E isH_1 (by omega) | exact isH_R isH_1 | exact isH_K isH_1 | exact isH_R isH_31 | exact isH_K isH_31 | exact isH_E isH_31 (by omega)) (by omega) ?_
    refine J_iload 122 rfl dX3_carryOut_120 rfl ?_
    refine J_callVi (As := [_]) 125 _ rfl kalX1_changeRate lkX3_148 dX3_carryOut_122 (lt_X1 (by first | assumption | exact isH_1 | exact isH_31 | exact isH_61 | exact isH_p (by omega) | exact isH_E (by assumption) (by omega) | exact isH_R (by assumption) | exact isH_K (by assumption) | exact isH_E isH_1 (by omega) | exact isH_R isH_1 | exact isH_K isH_1 | exact isH_R isH_31 | exact isH_K isH_31 | exact isH_E isH_31 (by omega))) (so_X1 (by first | assumption | exact isH_1 | exact isH_31 | exact isH_61 | exact isH_p (by omega) | exact isH_E (by assumption) (by omega) | exact isH_R (by assumption) | exact isH_K (by assumption) | exact isH_E isH_1 (by omega) | exact isH_R isH_1 | exact isH_K isH_1 | exact isH_R isH_31 | exact isH_K isH_31 | exact isH_E isH_31 (by omega))) rfl rfl rfl (by exact Nat.le_of_ble_eq_true rfl) (by omega) (S_X1_changeRate (isH_E isH_31 (by omega))) ?_
    refine J_pop 126 rfl dX3_carryOut_125 rfl ?_
    refine J_goto 221 (by decide) dX3_carryOut_126 ?_
    refine J_vret rfl dX3_carryOut_221 ?_
    have w := CP_rate (s := l 1) h hw z.1
    exact ⟨rfl, w.1, CP_le w.2 (by omega)⟩
  · have n0 := hl 0 (by decide)
    have n1 := hl 1 (by decide)
    refine J_aload_n 1 rfl dX3_carryOut_0 rfl ?_
    refine J_iload_n 2 rfl dX3_carryOut_1 rfl ?_
    refine J_iconst 3 0 rfl dX3_carryOut_2 ic_0 ?_
    refine J_callVi (As := [_, _]) 6 _ rfl kalX0_numberOf lkX3_94 dX3_carryOut_3 (lt_X0) (so_X0) rfl rfl rfl (by exact Nat.le_of_ble_eq_true rfl) (by omega) (S_X0_numberOf (by omega) (by omega)) ?_
    refine J_cv (b := l 0) n0.1 ?_
    refine J_istore_n 7 rfl dX3_carryOut_6 rfl (Nat.le_of_ble_eq_true rfl) ?_
    refine J_aload_n 8 rfl dX3_carryOut_7 rfl ?_
    refine J_iload_n 9 rfl dX3_carryOut_8 rfl ?_
    refine J_iconst 10 1 rfl dX3_carryOut_9 ic_1 ?_
    refine J_callVi (As := [_, _]) 13 _ rfl kalX0_numberOf lkX3_94 dX3_carryOut_10 (lt_X0) (so_X0) rfl rfl rfl (by exact Nat.le_of_ble_eq_true rfl) (by omega) (S_X0_numberOf (by omega) (by omega)) ?_
    refine J_cv (b := l 1) n1.1 ?_
    refine J_istore 15 rfl dX3_carryOut_13 (Nat.le_of_ble_eq_true rfl) ?_
    refine J_aload_n 16 rfl dX3_carryOut_15 rfl ?_
    refine J_iload_n 17 rfl dX3_carryOut_16 rfl ?_
    refine J_iconst 18 2 rfl dX3_carryOut_17 ic_2 ?_
    refine J_callVi (As := [_, _]) 21 _ rfl kalX0_numberOf lkX3_94 dX3_carryOut_18 (lt_X0) (so_X0) rfl rfl rfl (by exact Nat.le_of_ble_eq_true rfl) (by omega) (S_X0_numberOf (by omega) (by omega)) ?_
    refine J_istore 23 rfl dX3_carryOut_21 (Nat.le_of_ble_eq_true rfl) ?_
    refine J_aload_n 24 rfl dX3_carryOut_23 rfl ?_
    refine g_X0_kinds 27 rfl dX3_carryOut_24 lkX3_100 ?_
    refine J_iload_n 28 rfl dX3_carryOut_27 rfl ?_
    refine J_iald 29 rfl dX3_carryOut_28 (sa_X0_kinds) (by omega) ?_
    refine J_cv (b := 3) hK ?_
    refine J_tabIn 129 dX3_carryOut_29 (by omega) (by decide) rfl (by decide) ?_
    have z := fRun_0 (show fRun f (l 0) (l 1) = 0 from hf)
    refine J_aload_n 130 rfl dX3_carryOut_129 rfl ?_
    refine J_iload_n 131 rfl dX3_carryOut_130 rfl ?_
    refine J_iload 133 rfl dX3_carryOut_131 rfl ?_
    refine J_callVip (As := [_, _]) 136 _ rfl kalX3_runEngine lkX3_151 dX3_carryOut_133 (lt_X3 (by first | assumption | exact isH_1 | exact isH_31 | exact isH_61 | exact isH_p (by omega) | exact isH_E (by assumption) (by omega) | exact isH_R (by assumption) | exact isH_K (by assumption) | exact isH_E isH_1 (by omega) | exact isH_R isH_1 | exact isH_K isH_1 | exact isH_R isH_31 | exact isH_K isH_31 | exact isH_E isH_31 (by omega))) (so_X3 (by first | assumption | exact isH_1 | exact isH_31 | exact isH_61 | exact isH_p (by omega) | exact isH_E (by assumption) (by omega) | exact isH_R (by assumption) | exact isH_K (by assumption) | exact isH_E isH_1 (by omega) | exact isH_R isH_1 | exact isH_K isH_1 | exact isH_R isH_31 | exact isH_K isH_31 | exact isH_E isH_31 (by omega))) rfl rfl rfl (by exact Nat.le_of_ble_eq_true rfl) (by omega) (S_X3_runEngine isH_31 h hw z.1 (by omega)) (fun J133 q133 => ?_)
    refine J_pop 137 rfl dX3_carryOut_136 rfl ?_
    refine J_goto 221 (by decide) dX3_carryOut_137 ?_
    refine J_vret rfl dX3_carryOut_221 ?_
    exact ⟨rfl, q133.1, CP_le q133.2 (by omega)⟩
  · have n0 := hl 0 (by decide)
    have n1 := hl 1 (by decide)
    have n2 := hl 2 (by decide)
    refine J_aload_n 1 rfl dX3_carryOut_0 rfl ?_
    refine J_iload_n 2 rfl dX3_carryOut_1 rfl ?_
    refine J_iconst 3 0 rfl dX3_carryOut_2 ic_0 ?_
    refine J_callVi (As := [_, _]) 6 _ rfl kalX0_numberOf lkX3_94 dX3_carryOut_3 (lt_X0) (so_X0) rfl rfl rfl (by exact Nat.le_of_ble_eq_true rfl) (by omega) (S_X0_numberOf (by omega) (by omega)) ?_
    refine J_cv (b := l 0) n0.1 ?_
    refine J_istore_n 7 rfl dX3_carryOut_6 rfl (Nat.le_of_ble_eq_true rfl) ?_
    refine J_aload_n 8 rfl dX3_carryOut_7 rfl ?_
    refine J_iload_n 9 rfl dX3_carryOut_8 rfl ?_
    refine J_iconst 10 1 rfl dX3_carryOut_9 ic_1 ?_
    refine J_callVi (As := [_, _]) 13 _ rfl kalX0_numberOf lkX3_94 dX3_carryOut_10 (lt_X0) (so_X0) rfl rfl rfl (by exact Nat.le_of_ble_eq_true rfl) (by omega) (S_X0_numberOf (by omega) (by omega)) ?_
    refine J_cv (b := l 1) n1.1 ?_
    refine J_istore 15 rfl dX3_carryOut_13 (Nat.le_of_ble_eq_true rfl) ?_
    refine J_aload_n 16 rfl dX3_carryOut_15 rfl ?_
    refine J_iload_n 17 rfl dX3_carryOut_16 rfl ?_
    refine J_iconst 18 2 rfl dX3_carryOut_17 ic_2 ?_
    refine J_callVi (As := [_, _]) 21 _ rfl kalX0_numberOf lkX3_94 dX3_carryOut_18 (lt_X0) (so_X0) rfl rfl rfl (by exact Nat.le_of_ble_eq_true rfl) (by omega) (S_X0_numberOf (by omega) (by omega)) ?_
    refine J_cv (b := l 2) n2.1 ?_
    refine J_istore 23 rfl dX3_carryOut_21 (Nat.le_of_ble_eq_true rfl) ?_
    refine J_aload_n 24 rfl dX3_carryOut_23 rfl ?_
    refine g_X0_kinds 27 rfl dX3_carryOut_24 lkX3_100 ?_
    refine J_iload_n 28 rfl dX3_carryOut_27 rfl ?_
    refine J_iald 29 rfl dX3_carryOut_28 (sa_X0_kinds) (by omega) ?_
    refine J_cv (b := 4) hK ?_
    refine J_tabIn 140 dX3_carryOut_29 (by omega) (by decide) rfl (by decide) ?_
    have z := fOil_0 (show fOil f (l 0) (l 1) (l 2) = 0 from hf)
    refine J_aload_n 141 rfl dX3_carryOut_140 rfl ?_
    refine J_iload_n 142 rfl dX3_carryOut_141 rfl ?_
    refine J_iload 144 rfl dX3_carryOut_142 rfl ?_
    refine J_iload 146 rfl dX3_carryOut_144 rfl ?_
    refine J_callVip (As := [_, _, _]) 149 _ rfl kalX3_giveOil lkX3_154 dX3_carryOut_146 (lt_X3 (by first | assumption | exact isH_1 | exact isH_31 | exact isH_61 | exact isH_p (by omega) | exact isH_E (by assumption) (by omega) | exact isH_R (by assumption) | exact isH_K (by assumption) | exact isH_E isH_1 (by omega) | exact isH_R isH_1 | exact isH_K isH_1 | exact isH_R isH_31 | exact isH_K isH_31 | exact isH_E isH_31 (by omega))) (so_X3 (by first | assumption | exact isH_1 | exact isH_31 | exact isH_61 | exact isH_p (by omega) | exact isH_E (by assumption) (by omega) | exact isH_R (by assumption) | exact isH_K (by assumption) | exact isH_E isH_1 (by omega) | exact isH_R isH_1 | exact isH_K isH_1 | exact isH_R isH_31 | exact isH_K isH_31 | exact isH_E isH_31 (by omega))) rfl rfl rfl (by exact Nat.le_of_ble_eq_true rfl) (by omega) (S_X3_giveOil isH_31 h hw z.1 z.2.1 z.2.2.2.2) (fun J146 q146 => ?_)
    refine J_pop 150 rfl dX3_carryOut_149 rfl ?_
    refine J_goto 221 (by decide) dX3_carryOut_150 ?_
    refine J_vret rfl dX3_carryOut_221 ?_
    exact ⟨rfl, q146.1, CP_le q146.2 (by omega)⟩
  · have n0 := hl 0 (by decide)
    refine J_aload_n 1 rfl dX3_carryOut_0 rfl ?_
    refine J_iload_n 2 rfl dX3_carryOut_1 rfl ?_
    refine J_iconst 3 0 rfl dX3_carryOut_2 ic_0 ?_
    refine J_callVi (As := [_, _]) 6 _ rfl kalX0_numberOf lkX3_94 dX3_carryOut_3 (lt_X0) (so_X0) rfl rfl rfl (by exact Nat.le_of_ble_eq_true rfl) (by omega) (S_X0_numberOf (by omega) (by omega)) ?_
    refine J_cv (b := l 0) n0.1 ?_
    refine J_istore_n 7 rfl dX3_carryOut_6 rfl (Nat.le_of_ble_eq_true rfl) ?_
    refine J_aload_n 8 rfl dX3_carryOut_7 rfl ?_
    refine J_iload_n 9 rfl dX3_carryOut_8 rfl ?_
    refine J_iconst 10 1 rfl dX3_carryOut_9 ic_1 ?_
    refine J_callVi (As := [_, _]) 13 _ rfl kalX0_numberOf lkX3_94 dX3_carryOut_10 (lt_X0) (so_X0) rfl rfl rfl (by exact Nat.le_of_ble_eq_true rfl) (by omega) (S_X0_numberOf (by omega) (by omega)) ?_
    refine J_istore 15 rfl dX3_carryOut_13 (Nat.le_of_ble_eq_true rfl) ?_
    refine J_aload_n 16 rfl dX3_carryOut_15 rfl ?_
    refine J_iload_n 17 rfl dX3_carryOut_16 rfl ?_
    refine J_iconst 18 2 rfl dX3_carryOut_17 ic_2 ?_
    refine J_callVi (As := [_, _]) 21 _ rfl kalX0_numberOf lkX3_94 dX3_carryOut_18 (lt_X0) (so_X0) rfl rfl rfl (by exact Nat.le_of_ble_eq_true rfl) (by omega) (S_X0_numberOf (by omega) (by omega)) ?_
    refine J_istore 23 rfl dX3_carryOut_21 (Nat.le_of_ble_eq_true rfl) ?_
    refine J_aload_n 24 rfl dX3_carryOut_23 rfl ?_
    refine g_X0_kinds 27 rfl dX3_carryOut_24 lkX3_100 ?_
    refine J_iload_n 28 rfl dX3_carryOut_27 rfl ?_
    refine J_iald 29 rfl dX3_carryOut_28 (sa_X0_kinds) (by omega) ?_
    refine J_cv (b := 5) hK ?_
    refine J_tabIn 153 dX3_carryOut_29 (by omega) (by decide) rfl (by decide) ?_
    have z := fFill_0 (show fFill f (l 0) = 0 from hf)
    refine J_aload_n 154 rfl dX3_carryOut_153 rfl ?_
    refine J_iload_n 155 rfl dX3_carryOut_154 rfl ?_
    refine J_callVip (As := [_]) 158 _ rfl kalX3_fillFromStore lkX3_157 dX3_carryOut_155 (lt_X3 (by first | assumption | exact isH_1 | exact isH_31 | exact isH_61 | exact isH_p (by omega) | exact isH_E (by assumption) (by omega) | exact isH_R (by assumption) | exact isH_K (by assumption) | exact isH_E isH_1 (by omega) | exact isH_R isH_1 | exact isH_K isH_1 | exact isH_R isH_31 | exact isH_K isH_31 | exact isH_E isH_31 (by omega))) (so_X3 (by first | assumption | exact isH_1 | exact isH_31 | exact isH_61 | exact isH_p (by omega) | exact isH_E (by assumption) (by omega) | exact isH_R (by assumption) | exact isH_K (by assumption) | exact isH_E isH_1 (by omega) | exact isH_R isH_1 | exact isH_K isH_1 | exact isH_R isH_31 | exact isH_K isH_31 | exact isH_E isH_31 (by omega))) rfl rfl rfl (by exact Nat.le_of_ble_eq_true rfl) (by omega) (S_X3_fillFromStore isH_31 h hw (by omega) z.2.2.2 z.2.2.1) (fun J155 q155 => ?_)
    refine J_pop 159 rfl dX3_carryOut_158 rfl ?_
    refine J_goto 221 (by decide) dX3_carryOut_159 ?_
    refine J_vret rfl dX3_carryOut_221 ?_
    exact ⟨rfl, q155.1, CP_le q155.2 (by omega)⟩
  · have n0 := hl 0 (by decide)
    refine J_aload_n 1 rfl dX3_carryOut_0 rfl ?_
    refine J_iload_n 2 rfl dX3_carryOut_1 rfl ?_
    refine J_iconst 3 0 rfl dX3_carryOut_2 ic_0 ?_
    refine J_callVi (As := [_, _]) 6 _ rfl kalX0_numberOf lkX3_94 dX3_carryOut_3 (lt_X0) (so_X0) rfl rfl rfl (by exact Nat.le_of_ble_eq_true rfl) (by omega) (S_X0_numberOf (by omega) (by omega)) ?_
    refine J_cv (b := l 0) n0.1 ?_
    refine J_istore_n 7 rfl dX3_carryOut_6 rfl (Nat.le_of_ble_eq_true rfl) ?_
    refine J_aload_n 8 rfl dX3_carryOut_7 rfl ?_
    refine J_iload_n 9 rfl dX3_carryOut_8 rfl ?_
    refine J_iconst 10 1 rfl dX3_carryOut_9 ic_1 ?_
    refine J_callVi (As := [_, _]) 13 _ rfl kalX0_numberOf lkX3_94 dX3_carryOut_10 (lt_X0) (so_X0) rfl rfl rfl (by exact Nat.le_of_ble_eq_true rfl) (by omega) (S_X0_numberOf (by omega) (by omega)) ?_
    refine J_istore 15 rfl dX3_carryOut_13 (Nat.le_of_ble_eq_true rfl) ?_
    refine J_aload_n 16 rfl dX3_carryOut_15 rfl ?_
    refine J_iload_n 17 rfl dX3_carryOut_16 rfl ?_
    refine J_iconst 18 2 rfl dX3_carryOut_17 ic_2 ?_
    refine J_callVi (As := [_, _]) 21 _ rfl kalX0_numberOf lkX3_94 dX3_carryOut_18 (lt_X0) (so_X0) rfl rfl rfl (by exact Nat.le_of_ble_eq_true rfl) (by omega) (S_X0_numberOf (by omega) (by omega)) ?_
    refine J_istore 23 rfl dX3_carryOut_21 (Nat.le_of_ble_eq_true rfl) ?_
    refine J_aload_n 24 rfl dX3_carryOut_23 rfl ?_
    refine g_X0_kinds 27 rfl dX3_carryOut_24 lkX3_100 ?_
    refine J_iload_n 28 rfl dX3_carryOut_27 rfl ?_
    refine J_iald 29 rfl dX3_carryOut_28 (sa_X0_kinds) (by omega) ?_
    refine J_cv (b := 6) hK ?_
    refine J_tabIn 162 dX3_carryOut_29 (by omega) (by decide) rfl (by decide) ?_
    have z := fBuy_0 (show fBuy f (l 0) = 0 from hf)
    refine J_aload_n 163 rfl dX3_carryOut_162 rfl ?_
    refine J_iload_n 164 rfl dX3_carryOut_163 rfl ?_
    refine J_callVip (As := [_]) 167 _ rfl kalX3_buyUnits lkX3_160 dX3_carryOut_164 (lt_X3 (by first | assumption | exact isH_1 | exact isH_31 | exact isH_61 | exact isH_p (by omega) | exact isH_E (by assumption) (by omega) | exact isH_R (by assumption) | exact isH_K (by assumption) | exact isH_E isH_1 (by omega) | exact isH_R isH_1 | exact isH_K isH_1 | exact isH_R isH_31 | exact isH_K isH_31 | exact isH_E isH_31 (by omega))) (so_X3 (by first | assumption | exact isH_1 | exact isH_31 | exact isH_61 | exact isH_p (by omega) | exact isH_E (by assumption) (by omega) | exact isH_R (by assumption) | exact isH_K (by assumption) | exact isH_E isH_1 (by omega) | exact isH_R isH_1 | exact isH_K isH_1 | exact isH_R isH_31 | exact isH_K isH_31 | exact isH_E isH_31 (by omega))) rfl rfl rfl (by exact Nat.le_of_ble_eq_true rfl) (by omega) (S_X3_buyUnits isH_31 h hw) (fun J164 q164 => ?_)
    refine J_pop 168 rfl dX3_carryOut_167 rfl ?_
    refine J_goto 221 (by decide) dX3_carryOut_168 ?_
    refine J_vret rfl dX3_carryOut_221 ?_
    exact ⟨rfl, q164.1, CP_le q164.2 (by omega)⟩
  · refine J_aload_n 1 rfl dX3_carryOut_0 rfl ?_
    refine J_iload_n 2 rfl dX3_carryOut_1 rfl ?_
    refine J_iconst 3 0 rfl dX3_carryOut_2 ic_0 ?_
    refine J_callVi (As := [_, _]) 6 _ rfl kalX0_numberOf lkX3_94 dX3_carryOut_3 (lt_X0) (so_X0) rfl rfl rfl (by exact Nat.le_of_ble_eq_true rfl) (by omega) (S_X0_numberOf (by omega) (by omega)) ?_
    refine J_istore_n 7 rfl dX3_carryOut_6 rfl (Nat.le_of_ble_eq_true rfl) ?_
    refine J_aload_n 8 rfl dX3_carryOut_7 rfl ?_
    refine J_iload_n 9 rfl dX3_carryOut_8 rfl ?_
    refine J_iconst 10 1 rfl dX3_carryOut_9 ic_1 ?_
    refine J_callVi (As := [_, _]) 13 _ rfl kalX0_numberOf lkX3_94 dX3_carryOut_10 (lt_X0) (so_X0) rfl rfl rfl (by exact Nat.le_of_ble_eq_true rfl) (by omega) (S_X0_numberOf (by omega) (by omega)) ?_
    refine J_istore 15 rfl dX3_carryOut_13 (Nat.le_of_ble_eq_true rfl) ?_
    refine J_aload_n 16 rfl dX3_carryOut_15 rfl ?_
    refine J_iload_n 17 rfl dX3_carryOut_16 rfl ?_
    refine J_iconst 18 2 rfl dX3_carryOut_17 ic_2 ?_
    refine J_callVi (As := [_, _]) 21 _ rfl kalX0_numberOf lkX3_94 dX3_carryOut_18 (lt_X0) (so_X0) rfl rfl rfl (by exact Nat.le_of_ble_eq_true rfl) (by omega) (S_X0_numberOf (by omega) (by omega)) ?_
    refine J_istore 23 rfl dX3_carryOut_21 (Nat.le_of_ble_eq_true rfl) ?_
    refine J_aload_n 24 rfl dX3_carryOut_23 rfl ?_
    refine g_X0_kinds 27 rfl dX3_carryOut_24 lkX3_100 ?_
    refine J_iload_n 28 rfl dX3_carryOut_27 rfl ?_
    refine J_iald 29 rfl dX3_carryOut_28 (sa_X0_kinds) (by omega) ?_
    refine J_cv (b := 7) hK ?_
    refine J_tabIn 171 dX3_carryOut_29 (by omega) (by decide) rfl (by decide) ?_
    have z := fMonk_0 (show fMonk f = 0 from hf)
    refine J_aload_n 172 rfl dX3_carryOut_171 rfl ?_
    refine J_callVip (As := []) 175 _ rfl kalX3_receiveMonk lkX3_163 dX3_carryOut_172 (lt_X3 (by first | assumption | exact isH_1 | exact isH_31 | exact isH_61 | exact isH_p (by omega) | exact isH_E (by assumption) (by omega) | exact isH_R (by assumption) | exact isH_K (by assumption) | exact isH_E isH_1 (by omega) | exact isH_R isH_1 | exact isH_K isH_1 | exact isH_R isH_31 | exact isH_K isH_31 | exact isH_E isH_31 (by omega))) (so_X3 (by first | assumption | exact isH_1 | exact isH_31 | exact isH_61 | exact isH_p (by omega) | exact isH_E (by assumption) (by omega) | exact isH_R (by assumption) | exact isH_K (by assumption) | exact isH_E isH_1 (by omega) | exact isH_R isH_1 | exact isH_K isH_1 | exact isH_R isH_31 | exact isH_K isH_31 | exact isH_E isH_31 (by omega))) rfl rfl rfl (by exact Nat.le_of_ble_eq_true rfl) (by omega) (S_X3_receiveMonk isH_31 h hw z) (fun J172 q172 => ?_)
    refine J_pop 176 rfl dX3_carryOut_175 rfl ?_
    refine J_goto 221 (by decide) dX3_carryOut_176 ?_
    refine J_vret rfl dX3_carryOut_221 ?_
    exact ⟨rfl, q172.1, CP_le q172.2 (by omega)⟩
  · have n0 := hl 0 (by decide)
    have n1 := hl 1 (by decide)
    refine J_aload_n 1 rfl dX3_carryOut_0 rfl ?_
    refine J_iload_n 2 rfl dX3_carryOut_1 rfl ?_
    refine J_iconst 3 0 rfl dX3_carryOut_2 ic_0 ?_
    refine J_callVi (As := [_, _]) 6 _ rfl kalX0_numberOf lkX3_94 dX3_carryOut_3 (lt_X0) (so_X0) rfl rfl rfl (by exact Nat.le_of_ble_eq_true rfl) (by omega) (S_X0_numberOf (by omega) (by omega)) ?_
    refine J_cv (b := l 0) n0.1 ?_
    refine J_istore_n 7 rfl dX3_carryOut_6 rfl (Nat.le_of_ble_eq_true rfl) ?_
    refine J_aload_n 8 rfl dX3_carryOut_7 rfl ?_
    refine J_iload_n 9 rfl dX3_carryOut_8 rfl ?_
    refine J_iconst 10 1 rfl dX3_carryOut_9 ic_1 ?_
    refine J_callVi (As := [_, _]) 13 _ rfl kalX0_numberOf lkX3_94 dX3_carryOut_10 (lt_X0) (so_X0) rfl rfl rfl (by exact Nat.le_of_ble_eq_true rfl) (by omega) (S_X0_numberOf (by omega) (by omega)) ?_
    refine J_cv (b := l 1) n1.1 ?_
    refine J_istore 15 rfl dX3_carryOut_13 (Nat.le_of_ble_eq_true rfl) ?_
    refine J_aload_n 16 rfl dX3_carryOut_15 rfl ?_
    refine J_iload_n 17 rfl dX3_carryOut_16 rfl ?_
    refine J_iconst 18 2 rfl dX3_carryOut_17 ic_2 ?_
    refine J_callVi (As := [_, _]) 21 _ rfl kalX0_numberOf lkX3_94 dX3_carryOut_18 (lt_X0) (so_X0) rfl rfl rfl (by exact Nat.le_of_ble_eq_true rfl) (by omega) (S_X0_numberOf (by omega) (by omega)) ?_
    refine J_istore 23 rfl dX3_carryOut_21 (Nat.le_of_ble_eq_true rfl) ?_
    refine J_aload_n 24 rfl dX3_carryOut_23 rfl ?_
    refine g_X0_kinds 27 rfl dX3_carryOut_24 lkX3_100 ?_
    refine J_iload_n 28 rfl dX3_carryOut_27 rfl ?_
    refine J_iald 29 rfl dX3_carryOut_28 (sa_X0_kinds) (by omega) ?_
    refine J_cv (b := 8) hK ?_
    refine J_tabIn 179 dX3_carryOut_29 (by omega) (by decide) rfl (by decide) ?_
    have z := fAble_0 (show fAble f (l 0) (l 1) = 0 from hf)
    refine J_aload_n 180 rfl dX3_carryOut_179 rfl ?_
    refine J_iload_n 181 rfl dX3_carryOut_180 rfl ?_
    refine J_iload 183 rfl dX3_carryOut_181 rfl ?_
    refine J_iconst 184 1 rfl dX3_carryOut_183 ic_1 ?_
    refine J_callVip (As := [_, _, _]) 187 _ rfl kalX3_changeAble lkX3_166 dX3_carryOut_184 (lt_X3 (by first | assumption | exact isH_1 | exact isH_31 | exact isH_61 | exact isH_p (by omega) | exact isH_E (by assumption) (by omega) | exact isH_R (by assumption) | exact isH_K (by assumption) | exact isH_E isH_1 (by omega) | exact isH_R isH_1 | exact isH_K isH_1 | exact isH_R isH_31 | exact isH_K isH_31 | exact isH_E isH_31 (by omega))) (so_X3 (by first | assumption | exact isH_1 | exact isH_31 | exact isH_61 | exact isH_p (by omega) | exact isH_E (by assumption) (by omega) | exact isH_R (by assumption) | exact isH_K (by assumption) | exact isH_E isH_1 (by omega) | exact isH_R isH_1 | exact isH_K isH_1 | exact isH_R isH_31 | exact isH_K isH_31 | exact isH_E isH_31 (by omega))) rfl rfl rfl (by exact Nat.le_of_ble_eq_true rfl) (by omega) (S_X3_changeAble isH_31 h hw z.1 z.2 (by omega)) (fun J184 q184 => ?_)
    refine J_pop 188 rfl dX3_carryOut_187 rfl ?_
    refine J_goto 221 (by decide) dX3_carryOut_188 ?_
    refine J_vret rfl dX3_carryOut_221 ?_
    exact ⟨rfl, q184.1, CP_le q184.2 (by omega)⟩
  · have n0 := hl 0 (by decide)
    have n1 := hl 1 (by decide)
    have n2 := hl 2 (by decide)
    refine J_aload_n 1 rfl dX3_carryOut_0 rfl ?_
    refine J_iload_n 2 rfl dX3_carryOut_1 rfl ?_
    refine J_iconst 3 0 rfl dX3_carryOut_2 ic_0 ?_
    refine J_callVi (As := [_, _]) 6 _ rfl kalX0_numberOf lkX3_94 dX3_carryOut_3 (lt_X0) (so_X0) rfl rfl rfl (by exact Nat.le_of_ble_eq_true rfl) (by omega) (S_X0_numberOf (by omega) (by omega)) ?_
    refine J_cv (b := l 0) n0.1 ?_
    refine J_istore_n 7 rfl dX3_carryOut_6 rfl (Nat.le_of_ble_eq_true rfl) ?_
    refine J_aload_n 8 rfl dX3_carryOut_7 rfl ?_
    refine J_iload_n 9 rfl dX3_carryOut_8 rfl ?_
    refine J_iconst 10 1 rfl dX3_carryOut_9 ic_1 ?_
    refine J_callVi (As := [_, _]) 13 _ rfl kalX0_numberOf lkX3_94 dX3_carryOut_10 (lt_X0) (so_X0) rfl rfl rfl (by exact Nat.le_of_ble_eq_true rfl) (by omega) (S_X0_numberOf (by omega) (by omega)) ?_
    refine J_cv (b := l 1) n1.1 ?_
    refine J_istore 15 rfl dX3_carryOut_13 (Nat.le_of_ble_eq_true rfl) ?_
    refine J_aload_n 16 rfl dX3_carryOut_15 rfl ?_
    refine J_iload_n 17 rfl dX3_carryOut_16 rfl ?_
    refine J_iconst 18 2 rfl dX3_carryOut_17 ic_2 ?_
    refine J_callVi (As := [_, _]) 21 _ rfl kalX0_numberOf lkX3_94 dX3_carryOut_18 (lt_X0) (so_X0) rfl rfl rfl (by exact Nat.le_of_ble_eq_true rfl) (by omega) (S_X0_numberOf (by omega) (by omega)) ?_
    refine J_cv (b := l 2) n2.1 ?_
    refine J_istore 23 rfl dX3_carryOut_21 (Nat.le_of_ble_eq_true rfl) ?_
    refine J_aload_n 24 rfl dX3_carryOut_23 rfl ?_
    refine g_X0_kinds 27 rfl dX3_carryOut_24 lkX3_100 ?_
    refine J_iload_n 28 rfl dX3_carryOut_27 rfl ?_
    refine J_iald 29 rfl dX3_carryOut_28 (sa_X0_kinds) (by omega) ?_
    refine J_cv (b := 9) hK ?_
    refine J_tabIn 191 dX3_carryOut_29 (by omega) (by decide) rfl (by decide) ?_
    have z := fMend_0 (show fMend f (l 0) (l 1) (l 2) = 0 from hf)
    refine J_aload_n 192 rfl dX3_carryOut_191 rfl ?_
    refine g_X3_repairs 195 (by first | assumption | exact isH_1 | exact isH_31 | exact isH_61 | exact isH_p (by omega) | exact isH_E (by assumption) (by omega) | exact isH_R (by assumption) | exact isH_K (by assumption) | exact isH_E isH_1 (by omega) | exact isH_R isH_1 | exact isH_K isH_1 | exact isH_R isH_31 | exact isH_K isH_31 | exact isH_E isH_31 (by omega)) rfl dX3_carryOut_192 lkX3_24 ?_
    refine J_iload_n 196 rfl dX3_carryOut_195 rfl ?_
    refine J_iload 198 rfl dX3_carryOut_196 rfl ?_
    refine J_iload 200 rfl dX3_carryOut_198 rfl ?_
    refine J_callVip (As := [_, _, _]) 203 _ rfl kalX8_ask lkX3_170 dX3_carryOut_200 (lt_X8 (by first | assumption | exact isH_1 | exact isH_31 | exact isH_61 | exact isH_p (by omega) | exact isH_E (by assumption) (by omega) | exact isH_R (by assumption) | exact isH_K (by assumption) | exact isH_E isH_1 (by omega) | exact isH_R isH_1 | exact isH_K isH_1 | exact isH_R isH_31 | exact isH_K isH_31 | exact isH_E isH_31 (by omega))) (so_X8 (by first | assumption | exact isH_1 | exact isH_31 | exact isH_61 | exact isH_p (by omega) | exact isH_E (by assumption) (by omega) | exact isH_R (by assumption) | exact isH_K (by assumption) | exact isH_E isH_1 (by omega) | exact isH_R isH_1 | exact isH_K isH_1 | exact isH_R isH_31 | exact isH_K isH_31 | exact isH_E isH_31 (by omega))) rfl rfl rfl (by exact Nat.le_of_ble_eq_true rfl) (by omega) (S_X8_ask (isH_R isH_31) h.1.2.2.1 z.2.2.2.2.2) (fun J200 q200 => ?_)
    refine J_pop 204 rfl dX3_carryOut_203 rfl ?_
    refine J_goto 221 (by decide) dX3_carryOut_204 ?_
    refine J_vret rfl dX3_carryOut_221 ?_
    have w := CP_reps h hw q200.1 (fun i a b => mAsk_out z.2.2.2.2.2 a b) q200.2
    exact ⟨rfl, w.1, CP_le w.2 (by omega)⟩
  · refine J_aload_n 1 rfl dX3_carryOut_0 rfl ?_
    refine J_iload_n 2 rfl dX3_carryOut_1 rfl ?_
    refine J_iconst 3 0 rfl dX3_carryOut_2 ic_0 ?_
    refine J_callVi (As := [_, _]) 6 _ rfl kalX0_numberOf lkX3_94 dX3_carryOut_3 (lt_X0) (so_X0) rfl rfl rfl (by exact Nat.le_of_ble_eq_true rfl) (by omega) (S_X0_numberOf (by omega) (by omega)) ?_
    refine J_istore_n 7 rfl dX3_carryOut_6 rfl (Nat.le_of_ble_eq_true rfl) ?_
    refine J_aload_n 8 rfl dX3_carryOut_7 rfl ?_
    refine J_iload_n 9 rfl dX3_carryOut_8 rfl ?_
    refine J_iconst 10 1 rfl dX3_carryOut_9 ic_1 ?_
    refine J_callVi (As := [_, _]) 13 _ rfl kalX0_numberOf lkX3_94 dX3_carryOut_10 (lt_X0) (so_X0) rfl rfl rfl (by exact Nat.le_of_ble_eq_true rfl) (by omega) (S_X0_numberOf (by omega) (by omega)) ?_
    refine J_istore 15 rfl dX3_carryOut_13 (Nat.le_of_ble_eq_true rfl) ?_
    refine J_aload_n 16 rfl dX3_carryOut_15 rfl ?_
    refine J_iload_n 17 rfl dX3_carryOut_16 rfl ?_
    refine J_iconst 18 2 rfl dX3_carryOut_17 ic_2 ?_
    refine J_callVi (As := [_, _]) 21 _ rfl kalX0_numberOf lkX3_94 dX3_carryOut_18 (lt_X0) (so_X0) rfl rfl rfl (by exact Nat.le_of_ble_eq_true rfl) (by omega) (S_X0_numberOf (by omega) (by omega)) ?_
    refine J_istore 23 rfl dX3_carryOut_21 (Nat.le_of_ble_eq_true rfl) ?_
    refine J_aload_n 24 rfl dX3_carryOut_23 rfl ?_
    refine g_X0_kinds 27 rfl dX3_carryOut_24 lkX3_100 ?_
    refine J_iload_n 28 rfl dX3_carryOut_27 rfl ?_
    refine J_iald 29 rfl dX3_carryOut_28 (sa_X0_kinds) (by omega) ?_
    refine J_cv (b := 10) hK ?_
    refine J_tabIn 207 dX3_carryOut_29 (by omega) (by decide) rfl (by decide) ?_
    have z := fRep_0 (show fRep f = 0 from hf)
    refine J_aload_n 208 rfl dX3_carryOut_207 rfl ?_
    refine J_callVip (As := []) 211 _ rfl kalX3_doFirstRepair lkX3_173 dX3_carryOut_208 (lt_X3 (by first | assumption | exact isH_1 | exact isH_31 | exact isH_61 | exact isH_p (by omega) | exact isH_E (by assumption) (by omega) | exact isH_R (by assumption) | exact isH_K (by assumption) | exact isH_E isH_1 (by omega) | exact isH_R isH_1 | exact isH_K isH_1 | exact isH_R isH_31 | exact isH_K isH_31 | exact isH_E isH_31 (by omega))) (so_X3 (by first | assumption | exact isH_1 | exact isH_31 | exact isH_61 | exact isH_p (by omega) | exact isH_E (by assumption) (by omega) | exact isH_R (by assumption) | exact isH_K (by assumption) | exact isH_E isH_1 (by omega) | exact isH_R isH_1 | exact isH_K isH_1 | exact isH_R isH_31 | exact isH_K isH_31 | exact isH_E isH_31 (by omega))) rfl rfl rfl (by exact Nat.le_of_ble_eq_true rfl) (by omega) (S_X3_doFirstRepair isH_31 h hw z (by omega)) (fun J208 q208 => ?_)
    refine J_pop 212 rfl dX3_carryOut_211 rfl ?_
    refine J_goto 221 (by decide) dX3_carryOut_212 ?_
    refine J_vret rfl dX3_carryOut_221 ?_
    exact ⟨rfl, q208.1, CP_le q208.2 (by omega)⟩
  · have n0 := hl 0 (by decide)
    refine J_aload_n 1 rfl dX3_carryOut_0 rfl ?_
    refine J_iload_n 2 rfl dX3_carryOut_1 rfl ?_
    refine J_iconst 3 0 rfl dX3_carryOut_2 ic_0 ?_
    refine J_callVi (As := [_, _]) 6 _ rfl kalX0_numberOf lkX3_94 dX3_carryOut_3 (lt_X0) (so_X0) rfl rfl rfl (by exact Nat.le_of_ble_eq_true rfl) (by omega) (S_X0_numberOf (by omega) (by omega)) ?_
    refine J_cv (b := l 0) n0.1 ?_
    refine J_istore_n 7 rfl dX3_carryOut_6 rfl (Nat.le_of_ble_eq_true rfl) ?_
    refine J_aload_n 8 rfl dX3_carryOut_7 rfl ?_
    refine J_iload_n 9 rfl dX3_carryOut_8 rfl ?_
    refine J_iconst 10 1 rfl dX3_carryOut_9 ic_1 ?_
    refine J_callVi (As := [_, _]) 13 _ rfl kalX0_numberOf lkX3_94 dX3_carryOut_10 (lt_X0) (so_X0) rfl rfl rfl (by exact Nat.le_of_ble_eq_true rfl) (by omega) (S_X0_numberOf (by omega) (by omega)) ?_
    refine J_istore 15 rfl dX3_carryOut_13 (Nat.le_of_ble_eq_true rfl) ?_
    refine J_aload_n 16 rfl dX3_carryOut_15 rfl ?_
    refine J_iload_n 17 rfl dX3_carryOut_16 rfl ?_
    refine J_iconst 18 2 rfl dX3_carryOut_17 ic_2 ?_
    refine J_callVi (As := [_, _]) 21 _ rfl kalX0_numberOf lkX3_94 dX3_carryOut_18 (lt_X0) (so_X0) rfl rfl rfl (by exact Nat.le_of_ble_eq_true rfl) (by omega) (S_X0_numberOf (by omega) (by omega)) ?_
    refine J_istore 23 rfl dX3_carryOut_21 (Nat.le_of_ble_eq_true rfl) ?_
    refine J_aload_n 24 rfl dX3_carryOut_23 rfl ?_
    refine g_X0_kinds 27 rfl dX3_carryOut_24 lkX3_100 ?_
    refine J_iload_n 28 rfl dX3_carryOut_27 rfl ?_
    refine J_iald 29 rfl dX3_carryOut_28 (sa_X0_kinds) (by omega) ?_
    refine J_cv (b := 11) hK ?_
    refine J_tabOut 215 dX3_carryOut_29 (by omega) (Or.inr (by decide)) (by decide) ?_
    have z := fPass_0 (show fPass (l 0) = 0 from hf)
    refine J_aload_n 216 rfl dX3_carryOut_215 rfl ?_
    refine J_iload_n 217 rfl dX3_carryOut_216 rfl ?_
    refine J_callVip (As := [_]) 220 _ rfl kalX3_passHours lkX3_176 dX3_carryOut_217 (lt_X3 (by first | assumption | exact isH_1 | exact isH_31 | exact isH_61 | exact isH_p (by omega) | exact isH_E (by assumption) (by omega) | exact isH_R (by assumption) | exact isH_K (by assumption) | exact isH_E isH_1 (by omega) | exact isH_R isH_1 | exact isH_K isH_1 | exact isH_R isH_31 | exact isH_K isH_31 | exact isH_E isH_31 (by omega))) (so_X3 (by first | assumption | exact isH_1 | exact isH_31 | exact isH_61 | exact isH_p (by omega) | exact isH_E (by assumption) (by omega) | exact isH_R (by assumption) | exact isH_K (by assumption) | exact isH_E isH_1 (by omega) | exact isH_R isH_1 | exact isH_K isH_1 | exact isH_R isH_31 | exact isH_K isH_31 | exact isH_E isH_31 (by omega))) rfl rfl rfl (by exact Nat.le_of_ble_eq_true rfl) (by omega) (S_X3_passHours isH_31 h hw z.2 (by omega)) (fun J217 q217 => ?_)
    refine J_pop 221 rfl dX3_carryOut_220 rfl ?_
    refine J_vret rfl dX3_carryOut_221 ?_
    exact ⟨rfl, q217.1, CP_le q217.2 (by omega)⟩

