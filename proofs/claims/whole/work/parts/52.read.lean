/-! THE COMMAND TEXT (laid by wip/whole/src/p52.py) -/
/-! the text and its commands, as functions of the characters s and their number n -/
abbrev dgt (s : Nat → Nat) (n p : Nat) : Prop := p < n ∧ (48 ≤ s p ∧ s p ≤ 57)
/-- a number that may have two digits, or one digit: its value, its length -/
def nmV (s : Nat → Nat) (n m p : Nat) : Nat := if m = 1 ∧ dgt s n (p + 1) then (s p - 48) * 10 + (s (p + 1) - 48) else s p - 48
def nmK (s : Nat → Nat) (n m p : Nat) : Nat := if m = 1 ∧ dgt s n (p + 1) then 2 else 1
/-- a form from a place on: whether it fits, where it ends or fails, its numbers -/
def fitF (s : Nat → Nat) (n : Nat) : List Nat → Nat → Bool × Nat × List Nat
  | [], p => (true, p, [])
  | c :: t, p => if c = 35 ∨ c = 37 then
      (if dgt s n p then ((fitF s n t (p + nmK s n (if c = 37 then 1 else 0) p)).1, (fitF s n t (p + nmK s n (if c = 37 then 1 else 0) p)).2.1, nmV s n (if c = 37 then 1 else 0) p :: (fitF s n t (p + nmK s n (if c = 37 then 1 else 0) p)).2.2) else (false, p, []))
    else (if p < n ∧ s p = c then fitF s n t (p + 1) else (false, p, []))
/-- how many numbers a form has -/
def ndF : List Nat → Nat
  | [] => 0
  | c :: t => (if c = 35 ∨ c = 37 then 1 else 0) + ndF t
abbrev fm (k : Nat) : List Nat := chS.getD k []
theorem fm_nd : ∀ k, k < 12 → ndF (chS.getD k []) ≤ 3 := by decide
theorem fm_len : ∀ k, k < 12 → (chS.getD k []).length = lnS.getD k 0 := by decide
theorem drop_c (l : List Nat) (i : Nat) (h : i < l.length) : l.drop i = l.getD i 0 :: l.drop (i + 1) := by
  rw [List.drop_eq_getElem_cons h, List.getD_eq_getElem?_getD, List.getElem?_eq_getElem h]; rfl
theorem nd_drop : ∀ (l : List Nat) (i : Nat), ndF (l.drop i) ≤ ndF l
  | [], i => by simp
  | c :: t, 0 => Nat.le_refl _
  | c :: t, i + 1 => by
    show ndF (t.drop i) ≤ _
    have := nd_drop t i
    simp only [ndF]
    omega
theorem fit_nums {s : Nat → Nat} {n : Nat} : ∀ (l : List Nat) (p : Nat), ((fitF s n l p).2.2.length ≤ ndF l) ∧ ((fitF s n l p).1 = true → (fitF s n l p).2.2.length = ndF l)
  | [], p => ⟨Nat.le_refl _, fun _ => rfl⟩
  | c :: t, p => by
    simp only [fitF, ndF]
    by_cases h : c = 35 ∨ c = 37
    · rw [if_pos h, if_pos h]
      by_cases d : dgt s n p
      · rw [if_pos d]
        have ih := fit_nums (s := s) (n := n) t (p + nmK s n (if c = 37 then 1 else 0) p)
        simp only [List.length_cons]
        exact ⟨by omega, fun z => by have := ih.2 z; omega⟩
      · rw [if_neg d]
        exact ⟨Nat.zero_le _, fun z => by cases z⟩
    · rw [if_neg h, if_neg h]
      by_cases d : p < n ∧ s p = c
      · rw [if_pos d]
        have ih := fit_nums (s := s) (n := n) t (p + 1)
        exact ⟨by omega, fun z => by have := ih.2 z; omega⟩
      · rw [if_neg d]
        exact ⟨Nat.zero_le _, fun z => by cases z⟩
theorem nmV_le {s : Nat → Nat} {n m p : Nat} (h : dgt s n p) : nmV s n m p ≤ 99 := by
  unfold nmV
  split
  · next q => have := q.2.2; have := h.2; omega
  · have := h.2; omega
theorem fit_le {s : Nat → Nat} {n : Nat} : ∀ (l : List Nat) (p : Nat), ∀ x, x ∈ (fitF s n l p).2.2 → x ≤ 99
  | [], p => fun x hx => by cases hx
  | c :: t, p => by
    simp only [fitF]
    by_cases h : c = 35 ∨ c = 37
    · rw [if_pos h]
      by_cases d : dgt s n p
      · rw [if_pos d]
        intro x hx
        rcases List.mem_cons.mp hx with e | e
        · rw [e]; exact nmV_le d
        · exact fit_le t _ x e
      · rw [if_neg d]
        intro x hx
        cases hx
    · rw [if_neg h]
      by_cases d : p < n ∧ s p = c
      · rw [if_pos d]
        exact fit_le t _
      · rw [if_neg d]
        intro x hx
        cases hx
theorem nmK_le {s : Nat → Nat} {n m p : Nat} : nmK s n m p ≤ 2 := by unfold nmK; split <;> omega
theorem nmK_n {s : Nat → Nat} {n m p : Nat} (h : dgt s n p) : p + nmK s n m p ≤ n := by
  have h1 := h.1
  unfold nmK
  split
  · next q => have := q.2.1; omega
  · omega
theorem fit_at {s : Nat → Nat} {n : Nat} : ∀ (l : List Nat) (p : Nat), p ≤ (fitF s n l p).2.1 ∧ (p ≤ n → (fitF s n l p).2.1 ≤ n) ∧ (fitF s n l p).2.1 ≤ p + 2 * l.length
  | [], p => ⟨Nat.le_refl _, fun h => h, Nat.le_refl _⟩
  | c :: t, p => by
    simp only [fitF, List.length_cons]
    by_cases h : c = 35 ∨ c = 37
    · rw [if_pos h]
      by_cases d : dgt s n p
      · rw [if_pos d]
        have k2 := nmK_le (s := s) (n := n) (m := if c = 37 then 1 else 0) (p := p)
        have kn := nmK_n (m := if c = 37 then 1 else 0) d
        have ih := fit_at (s := s) (n := n) t (p + nmK s n (if c = 37 then 1 else 0) p)
        dsimp only
        exact ⟨by omega, fun _ => ih.2.1 kn, by omega⟩
      · rw [if_neg d]
        dsimp only
        exact ⟨Nat.le_refl _, fun h => h, by omega⟩
    · rw [if_neg h]
      by_cases d : p < n ∧ s p = c
      · rw [if_pos d]
        have ih := fit_at (s := s) (n := n) t (p + 1)
        exact ⟨by omega, fun _ => ih.2.1 (by omega), by omega⟩
      · rw [if_neg d]
        dsimp only
        exact ⟨Nat.le_refl _, fun h => h, by omega⟩
/-- the furthest place that a form of the first k reaches -/
def furN (s : Nat → Nat) (n a : Nat) : Nat → Nat
  | 0 => a
  | k + 1 => max (furN s n a k) (fitF s n (fm k) a).2.1
theorem furN_le {s : Nat → Nat} {n a : Nat} (ha : a ≤ n) : ∀ k, a ≤ furN s n a k ∧ furN s n a k ≤ n
  | 0 => ⟨Nat.le_refl _, ha⟩
  | k + 1 => by
    have ih := furN_le (s := s) ha k
    have f := (fit_at (s := s) (n := n) (fm k) a).2.1 ha
    simp only [furN]
    omega
/-- the first kind of command that fits, or 12 -/
def ckN (s : Nat → Nat) (n a : Nat) : Nat := fstN (fun k => (fitF s n (fm k) a).1) 12
/-- the commands of the text from a place on: 4294967295 or the error position, and what was read -/
def prsN (s : Nat → Nat) (n : Nat) : Nat → Nat → Nat × List (Nat × List Nat)
  | 0, a => (a, [])
  | k + 1, a => if ckN s n a = 12 then (furN s n a 12, []) else
      (if n ≤ (fitF s n (fm (ckN s n a)) a).2.1 then (4294967295, [(ckN s n a, (fitF s n (fm (ckN s n a)) a).2.2)])
      else if s (fitF s n (fm (ckN s n a)) a).2.1 ≠ 59 then ((fitF s n (fm (ckN s n a)) a).2.1, [(ckN s n a, (fitF s n (fm (ckN s n a)) a).2.2)])
      else ((prsN s n k ((fitF s n (fm (ckN s n a)) a).2.1 + 1)).1, (ckN s n a, (fitF s n (fm (ckN s n a)) a).2.2) :: (prsN s n k ((fitF s n (fm (ckN s n a)) a).2.1 + 1)).2))
def TX (J : DJ) (s : Nat → Nat) (n : Nat) : Prop := J 345 = s ∧ J 344 1 = n ∧ n ≤ 60 ∧ ∀ i, i < n → 32 ≤ s i ∧ s i ≤ 126
/-- reading changes these alone -/
def Rd (J J2 : DJ) : Prop := (∀ c, c < 344 ∨ c = 345 ∨ 348 ≤ c → J2 c = J c) ∧ J2 344 1 = J 344 1
theorem Rd.refl {J : DJ} : Rd J J := ⟨fun _ _ => rfl, rfl⟩
theorem Rd.trans {J J1 J2 : DJ} (h : Rd J J1) (h2 : Rd J1 J2) : Rd J J2 := ⟨fun c hc => (h2.1 c hc).trans (h.1 c hc), h2.2.trans h.2⟩
theorem Rd.tx {J J2 : DJ} {s : Nat → Nat} {n : Nat} (h : Rd J J2) (t : TX J s n) : TX J2 s n := ⟨by rw [h.1 345 (by omega)]; exact t.1, by rw [h.2]; exact t.2.1, t.2.2⟩
theorem fstN_le (p : Nat → Bool) : ∀ n, fstN p n ≤ n
  | 0 => Nat.le_refl _
  | n + 1 => by
    have := fstN_le p n
    simp only [fstN]
    split
    · omega
    · split <;> omega

theorem S_X0_hasRoom {g : Gn} {J : DJ} {s : Nat → Nat} {n : Nat} (t : TX J s n) : SJ g mX0_hasRoom 0 0 0 [.ref (g.2 344)] J (Ri (bt (n < 60)) J) NoX := by
  obtain ⟨t5, t1, tn, tc⟩ := t
  refine SJ_of_VJ (by decide +kernel) (Nat.le_of_ble_eq_true rfl) ?_
  show VJ g mX0_hasRoom 0 0 0 _ _ 0 [(0, .ref (g.2 344))] [] J
  refine J_aload_n 1 rfl dX0_hasRoom_0 rfl ?_
  refine g_X0_length 4 rfl dX0_hasRoom_1 lkX0_22 ?_
  refine J_cv (b := n) t1 ?_
  refine J_bipush 6 60 rfl dX0_hasRoom_4 bc_60 ?_
  refine J_icmp_ge 13 9 (by decide) rfl dX0_hasRoom_6 (by omega) (by omega) (fun c6 => ?_) (fun c6 => ?_)
  · refine J_iconst 14 0 rfl dX0_hasRoom_13 ic_0 ?_
    refine J_zret0 rfl dX0_hasRoom_14 ?_
    first
      | exact ⟨by rw [bt_t (by omega)], rfl⟩
      | exact ⟨by rw [bt_f (by omega)], rfl⟩
  · refine J_iconst 10 1 rfl dX0_hasRoom_9 ic_1 ?_
    refine J_goto 14 (by decide) dX0_hasRoom_10 ?_
    refine J_zret1 rfl dX0_hasRoom_14 ?_
    first
      | exact ⟨by rw [bt_t (by omega)], rfl⟩
      | exact ⟨by rw [bt_f (by omega)], rfl⟩

theorem S_X0_add {g : Gn} {J : DJ} {s : Nat → Nat} {n c : Nat} (t : TX J s n) (hn : n < 60) (hc : c < 65536) : SJ g mX0_add 0 0 0 [.ref (g.2 344), .int (nI (c))] J (Ri (n + 1) (up2 (up2 J 345 n c) 344 1 (n + 1))) NoX := by
  obtain ⟨t5, t1, tn, tc⟩ := t
  refine SJ_of_VJ (by decide +kernel) (Nat.le_of_ble_eq_true rfl) ?_
  show VJ g mX0_add 0 0 0 _ _ 0 [(0, .ref (g.2 344)), (1, .int (nI (c)))] [] J
  refine J_aload_n 1 rfl dX0_add_0 rfl ?_
  refine g_X0_characters 4 rfl dX0_add_1 lkX0_11 ?_
  refine J_aload_n 5 rfl dX0_add_4 rfl ?_
  refine g_X0_length 8 rfl dX0_add_5 lkX0_22 ?_
  refine J_cv (b := n) t1 ?_
  refine J_iload_n 9 rfl dX0_add_8 rfl ?_
  refine J_cast 10 rfl dX0_add_9 (sa_X0_characters) (by omega) hc ?_
  refine J_aload_n 11 rfl dX0_add_10 rfl ?_
  refine J_dup 12 rfl dX0_add_11 rfl ?_
  refine g_X0_length 15 rfl dX0_add_12 lkX0_22 ?_
  refine J_cv (b := n) (by rw [up2_ne (by omega)]; exact t1) ?_
  refine J_iconst 16 1 rfl dX0_add_15 ic_1 ?_
  refine J_iadd 17 rfl dX0_add_16 ?_
  refine p_X0_length 20 rfl dX0_add_17 lkX0_22 ?_
  refine J_aload_n 21 rfl dX0_add_20 rfl ?_
  refine g_X0_length 24 rfl dX0_add_21 lkX0_22 ?_
  refine J_cv (b := n + 1) (by rw [up2_app, if_pos ⟨rfl, rfl⟩]) ?_
  refine J_iret rfl dX0_add_24 ?_
  exact ⟨rfl, rfl⟩

theorem S_X0_empty {g : Gn} {J : DJ} : SJ g mX0_empty 0 0 0 [.ref (g.2 344)] J (Rv (up2 J 344 1 0)) NoX := by
  refine SJ_of_VJ (by decide +kernel) (Nat.le_of_ble_eq_true rfl) ?_
  show VJ g mX0_empty 0 0 0 _ _ 0 [(0, .ref (g.2 344))] [] J
  refine J_aload_n 1 rfl dX0_empty_0 rfl ?_
  refine J_iconst 2 0 rfl dX0_empty_1 ic_0 ?_
  refine p_X0_length 5 rfl dX0_empty_2 lkX0_22 ?_
  refine J_vret rfl dX0_empty_5 ?_
  exact ⟨rfl, rfl⟩

theorem S_X0_numberOf {g : Gn} {J : DJ} {c j : Nat} (hc : c < 13) (hj : j < 3) : SJ g mX0_numberOf 0 0 0 [.ref (g.2 344), .int (nI (c)), .int (nI (j))] J (Ri (J 347 (c * 3 + j)) J) NoX := by
  refine SJ_of_VJ (by decide +kernel) (Nat.le_of_ble_eq_true rfl) ?_
  show VJ g mX0_numberOf 0 0 0 _ _ 0 [(0, .ref (g.2 344)), (1, .int (nI (c))), (2, .int (nI (j)))] [] J
  refine J_aload_n 1 rfl dX0_numberOf_0 rfl ?_
  refine g_X0_numbers 4 rfl dX0_numberOf_1 lkX0_19 ?_
  refine J_iload_n 5 rfl dX0_numberOf_4 rfl ?_
  refine J_iconst 6 3 rfl dX0_numberOf_5 ic_3 ?_
  refine J_imul 7 rfl dX0_numberOf_6 ?_
  refine J_iload_n 8 rfl dX0_numberOf_7 rfl ?_
  refine J_iadd 9 rfl dX0_numberOf_8 ?_
  refine J_iald 10 rfl dX0_numberOf_9 (sa_X0_numbers) (by omega) ?_
  refine J_iret rfl dX0_numberOf_10 ?_
  exact ⟨rfl, rfl⟩

theorem S_X0_isDigit {g : Gn} {J : DJ} {s : Nat → Nat} {n p : Nat} (t : TX J s n) (hp : p < 1000) : SJ g mX0_isDigit 1 0 0 [.ref (g.2 344), .int (nI (p))] J (Ri (bt (dgt s n p)) J) NoX := by
  obtain ⟨t5, t1, tn, tc⟩ := t
  have tp : p < n → J 345 p = s p := fun _ => by rw [t5]
  have sp : p < n → s p ≤ 126 := fun h => (tc p h).2
  refine SJ_of_VJ (by decide +kernel) (Nat.le_of_ble_eq_true rfl) ?_
  show VJ g mX0_isDigit 1 0 0 _ _ 0 [(0, .ref (g.2 344)), (1, .int (nI (p)))] [] J
  refine J_iload_n 1 rfl dX0_isDigit_0 rfl ?_
  refine J_aload_n 2 rfl dX0_isDigit_1 rfl ?_
  refine g_X0_length 5 rfl dX0_isDigit_2 lkX0_22 ?_
  refine J_cv (b := n) t1 ?_
  refine J_icmp_ge 28 8 (by decide) rfl dX0_isDigit_5 (by omega) (by omega) (fun c5 => ?_) (fun c5 => ?_)
  · refine J_iconst 29 0 rfl dX0_isDigit_28 ic_0 ?_
    refine J_zret0 rfl dX0_isDigit_29 ?_
    first
      | exact ⟨by rw [bt_t ⟨by omega, by omega, by omega⟩], rfl⟩
      | exact ⟨by rw [bt_f (fun z => by have := sp z.1; omega)], rfl⟩
  · refine J_aload_n 9 rfl dX0_isDigit_8 rfl ?_
    refine g_X0_characters 12 rfl dX0_isDigit_9 lkX0_11 ?_
    refine J_iload_n 13 rfl dX0_isDigit_12 rfl ?_
    refine J_cald 14 rfl dX0_isDigit_13 (sa_X0_characters) (by omega) ?_
    refine J_cv (b := s p) (tp (by omega)) ?_
    refine J_bipush 16 48 rfl dX0_isDigit_14 bc_48 ?_
    refine J_bipush 18 57 rfl dX0_isDigit_16 bc_57 ?_
    refine J_callSNi (As := [_, _, _]) (host := "EngineMonastery") 21 rfl kalX10_isWithin (by decide) dX0_isDigit_18 rfl rfl (by exact Nat.le_of_ble_eq_true rfl) (by omega) (S_within_le (by have := sp (by omega); omega) (by omega) (by omega)) ?_
    refine J_ifb_eq (hdp := _) 28 24 (by decide) rfl dX0_isDigit_21 (fun c21 => ?_) (fun c21 => ?_)
    · refine J_iconst 29 0 rfl dX0_isDigit_28 ic_0 ?_
      refine J_zret0 rfl dX0_isDigit_29 ?_
      first
        | exact ⟨by rw [bt_t ⟨by omega, by omega, by omega⟩], rfl⟩
        | exact ⟨by rw [bt_f (fun z => by have := sp z.1; omega)], rfl⟩
    · refine J_iconst 25 1 rfl dX0_isDigit_24 ic_1 ?_
      refine J_goto 29 (by decide) dX0_isDigit_25 ?_
      refine J_zret1 rfl dX0_isDigit_29 ?_
      first
        | exact ⟨by rw [bt_t ⟨by omega, by omega, by omega⟩], rfl⟩
        | exact ⟨by rw [bt_f (fun z => by have := sp z.1; omega)], rfl⟩

theorem S_X0_readNumber {g : Gn} {J : DJ} {s : Nat → Nat} {n p m : Nat} (t : TX J s n) (hp : J 344 5 = p) (hm : m < 2) (hd : dgt s n p) : SJ g mX0_readNumber 2 0 0 [.ref (g.2 344), .int (nI (m))] J (Ri (nmV s n m p) (up2 J 344 5 (p + nmK s n m p))) NoX := by
  have tt := t
  obtain ⟨t5, t1, tn, tc⟩ := t
  have h1 := hd.1
  have h2 := hd.2.1
  have h3 := hd.2.2
  have tp : ∀ q, J 345 q = s q := fun _ => by rw [t5]
  refine SJ_of_VJ (by decide +kernel) (Nat.le_of_ble_eq_true rfl) ?_
  show VJ g mX0_readNumber 2 0 0 _ _ 0 [(0, .ref (g.2 344)), (1, .int (nI (m)))] [] J
  refine J_aload_n 1 rfl dX0_readNumber_0 rfl ?_
  refine g_X0_characters 4 rfl dX0_readNumber_1 lkX0_11 ?_
  refine J_aload_n 5 rfl dX0_readNumber_4 rfl ?_
  refine g_X0_at 8 rfl dX0_readNumber_5 lkX0_33 ?_
  refine J_cv (b := p) hp ?_
  refine J_cald 9 rfl dX0_readNumber_8 (sa_X0_characters) (by omega) ?_
  refine J_cv (b := s p) (tp p) ?_
  refine J_bipush 11 48 rfl dX0_readNumber_9 bc_48 ?_
  refine J_isub 12 rfl dX0_readNumber_11 (by omega) ?_
  refine J_istore_n 13 rfl dX0_readNumber_12 rfl (Nat.le_of_ble_eq_true rfl) ?_
  refine J_aload_n 14 rfl dX0_readNumber_13 rfl ?_
  refine J_dup 15 rfl dX0_readNumber_14 rfl ?_
  refine g_X0_at 18 rfl dX0_readNumber_15 lkX0_33 ?_
  refine J_cv (b := p) hp ?_
  refine J_iconst 19 1 rfl dX0_readNumber_18 ic_1 ?_
  refine J_iadd 20 rfl dX0_readNumber_19 ?_
  refine p_X0_at 23 rfl dX0_readNumber_20 lkX0_33 ?_
  refine J_iload_n 24 rfl dX0_readNumber_23 rfl ?_
  refine J_if_eq 66 27 (by decide) rfl dX0_readNumber_24 (by omega) (fun c24 => ?_) (fun c24 => ?_)
  · refine J_iload_n 67 rfl dX0_readNumber_66 rfl ?_
    refine J_iret rfl dX0_readNumber_67 ?_
    unfold nmV nmK
    first
      | (rw [if_pos ⟨by omega, by assumption⟩, if_pos ⟨by omega, by assumption⟩]
         refine ⟨rfl, ?_⟩
         rw [up2_sR _ 344 5, up2_sR _ 344 5, sR_sR, sR_at, up1_up1, up2_sR _ 344 5]; done)
      | (rw [if_neg (fun z => by first | omega | exact absurd z.2 (by assumption)), if_neg (fun z => by first | omega | exact absurd z.2 (by assumption))]; exact ⟨rfl, rfl⟩)
  · refine J_aload_n 28 rfl dX0_readNumber_27 rfl ?_
    refine J_aload_n 29 rfl dX0_readNumber_28 rfl ?_
    refine g_X0_at 32 rfl dX0_readNumber_29 lkX0_33 ?_
    refine J_cv (b := p + 1) (by rw [up2_app, if_pos ⟨rfl, rfl⟩]) ?_
    refine J_callVi (As := [_]) 35 _ rfl kalX0_isDigit lkX0_58 dX0_readNumber_32 (lt_X0) (so_X0) rfl rfl rfl (by exact Nat.le_of_ble_eq_true rfl) (by omega) (S_X0_isDigit (J := up2 J 344 5 (p + 1)) (s := s) (n := n) ⟨by rw [up2_ne (by omega)]; exact t5, by rw [up2_app, if_neg (by omega)]; exact t1, tn, tc⟩ (by omega)) ?_
    refine J_ifb_eq (hdp := _) 66 38 (by decide) rfl dX0_readNumber_35 (fun c35 => ?_) (fun c35 => ?_)
    · refine J_iload_n 67 rfl dX0_readNumber_66 rfl ?_
      refine J_iret rfl dX0_readNumber_67 ?_
      unfold nmV nmK
      first
        | (rw [if_pos ⟨by omega, by assumption⟩, if_pos ⟨by omega, by assumption⟩]
           refine ⟨rfl, ?_⟩
           rw [up2_sR _ 344 5, up2_sR _ 344 5, sR_sR, sR_at, up1_up1, up2_sR _ 344 5]; done)
        | (rw [if_neg (fun z => by first | omega | exact absurd z.2 (by assumption)), if_neg (fun z => by first | omega | exact absurd z.2 (by assumption))]; exact ⟨rfl, rfl⟩)
    · refine J_iload_n 39 rfl dX0_readNumber_38 rfl ?_
      refine J_bipush 41 10 rfl dX0_readNumber_39 bc_10 ?_
      refine J_imul 42 rfl dX0_readNumber_41 ?_
      refine J_aload_n 43 rfl dX0_readNumber_42 rfl ?_
      refine g_X0_characters 46 rfl dX0_readNumber_43 lkX0_11 ?_
      refine J_aload_n 47 rfl dX0_readNumber_46 rfl ?_
      refine g_X0_at 50 rfl dX0_readNumber_47 lkX0_33 ?_
      refine J_cv (b := p + 1) (by rw [up2_app, if_pos ⟨rfl, rfl⟩]) ?_
      refine J_cald 51 rfl dX0_readNumber_50 (sa_X0_characters) (by have := c35.1; omega) ?_
      refine J_cv (b := s (p + 1)) (by rw [up2_ne (by omega)]; exact tp _) ?_
      refine J_bipush 53 48 rfl dX0_readNumber_51 bc_48 ?_
      refine J_isub 54 rfl dX0_readNumber_53 (by have := c35.2.1; omega) ?_
      refine J_iadd 55 rfl dX0_readNumber_54 ?_
      refine J_istore_n 56 rfl dX0_readNumber_55 rfl (Nat.le_of_ble_eq_true rfl) ?_
      refine J_aload_n 57 rfl dX0_readNumber_56 rfl ?_
      refine J_dup 58 rfl dX0_readNumber_57 rfl ?_
      refine g_X0_at 61 rfl dX0_readNumber_58 lkX0_33 ?_
      refine J_cv (b := p + 1) (by rw [up2_app, if_pos ⟨rfl, rfl⟩]) ?_
      refine J_iconst 62 1 rfl dX0_readNumber_61 ic_1 ?_
      refine J_iadd 63 rfl dX0_readNumber_62 ?_
      refine p_X0_at 66 rfl dX0_readNumber_63 lkX0_33 ?_
      refine J_iload_n 67 rfl dX0_readNumber_66 rfl ?_
      refine J_iret rfl dX0_readNumber_67 ?_
      unfold nmV nmK
      first
        | (rw [if_pos ⟨by omega, by assumption⟩, if_pos ⟨by omega, by assumption⟩]
           refine ⟨rfl, ?_⟩
           rw [up2_sR _ 344 5, up2_sR _ 344 5, sR_sR, sR_at, up1_up1, up2_sR _ 344 5]; done)
        | (rw [if_neg (fun z => by first | omega | exact absurd z.2 (by assumption)), if_neg (fun z => by first | omega | exact absurd z.2 (by assumption))]; exact ⟨rfl, rfl⟩)

theorem S_X0_fits_loop {g : Gn} {s : Nat → Nat} {n k w0 : Nat} (hk : k < 12) : ∀ (r : Nat) (i w p : Nat) (J : DJ), (chS.getD k []).length - i = r → i ≤ (chS.getD k []).length → TX J s n → J 344 5 = p → p ≤ n → w + ndF ((chS.getD k []).drop i) ≤ 39 → VJ g mX0_fits 5 0 0 (fun v J2 => v = some (.int (nI (bt ((fitF s n ((chS.getD k []).drop i) p).1 = true)))) ∧ J2 344 5 = (fitF s n ((chS.getD k []).drop i) p).2.1 ∧ Rd J J2 ∧ J2 346 = J 346 ∧ (∀ j, j < (fitF s n ((chS.getD k []).drop i) p).2.2.length → J2 347 (w + j) = (fitF s n ((chS.getD k []).drop i) p).2.2.getD j 0) ∧ ∀ j, j < w → J2 347 j = J 347 j) NoX 5 [(0, .ref (g.2 344)), (1, .ref (kS g.1 k)), (2, .int (nI w0)), (3, .int (nI w)), (4, .int (nI i))] [] J := by
  intro r
  induction r using Nat.strongRecOn with
  | ind r ih =>
    intro i w p J hr hi t hp hpn hw
    have tt := t
    obtain ⟨t5, t1, tn, tc⟩ := t
    have tp : ∀ q, J 345 q = s q := fun _ => by rw [t5]
    have len := fm_len k hk
    have l100 := lnS_lt k hk
    have dig : (chS.getD k []).drop i = (chS.getD k []).getD i 0 :: (chS.getD k []).drop (i + 1) → (chS.getD k []).getD i 0 < 128 → ((chS.getD k []).getD i 0 = 35 ∨ (chS.getD k []).getD i 0 = 37) → VJ g mX0_fits 5 0 0 (fun v J2 => v = some (.int (nI (bt ((fitF s n ((chS.getD k []).drop i) p).1 = true)))) ∧ J2 344 5 = (fitF s n ((chS.getD k []).drop i) p).2.1 ∧ Rd J J2 ∧ J2 346 = J 346 ∧ (∀ j, j < (fitF s n ((chS.getD k []).drop i) p).2.2.length → J2 347 (w + j) = (fitF s n ((chS.getD k []).drop i) p).2.2.getD j 0) ∧ ∀ j, j < w → J2 347 j = J 347 j) NoX 36 [(0, .ref (g.2 344)), (1, .ref (kS g.1 k)), (2, .int (nI w0)), (3, .int (nI w)), (4, .int (nI i)), (5, .int (nI ((chS.getD k []).getD i 0)))] [] J := by
      intro ce cl ch
      have hi2 : i < (chS.getD k []).length := by
        refine Classical.byContradiction (fun q => ?_)
        rw [List.drop_of_length_le (by omega)] at ce
        cases ce
      have nd : ndF ((chS.getD k []).drop i) = 1 + ndF ((chS.getD k []).drop (i + 1)) := by rw [ce]; simp only [ndF]; rw [if_pos ch]
      have st35 : fitF s n ((chS.getD k []).drop i) p = if dgt s n p then ((fitF s n ((chS.getD k []).drop (i + 1)) (p + nmK s n (if (chS.getD k []).getD i 0 = 37 then 1 else 0) p)).1, (fitF s n ((chS.getD k []).drop (i + 1)) (p + nmK s n (if (chS.getD k []).getD i 0 = 37 then 1 else 0) p)).2.1, nmV s n (if (chS.getD k []).getD i 0 = 37 then 1 else 0) p :: (fitF s n ((chS.getD k []).drop (i + 1)) (p + nmK s n (if (chS.getD k []).getD i 0 = 37 then 1 else 0) p)).2.2) else (false, p, []) := by
        rw [ce]
        simp only [fitF]
        rw [if_pos ch]
      have kont : dgt s n p → ∀ (mm : Nat), mm < 2 → mm = (if (chS.getD k []).getD i 0 = 37 then 1 else 0) → VJ g mX0_fits 5 0 0 (fun v J2 => v = some (.int (nI (bt ((fitF s n ((chS.getD k []).drop i) p).1 = true)))) ∧ J2 344 5 = (fitF s n ((chS.getD k []).drop i) p).2.1 ∧ Rd J J2 ∧ J2 346 = J 346 ∧ (∀ j, j < (fitF s n ((chS.getD k []).drop i) p).2.2.length → J2 347 (w + j) = (fitF s n ((chS.getD k []).drop i) p).2.2.getD j 0) ∧ ∀ j, j < w → J2 347 j = J 347 j) NoX 67 [(0, .ref (g.2 344)), (1, .ref (kS g.1 k)), (2, .int (nI w0)), (3, .int (nI w)), (4, .int (nI i)), (5, .int (nI ((chS.getD k []).getD i 0)))] [.int (nI mm), .ref (g.2 344), .int (nI w), .ref (g.2 347)] J := by
        intro hd9 mm hm2 hmm
        refine J_callVi (As := [_]) 70 _ rfl kalX0_readNumber lkX0_62 dX0_fits_67 (lt_X0) (so_X0) rfl rfl rfl (by exact Nat.le_of_ble_eq_true rfl) (by omega) (S_X0_readNumber tt hp hm2 hd9) ?_
        refine J_iast 71 rfl dX0_fits_70 sa_X0_numbers (by omega) ?_
        refine J_iinc 74 1 rfl dX0_fits_71 ic_1 rfl (Nat.le_of_ble_eq_true rfl) ?_
        refine J_goto 114 (by decide) dX0_fits_74 ?_
        refine J_iinc 117 1 rfl dX0_fits_114 ic_1 rfl (Nat.le_of_ble_eq_true rfl) ?_
        refine J_goto 5 (by decide) dX0_fits_117 ?_
        refine J_keep [0, 1, 2, 3, 4] ?_
        refine VJ_mono (ih _ (by omega) (i + 1) (w + 1) (p + nmK s n mm p) (up2 (up2 J 344 5 (p + nmK s n mm p)) 347 w (nmV s n mm p)) rfl (by omega) ⟨by rw [up2_ne (by omega), up2_ne (by omega)]; exact t5, by rw [up2_ne (by omega), up2_app, if_neg (by omega)]; exact t1, tn, tc⟩ (by rw [up2_ne (by omega), up2_app, if_pos ⟨rfl, rfl⟩]) (by
          unfold nmK
          split
          · next q => have := q.2.1; omega
          · have := hd9.1; omega) (by omega)) ?_ (fun _ _ q => q)
        rintro v J2 ⟨z1, z2, z3, z4, z5, z6⟩
        rw [st35, if_pos hd9, ← hmm]
        refine ⟨z1, z2, Rd.trans ⟨fun c hc => by rw [up2_ne (by omega), up2_ne (by omega)], by rw [up2_ne (by omega), up2_app, if_neg (by omega)]⟩ z3, by rw [z4, up2_ne (by omega), up2_ne (by omega)], fun j hj => ?_, fun j hj => by rw [z6 j (by omega), up2_app, if_neg (by omega), up2_ne (by omega)]⟩
        cases j with
        | zero =>
          rw [Nat.add_zero, z6 w (by omega), up2_app, if_pos ⟨rfl, rfl⟩]
          rfl
        | succ j =>
          simp only [List.length_cons] at hj
          rw [show w + (j + 1) = w + 1 + j by omega, z5 j (by omega)]
          rfl
      refine J_aload_n 37 rfl dX0_fits_36 rfl ?_
      refine J_aload_n 38 rfl dX0_fits_37 rfl ?_
      refine g_X0_at 41 rfl dX0_fits_38 lkX0_33 ?_
      refine J_cv (b := p) hp ?_
      refine J_callVi (As := [_]) 44 _ rfl kalX0_isDigit lkX0_58 dX0_fits_41 (lt_X0) (so_X0) rfl rfl rfl (by exact Nat.le_of_ble_eq_true rfl) (by omega) (S_X0_isDigit tt (by omega)) ?_
      refine J_ifb_ne (hdp := _) 49 47 (by decide) rfl dX0_fits_44 (fun c44 => ?_) (fun c44 => ?_)
      · refine J_aload_n 50 rfl dX0_fits_49 rfl ?_
        refine g_X0_numbers 53 rfl dX0_fits_50 lkX0_19 ?_
        refine J_iload_n 54 rfl dX0_fits_53 rfl ?_
        refine J_aload_n 55 rfl dX0_fits_54 rfl ?_
        refine J_iload 57 rfl dX0_fits_55 rfl ?_
        refine J_bipush 59 37 rfl dX0_fits_57 bc_37 ?_
        refine J_icmp_ne 66 62 (by decide) rfl dX0_fits_59 (by omega) (by omega) (fun c59 => ?_) (fun c59 => ?_)
        · refine J_iconst 67 0 rfl dX0_fits_66 ic_0 ?_
          first
            | exact kont c44 _ (by omega) (by rw [if_pos (by omega)])
            | exact kont c44 _ (by omega) (by rw [if_neg (by omega)])
        · refine J_iconst 63 1 rfl dX0_fits_62 ic_1 ?_
          refine J_goto 67 (by decide) dX0_fits_63 ?_
          first
            | exact kont c44 _ (by omega) (by rw [if_pos (by omega)])
            | exact kont c44 _ (by omega) (by rw [if_neg (by omega)])
      · refine J_iconst 48 0 rfl dX0_fits_47 ic_0 ?_
        refine J_zret0 rfl dX0_fits_48 ?_
        rw [st35, if_neg c44]
        exact ⟨by rw [bt_f (by simp)], hp, Rd.refl, rfl, fun j hj => absurd hj (Nat.not_lt_zero _), fun j _ => rfl⟩
    have sgn : (chS.getD k []).drop i = (chS.getD k []).getD i 0 :: (chS.getD k []).drop (i + 1) → (chS.getD k []).getD i 0 < 128 → ¬ ((chS.getD k []).getD i 0 = 35 ∨ (chS.getD k []).getD i 0 = 37) → VJ g mX0_fits 5 0 0 (fun v J2 => v = some (.int (nI (bt ((fitF s n ((chS.getD k []).drop i) p).1 = true)))) ∧ J2 344 5 = (fitF s n ((chS.getD k []).drop i) p).2.1 ∧ Rd J J2 ∧ J2 346 = J 346 ∧ (∀ j, j < (fitF s n ((chS.getD k []).drop i) p).2.2.length → J2 347 (w + j) = (fitF s n ((chS.getD k []).drop i) p).2.2.getD j 0) ∧ ∀ j, j < w → J2 347 j = J 347 j) NoX 77 [(0, .ref (g.2 344)), (1, .ref (kS g.1 k)), (2, .int (nI w0)), (3, .int (nI w)), (4, .int (nI i)), (5, .int (nI ((chS.getD k []).getD i 0)))] [] J := by
      intro ce cl ch
      have hi2 : i < (chS.getD k []).length := by
        refine Classical.byContradiction (fun q => ?_)
        rw [List.drop_of_length_le (by omega)] at ce
        cases ce
      have nd : ndF ((chS.getD k []).drop i) = ndF ((chS.getD k []).drop (i + 1)) := by rw [ce]; simp only [ndF]; rw [if_neg ch]; omega
      have st77 : fitF s n ((chS.getD k []).drop i) p = if p < n ∧ s p = (chS.getD k []).getD i 0 then fitF s n ((chS.getD k []).drop (i + 1)) (p + 1) else (false, p, []) := by
        rw [ce]
        simp only [fitF]
        rw [if_neg ch]
      refine J_aload_n 78 rfl dX0_fits_77 rfl ?_
      refine g_X0_at 81 rfl dX0_fits_78 lkX0_33 ?_
      refine J_cv (b := p) hp ?_
      refine J_aload_n 82 rfl dX0_fits_81 rfl ?_
      refine g_X0_length 85 rfl dX0_fits_82 lkX0_22 ?_
      refine J_cv (b := n) t1 ?_
      refine J_icmp_ge 102 88 (by decide) rfl dX0_fits_85 (by omega) (by omega) (fun c85 => ?_) (fun c85 => ?_)
      · refine J_iconst 103 0 rfl dX0_fits_102 ic_0 ?_
        refine J_zret0 rfl dX0_fits_103 ?_
        rw [st77, if_neg (by omega)]
        exact ⟨by rw [bt_f (by simp)], hp, Rd.refl, rfl, fun j hj => absurd hj (Nat.not_lt_zero _), fun j _ => rfl⟩
      · refine J_aload_n 89 rfl dX0_fits_88 rfl ?_
        refine g_X0_characters 92 rfl dX0_fits_89 lkX0_11 ?_
        refine J_aload_n 93 rfl dX0_fits_92 rfl ?_
        refine g_X0_at 96 rfl dX0_fits_93 lkX0_33 ?_
        refine J_cv (b := p) hp ?_
        refine J_cald 97 rfl dX0_fits_96 (sa_X0_characters) (by omega) ?_
        refine J_cv (b := s p) (tp p) ?_
        refine J_iload 99 rfl dX0_fits_97 rfl ?_
        refine J_icmp_eq 104 102 (by decide) rfl dX0_fits_99 (by have := (tc p (by omega)).2; omega) (by omega) (fun c99 => ?_) (fun c99 => ?_)
        · refine J_aload_n 105 rfl dX0_fits_104 rfl ?_
          refine J_dup 106 rfl dX0_fits_105 rfl ?_
          refine g_X0_at 109 rfl dX0_fits_106 lkX0_33 ?_
          refine J_cv (b := p) hp ?_
          refine J_iconst 110 1 rfl dX0_fits_109 ic_1 ?_
          refine J_iadd 111 rfl dX0_fits_110 ?_
          refine p_X0_at 114 rfl dX0_fits_111 lkX0_33 ?_
          refine J_iinc 117 1 rfl dX0_fits_114 ic_1 rfl (Nat.le_of_ble_eq_true rfl) ?_
          refine J_goto 5 (by decide) dX0_fits_117 ?_
          refine J_keep [0, 1, 2, 3, 4] ?_
          refine VJ_mono (ih _ (by omega) (i + 1) w (p + 1) (up2 J 344 5 (p + 1)) rfl (by omega) ⟨by rw [up2_ne (by omega)]; exact t5, by rw [up2_app, if_neg (by omega)]; exact t1, tn, tc⟩ (by rw [up2_app, if_pos ⟨rfl, rfl⟩]) (by omega) (by omega)) ?_ (fun _ _ q => q)
          rintro v J2 ⟨z1, z2, z3, z4, z5, z6⟩
          rw [st77, if_pos ⟨by omega, by omega⟩]
          exact ⟨z1, z2, Rd.trans ⟨fun c hc => by rw [up2_ne (by omega)], by rw [up2_app, if_neg (by omega)]⟩ z3, by rw [z4, up2_ne (by omega)], z5, fun j hj => by rw [z6 j hj, up2_ne (by omega)]⟩
        · refine J_iconst 103 0 rfl dX0_fits_102 ic_0 ?_
          refine J_zret0 rfl dX0_fits_103 ?_
          rw [st77, if_neg (by omega)]
          exact ⟨by rw [bt_f (by simp)], hp, Rd.refl, rfl, fun j hj => absurd hj (Nat.not_lt_zero _), fun j _ => rfl⟩
    have dr : i < (chS.getD k []).length → (chS.getD k []).drop i = (chS.getD k []).getD i 0 :: (chS.getD k []).drop (i + 1) := fun h => drop_c _ _ h
    have dn : i = (chS.getD k []).length → (chS.getD k []).drop i = [] := fun h => by rw [h, List.drop_length]
    have c128 : i < (chS.getD k []).length → (chS.getD k []).getD i 0 < 128 := fun h => (byS_ch k hk i (by omega)).2.2
    refine J_iload 7 rfl dX0_fits_5 rfl ?_
    refine J_aload_n 8 rfl dX0_fits_7 rfl ?_
    refine J_callOi (As := []) 11 _ (by assumption) rfl kalJ0_length_8abf5 rfl lkX0_49 dX0_fits_8 rfl rfl (by exact Nat.le_of_ble_eq_true rfl) (by omega) (S_length hk) ?_
    refine J_icmp_ge 120 14 (by decide) rfl dX0_fits_11 (by omega) (by omega) (fun c11 => ?_) (fun c11 => ?_)
    · refine J_iconst 121 1 rfl dX0_fits_120 ic_1 ?_
      refine J_zret1 rfl dX0_fits_121 ?_
      rw [dn (by omega)]
      refine ⟨by rw [bt_t (show (fitF s n [] p).1 = true from rfl)], hp, Rd.refl, rfl, fun j hj => absurd hj (Nat.not_lt_zero _), fun j _ => rfl⟩
    · have ce := dr (by omega)
      have cl := c128 (by omega)
      refine J_aload_n 15 rfl dX0_fits_14 rfl ?_
      refine J_iload 17 rfl dX0_fits_15 rfl ?_
      refine J_callOi (As := [_]) 20 _ (by assumption) rfl kalJ0_charAt_5068e rfl lkX0_54 dX0_fits_17 rfl rfl (by exact Nat.le_of_ble_eq_true rfl) (by omega) (S_charAt hk (by omega)) ?_
      refine J_istore 22 rfl dX0_fits_20 (Nat.le_of_ble_eq_true rfl) ?_
      refine J_iload 24 rfl dX0_fits_22 rfl ?_
      refine J_bipush 26 35 rfl dX0_fits_24 bc_35 ?_
      refine J_icmp_eq 36 29 (by decide) rfl dX0_fits_26 (by omega) (by omega) (fun c26 => ?_) (fun c26 => ?_)
      · exact dig ce cl (by omega)
      · refine J_iload 31 rfl dX0_fits_29 rfl ?_
        refine J_bipush 33 37 rfl dX0_fits_31 bc_37 ?_
        refine J_icmp_ne 77 36 (by decide) rfl dX0_fits_33 (by omega) (by omega) (fun c33 => ?_) (fun c33 => ?_)
        · exact sgn ce cl (by omega)
        · exact dig ce cl (by omega)

theorem S_X0_fits {g : Gn} {J : DJ} {s : Nat → Nat} {n k w a : Nat} (hk : k < 12) (t : TX J s n) (ha : J 344 5 = a) (han : a ≤ n) (hw : w ≤ 36) : SJ g mX0_fits 5 0 0 [.ref (g.2 344), .ref (kS g.1 k), .int (nI (w))] J (fun v J2 => v = some (.int (nI (bt ((fitF s n (fm k) a).1 = true)))) ∧ J2 344 5 = (fitF s n (fm k) a).2.1 ∧ Rd J J2 ∧ J2 346 = J 346 ∧ (∀ j, j < (fitF s n (fm k) a).2.2.length → J2 347 (w + j) = (fitF s n (fm k) a).2.2.getD j 0) ∧ ∀ j, j < w → J2 347 j = J 347 j) NoX := by
  refine SJ_of_VJ (by decide +kernel) (Nat.le_of_ble_eq_true rfl) ?_
  show VJ g mX0_fits 5 0 0 _ _ 0 [(0, .ref (g.2 344)), (1, .ref (kS g.1 k)), (2, .int (nI (w)))] [] J
  refine J_iload_n 1 rfl dX0_fits_0 rfl ?_
  refine J_istore_n 2 rfl dX0_fits_1 rfl (Nat.le_of_ble_eq_true rfl) ?_
  refine J_iconst 3 0 rfl dX0_fits_2 ic_0 ?_
  refine J_istore 5 rfl dX0_fits_3 (Nat.le_of_ble_eq_true rfl) ?_
  have := fm_nd k hk
  exact S_X0_fits_loop hk _ 0 w a J rfl (Nat.zero_le _) t ha han (by show w + ndF (chS.getD k []) ≤ 39; omega)

theorem S_X0_formOf {g : Gn} {J : DJ} {k : Nat} (hk : k < 12) : SJ g mX0_formOf 0 0 0 [.int (nI (k))] J (Rr (kS g.1 k) J) NoX := by
  refine SJ_of_VJ (by decide +kernel) (Nat.le_of_ble_eq_true rfl) ?_
  show VJ g mX0_formOf 0 0 0 _ _ 0 [(0, .int (nI (k)))] [] J
  refine J_iload_n 1 rfl dX0_formOf_0 rfl ?_
  have k12 : k = 0 ∨ k = 1 ∨ k = 2 ∨ k = 3 ∨ k = 4 ∨ k = 5 ∨ k = 6 ∨ k = 7 ∨ k = 8 ∨ k = 9 ∨ k = 10 ∨ k = 11 := by omega
  rcases k12 with e | e | e | e | e | e | e | e | e | e | e | e <;> subst e
  · refine J_tabIn 60 dX0_formOf_1 (by omega) (by decide) rfl (by decide) ?_
    refine V_ldcS 62 0 rfl (by omega) rfl dX0_formOf_60 ?_
    exact J_aret rfl dX0_formOf_62 ⟨rfl, rfl⟩
  · refine J_tabIn 63 dX0_formOf_1 (by omega) (by decide) rfl (by decide) ?_
    refine V_ldcS 65 1 rfl (by omega) rfl dX0_formOf_63 ?_
    exact J_aret rfl dX0_formOf_65 ⟨rfl, rfl⟩
  · refine J_tabIn 66 dX0_formOf_1 (by omega) (by decide) rfl (by decide) ?_
    refine V_ldcS 68 2 rfl (by omega) rfl dX0_formOf_66 ?_
    exact J_aret rfl dX0_formOf_68 ⟨rfl, rfl⟩
  · refine J_tabIn 69 dX0_formOf_1 (by omega) (by decide) rfl (by decide) ?_
    refine V_ldcS 71 3 rfl (by omega) rfl dX0_formOf_69 ?_
    exact J_aret rfl dX0_formOf_71 ⟨rfl, rfl⟩
  · refine J_tabIn 72 dX0_formOf_1 (by omega) (by decide) rfl (by decide) ?_
    refine V_ldcS 74 4 rfl (by omega) rfl dX0_formOf_72 ?_
    exact J_aret rfl dX0_formOf_74 ⟨rfl, rfl⟩
  · refine J_tabIn 75 dX0_formOf_1 (by omega) (by decide) rfl (by decide) ?_
    refine V_ldcS 77 5 rfl (by omega) rfl dX0_formOf_75 ?_
    exact J_aret rfl dX0_formOf_77 ⟨rfl, rfl⟩
  · refine J_tabIn 78 dX0_formOf_1 (by omega) (by decide) rfl (by decide) ?_
    refine V_ldcS 80 6 rfl (by omega) rfl dX0_formOf_78 ?_
    exact J_aret rfl dX0_formOf_80 ⟨rfl, rfl⟩
  · refine J_tabIn 81 dX0_formOf_1 (by omega) (by decide) rfl (by decide) ?_
    refine V_ldcS 83 7 rfl (by omega) rfl dX0_formOf_81 ?_
    exact J_aret rfl dX0_formOf_83 ⟨rfl, rfl⟩
  · refine J_tabIn 84 dX0_formOf_1 (by omega) (by decide) rfl (by decide) ?_
    refine V_ldcS 86 8 rfl (by omega) rfl dX0_formOf_84 ?_
    exact J_aret rfl dX0_formOf_86 ⟨rfl, rfl⟩
  · refine J_tabIn 87 dX0_formOf_1 (by omega) (by decide) rfl (by decide) ?_
    refine V_ldcS 89 9 rfl (by omega) rfl dX0_formOf_87 ?_
    exact J_aret rfl dX0_formOf_89 ⟨rfl, rfl⟩
  · refine J_tabIn 90 dX0_formOf_1 (by omega) (by decide) rfl (by decide) ?_
    refine V_ldcS 92 10 rfl (by omega) rfl dX0_formOf_90 ?_
    exact J_aret rfl dX0_formOf_92 ⟨rfl, rfl⟩
  · refine J_tabOut 93 dX0_formOf_1 (by omega) (Or.inr (by decide)) (by decide) ?_
    refine V_ldcS 95 11 rfl (by omega) rfl dX0_formOf_93 ?_
    exact J_aret rfl dX0_formOf_95 ⟨rfl, rfl⟩

