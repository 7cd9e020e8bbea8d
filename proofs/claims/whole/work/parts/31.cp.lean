/-! THE HOUSE'S PICTURE UNDER CHANGES -/
theorem CB_cong2 {J : DJ} {k : Nat} {f f' : Nat → Nat} (h : CB J k f) (e6 : f' 6 = f 6) (ek : ∀ i, 245 ≤ i → i < 269 → f' i = f i) (h6 : f 6 ≤ 12) : CB J k f' := by
  unfold CB
  rw [e6]
  refine ⟨h.1, fun i hi => ?_⟩
  rw [ek (245 + 2 * i) (by omega) (by omega), ek (246 + 2 * i) (by omega) (by omega)]
  exact h.2 i hi
theorem CQ_fr {J J2 : DJ} {b : Nat} {f : Nat → Nat} (h : CQ J b f) (h0 : f 0 ≤ 4) (e : ∀ c, b ≤ c → c < b + 30 → J2 c = J c) : CQ J2 b f := by
  obtain ⟨sc, mk, cr, cb, ce⟩ := h
  refine ⟨by rw [e b (by omega) (by omega)]; exact sc, by rw [e (b + 2) (by omega) (by omega)]; exact mk, CR_fr cr (fun c a d => e c (by omega) (by omega)), CB_fr cb (fun c a d => e c (by omega) (by omega)), fun i hi => CE_fr (ce i hi) (fun c a d => e c (by omega) (by omega))⟩
theorem CP_fr {J J2 : DJ} {b B : Nat} {f : Nat → Nat} (h : CP J b f B) (h0 : f 0 ≤ 4) (e : ∀ c, b ≤ c → c < b + 30 → J2 c = J c) : CP J2 b f B := ⟨CQ_fr h.1 h0 e, by unfold CA; rw [e b (by omega) (by omega)]; exact h.2⟩
theorem CA_le {J : DJ} {b B B2 : Nat} {f : Nat → Nat} (h : CA J b f B) (q : B ≤ B2) : CA J b f B2 := ⟨h.1, Nat.le_trans h.2.1 q, Nat.le_trans h.2.2 q⟩
theorem CP_le {J : DJ} {b B B2 : Nat} {f : Nat → Nat} (h : CP J b f B) (q : B ≤ B2) : CP J b f B2 := ⟨h.1, CA_le h.2 q⟩
/-- a change in one engine alone -/
theorem CQ_eng {J J2 : DJ} {b B e : Nat} {f f2 : Nat → Nat} (h : CQ J b f) (hw : WF f B) (he : e < f 0) (fr : Fr (b + 10 + 5 * e) 5 J J2) (out : ∀ i, i < 7 + 52 * e ∨ 59 + 52 * e ≤ i → f2 i = f i) (c2 : CE J2 (b + 10 + 5 * e) f2 (7 + 52 * e)) : CQ J2 b f2 := by
  obtain ⟨h0, h2, h3, hh, hr, ho, hu, hm, hB, h5⟩ := hw
  obtain ⟨sc, mk, cr, cb, ce⟩ := h
  refine ⟨?_, ?_, ?_, ?_, ?_⟩
  · rw [fr b (by omega), out 0 (by omega), out 3 (by omega), out 2 (by omega), out 1 (by omega), out 5 (by omega)]; exact sc
  · intro i hi
    rw [fr (b + 2) (by omega), out (215 + i) (by omega)]; exact mk i hi
  · exact CR_cong (CR_fr cr (fun c a d => fr c (by omega))) (out 4 (by omega)) (fun i a d => out i (by omega)) hr.1
  · exact CB_cong2 (CB_fr cb (fun c a d => fr c (by omega))) (out 6 (by omega)) (fun i a d => out i (by omega)) hh.1
  · rw [out 0 (by omega)]
    intro a ha
    by_cases q : a = e
    · subst q; exact c2
    · exact CE_cong (CE_fr (ce a ha) (fun c x y => fr c (by omega))) (fun i x y => out i (by omega)) (ho a ha).2.1 (ho a ha).2.2.2.2.1
/-- a change of the house's own numbers alone -/
theorem CQ_sc {J J2 : DJ} {b B : Nat} {f f2 : Nat → Nat} (h : CQ J b f) (hw : WF f B) (e : ∀ c, c ≠ b → J2 c = J c) (out : ∀ i, 7 ≤ i → f2 i = f i) (e0 : f2 0 = f 0) (e4 : f2 4 = f 4) (e6 : f2 6 = f 6) (sc2 : J2 b 4 = f2 0 ∧ J2 b 5 = f2 3 ∧ J2 b 6 = f2 2 ∧ J2 b 10 = f2 1 ∧ J2 b 11 = f2 5) : CQ J2 b f2 := by
  obtain ⟨h0, h2, h3, hh, hr, ho, hu, hm, hB, h5⟩ := hw
  obtain ⟨sc, mk, cr, cb, ce⟩ := h
  refine ⟨sc2, ?_, ?_, ?_, ?_⟩
  · intro i hi
    rw [e (b + 2) (by omega), out (215 + i) (by omega)]; exact mk i hi
  · exact CR_cong (CR_fr cr (fun c a d => e c (by omega))) e4 (fun i a d => out i (by omega)) hr.1
  · exact CB_cong2 (CB_fr cb (fun c a d => e c (by omega))) e6 (fun i a d => out i (by omega)) hh.1
  · rw [e0]
    intro a ha
    exact CE_cong (CE_fr (ce a ha) (fun c x y => e c (by omega))) (fun i x y => out i (by omega)) (ho a ha).2.1 (ho a ha).2.2.2.2.1
/-- strokes -/
theorem CQ_run {J J1 J2 : DJ} {b B e s v : Nat} {f : Nat → Nat} (h : CQ J b f) (hw : WF f B) (he : e < f 0) (q1 : Fr (b + 10 + 5 * e) 5 J J1) (c1 : CE J1 (b + 10 + 5 * e) (eStN f (7 + 52 * e) s) (7 + 52 * e)) (q2 : Fr (b + 7) 3 (up2 J1 b 9 v) J2) (c2 : CB J2 (b + 7) (mHourN f (eKn f (7 + 52 * e) s))) : CQ J2 b (xRun f e s) ∧ Fr b 30 J J2 ∧ (∀ j, j ≠ 9 → J2 b j = J b j) ∧ J2 b 9 = v := by
  obtain ⟨h0, h2, h3, hh, hr, ho, hu, hm, hB, h5⟩ := hw
  obtain ⟨sc, mk, cr, cb, ce⟩ := h
  have hok := ho e he
  have h6 := hh.1
  have out : ∀ i, (i < 7 + 52 * e ∨ 59 + 52 * e ≤ i) → i ≠ 6 → i < 245 → xRun f e s i = f i := fun i a b c => xRun_out h6 (by omega) hok a b c
  have r0 : J2 b = up2 J1 b 9 v b := q2 b (by omega)
  have j0 : J1 b = J b := q1 b (by omega)
  have rr : ∀ j, j ≠ 9 → J2 b j = J b j := fun j hj => by rw [r0, up2_app, if_neg (fun z => hj z.2), j0]
  have r9 : J2 b 9 = v := by rw [r0, up2_app, if_pos ⟨rfl, rfl⟩]
  have ro : ∀ c, c ≠ b → (c < b + 7 ∨ b + 10 ≤ c) → (c < b + 10 + 5 * e ∨ b + 15 + 5 * e ≤ c) → J2 c = J c := fun c a1 a2 a3 => by rw [q2 c (by omega), up2_ne a1, q1 c (by omega)]
  refine ⟨⟨?_, ?_, ?_, ?_, ?_⟩, fun c hc => ro c (by omega) (by omega) (by omega), rr, r9⟩
  · rw [rr 4 (by omega), rr 5 (by omega), rr 6 (by omega), rr 10 (by omega), rr 11 (by omega), out 0 (by omega) (by omega) (by omega), out 1 (by omega) (by omega) (by omega), out 2 (by omega) (by omega) (by omega), out 3 (by omega) (by omega) (by omega), out 5 (by omega) (by omega) (by omega)]; exact sc
  · intro i hi
    rw [ro (b + 2) (by omega) (by omega) (by omega), out (215 + i) (by omega) (by omega) (by omega)]; exact mk i hi
  · exact CR_cong (CR_fr cr (fun c a d => ro c (by omega) (by omega) (by omega))) (out 4 (by omega) (by omega) (by omega)) (fun i a d => out i (by omega) (by omega) (by omega)) hr.1
  · exact CB_cong c2 (xRun_book h6 (by omega) hok) (mHourN_6 h6 _).1
  · rw [out 0 (by omega) (by omega) (by omega)]
    intro a ha
    by_cases q : a = e
    · subst q
      exact CE_cong (CE_fr c1 (fun c x y => by rw [q2 c (by omega), up2_ne (by omega)])) (xRun_eng h6 (by omega) hok) (eStN_ok hok s).2.1 (eStN_ok hok s).2.2.2.2.1
    · exact CE_cong (CE_fr (ce a ha) (fun c x y => ro c (by omega) (by omega) (by omega))) (xRun_EEq h6 (by omega) (by omega) q hok) (ho a ha).2.1 (ho a ha).2.2.2.2.1
theorem CP_run {J J1 J2 : DJ} {b B e s B0 : Nat} {f : Nat → Nat} (h : CP J b f B0) (hw : WF f B) (he : e < f 0) (q1 : Fr (b + 10 + 5 * e) 5 J J1) (c1 : CE J1 (b + 10 + 5 * e) (eStN f (7 + 52 * e) s) (7 + 52 * e)) (q2 : Fr (b + 7) 3 (up2 J1 b 9 (J b 9 + (s - eKn f (7 + 52 * e) s))) J2) (c2 : CB J2 (b + 7) (mHourN f (eKn f (7 + 52 * e) s))) : Fr b 30 J J2 ∧ CP J2 b (xRun f e s) B0 := by
  have q := CQ_run h.1 hw he q1 c1 q2 c2
  have o := xRun_oil (s := s) hw he
  have k := eKn_le f (7 + 52 * e) s
  obtain ⟨a1, a2, a3⟩ := h.2
  refine ⟨q.2.1, q.1, ?_⟩
  unfold CA
  rw [q.2.2.1 7 (by omega), q.2.2.1 8 (by omega), q.2.2.2, xRun_out hw.2.2.2.1.1 (by have := hw.1; omega) (hw.2.2.2.2.2.1 e he) (by omega) (by omega) (by omega)]
  exact ⟨by omega, a2, a3⟩
/-- a new engine -/
theorem xE_EEq {f : Nat → Nat} {n e : Nat} (h8 : n ≤ 8) (he : e < f 0) : EEq f (xE f n) (7 + 52 * e) := fun i a b => by
  unfold xE
  rw [if_neg (by omega), if_neg (by omega), if_neg (by omega), if_neg (by omega)]
theorem xE_out {f : Nat → Nat} {n i : Nat} (h8 : n ≤ 8) (h0 : i ≠ 0) (h : i < 7 + 52 * f 0 ∨ 59 + 52 * f 0 ≤ i) : xE f n i = f i := by
  unfold xE
  rw [if_neg (by omega), if_neg (by omega), if_neg (by omega), if_neg (by omega)]
theorem xE_new {f : Nat → Nat} {n B : Nat} (hw : WF f B) (h3 : 3 ≤ n) (h8 : n ≤ 8) (h0 : f 0 < 4) : xE f n (7 + 52 * f 0) = n ∧ xE f n (8 + 52 * f 0) = 0 ∧ xE f n (9 + 52 * f 0) = 0 ∧ xE f n (10 + 52 * f 0) = 0 ∧ (∀ c, c < n → xE f n (11 + 52 * f 0 + c) = c ∧ xE f n (19 + 52 * f 0 + c) = 5 ∧ xE f n (27 + 52 * f 0 + c) = 0) := by
  have u := hw.2.2.2.2.2.2.1 (f 0) (Nat.le_refl _) h0
  unfold xE
  refine ⟨?_, ?_, ?_, ?_, fun c hc => ⟨?_, ?_, ?_⟩⟩
  · rw [if_neg (by omega), if_pos rfl]
  · rw [if_neg (by omega), if_neg (by omega), if_neg (by omega), if_neg (by omega)]; exact u.1
  · rw [if_neg (by omega), if_neg (by omega), if_neg (by omega), if_neg (by omega)]; exact u.2.1
  · rw [if_neg (by omega), if_neg (by omega), if_neg (by omega), if_neg (by omega)]; exact u.2.2.1
  · rw [if_neg (by omega), if_neg (by omega), if_pos (by omega)]; omega
  · rw [if_neg (by omega), if_neg (by omega), if_neg (by omega), if_pos (by omega)]
  · rw [if_neg (by omega), if_neg (by omega), if_neg (by omega), if_neg (by omega)]; exact u.2.2.2 c (by omega)
theorem xE_ok {f : Nat → Nat} {n B : Nat} (hw : WF f B) (h3 : 3 ≤ n) (h8 : n ≤ 8) (h0 : f 0 < 4) : EOk (xE f n) (7 + 52 * f 0) := by
  obtain ⟨a0, a1, a2, a3, ac⟩ := xE_new hw h3 h8 h0
  have s1 : 7 + 52 * f 0 + 1 = 8 + 52 * f 0 := by omega
  have s2 : 7 + 52 * f 0 + 2 = 9 + 52 * f 0 := by omega
  have s3 : 7 + 52 * f 0 + 3 = 10 + 52 * f 0 := by omega
  have s4 : 7 + 52 * f 0 + 4 = 11 + 52 * f 0 := by omega
  unfold EOk
  rw [a0, s1, s2, s3, s4, a1, a2, a3]
  refine ⟨h3, h8, by omega, by omega, by omega, fun c hc => by rw [(ac c hc).1]; exact hc, fun c c' hc hc' q => by rw [(ac c hc).1, (ac c' hc').1] at q; exact q, fun i hi => absurd hi (by omega)⟩
theorem xE_WF {f : Nat → Nat} {n B : Nat} (hw : WF f B) (h3 : 3 ≤ n) (h8 : n ≤ 8) (h0 : f 0 < 4) : WF (xE f n) B := by
  have hok := xE_ok hw h3 h8 h0
  obtain ⟨_, h2, h3', hh, hr, ho, hu, hm, hB, h5⟩ := hw
  have out : ∀ i, i ≠ 0 → (i < 7 + 52 * f 0 ∨ 59 + 52 * f 0 ≤ i) → xE f n i = f i := fun i a b => xE_out h8 a b
  have e0 : xE f n 0 = f 0 + 1 := if_pos rfl
  refine ⟨by omega, by rw [out 2 (by omega) (by omega)]; exact h2, by rw [out 3 (by omega) (by omega)]; exact h3', ?_, ?_, ?_, ?_, MOk_cong hm (out 3 (by omega) (by omega)) (fun i a b => out i (by omega) (by omega)), ?_, h5⟩
  · exact HOk_cong hh ⟨out 1 (by omega) (by omega), out 6 (by omega) (by omega), fun k a b => out k (by omega) (by omega)⟩
  · unfold ROk
    rw [out 4 (by omega) (by omega), e0]
    refine ⟨hr.1, fun i hi => ?_⟩
    have r4 := hr.1
    rw [out (221 + 3 * i) (by omega) (by omega), out (222 + 3 * i) (by omega) (by omega), out (223 + 3 * i) (by omega) (by omega)]
    have := hr.2 i hi
    omega
  · rw [e0]
    intro e he
    by_cases q : e = f 0
    · subst q; exact hok
    · exact (xE_EEq h8 (by omega)).ok (ho e (by omega))
  · rw [UOk, e0]
    intro e a b
    have q := hu e (by omega) b
    rw [out (8 + 52 * e) (by omega) (by omega), out (9 + 52 * e) (by omega) (by omega), out (10 + 52 * e) (by omega) (by omega)]
    exact ⟨q.1, q.2.1, q.2.2.1, fun c hc => by rw [out (27 + 52 * e + c) (by omega) (by omega)]; exact q.2.2.2 c hc⟩
  · intro i hi
    have := hB i hi
    unfold xE
    split
    · omega
    · split
      · omega
      · split
        · omega
        · split <;> omega
theorem xE_oil {f : Nat → Nat} {n B : Nat} (hw : WF f B) (h3 : 3 ≤ n) (h8 : n ≤ 8) (h0 : f 0 < 4) : allOil (xE f n) = allOil f + n * 5 := by
  have nw := xE_new hw h3 h8 h0
  have e0 : xE f n 0 = f 0 + 1 := if_pos rfl
  have five : ∀ m, m ≤ n → sumN (fun c => xE f n (7 + 52 * f 0 + 12 + c)) m = m * 5 := by
    intro m
    induction m with
    | zero => intro _; rfl
    | succ m ih =>
      intro hm
      simp only [sumN]
      rw [ih (by omega), show 7 + 52 * f 0 + 12 + m = 19 + 52 * f 0 + m by omega, (nw.2.2.2.2 m (by omega)).2.1]
      omega
  unfold allOil
  rw [e0]
  show sumN _ (f 0) + eOil (xE f n) (7 + 52 * f 0) = _
  rw [sumN_congr (f' := fun e => eOil f (7 + 52 * e)) (f 0) (fun i hi => eOil_cong (xE_EEq h8 hi) (hw.2.2.2.2.2.1 i hi).2.1)]
  unfold eOil
  rw [nw.1, five n (Nat.le_refl _)]
theorem CP_E {J J1 J2 : DJ} {b B n B0 : Nat} {f : Nat → Nat} (h : CP J b f B0) (hw : WF f B) (h3 : 3 ≤ n) (h8 : n ≤ 8) (h0 : f 0 < 4) (q1 : Fr (b + 10 + 5 * f 0) 5 J J1) (c6 : J1 (b + 10 + 5 * f 0) 6 = n) (c7 : J1 (b + 10 + 5 * f 0) 7 = 0) (c8 : J1 (b + 10 + 5 * f 0) 8 = 0) (c4 : J1 (b + 10 + 5 * f 0) 4 = 0) (c5 : J1 (b + 10 + 5 * f 0) 5 = 0) (cc : ∀ c, c < 8 → J1 (b + 10 + 5 * f 0 + 1) c = c ∧ J1 (b + 10 + 5 * f 0 + 2) c = 5 ∧ J1 (b + 10 + 5 * f 0 + 3) c = 0) (e2 : J2 = up2 (up2 J1 b 7 (J b 7 + n * 5)) b 4 (f 0 + 1)) : Fr b 30 J J2 ∧ CP J2 b (xE f n) (B0 + 40) := by
  have nw := xE_new hw h3 h8 h0
  have oi := xE_oil hw h3 h8 h0
  have out : ∀ i, i ≠ 0 → (i < 7 + 52 * f 0 ∨ 59 + 52 * f 0 ≤ i) → xE f n i = f i := fun i a b => xE_out h8 a b
  have e0 : xE f n 0 = f 0 + 1 := if_pos rfl
  obtain ⟨_, h2, h3', hh, hr, ho, hu, hm, hB, h5⟩ := hw
  obtain ⟨⟨⟨s4, s5, s6, s10, s11⟩, mk, cr, cb, ce⟩, a1, a2, a3⟩ := h
  have j0 : J1 b = J b := q1 b (by omega)
  have rr : ∀ j, j ≠ 7 → j ≠ 4 → J2 b j = J b j := fun j h1 h2 => by rw [e2, up2_app, if_neg (fun z => h2 z.2), up2_app, if_neg (fun z => h1 z.2), j0]
  have r4 : J2 b 4 = f 0 + 1 := by rw [e2, up2_app, if_pos ⟨rfl, rfl⟩]
  have r7 : J2 b 7 = J b 7 + n * 5 := by rw [e2, up2_app, if_neg (by omega), up2_app, if_pos ⟨rfl, rfl⟩]
  have rn : ∀ c, c ≠ b → J2 c = J1 c := fun c hc => by rw [e2, up2_ne hc, up2_ne hc]
  have ro : ∀ c, c ≠ b → (c < b + 10 + 5 * f 0 ∨ b + 15 + 5 * f 0 ≤ c) → J2 c = J c := fun c x y => by rw [rn c x, q1 c (by omega)]
  refine ⟨fun c hc => ro c (by omega) (by omega), ⟨⟨?_, ?_, ?_, ?_, ?_⟩, ?_, ?_, ?_, ?_⟩, ?_, ?_, ?_⟩
  · rw [r4, e0]
  · rw [rr 5 (by omega) (by omega), out 3 (by omega) (by omega)]; exact s5
  · rw [rr 6 (by omega) (by omega), out 2 (by omega) (by omega)]; exact s6
  · rw [rr 10 (by omega) (by omega), out 1 (by omega) (by omega)]; exact s10
  · rw [rr 11 (by omega) (by omega), out 5 (by omega) (by omega)]; exact s11
  · intro i hi
    rw [ro (b + 2) (by omega) (by omega), out (215 + i) (by omega) (by omega)]; exact mk i hi
  · exact CR_cong (CR_fr cr (fun c a d => ro c (by omega) (by omega))) (out 4 (by omega) (by omega)) (fun i a d => out i (by omega) (by omega)) hr.1
  · exact CB_cong2 (CB_fr cb (fun c a d => ro c (by omega) (by omega))) (out 6 (by omega) (by omega)) (fun i a d => out i (by omega) (by omega)) hh.1
  · rw [e0]
    intro a ha
    by_cases q : a = f 0
    · subst q
      obtain ⟨n0, n1, n2, n3, nc⟩ := nw
      have s1 : 7 + 52 * f 0 + 1 = 8 + 52 * f 0 := by omega
      have s2 : 7 + 52 * f 0 + 2 = 9 + 52 * f 0 := by omega
      have s3 : 7 + 52 * f 0 + 3 = 10 + 52 * f 0 := by omega
      unfold CE
      rw [n0, s1, s2, s3, n1, n2, n3, rn _ (by omega), rn _ (by omega), rn _ (by omega), rn _ (by omega), rn _ (by omega)]
      refine ⟨c6, c7, c8, c5, by omega, fun c hc => ?_, fun i hi => absurd hi (by omega)⟩
      have x := cc c (by omega)
      have y := nc c hc
      rw [show 7 + 52 * f 0 + 4 + c = 11 + 52 * f 0 + c by omega, show 7 + 52 * f 0 + 12 + c = 19 + 52 * f 0 + c by omega, show 7 + 52 * f 0 + 20 + c = 27 + 52 * f 0 + c by omega, y.1, y.2.1, y.2.2]
      exact x
    · exact CE_cong (CE_fr (ce a (by omega)) (fun c x y => ro c (by omega) (by omega))) (xE_EEq h8 (by omega)) (ho a (by omega)).2.1 (ho a (by omega)).2.2.2.2.1
  · rw [r7, rr 8 (by omega) (by omega), rr 9 (by omega) (by omega), out 2 (by omega) (by omega), oi]
    omega
  · rw [r7]; omega
  · rw [rr 8 (by omega) (by omega)]; omega
