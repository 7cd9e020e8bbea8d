/-! THE HOUSE'S PICTURE UNDER CHANGES, SECOND -/
/-- well-formed: engines, store and penance done may change -/
theorem WF_mk {f f2 : Nat → Nat} {B B2 : Nat} (hw : WF f B) (e2 : f2 2 ≤ 500) (out : ∀ i, i ≠ 2 → i ≠ 5 → (i < 7 ∨ 7 + 52 * f 0 ≤ i) → f2 i = f i) (ho2 : ∀ e, e < f 0 → EOk f2 (7 + 52 * e)) (hB2 : ∀ i, i < 269 → f2 i ≤ B2) (h52 : 500 ≤ B2) : WF f2 B2 := by
  obtain ⟨h0, h2, h3, hh, hr, ho, hu, hm, hB, h5⟩ := hw
  have e0 := out 0 (by omega) (by omega) (by omega)
  refine ⟨by rw [e0]; exact h0, e2, by rw [out 3 (by omega) (by omega) (by omega)]; exact h3, HOk_cong hh ⟨out 1 (by omega) (by omega) (by omega), out 6 (by omega) (by omega) (by omega), fun k a b => out k (by omega) (by omega) (by omega)⟩, ROk_cong hr e0 (out 4 (by omega) (by omega) (by omega)) (fun i a b => out i (by omega) (by omega) (by omega)), by rw [e0]; exact ho2, UOk_cong hu e0 (fun i a b => out i (by omega) (by omega) (by omega)), MOk_cong hm (out 3 (by omega) (by omega) (by omega)) (fun i a b => out i (by omega) (by omega) (by omega)), hB2, h52⟩
theorem WF_le {f : Nat → Nat} {B B2 : Nat} (hw : WF f B) (h : B ≤ B2) : WF f B2 := by
  obtain ⟨h0, h2, h3, hh, hr, ho, hu, hm, hB, h5⟩ := hw
  exact ⟨h0, h2, h3, hh, hr, ho, hu, hm, fun i hi => Nat.le_trans (hB i hi) h, Nat.le_trans h5 h⟩
/-- a new number at one place of an engine: its order, its oil, its wear -/
theorem CE_row {J J2 : DJ} {k o : Nat} {f f2 : Nat → Nat} (h : CE J k f o) (hok : EOk f o) (r0 : J2 k = J k) (r4 : J2 (k + 4) = J (k + 4)) (h4 : ∀ i, i < 4 → f2 (o + i) = f (o + i)) (hk : ∀ i, i < 24 → f2 (o + 28 + i) = f (o + 28 + i)) (hc : ∀ c, c < f o → J2 (k + 1) c = f2 (o + 4 + c) ∧ J2 (k + 2) c = f2 (o + 12 + c) ∧ J2 (k + 3) c = f2 (o + 20 + c)) : CE J2 k f2 o := by
  obtain ⟨a0, a1, a2, a3, a4, a5, a6⟩ := h
  have h24 := hok.2.2.2.2.1
  have e0 : f2 o = f o := h4 0 (by omega)
  unfold CE
  rw [e0, h4 1 (by omega), h4 2 (by omega), h4 3 (by omega), r0, r4]
  exact ⟨a0, a1, a2, a3, a4, hc, fun i hi => by rw [hk i (by omega)]; exact a6 i hi⟩
/-- swapping two places -/
theorem xSwap_app {f : Nat → Nat} {e p q c : Nat} : xSwap f e p q (11 + 52 * e + c) = if c = q then f (11 + 52 * e + p) else if c = p then f (11 + 52 * e + q) else f (11 + 52 * e + c) := by
  unfold xSwap
  rw [up1_app, up1_app]
  by_cases a : c = q
  · rw [if_pos (by omega), if_pos a]
  · rw [if_neg (by omega), if_neg a]
    by_cases b : c = p
    · rw [if_pos (by omega), if_pos b]
    · rw [if_neg (by omega), if_neg b]
theorem xSwap_out {f : Nat → Nat} {e p q i : Nat} (hp : p < 8) (hq : q < 8) (h : i < 11 + 52 * e ∨ 19 + 52 * e ≤ i) : xSwap f e p q i = f i := by
  unfold xSwap
  rw [up1_ne (by omega), up1_ne (by omega)]
theorem xSwap_ok {f : Nat → Nat} {e p q : Nat} (hok : EOk f (7 + 52 * e)) (hp : p < f (7 + 52 * e)) (hq : q < f (7 + 52 * e)) : EOk (xSwap f e p q) (7 + 52 * e) := by
  obtain ⟨h0, h8, h1, h2, h3, ho, hj, hk⟩ := hok
  have out : ∀ i, (i < 11 + 52 * e ∨ 19 + 52 * e ≤ i) → xSwap f e p q i = f i := fun i a => xSwap_out (by omega) (by omega) a
  have s4 : 7 + 52 * e + 4 = 11 + 52 * e := by omega
  unfold EOk
  rw [s4] at ho hj ⊢
  rw [out (7 + 52 * e) (by omega), out (7 + 52 * e + 1) (by omega), out (7 + 52 * e + 2) (by omega), out (7 + 52 * e + 3) (by omega)]
  refine ⟨h0, h8, h1, h2, h3, fun c hc => ?_, fun c c' hc hc' z => ?_, fun i hi => by rw [out _ (by omega)]; exact hk i hi⟩
  · rw [xSwap_app]
    split
    · exact ho p hp
    · split
      · exact ho q hq
      · exact ho c hc
  · rw [xSwap_app, xSwap_app] at z
    by_cases a : c = q
    · rw [if_pos a] at z
      by_cases b : c' = q
      · omega
      · rw [if_neg b] at z
        by_cases d : c' = p
        · rw [if_pos d] at z
          have := hj p q hp hq z
          omega
        · rw [if_neg d] at z
          have := hj p c' hp hc' z
          omega
    · rw [if_neg a] at z
      by_cases x : c = p
      · rw [if_pos x] at z
        by_cases b : c' = q
        · rw [if_pos b] at z
          have := hj q p hq hp z
          omega
        · rw [if_neg b] at z
          by_cases d : c' = p
          · omega
          · rw [if_neg d] at z
            have := hj q c' hq hc' z
            omega
      · rw [if_neg x] at z
        by_cases b : c' = q
        · rw [if_pos b] at z
          have := hj c p hc hp z
          omega
        · rw [if_neg b] at z
          by_cases d : c' = p
          · rw [if_pos d] at z
            have := hj c q hc hq z
            omega
          · rw [if_neg d] at z
            exact hj c c' hc hc' z
theorem xSwap_WF {f : Nat → Nat} {e p q B : Nat} (hw : WF f B) (he : e < f 0) (hp : p < f (7 + 52 * e)) (hq : q < f (7 + 52 * e)) : WF (xSwap f e p q) B := by
  have h0 := hw.1
  have ho := hw.2.2.2.2.2.1
  have hB := hw.2.2.2.2.2.2.2.2.1
  have h8 := (ho e he).2.1
  have out : ∀ i, (i < 11 + 52 * e ∨ 19 + 52 * e ≤ i) → xSwap f e p q i = f i := fun i a => xSwap_out (by omega) (by omega) a
  refine WF_mk hw (by rw [out 2 (by omega)]; exact hw.2.1) (fun i _ _ h => out i (by omega)) (fun a ha => ?_) (fun i hi => ?_) hw.2.2.2.2.2.2.2.2.2
  · by_cases z : a = e
    · subst z; exact xSwap_ok (ho a ha) hp hq
    · exact EEq.ok (ho a ha) (fun i x y => out i (by omega))
  · by_cases z : 11 + 52 * e ≤ i ∧ i < 19 + 52 * e
    · obtain ⟨c, rfl⟩ : ∃ c, i = 11 + 52 * e + c := ⟨i - (11 + 52 * e), by omega⟩
      rw [xSwap_app]
      split
      · exact hB _ (by omega)
      · split
        · exact hB _ (by omega)
        · exact hB _ hi
    · rw [out i (by omega)]; exact hB i hi
theorem CA_same {J J2 : DJ} {b B : Nat} {f f2 : Nat → Nat} (h : CA J b f B) (r7 : J2 b 7 = J b 7) (r8 : J2 b 8 = J b 8) (r9 : J2 b 9 = J b 9) (e2 : f2 2 = f 2) (eo : allOil f2 = allOil f) : CA J2 b f2 B := by
  unfold CA
  rw [r7, r8, r9, e2, eo]
  exact h
theorem CP_swap {J : DJ} {b e p q B B0 : Nat} {f : Nat → Nat} (h : CP J b f B0) (hw : WF f B) (he : e < f 0) (hp : p < f (7 + 52 * e)) (hq : q < f (7 + 52 * e)) : Fr b 30 J (up2 (up2 J (b + 10 + 5 * e + 1) p (J (b + 10 + 5 * e + 1) q)) (b + 10 + 5 * e + 1) q (J (b + 10 + 5 * e + 1) p)) ∧ CP (up2 (up2 J (b + 10 + 5 * e + 1) p (J (b + 10 + 5 * e + 1) q)) (b + 10 + 5 * e + 1) q (J (b + 10 + 5 * e + 1) p)) b (xSwap f e p q) B0 ∧ up2 (up2 J (b + 10 + 5 * e + 1) p (J (b + 10 + 5 * e + 1) q)) (b + 10 + 5 * e + 1) q (J (b + 10 + 5 * e + 1) p) (b + 10 + 5 * e + 1) p = xSwap f e p q (11 + 52 * e + p) := by
  have h0 := hw.1
  have ho := hw.2.2.2.2.2.1
  have hok := ho e he
  have h8 := hok.2.1
  have ce := h.1.2.2.2.2 e he
  have out : ∀ i, (i < 11 + 52 * e ∨ 19 + 52 * e ≤ i) → xSwap f e p q i = f i := fun i a => xSwap_out (by omega) (by omega) a
  have ap : ∀ c, c < f (7 + 52 * e) → up2 (up2 J (b + 10 + 5 * e + 1) p (J (b + 10 + 5 * e + 1) q)) (b + 10 + 5 * e + 1) q (J (b + 10 + 5 * e + 1) p) (b + 10 + 5 * e + 1) c = xSwap f e p q (11 + 52 * e + c) := by
    intro c hc
    have cp := (ce.2.2.2.2.2.1 p hp).1
    have cq := (ce.2.2.2.2.2.1 q hq).1
    have cc := (ce.2.2.2.2.2.1 c hc).1
    rw [show 7 + 52 * e + 4 = 11 + 52 * e by omega] at cp cq cc
    rw [xSwap_app, up2_app, up2_app, cp, cq, cc]
    by_cases a : c = q
    · rw [if_pos ⟨rfl, a⟩, if_pos a]
    · rw [if_neg (fun z => a z.2), if_neg a]
      by_cases d : c = p
      · rw [if_pos ⟨rfl, d⟩, if_pos d]
      · rw [if_neg (fun z => d z.2), if_neg d]
  have fr : Fr (b + 10 + 5 * e) 5 J (up2 (up2 J (b + 10 + 5 * e + 1) p (J (b + 10 + 5 * e + 1) q)) (b + 10 + 5 * e + 1) q (J (b + 10 + 5 * e + 1) p)) := (Fr.refl.up (by omega)).up (by omega)
  refine ⟨fr.sub (by omega), ⟨CQ_eng h.1 hw he fr (fun i a => out i (by omega)) ?_, CA_same h.2 ?_ ?_ ?_ (out 2 (by omega)) ?_⟩, ap p hp⟩
  · refine CE_row ce hok ?_ ?_ (fun i hi => out _ (by omega)) (fun i hi => out _ (by omega)) (fun c hc => ⟨?_, ?_, ?_⟩)
    · rw [up2_ne (by omega), up2_ne (by omega)]
    · rw [up2_ne (by omega), up2_ne (by omega)]
    · rw [ap c hc, show 7 + 52 * e + 4 = 11 + 52 * e by omega]
    · rw [up2_ne (by omega), up2_ne (by omega), out _ (by omega)]; exact (ce.2.2.2.2.2.1 c hc).2.1
    · rw [up2_ne (by omega), up2_ne (by omega), out _ (by omega)]; exact (ce.2.2.2.2.2.1 c hc).2.2
  · rw [up2_ne (by omega), up2_ne (by omega)]
  · rw [up2_ne (by omega), up2_ne (by omega)]
  · rw [up2_ne (by omega), up2_ne (by omega)]
  · unfold allOil
    rw [out 0 (by omega)]
    refine sumN_congr _ (fun a ha => ?_)
    unfold eOil
    rw [out _ (by omega)]
    exact sumN_congr _ (fun c hc => out _ (by have := (ho a ha).2.1; omega))
/-- another rate -/
theorem xRate_out {f : Nat → Nat} {e s i : Nat} (h : i ≠ 9 + 52 * e) : xRate f e s i = f i := up1_ne h
theorem xRate_WF {f : Nat → Nat} {e s B : Nat} (hw : WF f B) (he : e < f 0) (hs : s ≤ 9) : WF (xRate f e s) B := by
  have h0 := hw.1
  have ho := hw.2.2.2.2.2.1
  have hB := hw.2.2.2.2.2.2.2.2.1
  have h5 := hw.2.2.2.2.2.2.2.2.2
  refine WF_mk hw (by rw [xRate_out (by omega)]; exact hw.2.1) (fun i _ _ h => xRate_out (by omega)) (fun a ha => ?_) (fun i hi => ?_) h5
  · by_cases z : a = e
    · subst z
      obtain ⟨b0, b8, b1, b2, b3, bo, bj, bk⟩ := ho a ha
      unfold EOk
      rw [xRate_out (by omega), xRate_out (i := 7 + 52 * a + 1) (by omega), xRate_out (i := 7 + 52 * a + 3) (by omega)]
      refine ⟨b0, b8, b1, ?_, b3, fun c hc => by rw [xRate_out (by omega)]; exact bo c hc, fun c c' hc hc' q => by rw [xRate_out (by omega), xRate_out (by omega)] at q; exact bj c c' hc hc' q, fun i hi => by rw [xRate_out (by omega)]; exact bk i hi⟩
      unfold xRate
      rw [up1_app, if_pos (by omega)]
      exact hs
    · exact EEq.ok (ho a ha) (fun i x y => xRate_out (by omega))
  · unfold xRate
    rw [up1_app]
    split
    · omega
    · exact hB i hi
theorem CP_rate {J : DJ} {b e s B B0 : Nat} {f : Nat → Nat} (h : CP J b f B0) (hw : WF f B) (he : e < f 0) : Fr b 30 J (up2 J (b + 10 + 5 * e) 8 s) ∧ CP (up2 J (b + 10 + 5 * e) 8 s) b (xRate f e s) B0 := by
  have h0 := hw.1
  have ho := hw.2.2.2.2.2.1
  have hok := ho e he
  have ce := h.1.2.2.2.2 e he
  have fr : Fr (b + 10 + 5 * e) 5 J (up2 J (b + 10 + 5 * e) 8 s) := Fr.refl.up (by omega)
  have rn : ∀ j, j ≠ 8 → up2 J (b + 10 + 5 * e) 8 s (b + 10 + 5 * e) j = J (b + 10 + 5 * e) j := fun j hj => by rw [up2_app, if_neg (fun z => hj z.2)]
  refine ⟨fr.sub (by omega), CQ_eng h.1 hw he fr (fun i a => xRate_out (by omega)) ?_, CA_same h.2 ?_ ?_ ?_ (xRate_out (by omega)) ?_⟩
  · obtain ⟨a0, a1, a2, a3, a4, a5, a6⟩ := ce
    unfold CE
    rw [rn 6 (by omega), rn 7 (by omega), rn 5 (by omega), rn 4 (by omega), xRate_out (by omega), xRate_out (i := 7 + 52 * e + 1) (by omega), xRate_out (i := 7 + 52 * e + 3) (by omega)]
    refine ⟨a0, a1, ?_, a3, a4, fun c hc => ?_, fun i hi => ?_⟩
    · unfold xRate
      rw [up1_app, if_pos (by omega), up2_app, if_pos ⟨rfl, rfl⟩]
    · have := hok.2.1
      rw [up2_ne (by omega), up2_ne (by omega), up2_ne (by omega), xRate_out (by omega), xRate_out (by omega), xRate_out (by omega)]; exact a5 c hc
    · rw [up2_ne (by omega), xRate_out (by omega)]; exact a6 i hi
  · rw [up2_ne (by omega)]
  · rw [up2_ne (by omega)]
  · rw [up2_ne (by omega)]
  · unfold allOil
    rw [xRate_out (by omega)]
    refine sumN_congr _ (fun a ha => ?_)
    unfold eOil
    rw [xRate_out (by omega)]
    exact sumN_congr _ (fun c hc => xRate_out (by have := (ho a ha).2.1; omega))
/-- oil in one cylinder -/
theorem put_WF {f : Nat → Nat} {e c v B B2 : Nat} (hw : WF f B) (he : e < f 0) (hc : c < f (7 + 52 * e)) (hv : v ≤ B2) (hB2 : B ≤ B2) : WF (up1 f (19 + 52 * e + c) v) B2 := by
  have h0 := hw.1
  have ho := hw.2.2.2.2.2.1
  have hB := hw.2.2.2.2.2.2.2.2.1
  have h5 := hw.2.2.2.2.2.2.2.2.2
  have h8 := (ho e he).2.1
  have ne : ∀ i, i ≠ 19 + 52 * e + c → up1 f (19 + 52 * e + c) v i = f i := fun i hi => up1_ne hi
  refine WF_mk hw (by rw [ne 2 (by omega)]; exact hw.2.1) (fun i _ _ h => ne i (by omega)) (fun a ha => ?_) (fun i hi => ?_) (by omega)
  · by_cases z : a = e
    · subst z
      obtain ⟨b0, b8, b1, b2, b3, bo, bj, bk⟩ := ho a ha
      unfold EOk
      rw [ne _ (by omega), ne (7 + 52 * a + 1) (by omega), ne (7 + 52 * a + 2) (by omega), ne (7 + 52 * a + 3) (by omega)]
      exact ⟨b0, b8, b1, b2, b3, fun d hd => by rw [ne _ (by omega)]; exact bo d hd, fun d d' hd hd' q => by rw [ne _ (by omega), ne _ (by omega)] at q; exact bj d d' hd hd' q, fun i hi => by rw [ne _ (by omega)]; exact bk i hi⟩
    · exact EEq.ok (ho a ha) (fun i x y => ne i (by omega))
  · rw [up1_app]
    split
    · exact hv
    · exact Nat.le_trans (hB i hi) hB2
theorem CQ_put {J : DJ} {b e c v B : Nat} {f : Nat → Nat} (h : CQ J b f) (hw : WF f B) (he : e < f 0) (hc : c < f (7 + 52 * e)) : CQ (up2 J (b + 10 + 5 * e + 2) c v) b (up1 f (19 + 52 * e + c) v) := by
  have h0 := hw.1
  have ho := hw.2.2.2.2.2.1
  have hok := ho e he
  have h8 := hok.2.1
  have ce := h.2.2.2.2 e he
  have ne : ∀ i, i ≠ 19 + 52 * e + c → up1 f (19 + 52 * e + c) v i = f i := fun i hi => up1_ne hi
  refine CQ_eng h hw he (Fr.refl.up (by omega)) (fun i a => ne i (by omega)) ?_
  refine CE_row ce hok ?_ ?_ (fun i hi => ne _ (by omega)) (fun i hi => ne _ (by omega)) (fun d hd => ⟨?_, ?_, ?_⟩)
  · rw [up2_ne (by omega)]
  · rw [up2_ne (by omega)]
  · rw [up2_ne (by omega), ne _ (by omega)]; exact (ce.2.2.2.2.2.1 d hd).1
  · rw [up2_app, up1_app]
    by_cases z : d = c
    · rw [if_pos ⟨rfl, z⟩, if_pos (by omega)]
    · rw [if_neg (fun y => z y.2), if_neg (by omega)]; exact (ce.2.2.2.2.2.1 d hd).2.1
  · rw [up2_ne (by omega), ne _ (by omega)]; exact (ce.2.2.2.2.2.1 d hd).2.2
theorem put_oil {f : Nat → Nat} {e c v B : Nat} (hw : WF f B) (he : e < f 0) (hc : c < f (7 + 52 * e)) : allOil (up1 f (19 + 52 * e + c) v) + f (19 + 52 * e + c) = allOil f + v := by
  have h0 := hw.1
  have ho := hw.2.2.2.2.2.1
  have h8 := (ho e he).2.1
  have ne : ∀ i, i ≠ 19 + 52 * e + c → up1 f (19 + 52 * e + c) v i = f i := fun i hi => up1_ne hi
  have a := allOil_one (f' := up1 f (19 + 52 * e + c) v) h0 he (ne 0 (by omega)) ho (fun a ha hn i x y => ne i (by omega))
  have s : sumN (up1 (fun c => f (7 + 52 * e + 12 + c)) c v) (f (7 + 52 * e)) + f (7 + 52 * e + 12 + c) = sumN (fun c => f (7 + 52 * e + 12 + c)) (f (7 + 52 * e)) + v := sumN_up _ hc
  have z : eOil (up1 f (19 + 52 * e + c) v) (7 + 52 * e) = sumN (up1 (fun c => f (7 + 52 * e + 12 + c)) c v) (f (7 + 52 * e)) := by
    unfold eOil
    rw [ne _ (by omega)]
    refine sumN_congr _ (fun d hd => ?_)
    simp only [up1_app]
    by_cases q : d = c
    · rw [if_pos (by omega), if_pos q]
    · rw [if_neg (by omega), if_neg q]
  have w : eOil f (7 + 52 * e) = sumN (fun c => f (7 + 52 * e + 12 + c)) (f (7 + 52 * e)) := rfl
  have i : f (19 + 52 * e + c) = f (7 + 52 * e + 12 + c) := by rw [show 19 + 52 * e + c = 7 + 52 * e + 12 + c by omega]
  rw [z, w] at a
  omega
theorem store_WF {f : Nat → Nat} {v B : Nat} (hw : WF f B) (hv : v ≤ 500) : WF (up1 f 2 v) B := by
  have h0 := hw.1
  have h5 := hw.2.2.2.2.2.2.2.2.2
  refine WF_mk hw (by rw [up1_self]; exact hv) (fun i h _ _ => up1_ne h) (fun a ha => EEq.ok (hw.2.2.2.2.2.1 a ha) (fun i x y => up1_ne (by omega))) (fun i hi => ?_) h5
  rw [up1_app]
  split
  · omega
  · exact hw.2.2.2.2.2.2.2.2.1 i hi
theorem store_oil {f : Nat → Nat} {v B : Nat} (hw : WF f B) : allOil (up1 f 2 v) = allOil f := allOil_same (up1_ne (by omega)) hw.2.2.2.2.2.1 (fun a ha i x y => up1_ne (by omega))
theorem CQ_store {J : DJ} {b v B : Nat} {f : Nat → Nat} (h : CQ J b f) (hw : WF f B) : CQ (up2 J b 6 v) b (up1 f 2 v) := by
  have rn : ∀ j, j ≠ 6 → up2 J b 6 v b j = J b j := fun j hj => by rw [up2_app, if_neg (fun z => hj z.2)]
  refine CQ_sc h hw (fun c hc => up2_ne hc) (fun i hi => up1_ne (by omega)) (up1_ne (by omega)) (up1_ne (by omega)) (up1_ne (by omega)) ?_
  have s := h.1
  rw [rn 4 (by omega), rn 5 (by omega), rn 10 (by omega), rn 11 (by omega), up2_app, if_pos ⟨rfl, rfl⟩, up1_self, up1_ne (by omega), up1_ne (by omega), up1_ne (by omega), up1_ne (by omega)]
  exact ⟨s.1, s.2.1, rfl, s.2.2.2.1, s.2.2.2.2⟩
theorem CP_oil {J : DJ} {b e c u B B0 : Nat} {f : Nat → Nat} (h : CP J b f B0) (hw : WF f B) (he : e < f 0) (hc : c < f (7 + 52 * e)) (hu : u ≤ f 2) : Fr b 30 J (up2 (up2 J b 6 (f 2 - u)) (b + 10 + 5 * e + 2) c (f (19 + 52 * e + c) + u)) ∧ CP (up2 (up2 J b 6 (f 2 - u)) (b + 10 + 5 * e + 2) c (f (19 + 52 * e + c) + u)) b (xOil f e c u) B0 := by
  have h2 := hw.2.1
  have h0 := hw.1
  have w1 := store_WF hw (v := f 2 - u) (by omega)
  have q1 := CQ_store h.1 hw (v := f 2 - u)
  have z := put_oil (v := f (19 + 52 * e + c) + u) w1 (e := e) (c := c) (by rw [up1_ne (by omega)]; exact he) (by rw [up1_ne (by omega)]; exact hc)
  rw [up1_ne (by omega), store_oil hw] at z
  refine ⟨(Fr.refl.up (by omega)).up (by omega), CQ_put q1 w1 (by rw [up1_ne (by omega)]; exact he) (by rw [up1_ne (by omega)]; exact hc), ?_⟩
  obtain ⟨a1, a2, a3⟩ := h.2
  have rn : ∀ j, j ≠ 6 → up2 (up2 J b 6 (f 2 - u)) (b + 10 + 5 * e + 2) c (f (19 + 52 * e + c) + u) b j = J b j := fun j hj => by rw [up2_ne (by omega), up2_app, if_neg (fun z => hj z.2)]
  unfold CA
  rw [rn 7 (by omega), rn 8 (by omega), rn 9 (by omega)]
  unfold xOil
  rw [up1_ne (by omega), up1_self]
  omega
theorem xOil_WF {f : Nat → Nat} {e c u B : Nat} (hw : WF f B) (he : e < f 0) (hc : c < f (7 + 52 * e)) (hu : u ≤ f 2) : WF (xOil f e c u) (B + u) := by
  have h2 := hw.2.1
  have h0 := hw.1
  have w1 := store_WF hw (v := f 2 - u) (by omega)
  have hB := hw.2.2.2.2.2.2.2.2.1 (19 + 52 * e + c) (by have := (hw.2.2.2.2.2.1 e he).2.1; omega)
  exact put_WF w1 (by rw [up1_ne (by omega)]; exact he) (by rw [up1_ne (by omega)]; exact hc) (by omega) (by omega)
theorem CP_buy {J : DJ} {b u B B0 : Nat} {f : Nat → Nat} (h : CP J b f B0) (hw : WF f B) : Fr b 30 J (up2 (up2 J b 6 (f 2 + u)) b 8 (J b 8 + u)) ∧ CP (up2 (up2 J b 6 (f 2 + u)) b 8 (J b 8 + u)) b (xBuy f u) (B0 + u) := by
  have q1 := CQ_store h.1 hw (v := f 2 + u)
  have rn : ∀ j, j ≠ 8 → up2 (up2 J b 6 (f 2 + u)) b 8 (J b 8 + u) b j = up2 J b 6 (f 2 + u) b j := fun j hj => by rw [up2_app, if_neg (fun z => hj z.2)]
  have r2 : ∀ j, j ≠ 6 → up2 J b 6 (f 2 + u) b j = J b j := fun j hj => by rw [up2_app, if_neg (fun z => hj z.2)]
  obtain ⟨⟨s4, s5, s6, s10, s11⟩, mk, cr, cb, ce⟩ := q1
  refine ⟨(Fr.refl.up (by omega)).up (by omega), ⟨?_, ?_, ?_, ?_, ?_⟩, ?_⟩
  · rw [rn 4 (by omega), rn 5 (by omega), rn 6 (by omega), rn 10 (by omega), rn 11 (by omega)]; exact ⟨s4, s5, s6, s10, s11⟩
  · rw [up2_ne (by omega)]; exact mk
  · exact CR_fr cr (fun c x y => up2_ne (by omega))
  · exact CB_fr cb (fun c x y => up2_ne (by omega))
  · exact fun e he => CE_fr (ce e he) (fun c x y => up2_ne (by omega))
  · obtain ⟨a1, a2, a3⟩ := h.2
    have z := store_oil (v := f 2 + u) hw
    unfold CA xBuy
    rw [rn 7 (by omega), r2 7 (by omega), rn 9 (by omega), r2 9 (by omega), up2_app, if_pos ⟨rfl, rfl⟩, up1_self, z]
    omega
theorem xBuy_WF {f : Nat → Nat} {u B : Nat} (hw : WF f B) (h : f 2 + u ≤ 500) : WF (xBuy f u) B := store_WF hw h
