/-! THE HOUSE'S PICTURE UNDER CHANGES, THIRD: monks, repairs, hours -/
theorem CQ_monk {J : DJ} {b m v B : Nat} {f : Nat → Nat} (h : CQ J b f) (hw : WF f B) (hm : m < 6) : CQ (up2 J (b + 2) m v) b (up1 f (215 + m) v) := by
  obtain ⟨h0, h2, h3, hh, hr, ho, hu, hm', hB, h5⟩ := hw
  obtain ⟨sc, mk, cr, cb, ce⟩ := h
  have ne : ∀ i, i ≠ 215 + m → up1 f (215 + m) v i = f i := fun i hi => up1_ne hi
  refine ⟨?_, ?_, ?_, ?_, ?_⟩
  · rw [up2_ne (by omega), ne 0 (by omega), ne 1 (by omega), ne 2 (by omega), ne 3 (by omega), ne 5 (by omega)]; exact sc
  · intro i hi
    rw [up2_app, up1_app]
    by_cases q : i = m
    · rw [if_pos ⟨rfl, q⟩, if_pos (by omega)]
    · rw [if_neg (fun z => q z.2), if_neg (by omega)]; exact mk i hi
  · exact CR_cong (CR_fr cr (fun c a d => up2_ne (by omega))) (ne 4 (by omega)) (fun i a d => ne i (by omega)) hr.1
  · exact CB_cong2 (CB_fr cb (fun c a d => up2_ne (by omega))) (ne 6 (by omega)) (fun i a d => ne i (by omega)) hh.1
  · rw [ne 0 (by omega)]
    intro a ha
    exact CE_cong (CE_fr (ce a ha) (fun c x y => up2_ne (by omega))) (fun i x y => ne i (by omega)) (ho a ha).2.1 (ho a ha).2.2.2.2.1
theorem CP_able {J : DJ} {b m v B B0 : Nat} {f : Nat → Nat} (h : CP J b f B0) (hw : WF f B) (hm : m < 6) : Fr b 30 J (up2 J (b + 2) m v) ∧ CP (up2 J (b + 2) m v) b (up1 f (215 + m) v) B0 := by
  have h0 := hw.1
  refine ⟨Fr.refl.up (by omega), CQ_monk h.1 hw hm, CA_same h.2 ?_ ?_ ?_ (up1_ne (by omega)) ?_⟩
  · rw [up2_ne (by omega)]
  · rw [up2_ne (by omega)]
  · rw [up2_ne (by omega)]
  · exact allOil_same (up1_ne (by omega)) hw.2.2.2.2.2.1 (fun a ha i x y => up1_ne (by omega))
theorem able_WF {f : Nat → Nat} {m v B : Nat} (hw : WF f B) (hm : m < f 3) (hv : v < 256) : WF (up1 f (215 + m) v) B := by
  obtain ⟨h0, h2, h3, hh, hr, ho, hu, hm', hB, h5⟩ := hw
  have ne : ∀ i, i ≠ 215 + m → up1 f (215 + m) v i = f i := fun i hi => up1_ne hi
  refine ⟨by rw [ne 0 (by omega)]; exact h0, by rw [ne 2 (by omega)]; exact h2, by rw [ne 3 (by omega)]; exact h3, HOk_cong hh ⟨ne 1 (by omega), ne 6 (by omega), fun k a b => ne k (by omega)⟩, ROk_cong hr (ne 0 (by omega)) (ne 4 (by omega)) (fun i a b => ne i (by omega)), ?_, UOk_cong hu (ne 0 (by omega)) (fun i a b => ne i (by omega)), ?_, ?_, h5⟩
  · rw [ne 0 (by omega)]
    intro e he
    exact EEq.ok (ho e he) (fun i x y => ne i (by omega))
  · intro i hi
    rw [ne 3 (by omega), up1_app]
    split
    · exact ⟨hv, fun z => absurd z (by omega)⟩
    · exact hm' i hi
  · intro i hi
    rw [up1_app]
    split
    · omega
    · exact hB i hi
theorem CP_monk {J : DJ} {b B B0 : Nat} {f : Nat → Nat} (h : CP J b f B0) (hw : WF f B) (hm : f 3 < 6) : Fr b 30 J (up2 (up2 J (b + 2) (f 3) 0) b 5 (f 3 + 1)) ∧ CP (up2 (up2 J (b + 2) (f 3) 0) b 5 (f 3 + 1)) b (xMonk f) B0 := by
  have z0 := (hw.2.2.2.2.2.2.2.1 (f 3) hm).2 (Nat.le_refl _)
  have q := CP_able (v := 0) h hw hm
  have e0 : up1 f (215 + f 3) 0 = f := by
    have := @up1_id f (215 + f 3)
    rw [z0] at this
    exact this
  rw [e0] at q
  have rn : ∀ j, j ≠ 5 → up2 (up2 J (b + 2) (f 3) 0) b 5 (f 3 + 1) b j = up2 J (b + 2) (f 3) 0 b j := fun j hj => by rw [up2_app, if_neg (fun z => hj z.2)]
  refine ⟨(Fr.refl.up (by omega)).up (by omega), CQ_sc q.2.1 hw (fun c hc => up2_ne hc) (fun i hi => up1_ne (by omega)) (up1_ne (by omega)) (up1_ne (by omega)) (up1_ne (by omega)) ?_, CA_same q.2.2 (rn 7 (by omega)) (rn 8 (by omega)) (rn 9 (by omega)) (up1_ne (by omega)) (allOil_same (up1_ne (by omega)) hw.2.2.2.2.2.1 (fun a ha i x y => up1_ne (by omega)))⟩
  have s := q.2.1.1
  have r5 : up2 (up2 J (b + 2) (f 3) 0) b 5 (f 3 + 1) b 5 = f 3 + 1 := by rw [up2_app, if_pos ⟨rfl, rfl⟩]
  unfold xMonk
  rw [rn 4 (by omega), rn 6 (by omega), rn 10 (by omega), rn 11 (by omega), r5, up1_self, up1_ne (by omega), up1_ne (by omega), up1_ne (by omega), up1_ne (by omega)]
  exact ⟨s.1, rfl, s.2.2.1, s.2.2.2.1, s.2.2.2.2⟩
theorem xMonk_WF {f : Nat → Nat} {B : Nat} (hw : WF f B) (h : f 3 < 6) : WF (xMonk f) B := by
  obtain ⟨h0, h2, h3, hh, hr, ho, hu, hm', hB, h5⟩ := hw
  have ne : ∀ i, i ≠ 3 → xMonk f i = f i := fun i hi => up1_ne hi
  have e3 : xMonk f 3 = f 3 + 1 := up1_self
  refine ⟨by rw [ne 0 (by omega)]; exact h0, by rw [ne 2 (by omega)]; exact h2, by rw [e3]; omega, HOk_cong hh ⟨ne 1 (by omega), ne 6 (by omega), fun k a b => ne k (by omega)⟩, ROk_cong hr (ne 0 (by omega)) (ne 4 (by omega)) (fun i a b => ne i (by omega)), ?_, UOk_cong hu (ne 0 (by omega)) (fun i a b => ne i (by omega)), ?_, ?_, h5⟩
  · rw [ne 0 (by omega)]
    intro e he
    exact EEq.ok (ho e he) (fun i x y => ne i (by omega))
  · intro i hi
    have := hm' i hi
    rw [e3, ne _ (by omega)]
    exact ⟨this.1, fun z => this.2 (by omega)⟩
  · intro i hi
    by_cases q : i = 3
    · subst q; rw [e3]; omega
    · rw [ne i q]; exact hB i hi
/-- the repairs alone -/
theorem CP_reps {J J2 : DJ} {b B B0 : Nat} {f f2 : Nat → Nat} (h : CP J b f B0) (hw : WF f B) (fr : Fr (b + 3) 4 J J2) (out : ∀ i, i ≠ 4 → (i < 221 ∨ 245 ≤ i) → f2 i = f i) (cr2 : CR J2 (b + 3) f2) : Fr b 30 J J2 ∧ CP J2 b f2 B0 := by
  obtain ⟨h0, h2, h3, hh, hr, ho, hu, hm', hB, h5⟩ := hw
  obtain ⟨⟨sc, mk, cr, cb, ce⟩, ca⟩ := h
  refine ⟨fr.sub (by omega), ⟨?_, ?_, cr2, ?_, ?_⟩, CA_same ca ?_ ?_ ?_ (out 2 (by omega) (by omega)) ?_⟩
  · rw [fr b (by omega), out 0 (by omega) (by omega), out 1 (by omega) (by omega), out 2 (by omega) (by omega), out 3 (by omega) (by omega), out 5 (by omega) (by omega)]; exact sc
  · intro i hi
    rw [fr (b + 2) (by omega), out (215 + i) (by omega) (by omega)]; exact mk i hi
  · exact CB_cong2 (CB_fr cb (fun c a d => fr c (by omega))) (out 6 (by omega) (by omega)) (fun i a d => out i (by omega) (by omega)) hh.1
  · rw [out 0 (by omega) (by omega)]
    intro a ha
    exact CE_cong (CE_fr (ce a ha) (fun c x y => fr c (by omega))) (fun i x y => out i (by omega) (by omega)) (ho a ha).2.1 (ho a ha).2.2.2.2.1
  · rw [fr b (by omega)]
  · rw [fr b (by omega)]
  · rw [fr b (by omega)]
  · exact allOil_same (out 0 (by omega) (by omega)) ho (fun a ha i x y => out i (by omega) (by omega))
theorem mAsk_out {f : Nat → Nat} {e t p i : Nat} (h8 : f 4 < 8) (h4 : i ≠ 4) (h : i < 221 ∨ 245 ≤ i) : mAsk f e t p i = f i := by
  unfold mAsk
  rw [up1_ne h4, up1_ne (by omega), up1_ne (by omega), up1_ne (by omega)]
theorem mDrop_out {f : Nat → Nat} {p i : Nat} (h4 : i ≠ 4) (h : i < 221 ∨ 245 ≤ i) : mDrop f p i = f i := by
  unfold mDrop
  rw [up1_ne h4, if_neg (by omega), if_neg (by omega)]
theorem reps_WF {f f2 : Nat → Nat} {B : Nat} (hw : WF f B) (out : ∀ i, i ≠ 4 → (i < 221 ∨ 245 ≤ i) → f2 i = f i) (hr2 : ROk f2) (hB2 : ∀ i, 221 ≤ i → i < 245 → f2 i ≤ B) : WF f2 B := by
  obtain ⟨h0, h2, h3, hh, hr, ho, hu, hm', hB, h5⟩ := hw
  refine ⟨by rw [out 0 (by omega) (by omega)]; exact h0, by rw [out 2 (by omega) (by omega)]; exact h2, by rw [out 3 (by omega) (by omega)]; exact h3, HOk_cong hh ⟨out 1 (by omega) (by omega), out 6 (by omega) (by omega), fun k a b => out k (by omega) (by omega)⟩, hr2, ?_, UOk_cong hu (out 0 (by omega) (by omega)) (fun i a b => out i (by omega) (by omega)), MOk_cong hm' (out 3 (by omega) (by omega)) (fun i a b => out i (by omega) (by omega)), ?_, h5⟩
  · rw [out 0 (by omega) (by omega)]
    intro e he
    exact EEq.ok (ho e he) (fun i x y => out i (by omega) (by omega))
  · intro i hi
    by_cases q : i = 4
    · subst q; have := hr2.1; omega
    · by_cases q2 : 221 ≤ i ∧ i < 245
      · exact hB2 i q2.1 q2.2
      · rw [out i q (by omega)]; exact hB i hi
theorem mAsk_WF {f : Nat → Nat} {e t p B : Nat} (hw : WF f B) (h8 : f 4 < 8) (he : e < f 0) (ht : 1 ≤ t) (ht9 : t ≤ 9) (hp : 1 ≤ p) (hp9 : p ≤ 9) : WF (mAsk f e t p) B := by
  have h5 := hw.2.2.2.2.2.2.2.2.2
  have h0 := hw.1
  refine reps_WF hw (fun i a b => mAsk_out h8 a b) ?_ ?_
  · have hr := hw.2.2.2.2.1
    unfold ROk
    have e4 : mAsk f e t p 4 = f 4 + 1 := up1_self
    rw [e4, mAsk_out h8 (by omega) (by omega)]
    refine ⟨by omega, fun i hi => ?_⟩
    by_cases q : i = f 4
    · unfold mAsk
      rw [up1_ne (show 221 + 3 * i ≠ 4 by omega), up1_ne (show 221 + 3 * i ≠ 223 + 3 * f 4 by omega), up1_ne (show 221 + 3 * i ≠ 222 + 3 * f 4 by omega), up1_ne (show 222 + 3 * i ≠ 4 by omega), up1_ne (show 222 + 3 * i ≠ 223 + 3 * f 4 by omega), up1_ne (show 223 + 3 * i ≠ 4 by omega), q, up1_self, up1_self, up1_self]
      exact ⟨he, ht, ht9, hp, hp9⟩
    · have z := hr.2 i (by omega)
      unfold mAsk
      rw [up1_ne (show 221 + 3 * i ≠ 4 by omega), up1_ne (show 221 + 3 * i ≠ 223 + 3 * f 4 by omega), up1_ne (show 221 + 3 * i ≠ 222 + 3 * f 4 by omega), up1_ne (show 221 + 3 * i ≠ 221 + 3 * f 4 by omega), up1_ne (show 222 + 3 * i ≠ 4 by omega), up1_ne (show 222 + 3 * i ≠ 223 + 3 * f 4 by omega), up1_ne (show 222 + 3 * i ≠ 222 + 3 * f 4 by omega), up1_ne (show 222 + 3 * i ≠ 221 + 3 * f 4 by omega), up1_ne (show 223 + 3 * i ≠ 4 by omega), up1_ne (show 223 + 3 * i ≠ 223 + 3 * f 4 by omega), up1_ne (show 223 + 3 * i ≠ 222 + 3 * f 4 by omega), up1_ne (show 223 + 3 * i ≠ 221 + 3 * f 4 by omega)]
      exact z
  · intro i a b
    have := hw.2.2.2.2.2.2.2.2.1 i (by omega)
    unfold mAsk
    rw [up1_ne (by omega), up1_app]
    split
    · omega
    · rw [up1_app]
      split
      · omega
      · rw [up1_app]
        split <;> omega
theorem mDrop_WF {f : Nat → Nat} {p B : Nat} (hw : WF f B) (hp : p < f 4) : WF (mDrop f p) B := by
  refine reps_WF hw (fun i a b => mDrop_out a b) ?_ ?_
  · have hr := hw.2.2.2.2.1
    have r8 := hr.1
    unfold ROk
    have e4 : mDrop f p 4 = f 4 - 1 := up1_self
    rw [e4, mDrop_out (by omega) (by omega)]
    refine ⟨by omega, fun i hi => ?_⟩
    unfold mDrop
    rw [up1_ne (by omega), up1_ne (by omega), up1_ne (by omega)]
    by_cases q : p ≤ i
    · rw [if_pos (by omega), if_pos (by omega), if_pos (by omega), show 221 + 3 * i + 3 = 221 + 3 * (i + 1) by omega, show 222 + 3 * i + 3 = 222 + 3 * (i + 1) by omega, show 223 + 3 * i + 3 = 223 + 3 * (i + 1) by omega]
      exact hr.2 (i + 1) (by omega)
    · rw [if_neg (by omega), if_neg (by omega), if_neg (by omega), if_neg (by omega), if_neg (by omega), if_neg (by omega)]
      exact hr.2 i (by omega)
  · intro i a b
    unfold mDrop
    rw [up1_ne (by omega)]
    split
    · exact hw.2.2.2.2.2.2.2.2.1 (i + 3) (by omega)
    · split
      · omega
      · exact hw.2.2.2.2.2.2.2.2.1 i (by omega)
/-- penance done, an hour more, wear away -/
theorem CP_pen {J : DJ} {b v B B0 : Nat} {f : Nat → Nat} (h : CP J b f B0) (hw : WF f B) : Fr b 30 J (up2 J b 11 v) ∧ CP (up2 J b 11 v) b (up1 f 5 v) B0 := by
  have rn : ∀ j, j ≠ 11 → up2 J b 11 v b j = J b j := fun j hj => by rw [up2_app, if_neg (fun z => hj z.2)]
  refine ⟨Fr.refl.up (by omega), CQ_sc h.1 hw (fun c hc => up2_ne hc) (fun i hi => up1_ne (by omega)) (up1_ne (by omega)) (up1_ne (by omega)) (up1_ne (by omega)) ?_, CA_same h.2 (rn 7 (by omega)) (rn 8 (by omega)) (rn 9 (by omega)) (up1_ne (by omega)) (allOil_same (up1_ne (by omega)) hw.2.2.2.2.2.1 (fun a ha i x y => up1_ne (by omega)))⟩
  have s := h.1.1
  rw [rn 4 (by omega), rn 5 (by omega), rn 6 (by omega), rn 10 (by omega), up2_app, if_pos ⟨rfl, rfl⟩, up1_self, up1_ne (by omega), up1_ne (by omega), up1_ne (by omega), up1_ne (by omega)]
  exact ⟨s.1, s.2.1, s.2.2.1, s.2.2.2.1, rfl⟩
theorem pen_WF {f : Nat → Nat} {v B B2 : Nat} (hw : WF f B) (hv : v ≤ B2) (hB2 : B ≤ B2) : WF (up1 f 5 v) B2 := by
  have h0 := hw.1
  have h5 := hw.2.2.2.2.2.2.2.2.2
  refine WF_mk hw (by rw [up1_ne (by omega)]; exact hw.2.1) (fun i _ h _ => up1_ne h) (fun a ha => EEq.ok (hw.2.2.2.2.2.1 a ha) (fun i x y => up1_ne (by omega))) (fun i hi => ?_) (by omega)
  rw [up1_app]
  split
  · exact hv
  · exact Nat.le_trans (hw.2.2.2.2.2.2.2.2.1 i hi) hB2
theorem CP_hour {J : DJ} {b v B B0 : Nat} {f : Nat → Nat} (h : CP J b f B0) (hw : WF f B) : Fr b 30 J (up2 J b 10 v) ∧ CP (up2 J b 10 v) b (up1 f 1 v) B0 := by
  have rn : ∀ j, j ≠ 10 → up2 J b 10 v b j = J b j := fun j hj => by rw [up2_app, if_neg (fun z => hj z.2)]
  refine ⟨Fr.refl.up (by omega), CQ_sc h.1 hw (fun c hc => up2_ne hc) (fun i hi => up1_ne (by omega)) (up1_ne (by omega)) (up1_ne (by omega)) (up1_ne (by omega)) ?_, CA_same h.2 (rn 7 (by omega)) (rn 8 (by omega)) (rn 9 (by omega)) (up1_ne (by omega)) (allOil_same (up1_ne (by omega)) hw.2.2.2.2.2.1 (fun a ha i x y => up1_ne (by omega)))⟩
  have s := h.1.1
  rw [rn 4 (by omega), rn 5 (by omega), rn 6 (by omega), rn 11 (by omega), up2_app, if_pos ⟨rfl, rfl⟩, up1_self, up1_ne (by omega), up1_ne (by omega), up1_ne (by omega), up1_ne (by omega)]
  exact ⟨s.1, s.2.1, s.2.2.1, rfl, s.2.2.2.2⟩
theorem mRenew_out {f : Nat → Nat} {o i : Nat} (h8 : f o ≤ 8) (h : i < o + 20 ∨ o + 28 ≤ i) : mRenew f o i = f i := if_neg (by omega)
theorem CP_renew {J J2 : DJ} {b e B B0 : Nat} {f : Nat → Nat} (h : CP J b f B0) (hw : WF f B) (he : e < f 0) (fr : Fr (b + 10 + 5 * e + 3) 1 J J2) (hz : ∀ c, c < f (7 + 52 * e) → J2 (b + 10 + 5 * e + 3) c = 0) : Fr b 30 J J2 ∧ CP J2 b (mRenew f (7 + 52 * e)) B0 := by
  have h0 := hw.1
  have ho := hw.2.2.2.2.2.1
  have hok := ho e he
  have h8 := hok.2.1
  have ce := h.1.2.2.2.2 e he
  have out : ∀ i, (i < 27 + 52 * e ∨ 35 + 52 * e ≤ i) → mRenew f (7 + 52 * e) i = f i := fun i a => mRenew_out h8 (by omega)
  refine ⟨fr.sub (by omega), CQ_eng h.1 hw he (fr.sub (by omega)) (fun i a => out i (by omega)) ?_, CA_same h.2 ?_ ?_ ?_ (out 2 (by omega)) ?_⟩
  · refine CE_row ce hok (fr _ (by omega)) (fr _ (by omega)) (fun i hi => out _ (by omega)) (fun i hi => out _ (by omega)) (fun c hc => ⟨?_, ?_, ?_⟩)
    · rw [fr _ (by omega), out _ (by omega)]; exact (ce.2.2.2.2.2.1 c hc).1
    · rw [fr _ (by omega), out _ (by omega)]; exact (ce.2.2.2.2.2.1 c hc).2.1
    · rw [hz c hc]
      unfold mRenew
      rw [if_pos (by omega)]
  · rw [fr _ (by omega)]
  · rw [fr _ (by omega)]
  · rw [fr _ (by omega)]
  · unfold allOil
    rw [out 0 (by omega)]
    refine sumN_congr _ (fun a ha => ?_)
    unfold eOil
    rw [out _ (by omega)]
    exact sumN_congr _ (fun c hc => out _ (by have := (ho a ha).2.1; omega))
theorem renew_WF {f : Nat → Nat} {e B : Nat} (hw : WF f B) (he : e < f 0) : WF (mRenew f (7 + 52 * e)) B := by
  have h0 := hw.1
  have ho := hw.2.2.2.2.2.1
  have h8 := (ho e he).2.1
  have h5 := hw.2.2.2.2.2.2.2.2.2
  have hB := hw.2.2.2.2.2.2.2.2.1
  have out : ∀ i, (i < 27 + 52 * e ∨ 35 + 52 * e ≤ i) → mRenew f (7 + 52 * e) i = f i := fun i a => mRenew_out h8 (by omega)
  refine WF_mk hw (by rw [out 2 (by omega)]; exact hw.2.1) (fun i _ _ h => out i (by omega)) (fun a ha => ?_) (fun i hi => ?_) h5
  · by_cases z : a = e
    · subst z
      obtain ⟨b0, b8, b1, b2, b3, bo, bj, bk⟩ := ho a ha
      unfold EOk
      rw [out _ (by omega), out (7 + 52 * a + 1) (by omega), out (7 + 52 * a + 2) (by omega), out (7 + 52 * a + 3) (by omega)]
      exact ⟨b0, b8, b1, b2, b3, fun d hd => by rw [out _ (by omega)]; exact bo d hd, fun d d' hd hd' q => by rw [out _ (by omega), out _ (by omega)] at q; exact bj d d' hd hd' q, fun i hi => by rw [out _ (by omega)]; exact bk i hi⟩
    · exact EEq.ok (ho a ha) (fun i x y => out i (by omega))
  · unfold mRenew
    split
    · omega
    · exact hB i hi
