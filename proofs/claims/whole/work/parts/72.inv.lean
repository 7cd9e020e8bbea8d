/-! THE LAW'S INVARIANT (laid by wip/whole/src/p72.py) -/
/-- rows that agree where a house looks -/
def Ag (f f' : Nat → Nat) : Prop := ∀ i, i < 269 → f' i = f i
theorem EOk_ag {f f' : Nat → Nat} {e : Nat} (h : Ag f f') (he : e < 4) (k : EOk f (7 + 52 * e)) : EOk f' (7 + 52 * e) := by
  obtain ⟨a, b, c, d, e5, e6, e7, e8⟩ := k
  unfold EOk
  rw [h _ (by omega), h _ (by omega), h _ (by omega), h _ (by omega)]
  exact ⟨a, b, c, d, e5, fun c hc => by rw [h _ (by omega)]; exact e6 c hc, fun c c' hc hc' q => e7 c c' hc hc' (by rw [h _ (by omega), h _ (by omega)] at q; exact q), fun i hi => by rw [h _ (by omega)]; exact e8 i hi⟩
theorem WF_ag {f f' : Nat → Nat} {B : Nat} (h : Ag f f') (w : WF f B) : WF f' B := by
  obtain ⟨w0, w2, w3, wh, wr, wo, wu, wm, wB, w5⟩ := w
  refine ⟨by rw [h _ (by omega)]; exact w0, by rw [h _ (by omega)]; exact w2, by rw [h _ (by omega)]; exact w3, ?_, ?_, ?_, ?_, ?_, ?_, w5⟩
  · obtain ⟨a, b, c⟩ := wh
    unfold HOk
    rw [h 6 (by omega), h 1 (by omega)]
    exact ⟨a, fun i hi => by rw [h _ (by omega)]; exact b i hi, fun i hi => by rw [h _ (by omega), h _ (by omega)]; exact c i hi⟩
  · obtain ⟨a, b⟩ := wr
    unfold ROk
    rw [h 4 (by omega), h 0 (by omega)]
    refine ⟨a, fun i hi => ?_⟩
    rw [h _ (by omega), h _ (by omega), h _ (by omega)]
    exact b i hi
  · intro e he
    rw [h 0 (by omega)] at he
    exact EOk_ag h (by omega) (wo e he)
  · intro e h1 h2
    rw [h 0 (by omega)] at h1
    have q := wu e h1 h2
    rw [h _ (by omega), h _ (by omega), h _ (by omega)]
    exact ⟨q.1, q.2.1, q.2.2.1, fun c hc => by rw [h _ (by omega)]; exact q.2.2.2 c hc⟩
  · intro i hi
    rw [h _ (by omega), h 3 (by omega)]
    exact wm i hi
  · intro i hi
    rw [h i hi]
    exact wB i hi
theorem CP_ag {J : DJ} {f f' : Nat → Nat} {b B B0 : Nat} (h : Ag f f') (w : WF f B) (c : CP J b f B0) : CP J b f' B0 := by
  obtain ⟨⟨sc, mk, cr, cb, ce⟩, ca⟩ := c
  have w0 := w.1
  have w6 := w.2.2.2.1.1
  have w4 := w.2.2.2.2.1.1
  have wo := w.2.2.2.2.2.1
  refine ⟨⟨?_, ?_, ?_, ?_, ?_⟩, ?_⟩
  · rw [h 0 (by omega), h 3 (by omega), h 2 (by omega), h 1 (by omega), h 5 (by omega)]; exact sc
  · intro i hi; rw [h _ (by omega)]; exact mk i hi
  · unfold CR
    rw [h 4 (by omega)]
    refine ⟨cr.1, fun i hi => ?_⟩
    rw [h _ (by omega), h _ (by omega), h _ (by omega)]
    exact cr.2 i hi
  · unfold CB
    rw [h 6 (by omega)]
    refine ⟨cb.1, fun i hi => ?_⟩
    rw [h _ (by omega), h _ (by omega)]
    exact cb.2 i hi
  · intro e he
    rw [h 0 (by omega)] at he
    obtain ⟨a1, a2, a3, a4, a5, a6, a7⟩ := ce e he
    have ok := wo e he
    have o1 := ok.2.1
    have o3 := ok.2.2.2.2.1
    unfold CE
    rw [h (7 + 52 * e) (by omega), h (7 + 52 * e + 1) (by omega), h (7 + 52 * e + 2) (by omega), h (7 + 52 * e + 3) (by omega)]
    refine ⟨a1, a2, a3, a4, a5, fun c hc => ?_, fun i hi => ?_⟩
    · rw [h _ (by omega), h _ (by omega), h _ (by omega)]; exact a6 c hc
    · rw [h _ (by omega)]; exact a7 i hi
  · exact CA_same ca rfl rfl rfl (h 2 (by omega)) (allOil_same (h 0 (by omega)) wo (fun a ha i x y => h i (by omega)))
theorem PP_ag {J : DJ} {B n : Nat} {fs fs' : Nat → Nat → Nat} (h : ∀ c, c < n → Ag (fs c) (fs' c)) (p : PP J B n fs) : PP J B n fs' := ⟨p.1, p.2.1, p.2.2.1, fun i hi => ⟨CP_ag (h i hi) (p.2.2.2 i hi).2 (p.2.2.2 i hi).1, WF_ag (h i hi) (p.2.2.2 i hi).2⟩⟩
/-- what the class and the model have in common between two steps of the law -/
def LI (J : DJ) (B : Nat) : Prop := CI J (J 352) (J 351 5) (pfs J) (J 354) B ∧ J 351 3 = J 0 12 ∧ (J 351 6 = J 0 10 ∧ J 351 7 = J 0 11 ∧ J 0 10 < 4294967296 ∧ J 0 11 < 4294967296) ∧ (J 356 = J 345 ∧ J 351 10 = J 344 1 ∧ J 344 1 ≤ 60 ∧ ∀ i, i < J 344 1 → 32 ≤ J 345 i ∧ J 345 i ≤ 126) ∧ LT J ∧ ∃ l, LnC J l ∧ LnM J l ∧ l.length ≤ 19 ∧ ∀ j, j < l.length → l.getD j 0 < 65536
theorem LI_le {J : DJ} {B B2 : Nat} (h : LI J B) (q : B ≤ B2) (q2 : B2 < 40000000) : LI J B2 := by
  obtain ⟨⟨c1, c2, c3, c4, c5, c6⟩, r⟩ := h
  exact ⟨⟨CP_le c1 q, WF_le c2 q, PP_le c3 q, c4.elim Or.inl (fun z => Or.inr ⟨z.1, CP_le z.2.1 q, WF_le z.2.2 q⟩), c5, q2⟩, r⟩
/-- nothing that counts has changed -/
theorem LI_quiet {J J2 : DJ} {B : Nat} (h : LI J B) (hC : ∀ c, c < 31 ∨ (61 ≤ c ∧ c < 333) ∨ (344 ≤ c ∧ c < 350) → J2 c = J c) (h5 : J2 350 0 = J 350 0) (hM : ∀ c, c = 352 ∨ c = 354 ∨ c = 355 ∨ c = 356 ∨ c = 361 ∨ c = 362 ∨ c = 364 → J2 c = J c) (hj : ∀ j, j = 3 ∨ j = 5 ∨ j = 6 ∨ j = 7 ∨ j = 10 ∨ j = 24 → J2 351 j = J 351 j) : LI J2 B := by
  obtain ⟨⟨c1, c2, c3, c4, c5, c6⟩, r1, r2, r3, r4, l, r5, r6, r7⟩ := h
  have ep : pfs J2 = pfs J := by unfold pfs; rw [hM 355 (by omega)]
  unfold LI
  rw [ep, hM 352 (by omega), hM 354 (by omega), hj 5 (by omega), hj 3 (by omega), hj 6 (by omega), hj 7 (by omega), hj 10 (by omega), hM 356 (by omega), hC 0 (by omega), hC 344 (by omega), hC 345 (by omega)]
  refine ⟨⟨CP_fr c1 c2.1 (fun c x y => hC c (by omega)), c2, PP_fr c3 (fun c x y => hC c (by omega)), ?_, by rw [h5]; exact c5, c6⟩, r1, r2, r3, ⟨by rw [hM 361 (by omega)]; exact r4.1, by rw [hM 362 (by omega)]; exact r4.2⟩, l, ?_, ?_, r7⟩
  · rw [hC 0 (by omega)]
    exact c4.elim Or.inl (fun z => Or.inr ⟨z.1, CP_fr z.2.1 z.2.2.1 (fun c x y => hC c (by omega)), z.2.2⟩)
  · unfold LnC; rw [hC 348 (by omega), hC 349 (by omega)]; exact r5
  · unfold LnM; rw [hj 24 (by omega), hM 364 (by omega)]; exact r6
theorem Sc.out {J J1 : DJ} {v : Nat} (h : Sc J J1) : (∀ c, c < 31 ∨ (61 ≤ c ∧ c < 334) ∨ c = 336 ∨ c = 341 ∨ (344 ≤ c ∧ c < 350) ∨ (351 ≤ c ∧ c ≠ 365) → up2 J1 365 0 v c = J c) ∧ up2 J1 365 0 v 350 0 = J 350 0 := ⟨fun c hc => by rw [up2_ne (by omega)]; exact h.1 c (by omega), by rw [up2_ne (by omega)]; exact h.2⟩
/-- a question, or a change that is refused, on both sides -/
theorem LI_q {J J1 J2 : DJ} {B p : Nat} (h : LI J B) (hC : (∀ c, c < 31 ∨ (61 ≤ c ∧ c < 334) ∨ c = 336 ∨ c = 341 ∨ (344 ≤ c ∧ c < 350) ∨ (351 ≤ c ∧ c ≠ 365 ∧ c ≠ 366) → J1 c = J c) ∧ J1 350 0 = J 350 0) (hM : MNo J1 J2 p) : LI J2 B := by
  refine LI_quiet h (fun c hc => ?_) ?_ (fun c hc => ?_) (fun j hj => ?_)
  · rw [hM.1 c (by omega)]; exact hC.1 c (by omega)
  · rw [hM.1 350 (by omega)]; exact hC.2
  · rw [hM.1 c (by omega)]; exact hC.1 c (by omega)
  · rw [hM.2.1 j (by omega) (by omega), hC.1 351 (by omega)]
theorem LI_ch {J J1 J2 : DJ} {B v : Nat} {f2 : Nat → Nat} (h : LI J B) (hC : Ch J (J 351 5) (pfs J) (J 352) f2 B J1) (hw : WF f2 (B + 3000)) (hM : MCh (up2 J1 365 0 v) J2 f2) (hB : B + 3000 < 40000000) : LI J2 (B + 3000) := by
  obtain ⟨⟨c1, c2, c3, c4, c5, c6⟩, r1, r2, r3, r4, l, r5, r6, r7⟩ := h
  obtain ⟨d1, d2, d3⟩ := hC
  obtain ⟨m1, m2, m3, m4, m5, m6⟩ := hM
  have eC : ∀ c, c < 1 ∨ (31 ≤ c ∧ c < 91) ∨ (333 ≤ c ∧ c < 351) ∨ c = 354 ∨ c = 356 ∨ (361 ≤ c ∧ c ≠ 365) → J2 c = J c := fun c hc => by rw [m1 c (by omega), up2_ne (by omega)]; exact d1 c (by omega)
  have eD : ∀ c, c < 351 → J2 c = J1 c := fun c hc => by rw [m1 c (by omega), up2_ne (by omega)]
  have ej : ∀ j, j ≠ 5 → j ≠ 8 → j ≠ 12 → J2 351 j = J 351 j := fun j a b c => by rw [m3 j a b c, up2_ne (by omega), d1 351 (by omega)]
  have e51 : up2 J1 365 0 v 351 5 = J 351 5 := by rw [up2_ne (by omega), d1 351 (by omega)]
  have e52 : up2 J1 365 0 v 352 = J 352 := by rw [up2_ne (by omega), d1 352 (by omega)]
  have ep : pfs (up2 J1 365 0 v) = pfs J := by unfold pfs; rw [up2_ne (by omega), d1 355 (by omega)]
  rw [e51] at m5 m6
  rw [e52, ep] at m6
  unfold LI
  rw [m2, m5, eC 354 (by omega), ej 3 (by omega) (by omega) (by omega), ej 6 (by omega) (by omega) (by omega), ej 7 (by omega) (by omega) (by omega), ej 10 (by omega) (by omega) (by omega), eC 356 (by omega), eC 0 (by omega), eC 344 (by omega), eC 345 (by omega)]
  refine ⟨⟨CP_le (CP_fr d2 hw.1 (fun c x y => eD c (by omega))) (by omega), hw, ?_, ?_, by rw [eC 350 (by omega)]; exact c5, hB⟩, r1, r2, r3, ⟨by rw [eC 361 (by omega)]; exact r4.1, by rw [eC 362 (by omega)]; exact r4.2⟩, l, ?_, ?_, r7⟩
  · exact PP_ag (fun c hc i hi => m6 c hc i hi) (PP_le (PP_fr d3 (fun c x y => eD c (by omega))) (by omega))
  · rw [eC 0 (by omega)]
    exact c4.elim Or.inl (fun z => Or.inr ⟨z.1, CP_le (CP_fr z.2.1 z.2.2.1 (fun c x y => eC c (by omega))) (by omega), WF_le z.2.2 (by omega)⟩)
  · unfold LnC; rw [eC 348 (by omega), eC 349 (by omega)]; exact r5
  · unfold LnM; rw [ej 24 (by omega) (by omega) (by omega), eC 364 (by omega)]; exact r6
theorem LI_line {J J1 J2 : DJ} {B v : Nat} {l : List Nat} (h : LI J B) (hC : Wr J J1 l) (hM : MWr (up2 J1 365 0 v) J2 l) (h19 : l.length ≤ 19) (hc : ∀ j, j < l.length → l.getD j 0 < 65536) : LI J2 B := by
  obtain ⟨⟨c1, c2, c3, c4, c5, c6⟩, r1, r2, r3, r4, l0, r5, r6, r7⟩ := h
  have eC : ∀ c, c < 337 ∨ (341 ≤ c ∧ c < 348) ∨ c = 350 ∨ (351 < c ∧ c < 357) ∨ (360 < c ∧ c ≠ 364 ∧ c ≠ 365) → J2 c = J c := fun c hc => by rw [hM.2.1 c (by omega), up2_ne (by omega)]; exact hC.2 c (by omega)
  have ej : ∀ j, j ≠ 8 → j ≠ 12 → j ≠ 24 → J2 351 j = J 351 j := fun j a b c => by rw [hM.2.2.1 j a b c, up2_ne (by omega), hC.2 351 (by omega)]
  have ep : pfs J2 = pfs J := by unfold pfs; rw [eC 355 (by omega)]
  unfold LI
  rw [ep, eC 352 (by omega), eC 354 (by omega), ej 5 (by omega) (by omega) (by omega), ej 3 (by omega) (by omega) (by omega), ej 6 (by omega) (by omega) (by omega), ej 7 (by omega) (by omega) (by omega), ej 10 (by omega) (by omega) (by omega), eC 356 (by omega), eC 0 (by omega), eC 344 (by omega), eC 345 (by omega)]
  refine ⟨⟨CP_fr c1 c2.1 (fun c x y => eC c (by omega)), c2, PP_fr c3 (fun c x y => eC c (by omega)), ?_, by rw [eC 350 (by omega)]; exact c5, c6⟩, r1, r2, r3, ⟨by rw [eC 361 (by omega)]; exact r4.1, by rw [eC 362 (by omega)]; exact r4.2⟩, l, ?_, hM.1, h19, hc⟩
  · rw [eC 0 (by omega)]
    exact c4.elim Or.inl (fun z => Or.inr ⟨z.1, CP_fr z.2.1 z.2.2.1 (fun c x y => eC c (by omega)), z.2.2⟩)
  · have q := hC.1
    unfold LnC at q ⊢
    rw [hM.2.1 348 (by omega), hM.2.1 349 (by omega), up2_ne (by omega), up2_ne (by omega)]; exact q
