/-! THE LAW'S INVARIANT kept by append, execute, undo, save, restore (laid by wip/whole/src/p72b.py) -/
theorem LI_app {J J2 : DJ} {B n c v : Nat} (h : LI J B) (hn : J 344 1 = n) (h60 : n < 60) (hc : 32 ≤ c ∧ c ≤ 126) (e : J2 = up2 (up2 (up2 (up2 (up2 (up2 J 345 n c) 344 1 (n + 1)) 365 0 v) 351 8 0) 356 n c) 351 10 (n + 1)) : LI J2 B := by
  obtain ⟨⟨c1, c2, c3, c4, c5, c6⟩, r1, ⟨r2a, r2b, r2c, r2d⟩, ⟨r3a, r3b, r3c, r3d⟩, r4, l, r5, r6, r7⟩ := h
  have eC : ∀ c, c < 344 ∨ (345 < c ∧ c < 351) ∨ (351 < c ∧ c ≠ 356 ∧ c ≠ 365) → J2 c = J c := fun c hc => by rw [e, up2_ne (by omega), up2_ne (by omega), up2_ne (by omega), up2_ne (by omega), up2_ne (by omega), up2_ne (by omega)]
  have ej : ∀ j, j ≠ 8 ∧ j ≠ 10 → J2 351 j = J 351 j := fun j a => by rw [e, up2_app, if_neg (fun z => a.2 z.2), up2_ne (by omega), up2_app, if_neg (fun z => a.1 z.2), up2_ne (by omega), up2_ne (by omega), up2_ne (by omega)]
  have e345 : J2 345 = up1 (J 345) n c := by rw [e, up2_ne (by omega), up2_ne (by omega), up2_ne (by omega), up2_ne (by omega), up2_ne (by omega), up2_1]
  have e356 : J2 356 = up1 (J 356) n c := by rw [e, up2_ne (by omega), up2_1, up2_ne (by omega), up2_ne (by omega), up2_ne (by omega), up2_ne (by omega)]
  have e344 : J2 344 1 = n + 1 := by rw [e, up2_ne (by omega), up2_ne (by omega), up2_ne (by omega), up2_ne (by omega), up2_app, if_pos ⟨rfl, rfl⟩]
  have e10 : J2 351 10 = n + 1 := by rw [e, up2_app, if_pos ⟨rfl, rfl⟩]
  have ep : pfs J2 = pfs J := by unfold pfs; rw [eC 355 (by omega)]
  unfold LI
  rw [ep, eC 352 (by omega), eC 354 (by omega), ej 5 (by omega), ej 3 (by omega), ej 6 (by omega), ej 7 (by omega), e10, e356, e345, e344, eC 0 (by omega)]
  refine ⟨⟨CP_fr c1 c2.1 (fun c x y => eC c (by omega)), c2, PP_fr c3 (fun c x y => eC c (by omega)), ?_, by rw [eC 350 (by omega)]; exact c5, c6⟩, r1, ⟨r2a, r2b, r2c, r2d⟩, ⟨by rw [r3a], rfl, by omega, fun i hi => ?_⟩, ⟨by rw [eC 361 (by omega)]; exact r4.1, by rw [eC 362 (by omega)]; exact r4.2⟩, l, ?_, ?_, r7⟩
  · rw [eC 0 (by omega)]
    exact c4.elim Or.inl (fun z => Or.inr ⟨z.1, CP_fr z.2.1 z.2.2.1 (fun c x y => eC c (by omega)), z.2.2⟩)
  · rw [up1_app]
    split
    · exact hc
    · exact r3d i (by omega)
  · unfold LnC; rw [eC 348 (by omega), eC 349 (by omega)]; exact r5
  · unfold LnM; rw [ej 24 (by omega), eC 364 (by omega)]; exact r6
theorem LI_q8 {J J1 J2 : DJ} {B p : Nat} (h : LI J B) (hC : (∀ c, c < 31 ∨ (61 ≤ c ∧ c < 334) ∨ c = 336 ∨ c = 341 ∨ (344 ≤ c ∧ c < 350) ∨ (351 ≤ c ∧ c ≠ 365 ∧ c ≠ 366) → J1 c = J c) ∧ J1 350 0 = J 350 0) (e : J2 = up2 (up2 J1 351 8 0) 351 8 p) : LI J2 B := by
  subst e
  exact LI_quiet h (fun c hc => by rw [up2_ne (by omega), up2_ne (by omega)]; exact hC.1 c (by omega)) (by rw [up2_ne (by omega), up2_ne (by omega)]; exact hC.2) (fun c hc => by rw [up2_ne (by omega), up2_ne (by omega)]; exact hC.1 c (by omega)) (fun j hj => by rw [up2_app, if_neg (by omega), up2_app, if_neg (by omega), hC.1 351 (by omega)])
/-- execute: done on both sides -/
theorem LI_ex {J J1 Jm J2 : DJ} {B v : Nat} {x : Nat → Nat} (h : LI J B) (hB : B + 39000 < 40000000) (d1 : ∀ c, c < 1 ∨ (61 ≤ c ∧ c < 91) ∨ (333 ≤ c ∧ c < 344) ∨ c = 345 ∨ 348 ≤ c → J1 c = J c) (d2 : J1 344 1 = 0) (d3 : CP J1 1 x (B + 39000)) (d4 : WF x (B + 39000)) (d5 : PP J1 B (min (J 351 5 + 1) 8) (psh (J 351 5) (pfs J) (J 352)))
    (se : SE (up2 J1 365 0 v) Jm) (m : ECh Jm J2 x (J 352)) : LI J2 (B + 39000) := by
  obtain ⟨⟨c1, c2, c3, c4, c5, c6⟩, r1, ⟨r2a, r2b, r2c, r2d⟩, ⟨r3a, r3b, r3c, r3d⟩, r4, l, r5, r6, r7⟩ := h
  obtain ⟨s1, s2, s3, s4⟩ := se
  obtain ⟨m1, m2, m3, m4, m5⟩ := m
  have eM : ∀ c, c < 351 ∨ c = 354 ∨ c = 356 ∨ c = 361 ∨ c = 362 ∨ c = 364 → J2 c = J1 c := fun c hc => by rw [m1 c (by omega) (by omega) (by omega) (by omega), s1 c (by omega), up2_ne (by omega)]
  have eC : ∀ c, c < 1 ∨ (61 ≤ c ∧ c < 91) ∨ (333 ≤ c ∧ c < 344) ∨ c = 345 ∨ (348 ≤ c ∧ c < 351) ∨ c = 354 ∨ c = 356 ∨ c = 361 ∨ c = 362 ∨ c = 364 → J2 c = J c := fun c hc => by rw [eM c (by omega)]; exact d1 c (by omega)
  have ej : ∀ j, j = 3 ∨ j = 6 ∨ j = 7 ∨ j = 24 → J2 351 j = J 351 j := fun j a => by rw [m3 j (by omega) (by omega), s2 j (by omega), up2_ne (by omega), d1 351 (by omega)]
  have e10 : J2 351 10 = 0 := by rw [m3 10 (by omega) (by omega)]; exact s4
  have e344 : J2 344 1 = 0 := by rw [eM 344 (by omega)]; exact d2
  have e5 : Jm 351 5 = J 351 5 := by rw [s2 5 (by omega), up2_ne (by omega), d1 351 (by omega)]
  have ep : pfs Jm = pfs J := by unfold pfs; rw [s1 355 (by omega), up2_ne (by omega), d1 355 (by omega)]
  rw [e5] at m4 m5
  rw [ep] at m5
  unfold LI
  rw [m2, m4, eC 354 (by omega), ej 3 (by omega), ej 6 (by omega), ej 7 (by omega), e10, eC 356 (by omega), eC 345 (by omega), e344, eC 0 (by omega)]
  refine ⟨⟨CP_fr d3 d4.1 (fun c x y => eM c (by omega)), d4, PP_ag (fun c hc i hi => m5 c hc i hi) (PP_le (PP_fr d5 (fun c x y => eM c (by omega))) (by omega)), ?_, by rw [eC 350 (by omega)]; exact c5, hB⟩, r1, ⟨r2a, r2b, r2c, r2d⟩, ⟨r3a, rfl, by omega, fun i hi => absurd hi (by omega)⟩, ⟨by rw [eC 361 (by omega)]; exact r4.1, by rw [eC 362 (by omega)]; exact r4.2⟩, l, ?_, ?_, r7⟩
  · rw [eC 0 (by omega)]
    exact c4.elim Or.inl (fun z => Or.inr ⟨z.1, CP_le (CP_fr z.2.1 z.2.2.1 (fun c x y => eC c (by omega))) (by omega), WF_le z.2.2 (by omega)⟩)
  · unfold LnC; rw [eC 348 (by omega), eC 349 (by omega)]; exact r5
  · unfold LnM; rw [ej 24 (by omega), eC 364 (by omega)]; exact r6
/-- execute refused on both sides: w10, w11 the two marks then -/
theorem LI_exX {J J1 J2 : DJ} {B w10 w11 : Nat} (h : LI J B) (d1 : ∀ c, (1 ≤ c ∧ c < 31) ∨ (61 ≤ c ∧ c < 344) ∨ c = 345 ∨ 348 ≤ c → J1 c = J c) (d2 : J1 344 1 = 0) (d0 : ∀ j, j ≠ 10 → j ≠ 11 → J1 0 j = J 0 j) (d10 : J1 0 10 = w10) (d11 : J1 0 11 = w11) (hw : w10 < 4294967296 ∧ w11 < 4294967296)
    (m1 : ∀ c, c < 351 ∨ (354 ≤ c ∧ c ≤ 356) ∨ c = 361 ∨ c = 362 ∨ c = 364 → J2 c = J1 c) (m52 : Ag (J 352) (J2 352)) (mj : ∀ j, j = 3 ∨ j = 5 ∨ j = 24 → J2 351 j = J1 351 j) (m6 : J2 351 6 = w10) (m7 : J2 351 7 = w11) (m10 : J2 351 10 = 0) : LI J2 B := by
  obtain ⟨⟨c1, c2, c3, c4, c5, c6⟩, r1, ⟨r2a, r2b, r2c, r2d⟩, ⟨r3a, r3b, r3c, r3d⟩, r4, l, r5, r6, r7⟩ := h
  have eC : ∀ c, (1 ≤ c ∧ c < 31) ∨ (61 ≤ c ∧ c < 344) ∨ c = 345 ∨ (348 ≤ c ∧ c < 351) ∨ (354 ≤ c ∧ c ≤ 356) ∨ c = 361 ∨ c = 362 ∨ c = 364 → J2 c = J c := fun c hc => by rw [m1 c (by omega)]; exact d1 c (by omega)
  have ej : ∀ j, j = 3 ∨ j = 5 ∨ j = 24 → J2 351 j = J 351 j := fun j a => by rw [mj j a, d1 351 (by omega)]
  have ep : pfs J2 = pfs J := by unfold pfs; rw [eC 355 (by omega)]
  have e12 : J2 0 12 = J 0 12 := by rw [m1 0 (by omega)]; exact d0 12 (by omega) (by omega)
  have e344 : J2 344 1 = 0 := by rw [m1 344 (by omega)]; exact d2
  unfold LI
  rw [ep, eC 354 (by omega), ej 5 (by omega), ej 3 (by omega), m6, m7, m10, eC 356 (by omega), eC 345 (by omega), e344, e12, m1 0 (by omega), d10, d11]
  refine ⟨⟨CP_ag m52 c2 (CP_fr c1 c2.1 (fun c x y => eC c (by omega))), WF_ag m52 c2, PP_fr c3 (fun c x y => eC c (by omega)), ?_, by rw [eC 350 (by omega)]; exact c5, c6⟩, r1, ⟨rfl, rfl, hw.1, hw.2⟩, ⟨r3a, rfl, by omega, fun i hi => absurd hi (by omega)⟩, ⟨by rw [eC 361 (by omega)]; exact r4.1, by rw [eC 362 (by omega)]; exact r4.2⟩, l, ?_, ?_, r7⟩
  · rw [e12]
    exact c4.elim Or.inl (fun z => Or.inr ⟨z.1, CP_fr z.2.1 z.2.2.1 (fun c x y => eC c (by omega)), z.2.2⟩)
  · unfold LnC; rw [eC 348 (by omega), eC 349 (by omega)]; exact r5
  · unfold LnM; rw [ej 24 (by omega), eC 364 (by omega)]; exact r6
theorem LI_undo {J J1 J2 M : DJ} {B v : Nat} {hh : Nat → Nat} (h : LI J B) (hn : 0 < J 351 5) (d1 : ∀ c, c < 1 ∨ 333 ≤ c ∨ (31 ≤ c ∧ c < 91) → J1 c = J c) (d2 : CP J1 1 (pfs J (J 351 5 - 1)) B) (d3 : PP J1 B (J 351 5 - 1) (pfs J)) (eM : M = up2 J1 365 0 v) (e : J2 = sR (up2 (up2 M 351 8 0) 351 5 (J 351 5 - 1)) 352 hh) (eh : ∀ i, i < 269 → hh i = M 355 (269 * (J 351 5 - 1) + i)) : LI J2 B := by
  obtain ⟨⟨c1, c2, c3, c4, c5, c6⟩, r1, ⟨r2a, r2b, r2c, r2d⟩, ⟨r3a, r3b, r3c, r3d⟩, r4, l, r5, r6, r7⟩ := h
  have eD : ∀ c, c ≠ 351 → c ≠ 352 → c ≠ 365 → J2 c = J1 c := fun c a b d => by rw [e, sR_ne b, up2_ne a, up2_ne a, eM, up2_ne d]
  have eC : ∀ c, c < 1 ∨ (333 ≤ c ∧ c ≠ 351 ∧ c ≠ 352 ∧ c ≠ 365) ∨ (31 ≤ c ∧ c < 91) → J2 c = J c := fun c hc => by rw [eD c (by omega) (by omega) (by omega)]; exact d1 c (by omega)
  have ej : ∀ j, j ≠ 5 ∧ j ≠ 8 → J2 351 j = J 351 j := fun j a => by rw [e, sR_ne (by omega), up2_app, if_neg (fun z => a.1 z.2), up2_app, if_neg (fun z => a.2 z.2), eM, up2_ne (by omega), d1 351 (by omega)]
  have e5 : J2 351 5 = J 351 5 - 1 := by rw [e, sR_ne (by omega), up2_app, if_pos ⟨rfl, rfl⟩]
  have e52 : J2 352 = hh := by rw [e, sR_at]
  have ep : pfs J2 = pfs J := by unfold pfs; rw [eC 355 (by omega)]
  have ag : Ag (pfs J (J 351 5 - 1)) hh := fun i hi => by rw [eh i hi, eM, up2_ne (by omega), d1 355 (by omega)]; rfl
  have wl := (c3.2.2.2 (J 351 5 - 1) (by omega)).2
  unfold LI
  rw [ep, e52, e5, eC 354 (by omega), ej 3 (by omega), ej 6 (by omega), ej 7 (by omega), ej 10 (by omega), eC 356 (by omega), eC 345 (by omega), eC 344 (by omega), eC 0 (by omega)]
  refine ⟨⟨CP_ag ag wl (CP_fr d2 wl.1 (fun c x y => eD c (by omega) (by omega) (by omega))), WF_ag ag wl, PP_fr d3 (fun c x y => eD c (by omega) (by omega) (by omega)), ?_, by rw [eC 350 (by omega)]; exact c5, c6⟩, r1, ⟨r2a, r2b, r2c, r2d⟩, ⟨r3a, r3b, r3c, r3d⟩, ⟨by rw [eC 361 (by omega)]; exact r4.1, by rw [eC 362 (by omega)]; exact r4.2⟩, l, ?_, ?_, r7⟩
  · rw [eC 0 (by omega)]
    exact c4.elim Or.inl (fun z => Or.inr ⟨z.1, CP_fr z.2.1 z.2.2.1 (fun c x y => eC c (by omega)), z.2.2⟩)
  · unfold LnC; rw [eC 348 (by omega), eC 349 (by omega)]; exact r5
  · unfold LnM; rw [ej 24 (by omega), eC 364 (by omega)]; exact r6
theorem LI_save {J J1 J2 Ja : DJ} {B : Nat} {S f : Nat → Nat} (h : LI J B) (hf : J 352 = f) (e1 : J1 = up2 Ja 0 12 1) (fr : Fr 61 30 J Ja) (d : CP Ja 61 f B) (e : J2 = sR (sR (up2 (up2 J1 351 8 0) 351 3 1) 354 S) 352 f) (eS : ∀ i, i < 269 → S i = f i) : LI J2 B := by
  obtain ⟨⟨c1, c2, c3, c4, c5, c6⟩, r1, ⟨r2a, r2b, r2c, r2d⟩, ⟨r3a, r3b, r3c, r3d⟩, r4, l, r5, r6, r7⟩ := h
  have eD : ∀ c, c ≠ 0 → c ≠ 351 → c ≠ 352 → c ≠ 354 → J2 c = Ja c := fun c a b d e2 => by rw [e, sR_ne d, sR_ne e2, up2_ne b, up2_ne b, e1, up2_ne a]
  have eC : ∀ c, (1 ≤ c ∧ c < 61) ∨ (91 ≤ c ∧ c ≠ 351 ∧ c ≠ 352 ∧ c ≠ 354) → J2 c = J c := fun c hc => by rw [eD c (by omega) (by omega) (by omega) (by omega)]; exact fr c (by omega)
  have e0 : ∀ j, j ≠ 12 → J2 0 j = J 0 j := fun j a => by rw [e, sR_ne (by omega), sR_ne (by omega), up2_ne (by omega), up2_ne (by omega), e1, up2_app, if_neg (fun z => a z.2), fr 0 (by omega)]
  have e12 : J2 0 12 = 1 := by rw [e, sR_ne (by omega), sR_ne (by omega), up2_ne (by omega), up2_ne (by omega), e1, up2_app, if_pos ⟨rfl, rfl⟩]
  have ej : ∀ j, j ≠ 3 ∧ j ≠ 8 → J2 351 j = J 351 j := fun j a => by rw [e, sR_ne (by omega), sR_ne (by omega), up2_app, if_neg (fun z => a.1 z.2), up2_app, if_neg (fun z => a.2 z.2), e1, up2_ne (by omega), fr 351 (by omega)]
  have e3 : J2 351 3 = 1 := by rw [e, sR_ne (by omega), sR_ne (by omega), up2_app, if_pos ⟨rfl, rfl⟩]
  have e52 : J2 352 = J 352 := by rw [e, sR_at, hf]
  have e54 : J2 354 = S := by rw [e, sR_ne (by omega), sR_at]
  have ep : pfs J2 = pfs J := by unfold pfs; rw [eC 355 (by omega)]
  subst hf
  unfold LI
  rw [ep, e52, e54, e3, ej 5 (by omega), ej 6 (by omega), ej 7 (by omega), ej 10 (by omega), eC 356 (by omega), eC 345 (by omega), eC 344 (by omega), e0 10 (by omega), e0 11 (by omega), e12]
  refine ⟨⟨CP_fr c1 c2.1 (fun c x y => eC c (by omega)), c2, PP_fr c3 (fun c x y => eC c (by omega)), ?_, by rw [eC 350 (by omega)]; exact c5, c6⟩, rfl, ⟨r2a, r2b, r2c, r2d⟩, ⟨r3a, r3b, r3c, r3d⟩, ⟨by rw [eC 361 (by omega)]; exact r4.1, by rw [eC 362 (by omega)]; exact r4.2⟩, l, ?_, ?_, r7⟩
  · exact Or.inr ⟨e12, CP_ag eS c2 (CP_fr d c2.1 (fun c x y => eD c (by omega) (by omega) (by omega) (by omega))), WF_ag eS c2⟩
  · unfold LnC; rw [eC 348 (by omega), eC 349 (by omega)]; exact r5
  · unfold LnM; rw [ej 24 (by omega), eC 364 (by omega)]; exact r6
theorem LI_restore {J J1 J2 Ja M : DJ} {B v : Nat} {hh : Nat → Nat} (h : LI J B) (h1 : J 0 12 = 1) (e1 : J1 = up2 Ja 91 2 0) (fr : Fr 1 30 J Ja) (d : CP Ja 1 (J 354) B) (eM : M = up2 J1 365 0 v) (e : J2 = sR (up2 (up2 M 351 8 0) 351 5 0) 352 hh) (eh : ∀ i, i < 269 → hh i = M 354 i) : LI J2 B := by
  obtain ⟨⟨c1, c2, c3, c4, c5, c6⟩, r1, ⟨r2a, r2b, r2c, r2d⟩, ⟨r3a, r3b, r3c, r3d⟩, r4, l, r5, r6, r7⟩ := h
  have eD : ∀ c, c ≠ 91 → c ≠ 351 → c ≠ 352 → c ≠ 365 → J2 c = Ja c := fun c a b d e2 => by rw [e, sR_ne d, up2_ne b, up2_ne b, eM, up2_ne e2, e1, up2_ne a]
  have eC : ∀ c, c < 1 ∨ (31 ≤ c ∧ c ≠ 91 ∧ c ≠ 351 ∧ c ≠ 352 ∧ c ≠ 365) → J2 c = J c := fun c hc => by rw [eD c (by omega) (by omega) (by omega) (by omega)]; exact fr c (by omega)
  have ej : ∀ j, j ≠ 5 ∧ j ≠ 8 → J2 351 j = J 351 j := fun j a => by rw [e, sR_ne (by omega), up2_app, if_neg (fun z => a.1 z.2), up2_app, if_neg (fun z => a.2 z.2), eM, up2_ne (by omega), e1, up2_ne (by omega), fr 351 (by omega)]
  have e5 : J2 351 5 = 0 := by rw [e, sR_ne (by omega), up2_app, if_pos ⟨rfl, rfl⟩]
  have e52 : J2 352 = hh := by rw [e, sR_at]
  have e91 : ∀ j, J2 91 j = if j = 2 then 0 else J 91 j := fun j => by
    rw [e, sR_ne (by omega), up2_ne (by omega), up2_ne (by omega), eM, up2_ne (by omega), e1, up2_app]
    by_cases q : j = 2
    · rw [if_pos ⟨rfl, q⟩, if_pos q]
    · rw [if_neg (fun z => q z.2), if_neg q, fr 91 (by omega)]
  have ep : pfs J2 = pfs J := by unfold pfs; rw [eC 355 (by omega)]
  have ag : Ag (J 354) hh := fun i hi => by rw [eh i hi, eM, up2_ne (by omega), e1, up2_ne (by omega), fr 354 (by omega)]
  obtain ⟨z1, z2, z3⟩ : J 0 12 = 1 ∧ CP J 61 (J 354) B ∧ WF (J 354) B := c4.elim (fun z => absurd z (by omega)) id
  unfold LI
  rw [ep, e52, e5, eC 354 (by omega), ej 3 (by omega), ej 6 (by omega), ej 7 (by omega), ej 10 (by omega), eC 356 (by omega), eC 345 (by omega), eC 344 (by omega), eC 0 (by omega)]
  refine ⟨⟨CP_ag ag z3 (CP_fr d z3.1 (fun c x y => eD c (by omega) (by omega) (by omega) (by omega))), WF_ag ag z3, ?_, ?_, by rw [eC 350 (by omega)]; exact c5, c6⟩, r1, ⟨r2a, r2b, r2c, r2d⟩, ⟨r3a, r3b, r3c, r3d⟩, ⟨by rw [eC 361 (by omega)]; exact r4.1, by rw [eC 362 (by omega)]; exact r4.2⟩, l, ?_, ?_, r7⟩
  · exact ⟨by rw [e91, if_pos rfl], by omega, by rw [e91, if_neg (by omega)]; exact c3.2.2.1, fun i hi => absurd hi (Nat.not_lt_zero _)⟩
  · rw [eC 0 (by omega)]
    exact Or.inr ⟨z1, CP_fr z2 z3.1 (fun c x y => eC c (by omega)), z3⟩
  · unfold LnC; rw [eC 348 (by omega), eC 349 (by omega)]; exact r5
  · unfold LnM; rw [ej 24 (by omega), eC 364 (by omega)]; exact r6
