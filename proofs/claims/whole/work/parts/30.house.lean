/-! A HOUSE: its picture, what keeps the model's row well-formed, and the changes as functions on the row -/
def allOil (f : Nat → Nat) : Nat := sumN (fun e => eOil f (7 + 52 * e)) (f 0)
def MOk (f : Nat → Nat) : Prop := ∀ i, i < 6 → f (215 + i) < 256 ∧ (f 3 ≤ i → f (215 + i) = 0)
def UOk (f : Nat → Nat) : Prop := ∀ e, f 0 ≤ e → e < 4 → f (8 + 52 * e) = 0 ∧ f (9 + 52 * e) = 0 ∧ f (10 + 52 * e) = 0 ∧ ∀ c, c < 8 → f (27 + 52 * e + c) = 0
def WF (f : Nat → Nat) (B : Nat) : Prop := f 0 ≤ 4 ∧ f 2 ≤ 500 ∧ f 3 ≤ 6 ∧ HOk f ∧ ROk f ∧ (∀ e, e < f 0 → EOk f (7 + 52 * e)) ∧ UOk f ∧ MOk f ∧ (∀ i, i < 269 → f i ≤ B) ∧ 500 ≤ B
def CQ (J : DJ) (b : Nat) (f : Nat → Nat) : Prop := (J b 4 = f 0 ∧ J b 5 = f 3 ∧ J b 6 = f 2 ∧ J b 10 = f 1 ∧ J b 11 = f 5) ∧ (∀ i, i < 6 → J (b + 2) i = f (215 + i)) ∧ CR J (b + 3) f ∧ CB J (b + 7) f ∧ ∀ e, e < f 0 → CE J (b + 10 + 5 * e) f (7 + 52 * e)
def CA (J : DJ) (b : Nat) (f : Nat → Nat) (B : Nat) : Prop := J b 7 + J b 8 = J b 9 + (f 2 + allOil f) ∧ J b 7 ≤ B ∧ J b 8 ≤ B
def CP (J : DJ) (b : Nat) (f : Nat → Nat) (B : Nat) : Prop := CQ J b f ∧ CA J b f B
theorem sumN_one {f f' : Nat → Nat} {e : Nat} : ∀ n, e < n → (∀ i, i < n → i ≠ e → f' i = f i) → sumN f' n + f e = sumN f n + f' e
  | 0, h, _ => absurd h (by omega)
  | n + 1, h, hs => by
    simp only [sumN]
    by_cases q : e = n
    · subst q
      rw [sumN_congr (f := f') (f' := f) e (fun i hi => hs i (by omega) (by omega))]
      omega
    · have := sumN_one (f := f) (f' := f') (e := e) n (by omega) (fun i hi hn => hs i (by omega) hn)
      have := hs n (by omega) (by omega)
      omega
theorem eOil_cong {f f' : Nat → Nat} {o : Nat} (e : EEq f f' o) (h8 : f o ≤ 8) : eOil f' o = eOil f o := by
  unfold eOil
  rw [e o (by omega) (by omega)]
  exact sumN_congr _ (fun c hc => e _ (by omega) (by omega))
theorem EB_of {f : Nat → Nat} {B e : Nat} (h : ∀ i, i < 269 → f i ≤ B) (he : e < 4) : EB f (7 + 52 * e) B := fun i a b => h i (by omega)
theorem HB_of {f : Nat → Nat} {B : Nat} (h : ∀ i, i < 269 → f i ≤ B) : HB f B := ⟨h 1 (by omega), fun k _ b => h k b⟩
/-- what lies outside the book and the engines is well-formed when it is the same -/
theorem ROk_cong {f f' : Nat → Nat} (h : ROk f) (e0 : f' 0 = f 0) (e4 : f' 4 = f 4) (e : ∀ i, 221 ≤ i → i < 245 → f' i = f i) : ROk f' := by
  have h4 := h.1
  unfold ROk
  rw [e4, e0]
  refine ⟨h4, fun i hi => ?_⟩
  rw [e (221 + 3 * i) (by omega) (by omega), e (222 + 3 * i) (by omega) (by omega), e (223 + 3 * i) (by omega) (by omega)]
  exact h.2 i hi
theorem MOk_cong {f f' : Nat → Nat} (h : MOk f) (e3 : f' 3 = f 3) (e : ∀ i, 215 ≤ i → i < 221 → f' i = f i) : MOk f' := by
  unfold MOk
  rw [e3]
  intro i hi
  rw [e (215 + i) (by omega) (by omega)]
  exact h i hi
theorem UOk_cong {f f' : Nat → Nat} (h : UOk f) (e0 : f' 0 = f 0) (e : ∀ i, 7 + 52 * f 0 ≤ i → i < 215 → f' i = f i) : UOk f' := by
  unfold UOk
  rw [e0]
  intro a h1 h2
  have q := h a h1 h2
  rw [e (8 + 52 * a) (by omega) (by omega), e (9 + 52 * a) (by omega) (by omega), e (10 + 52 * a) (by omega) (by omega)]
  exact ⟨q.1, q.2.1, q.2.2.1, fun c hc => by rw [e (27 + 52 * a + c) (by omega) (by omega)]; exact q.2.2.2 c hc⟩
theorem HOk_cong {f f' : Nat → Nat} (h : HOk f) (e : HEq2 f f') : HOk f' := by
  have h6 := h.1
  unfold HOk
  rw [e.1, e.2.1]
  refine ⟨h6, fun i hi => ?_, fun i hi => ?_⟩
  · rw [e.2.2 (245 + 2 * i) (by omega) (by omega)]; exact h.2.1 i hi
  · rw [e.2.2 (245 + 2 * i) (by omega) (by omega), e.2.2 (247 + 2 * i) (by omega) (by omega)]; exact h.2.2 i hi
/-- some strokes of an engine, knocks noted -/
def xRun (f : Nat → Nat) (e s : Nat) : Nat → Nat := mHourN (eStN f (7 + 52 * e) s) (eKn f (7 + 52 * e) s)
theorem xRun_eng {f : Nat → Nat} {e s : Nat} (h6 : f 6 ≤ 12) (he : e < 4) (hok : EOk f (7 + 52 * e)) : EEq (eStN f (7 + 52 * e) s) (xRun f e s) (7 + 52 * e) := fun i a b => mHourN_out (by rw [eStN_out hok (by omega)]; exact h6) (by omega) (by omega) _
theorem xRun_out {f : Nat → Nat} {e s i : Nat} (h6 : f 6 ≤ 12) (he : e < 4) (hok : EOk f (7 + 52 * e)) (hi : i < 7 + 52 * e ∨ 59 + 52 * e ≤ i) (h1 : i ≠ 6) (h2 : i < 245) : xRun f e s i = f i := by
  unfold xRun
  rw [mHourN_out (by rw [eStN_out hok (by omega)]; exact h6) h1 (Or.inl h2)]
  exact eStN_out hok (by omega) _
theorem xRun_book {f : Nat → Nat} {e s : Nat} (h6 : f 6 ≤ 12) (he : e < 4) (hok : EOk f (7 + 52 * e)) : HEq2 (mHourN f (eKn f (7 + 52 * e) s)) (xRun f e s) := by
  refine HEq2.hourN ⟨eStN_out hok (by omega) _, eStN_out hok (by omega) _, fun k a b => eStN_out hok (by omega) _⟩ h6 _
theorem xRun_EEq {f : Nat → Nat} {e e2 s : Nat} (h6 : f 6 ≤ 12) (he : e < 4) (h2 : e2 < 4) (hne : e2 ≠ e) (hok : EOk f (7 + 52 * e)) : EEq f (xRun f e s) (7 + 52 * e2) := fun i a b => xRun_out h6 he hok (by omega) (by omega) (by omega)
theorem xRun_WF {f : Nat → Nat} {e s B : Nat} (h : WF f B) (he : e < f 0) : WF (xRun f e s) (B + s) := by
  obtain ⟨h0, h2, h3, hh, hr, ho, hu, hm, hB, h5⟩ := h
  have hok := ho e he
  have h6 := hh.1
  have out : ∀ i, (i < 7 + 52 * e ∨ 59 + 52 * e ≤ i) → i ≠ 6 → i < 245 → xRun f e s i = f i := fun i a b c => xRun_out h6 (by omega) hok a b c
  have e0 := out 0 (by omega) (by omega) (by omega)
  have kb := eKn_le f (7 + 52 * e) s
  have bk := xRun_book (s := s) h6 (by omega) hok
  have hb2 := mHourN_B (HB_of hB) h6 (eKn f (7 + 52 * e) s)
  have h62 := mHourN_6 h6 (eKn f (7 + 52 * e) s)
  refine ⟨by rw [e0]; exact h0, by rw [out 2 (by omega) (by omega) (by omega)]; exact h2, by rw [out 3 (by omega) (by omega) (by omega)]; exact h3, HOk_cong (mHourN_ok hh _) bk, ROk_cong hr e0 (out 4 (by omega) (by omega) (by omega)) (fun i a b => out i (by omega) (by omega) (by omega)), ?_, UOk_cong hu e0 (fun i a b => out i (by omega) (by omega) (by omega)), MOk_cong hm (out 3 (by omega) (by omega) (by omega)) (fun i a b => out i (by omega) (by omega) (by omega)), ?_, by omega⟩
  · rw [e0]
    intro a ha
    by_cases q : a = e
    · subst q
      exact (xRun_eng h6 (by omega) hok).ok (eStN_ok hok s)
    · exact (xRun_EEq h6 (by omega) (by omega) q hok).ok (ho a ha)
  · intro i hi
    by_cases q : 7 + 52 * e ≤ i ∧ i < 59 + 52 * e
    · rw [xRun_eng h6 (by omega) hok i (by omega) (by omega)]
      exact eStN_B hok (EB_of hB (by omega)) (by omega) s i (by omega) (by omega)
    · by_cases q6 : i = 6
      · rw [q6, bk.2.1]; omega
      · by_cases q2 : i < 245
        · rw [out i (by omega) q6 q2]
          have := hB i hi
          omega
        · rw [bk.2.2 i (by omega) hi]
          have := hb2.2 i (by omega) hi
          omega
theorem allOil_one {f f' : Nat → Nat} {e : Nat} (h0 : f 0 ≤ 4) (he : e < f 0) (e0 : f' 0 = f 0) (ho : ∀ a, a < f 0 → EOk f (7 + 52 * a)) (h : ∀ a, a < f 0 → a ≠ e → EEq f f' (7 + 52 * a)) : allOil f' + eOil f (7 + 52 * e) = allOil f + eOil f' (7 + 52 * e) := by
  unfold allOil
  rw [e0]
  exact sumN_one (f := fun e => eOil f (7 + 52 * e)) (f' := fun e => eOil f' (7 + 52 * e)) _ he (fun i hi hn => eOil_cong (h i hi hn) (ho i hi).2.1)
theorem allOil_same {f f' : Nat → Nat} (e0 : f' 0 = f 0) (ho : ∀ a, a < f 0 → EOk f (7 + 52 * a)) (h : ∀ a, a < f 0 → EEq f f' (7 + 52 * a)) : allOil f' = allOil f := by
  unfold allOil
  rw [e0]
  exact sumN_congr _ (fun i hi => eOil_cong (h i hi) (ho i hi).2.1)
theorem xRun_oil {f : Nat → Nat} {e s B : Nat} (h : WF f B) (he : e < f 0) : allOil (xRun f e s) + s = allOil f + eKn f (7 + 52 * e) s := by
  obtain ⟨h0, h2, h3, hh, hr, ho, hu, hm, hB, h5⟩ := h
  have hok := ho e he
  have h6 := hh.1
  have a := allOil_one (f' := xRun f e s) h0 he (xRun_out h6 (by omega) hok (by omega) (by omega) (by omega)) ho (fun a ha hn => xRun_EEq h6 (by omega) (by omega) hn hok)
  have b := eStN_oil hok s
  rw [eOil_cong (xRun_eng (s := s) h6 (by omega) hok) (eStN_ok hok s).2.1] at a
  omega
/-- an hour, and some -/
def hrE (f : Nat → Nat) : Nat → Nat → Nat
  | 0 => up1 f 1 (f 1 + 1)
  | e + 1 => xRun (hrE f e) e (hrE f e (9 + 52 * e))
def hrK (f : Nat → Nat) : Nat → Nat
  | 0 => 0
  | e + 1 => hrK f e + eKn (hrE f e) (7 + 52 * e) (hrE f e (9 + 52 * e))
def psN (f : Nat → Nat) : Nat → Nat → Nat
  | 0 => f
  | h + 1 => hrE (psN f h) (psN f h 0)
def psK (f : Nat → Nat) : Nat → Nat
  | 0 => 0
  | h + 1 => psK f h + hrK (psN f h) (psN f h 0)
theorem up_hour_WF {f : Nat → Nat} {B : Nat} (h : WF f B) : WF (up1 f 1 (f 1 + 1)) (B + 1) := by
  obtain ⟨h0, h2, h3, hh, hr, ho, hu, hm, hB, h5⟩ := h
  have ne : ∀ i, i ≠ 1 → up1 f 1 (f 1 + 1) i = f i := fun i hi => up1_ne hi
  refine ⟨by rw [ne 0 (by omega)]; exact h0, by rw [ne 2 (by omega)]; exact h2, by rw [ne 3 (by omega)]; exact h3, ?_, ROk_cong hr (ne 0 (by omega)) (ne 4 (by omega)) (fun i a b => ne i (by omega)), ?_, UOk_cong hu (ne 0 (by omega)) (fun i a b => ne i (by omega)), MOk_cong hm (ne 3 (by omega)) (fun i a b => ne i (by omega)), ?_, by omega⟩
  · have h6 := hh.1
    unfold HOk
    rw [ne 6 (by omega), up1_self]
    refine ⟨h6, fun i hi => ?_, fun i hi => ?_⟩
    · rw [ne _ (by omega)]
      have := hh.2.1 i hi
      omega
    · rw [ne _ (by omega), ne _ (by omega)]; exact hh.2.2 i hi
  · rw [ne 0 (by omega)]
    intro e he
    exact EEq.ok (ho e he) (fun i a b => ne i (by omega))
  · intro i hi
    have := hB i hi
    rw [up1_app]
    split
    · have := hB 1 (by omega)
      omega
    · omega
theorem hrE_WF {f : Nat → Nat} {B : Nat} (h : WF f B) : ∀ e, e ≤ f 0 → WF (hrE f e) (B + 1 + 9 * e) ∧ hrE f e 0 = f 0
  | 0, _ => ⟨up_hour_WF h, up1_ne (by omega)⟩
  | e + 1, he => by
    have q := hrE_WF h e (by omega)
    have h0 := h.1
    have hok := q.1.2.2.2.2.2.1 e (by omega)
    have w := xRun_WF (s := hrE f e (9 + 52 * e)) q.1 (e := e) (by omega)
    have r : hrE f e (9 + 52 * e) ≤ 9 := by
      have := hok.2.2.2.1
      rw [show 7 + 52 * e + 2 = 9 + 52 * e by omega] at this
      exact this
    refine ⟨?_, ?_⟩
    · obtain ⟨w0, w2, w3, wh, wr, wo, wu, wm, wB, w5⟩ := w
      exact ⟨w0, w2, w3, wh, wr, wo, wu, wm, fun i hi => by have := wB i hi; show xRun _ _ _ i ≤ _; omega, by omega⟩
    · show xRun _ _ _ 0 = _
      rw [xRun_out q.1.2.2.2.1.1 (by omega) hok (by omega) (by omega) (by omega)]
      exact q.2
theorem psN_WF {f : Nat → Nat} {B : Nat} (h : WF f B) : ∀ n, WF (psN f n) (B + 37 * n) ∧ psN f n 0 = f 0
  | 0 => ⟨h, rfl⟩
  | n + 1 => by
    have q := psN_WF h n
    have w := hrE_WF q.1 (psN f n 0) (Nat.le_refl _)
    have h0 := h.1
    refine ⟨?_, w.2.trans q.2⟩
    obtain ⟨⟨w0, w2, w3, wh, wr, wo, wu, wm, wB, w5⟩, e⟩ := w
    exact ⟨w0, w2, w3, wh, wr, wo, wu, wm, fun i hi => by have := wB i hi; have := q.2; show hrE _ _ i ≤ _; omega, by omega⟩
theorem hrE_out {f : Nat → Nat} {B i : Nat} (h : WF f B) (h1 : i ≠ 1) (h6 : i ≠ 6) (hi : i < 7 ∨ 215 ≤ i) (h2 : i < 245) : ∀ e, e ≤ f 0 → hrE f e i = f i
  | 0, _ => up1_ne h1
  | e + 1, he => by
    have q := hrE_WF h e (by omega)
    have h0 := h.1
    show xRun _ _ _ i = _
    rw [xRun_out q.1.2.2.2.1.1 (by omega) (q.1.2.2.2.2.2.1 e (by omega)) (by omega) h6 h2]
    exact hrE_out h h1 h6 hi h2 e (by omega)
theorem psN_out {f : Nat → Nat} {B i : Nat} (h : WF f B) (h1 : i ≠ 1) (h6 : i ≠ 6) (hi : i < 7 ∨ 215 ≤ i) (h2 : i < 245) : ∀ n, psN f n i = f i
  | 0 => rfl
  | n + 1 => by
    have q := psN_WF h n
    exact (hrE_out q.1 h1 h6 hi h2 _ (Nat.le_refl _)).trans (psN_out h h1 h6 hi h2 n)
def mRenew (f : Nat → Nat) (o : Nat) : Nat → Nat := fun k => if o + 20 ≤ k ∧ k < o + 20 + f o then 0 else f k
def xRep (f : Nat → Nat) : Nat → Nat := mDrop (mRenew (psN (up1 f 5 (f 5 + f (222 + 3 * fBst f (f 4)) * sumN (fun i => f (223 + 3 * i)) (f 4))) (f (222 + 3 * fBst f (f 4)))) (7 + 52 * f (221 + 3 * fBst f (f 4)))) (fBst f (f 4))
def xE (f : Nat → Nat) (n : Nat) : Nat → Nat := fun k => if k = 0 then f 0 + 1 else if k = 7 + 52 * f 0 then n else if 11 + 52 * f 0 ≤ k ∧ k < 11 + 52 * f 0 + n then k - (11 + 52 * f 0) else if 19 + 52 * f 0 ≤ k ∧ k < 19 + 52 * f 0 + n then 5 else f k
def xSwap (f : Nat → Nat) (e p q : Nat) : Nat → Nat := up1 (up1 f (11 + 52 * e + p) (f (11 + 52 * e + q))) (11 + 52 * e + q) (f (11 + 52 * e + p))
def xRate (f : Nat → Nat) (e s : Nat) : Nat → Nat := up1 f (9 + 52 * e) s
def xOil (f : Nat → Nat) (e c u : Nat) : Nat → Nat := up1 (up1 f 2 (f 2 - u)) (19 + 52 * e + c) (f (19 + 52 * e + c) + u)
def xBuy (f : Nat → Nat) (u : Nat) : Nat → Nat := up1 f 2 (f 2 + u)
def xMonk (f : Nat → Nat) : Nat → Nat := up1 f 3 (f 3 + 1)
def xAble (f : Nat → Nat) (m v a : Nat) : Nat → Nat := up1 f (215 + m) (if a = 0 then (if (f (215 + m)).testBit v then f (215 + m) - 2 ^ v else f (215 + m)) else f (215 + m) ||| 2 ^ v)
def isPt (f : Nat → Nat) (e p : Nat) : Prop := e < f 0 ∧ p < f (7 + 52 * e)
