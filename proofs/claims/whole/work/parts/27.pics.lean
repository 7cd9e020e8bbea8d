/-! PICTURES: what the cells of an engine, of the repairs, of the knock book say of the model's row -/
def CE (J : DJ) (k : Nat) (f : Nat → Nat) (o : Nat) : Prop := J k 6 = f o ∧ J k 7 = f (o + 1) ∧ J k 8 = f (o + 2) ∧ J k 5 = f (o + 3) ∧ J k 4 < 24 ∧ (∀ c, c < f o → J (k + 1) c = f (o + 4 + c) ∧ J (k + 2) c = f (o + 12 + c) ∧ J (k + 3) c = f (o + 20 + c)) ∧ ∀ i, i < f (o + 3) → J (k + 4) ((J k 4 + i) % 24) = f (o + 28 + i)
def CB (J : DJ) (k : Nat) (f : Nat → Nat) : Prop := J k 2 = f 6 ∧ ∀ i, i < f 6 → J (k + 1) i = f (245 + 2 * i) ∧ J (k + 2) i = f (246 + 2 * i)
def CR (J : DJ) (k : Nat) (f : Nat → Nat) : Prop := J k 3 = f 4 ∧ ∀ i, i < f 4 → J (k + 1) i = f (221 + 3 * i) ∧ J (k + 2) i = f (222 + 3 * i) ∧ J (k + 3) i = f (223 + 3 * i)
def ROk (f : Nat → Nat) : Prop := f 4 ≤ 8 ∧ ∀ i, i < f 4 → f (221 + 3 * i) < f 0 ∧ 1 ≤ f (222 + 3 * i) ∧ f (222 + 3 * i) ≤ 9 ∧ 1 ≤ f (223 + 3 * i) ∧ f (223 + 3 * i) ≤ 9
def mDrop (f : Nat → Nat) (p : Nat) : Nat → Nat := up1 (fun k => if 221 + 3 * p ≤ k ∧ k < 242 then f (k + 3) else if 242 ≤ k ∧ k < 245 then 0 else f k) 4 (f 4 - 1)
def mAsk (f : Nat → Nat) (e h p : Nat) : Nat → Nat := up1 (up1 (up1 (up1 f (221 + 3 * f 4) e) (222 + 3 * f 4) h) (223 + 3 * f 4) p) 4 (f 4 + 1)
def soon (f : Nat → Nat) (a b : Nat) : Prop := f (222 + 3 * a) * f (223 + 3 * b) < f (222 + 3 * b) * f (223 + 3 * a) ∨ (f (222 + 3 * a) * f (223 + 3 * b) = f (222 + 3 * b) * f (223 + 3 * a) ∧ a < b)
def fBst (f : Nat → Nat) : Nat → Nat
  | 0 => 0
  | k + 1 => if f (222 + 3 * k) * f (223 + 3 * fBst f k) < f (222 + 3 * fBst f k) * f (223 + 3 * k) ∨ (f (222 + 3 * k) * f (223 + 3 * fBst f k) = f (222 + 3 * fBst f k) * f (223 + 3 * k) ∧ k < fBst f k) then k else fBst f k
theorem fBst_lt (f : Nat → Nat) : ∀ k, fBst f k < k ∨ (fBst f k = 0)
  | 0 => Or.inr rfl
  | k + 1 => by
    have := fBst_lt f k
    simp only [fBst]
    split <;> omega
theorem fBst_1 (f : Nat → Nat) : fBst f 1 = 0 := by
  simp only [fBst]
  split <;> rfl
theorem CE_cong {J : DJ} {k o : Nat} {f f' : Nat → Nat} (h : CE J k f o) (e : EEq f f' o) (h8 : f o ≤ 8) (h24 : f (o + 3) ≤ 24) : CE J k f' o := by
  obtain ⟨a0, a1, a2, a3, a4, a5, a6⟩ := h
  unfold CE
  rw [e o (by omega) (by omega), e (o + 1) (by omega) (by omega), e (o + 2) (by omega) (by omega), e (o + 3) (by omega) (by omega)]
  refine ⟨a0, a1, a2, a3, a4, fun c hc => ?_, fun i hi => ?_⟩
  · rw [e (o + 4 + c) (by omega) (by omega), e (o + 12 + c) (by omega) (by omega), e (o + 20 + c) (by omega) (by omega)]
    exact a5 c hc
  · rw [e (o + 28 + i) (by omega) (by omega)]
    exact a6 i hi
theorem CE_fr {J J' : DJ} {k o : Nat} {f : Nat → Nat} (h : CE J k f o) (e : ∀ c, k ≤ c → c < k + 5 → J' c = J c) : CE J' k f o := by
  unfold CE
  rw [e k (by omega) (by omega), e (k + 1) (by omega) (by omega), e (k + 2) (by omega) (by omega), e (k + 3) (by omega) (by omega), e (k + 4) (by omega) (by omega)]
  exact h
theorem CB_fr {J J' : DJ} {k : Nat} {f : Nat → Nat} (h : CB J k f) (e : ∀ c, k ≤ c → c < k + 3 → J' c = J c) : CB J' k f := by
  unfold CB
  rw [e k (by omega) (by omega), e (k + 1) (by omega) (by omega), e (k + 2) (by omega) (by omega)]
  exact h
theorem CR_fr {J J' : DJ} {k : Nat} {f : Nat → Nat} (h : CR J k f) (e : ∀ c, k ≤ c → c < k + 4 → J' c = J c) : CR J' k f := by
  unfold CR
  rw [e k (by omega) (by omega), e (k + 1) (by omega) (by omega), e (k + 2) (by omega) (by omega), e (k + 3) (by omega) (by omega)]
  exact h
theorem CB_cong {J : DJ} {k : Nat} {f f' : Nat → Nat} (h : CB J k f) (e : HEq2 f f') (h6 : f 6 ≤ 12) : CB J k f' := by
  unfold CB
  rw [e.2.1]
  refine ⟨h.1, fun i hi => ?_⟩
  rw [e.2.2 (245 + 2 * i) (by omega) (by omega), e.2.2 (246 + 2 * i) (by omega) (by omega)]
  exact h.2 i hi
theorem CR_cong {J : DJ} {k : Nat} {f f' : Nat → Nat} (h : CR J k f) (e4 : f' 4 = f 4) (e : ∀ i, 221 ≤ i → i < 245 → f' i = f i) (h4 : f 4 ≤ 8) : CR J k f' := by
  unfold CR
  rw [e4]
  refine ⟨h.1, fun i hi => ?_⟩
  rw [e (221 + 3 * i) (by omega) (by omega), e (222 + 3 * i) (by omega) (by omega), e (223 + 3 * i) (by omega) (by omega)]
  exact h.2 i hi
theorem CE_due {J : DJ} {k o v : Nat} {f : Nat → Nat} (h : CE J k f o) : CE (up2 J k 7 v) k (up1 f (o + 1) v) o := by
  obtain ⟨a0, a1, a2, a3, a4, a5, a6⟩ := h
  unfold CE
  have n1 : ∀ {x}, x ≠ o + 1 → up1 f (o + 1) v x = f x := fun h => up1_ne h
  rw [n1 (x := o) (by omega), n1 (x := o + 2) (by omega), n1 (x := o + 3) (by omega), up1_self]
  simp only [up2_self]
  refine ⟨a0, rfl, a2, a3, a4, fun c hc => ?_, fun i hi => ?_⟩
  · rw [up2_ne (by omega), up2_ne (by omega), up2_ne (by omega), n1 (by omega), n1 (by omega), n1 (by omega)]
    exact a5 c hc
  · rw [up2_ne (by omega), n1 (by omega)]
    exact a6 i hi
theorem CE_oil {J : DJ} {k o c : Nat} {f : Nat → Nat} (h : CE J k f o) (hok : EOk f o) (hc : c = eCy f o) (h0 : 0 < f (o + 12 + c)) : CE (up2 (up2 J (k + 2) c (f (o + 12 + c) - 1)) (k + 3) c (f (o + 20 + c) + 1)) k (eDo f o) o := by
  obtain ⟨a0, a1, a2, a3, a4, a5, a6⟩ := h
  have hcy := eCy_lt hok
  have h8 := hok.2.1
  unfold eDo
  rw [← hc, if_pos h0]
  unfold CE
  rw [up1_ne (show o ≠ o + 20 + c by omega), up1_ne (show o ≠ o + 12 + c by omega), up1_ne (show o + 1 ≠ o + 20 + c by omega), up1_ne (show o + 1 ≠ o + 12 + c by omega), up1_ne (show o + 2 ≠ o + 20 + c by omega), up1_ne (show o + 2 ≠ o + 12 + c by omega), up1_ne (show o + 3 ≠ o + 20 + c by omega), up1_ne (show o + 3 ≠ o + 12 + c by omega)]
  rw [up2_ne (show k ≠ k + 3 by omega), up2_ne (show k ≠ k + 2 by omega)]
  refine ⟨a0, a1, a2, a3, a4, fun d hd => ?_, fun i hi => ?_⟩
  · have q := a5 d hd
    refine ⟨?_, ?_, ?_⟩
    · rw [up2_ne (show k + 1 ≠ k + 3 by omega), up2_ne (show k + 1 ≠ k + 2 by omega), up1_ne (by omega), up1_ne (by omega)]; exact q.1
    · rw [up2_ne (show k + 2 ≠ k + 3 by omega), up1_ne (show o + 12 + d ≠ o + 20 + c by omega), up2_app, up1_app]
      by_cases e : d = c
      · rw [e, if_pos ⟨rfl, rfl⟩, if_pos rfl]
      · rw [if_neg (fun z => e z.2), if_neg (by omega)]; exact q.2.1
    · rw [up2_app, up1_app]
      by_cases e : d = c
      · rw [e, if_pos ⟨rfl, rfl⟩, if_pos rfl]
      · rw [if_neg (fun z => e z.2), if_neg (by omega), up2_ne (show k + 3 ≠ k + 2 by omega), up1_ne (by omega)]; exact q.2.2
  · have q := a6 i hi
    rw [up2_ne (show k + 4 ≠ k + 3 by omega), up2_ne (show k + 4 ≠ k + 2 by omega), up1_ne (by omega), up1_ne (by omega)]
    exact q
theorem CE_kn {J : DJ} {k o : Nat} {f : Nat → Nat} (h : CE J k f o) (hok : EOk f o) (h0 : ¬ 0 < f (o + 12 + eCy f o)) : CE (if J k 5 < 24 then up2 (up2 J (k + 4) ((J k 4 + J k 5) % 24) (eCy f o)) k 5 (J k 5 + 1) else up2 (up2 J (k + 4) (J k 4) (eCy f o)) k 4 ((J k 4 + 1) % 24)) k (eDo f o) o := by
  obtain ⟨a0, a1, a2, a3, a4, a5, a6⟩ := h
  have h24 := hok.2.2.2.2.1
  have h8 := hok.2.1
  have n3 := eDo_n hok
  have kn : ∀ i, i < 24 → eDo f o (o + 28 + i) = _ := fun i hi => eDo_kn hok hi
  rw [if_neg h0] at n3
  unfold CE
  rw [eDo_lo hok (show o < o + 12 by omega) (by omega), eDo_lo hok (show o + 1 < o + 12 by omega) (by omega), eDo_lo hok (show o + 2 < o + 12 by omega) (by omega), n3]
  have cyl : ∀ c, c < f o → eDo f o (o + 4 + c) = f (o + 4 + c) ∧ eDo f o (o + 12 + c) = f (o + 12 + c) ∧ eDo f o (o + 20 + c) = f (o + 20 + c) := fun c hc => by
    refine ⟨eDo_lo hok (by omega) (by omega), ?_, ?_⟩
    · rw [eDo_oil hok (by omega)]
      split
      · next q => rw [q]; omega
      · rfl
    · rw [eDo_wear hok (by omega)]
      unfold eK1
      rw [if_neg h0]
      split <;> rfl
  rw [a3]
  by_cases q : f (o + 3) < 24
  · rw [if_pos q, if_neg (show ¬ f (o + 3) = 24 by omega)]
    have r5 : up2 (up2 J (k + 4) ((J k 4 + f (o + 3)) % 24) (eCy f o)) k 5 (f (o + 3) + 1) k 5 = (f (o + 3) + 1) := by rw [up2_app, if_pos ⟨rfl, rfl⟩]
    have rn : ∀ j, j ≠ 5 → up2 (up2 J (k + 4) ((J k 4 + f (o + 3)) % 24) (eCy f o)) k 5 (f (o + 3) + 1) k j = J k j := fun j hj => by rw [up2_app, if_neg (fun z => hj z.2), up2_ne (by omega)]
    rw [rn 6 (by omega), rn 7 (by omega), rn 8 (by omega), r5, rn 4 (by omega)]
    refine ⟨a0, a1, a2, rfl, a4, fun c hc => ?_, fun i hi => ?_⟩
    · rw [(cyl c hc).1, (cyl c hc).2.1, (cyl c hc).2.2]
      simp only [up2_ne (show k + 1 ≠ k by omega), up2_ne (show k + 2 ≠ k by omega), up2_ne (show k + 3 ≠ k by omega), up2_ne (show k + 1 ≠ k + 4 by omega), up2_ne (show k + 2 ≠ k + 4 by omega), up2_ne (show k + 3 ≠ k + 4 by omega)]
      exact a5 c hc
    · rw [kn i (by omega), if_neg h0, if_neg (by omega), up2_ne (show k + 4 ≠ k by omega), up2_app]
      by_cases e : i = f (o + 3)
      · subst e; rw [if_pos rfl, if_pos ⟨rfl, rfl⟩]
      · rw [if_neg e, if_neg (fun z => absurd z.2 (by omega))]
        exact a6 i (by omega)
  · have q24 : f (o + 3) = 24 := by omega
    rw [if_neg q, if_pos q24]
    have r5 : up2 (up2 J (k + 4) (J k 4) (eCy f o)) k 4 ((J k 4 + 1) % 24) k 4 = ((J k 4 + 1) % 24) := by rw [up2_app, if_pos ⟨rfl, rfl⟩]
    have rn : ∀ j, j ≠ 4 → up2 (up2 J (k + 4) (J k 4) (eCy f o)) k 4 ((J k 4 + 1) % 24) k j = J k j := fun j hj => by rw [up2_app, if_neg (fun z => hj z.2), up2_ne (by omega)]
    rw [rn 6 (by omega), rn 7 (by omega), rn 8 (by omega), rn 5 (by omega), r5]
    refine ⟨a0, a1, a2, by omega, by omega, fun c hc => ?_, fun i hi => ?_⟩
    · rw [(cyl c hc).1, (cyl c hc).2.1, (cyl c hc).2.2]
      simp only [up2_ne (show k + 1 ≠ k by omega), up2_ne (show k + 2 ≠ k by omega), up2_ne (show k + 3 ≠ k by omega), up2_ne (show k + 1 ≠ k + 4 by omega), up2_ne (show k + 2 ≠ k + 4 by omega), up2_ne (show k + 3 ≠ k + 4 by omega)]
      exact a5 c hc
    · rw [kn i hi, if_neg h0, if_pos q24, up2_ne (show k + 4 ≠ k by omega), up2_app]
      by_cases e : i = 23
      · subst e; rw [if_pos rfl, if_pos ⟨rfl, by omega⟩]
      · rw [if_neg e, if_neg (fun z => absurd z.2 (by omega)), show ((J k 4 + 1) % 24 + i) % 24 = (J k 4 + (i + 1)) % 24 by omega]
        exact a6 (i + 1) (by omega)
theorem CB_sh {J : DJ} {k : Nat} {f : Nat → Nat} (h : CB J k f) (h6 : f 6 = 12) : CB (up2 (cp2 (cp2 J (k + 1) 1 (k + 1) 0 11) (k + 2) 1 (k + 2) 0 11) k 2 11) k (mSh f) := by
  unfold CB
  have s6 : mSh f 6 = 11 := rfl
  rw [s6]
  refine ⟨by rw [up2_self]; rfl, fun i hi => ?_⟩
  have q := h.2 (i + 1) (by omega)
  have m1 : mSh f (245 + 2 * i) = f (245 + 2 * (i + 1)) := by
    unfold mSh
    rw [up1_ne (by omega)]
    show (if 245 ≤ 245 + 2 * i ∧ 245 + 2 * i < 267 then f (245 + 2 * i + 2) else _) = _
    rw [if_pos (by omega)]
    rfl
  have m2 : mSh f (246 + 2 * i) = f (246 + 2 * (i + 1)) := by
    unfold mSh
    rw [up1_ne (by omega)]
    show (if 245 ≤ 246 + 2 * i ∧ 246 + 2 * i < 267 then f (246 + 2 * i + 2) else _) = _
    rw [if_pos (by omega)]
    rfl
  have a : up2 (cp2 (cp2 J (k + 1) 1 (k + 1) 0 11) (k + 2) 1 (k + 2) 0 11) k 2 11 (k + 1) i = J (k + 1) (i + 1) := by rw [up2_ne (show k + 1 ≠ k by omega), cp2_ne (show k + 1 ≠ k + 2 by omega), cp2_app, if_pos ⟨rfl, by omega, by omega⟩, show 1 + (i - 0) = i + 1 by omega]
  have b : up2 (cp2 (cp2 J (k + 1) 1 (k + 1) 0 11) (k + 2) 1 (k + 2) 0 11) k 2 11 (k + 2) i = J (k + 2) (i + 1) := by rw [up2_ne (show k + 2 ≠ k by omega), cp2_app, if_pos ⟨rfl, by omega, by omega⟩, cp2_ne (show k + 2 ≠ k + 1 by omega), show 1 + (i - 0) = i + 1 by omega]
  rw [m1, m2, a, b]
  exact q
theorem CB_opn {J : DJ} {k n v : Nat} {f : Nat → Nat} (h : CB J k f) (h6 : f 6 < 12) (hn : n = f 6) (hv : v = f 1) : CB (up2 (up2 (up2 J (k + 1) n v) (k + 2) n 0) k 2 (n + 1)) k (mOpn f) := by
  unfold CB
  have e6 : mOpn f 6 = f 6 + 1 := up1_self
  rw [e6]
  refine ⟨by rw [up2_self, hn]; rfl, fun i hi => ?_⟩
  unfold mOpn
  refine ⟨?_, ?_⟩
  · rw [up2_ne (show k + 1 ≠ k by omega), up2_ne (show k + 1 ≠ k + 2 by omega), up2_app, up1_ne (by omega), up1_ne (by omega), up1_app]
    by_cases e : i = f 6
    · rw [e, if_pos ⟨rfl, hn.symm⟩, if_pos rfl, hv]
    · rw [if_neg (fun z => e (z.2.trans hn)), if_neg (by omega)]; exact (h.2 i (by omega)).1
  · rw [up2_ne (show k + 2 ≠ k by omega), up2_app, up1_ne (by omega), up1_app]
    by_cases e : i = f 6
    · rw [e, if_pos ⟨rfl, hn.symm⟩, if_pos rfl]
    · rw [if_neg (fun z => e (z.2.trans hn)), if_neg (by omega), up2_ne (by omega), up1_ne (by omega)]; exact (h.2 i (by omega)).2
theorem CB_add {J : DJ} {k n v : Nat} {f : Nat → Nat} (h : CB J k f) (h0 : 0 < f 6) (hn : n = f 6 - 1) : CB (up2 J (k + 2) n (f (244 + 2 * f 6) + v)) k (mAdd f v) := by
  unfold CB
  have e6 : mAdd f v 6 = f 6 := up1_ne (by omega)
  rw [e6]
  refine ⟨by rw [up2_ne (by omega)]; exact h.1, fun i hi => ?_⟩
  have q := h.2 i hi
  unfold mAdd
  rw [up2_ne (show k + 1 ≠ k + 2 by omega), up1_ne (by omega), up2_app, up1_app]
  refine ⟨q.1, ?_⟩
  by_cases e : i = n
  · rw [if_pos ⟨rfl, e⟩, if_pos (by omega)]
  · rw [if_neg (fun z => e z.2), if_neg (by omega)]; exact q.2
theorem CR_ask {J : DJ} {k n e t p : Nat} {f : Nat → Nat} (h : CR J k f) (hn : n = f 4) (h8 : f 4 < 8) : CR (up2 (up2 (up2 (up2 J (k + 1) n e) (k + 2) n t) (k + 3) n p) k 3 (n + 1)) k (mAsk f e t p) := by
  unfold CR
  have e4 : mAsk f e t p 4 = f 4 + 1 := up1_self
  rw [e4]
  subst hn
  refine ⟨by rw [up2_self]; rfl, fun i hi => ?_⟩
  unfold mAsk
  refine ⟨?_, ?_, ?_⟩
  · rw [up2_ne (by omega), up2_ne (by omega), up2_ne (by omega), up2_app, up1_ne (by omega), up1_ne (by omega), up1_ne (by omega), up1_app]
    by_cases q : i = f 4
    · rw [q, if_pos ⟨rfl, rfl⟩, if_pos rfl]
    · rw [if_neg (fun z => q z.2), if_neg (by omega)]
      exact (h.2 i (by omega)).1
  · rw [up2_ne (by omega), up2_ne (by omega), up2_app, up1_ne (by omega), up1_ne (by omega), up1_app]
    by_cases q : i = f 4
    · rw [q, if_pos ⟨rfl, rfl⟩, if_pos rfl]
    · rw [if_neg (fun z => q z.2), if_neg (by omega)]
      rw [up2_ne (by omega), up1_ne (by omega)]
      exact (h.2 i (by omega)).2.1
  · rw [up2_ne (by omega), up2_app, up1_ne (by omega), up1_app]
    by_cases q : i = f 4
    · rw [q, if_pos ⟨rfl, rfl⟩, if_pos rfl]
    · rw [if_neg (fun z => q z.2), if_neg (by omega)]
      rw [up2_ne (by omega), up2_ne (by omega), up1_ne (by omega), up1_ne (by omega)]
      exact (h.2 i (by omega)).2.2
theorem CR_drop {J J' : DJ} {k p : Nat} {f : Nat → Nat} (h : CR J k f) (h8 : f 4 ≤ 8) (hp : p < f 4) (e3 : J' k 3 = f 4 - 1) (he : ∀ r, 1 ≤ r → r ≤ 3 → ∀ j, j + 1 < f 4 → J' (k + r) j = if p ≤ j then J (k + r) (j + 1) else J (k + r) j) : CR J' k (mDrop f p) := by
  unfold CR
  have e4 : mDrop f p 4 = f 4 - 1 := up1_self
  rw [e4]
  refine ⟨e3, fun i hi => ?_⟩
  have a := he 1 (by omega) (by omega) i (by omega)
  have b := he 2 (by omega) (by omega) i (by omega)
  have c := he 3 (by omega) (by omega) i (by omega)
  rw [a, b, c]
  unfold mDrop
  simp only [up1_app]
  have z0 := h.2 i (by omega)
  have z1 := h.2 (i + 1) (by omega)
  by_cases q : p ≤ i
  · rw [if_pos q, if_pos q, if_pos q, if_neg (by omega), if_pos (by omega), if_neg (by omega), if_pos (by omega), if_neg (by omega), if_pos (by omega), show 221 + 3 * i + 3 = 221 + 3 * (i + 1) by omega, show 222 + 3 * i + 3 = 222 + 3 * (i + 1) by omega, show 223 + 3 * i + 3 = 223 + 3 * (i + 1) by omega]
    exact z1
  · rw [if_neg q, if_neg q, if_neg q, if_neg (by omega), if_neg (by omega), if_neg (by omega), if_neg (by omega), if_neg (by omega), if_neg (by omega), if_neg (by omega), if_neg (by omega), if_neg (by omega)]
    exact z0
