/-! THE LATEST HOURS WITH KNOCKS, on the model's row: 6 how many, 245 + 2 i the hour, 246 + 2 i its knocks -/
def mSh (f : Nat → Nat) : Nat → Nat := up1 (fun k => if 245 ≤ k ∧ k < 267 then f (k + 2) else f k) 6 11
def mOpn (f : Nat → Nat) : Nat → Nat := up1 (up1 (up1 f (245 + 2 * f 6) (f 1)) (246 + 2 * f 6) 0) 6 (f 6 + 1)
def mIs (f : Nat → Nat) : Prop := 0 < f 6 ∧ f (243 + 2 * f 6) = f 1
def mOp (f : Nat → Nat) : Nat → Nat := if 0 < f 6 ∧ f (243 + 2 * f 6) = f 1 then f else mOpn (if f 6 = 12 then mSh f else f)
def mAdd (f : Nat → Nat) (n : Nat) : Nat → Nat := up1 f (244 + 2 * f 6) (f (244 + 2 * f 6) + n)
def mHour (f : Nat → Nat) : Nat → Nat := mAdd (mOp f) 1
def mHourN (f : Nat → Nat) : Nat → Nat → Nat
  | 0 => f
  | n + 1 => mHour (mHourN f n)
def HOk (f : Nat → Nat) : Prop := f 6 ≤ 12 ∧ (∀ i, i < f 6 → f (245 + 2 * i) ≤ f 1) ∧ ∀ i, i + 1 < f 6 → f (245 + 2 * i) < f (247 + 2 * i)
theorem mOp_is {f : Nat → Nat} (h : f 6 ≤ 12) : mIs (mOp f) ∧ mOp f 1 = f 1 ∧ mOp f 6 ≤ 12 := by
  unfold mOp
  split
  · next q => exact ⟨q, rfl, h⟩
  · by_cases e : f 6 = 12
    · rw [if_pos e]
      have e6 : mSh f 6 = 11 := rfl
      have e1 : mSh f 1 = f 1 := rfl
      unfold mIs mOpn
      rw [e6, e1]
      exact ⟨⟨by show (0 : Nat) < 12; omega, rfl⟩, rfl, by show (12 : Nat) ≤ 12; omega⟩
    · rw [if_neg e]
      unfold mIs mOpn
      rw [up1_self]
      refine ⟨⟨by omega, ?_⟩, ?_, by omega⟩
      · rw [show 243 + 2 * (f 6 + 1) = 245 + 2 * f 6 by omega, up1_ne (by omega), up1_ne (by omega), up1_self, up1_ne (by omega), up1_ne (by omega), up1_ne (by omega)]
      · rw [up1_ne (by omega), up1_ne (by omega), up1_ne (by omega)]
theorem mAdd_is {f : Nat → Nat} {n : Nat} (h : mIs f) (h6 : f 6 ≤ 12) : mIs (mAdd f n) ∧ mAdd f n 6 = f 6 ∧ mAdd f n 1 = f 1 := by
  have h0 := h.1
  have e6 : mAdd f n 6 = f 6 := up1_ne (by omega)
  have e1 : mAdd f n 1 = f 1 := up1_ne (by omega)
  refine ⟨⟨by rw [e6]; exact h0, ?_⟩, e6, e1⟩
  rw [e6, e1]
  exact (up1_ne (by omega)).trans h.2
theorem mOp_of {f : Nat → Nat} (h : mIs f) : mOp f = f := if_pos h
theorem mHourN_succ {f : Nat → Nat} (h6 : f 6 ≤ 12) : ∀ n, mHourN f (n + 1) = mAdd (mOp f) (n + 1)
  | 0 => rfl
  | n + 1 => by
    have q := mOp_is h6
    show mHour (mHourN f (n + 1)) = _
    rw [mHourN_succ h6 n]
    have a := mAdd_is (n := n + 1) q.1 q.2.2
    unfold mHour
    rw [mOp_of a.1]
    unfold mAdd
    have h0 := q.1.1
    rw [up1_ne (show (6 : Nat) ≠ 244 + 2 * mOp f 6 by omega), up1_self, up1_up1, Nat.add_assoc]
theorem mOp_out {f : Nat → Nat} {k : Nat} (h6 : f 6 ≤ 12) (hk : k ≠ 6) (h : k < 245 ∨ 269 ≤ k) : mOp f k = f k := by
  unfold mOp
  split
  · rfl
  · by_cases e : f 6 = 12
    · rw [if_pos e]
      have e6 : mSh f 6 = 11 := rfl
      unfold mOpn
      rw [e6, up1_ne hk, up1_ne (by omega), up1_ne (by omega)]
      unfold mSh
      rw [up1_ne hk]
      exact if_neg (by omega)
    · rw [if_neg e]
      unfold mOpn
      rw [up1_ne hk, up1_ne (by omega), up1_ne (by omega)]
theorem mHour_out {f : Nat → Nat} {k : Nat} (h6 : f 6 ≤ 12) (hk : k ≠ 6) (h : k < 245 ∨ 269 ≤ k) : mHour f k = f k := by
  have q := mOp_is h6
  have h0 := q.1.1
  unfold mHour mAdd
  rw [up1_ne (by omega)]
  exact mOp_out h6 hk h
theorem mHour_6 {f : Nat → Nat} (h6 : f 6 ≤ 12) : mHour f 6 ≤ 12 ∧ mHour f 1 = f 1 := by
  have q := mOp_is h6
  have a := mAdd_is (n := 1) q.1 q.2.2
  exact ⟨by show mAdd _ _ _ ≤ _; rw [a.2.1]; exact q.2.2, a.2.2.trans q.2.1⟩
theorem mHourN_6 {f : Nat → Nat} (h6 : f 6 ≤ 12) : ∀ n, mHourN f n 6 ≤ 12 ∧ mHourN f n 1 = f 1
  | 0 => ⟨h6, rfl⟩
  | n + 1 => by
    have q := mHourN_6 h6 n
    have a := mHour_6 q.1
    exact ⟨a.1, a.2.trans q.2⟩
theorem mHourN_out {f : Nat → Nat} {k : Nat} (h6 : f 6 ≤ 12) (hk : k ≠ 6) (h : k < 245 ∨ 269 ≤ k) : ∀ n, mHourN f n k = f k
  | 0 => rfl
  | n + 1 => (mHour_out (mHourN_6 h6 n).1 hk h).trans (mHourN_out h6 hk h n)
/-- alike there, alike after -/
def HEq2 (f f' : Nat → Nat) : Prop := f' 1 = f 1 ∧ f' 6 = f 6 ∧ ∀ k, 245 ≤ k → k < 269 → f' k = f k
theorem HEq2.refl {f : Nat → Nat} : HEq2 f f := ⟨rfl, rfl, fun _ _ _ => rfl⟩
theorem HEq2.up {f f' : Nat → Nat} {i j v : Nat} (h : HEq2 f f') (e : i = j) : HEq2 (up1 f i v) (up1 f' j v) := by
  subst e
  obtain ⟨h1, h6, hk⟩ := h
  refine ⟨?_, ?_, fun k a b => ?_⟩ <;> simp only [up1_app] <;> split <;> first | rfl | assumption | exact hk k a b
theorem HEq2.op {f f' : Nat → Nat} (h : HEq2 f f') (h6 : f 6 ≤ 12) : HEq2 (mOp f) (mOp f') := by
  have h2 := h
  obtain ⟨h1, hs, hk⟩ := h
  unfold mOp
  rw [h1, hs]
  by_cases q0 : 0 < f 6
  · rw [hk (243 + 2 * f 6) (by omega) (by omega)]
    split
    · exact h2
    · split
      · unfold mOpn
        have s6 : mSh f 6 = 11 := rfl
        have s6' : mSh f' 6 = 11 := rfl
        have s1 : mSh f 1 = f 1 := rfl
        have s1' : mSh f' 1 = f' 1 := rfl
        rw [s6, s6', s1, s1', h1]
        refine HEq2.up (HEq2.up (HEq2.up ?_ rfl) rfl) rfl
        unfold mSh
        refine HEq2.up ⟨?_, ?_, fun k a b => ?_⟩ rfl
        · exact h1
        · exact hs
        · show (if 245 ≤ k ∧ k < 267 then f' (k + 2) else f' k) = (if 245 ≤ k ∧ k < 267 then f (k + 2) else f k)
          split
          · exact hk _ (by omega) (by omega)
          · exact hk _ a b
      · unfold mOpn
        rw [hs, h1]
        exact HEq2.up (HEq2.up (HEq2.up h2 rfl) rfl) rfl
  · have q1 : ¬ f 6 = 12 := by omega
    rw [if_neg (show ¬ (0 < f 6 ∧ f (243 + 2 * f 6) = f 1) from fun z => q0 z.1), if_neg (show ¬ (0 < f 6 ∧ f' (243 + 2 * f 6) = f 1) from fun z => q0 z.1), if_neg q1, if_neg q1]
    unfold mOpn
    rw [hs, h1]
    exact HEq2.up (HEq2.up (HEq2.up h2 rfl) rfl) rfl
theorem HEq2.hour {f f' : Nat → Nat} (h : HEq2 f f') (h6 : f 6 ≤ 12) : HEq2 (mHour f) (mHour f') := by
  have q := h.op h6
  have i := mOp_is h6
  have i0 := i.1.1
  unfold mHour mAdd
  rw [q.2.1, q.2.2 (244 + 2 * mOp f 6) (by omega) (by omega)]
  exact HEq2.up q rfl
theorem HEq2.hourN {f f' : Nat → Nat} (h : HEq2 f f') (h6 : f 6 ≤ 12) : ∀ n, HEq2 (mHourN f n) (mHourN f' n)
  | 0 => h
  | n + 1 => (HEq2.hourN h h6 n).hour (mHourN_6 h6 n).1
/-- what is kept stays in order -/
theorem mOp_ok {f : Nat → Nat} (h : HOk f) : HOk (mOp f) := by
  obtain ⟨h6, hl, hi⟩ := h
  unfold mOp
  split
  · exact ⟨h6, hl, hi⟩
  · next q =>
    by_cases e : f 6 = 12
    · rw [if_pos e]
      have s6 : mSh f 6 = 11 := rfl
      have s1 : mSh f 1 = f 1 := rfl
      have last : f 267 ≠ f 1 := fun z => q ⟨by omega, by rw [e]; exact z⟩
      have l2 : f 267 ≤ f 1 := hl 11 (by omega)
      have sv : ∀ i, i < 11 → mOpn (mSh f) (245 + 2 * i) = f (247 + 2 * i) := fun i hi2 => by
        unfold mOpn mSh
        rw [up1_self, up1_ne (by omega), up1_ne (by omega), up1_ne (by omega), up1_ne (by omega)]
        show (if 245 ≤ 245 + 2 * i ∧ 245 + 2 * i < 267 then f (245 + 2 * i + 2) else _) = _
        rw [if_pos (by omega), show 245 + 2 * i + 2 = 247 + 2 * i by omega]
      have sl : mOpn (mSh f) 267 = f 1 := rfl
      have e6 : mOpn (mSh f) 6 = 12 := rfl
      have e1 : mOpn (mSh f) 1 = f 1 := rfl
      refine ⟨by rw [e6]; omega, ?_, ?_⟩
      · intro i a
        rw [e6] at a
        rw [e1]
        by_cases c : i = 11
        · subst c; exact Nat.le_of_eq sl
        · rw [sv i (by omega), show 247 + 2 * i = 245 + 2 * (i + 1) by omega]; exact hl (i + 1) (by omega)
      · intro i a
        rw [e6] at a
        rw [sv i (by omega)]
        by_cases c : i = 10
        · subst c
          show f 267 < mOpn (mSh f) 267
          rw [sl]
          omega
        · rw [show 247 + 2 * i = 245 + 2 * (i + 1) by omega, sv (i + 1) (by omega), show 247 + 2 * (i + 1) = 247 + 2 * (i + 1) by omega]; exact hi (i + 1) (by omega)
    · rw [if_neg e]
      have sv : ∀ i, i < f 6 → mOpn f (245 + 2 * i) = f (245 + 2 * i) := fun i hi2 => by
        unfold mOpn
        rw [up1_ne (by omega), up1_ne (by omega), up1_ne (by omega)]
      have sl : mOpn f (245 + 2 * f 6) = f 1 := by
        unfold mOpn
        rw [up1_ne (by omega), up1_ne (by omega), up1_self]
      have e6 : mOpn f 6 = f 6 + 1 := up1_self
      have e1 : mOpn f 1 = f 1 := by
        unfold mOpn
        rw [up1_ne (by omega), up1_ne (by omega), up1_ne (by omega)]
      refine ⟨by rw [e6]; omega, ?_, ?_⟩
      · intro i a
        rw [e6] at a
        rw [e1]
        by_cases c : i = f 6
        · rw [c]; exact Nat.le_of_eq sl
        · rw [sv i (by omega)]; exact hl i (by omega)
      · intro i a
        rw [e6] at a
        rw [sv i (by omega), show 247 + 2 * i = 245 + 2 * (i + 1) by omega]
        by_cases c : i + 1 = f 6
        · rw [c, sl]
          have l2 := hl i (by omega)
          have : f (243 + 2 * f 6) ≠ f 1 := fun z => q ⟨by omega, z⟩
          rw [← c, show 243 + 2 * (i + 1) = 245 + 2 * i by omega] at this
          omega
        · rw [sv (i + 1) (by omega)]
          have := hi i (by omega)
          rw [show 247 + 2 * i = 245 + 2 * (i + 1) by omega] at this
          exact this
theorem mAdd_ok {f : Nat → Nat} {n : Nat} (h : HOk f) (h0 : 0 < f 6) : HOk (mAdd f n) := by
  obtain ⟨h6, hl, hi⟩ := h
  have e6 : mAdd f n 6 = f 6 := up1_ne (by omega)
  have e1 : mAdd f n 1 = f 1 := up1_ne (by omega)
  have ev : ∀ i, mAdd f n (245 + 2 * i) = f (245 + 2 * i) := fun i => up1_ne (by omega)
  refine ⟨by rw [e6]; exact h6, fun i a => ?_, fun i a => ?_⟩
  · rw [e6] at a; rw [ev, e1]; exact hl i a
  · rw [e6] at a
    have q := hi i a
    rw [show 247 + 2 * i = 245 + 2 * (i + 1) by omega] at q ⊢
    rw [ev, ev]
    exact q
theorem mHour_ok {f : Nat → Nat} (h : HOk f) : HOk (mHour f) := mAdd_ok (mOp_ok h) (mOp_is h.1).1.1
theorem mHourN_ok {f : Nat → Nat} (h : HOk f) : ∀ n, HOk (mHourN f n)
  | 0 => h
  | n + 1 => mHour_ok (mHourN_ok h n)
def HB (f : Nat → Nat) (B : Nat) : Prop := f 1 ≤ B ∧ ∀ k, 245 ≤ k → k < 269 → f k ≤ B
theorem mHour_B {f : Nat → Nat} {B : Nat} (h : HB f B) (h6 : f 6 ≤ 12) : HB (mHour f) (B + 1) := by
  have q := mOp_is h6
  have h0 := q.1.1
  have bo : ∀ k, 245 ≤ k → k < 269 → mOp f k ≤ B := by
    intro k a b
    unfold mOp
    split
    · exact h.2 k a b
    · by_cases e : f 6 = 12
      · rw [if_pos e]
        have s6 : mSh f 6 = 11 := rfl
        have s1 : mSh f 1 = f 1 := rfl
        unfold mOpn
        rw [s6, s1, up1_ne (by omega), up1_app]
        split
        · omega
        · rw [up1_app]
          split
          · exact h.1
          · unfold mSh
            rw [up1_ne (by omega)]
            show (if 245 ≤ k ∧ k < 267 then f (k + 2) else f k) ≤ B
            split
            · exact h.2 _ (by omega) (by omega)
            · exact h.2 _ a b
      · rw [if_neg e]
        unfold mOpn
        rw [up1_ne (by omega), up1_app]
        split
        · omega
        · rw [up1_app]
          split
          · exact h.1
          · exact h.2 k a b
  refine ⟨by rw [(mHour_6 h6).2]; have := h.1; omega, fun k a b => ?_⟩
  unfold mHour mAdd
  rw [up1_app]
  split
  · have := bo (244 + 2 * mOp f 6) (by omega) (by omega)
    omega
  · have := bo k a b
    omega
theorem mHourN_B {f : Nat → Nat} {B : Nat} (h : HB f B) (h6 : f 6 ≤ 12) : ∀ n, HB (mHourN f n) (B + n)
  | 0 => h
  | n + 1 => mHour_B (mHourN_B h h6 n) (mHourN_6 h6 n).1
