/-! THE MODEL'S ROW AS A FUNCTION: strokes of an engine, hours with knocks -/
def up1 (f : Nat → Nat) (i v : Nat) : Nat → Nat := fun j => if j = i then v else f j
theorem up1_app (f : Nat → Nat) (i v j : Nat) : up1 f i v j = if j = i then v else f j := rfl
theorem up1_ne {f : Nat → Nat} {i v j : Nat} (h : j ≠ i) : up1 f i v j = f j := if_neg h
theorem up1_self {f : Nat → Nat} {i v : Nat} : up1 f i v i = v := if_pos rfl
theorem up1_id {f : Nat → Nat} {i : Nat} : up1 f i (f i) = f := by
  funext j
  rw [up1_app]
  split
  · next h => rw [h]
  · rfl
theorem up1_up1 {f : Nat → Nat} {i v w : Nat} : up1 (up1 f i v) i w = up1 f i w := by
  funext j
  simp only [up1_app]
  split <;> rfl
theorem up1_comm {f : Nat → Nat} {i j v w : Nat} (h : i ≠ j) : up1 (up1 f i v) j w = up1 (up1 f j w) i v := by
  funext k
  simp only [up1_app]
  by_cases a : k = i
  · subst a; simp [h]
  · by_cases b : k = j
    · subst b; simp [a]
    · simp [a, b]
/-- an engine's knocks: the oldest goes when there are 24 -/
def mShK (f : Nat → Nat) (o : Nat) : Nat → Nat := fun k => if o + 28 ≤ k ∧ k < o + 51 then f (k + 1) else f k
def mKn (f : Nat → Nat) (o c : Nat) : Nat → Nat := if f (o + 3) = 24 then up1 (up1 (mShK f o) (o + 51) c) (o + 3) 24 else up1 (up1 f (o + 28 + f (o + 3)) c) (o + 3) (f (o + 3) + 1)
def eCy (f : Nat → Nat) (o : Nat) : Nat := f (o + 4 + f (o + 1))
def eDo (f : Nat → Nat) (o : Nat) : Nat → Nat := if 0 < f (o + 12 + eCy f o) then up1 (up1 f (o + 12 + eCy f o) (f (o + 12 + eCy f o) - 1)) (o + 20 + eCy f o) (f (o + 20 + eCy f o) + 1) else mKn f o (eCy f o)
def eSt (f : Nat → Nat) (o : Nat) : Nat → Nat := up1 (eDo f o) (o + 1) ((f (o + 1) + 1) % f o)
def eStN (f : Nat → Nat) (o : Nat) : Nat → Nat → Nat
  | 0 => f
  | n + 1 => eSt (eStN f o n) o
def eK1 (f : Nat → Nat) (o : Nat) : Nat := if 0 < f (o + 12 + eCy f o) then 0 else 1
def eKn (f : Nat → Nat) (o : Nat) : Nat → Nat
  | 0 => 0
  | n + 1 => eKn f o n + eK1 (eStN f o n) o
def EOk (f : Nat → Nat) (o : Nat) : Prop := 3 ≤ f o ∧ f o ≤ 8 ∧ f (o + 1) < f o ∧ f (o + 2) ≤ 9 ∧ f (o + 3) ≤ 24 ∧ (∀ c, c < f o → f (o + 4 + c) < f o) ∧ (∀ c c', c < f o → c' < f o → f (o + 4 + c) = f (o + 4 + c') → c = c') ∧ ∀ i, i < f (o + 3) → f (o + 28 + i) < f o
def EB (f : Nat → Nat) (o B : Nat) : Prop := ∀ i, o ≤ i → i < o + 52 → f i ≤ B
/-- the cells of an engine are alike -/
def EEq (f f' : Nat → Nat) (o : Nat) : Prop := ∀ i, o ≤ i → i < o + 52 → f' i = f i
theorem EEq.refl {f : Nat → Nat} {o : Nat} : EEq f f o := fun _ _ _ => rfl
theorem EEq.symm {f f' : Nat → Nat} {o : Nat} (h : EEq f f' o) : EEq f' f o := fun i a b => (h i a b).symm
theorem EEq.trans {f f' f2 : Nat → Nat} {o : Nat} (h : EEq f f' o) (h2 : EEq f' f2 o) : EEq f f2 o := fun i a b => (h2 i a b).trans (h i a b)
theorem eCy_lt {f : Nat → Nat} {o : Nat} (h : EOk f o) : eCy f o < f o := h.2.2.2.2.2.1 _ h.2.2.1
theorem eK1_le (f : Nat → Nat) (o : Nat) : eK1 f o ≤ 1 := by unfold eK1; split <;> omega
theorem eKn_le (f : Nat → Nat) (o : Nat) : ∀ n, eKn f o n ≤ n
  | 0 => Nat.le_refl _
  | n + 1 => Nat.add_le_add (eKn_le f o n) (eK1_le _ _)
/-- outside the engine nothing changes -/
theorem mKn_out {f : Nat → Nat} {o c k : Nat} (h3 : f (o + 3) ≤ 24) (h : k < o ∨ o + 52 ≤ k) : mKn f o c k = f k := by
  unfold mKn
  split
  · rw [up1_ne (by omega), up1_ne (by omega)]; exact if_neg (by omega)
  · rw [up1_ne (by omega), up1_ne (by omega)]
theorem eDo_out {f : Nat → Nat} {o k : Nat} (h : EOk f o) (hk : k < o ∨ o + 52 ≤ k) : eDo f o k = f k := by
  have hc := eCy_lt h
  have h8 := h.2.1
  unfold eDo
  split
  · rw [up1_ne (by omega), up1_ne (by omega)]
  · exact mKn_out h.2.2.2.2.1 hk
theorem eSt_out {f : Nat → Nat} {o k : Nat} (h : EOk f o) (hk : k < o ∨ o + 52 ≤ k) : eSt f o k = f k := by
  unfold eSt
  rw [up1_ne (by omega)]
  exact eDo_out h hk
/-- what a stroke makes of the engine, place by place -/
theorem mKn_n {f : Nat → Nat} {o c : Nat} (h3 : f (o + 3) ≤ 24) : mKn f o c (o + 3) = (if f (o + 3) = 24 then 24 else f (o + 3) + 1) := by
  unfold mKn
  split <;> rw [up1_self]
theorem mKn_lo {f : Nat → Nat} {o c k : Nat} (h3 : f (o + 3) ≤ 24) (hk : k < o + 28) (hn : k ≠ o + 3) : mKn f o c k = f k := by
  unfold mKn
  split
  · rw [up1_ne hn, up1_ne (by omega)]; exact if_neg (by omega)
  · rw [up1_ne hn, up1_ne (by omega)]
theorem mKn_hi {f : Nat → Nat} {o c i : Nat} (h3 : f (o + 3) ≤ 24) (hi : i < 24) : mKn f o c (o + 28 + i) = (if f (o + 3) = 24 then (if i = 23 then c else f (o + 28 + i + 1)) else if i = f (o + 3) then c else f (o + 28 + i)) := by
  unfold mKn
  split
  · rw [up1_ne (by omega), up1_app]
    by_cases e : i = 23
    · subst e; simp
    · rw [if_neg (by omega), if_neg e]; exact if_pos (by omega)
  · rw [up1_ne (by omega), up1_app]
    by_cases e : i = f (o + 3)
    · subst e; simp
    · rw [if_neg (by omega), if_neg e]
theorem eDo_lo {f : Nat → Nat} {o k : Nat} (h : EOk f o) (hk : k < o + 12) (hn : k ≠ o + 3) : eDo f o k = f k := by
  unfold eDo
  split
  · rw [up1_ne (by omega), up1_ne (by omega)]
  · exact mKn_lo h.2.2.2.2.1 (by omega) hn
theorem eDo_n {f : Nat → Nat} {o : Nat} (h : EOk f o) : eDo f o (o + 3) = (if 0 < f (o + 12 + eCy f o) then f (o + 3) else if f (o + 3) = 24 then 24 else f (o + 3) + 1) := by
  have hc := eCy_lt h
  unfold eDo
  split
  · rw [up1_ne (by omega), up1_ne (by omega)]
  · exact mKn_n h.2.2.2.2.1
theorem eDo_oil {f : Nat → Nat} {o c : Nat} (h : EOk f o) (hc : c < 8) : eDo f o (o + 12 + c) = (if c = eCy f o then f (o + 12 + c) - 1 else f (o + 12 + c)) := by
  have hcy := eCy_lt h
  have h8 := h.2.1
  unfold eDo
  split
  · rw [up1_ne (by omega), up1_app]
    by_cases e : c = eCy f o
    · rw [e, if_pos rfl, if_pos rfl]
    · rw [if_neg (by omega), if_neg e]
  · next q =>
    rw [mKn_lo h.2.2.2.2.1 (by omega) (by omega)]
    by_cases e : c = eCy f o
    · rw [if_pos e, e]; omega
    · rw [if_neg e]
theorem eDo_wear {f : Nat → Nat} {o c : Nat} (h : EOk f o) (hc : c < 8) : eDo f o (o + 20 + c) = (if c = eCy f o then f (o + 20 + c) + (1 - eK1 f o) else f (o + 20 + c)) := by
  have hcy := eCy_lt h
  have h8 := h.2.1
  unfold eDo eK1
  split
  · rw [up1_app]
    by_cases e : c = eCy f o
    · rw [e, if_pos rfl, if_pos rfl]
    · rw [if_neg (by omega), if_neg e, up1_ne (by omega)]
  · rw [mKn_lo h.2.2.2.2.1 (by omega) (by omega)]
    split <;> rfl
theorem eDo_kn {f : Nat → Nat} {o i : Nat} (h : EOk f o) (hi : i < 24) : eDo f o (o + 28 + i) = (if 0 < f (o + 12 + eCy f o) then f (o + 28 + i) else if f (o + 3) = 24 then (if i = 23 then eCy f o else f (o + 28 + i + 1)) else if i = f (o + 3) then eCy f o else f (o + 28 + i)) := by
  have hcy := eCy_lt h
  have h8 := h.2.1
  unfold eDo
  split
  · rw [up1_ne (by omega), up1_ne (by omega)]
  · exact mKn_hi h.2.2.2.2.1 hi
theorem eDo_B {f : Nat → Nat} {o B i : Nat} (h : EOk f o) (hB : EB f o B) (h24 : 24 ≤ B) (ha : o ≤ i) (hb : i < o + 52) : eDo f o i ≤ B + 1 := by
  have hcy := eCy_lt h
  have h8 := h.2.1
  have q : (i < o + 12 ∧ i ≠ o + 3) ∨ i = o + 3 ∨ (∃ c, c < 8 ∧ i = o + 12 + c) ∨ (∃ c, c < 8 ∧ i = o + 20 + c) ∨ (∃ c, c < 24 ∧ i = o + 28 + c) := by
    by_cases q1 : i < o + 12
    · omega
    · by_cases q2 : i < o + 20
      · exact Or.inr (Or.inr (Or.inl ⟨i - (o + 12), by omega, by omega⟩))
      · by_cases q3 : i < o + 28
        · exact Or.inr (Or.inr (Or.inr (Or.inl ⟨i - (o + 20), by omega, by omega⟩)))
        · exact Or.inr (Or.inr (Or.inr (Or.inr ⟨i - (o + 28), by omega, by omega⟩)))
  have b0 := hB i ha hb
  rcases q with ⟨q1, q2⟩ | rfl | ⟨c, hc, rfl⟩ | ⟨c, hc, rfl⟩ | ⟨c, hc, rfl⟩
  · rw [eDo_lo h q1 q2]; omega
  · rw [eDo_n h]
    split
    · omega
    · split <;> omega
  · rw [eDo_oil h hc]
    split <;> omega
  · rw [eDo_wear h hc]
    split <;> omega
  · rw [eDo_kn h hc]
    split
    · omega
    · split
      · split
        · omega
        · have := hB (o + 28 + c + 1) (by omega) (by omega)
          omega
      · split <;> omega
theorem eSt_B {f : Nat → Nat} {o B : Nat} (h : EOk f o) (hB : EB f o B) (h24 : 24 ≤ B) : EB (eSt f o) o (B + 1) := by
  intro i ha hb
  unfold eSt
  rw [up1_app]
  split
  · have := Nat.mod_lt (f (o + 1) + 1) (show f o > 0 by have := h.1; omega)
    have := h.2.1
    omega
  · exact eDo_B h hB h24 ha hb
theorem eSt_ok {f : Nat → Nat} {o : Nat} (h : EOk f o) : EOk (eSt f o) o := by
  have hcy := eCy_lt h
  obtain ⟨h0, h8, h1, h2, h3, ho, hj, hk⟩ := h
  have h : EOk f o := ⟨h0, h8, h1, h2, h3, ho, hj, hk⟩
  have e0 : eSt f o o = f o := by unfold eSt; rw [up1_ne (by omega), eDo_lo h (by omega) (by omega)]
  have e1 : eSt f o (o + 1) = (f (o + 1) + 1) % f o := by unfold eSt; rw [up1_self]
  have e2 : eSt f o (o + 2) = f (o + 2) := by unfold eSt; rw [up1_ne (by omega), eDo_lo h (by omega) (by omega)]
  have e3 : eSt f o (o + 3) = eDo f o (o + 3) := by unfold eSt; rw [up1_ne (by omega)]
  have e4 : ∀ c, c < f o → eSt f o (o + 4 + c) = f (o + 4 + c) := fun c hc => by unfold eSt; rw [up1_ne (by omega), eDo_lo h (by omega) (by omega)]
  have e5 : ∀ i, eSt f o (o + 28 + i) = eDo f o (o + 28 + i) := fun i => by unfold eSt; rw [up1_ne (by omega)]
  have n3 := eDo_n h
  unfold EOk
  rw [e0, e1, e2, e3]
  refine ⟨h0, h8, Nat.mod_lt _ (by omega), h2, ?_, fun c hc => by rw [e4 c hc]; exact ho c hc, fun c c' hc hc' q => by rw [e4 c hc, e4 c' hc'] at q; exact hj c c' hc hc' q, ?_⟩
  · rw [n3]; split
    · exact h3
    · split <;> omega
  · intro i hi
    have hi24 : i < 24 := by
      rw [n3] at hi
      split at hi
      · omega
      · split at hi <;> omega
    rw [e5, eDo_kn h hi24]
    rw [n3] at hi
    split
    · next q => rw [if_pos q] at hi; exact hk i hi
    · next q =>
      rw [if_neg q] at hi
      split
      · split
        · exact hcy
        · exact hk (i + 1) (by omega)
      · next q2 =>
        rw [if_neg q2] at hi
        split
        · exact hcy
        · exact hk i (by omega)
theorem eStN_ok {f : Nat → Nat} {o : Nat} (h : EOk f o) : ∀ n, EOk (eStN f o n) o
  | 0 => h
  | n + 1 => eSt_ok (eStN_ok h n)
theorem eStN_B {f : Nat → Nat} {o B : Nat} (h : EOk f o) (hB : EB f o B) (h24 : 24 ≤ B) : ∀ n, EB (eStN f o n) o (B + n)
  | 0 => hB
  | n + 1 => eSt_B (eStN_ok h n) (eStN_B h hB h24 n) (Nat.le_trans h24 (Nat.le_add_right B n))
theorem eStN_out {f : Nat → Nat} {o k : Nat} (h : EOk f o) (hk : k < o ∨ o + 52 ≤ k) : ∀ n, eStN f o n k = f k
  | 0 => rfl
  | n + 1 => (eSt_out (eStN_ok h n) hk).trans (eStN_out h hk n)
theorem eSt_cyl {f : Nat → Nat} {o : Nat} (h : EOk f o) : eSt f o o = f o := by unfold eSt; rw [up1_ne (by omega), eDo_lo h (by omega) (by omega)]
theorem eSt_rate {f : Nat → Nat} {o : Nat} (h : EOk f o) : eSt f o (o + 2) = f (o + 2) := by unfold eSt; rw [up1_ne (by omega), eDo_lo h (by omega) (by omega)]
theorem eStN_cyl {f : Nat → Nat} {o : Nat} (h : EOk f o) : ∀ n, eStN f o n o = f o
  | 0 => rfl
  | n + 1 => (eSt_cyl (eStN_ok h n)).trans (eStN_cyl h n)
theorem eStN_rate {f : Nat → Nat} {o : Nat} (h : EOk f o) : ∀ n, eStN f o n (o + 2) = f (o + 2)
  | 0 => rfl
  | n + 1 => (eSt_rate (eStN_ok h n)).trans (eStN_rate h n)
/-- the sum of the oil in an engine -/
def eOil (f : Nat → Nat) (o : Nat) : Nat := sumN (fun c => f (o + 12 + c)) (f o)
theorem sumN_up {f : Nat → Nat} {i v : Nat} : ∀ n, i < n → sumN (up1 f i v) n + f i = sumN f n + v
  | 0, h => absurd h (by omega)
  | n + 1, h => by
    simp only [sumN]
    by_cases e : i = n
    · subst e
      rw [up1_self, sumN_congr (f := up1 f i v) (f' := f) i (fun j hj => up1_ne (by omega))]
      omega
    · rw [up1_ne (by omega)]
      have := sumN_up (f := f) (i := i) (v := v) n (by omega)
      omega
theorem eSt_oil {f : Nat → Nat} {o : Nat} (h : EOk f o) : eOil (eSt f o) o + (1 - eK1 f o) = eOil f o := by
  have hcy := eCy_lt h
  unfold eOil
  rw [eSt_cyl h]
  have h8 := h.2.1
  have e : sumN (fun c => eSt f o (o + 12 + c)) (f o) = sumN (up1 (fun c => f (o + 12 + c)) (eCy f o) (f (o + 12 + eCy f o) - 1)) (f o) := by
    refine sumN_congr _ (fun c hc => ?_)
    show up1 (eDo f o) (o + 1) _ (o + 12 + c) = _
    rw [up1_ne (by omega), eDo_oil h (by omega), up1_app]
    split
    · next q => rw [q]
    · rfl
  have s : sumN (up1 (fun c => f (o + 12 + c)) (eCy f o) (f (o + 12 + eCy f o) - 1)) (f o) + f (o + 12 + eCy f o) = sumN (fun c => f (o + 12 + c)) (f o) + (f (o + 12 + eCy f o) - 1) := sumN_up (f o) hcy
  rw [e]
  unfold eK1
  split <;> omega
theorem eStN_oil {f : Nat → Nat} {o : Nat} (h : EOk f o) : ∀ n, eOil (eStN f o n) o + n = eOil f o + eKn f o n
  | 0 => rfl
  | n + 1 => by
    have a := eSt_oil (eStN_ok h n)
    have b := eStN_oil h n
    have c := eK1_le (eStN f o n) o
    show eOil (eSt (eStN f o n) o) o + (n + 1) = eOil f o + (eKn f o n + eK1 (eStN f o n) o)
    omega
/-- alike before, alike after -/
theorem EEq.ok {f f' : Nat → Nat} {o : Nat} (h : EOk f o) (e : EEq f f' o) : EOk f' o := by
  obtain ⟨h0, h8, h1, h2, h3, ho, hj, hk⟩ := h
  have e0 := e o (by omega) (by omega)
  unfold EOk
  rw [e0, e (o + 1) (by omega) (by omega), e (o + 2) (by omega) (by omega), e (o + 3) (by omega) (by omega)]
  refine ⟨h0, h8, h1, h2, h3, fun c hc => by rw [e (o + 4 + c) (by omega) (by omega)]; exact ho c hc, fun c c' hc hc' q => by rw [e (o + 4 + c) (by omega) (by omega), e (o + 4 + c') (by omega) (by omega)] at q; exact hj c c' hc hc' q, fun i hi => by rw [e (o + 28 + i) (by omega) (by omega)]; exact hk i hi⟩
theorem EEq.cy {f f' : Nat → Nat} {o : Nat} (h : EOk f o) (e : EEq f f' o) : eCy f' o = eCy f o := by
  unfold eCy
  rw [e (o + 1) (by omega) (by omega), e _ (by omega) (by have := h.2.2.1; have := h.2.1; omega)]
theorem EEq.k1 {f f' : Nat → Nat} {o : Nat} (h : EOk f o) (e : EEq f f' o) : eK1 f' o = eK1 f o := by
  unfold eK1
  rw [e.cy h, e _ (by omega) (by have := eCy_lt h; have := h.2.1; omega)]
theorem EEq.mKn {f f' : Nat → Nat} {o c : Nat} (h3 : f (o + 3) ≤ 24) (e : EEq f f' o) : EEq (mKn f o c) (mKn f' o c) o := by
  intro i ha hb
  have e3 := e (o + 3) (by omega) (by omega)
  by_cases q : i < o + 28
  · by_cases q3 : i = o + 3
    · subst q3; rw [mKn_n h3, mKn_n (by omega), e3]
    · rw [mKn_lo h3 q q3, mKn_lo (by omega) q q3]; exact e i ha hb
  · obtain ⟨j, rfl⟩ : ∃ j, i = o + 28 + j := ⟨i - (o + 28), by omega⟩
    rw [mKn_hi h3 (by omega), mKn_hi (by omega) (by omega), e3, e (o + 28 + j) (by omega) (by omega)]
    by_cases q : j = 23
    · simp only [if_pos q]
    · simp only [if_neg q]
      rw [e (o + 28 + j + 1) (by omega) (by omega)]
theorem EEq.st {f f' : Nat → Nat} {o : Nat} (h : EOk f o) (e : EEq f f' o) : EEq (eSt f o) (eSt f' o) o := by
  have hc := eCy_lt h
  have h8 := h.2.1
  have ec := e.cy h
  have eo := e (o + 12 + eCy f o) (by omega) (by omega)
  have ew := e (o + 20 + eCy f o) (by omega) (by omega)
  intro i ha hb
  unfold eSt
  rw [up1_app, up1_app, e (o + 1) (by omega) (by omega), e o (by omega) (by omega)]
  split
  · rfl
  · unfold eDo
    rw [ec, eo, ew]
    split
    · simp only [up1_app]
      split
      · rfl
      · split
        · rfl
        · exact e i ha hb
    · exact (e.mKn h.2.2.2.2.1) i ha hb
theorem EEq.stN {f f' : Nat → Nat} {o : Nat} (h : EOk f o) (e : EEq f f' o) : ∀ n, EEq (eStN f o n) (eStN f' o n) o
  | 0 => e
  | n + 1 => (EEq.stN h e n).st (eStN_ok h n)
theorem EEq.kn {f f' : Nat → Nat} {o : Nat} (h : EOk f o) (e : EEq f f' o) : ∀ n, eKn f' o n = eKn f o n
  | 0 => rfl
  | n + 1 => by
    show eKn f' o n + eK1 (eStN f' o n) o = eKn f o n + eK1 (eStN f o n) o
    rw [EEq.kn h e n, (e.stN h n).k1 (eStN_ok h n)]
