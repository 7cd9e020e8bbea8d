/-! OIL FOR THE DRIEST: all cylinders in a row, giving, filling -/
def cyN (f : Nat → Nat) (e : Nat) : Nat := sumN (fun a => f (7 + 52 * a)) e
def cnt (f : Nat → Nat) : Nat := cyN f (f 0)
def lnE (f : Nat → Nat) (j : Nat) : Nat := if j < cyN f 1 then 0 else if j < cyN f 2 then 1 else if j < cyN f 3 then 2 else 3
def lnC (f : Nat → Nat) (j : Nat) : Nat := j - cyN f (lnE f j)
def ol (f : Nat → Nat) (j : Nat) : Nat := f (19 + 52 * lnE f j + lnC f j)
def amN (g : Nat → Nat) : Nat → Nat
  | 0 => 0
  | n + 1 => if g n < g (amN g n) then n else amN g n
def gv (w : Nat → Nat) (n : Nat) : Nat → Nat := up1 w (amN w n) (w (amN w n) + 1)
def gvN (w : Nat → Nat) (n : Nat) : Nat → Nat → Nat
  | 0 => w
  | k + 1 => gv (gvN w n k) n
def xG (f : Nat → Nat) : Nat → Nat := up1 f (19 + 52 * lnE f (amN (ol f) (cnt f)) + lnC f (amN (ol f) (cnt f))) (ol f (amN (ol f) (cnt f)) + 1)
def xGN (f : Nat → Nat) : Nat → Nat → Nat
  | 0 => f
  | k + 1 => xG (xGN f k)
def lst (w : Nat → Nat) (n : Nat) : Nat := w (amN w n)
theorem amN_lt (g : Nat → Nat) : ∀ n, 1 ≤ n → amN g n < n
  | 0, h => absurd h (by omega)
  | n + 1, _ => by
    simp only [amN]
    split
    · omega
    · rcases Nat.eq_zero_or_pos n with q | q
      · subst q; show 0 < 1; omega
      · have := amN_lt g n q
        omega
theorem amN_congr {g g' : Nat → Nat} : ∀ n, (∀ i, i < n → g' i = g i) → amN g' n = amN g n
  | 0, _ => rfl
  | n + 1, h => by
    have ih := amN_congr n (fun i hi => h i (by omega))
    simp only [amN]
    rw [ih, h n (by omega)]
    rcases Nat.eq_zero_or_pos n with q | q
    · subst q
      show (if g 0 < g' 0 then 0 else 0) = (if g 0 < g 0 then 0 else 0)
      simp
    · rw [h _ (Nat.lt_succ_of_lt (amN_lt g n q))]
theorem amN_min (g : Nat → Nat) : ∀ n i, i < n → g (amN g n) ≤ g i
  | 0, i, h => absurd h (by omega)
  | n + 1, i, h => by
    simp only [amN]
    by_cases e : i = n
    · subst e
      split <;> omega
    · have := amN_min g n i (by omega)
      split <;> omega
theorem cyN_succ (f : Nat → Nat) (e : Nat) : cyN f (e + 1) = cyN f e + f (7 + 52 * e) := rfl
theorem cyN_congr {f f' : Nat → Nat} {e : Nat} (h : ∀ a, a < e → f' (7 + 52 * a) = f (7 + 52 * a)) : cyN f' e = cyN f e := sumN_congr _ h
theorem cyN_mono (f : Nat → Nat) {a b : Nat} (h : a ≤ b) : cyN f a ≤ cyN f b := by
  induction b with
  | zero => rw [Nat.le_zero.mp h]; exact Nat.le_refl _
  | succ b ih =>
    by_cases e : a = b + 1
    · rw [e]; exact Nat.le_refl _
    · have := ih (by omega)
      rw [cyN_succ]
      omega
theorem ln_of {f : Nat → Nat} {e c : Nat} (he : e < 4) (hc : c < f (7 + 52 * e)) : lnE f (cyN f e + c) = e ∧ lnC f (cyN f e + c) = c := by
  have a1 := cyN_mono f (show e ≤ e + 1 by omega)
  have s := cyN_succ f e
  have E : lnE f (cyN f e + c) = e := by
    unfold lnE
    have q : e = 0 ∨ e = 1 ∨ e = 2 ∨ e = 3 := by omega
    rcases q with rfl | rfl | rfl | rfl
    · have s : cyN f 1 = cyN f 0 + f (7 + 52 * 0) := s
      rw [if_pos (by omega)]
    · have s : cyN f 2 = cyN f 1 + f (7 + 52 * 1) := s
      rw [if_neg (by omega), if_pos (by omega)]
    · have := cyN_mono f (show 1 ≤ 2 by omega)
      have s : cyN f 3 = cyN f 2 + f (7 + 52 * 2) := s
      rw [if_neg (by omega), if_neg (by omega), if_pos (by omega)]
    · have := cyN_mono f (show 1 ≤ 3 by omega)
      have := cyN_mono f (show 2 ≤ 3 by omega)
      rw [if_neg (by omega), if_neg (by omega), if_neg (by omega)]
  refine ⟨E, ?_⟩
  unfold lnC
  rw [E]
  omega
theorem ln_ok {f : Nat → Nat} {j : Nat} (h4 : f 0 ≤ 4) (hj : j < cnt f) : lnE f j < f 0 ∧ lnC f j < f (7 + 52 * lnE f j) ∧ j = cyN f (lnE f j) + lnC f j := by
  have key : ∃ e c, e < f 0 ∧ c < f (7 + 52 * e) ∧ j = cyN f e + c := by
    unfold cnt at hj
    generalize f 0 = n at hj
    induction n with
    | zero => exact absurd hj (by show ¬ j < 0; omega)
    | succ n ih =>
      by_cases q : j < cyN f n
      · obtain ⟨e, c, h1, h2, h3⟩ := ih q
        exact ⟨e, c, by omega, h2, h3⟩
      · rw [cyN_succ] at hj
        exact ⟨n, j - cyN f n, by omega, by omega, by omega⟩
  obtain ⟨e, c, h1, h2, rfl⟩ := key
  have l := ln_of (f := f) (show e < 4 by omega) h2
  rw [l.1, l.2]
  exact ⟨h1, h2, rfl⟩
theorem ol_of {f : Nat → Nat} {e c : Nat} (he : e < 4) (hc : c < f (7 + 52 * e)) : ol f (cyN f e + c) = f (19 + 52 * e + c) := by
  have l := ln_of (f := f) he hc
  unfold ol
  rw [l.1, l.2]
theorem cnt_pos {f : Nat → Nat} {B : Nat} (hw : WF f B) (h : 0 < f 0) : 1 ≤ cnt f := by
  have s := cyN_mono f (show 1 ≤ f 0 by omega)
  have := (hw.2.2.2.2.2.1 0 h).1
  have z : cyN f 1 = 0 + f (7 + 52 * 0) := rfl
  unfold cnt
  omega
theorem cyN_le {f : Nat → Nat} {B : Nat} (hw : WF f B) : ∀ e, e ≤ f 0 → cyN f e ≤ 8 * e
  | 0, _ => Nat.le_refl _
  | e + 1, h => by
    have := cyN_le hw e (by omega)
    have := (hw.2.2.2.2.2.1 e (by omega)).2.1
    rw [cyN_succ]
    omega
theorem cnt_le {f : Nat → Nat} {B : Nat} (hw : WF f B) : cnt f ≤ 32 := by
  have := cyN_le hw (f 0) (Nat.le_refl _)
  have := hw.1
  unfold cnt
  omega
theorem ol_B {f : Nat → Nat} {B j : Nat} (hw : WF f B) (hj : j < cnt f) : ol f j ≤ B := by
  have l := ln_ok hw.1 hj
  have := (hw.2.2.2.2.2.1 _ l.1).2.1
  have := hw.1
  exact hw.2.2.2.2.2.2.2.2.1 _ (by omega)
/-- a cell that is no cylinder count and no engine count changes: the row of cylinders stays -/
theorem ln_put {f : Nat → Nat} {i v : Nat} (h : ∀ a, i ≠ 7 + 52 * a) (h0 : i ≠ 0) : cnt (up1 f i v) = cnt f ∧ (∀ j, lnE (up1 f i v) j = lnE f j) ∧ ∀ j, lnC (up1 f i v) j = lnC f j := by
  have c : ∀ e, cyN (up1 f i v) e = cyN f e := fun e => cyN_congr (fun a _ => up1_ne (fun z => h a z.symm))
  have E : ∀ j, lnE (up1 f i v) j = lnE f j := fun j => by
    unfold lnE
    rw [c, c, c]
  refine ⟨?_, E, fun j => ?_⟩
  · unfold cnt
    rw [c, up1_ne (fun z => h0 z.symm)]
  · unfold lnC
    rw [E, c]
theorem pos_inj {f : Nat → Nat} {B i j : Nat} (hw : WF f B) (hi : i < cnt f) (hj : j < cnt f) (h : 19 + 52 * lnE f i + lnC f i = 19 + 52 * lnE f j + lnC f j) : i = j := by
  have a := ln_ok hw.1 hi
  have b := ln_ok hw.1 hj
  have a8 := (hw.2.2.2.2.2.1 _ a.1).2.1
  have b8 := (hw.2.2.2.2.2.1 _ b.1).2.1
  have e1 : lnE f i = lnE f j := by omega
  rw [e1] at a
  omega
theorem xG_eq {f : Nat → Nat} {B : Nat} (hw : WF f B) (h : 0 < f 0) : cnt (xG f) = cnt f ∧ (∀ j, lnE (xG f) j = lnE f j) ∧ (∀ j, lnC (xG f) j = lnC f j) ∧ ∀ j, j < cnt f → ol (xG f) j = gv (ol f) (cnt f) j := by
  have d := amN_lt (ol f) _ (cnt_pos hw h)
  have l := ln_ok hw.1 d
  have l8 := (hw.2.2.2.2.2.1 _ l.1).2.1
  have q := ln_put (f := f) (i := 19 + 52 * lnE f (amN (ol f) (cnt f)) + lnC f (amN (ol f) (cnt f))) (v := ol f (amN (ol f) (cnt f)) + 1) (fun a => by omega) (by omega)
  refine ⟨q.1, q.2.1, q.2.2, fun j hj => ?_⟩
  have e1 : lnE (xG f) j = lnE f j := q.2.1 j
  have e2 : lnC (xG f) j = lnC f j := q.2.2 j
  show xG f (19 + 52 * lnE (xG f) j + lnC (xG f) j) = _
  rw [e1, e2]
  unfold xG gv
  rw [up1_app, up1_app]
  by_cases z : j = amN (ol f) (cnt f)
  · rw [if_pos z, ← z, if_pos rfl]
  · rw [if_neg z, if_neg (fun y => z (pos_inj hw hj d y))]
    rfl
theorem xG_WF {f : Nat → Nat} {B : Nat} (hw : WF f B) (h : 0 < f 0) : WF (xG f) (B + 1) ∧ xG f 0 = f 0 := by
  have d := amN_lt (ol f) _ (cnt_pos hw h)
  have l := ln_ok hw.1 d
  have := ol_B hw d
  exact ⟨put_WF hw l.1 l.2.1 (by omega) (by omega), up1_ne (by omega)⟩
theorem xGN_WF {f : Nat → Nat} {B : Nat} (hw : WF f B) (h : 0 < f 0) : ∀ k, WF (xGN f k) (B + k) ∧ xGN f k 0 = f 0
  | 0 => ⟨hw, rfl⟩
  | k + 1 => by
    have q := xGN_WF hw h k
    have z := xG_WF q.1 (by rw [q.2]; exact h)
    exact ⟨z.1, z.2.trans q.2⟩
theorem gv_congr {w w' : Nat → Nat} {n : Nat} (hn : 1 ≤ n) (h : ∀ i, i < n → w' i = w i) : ∀ i, i < n → gv w' n i = gv w n i := fun i hi => by
  have d := amN_lt w n hn
  unfold gv
  rw [amN_congr n h, h _ d, up1_app, up1_app, h i hi]
theorem xGN_eq {f : Nat → Nat} {B : Nat} (hw : WF f B) (h : 0 < f 0) : ∀ k, cnt (xGN f k) = cnt f ∧ (∀ j, lnE (xGN f k) j = lnE f j) ∧ (∀ j, lnC (xGN f k) j = lnC f j) ∧ ∀ j, j < cnt f → ol (xGN f k) j = gvN (ol f) (cnt f) k j
  | 0 => ⟨rfl, fun _ => rfl, fun _ => rfl, fun _ _ => rfl⟩
  | k + 1 => by
    have q := xGN_eq hw h k
    have w := xGN_WF hw h k
    have z := xG_eq w.1 (by rw [w.2]; exact h)
    refine ⟨z.1.trans q.1, fun j => (z.2.1 j).trans (q.2.1 j), fun j => (z.2.2.1 j).trans (q.2.2.1 j), fun j hj => ?_⟩
    have a := z.2.2.2 j (by rw [q.1]; exact hj)
    rw [q.1] at a
    exact a.trans (gv_congr (cnt_pos hw h) q.2.2.2 j hj)
theorem lst_congr {w w' : Nat → Nat} {n : Nat} (hn : 1 ≤ n) (h : ∀ i, i < n → w' i = w i) : lst w' n = lst w n := by
  unfold lst
  rw [amN_congr n h]
  exact h _ (amN_lt w n hn)
/-- the sum of what is wanting up to a level -/
def wants (w : Nat → Nat) (n L : Nat) : Nat := sumN (fun j => L - w j) n
theorem sumN_mono {g g' : Nat → Nat} : ∀ n, (∀ i, i < n → g i ≤ g' i) → sumN g n ≤ sumN g' n
  | 0, _ => Nat.le_refl _
  | n + 1, h => by
    have a := sumN_mono n (fun i hi => h i (by omega))
    have b := h n (by omega)
    simp only [sumN]
    omega
theorem sumN_lt {g g' : Nat → Nat} {d : Nat} : ∀ n, d < n → (∀ i, i < n → g i ≤ g' i) → g d < g' d → sumN g n < sumN g' n
  | 0, h, _, _ => absurd h (by omega)
  | n + 1, hd, h, q => by
    simp only [sumN]
    have b := h n (by omega)
    by_cases e : d = n
    · subst e
      have a := sumN_mono (g := g) (g' := g') d (fun i hi => h i (by omega))
      omega
    · have a := sumN_lt n (by omega) (fun i hi => h i (by omega)) q
      omega
theorem wants_mono {w : Nat → Nat} {n L M : Nat} (h : L ≤ M) : wants w n L ≤ wants w n M := sumN_mono n (fun i _ => by show L - w i ≤ M - w i; omega)
theorem wants_uniq {w : Nat → Nat} {n L M k : Nat} (h1 : wants w n L ≤ k) (h2 : k < wants w n (L + 1)) (h3 : wants w n M ≤ k) (h4 : k < wants w n (M + 1)) : L = M := by
  rcases Nat.lt_trichotomy L M with q | q | q
  · have := wants_mono (w := w) (n := n) (show L + 1 ≤ M by omega)
    omega
  · exact q
  · have := wants_mono (w := w) (n := n) (show M + 1 ≤ L by omega)
    omega
theorem sumN_gv {w v : Nat → Nat} {n k : Nat} (hn : 1 ≤ n) (h : ∀ j, j < n → w j ≤ v j) (hs : sumN (fun j => v j - w j) n = k) : sumN (fun j => gv v n j - w j) n = k + 1 := by
  have d := amN_lt v n hn
  have e : sumN (fun j => gv v n j - w j) n = sumN (up1 (fun j => v j - w j) (amN v n) (v (amN v n) + 1 - w (amN v n))) n := sumN_congr n (fun j hj => by
    unfold gv
    rw [up1_app, up1_app]
    split
    · next q => rw [q]
    · rfl)
  have s : sumN (up1 (fun j => v j - w j) (amN v n) (v (amN v n) + 1 - w (amN v n))) n + (v (amN v n) - w (amN v n)) = sumN (fun j => v j - w j) n + (v (amN v n) + 1 - w (amN v n)) := sumN_up n d
  have := h _ d
  omega
/-- after k gives the least is the level that k fills -/
theorem gvN_inv {w : Nat → Nat} {n : Nat} (hn : 1 ≤ n) : ∀ k, (∀ j, j < n → w j ≤ gvN w n k j) ∧ sumN (fun j => gvN w n k j - w j) n = k ∧ ∀ j, j < n → gvN w n k j = w j ∨ gvN w n k j ≤ lst (gvN w n k) n + 1
  | 0 => by
    refine ⟨fun j _ => Nat.le_refl _, ?_, fun j _ => Or.inl rfl⟩
    have : sumN (fun j => gvN w n 0 j - w j) n ≤ n * 0 := sumN_le n (fun i _ => by show w i - w i ≤ 0; omega)
    omega
  | k + 1 => by
    obtain ⟨h1, h2, h3⟩ := gvN_inv hn k
    have d := amN_lt (gvN w n k) n hn
    have d2 := amN_lt (gvN w n (k + 1)) n hn
    have mn := amN_min (gvN w n k) n
    have gt : ∀ j, gvN w n (k + 1) j = (if j = amN (gvN w n k) n then gvN w n k (amN (gvN w n k) n) + 1 else gvN w n k j) := fun j => rfl
    have up : lst (gvN w n k) n ≤ lst (gvN w n (k + 1)) n := by
      have := mn _ d2
      unfold lst
      rw [gt (amN (gvN w n (k + 1)) n)]
      split
      · omega
      · exact this
    refine ⟨fun j hj => ?_, sumN_gv hn h1 h2, fun j hj => ?_⟩
    · have := h1 j hj
      rw [gt]
      split
      · next q => rw [← q]; omega
      · exact this
    · rw [gt]
      split
      · right
        unfold lst at up ⊢
        omega
      · rcases h3 j hj with q | q
        · exact Or.inl q
        · right; omega
theorem gvN_level {w : Nat → Nat} {n k : Nat} (hn : 1 ≤ n) : wants w n (lst (gvN w n k) n) ≤ k ∧ k < wants w n (lst (gvN w n k) n + 1) := by
  obtain ⟨h1, h2, h3⟩ := gvN_inv (w := w) hn k
  have d := amN_lt (gvN w n k) n hn
  have mn := amN_min (gvN w n k) n
  constructor
  · rw [show (wants w n (lst (gvN w n k) n) ≤ k) = (wants w n (lst (gvN w n k) n) ≤ sumN (fun j => gvN w n k j - w j) n) by rw [h2]]
    refine sumN_mono n (fun i hi => ?_)
    have := mn i hi
    show gvN w n k (amN (gvN w n k) n) - w i ≤ gvN w n k i - w i
    omega
  · rw [show (k < wants w n (lst (gvN w n k) n + 1)) = (sumN (fun j => gvN w n k j - w j) n < wants w n (lst (gvN w n k) n + 1)) by rw [h2]]
    refine sumN_lt n d (fun i hi => ?_) ?_
    · have a := h1 i hi
      show gvN w n k i - w i ≤ lst (gvN w n k) n + 1 - w i
      rcases h3 i hi with q | q <;> omega
    · have a := h1 _ d
      show gvN w n k (amN (gvN w n k) n) - w (amN (gvN w n k) n) < gvN w n k (amN (gvN w n k) n) + 1 - w (amN (gvN w n k) n)
      omega
theorem level_is {w : Nat → Nat} {n k L : Nat} (hn : 1 ≤ n) (h1 : wants w n L ≤ k) (h2 : k < wants w n (L + 1)) : L = lst (gvN w n k) n := by
  have q := gvN_level (w := w) (k := k) hn
  exact wants_uniq h1 h2 q.1 q.2
/-- how many lie up to a level, and the least above it -/
def upTo (w : Nat → Nat) (L : Nat) (n : Nat) : Nat := sumN (fun j => if w j ≤ L then 1 else 0) n
def abv (w : Nat → Nat) (L : Nat) : Nat → Nat
  | 0 => 4294967295
  | n + 1 => if L < w n ∧ (abv w L n = 4294967295 ∨ w n < abv w L n) then w n else abv w L n
theorem abv_is {w : Nat → Nat} {L B : Nat} (hB : B < 4294967295) : ∀ n, (∀ j, j < n → w j ≤ B) → (abv w L n = 4294967295 ∧ ∀ j, j < n → w j ≤ L) ∨ (L < abv w L n ∧ abv w L n ≤ B ∧ ∃ d, d < n ∧ w d = abv w L n ∧ ∀ j, j < n → w j ≤ L ∨ abv w L n ≤ w j)
  | 0, _ => Or.inl ⟨rfl, fun j h => absurd h (by omega)⟩
  | n + 1, h => by
    have hn := h n (by omega)
    simp only [abv]
    rcases abv_is hB n (fun j hj => h j (by omega)) with ⟨q1, q2⟩ | ⟨q1, qb, d, q2, q3, q4⟩
    · by_cases z : L < w n
      · rw [if_pos ⟨z, Or.inl q1⟩]
        refine Or.inr ⟨z, hn, n, by omega, rfl, fun j hj => ?_⟩
        by_cases e : j = n
        · subst e; omega
        · exact Or.inl (q2 j (by omega))
      · rw [if_neg (fun y => z y.1)]
        refine Or.inl ⟨q1, fun j hj => ?_⟩
        by_cases e : j = n
        · subst e; omega
        · exact q2 j (by omega)
    · by_cases z : L < w n ∧ w n < abv w L n
      · rw [if_pos ⟨z.1, Or.inr z.2⟩]
        refine Or.inr ⟨z.1, hn, n, by omega, rfl, fun j hj => ?_⟩
        by_cases e : j = n
        · subst e; omega
        · have := q4 j (by omega)
          omega
      · rw [if_neg (fun y => by have := y.1; omega)]
        refine Or.inr ⟨q1, qb, d, by omega, q3, fun j hj => ?_⟩
        by_cases e : j = n
        · subst e; omega
        · exact q4 j (by omega)
theorem wants_step {w : Nat → Nat} {L M : Nat} (hLM : L ≤ M) : ∀ n, (∀ j, j < n → w j ≤ L ∨ M ≤ w j) → wants w n M = wants w n L + (M - L) * upTo w L n
  | 0, _ => rfl
  | n + 1, h => by
    have ih := wants_step hLM n (fun j hj => h j (by omega))
    have q := h n (by omega)
    unfold wants upTo at *
    simp only [sumN]
    rw [ih, Nat.mul_add]
    by_cases z : w n ≤ L
    · rw [if_pos z]; omega
    · rw [if_neg z]
      rw [Nat.mul_zero]
      omega
theorem upTo_pos {w : Nat → Nat} {L d : Nat} : ∀ n, d < n → w d ≤ L → 1 ≤ upTo w L n
  | 0, h, _ => absurd h (by omega)
  | n + 1, h, q => by
    unfold upTo
    simp only [sumN]
    by_cases e : d = n
    · subst e; rw [if_pos q]; omega
    · have := upTo_pos (w := w) n (by omega) q
      unfold upTo at this
      omega
theorem upTo_le {w : Nat → Nat} {L : Nat} (n : Nat) : upTo w L n ≤ n := by
  have := sumN_le (f := fun j => if w j ≤ L then 1 else 0) (B := 1) n (fun i _ => by show (if w i ≤ L then 1 else 0) ≤ 1; split <;> omega)
  unfold upTo
  omega
theorem upTo_more {w : Nat → Nat} {L M d : Nat} (n : Nat) (hd : d < n) (h1 : L < w d) (h2 : w d ≤ M) : upTo w L n < upTo w M n := by
  refine sumN_lt n hd (fun i _ => ?_) ?_
  · show (if w i ≤ L then 1 else 0) ≤ (if w i ≤ M then 1 else 0)
    by_cases q : w i ≤ L
    · rw [if_pos q, if_pos (by omega)]; omega
    · rw [if_neg q]; omega
  · show (if w d ≤ L then 1 else 0) < (if w d ≤ M then 1 else 0)
    rw [if_neg (by omega), if_pos h2]; omega
/-- the end of filling: no next level, or too few units for it -/
theorem fill_end {w : Nat → Nat} {n L left k B : Nat} (hB : B < 4294967295) (hw : ∀ j, j < n → w j ≤ B) (hn : 1 ≤ n) (hp : 1 ≤ upTo w L n) (hk : wants w n L + left = k) (h : abv w L n = 4294967295 ∨ left < (abv w L n - L) * upTo w L n) : L + left / upTo w L n = lst (gvN w n k) n := by
  have hdm := Nat.div_add_mod left (upTo w L n)
  have hml := Nat.mod_lt left (show upTo w L n > 0 by omega)
  have hlt : ∀ d, left < d * upTo w L n → left / upTo w L n < d := fun d h => Nat.div_lt_of_lt_mul (by rw [Nat.mul_comm]; exact h)
  generalize left / upTo w L n = q at *
  generalize left % upTo w L n = r at *
  have key : ∀ M, L ≤ M → M ≤ L + q + 1 → ∀ j, j < n → w j ≤ L ∨ M ≤ w j := by
    intro M h1 h2 j hj
    rcases abv_is (w := w) (L := L) hB n hw with ⟨q1, q2⟩ | ⟨q1, qb, d, q2, q3, q4⟩
    · exact Or.inl (q2 j hj)
    · rcases h with h | h
      · omega
      · have lt := hlt _ h
        have := q4 j hj
        omega
  have a := wants_step (w := w) (show L ≤ L + q by omega) n (key _ (by omega) (by omega))
  have b := wants_step (w := w) (show L ≤ L + q + 1 by omega) n (key _ (by omega) (by omega))
  have e1 : L + q - L = q := by omega
  have e2 : L + q + 1 - L = q + 1 := by omega
  rw [e1, Nat.mul_comm] at a
  rw [e2, Nat.mul_comm, Nat.mul_add, Nat.mul_one] at b
  exact level_is hn (by omega) (by omega)
theorem wants_min {w : Nat → Nat} {n : Nat} : wants w n (lst w n) = 0 := by
  have mn := amN_min w n
  have : wants w n (lst w n) ≤ n * 0 := sumN_le n (fun i hi => by have := mn i hi; show w (amN w n) - w i ≤ 0; omega)
  omega
/-- scanning for the driest: the least so far and its spot -/
def lsN (f : Nat → Nat) (j : Nat) : Nat := if j = 0 then 4294967295 else ol f (amN (ol f) j)
def spN (f : Nat → Nat) (j : Nat) : Nat := if j = 0 then 0 else lnE f (amN (ol f) j) * 8 + lnC f (amN (ol f) j)
theorem scan_step {f : Nat → Nat} {j : Nat} (h : ol f j < 4294967295) : lsN f (j + 1) = (if lsN f j = 4294967295 ∨ ol f j < lsN f j then ol f j else lsN f j) ∧ spN f (j + 1) = (if lsN f j = 4294967295 ∨ ol f j < lsN f j then lnE f j * 8 + lnC f j else spN f j) := by
  have j1 : ¬ j + 1 = 0 := by omega
  rcases Nat.eq_zero_or_pos j with q | q
  · subst q
    have e : amN (ol f) 1 = 0 := by
      show (if ol f 0 < ol f 0 then 0 else 0) = 0
      rw [if_neg (Nat.lt_irrefl _)]
    have l0 : lsN f 0 = 4294967295 := rfl
    have l1 : lsN f (0 + 1) = ol f 0 := by unfold lsN; rw [if_neg j1, e]
    have s1 : spN f (0 + 1) = lnE f 0 * 8 + lnC f 0 := by unfold spN; rw [if_neg j1, e]
    rw [l1, s1, if_pos (Or.inl l0), if_pos (Or.inl l0)]
    exact ⟨rfl, rfl⟩
  · have j0 : ¬ j = 0 := by omega
    have l0 : lsN f j = ol f (amN (ol f) j) := by unfold lsN; rw [if_neg j0]
    have s0 : spN f j = lnE f (amN (ol f) j) * 8 + lnC f (amN (ol f) j) := by unfold spN; rw [if_neg j0]
    have l1 : lsN f (j + 1) = ol f (amN (ol f) (j + 1)) := by unfold lsN; rw [if_neg j1]
    have s1 : spN f (j + 1) = lnE f (amN (ol f) (j + 1)) * 8 + lnC f (amN (ol f) (j + 1)) := by unfold spN; rw [if_neg j1]
    rw [l0, s0, l1, s1]
    simp only [amN]
    by_cases z : ol f j < ol f (amN (ol f) j)
    · have zo : ol f (amN (ol f) j) = 4294967295 ∨ ol f j < ol f (amN (ol f) j) := Or.inr z
      rw [if_pos z, if_pos zo, if_pos zo]
      exact ⟨rfl, rfl⟩
    · have zo : ¬ (ol f (amN (ol f) j) = 4294967295 ∨ ol f j < ol f (amN (ol f) j)) := by omega
      rw [if_neg z, if_neg zo, if_neg zo]
      exact ⟨rfl, rfl⟩
