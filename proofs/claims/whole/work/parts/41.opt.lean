/-! CHAINS FIND AS MANY AS THE TABLE -/
theorem tb_or {t j i : Nat} : (t ||| 2 ^ j).testBit i = (t.testBit i || decide (j = i)) := by
  rw [Nat.testBit_or, Nat.testBit_two_pow]
def ccN (C : Nat → Nat) (t : Nat) : Nat := sumN (fun j => if C j = 1 ∧ t.testBit j = false then 1 else 0) 6
def cvN (K C : Nat → Nat) (w : Nat) : Nat := sumN (fun j => if K j = w ∧ C j ≠ 1 then 1 else 0) 6
def s2N (K C : Nat → Nat) (u : Nat) : Nat := sumN (fun w => if u ≤ w then cvN K C w else 0) 8
theorem cc_le (C : Nat → Nat) (t j : Nat) : ccN C (t ||| 2 ^ j) ≤ ccN C t := sumN_mono 6 (fun i _ => by
  rw [tb_or]
  by_cases a : C i = 1 ∧ t.testBit i = false
  · rw [if_pos a]; split <;> omega
  · rw [if_neg a, if_neg]
    · exact Nat.le_refl _
    · rintro ⟨b, c⟩
      rw [Bool.or_eq_false_iff] at c
      exact a ⟨b, c.1⟩)
theorem cc_one {C : Nat → Nat} {t j : Nat} (hj : j < 6) (hc : C j = 1) (ht : t.testBit j = false) : ccN C (t ||| 2 ^ j) + 1 = ccN C t := by
  have a := sumN_one (f := fun i => if C i = 1 ∧ t.testBit i = false then 1 else 0) (f' := fun i => if C i = 1 ∧ (t ||| 2 ^ j).testBit i = false then 1 else 0) (e := j) 6 hj (fun i _ hn => by
    have : decide (j = i) = false := decide_eq_false (fun e => hn e.symm)
    simp only [tb_or, this, Bool.or_false])
  have e1 : (if C j = 1 ∧ t.testBit j = false then 1 else 0) = 1 := if_pos ⟨hc, ht⟩
  have e2 : (if C j = 1 ∧ (t ||| 2 ^ j).testBit j = false then 1 else 0) = 0 := if_neg (fun z => by
    have := z.2
    rw [tb_or, decide_eq_true rfl, Bool.or_true] at this
    exact absurd this (by decide))
  simp only [e1, e2] at a
  unfold ccN
  omega
theorem s2_step {K C : Nat → Nat} {u : Nat} (hu : u < 8) : s2N K C u = s2N K C (u + 1) + cvN K C u := by
  have a := sumN_one (f := fun w => if u + 1 ≤ w then cvN K C w else 0) (f' := fun w => if u ≤ w then cvN K C w else 0) (e := u) 8 hu (fun i _ hn => by
    by_cases q : u ≤ i
    · rw [if_pos q, if_pos (by omega)]
    · rw [if_neg q, if_neg (by omega)])
  simp only [Nat.le_refl, if_true] at a
  rw [if_neg (by omega)] at a
  unfold s2N
  omega
theorem cv_pos {K C : Nat → Nat} {w j : Nat} (hj : j < 6) (h1 : K j = w) (h2 : C j ≠ 1) : 1 ≤ cvN K C w := by
  have := sumN_lt (g := fun _ => 0) (g' := fun j => if K j = w ∧ C j ≠ 1 then 1 else 0) (d := j) 6 hj (fun i _ => Nat.zero_le _) (by rw [if_pos ⟨h1, h2⟩]; omega)
  unfold cvN
  omega
theorem rW_ub {v K C : Nat → Nat} (hI : chI v K C 8) : ∀ k t, k ≤ 8 → rW v k t ≤ ccN C t + s2N K C (8 - k)
  | 0, t, _ => Nat.zero_le _
  | k + 1, t, hk => by
    obtain ⟨h1, h2, h3, h4, h5⟩ := hI
    have ih := fun t => rW_ub ⟨h1, h2, h3, h4, h5⟩ k t (by omega)
    have st := s2_step (K := K) (C := C) (u := 8 - (k + 1)) (by omega)
    rw [show 8 - (k + 1) + 1 = 8 - k by omega] at st
    have e7 : 7 - k = 8 - (k + 1) := by omega
    refine rM_le (by have := ih t; omega) 6 (fun i hi ht hv => ?_)
    have a := ih (t ||| 2 ^ i)
    by_cases c : C i = 1
    · have := cc_one hi c ht
      omega
    · have := cc_le C t i
      have p : 1 ≤ cvN K C (8 - (k + 1)) := by
        rcases h5 (8 - (k + 1)) (by omega) with ⟨j, hj, q⟩ | q
        · refine cv_pos hj q (fun z => ?_)
          have w := (h4 j hj z).2 i hi (by rw [q, ← e7]; exact hv)
          exact c w
        · exact absurd (q i hi (by rw [← e7]; exact hv)) c
      omega
theorem sum_swap (f : Nat → Nat → Nat) (n : Nat) : ∀ m, sumN (fun w => sumN (fun j => f w j) n) m = sumN (fun j => sumN (fun w => f w j) m) n
  | 0 => by
    have : sumN (fun _ => 0) n ≤ n * 0 := sumN_le n (fun _ _ => Nat.le_refl _)
    show 0 = sumN (fun j => 0) n
    omega
  | m + 1 => by
    simp only [sumN]
    rw [sum_swap f n m]
    have add : ∀ (a b : Nat → Nat) k, sumN a k + sumN b k = sumN (fun i => a i + b i) k := by
      intro a b k
      induction k with
      | zero => rfl
      | succ k ih => simp only [sumN]; omega
    exact add _ _ _
theorem sum_one {n w : Nat} (hw : w < n) (c : Nat) : sumN (fun i => if w = i then c else 0) n = c := by
  have z : ∀ k, k ≤ w → sumN (fun i => if w = i then c else 0) k = 0 := fun k hk => by
    have := sumN_le (f := fun i => if w = i then c else 0) (B := 0) k (fun i hi => by rw [if_neg (by omega)]; exact Nat.le_refl _)
    omega
  have q : ∀ k, w < k → sumN (fun i => if w = i then c else 0) k = c := fun k => by
    induction k with
    | zero => intro h; omega
    | succ k ih =>
      intro h
      simp only [sumN]
      by_cases e : w = k
      · rw [z k (by omega), if_pos e]; omega
      · rw [ih (by omega), if_neg e]; omega
  exact q n hw
theorem rW_lb {v K : Nat → Nat} (h1 : Kok v K) (h2 : ∀ i j, i < 6 → j < 6 → K i = K j → K i ≠ 4294967295 → i = j) : ∀ k t, k ≤ 8 → sumN (fun j => if t.testBit j = false ∧ 8 - k ≤ K j ∧ K j < 8 then 1 else 0) 6 ≤ rW v k t
  | 0, t, _ => by
    have := sumN_le (f := fun j => if t.testBit j = false ∧ 8 - 0 ≤ K j ∧ K j < 8 then 1 else 0) (B := 0) 6 (fun i _ => by rw [if_neg (by omega)]; exact Nat.le_refl _)
    show _ ≤ 0
    omega
  | k + 1, t, hk => by
    have ih := fun t => rW_lb h1 h2 k t (by omega)
    have e7 : 7 - k = 8 - (k + 1) := by omega
    by_cases ex : ∃ j, j < 6 ∧ t.testBit j = false ∧ K j = 8 - (k + 1)
    · obtain ⟨j, hj, ht, hK⟩ := ex
      have able : (v j).testBit (7 - k) = true := by
        rcases h1 j hj with q | q
        · omega
        · rw [e7, ← hK]; exact q.2
      have p := rM_pick (v := v) (h := rW v k) (u := 7 - k) (t := t) hj ht able
      have a := ih (t ||| 2 ^ j)
      have s := sumN_one (f := fun i => if (t ||| 2 ^ j).testBit i = false ∧ 8 - k ≤ K i ∧ K i < 8 then 1 else 0) (f' := fun i => if t.testBit i = false ∧ 8 - (k + 1) ≤ K i ∧ K i < 8 then 1 else 0) (e := j) 6 hj (fun i hi hn => by
        have dn : decide (j = i) = false := decide_eq_false (fun e => hn e.symm)
        have nk : K i ≠ 8 - (k + 1) := fun e => hn (h2 i j hi hj (by rw [e, hK]) (by omega))
        simp only [tb_or, dn, Bool.or_false]
        by_cases z : t.testBit i = false ∧ 8 - (k + 1) ≤ K i ∧ K i < 8
        · rw [if_pos z, if_pos ⟨z.1, by omega, z.2.2⟩]
        · rw [if_neg z, if_neg (fun y => z ⟨y.1, by omega, y.2.2⟩)])
      have e1 : (if (t ||| 2 ^ j).testBit j = false ∧ 8 - k ≤ K j ∧ K j < 8 then 1 else 0) = 0 := if_neg (fun z => by omega)
      have e2 : (if t.testBit j = false ∧ 8 - (k + 1) ≤ K j ∧ K j < 8 then 1 else 0) = 1 := if_pos ⟨ht, by omega, by omega⟩
      simp only [e1, e2] at s
      show _ ≤ rM v (rW v k) (7 - k) t 6
      omega
    · have a := ih t
      have g := rM_ge v (rW v k) (7 - k) t 6
      have e : sumN (fun j => if t.testBit j = false ∧ 8 - (k + 1) ≤ K j ∧ K j < 8 then 1 else 0) 6 = sumN (fun j => if t.testBit j = false ∧ 8 - k ≤ K j ∧ K j < 8 then 1 else 0) 6 := sumN_congr 6 (fun j hj => by
        have nk : t.testBit j = false → K j ≠ 8 - (k + 1) := fun q e => ex ⟨j, hj, q, e⟩
        by_cases z : t.testBit j = false ∧ 8 - (k + 1) ≤ K j ∧ K j < 8
        · have := nk z.1
          rw [if_pos z, if_pos ⟨z.1, by omega, z.2.2⟩]
        · rw [if_neg z, if_neg (fun y => z ⟨y.1, by omega, y.2.2⟩)])
      rw [e]
      show _ ≤ rM v (rW v k) (7 - k) t 6
      omega
theorem chains_opt {v K C : Nat → Nat} (hI : chI v K C 8) : nm K = rW v 8 0 := by
  have ub := rW_ub hI 8 0 (Nat.le_refl _)
  obtain ⟨h1, h2, h3, h4, h5⟩ := hI
  have lb := rW_lb h1 h2 8 0 (Nat.le_refl _)
  have e1 : sumN (fun j => if (0 : Nat).testBit j = false ∧ 8 - 8 ≤ K j ∧ K j < 8 then 1 else 0) 6 = nm K := sumN_congr 6 (fun j hj => by
    rcases h1 j hj with q | q
    · rw [if_neg (by omega), if_pos q]
    · rw [if_pos ⟨Nat.zero_testBit j, by omega, q.1⟩, if_neg (by omega)])
  have e2 : ccN C 0 + s2N K C (8 - 8) = nm K := by
    have s : s2N K C (8 - 8) = sumN (fun j => if C j ≠ 1 ∧ K j < 8 then 1 else 0) 6 := by
      have a : s2N K C (8 - 8) = sumN (fun w => sumN (fun j => if K j = w ∧ C j ≠ 1 then 1 else 0) 6) 8 := sumN_congr 8 (fun w _ => if_pos (by omega))
      rw [a, sum_swap]
      refine sumN_congr 6 (fun j hj => ?_)
      by_cases c : C j = 1
      · rw [if_neg (fun z => z.1 c)]
        have := sumN_le (f := fun w => if K j = w ∧ C j ≠ 1 then 1 else 0) (B := 0) 8 (fun i _ => by rw [if_neg (fun z => z.2 c)]; exact Nat.le_refl _)
        omega
      · have b : sumN (fun w => if K j = w ∧ C j ≠ 1 then 1 else 0) 8 = sumN (fun w => if K j = w then 1 else 0) 8 := sumN_congr 8 (fun w _ => by
          by_cases q : K j = w
          · rw [if_pos ⟨q, c⟩, if_pos q]
          · rw [if_neg (fun z => q z.1), if_neg q])
        rw [b]
        rcases h1 j hj with q | q
        · rw [if_neg (fun z => by omega)]
          have := sumN_le (f := fun w => if K j = w then 1 else 0) (B := 0) 8 (fun i hi => by rw [if_neg (by omega)]; exact Nat.le_refl _)
          omega
        · rw [if_pos ⟨c, q.1⟩, sum_one q.1]
    rw [s]
    unfold ccN nm
    have add : ∀ (a b c : Nat → Nat) k, (∀ i, i < k → a i + b i = c i) → sumN a k + sumN b k = sumN c k := by
      intro a b c k
      induction k with
      | zero => intro _; rfl
      | succ k ih =>
        intro h
        have := ih (fun i hi => h i (by omega))
        have := h k (by omega)
        simp only [sumN]
        omega
    refine add _ _ _ 6 (fun j hj => ?_)
    by_cases c : C j = 1
    · have := (h4 j hj c).1
      rw [if_pos ⟨c, Nat.zero_testBit j⟩, if_neg (fun z => z.1 c), if_neg this]
    · rw [if_neg (fun z => c z.1)]
      rcases h1 j hj with q | q
      · rw [if_neg (by omega), if_pos q]
      · rw [if_pos ⟨c, q.1⟩, if_neg (by omega)]
  omega
