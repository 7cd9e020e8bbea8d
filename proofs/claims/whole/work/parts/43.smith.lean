/-! PENANCES: the queue and the table of sets say the same (Smith) -/
def sb (h p : Nat → Nat) (a b : Nat) : Bool := decide (h a * p b < h b * p a ∨ (h a * p b = h b * p a ∧ a < b))
def bfr (h p : Nat → Nat) (n k : Nat) : Nat := sumN (fun j => if sb h p j k = true then h j else 0) n
def lpn (h p : Nat → Nat) (n : Nat) : Nat := sumN (fun k => p k * (bfr h p n k + h k)) n
def bS (h p : Nat → Nat) (n S k : Nat) : Nat := sumN (fun j => if S.testBit j = true ∧ sb h p j k = true then h j else 0) n
def lpS (h p : Nat → Nat) (n S : Nat) : Nat := sumN (fun k => if S.testBit k = true then p k * (bS h p n S k + h k) else 0) n
def hrs (h : Nat → Nat) (n S : Nat) : Nat := sumN (fun j => if S.testBit j = true then h j else 0) n
def mnS (h p : Nat → Nat) (n S : Nat) : Nat → Nat
  | 0 => 4294967295
  | l + 1 => if S.testBit l = true then min (mnS h p n S l) (lpS h p n (S - 2 ^ l) + p l * hrs h n S) else mnS h p n S l
theorem sumN_add (a b : Nat → Nat) : ∀ k, sumN a k + sumN b k = sumN (fun i => a i + b i) k
  | 0 => rfl
  | k + 1 => by
    have := sumN_add a b k
    simp only [sumN]
    omega
theorem sumN_mul (a : Nat → Nat) (c : Nat) : ∀ k, c * sumN a k = sumN (fun i => c * a i) k
  | 0 => rfl
  | k + 1 => by
    have := sumN_mul a c k
    simp only [sumN]
    rw [Nat.mul_add, this]
theorem sb_irr (h p : Nat → Nat) (a : Nat) : sb h p a a = false := decide_eq_false (fun z => by omega)
theorem sb_tri {h p : Nat → Nat} {a b : Nat} (ne : a ≠ b) (q : sb h p a b = false) : sb h p b a = true := by
  have q2 := of_decide_eq_false q
  exact decide_eq_true (by omega)
theorem sb_asy {h p : Nat → Nat} {a b : Nat} (q : sb h p a b = true) : sb h p b a = false := by
  have q2 := of_decide_eq_true q
  exact decide_eq_false (by omega)
theorem mul3 {a b c d e f : Nat} (pb : 1 ≤ f) (h1 : a * f ≤ b * c) (h2 : b * d ≤ e * f) : a * d ≤ e * c := by
  refine Nat.le_of_mul_le_mul_right (c := f) ?_ pb
  have x : a * f * d ≤ b * c * d := Nat.mul_le_mul_right d h1
  have y : b * d * c ≤ e * f * c := Nat.mul_le_mul_right c h2
  rw [show a * d * f = a * f * d by rw [Nat.mul_assoc, Nat.mul_comm d f, ← Nat.mul_assoc], show e * c * f = e * f * c by rw [Nat.mul_assoc, Nat.mul_comm c f, ← Nat.mul_assoc]]
  rw [show b * c * d = b * d * c by rw [Nat.mul_assoc, Nat.mul_comm c d, ← Nat.mul_assoc]] at x
  omega
theorem mul3s {a b c d e f : Nat} (pb : 1 ≤ f) (h1 : a * f ≤ b * c) (h2 : b * d ≤ e * f) (pc : 1 ≤ c) (pd : 1 ≤ d) (hs : a * f < b * c ∨ b * d < e * f) : a * d < e * c := by
  refine Nat.lt_of_mul_lt_mul_right (a := f) ?_
  rw [show a * d * f = a * f * d by rw [Nat.mul_assoc, Nat.mul_comm d f, ← Nat.mul_assoc], show e * c * f = e * f * c by rw [Nat.mul_assoc, Nat.mul_comm c f, ← Nat.mul_assoc]]
  have x : a * f * d ≤ b * c * d := Nat.mul_le_mul_right d h1
  have y : b * d * c ≤ e * f * c := Nat.mul_le_mul_right c h2
  rw [show b * c * d = b * d * c by rw [Nat.mul_assoc, Nat.mul_comm c d, ← Nat.mul_assoc]] at x
  rcases hs with q | q
  · have : a * f * d < b * c * d := Nat.mul_lt_mul_of_pos_right q pd
    rw [show b * c * d = b * d * c by rw [Nat.mul_assoc, Nat.mul_comm c d, ← Nat.mul_assoc]] at this
    omega
  · have : b * d * c < e * f * c := Nat.mul_lt_mul_of_pos_right q pc
    omega
theorem sb_tr {h p : Nat → Nat} {a b c : Nat} (pa : 1 ≤ p a) (pb : 1 ≤ p b) (pc : 1 ≤ p c) (q1 : sb h p a b = true) (q2 : sb h p b c = true) : sb h p a c = true := by
  have z1 := of_decide_eq_true q1
  have z2 := of_decide_eq_true q2
  have le := mul3 (a := h a) (b := h b) (c := p a) (d := p c) (e := h c) (f := p b) pb (by omega) (by omega)
  refine decide_eq_true ?_
  by_cases s : h a * p b < h b * p a ∨ h b * p c < h c * p b
  · exact Or.inl (mul3s pb (by omega) (by omega) pa pc s)
  · have : a < c := by omega
    omega
/-- the queue: a sorted arrangement of the first k -/
def Srt (h p q : Nat → Nat) (k : Nat) : Prop := (∀ i j, i < j → j < k → sb h p (q i) (q j) = true) ∧ (∀ i, i < k → q i < k) ∧ ∀ g : Nat → Nat, sumN (fun i => g (q i)) k = sumN g k
def ins (q : Nat → Nat) (x l : Nat) : Nat → Nat := fun i => if i < l then q i else if i = l then x else q (i - 1)
theorem ins_sum (g q : Nat → Nat) (x l : Nat) : ∀ k, l ≤ k → sumN (fun i => g (ins q x l i)) (k + 1) = sumN (fun i => g (q i)) k + g x
  | 0, hl => by
    have : l = 0 := by omega
    subst this
    show 0 + g (ins q x 0 0) = 0 + g x
    rfl
  | k + 1, hl => by
    by_cases e : l = k + 1
    · have a : sumN (fun i => g (ins q x l i)) (k + 1) = sumN (fun i => g (q i)) (k + 1) := sumN_congr _ (fun i hi => by
        show g (ins q x l i) = _
        unfold ins
        rw [if_pos (by omega)])
      show sumN (fun i => g (ins q x l i)) (k + 1) + g (ins q x l (k + 1)) = _
      rw [a]
      unfold ins
      rw [if_neg (by omega), if_pos e.symm]
    · have ih := ins_sum g q x l k (by omega)
      show sumN (fun i => g (ins q x l i)) (k + 1) + g (ins q x l (k + 1)) = sumN (fun i => g (q i)) k + g (q k) + g x
      have b : ins q x l (k + 1) = q k := by
        unfold ins
        rw [if_neg (by omega), if_neg (by omega)]
        rfl
      rw [ih, b]
      omega
theorem ins_Srt {h p q : Nat → Nat} {x l : Nat} (hp : ∀ i, i ≤ x → 1 ≤ p i) (hs : Srt h p q x) (hl : l ≤ x) (h1 : ∀ i, l ≤ i → i < x → sb h p x (q i) = true) (h2 : l = 0 ∨ sb h p x (q (l - 1)) = false) : Srt h p (ins q x l) (x + 1) := by
  obtain ⟨s1, s2, s3⟩ := hs
  have lo : ∀ i, i < l → sb h p (q i) x = true := fun i hi => by
    have z : sb h p (q (l - 1)) x = true := by
      rcases h2 with z | z
      · omega
      · have := s2 (l - 1) (by omega)
        exact sb_tri (by omega) z
    by_cases e : i = l - 1
    · rw [e]; exact z
    · exact sb_tr (hp _ (by have := s2 i (by omega); omega)) (hp _ (by have := s2 (l - 1) (by omega); omega)) (hp x (Nat.le_refl _)) (s1 i (l - 1) (by omega) (by omega)) z
  refine ⟨fun i j hij hj => ?_, fun i hi => ?_, fun g => ?_⟩
  · unfold ins
    by_cases a : j < l
    · rw [if_pos (show i < l by omega), if_pos a]; exact s1 i j hij (by omega)
    · rw [if_neg a]
      by_cases b : j = l
      · rw [if_pos b, if_pos (show i < l by omega)]; exact lo i (by omega)
      · rw [if_neg b]
        by_cases c : i < l
        · rw [if_pos c]; exact s1 i (j - 1) (by omega) (by omega)
        · rw [if_neg c]
          by_cases d : i = l
          · rw [if_pos d]; exact h1 (j - 1) (by omega) (by omega)
          · rw [if_neg d]; exact s1 (i - 1) (j - 1) (by omega) (by omega)
  · unfold ins
    split
    · have := s2 i (by omega); omega
    · split
      · omega
      · have := s2 (i - 1) (by omega); omega
  · rw [ins_sum g q x l x hl, s3 g]
    rfl
theorem Srt_congr {h p q r : Nat → Nat} {k : Nat} (hs : Srt h p q k) (e : ∀ i, i < k → r i = q i) : Srt h p r k := ⟨fun i j hij hj => by rw [e i (by omega), e j hj]; exact hs.1 i j hij hj, fun i hi => by rw [e i hi]; exact hs.2.1 i hi, fun g => by rw [← hs.2.2 g]; exact sumN_congr k (fun i hi => by rw [e i hi])⟩
theorem Srt_bfr {h p q : Nat → Nat} {n i : Nat} (hs : Srt h p q n) (hi : i < n) : bfr h p n (q i) = sumN (fun j => h (q j)) i := by
  obtain ⟨s1, s2, s3⟩ := hs
  unfold bfr
  rw [← s3 (fun j => if sb h p j (q i) = true then h j else 0)]
  have key : ∀ k, k ≤ n → sumN (fun j => if sb h p (q j) (q i) = true then h (q j) else 0) k = sumN (fun j => h (q j)) (min k i) := by
    intro k
    induction k with
    | zero => intro _; rw [Nat.zero_min]; rfl
    | succ k ih =>
      intro hk
      show sumN (fun j => if sb h p (q j) (q i) = true then h (q j) else 0) k + (if sb h p (q k) (q i) = true then h (q k) else 0) = _
      rw [ih (by omega)]
      by_cases a : k < i
      · rw [if_pos (s1 k i a hi), show min k i = k by omega, show min (k + 1) i = k + 1 by omega]
        rfl
      · have z : sb h p (q k) (q i) = false := by
          by_cases b : k = i
          · rw [b]; exact sb_irr h p _
          · exact sb_asy (s1 i k (by omega) (by omega))
        rw [z, if_neg (by decide), show min k i = i by omega, show min (k + 1) i = i by omega]
        rfl
  have := key n (Nat.le_refl _)
  rw [show min n i = i by omega] at this
  exact this
theorem Srt_sum {h p q : Nat → Nat} {n : Nat} (hs : Srt h p q n) : sumN (fun i => p (q i) * sumN (fun j => h (q j)) (i + 1)) n = lpn h p n := by
  have e : sumN (fun i => p (q i) * sumN (fun j => h (q j)) (i + 1)) n = sumN (fun i => p (q i) * (bfr h p n (q i) + h (q i))) n := sumN_congr n (fun i hi => by
    rw [Srt_bfr hs hi]
    rfl)
  rw [e]
  exact hs.2.2 (fun a => p a * (bfr h p n a + h a))
/-- one of a set taken out -/
theorem tb_sub : ∀ l, l < 8 → ∀ S, S < 256 → S.testBit l = true → ∀ k, k < 8 → (S - 2 ^ l).testBit k = (S.testBit k && decide (k ≠ l)) := by decide +kernel
theorem tb_full : ∀ n, n ≤ 8 → ∀ k, k < n → (2 ^ n - 1).testBit k = true := by decide +kernel
theorem tb_zero : ∀ S, S < 256 → (∀ k, k < 8 → S.testBit k = false) → S = 0 := by decide +kernel
theorem tb_ge : ∀ l, l < 8 → ∀ S, S < 256 → S.testBit l = true → 2 ^ l ≤ S := by decide +kernel
theorem tb_hi : ∀ n, n ≤ 8 → ∀ S, S < 2 ^ n → ∀ k, k < 8 → n ≤ k → S.testBit k = false := by decide +kernel
def aH (h p : Nat → Nat) (n S l : Nat) : Nat := sumN (fun k => if S.testBit k = true ∧ sb h p l k = true then h k else 0) n
def aP (h p : Nat → Nat) (n S l : Nat) : Nat := sumN (fun k => if S.testBit k = true ∧ sb h p l k = true then p k else 0) n
theorem hrs_split {h p : Nat → Nat} {n S l : Nat} (hl : l < n) (hb : S.testBit l = true) : hrs h n S = bS h p n S l + h l + aH h p n S l := by
  have one := sum_one hl (h l)
  unfold hrs bS aH
  rw [← one, sumN_add, sumN_add]
  refine sumN_congr n (fun k _ => ?_)
  by_cases a : S.testBit k = true
  · rw [if_pos a]
    by_cases e : l = k
    · subst e
      have := sb_irr h p l
      rw [if_neg (show ¬ (S.testBit l = true ∧ sb h p l l = true) from fun z => by rw [this] at z; exact absurd z.2 (by decide)), if_pos rfl]
      omega
    · rw [if_neg e]
      rcases q : sb h p k l with _ | _
      · rw [if_neg (fun z => absurd z.2 (by decide)), if_pos ⟨a, sb_tri (fun z => e z.symm) q⟩]; omega
      · rw [if_pos ⟨a, rfl⟩, if_neg (fun z => by rw [sb_asy q] at z; exact absurd z.2 (by decide))]; omega
  · rw [if_neg a, if_neg (show ¬ (S.testBit k = true ∧ sb h p k l = true) from fun z => a z.1), if_neg (show ¬ l = k from fun z => by rw [← z] at a; exact a hb), if_neg (show ¬ (S.testBit k = true ∧ sb h p l k = true) from fun z => a z.1)]
theorem bS_sub {h p : Nat → Nat} {n S l k : Nat} (hn : n ≤ 8) (hS : S < 256) (hl : l < n) (hb : S.testBit l = true) : bS h p n S k = bS h p n (S - 2 ^ l) k + (if sb h p l k = true then h l else 0) := by
  have one := sum_one hl (if sb h p l k = true then h l else 0)
  unfold bS
  rw [← one, sumN_add]
  refine sumN_congr n (fun j hj => ?_)
  rw [tb_sub l (by omega) S hS hb j (by omega)]
  by_cases e : l = j
  · subst e
    rw [if_pos rfl, show decide (l ≠ l) = false from decide_eq_false (fun z => z rfl), Bool.and_false, if_neg (show ¬ (false = true ∧ sb h p l k = true) from fun z => absurd z.1 (by decide)), hb]
    by_cases q : sb h p l k = true
    · rw [if_pos ⟨rfl, q⟩, if_pos q]; omega
    · rw [if_neg (fun z => q z.2), if_neg q]
  · rw [if_neg e, show decide (j ≠ l) = true from decide_eq_true (fun z => e z.symm), Bool.and_true]
    omega
theorem lpS_sub {h p : Nat → Nat} {n S l : Nat} (hn : n ≤ 8) (hS : S < 256) (hl : l < n) (hb : S.testBit l = true) : lpS h p n S = lpS h p n (S - 2 ^ l) + (p l * (bS h p n S l + h l) + h l * aP h p n S l) := by
  have one := sum_one hl (p l * (bS h p n S l + h l))
  unfold lpS aP
  rw [← one, sumN_mul, sumN_add, sumN_add]
  refine sumN_congr n (fun k hk => ?_)
  rw [tb_sub l (by omega) S hS hb k (by omega)]
  by_cases e : l = k
  · subst e
    rw [if_pos hb, if_pos rfl, show decide (l ≠ l) = false from decide_eq_false (fun z => z rfl), Bool.and_false, if_neg (by decide), if_neg (fun z => by rw [sb_irr] at z; exact absurd z.2 (by decide))]
    omega
  · rw [if_neg e, show decide (k ≠ l) = true from decide_eq_true (fun z => e z.symm), Bool.and_true]
    by_cases a : S.testBit k = true
    · rw [if_pos a, if_pos a, bS_sub hn hS hl hb]
      by_cases q : sb h p l k = true
      · rw [if_pos q, if_pos ⟨a, q⟩, Nat.mul_comm (h l) (p k), Nat.add_right_comm, Nat.mul_add, Nat.zero_add]
      · rw [if_neg q, if_neg (fun z => q z.2)]
        rfl
    · rw [if_neg a, if_neg a, if_neg (fun z => a z.1), Nat.mul_zero]
theorem aP_le {h p : Nat → Nat} {n S l : Nat} : h l * aP h p n S l ≤ p l * aH h p n S l := by
  unfold aP aH
  rw [sumN_mul, sumN_mul]
  refine sumN_mono n (fun k _ => ?_)
  by_cases a : S.testBit k = true ∧ sb h p l k = true
  · rw [if_pos a, if_pos a]
    have z := of_decide_eq_true a.2
    rw [Nat.mul_comm (p l)]
    omega
  · rw [if_neg a, if_neg a]
    exact Nat.zero_le _
theorem lpS_le {h p : Nat → Nat} {n S l : Nat} (hn : n ≤ 8) (hS : S < 256) (hl : l < n) (hb : S.testBit l = true) : lpS h p n S ≤ lpS h p n (S - 2 ^ l) + p l * hrs h n S := by
  have a := lpS_sub (h := h) (p := p) hn hS hl hb
  have b := hrs_split (h := h) (p := p) hl hb
  have c := aP_le (h := h) (p := p) (n := n) (S := S) (l := l)
  rw [b, Nat.mul_add]
  omega
theorem lpS_last {h p : Nat → Nat} {n S l : Nat} (hn : n ≤ 8) (hS : S < 256) (hl : l < n) (hb : S.testBit l = true) (hz : ∀ k, k < n → S.testBit k = true → sb h p l k = false) : lpS h p n S = lpS h p n (S - 2 ^ l) + p l * hrs h n S := by
  have a := lpS_sub (h := h) (p := p) hn hS hl hb
  have b := hrs_split (h := h) (p := p) hl hb
  have z1 : aP h p n S l = 0 := by
    have := sumN_le (f := fun k => if S.testBit k = true ∧ sb h p l k = true then p k else 0) (B := 0) n (fun k hk => by rw [if_neg (fun z => by rw [hz k hk z.1] at z; exact absurd z.2 (by decide))]; exact Nat.le_refl _)
    unfold aP
    omega
  have z2 : aH h p n S l = 0 := by
    have := sumN_le (f := fun k => if S.testBit k = true ∧ sb h p l k = true then h k else 0) (B := 0) n (fun k hk => by rw [if_neg (fun z => by rw [hz k hk z.1] at z; exact absurd z.2 (by decide))]; exact Nat.le_refl _)
    unfold aH
    omega
  rw [b, z2]
  rw [z1] at a
  omega
theorem last_ex {h p : Nat → Nat} {n S : Nat} (hp : ∀ i, i < n → 1 ≤ p i) : ∀ m, m ≤ n → (∃ l, l < m ∧ S.testBit l = true) → ∃ l, l < m ∧ S.testBit l = true ∧ ∀ k, k < m → S.testBit k = true → sb h p l k = false
  | 0, _, ⟨l, hl, _⟩ => absurd hl (by omega)
  | m + 1, hm, ⟨l, hl, hb⟩ => by
    by_cases ex : ∃ l, l < m ∧ S.testBit l = true
    · obtain ⟨l2, h2, b2, z2⟩ := last_ex hp m (by omega) ex
      by_cases bm : S.testBit m = true
      · rcases q : sb h p l2 m with _ | _
        · refine ⟨l2, by omega, b2, fun k hk bk => ?_⟩
          by_cases e : k = m
          · rw [e]; exact q
          · exact z2 k (by omega) bk
        · refine ⟨m, by omega, bm, fun k hk bk => ?_⟩
          by_cases e : k = m
          · rw [e]; exact sb_irr h p m
          · rcases r : sb h p m k with _ | _
            · rfl
            · have := sb_tr (hp l2 (by omega)) (hp m (by omega)) (hp k (by omega)) q r
              rw [z2 k (by omega) bk] at this
              exact absurd this (by decide)
      · refine ⟨l2, by omega, b2, fun k hk bk => ?_⟩
        by_cases e : k = m
        · rw [e] at bk; exact absurd bk bm
        · exact z2 k (by omega) bk
    · have e : l = m := by
        by_cases e : l = m
        · exact e
        · exact absurd ⟨l, by omega, hb⟩ ex
      subst e
      refine ⟨l, by omega, hb, fun k hk bk => ?_⟩
      by_cases e : k = l
      · rw [e]; exact sb_irr h p l
      · exact absurd ⟨k, by omega, bk⟩ ex
theorem mnS_ge {h p : Nat → Nat} {n S : Nat} (hn : n ≤ 8) (hS : S < 256) (hB : lpS h p n S ≤ 2147483647) : ∀ l, l ≤ n → lpS h p n S ≤ mnS h p n S l
  | 0, _ => Nat.le_trans hB (by show 2147483647 ≤ 4294967295; decide)
  | l + 1, hl => by
    have ih := mnS_ge hn hS hB l (by omega)
    simp only [mnS]
    split
    · next b =>
      have := lpS_le (h := h) (p := p) hn hS (show l < n by omega) b
      omega
    · exact ih
theorem mnS_le {h p : Nat → Nat} {n S l : Nat} (hb : S.testBit l = true) : ∀ m, l < m → mnS h p n S m ≤ lpS h p n (S - 2 ^ l) + p l * hrs h n S
  | 0, hm => absurd hm (by omega)
  | m + 1, hm => by
    simp only [mnS]
    by_cases e : l = m
    · subst e
      rw [if_pos hb]
      exact Nat.min_le_right _ _
    · have ih := mnS_le (h := h) (p := p) (n := n) hb m (by omega)
      split
      · exact Nat.le_trans (Nat.min_le_left _ _) ih
      · exact ih
theorem mnS_eq {h p : Nat → Nat} {n S : Nat} (hn : n ≤ 8) (hp : ∀ i, i < n → 1 ≤ p i) (hS : S < 2 ^ n) (h0 : S ≠ 0) (hB : lpS h p n S ≤ 2147483647) : mnS h p n S n = lpS h p n S := by
  have h256 : S < 256 := Nat.lt_of_lt_of_le hS (Nat.le_trans (Nat.pow_le_pow_right (by omega) hn) (by decide))
  have ex : ∃ l, l < n ∧ S.testBit l = true := by
    refine Classical.byContradiction (fun z => h0 (tb_zero S h256 (fun k hk => ?_)))
    by_cases q : k < n
    · rcases r : S.testBit k with _ | _
      · rfl
      · exact absurd ⟨k, q, r⟩ z
    · exact tb_hi n hn S hS k hk (by omega)
  obtain ⟨l, hl, hb, hz⟩ := last_ex (h := h) hp n (Nat.le_refl _) ex
  have a := mnS_ge hn h256 hB n (Nat.le_refl _)
  have b := mnS_le (h := h) (p := p) (n := n) hb n hl
  rw [← lpS_last hn h256 hl hb hz] at b
  omega
theorem lpS_full {h p : Nat → Nat} {n : Nat} (hn : n ≤ 8) : lpS h p n (2 ^ n - 1) = lpn h p n := by
  refine sumN_congr n (fun k hk => ?_)
  show (if (2 ^ n - 1).testBit k = true then _ else 0) = _
  rw [if_pos (tb_full n hn k hk)]
  congr 2
  refine sumN_congr n (fun j hj => ?_)
  show (if (2 ^ n - 1).testBit j = true ∧ _ then _ else 0) = _
  by_cases q : sb h p j k = true
  · rw [if_pos ⟨tb_full n hn j hj, q⟩, if_pos q]
  · rw [if_neg (fun z => q z.2), if_neg q]
theorem hrs_le {h : Nat → Nat} {n S : Nat} (hn : n ≤ 8) (hh : ∀ i, i < n → h i ≤ 9) : hrs h n S ≤ 72 := by
  have := sumN_le (f := fun j => if S.testBit j = true then h j else 0) (B := 9) n (fun i hi => by have := hh i hi; show (if _ then _ else _) ≤ 9; split <;> omega)
  unfold hrs
  omega
theorem lpS_B {h p : Nat → Nat} {n S : Nat} (hn : n ≤ 8) (hh : ∀ i, i < n → h i ≤ 9) (hp : ∀ i, i < n → p i ≤ 9) : lpS h p n S ≤ 8 * 729 := by
  have b : ∀ k, bS h p n S k ≤ 72 := fun k => by
    have := sumN_le (f := fun j => if S.testBit j = true ∧ sb h p j k = true then h j else 0) (B := 9) n (fun i hi => by have := hh i hi; show (if _ then _ else _) ≤ 9; split <;> omega)
    unfold bS
    omega
  have := sumN_le (f := fun k => if S.testBit k = true then p k * (bS h p n S k + h k) else 0) (B := 729) n (fun i hi => by
    have x := hh i hi
    have y := b i
    have z : p i * (bS h p n S i + h i) ≤ 9 * 81 := Nat.mul_le_mul (hp i hi) (by omega)
    show (if _ then _ else _) ≤ 729
    split <;> omega)
  unfold lpS
  exact Nat.le_trans this (Nat.mul_le_mul_right 729 hn)
