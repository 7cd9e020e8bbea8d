/-! PURE WORDS: sums, turns, distances of a firing order -/
def dist (a b n : Nat) : Nat := min (max a b - min a b) (n - (max a b - min a b))
def sumN (f : Nat → Nat) : Nat → Nat
  | 0 => 0
  | n + 1 => sumN f n + f n
theorem sumN_le {f : Nat → Nat} {B : Nat} : ∀ n, (∀ i, i < n → f i ≤ B) → sumN f n ≤ n * B
  | 0, _ => by simp [sumN]
  | n + 1, h => by
    have h1 := sumN_le n (fun i hi => h i (by omega))
    have h2 := h n (by omega)
    simp only [sumN]
    rw [Nat.succ_mul]; omega
theorem sumN_congr {f f' : Nat → Nat} : ∀ n, (∀ i, i < n → f i = f' i) → sumN f n = sumN f' n
  | 0, _ => rfl
  | n + 1, h => by simp only [sumN]; rw [sumN_congr n (fun i hi => h i (by omega)), h n (by omega)]
def itN (w : Nat → Nat) : Nat → Nat → Nat
  | 0, c => c
  | t + 1, c => w (itN w t c)
theorem itN_lt {w : Nat → Nat} {n : Nat} (hw : ∀ c, c < n → w c < n) {c : Nat} (hc : c < n) : ∀ t, itN w t c < n
  | 0 => hc
  | t + 1 => hw _ (itN_lt hw hc t)
def cyW (w : Nat → Nat) (n c : Nat) : Nat → Nat → Nat → Nat
  | 0, _, len => len
  | k + 1, p, len => if p = c ∨ n ≤ len then len else cyW w n c k (w p) (len + 1)
def cyc (w : Nat → Nat) (n c : Nat) : Nat := cyW w n c n (w c) 1
theorem cyW_stop {w : Nat → Nat} {n c : Nat} {k p len : Nat} (h : p = c ∨ n ≤ len) : cyW w n c k p len = len := by
  cases k with
  | zero => rfl
  | succ k => simp only [cyW]; rw [if_pos h]
theorem cyW_ge {w : Nat → Nat} {n c : Nat} : ∀ k p len, len ≤ cyW w n c k p len
  | 0, p, len => by simp [cyW]
  | k + 1, p, len => by
    simp only [cyW]
    split
    · exact Nat.le_refl _
    · exact Nat.le_trans (Nat.le_succ _) (cyW_ge k (w p) (len + 1))
theorem cyW_le {w : Nat → Nat} {n c : Nat} : ∀ k p len, len ≤ n → cyW w n c k p len ≤ n
  | 0, p, len, h => by simpa [cyW] using h
  | k + 1, p, len, h => by
    simp only [cyW]
    split
    · exact h
    · next q => exact cyW_le k (w p) (len + 1) (by omega)
theorem cyc_in {w : Nat → Nat} {n c : Nat} (hn : 1 ≤ n) : 1 ≤ cyc w n c ∧ cyc w n c ≤ n := ⟨cyW_ge _ _ _, cyW_le _ _ _ hn⟩
def tuC (w : Nat → Nat) (n : Nat) : Nat → Nat
  | 0 => 1
  | k + 1 => Nat.lcm (tuC w n k) (cyc w n k)
theorem dvd_840 {k : Nat} (h1 : 1 ≤ k) (h8 : k ≤ 8) : k ∣ 840 := by
  have : k = 1 ∨ k = 2 ∨ k = 3 ∨ k = 4 ∨ k = 5 ∨ k = 6 ∨ k = 7 ∨ k = 8 := by omega
  rcases this with rfl | rfl | rfl | rfl | rfl | rfl | rfl | rfl <;> decide
theorem tuC_dvd {w : Nat → Nat} {n : Nat} (hn : 1 ≤ n) (h8 : n ≤ 8) : ∀ k, tuC w n k ∣ 840
  | 0 => by simp [tuC]
  | k + 1 => by
    simp only [tuC]
    have h := cyc_in (w := w) (c := k) hn
    exact Nat.lcm_dvd (tuC_dvd hn h8 k) (dvd_840 h.1 (by omega))
theorem tuC_pos {w : Nat → Nat} {n : Nat} (hn : 1 ≤ n) (h8 : n ≤ 8) (k : Nat) : 1 ≤ tuC w n k ∧ tuC w n k ≤ 840 := by
  have h := tuC_dvd (w := w) hn h8 k
  exact ⟨Nat.pos_of_dvd_of_pos h (by decide), Nat.le_of_dvd (by decide) h⟩
theorem lcm_least {a b t : Nat} (ha : 1 ≤ a) (hb : 1 ≤ b) (h : (a * t) % b = 0) (hmin : ∀ s, 1 ≤ s → s < t → ¬ (a * s) % b = 0) (ht : 1 ≤ t) : a * t = Nat.lcm a b := by
  have hd : Nat.lcm a b ∣ a * t := Nat.lcm_dvd (Nat.dvd_mul_right a t) (Nat.dvd_of_mod_eq_zero h)
  obtain ⟨k, hk⟩ := Nat.dvd_lcm_left a b
  have hl : 0 < Nat.lcm a b := Nat.lcm_pos ha hb
  have hk1 : 1 ≤ k := by
    rcases Nat.eq_zero_or_pos k with q | q
    · rw [q, Nat.mul_zero] at hk; omega
    · exact q
  have hle : a * k ≤ a * t := by
    rw [← hk]
    exact Nat.le_of_dvd (Nat.mul_pos ha ht) hd
  have hkt : k ≤ t := Nat.le_of_mul_le_mul_left hle ha
  rcases Nat.lt_or_ge k t with q | q
  · exfalso
    refine hmin k hk1 q ?_
    rw [← hk]
    exact Nat.mod_eq_zero_of_dvd (Nat.dvd_lcm_right a b)
  · have : k = t := by omega
    rw [hk, this]
def ldN (w : Nat → Nat) (n : Nat) : Nat → Nat
  | 0 => n
  | k + 1 => min (ldN w n k) (dist (w k) (w (if k + 1 < n then k + 1 else 0)) n)
theorem ldN_le (w : Nat → Nat) (n : Nat) : ∀ k, ldN w n k ≤ n
  | 0 => Nat.le_refl _
  | k + 1 => Nat.le_trans (Nat.min_le_left _ _) (ldN_le w n k)
theorem mod_step {x n : Nat} (hn : 1 ≤ n) : (if x % n + 1 < n then x % n + 1 else 0) = (x + 1) % n := by
  have h := Nat.mod_lt x hn
  rw [← Nat.mod_add_mod x n 1]
  by_cases q : x % n + 1 < n
  · rw [if_pos q, Nat.mod_eq_of_lt q]
  · rw [if_neg q]
    have : x % n + 1 = n := by omega
    rw [this, Nat.mod_self]
theorem dist_le (a b n : Nat) : dist a b n ≤ max a b - min a b := Nat.min_le_left _ _
