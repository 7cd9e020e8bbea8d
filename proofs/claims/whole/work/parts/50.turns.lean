/-! TURNS (the least common multiple of all cycles is the least number of times), PERIODS, and EVEN ORDERS (table = trying) -/
theorem cnt_inj {n : Nat} : ∀ (l : Nat) (p : Nat → Bool) (g : Nat → Nat), (∀ i, i < l → g i < n ∧ p (g i) = true) → (∀ i j, i < l → j < l → g i = g j → i = j) → l ≤ sumN (fun c => if p c = true then 1 else 0) n
  | 0, _, _, _, _ => Nat.zero_le _
  | l + 1, p, g, h1, h2 => by
    have hx := h1 l (by omega)
    have ih := cnt_inj (n := n) l (fun c => p c && decide (c ≠ g l)) g (fun i hi => ⟨(h1 i (by omega)).1, by
      have a := (h1 i (by omega)).2
      have b : g i ≠ g l := fun z => by have := h2 i l (by omega) (by omega) z; omega
      simp [a, b]⟩) (fun i j a b => h2 i j (by omega) (by omega))
    have s := sumN_one (f := fun c => if (p c && decide (c ≠ g l)) = true then 1 else 0) (f' := fun c => if p c = true then 1 else 0) (e := g l) n hx.1 (fun i _ hne => by simp [hne])
    simp only [hx.2, decide_not, decide_true, Bool.not_true, Bool.and_false, if_true] at s
    have z : (if (false : Bool) = true then (1 : Nat) else 0) = 0 := rfl
    rw [z] at s
    simp only [decide_not] at ih
    omega
theorem sumN_const (c : Nat) : ∀ n, sumN (fun _ => c) n = n * c
  | 0 => by simp [sumN]
  | n + 1 => by
    show sumN (fun _ => c) n + c = _
    rw [sumN_const c n, Nat.succ_mul]
theorem itN_add (w : Nat → Nat) (c : Nat) : ∀ a b, itN w (a + b) c = itN w a (itN w b c)
  | 0, b => by rw [Nat.zero_add]; rfl
  | a + 1, b => by
    rw [show a + 1 + b = (a + b) + 1 by omega]
    show w (itN w (a + b) c) = w (itN w a (itN w b c))
    rw [itN_add w c a b]
/-- w is a firing order of n cylinders -/
def PM (w : Nat → Nat) (n : Nat) : Prop := (∀ c, c < n → w c < n) ∧ ∀ a b, a < n → b < n → w a = w b → a = b
theorem itN_inj {w : Nat → Nat} {n : Nat} (h : PM w n) {a b : Nat} (ha : a < n) (hb : b < n) : ∀ t, itN w t a = itN w t b → a = b
  | 0, q => q
  | t + 1, q => itN_inj h ha hb t (h.2 _ _ (itN_lt h.1 ha t) (itN_lt h.1 hb t) q)
theorem least_of {P : Nat → Prop} : ∀ m, P m → ∃ l, l ≤ m ∧ P l ∧ ∀ t, t < l → ¬ P t := by
  intro m
  induction m using Nat.strongRecOn with
  | ind m ih =>
    intro h
    by_cases q : ∃ t, t < m ∧ P t
    · obtain ⟨t, a, b⟩ := q
      obtain ⟨l, h1, h2, h3⟩ := ih t a b
      exact ⟨l, by omega, h2, h3⟩
    · exact ⟨m, Nat.le_refl _, h, fun t a b => q ⟨t, a, b⟩⟩
theorem back_ex {w : Nat → Nat} {n c : Nat} (h : PM w n) (hc : c < n) : ∃ t, t ≤ n ∧ 1 ≤ t ∧ itN w t c = c := by
  refine Classical.byContradiction (fun q => ?_)
  have nq : ∀ t, t ≤ n → 1 ≤ t → itN w t c ≠ c := fun t a b z => q ⟨t, a, b, z⟩
  have key : ∀ i j, i < j → j < n + 1 → itN w i c ≠ itN w j c := fun i j hij hj z => by
    rw [show j = i + (j - i) by omega, itN_add] at z
    have := itN_inj h hc (itN_lt h.1 hc (j - i)) i z
    exact nq (j - i) (by omega) (by omega) this.symm
  have cn := cnt_inj (n := n) (n + 1) (fun _ => true) (fun i => itN w i c) (fun i _ => ⟨itN_lt h.1 hc i, rfl⟩) (fun i j hi hj z => by
    by_cases a : i < j
    · exact absurd z (key i j a hj)
    · by_cases b : j < i
      · exact absurd z.symm (key j i b hi)
      · omega)
  have : sumN (fun c => if (true : Bool) = true then 1 else 0) n = n := by
    rw [sumN_congr (f' := fun _ => 1) n (fun _ _ => if_pos rfl), sumN_const]; omega
  omega
/-- the length of c's cycle: the least number of steps back to c -/
theorem cyc_spec {w : Nat → Nat} {n c : Nat} (h : PM w n) (hc : c < n) : 1 ≤ cyc w n c ∧ cyc w n c ≤ n ∧ itN w (cyc w n c) c = c ∧ ∀ t, 1 ≤ t → t < cyc w n c → itN w t c ≠ c := by
  obtain ⟨m, hm, hm1, hb⟩ := back_ex h hc
  obtain ⟨l, h1, ⟨h2, h3⟩, h4⟩ := least_of (P := fun t => 1 ≤ t ∧ itN w t c = c) m ⟨hm1, hb⟩
  have key : ∀ k len, 1 ≤ len → len ≤ l → l ≤ len + k → cyW w n c k (itN w len c) len = l := by
    intro k
    induction k with
    | zero => intro len a b e; simp only [cyW]; omega
    | succ k ih =>
      intro len a b e
      simp only [cyW]
      by_cases z : itN w len c = c ∨ n ≤ len
      · rw [if_pos z]
        rcases z with z | z
        · by_cases y : len < l
          · exact absurd ⟨a, z⟩ (h4 len y)
          · omega
        · omega
      · rw [if_neg z]
        have y : len ≠ l := fun y => z (Or.inl (by rw [y]; exact h3))
        exact ih (len + 1) (by omega) (by omega) (by omega)
  have e : cyc w n c = l := key n 1 (Nat.le_refl _) h2 (by omega)
  rw [e]
  exact ⟨h2, by omega, h3, fun t a b z => h4 t b ⟨a, z⟩⟩
theorem itN_mul {w : Nat → Nat} {c l : Nat} (h : itN w l c = c) : ∀ q, itN w (l * q) c = c
  | 0 => rfl
  | q + 1 => by rw [Nat.mul_succ, itN_add, h, itN_mul h q]
theorem cyc_dvd {w : Nat → Nat} {n c : Nat} (h : PM w n) (hc : c < n) (t : Nat) : itN w t c = c ↔ cyc w n c ∣ t := by
  obtain ⟨h1, -, h3, h4⟩ := cyc_spec h hc
  have e : itN w t c = itN w (t % cyc w n c) c := by
    have := Nat.mod_add_div t (cyc w n c)
    rw [show itN w t c = itN w (t % cyc w n c + cyc w n c * (t / cyc w n c)) c by rw [this], itN_add, itN_mul h3]
  rw [e]
  constructor
  · intro z
    apply Nat.dvd_of_mod_eq_zero
    refine Classical.byContradiction (fun q => ?_)
    exact h4 _ (by omega) (Nat.mod_lt _ (by omega)) z
  · intro z
    rw [Nat.mod_eq_zero_of_dvd z]; rfl
theorem tuC_dvd_iff {w : Nat → Nat} {n t : Nat} : ∀ k, tuC w n k ∣ t ↔ ∀ c, c < k → cyc w n c ∣ t
  | 0 => ⟨fun _ c hc => absurd hc (by omega), fun _ => Nat.one_dvd _⟩
  | k + 1 => by
    simp only [tuC]
    rw [Nat.lcm_dvd_iff, tuC_dvd_iff k]
    constructor
    · rintro ⟨a, b⟩ c hc
      by_cases e : c = k
      · rw [e]; exact b
      · exact a c (by omega)
    · intro a
      exact ⟨fun c hc => a c (by omega), a k (by omega)⟩
theorem backAt_iff {w : Nat → Nat} {n t : Nat} (h : PM w n) : backAt w n t ↔ tuC w n n ∣ t := by
  rw [tuC_dvd_iff]
  exact ⟨fun z c hc => (cyc_dvd h hc t).mp (z c hc), fun z c hc => (cyc_dvd h hc t).mpr (z c hc)⟩
theorem cyc_orbit {w : Nat → Nat} {n c : Nat} (h : PM w n) (hc : c < n) (i : Nat) : cyc w n (itN w i c) = cyc w n c := by
  have key : ∀ t, cyc w n (itN w i c) ∣ t ↔ cyc w n c ∣ t := fun t => by
    rw [← cyc_dvd h hc, ← cyc_dvd h (itN_lt h.1 hc i), ← itN_add, Nat.add_comm, itN_add]
    exact ⟨fun z => itN_inj h (itN_lt h.1 hc t) hc i z, fun z => by rw [z]⟩
  exact Nat.dvd_antisymm ((key _).mpr (Nat.dvd_refl _)) ((key _).mp (Nat.dvd_refl _))
/-- how many cylinders are on cycles of a length -/
def cnL (w : Nat → Nat) (n l : Nat) : Nat → Nat := sumN (fun c => if decide (cyc w n c = l) = true then 1 else 0)
theorem cnL_ge {w : Nat → Nat} {n c : Nat} (h : PM w n) (hc : c < n) : cyc w n c ≤ cnL w n (cyc w n c) n := by
  refine cnt_inj (cyc w n c) (fun x => decide (cyc w n x = cyc w n c)) (fun i => itN w i c) (fun i _ => ⟨itN_lt h.1 hc i, by simp [cyc_orbit h hc i]⟩) (fun i j hi hj z => ?_)
  have sp := cyc_spec h hc
  have key : ∀ i j, i < j → j < cyc w n c → itN w i c ≠ itN w j c := fun i j hij hj z => by
    rw [show j = i + (j - i) by omega, itN_add] at z
    have := itN_inj h hc (itN_lt h.1 hc (j - i)) i z
    exact sp.2.2.2 (j - i) (by omega) (by omega) this.symm
  by_cases a : i < j
  · exact absurd z (key i j a hj)
  · by_cases b : j < i
    · exact absurd z.symm (key j i b hi)
    · omega
theorem cnL_sum {w : Nat → Nat} {n : Nat} (hn : 1 ≤ n) (h8 : n ≤ 8) : ∀ k, cnL w n 1 k + cnL w n 2 k + cnL w n 3 k + cnL w n 4 k + cnL w n 5 k + cnL w n 6 k + cnL w n 7 k + cnL w n 8 k = k
  | 0 => rfl
  | k + 1 => by
    have ih := cnL_sum (w := w) (n := n) hn h8 k
    have ci := cyc_in (w := w) (c := k) hn
    unfold cnL at ih ⊢
    simp only [decide_eq_true_eq] at ih ⊢
    simp only [sumN]
    have c8 : cyc w n k = 1 ∨ cyc w n k = 2 ∨ cyc w n k = 3 ∨ cyc w n k = 4 ∨ cyc w n k = 5 ∨ cyc w n k = 6 ∨ cyc w n k = 7 ∨ cyc w n k = 8 := by omega
    rcases c8 with e | e | e | e | e | e | e | e <;> rw [e] <;> simp <;> omega
def lcB (b : Bool) (k m : Nat) : Nat := if b then Nat.lcm k m else m
def lcA (b1 b2 b3 b4 b5 b6 b7 b8 : Bool) : Nat := lcB b1 1 (lcB b2 2 (lcB b3 3 (lcB b4 4 (lcB b5 5 (lcB b6 6 (lcB b7 7 (lcB b8 8 1)))))))
theorem lcm_small : ∀ b1 b2 b3 b4 b5 b6 b7 b8 : Bool, (if b1 then 1 else 0) + (if b2 then 2 else 0) + (if b3 then 3 else 0) + (if b4 then 4 else 0) + (if b5 then 5 else 0) + (if b6 then 6 else 0) + (if b7 then 7 else 0) + (if b8 then 8 else 0) ≤ 8 → lcA b1 b2 b3 b4 b5 b6 b7 b8 < 16 ∧ 1 ≤ lcA b1 b2 b3 b4 b5 b6 b7 b8 ∧ (b1 = true → lcA b1 b2 b3 b4 b5 b6 b7 b8 % 1 = 0) ∧ (b2 = true → lcA b1 b2 b3 b4 b5 b6 b7 b8 % 2 = 0) ∧ (b3 = true → lcA b1 b2 b3 b4 b5 b6 b7 b8 % 3 = 0) ∧ (b4 = true → lcA b1 b2 b3 b4 b5 b6 b7 b8 % 4 = 0) ∧ (b5 = true → lcA b1 b2 b3 b4 b5 b6 b7 b8 % 5 = 0) ∧ (b6 = true → lcA b1 b2 b3 b4 b5 b6 b7 b8 % 6 = 0) ∧ (b7 = true → lcA b1 b2 b3 b4 b5 b6 b7 b8 % 7 = 0) ∧ (b8 = true → lcA b1 b2 b3 b4 b5 b6 b7 b8 % 8 = 0) := by decide +kernel
theorem tuC_small {w : Nat → Nat} {n : Nat} (h : PM w n) (hn : 1 ≤ n) (h8 : n ≤ 8) : 1 ≤ tuC w n n ∧ tuC w n n < 16 := by
  have B : ∀ l, ∃ b : Bool, (b = true ↔ ∃ c, c < n ∧ cyc w n c = l) := fun l => by
    by_cases q : ∃ c, c < n ∧ cyc w n c = l
    · exact ⟨true, by simp [q]⟩
    · exact ⟨false, by simp [q]⟩
  obtain ⟨b1, e1⟩ := B 1
  obtain ⟨b2, e2⟩ := B 2
  obtain ⟨b3, e3⟩ := B 3
  obtain ⟨b4, e4⟩ := B 4
  obtain ⟨b5, e5⟩ := B 5
  obtain ⟨b6, e6⟩ := B 6
  obtain ⟨b7, e7⟩ := B 7
  obtain ⟨b8, e8⟩ := B 8
  have G : ∀ (l : Nat) (b : Bool), (b = true ↔ ∃ c, c < n ∧ cyc w n c = l) → (if b then l else 0) ≤ cnL w n l n := fun l b e => by
    cases b with
    | false => exact Nat.zero_le _
    | true =>
      obtain ⟨c, hc, e2⟩ := e.mp rfl
      have := cnL_ge h hc
      rw [e2] at this
      exact this
  have s := cnL_sum (w := w) hn h8 n
  have g1 := G 1 b1 e1
  have g2 := G 2 b2 e2
  have g3 := G 3 b3 e3
  have g4 := G 4 b4 e4
  have g5 := G 5 b5 e5
  have g6 := G 6 b6 e6
  have g7 := G 7 b7 e7
  have g8 := G 8 b8 e8
  obtain ⟨hm, hm1, d1, d2, d3, d4, d5, d6, d7, d8⟩ := lcm_small b1 b2 b3 b4 b5 b6 b7 b8 (by omega)
  have dv : tuC w n n ∣ lcA b1 b2 b3 b4 b5 b6 b7 b8 := (tuC_dvd_iff n).mpr (fun c hc => by
    have ci := cyc_in (w := w) (c := c) hn
    have c8 : cyc w n c = 1 ∨ cyc w n c = 2 ∨ cyc w n c = 3 ∨ cyc w n c = 4 ∨ cyc w n c = 5 ∨ cyc w n c = 6 ∨ cyc w n c = 7 ∨ cyc w n c = 8 := by omega
    rcases c8 with e | e | e | e | e | e | e | e <;> rw [e]
    · exact Nat.dvd_of_mod_eq_zero (d1 (e1.mpr ⟨c, hc, e⟩))
    · exact Nat.dvd_of_mod_eq_zero (d2 (e2.mpr ⟨c, hc, e⟩))
    · exact Nat.dvd_of_mod_eq_zero (d3 (e3.mpr ⟨c, hc, e⟩))
    · exact Nat.dvd_of_mod_eq_zero (d4 (e4.mpr ⟨c, hc, e⟩))
    · exact Nat.dvd_of_mod_eq_zero (d5 (e5.mpr ⟨c, hc, e⟩))
    · exact Nat.dvd_of_mod_eq_zero (d6 (e6.mpr ⟨c, hc, e⟩))
    · exact Nat.dvd_of_mod_eq_zero (d7 (e7.mpr ⟨c, hc, e⟩))
    · exact Nat.dvd_of_mod_eq_zero (d8 (e8.mpr ⟨c, hc, e⟩)))
  have := Nat.le_of_dvd (by omega) dv
  exact ⟨(tuC_pos hn h8 n).1, by omega⟩
theorem turnB_eq {w : Nat → Nat} {n r : Nat} (h : PM w n) (hn : 1 ≤ n) (h8 : n ≤ 8) (q : turnB w n r) : r = tuC w n n := by
  obtain ⟨q1, q2, q3, q4⟩ := q
  have sm := tuC_small h hn h8
  by_cases a : r < tuC w n n
  · rcases q3 with z | z
    · omega
    · have := Nat.le_of_dvd (by omega) ((backAt_iff h).mp z)
      omega
  · by_cases b : tuC w n n < r
    · exact absurd ((backAt_iff h).mpr (Nat.dvd_refl _)) (q4 _ sm.1 b)
    · omega
theorem perP_eq {w : Nat → Nat} {n r s : Nat} (q : perP w n r) (z : perP w n s) : r = s := by
  by_cases a : r < s
  · exact absurd q.2.2.1 (z.2.2.2 r q.1 a)
  · by_cases b : s < r
    · exact absurd z.2.2.1 (q.2.2.2 s z.1 b)
    · omega
/-! EVEN ORDERS: the ways on from a set of cylinders and the last of them -/
def eV (n ev : Nat) : Nat → Nat → Nat → Nat
  | 0, S, l => if S = 2 ^ n - 1 then (if ev ≤ dist l 0 n then 1 else 0) else 0
  | k + 1, S, l => if S = 2 ^ n - 1 then (if ev ≤ dist l 0 n then 1 else 0) else sumN (fun x => if S.testBit x = false ∧ ev ≤ dist l x n then eV n ev k (S ||| 2 ^ x) x else 0) n
theorem eV_cF : ∀ n, n < 9 → 3 ≤ n → ∀ ev, ev < 5 → 1 ≤ ev → eV n ev (2 ^ n - 2) 1 0 = cF n ev (n - 1) 1 (fun i => i) := by decide +kernel
theorem eV_stab {n ev : Nat} : ∀ k1 k2 S l, S < 2 ^ n → 2 ^ n - 1 - S ≤ k1 → 2 ^ n - 1 - S ≤ k2 → eV n ev k1 S l = eV n ev k2 S l
  | 0, 0, _, _, _, _, _ => rfl
  | 0, k2 + 1, S, l, hS, h1, _ => by
    have e : S = 2 ^ n - 1 := by omega
    simp only [eV]
    rw [if_pos e, if_pos e]
  | k1 + 1, 0, S, l, hS, _, h2 => by
    have e : S = 2 ^ n - 1 := by omega
    simp only [eV]
    rw [if_pos e, if_pos e]
  | k1 + 1, k2 + 1, S, l, hS, h1, h2 => by
    simp only [eV]
    by_cases e : S = 2 ^ n - 1
    · rw [if_pos e, if_pos e]
    · rw [if_neg e, if_neg e]
      refine sumN_congr n (fun x hx => ?_)
      by_cases c : S.testBit x = false ∧ ev ≤ dist l x n
      · rw [if_pos c, if_pos c]
        have a := (Nat.left_le_or : S ≤ S ||| 2 ^ x)
        have b := or_ne c.1
        exact eV_stab k1 k2 _ x (or_lt hS hx) (by omega) (by omega)
      · rw [if_neg c, if_neg c]
def eW (n ev S l : Nat) : Nat := eV n ev (2 ^ n - 1 - S) S l
theorem eW_rec {n ev S l : Nat} (hS : S < 2 ^ n) (hf : S ≠ 2 ^ n - 1) : eW n ev S l = sumN (fun x => if S.testBit x = false ∧ ev ≤ dist l x n then eW n ev (S ||| 2 ^ x) x else 0) n := by
  unfold eW
  rw [show 2 ^ n - 1 - S = (2 ^ n - 1 - S - 1) + 1 by omega]
  simp only [eV]
  rw [if_neg hf]
  refine sumN_congr n (fun x hx => ?_)
  by_cases c : S.testBit x = false ∧ ev ≤ dist l x n
  · rw [if_pos c, if_pos c]
    have a := (Nat.left_le_or : S ≤ S ||| 2 ^ x)
    have b := or_ne c.1
    exact eV_stab _ _ _ x (or_lt hS hx) (by omega) (by omega)
  · rw [if_neg c, if_neg c]
def eU (n ev i : Nat) : Nat := if (i / 8) % 2 = 1 ∧ i % 8 < n then eW n ev (i / 8) (i % 8) else 0
def phi (n ev a : Nat) (T : Nat → Nat) : Nat := sumN (fun i => if a ≤ i then T i * eU n ev i else 0) (2 ^ n * 8)
theorem phi_up {n ev a t v : Nat} {T : Nat → Nat} (h1 : a ≤ t) (h2 : t < 2 ^ n * 8) : phi n ev a (up1 T t (T t + v)) = phi n ev a T + v * eU n ev t := by
  have s := sumN_one (f := fun i => if a ≤ i then T i * eU n ev i else 0) (f' := fun i => if a ≤ i then up1 T t (T t + v) i * eU n ev i else 0) (e := t) (2 ^ n * 8) h2 (fun i _ ne => by simp only [up1_ne ne])
  simp only [if_pos h1, up1_self, Nat.add_mul] at s
  unfold phi
  omega
theorem phi_thr {n ev a : Nat} {T : Nat → Nat} : ∀ m, a + m ≤ 2 ^ n * 8 → phi n ev a T = sumN (fun l => T (a + l) * eU n ev (a + l)) m + phi n ev (a + m) T
  | 0, _ => by simp [sumN]
  | m + 1, h => by
    rw [phi_thr m (by omega)]
    have s := sumN_one (f := fun i => if a + (m + 1) ≤ i then T i * eU n ev i else 0) (f' := fun i => if a + m ≤ i then T i * eU n ev i else 0) (e := a + m) (2 ^ n * 8) (by omega) (fun i _ ne => by
      by_cases q : a + m ≤ i
      · rw [if_pos q, if_pos (by omega)]
      · rw [if_neg q, if_neg (by omega)])
    simp only [if_pos (Nat.le_refl (a + m)), if_neg (show ¬ a + (m + 1) ≤ a + m by omega)] at s
    simp only [sumN]
    unfold phi
    omega
theorem sumN_tail {f : Nat → Nat} {n : Nat} : ∀ m, (∀ i, n ≤ i → i < n + m → f i = 0) → sumN f (n + m) = sumN f n
  | 0, _ => rfl
  | m + 1, h => by
    show sumN f (n + m) + f (n + m) = _
    rw [sumN_tail m (fun i a b => h i a (by omega)), h (n + m) (by omega) (by omega)]
    rfl
theorem odd_or {S x : Nat} (ho : S % 2 = 1) (h : S.testBit x = false) : S + 2 ≤ S ||| 2 ^ x ∧ (S ||| 2 ^ x) % 2 = 1 := by
  have a := (Nat.left_le_or : S ≤ S ||| 2 ^ x)
  have b := or_ne h
  have o : (S ||| 2 ^ x).testBit 0 = true := by
    rw [Nat.testBit_or, Nat.testBit_zero]
    simp [ho]
  rw [Nat.testBit_zero] at o
  have o2 : (S ||| 2 ^ x) % 2 = 1 := by simpa using o
  exact ⟨by omega, o2⟩
theorem eoX_phi {n ev S l : Nat} {T : Nat → Nat} (h8 : n ≤ 8) (hS : S < 2 ^ n) (ho : S % 2 = 1) (hl : l < n) : ∀ k, k ≤ n → phi n ev (8 * S + 16) (eoX n ev T S l k) = phi n ev (8 * S + 16) T + T (S * 8 + l) * sumN (fun x => if S.testBit x = false ∧ ev ≤ dist l x n then eW n ev (S ||| 2 ^ x) x else 0) k ∧ ∀ i, i < 8 * S + 16 → eoX n ev T S l k i = T i
  | 0, _ => ⟨by simp [eoX, sumN], fun _ _ => rfl⟩
  | k + 1, hk => by
    obtain ⟨i1, i2⟩ := eoX_phi (T := T) (ev := ev) h8 hS ho hl k (by omega)
    simp only [eoX, sumN]
    unfold eoS
    by_cases c : S.testBit k = false ∧ ev ≤ dist l k n
    · rw [if_pos c, if_pos c]
      have o := odd_or ho c.1
      have lt := or_lt hS (show k < n by omega)
      have eu : eU n ev ((S ||| 2 ^ k) * 8 + k) = eW n ev (S ||| 2 ^ k) k := by
        unfold eU
        rw [show ((S ||| 2 ^ k) * 8 + k) / 8 = S ||| 2 ^ k by omega, show ((S ||| 2 ^ k) * 8 + k) % 8 = k by omega, if_pos ⟨o.2, by omega⟩]
      refine ⟨?_, fun i hi => by rw [up1_ne (by omega)]; exact i2 i hi⟩
      rw [phi_up (by omega) (by omega), i1, eu, i2 (S * 8 + l) (by omega), Nat.mul_add]
      omega
    · rw [if_neg c, if_neg c]
      exact ⟨by rw [i1]; rfl, i2⟩
theorem eoL_phi {n ev S : Nat} {T : Nat → Nat} (h8 : n ≤ 8) (hS : S < 2 ^ n) (ho : S % 2 = 1) (hf : S ≠ 2 ^ n - 1) : ∀ m, m ≤ n → phi n ev (8 * S + 16) (eoL n ev T S m) = phi n ev (8 * S + 16) T + sumN (fun l => T (S * 8 + l) * eW n ev S l) m ∧ ∀ i, i < 8 * S + 16 → eoL n ev T S m i = T i
  | 0, _ => ⟨by simp [eoL, sumN], fun _ _ => rfl⟩
  | m + 1, hm => by
    obtain ⟨i1, i2⟩ := eoL_phi (T := T) (ev := ev) h8 hS ho hf m (by omega)
    obtain ⟨j1, j2⟩ := eoX_phi (T := eoL n ev T S m) (ev := ev) (l := m) h8 hS ho (by omega) n (Nat.le_refl _)
    simp only [eoL, sumN]
    refine ⟨?_, fun i hi => (j2 i hi).trans (i2 i hi)⟩
    rw [j1, i1, i2 (S * 8 + m) (by omega), ← eW_rec hS hf]
    omega
theorem phi_row {n ev S : Nat} {T : Nat → Nat} (h8 : n ≤ 8) (ho : S % 2 = 1) : ∀ m, n ≤ m → m ≤ 16 → sumN (fun l => T (8 * S + l) * eU n ev (8 * S + l)) m = sumN (fun l => T (S * 8 + l) * eW n ev S l) n := by
  intro m h1 h2
  have t := sumN_tail (f := fun l => T (8 * S + l) * eU n ev (8 * S + l)) (n := n) (m - n) (fun i a b => by
    have : eU n ev (8 * S + i) = 0 := by
      unfold eU
      rw [if_neg (by omega)]
    rw [this, Nat.mul_zero])
  rw [show n + (m - n) = m by omega] at t
  rw [t]
  refine sumN_congr n (fun l hl => ?_)
  have : eU n ev (8 * S + l) = eW n ev S l := by
    unfold eU
    rw [show (8 * S + l) / 8 = S by omega, show (8 * S + l) % 8 = l by omega, if_pos ⟨ho, hl⟩]
  rw [this, Nat.mul_comm 8 S]
theorem eoT_phi {n ev : Nat} (h1 : 1 ≤ n) (h8 : n ≤ 8) : ∀ j, j ≤ 2 ^ (n - 1) - 1 → phi n ev (8 * (2 * j + 1)) (eoT n ev j) = eW n ev 1 0
  | 0, _ => by
    have p2 : 2 ^ n = 2 * 2 ^ (n - 1) := by rw [show n = (n - 1) + 1 by omega, Nat.pow_succ]; simp; omega
    have pp := Nat.two_pow_pos (n - 1)
    have s := sumN_one (f := fun _ => 0) (f' := fun i => if 8 * (2 * 0 + 1) ≤ i then (eoT n ev 0) i * eU n ev i else 0) (e := 8) (2 ^ n * 8) (by omega) (fun i _ ne => by
      by_cases q : 8 * (2 * 0 + 1) ≤ i
      · rw [if_pos q]
        show (if i = 8 then 1 else 0) * _ = 0
        rw [if_neg ne, Nat.zero_mul]
      · rw [if_neg q])
    rw [sumN_const] at s
    have e8 : eU n ev 8 = eW n ev 1 0 := by
      unfold eU
      rw [if_pos (by omega)]
    have t8 : eoT n ev 0 8 = 1 := rfl
    rw [if_pos (by omega), e8, t8] at s
    unfold phi
    omega
  | j + 1, hj => by
    have p2 : 2 ^ n = 2 * 2 ^ (n - 1) := by rw [show n = (n - 1) + 1 by omega, Nat.pow_succ]; simp; omega
    have ih := eoT_phi (ev := ev) h1 h8 j (by omega)
    rw [phi_thr 16 (by omega), phi_row h8 (by omega) 16 (by omega) (Nat.le_refl _)] at ih
    have s := eoL_phi (T := eoT n ev j) (ev := ev) (S := 2 * j + 1) h8 (by omega) (by omega) (by omega) n (Nat.le_refl _)
    show phi n ev (8 * (2 * (j + 1) + 1)) (eoL n ev (eoT n ev j) (2 * j + 1) n) = _
    rw [show 8 * (2 * (j + 1) + 1) = 8 * (2 * j + 1) + 16 by omega, s.1]
    omega
theorem eoX_full {n ev l : Nat} {T : Nat → Nat} (h8 : n ≤ 8) : ∀ k, k ≤ n → eoX n ev T (2 ^ n - 1) l k = T
  | 0, _ => rfl
  | k + 1, hk => by
    simp only [eoX]
    unfold eoS
    rw [if_neg (fun c => by rw [tb_full n h8 k (by omega)] at c; exact absurd c.1 (by decide)), eoX_full h8 k (by omega)]
theorem eoL_full {n ev : Nat} {T : Nat → Nat} (h8 : n ≤ 8) : ∀ m, eoL n ev T (2 ^ n - 1) m = T
  | 0 => rfl
  | m + 1 => by
    simp only [eoL]
    rw [eoX_full h8 n (Nat.le_refl _), eoL_full h8 m]
theorem eoR_eW {n ev : Nat} (h1 : 1 ≤ n) (h8 : n ≤ 8) (hev : 1 ≤ ev) : eoR n ev = eW n ev 1 0 := by
  have p2 : 2 ^ n = 2 * 2 ^ (n - 1) := by rw [show n = (n - 1) + 1 by omega, Nat.pow_succ]; simp; omega
  have pp := Nat.two_pow_pos (n - 1)
  have e := eoT_phi (n := n) (ev := ev) h1 h8 (2 ^ (n - 1) - 1) (Nat.le_refl _)
  have eT : eoT n ev (2 ^ (n - 1)) = eoT n ev (2 ^ (n - 1) - 1) := by
    have : eoT n ev (2 ^ (n - 1) - 1 + 1) = eoL n ev (eoT n ev (2 ^ (n - 1) - 1)) (2 * (2 ^ (n - 1) - 1) + 1) n := rfl
    rw [show 2 ^ (n - 1) - 1 + 1 = 2 ^ (n - 1) by omega, show 2 * (2 ^ (n - 1) - 1) + 1 = 2 ^ n - 1 by omega, eoL_full h8] at this
    exact this
  unfold eoR eoE
  rw [eT]
  rw [show 8 * (2 * (2 ^ (n - 1) - 1) + 1) = 8 * (2 ^ n - 1) by omega, phi_thr 8 (by omega), phi_row h8 (by omega) 8 h8 (by omega)] at e
  have z : phi n ev (8 * (2 ^ n - 1) + 8) (eoT n ev (2 ^ (n - 1) - 1)) = 0 := by
    unfold phi
    rw [sumN_congr (f' := fun _ => 0) _ (fun i hi => if_neg (by omega)), sumN_const]
    omega
  rw [z, Nat.add_zero] at e
  rw [← e]
  refine sumN_congr n (fun l hl => ?_)
  have : eW n ev (2 ^ n - 1) l = if ev ≤ dist l 0 n then 1 else 0 := by
    unfold eW
    rw [Nat.sub_self]
    simp only [eV]
    rw [if_pos trivial]
  rw [this]
  by_cases c : ev ≤ dist l 0 n
  · have : 1 ≤ l := by
      refine Classical.byContradiction (fun q => ?_)
      have : l = 0 := by omega
      subst this
      unfold dist at c
      simp at c
      omega
    rw [if_pos ⟨this, c⟩, if_pos c]; omega
  · rw [if_neg (fun q => c q.2), if_neg c]; omega
theorem eoR_cF {n ev : Nat} (h3 : 3 ≤ n) (h8 : n ≤ 8) (h1 : 1 ≤ ev) (h4 : ev ≤ 4) : eoR n ev = cF n ev (n - 1) 1 (fun i => i) := by
  rw [eoR_eW (by omega) h8 h1, ← eV_cF n (by omega) h3 ev (by omega) h1]
  rfl
