/-! VIGILS: the table of sets, the lowest keepers, and chains (Kuhn): all three pure -/
def rM (v : Nat → Nat) (h : Nat → Nat) (u t : Nat) : Nat → Nat
  | 0 => h t
  | j + 1 => if t.testBit j = false ∧ (v j).testBit u = true then max (rM v h u t j) (1 + h (t ||| 2 ^ j)) else rM v h u t j
def rW (v : Nat → Nat) : Nat → Nat → Nat
  | 0, _ => 0
  | k + 1, t => rM v (rW v k) (7 - k) t 6
def lkF (v : Nat → Nat) (u t : Nat) : Nat → Nat
  | 0 => 4294967295
  | k + 1 => if t.testBit (5 - k) = false ∧ (v (5 - k)).testBit u = true ∧ 1 + rW v (7 - u) (t ||| 2 ^ (5 - k)) = rW v (8 - u) t then 5 - k else lkF v u t k
def kpT (v : Nat → Nat) : Nat → Nat
  | 0 => 0
  | u + 1 => if lkF v u (kpT v u) 6 = 4294967295 then kpT v u else kpT v u ||| 2 ^ lkF v u (kpT v u) 6
def kp (v : Nat → Nat) (u : Nat) : Nat := lkF v u (kpT v u) 6
theorem rM_ge (v h : Nat → Nat) (u t : Nat) : ∀ j, h t ≤ rM v h u t j
  | 0 => Nat.le_refl _
  | j + 1 => by
    have := rM_ge v h u t j
    simp only [rM]
    split
    · omega
    · exact this
theorem rM_mono (v h : Nat → Nat) (u t i : Nat) : ∀ j, i ≤ j → rM v h u t i ≤ rM v h u t j
  | 0, hi => by rw [Nat.le_zero.mp hi]; exact Nat.le_refl _
  | j + 1, hi => by
    by_cases e : i = j + 1
    · rw [e]; exact Nat.le_refl _
    · have := rM_mono v h u t i j (by omega)
      simp only [rM]
      split
      · omega
      · exact this
theorem rM_pick {v h : Nat → Nat} {u t i j : Nat} (hi : i < j) (h1 : t.testBit i = false) (h2 : (v i).testBit u = true) : 1 + h (t ||| 2 ^ i) ≤ rM v h u t j := by
  have a := rM_mono v h u t (i + 1) j (by omega)
  simp only [rM] at a
  rw [if_pos ⟨h1, h2⟩] at a
  omega
theorem rM_le {v h : Nat → Nat} {u t B : Nat} (h0 : h t ≤ B) : ∀ j, (∀ i, i < j → t.testBit i = false → (v i).testBit u = true → 1 + h (t ||| 2 ^ i) ≤ B) → rM v h u t j ≤ B
  | 0, _ => h0
  | j + 1, hh => by
    have ih := rM_le h0 j (fun i hi => hh i (by omega))
    simp only [rM]
    split
    · next q => have := hh j (by omega) q.1 q.2; omega
    · exact ih
theorem rW_le (v : Nat → Nat) : ∀ k t, rW v k t ≤ k
  | 0, _ => Nat.le_refl _
  | k + 1, t => by
    have ih := rW_le v k
    exact rM_le (by have := ih t; omega) 6 (fun i _ _ _ => by have := ih (t ||| 2 ^ i); omega)
theorem or64 {t i : Nat} (ht : t < 64) (hi : i < 6) : t ||| 2 ^ i < 64 := Nat.or_lt_two_pow (n := 6) ht (Nat.pow_lt_pow_right (by omega) hi)
theorem lkF_lt (v : Nat → Nat) (u t : Nat) : ∀ k, lkF v u t k < 6 ∨ lkF v u t k = 4294967295
  | 0 => Or.inr rfl
  | k + 1 => by
    simp only [lkF]
    split
    · left; omega
    · exact lkF_lt v u t k
theorem kpT_lt (v : Nat → Nat) : ∀ u, kpT v u < 64
  | 0 => by show 0 < 64; omega
  | u + 1 => by
    have ih := kpT_lt v u
    simp only [kpT]
    split
    · exact ih
    · next q => exact or64 ih ((lkF_lt v u (kpT v u) 6).elim id (fun z => absurd z q))
/-- the search for a keeper: what it asks for and what it leaves -/
def Kok (v K : Nat → Nat) : Prop := ∀ j, j < 6 → K j = 4294967295 ∨ (K j < 8 ∧ (v j).testBit (K j) = true)
def nm (K : Nat → Nat) : Nat := sumN (fun j => if K j = 4294967295 then 0 else 1) 6
def A01 (A : Nat → Nat) : Prop := ∀ j, j < 6 → A j = 0 ∨ A j = 1
def fkPre (v K A : Nat → Nat) (u : Nat) : Prop := A01 A ∧ Kok v K ∧ (∀ i j, i < 6 → j < 6 → A i = 0 → A j = 0 → K i = K j → K i ≠ 4294967295 → i = j) ∧ ∀ j, j < 6 → A j = 0 → K j ≠ u
def fkF (v K A : Nat → Nat) (u : Nat) (A2 : Nat → Nat) : Prop := (∀ j, j < 6 → (v j).testBit u = true → A2 j = 1) ∧ ∀ j, j < 6 → A j = 0 → A2 j = 1 → K j ≠ 4294967295 ∧ ∀ i, i < 6 → (v i).testBit (K j) = true → A2 i = 1
def clo (v K C : Nat → Nat) : Prop := ∀ j, j < 6 → C j = 1 → K j ≠ 4294967295 ∧ ∀ i, i < 6 → (v i).testBit (K j) = true → C i = 1
def fkS (v K A : Nat → Nat) (u : Nat) (K2 : Nat → Nat) : Prop := Kok v K2 ∧ (∀ j, j < 6 → A j = 1 → K2 j = K j) ∧ (∀ i j, i < 6 → j < 6 → A i = 0 → A j = 0 → K2 i = K2 j → K2 i ≠ 4294967295 → i = j) ∧ (∀ w, w < 8 → ((∃ j, j < 6 ∧ A j = 0 ∧ K2 j = w) ↔ ((∃ j, j < 6 ∧ A j = 0 ∧ K j = w) ∨ w = u))) ∧ nm K2 = nm K + 1 ∧ ∀ C, clo v K C → (∀ j, j < 6 → C j = 1 → K2 j = K j) ∧ ∃ i, i < 6 ∧ (v i).testBit u = true ∧ C i ≠ 1
/-- the loop over the monks while nothing was found -/
def fkL (v K A : Nat → Nat) (u j : Nat) (A2 : Nat → Nat) : Prop := A01 A2 ∧ (∀ i, i < 6 → A i = 1 → A2 i = 1) ∧ (∀ i, i < j → (v i).testBit u = true → A2 i = 1) ∧ ∀ i, i < 6 → A i = 0 → A2 i = 1 → K i ≠ 4294967295 ∧ ∀ a, a < 6 → (v a).testBit (K i) = true → A2 a = 1
theorem nm_up {K : Nat → Nat} {j u : Nat} (hj : j < 6) (hu : u < 8) : nm (up1 K j u) = nm K + (if K j = 4294967295 then 1 else 0) := by
  have a := sumN_one (f := fun j => if K j = 4294967295 then 0 else 1) (f' := fun i => if up1 K j u i = 4294967295 then 0 else 1) (e := j) 6 hj (fun i _ hn => by show (if up1 K j u i = 4294967295 then 0 else 1) = _; rw [up1_ne hn])
  simp only [up1_self] at a
  rw [if_neg (show ¬ u = 4294967295 by omega)] at a
  unfold nm
  by_cases q : K j = 4294967295
  · rw [if_pos q] at a ⊢; omega
  · rw [if_neg q] at a ⊢; omega
theorem fk_free {v K A : Nat → Nat} {u j : Nat} (hp : fkPre v K A u) (hu : u < 8) (hj : j < 6) (ha : A j = 0) (hk : K j = 4294967295) (hv : (v j).testBit u = true) : fkS v K A u (up1 K j u) := by
  obtain ⟨p1, p2, p3, p4⟩ := hp
  refine ⟨fun i hi => ?_, fun i hi h1 => up1_ne (fun e => by rw [e] at h1; omega), fun i i2 hi hi2 h1 h2 e hn => ?_, fun w hw => ⟨?_, ?_⟩, ?_, fun C hC => ?_⟩
  · rw [up1_app]
    split
    · next e => subst e; exact Or.inr ⟨hu, hv⟩
    · exact p2 i hi
  · rw [up1_app, up1_app] at e
    rw [up1_app] at hn
    by_cases a : i = j
    · by_cases b : i2 = j
      · omega
      · rw [if_pos a, if_neg b] at e
        exact absurd e.symm (p4 i2 hi2 h2)
    · rw [if_neg a] at e hn
      by_cases b : i2 = j
      · rw [if_pos b] at e
        exact absurd e (p4 i hi h1)
      · rw [if_neg b] at e
        exact p3 i i2 hi hi2 h1 h2 e hn
  · rintro ⟨i, hi, h1, e⟩
    rw [up1_app] at e
    by_cases a : i = j
    · rw [if_pos a] at e; exact Or.inr e.symm
    · rw [if_neg a] at e; exact Or.inl ⟨i, hi, h1, e⟩
  · rintro (⟨i, hi, h1, e⟩ | e)
    · refine ⟨i, hi, h1, ?_⟩
      rw [up1_ne]
      · exact e
      · intro z
        rw [z, hk] at e
        omega
    · exact ⟨j, hj, ha, by rw [up1_self, e]⟩
  · rw [nm_up hj hu, if_pos hk]
  · have nc : C j ≠ 1 := fun z => (hC j hj z).1 hk
    exact ⟨fun i hi h1 => up1_ne (fun e => nc (by rw [← e]; exact h1)), j, hj, hv, nc⟩
theorem fkL_pre {v K A A2 : Nat → Nat} {u j : Nat} (hp : fkPre v K A u) (hl : fkL v K A u j A2) (hj : j < 6) (h2 : A2 j = 0) (hk : K j ≠ 4294967295) : fkPre v K (up1 A2 j 1) (K j) := by
  obtain ⟨p1, p2, p3, p4⟩ := hp
  obtain ⟨l1, l2, l3, l4⟩ := hl
  have z : ∀ i, i < 6 → up1 A2 j 1 i = 0 → i ≠ j ∧ A2 i = 0 ∧ A i = 0 := fun i hi h => by
    rw [up1_app] at h
    by_cases e : i = j
    · rw [if_pos e] at h; omega
    · rw [if_neg e] at h
      refine ⟨e, h, ?_⟩
      rcases p1 i hi with q | q
      · exact q
      · have := l2 i hi q; omega
  refine ⟨fun i hi => ?_, p2, fun i i2 hi hi2 h1 h2 e hn => p3 i i2 hi hi2 (z i hi h1).2.2 (z i2 hi2 h2).2.2 e hn, fun i hi h1 e => ?_⟩
  · rw [up1_app]
    split
    · exact Or.inr rfl
    · exact l1 i hi
  · have q := z i hi h1
    have aj : A j = 0 := by
      rcases p1 j hj with w | w
      · exact w
      · have := l2 j hj w; omega
    exact q.1 (p3 i j hi hj q.2.2 aj e (by rw [e]; exact hk))
theorem fk_rec {v K A A2 K2 : Nat → Nat} {u j : Nat} (hp : fkPre v K A u) (hu : u < 8) (hl : fkL v K A u j A2) (hj : j < 6) (h2 : A2 j = 0) (hk : K j ≠ 4294967295) (hv : (v j).testBit u = true) (hs : fkS v K (up1 A2 j 1) (K j) K2) : fkS v K A u (up1 K2 j u) := by
  obtain ⟨p1, p2, p3, p4⟩ := hp
  obtain ⟨l1, l2, l3, l4⟩ := hl
  obtain ⟨s1, s2, s3, s4, s5, s6⟩ := hs
  have aj : A j = 0 := by
    rcases p1 j hj with w | w
    · exact w
    · have := l2 j hj w; omega
  have kj8 : K j < 8 := (p2 j hj).elim (fun z => absurd z hk) (fun z => z.1)
  have k2j : K2 j = K j := s2 j hj up1_self
  have z0 : ∀ i, i < 6 → up1 A2 j 1 i = 0 → i ≠ j ∧ A i = 0 := fun i hi h => by
    rw [up1_app] at h
    by_cases e : i = j
    · rw [if_pos e] at h; omega
    · rw [if_neg e] at h
      refine ⟨e, ?_⟩
      rcases p1 i hi with q | q
      · exact q
      · have := l2 i hi q; omega
  have z1 : ∀ i, i < 6 → i ≠ j → up1 A2 j 1 i = 0 ∨ (up1 A2 j 1 i = 1 ∧ K2 i = K i) := fun i hi hn => by
    rcases l1 i hi with q | q
    · left; rw [up1_ne hn]; exact q
    · right
      have e : up1 A2 j 1 i = 1 := by rw [up1_ne hn]; exact q
      exact ⟨e, s2 i hi e⟩
  have nu : ∀ i, i < 6 → i ≠ j → A i = 0 → K2 i ≠ u := fun i hi hn h1 e => by
    rcases z1 i hi hn with q | ⟨_, q⟩
    · rcases (s4 u hu).mp ⟨i, hi, q, e⟩ with ⟨a, ha, hb, hc⟩ | hc
      · exact p4 a ha (z0 a ha hb).2 hc
      · exact p4 j hj aj hc.symm
    · exact p4 i hi h1 (by rw [← q]; exact e)
  refine ⟨fun i hi => ?_, fun i hi h1 => ?_, fun i i2 hi hi2 h1 h3 e hn => ?_, fun w hw => ⟨?_, ?_⟩, ?_, fun C hC => ?_⟩
  · rw [up1_app]
    split
    · next e => subst e; exact Or.inr ⟨hu, hv⟩
    · exact s1 i hi
  · have ne : i ≠ j := fun e => by rw [e] at h1; omega
    rw [up1_ne ne]
    exact s2 i hi (by rw [up1_ne ne]; exact l2 i hi h1)
  · rw [up1_app, up1_app] at e
    rw [up1_app] at hn
    by_cases a : i = j
    · by_cases b : i2 = j
      · omega
      · rw [if_pos a, if_neg b] at e
        exact absurd e.symm (nu i2 hi2 b h3)
    · rw [if_neg a] at e hn
      by_cases b : i2 = j
      · rw [if_pos b] at e
        exact absurd e (nu i hi a h1)
      · rw [if_neg b] at e
        have mix : ∀ x y, x < 6 → y < 6 → x ≠ j → y ≠ j → A y = 0 → up1 A2 j 1 x = 0 → K2 y = K y → up1 A2 j 1 y = 1 → K2 x = K2 y → K2 x ≠ 4294967295 → False := by
          intro x y hx hy nx ny ay qx ky qy exy hnx
          have w8 : K2 x < 8 := (s1 x hx).elim (fun z => absurd z hnx) (fun z => z.1)
          rcases (s4 (K2 x) w8).mp ⟨x, hx, qx, rfl⟩ with ⟨c, hc, hd, he⟩ | he
          · have := p3 c y hc hy (z0 c hc hd).2 ay (by rw [he, exy, ky]) (by rw [he]; exact hnx)
            rw [this] at hd
            omega
          · have := p3 y j hy hj ay aj (by rw [← ky, ← exy, he]) (by rw [← ky, ← exy]; exact hnx)
            exact ny this
        rcases z1 i hi a with q | ⟨q, r⟩
        · rcases z1 i2 hi2 b with q2 | ⟨q2, r2⟩
          · exact s3 i i2 hi hi2 q q2 e hn
          · exact (mix i i2 hi hi2 a b h3 q r2 q2 e hn).elim
        · rcases z1 i2 hi2 b with q2 | ⟨q2, r2⟩
          · exact (mix i2 i hi2 hi b a h1 q2 r q e.symm (by rw [← e]; exact hn)).elim
          · exact p3 i i2 hi hi2 h1 h3 (by rw [← r, ← r2]; exact e) (by rw [← r]; exact hn)
  · rintro ⟨i, hi, h1, e⟩
    rw [up1_app] at e
    by_cases a : i = j
    · rw [if_pos a] at e; exact Or.inr e.symm
    · rw [if_neg a] at e
      rcases z1 i hi a with q | ⟨q, r⟩
      · rcases (s4 w hw).mp ⟨i, hi, q, e⟩ with ⟨c, hc, hd, he⟩ | he
        · exact Or.inl ⟨c, hc, (z0 c hc hd).2, he⟩
        · exact Or.inl ⟨j, hj, aj, he.symm⟩
      · exact Or.inl ⟨i, hi, h1, by rw [← r]; exact e⟩
  · rintro (⟨i, hi, h1, e⟩ | e)
    · by_cases a : i = j
      · obtain ⟨c, hc, hd, he⟩ := (s4 w hw).mpr (Or.inr (by rw [← e, a]))
        have q := z0 c hc hd
        exact ⟨c, hc, q.2, by rw [up1_ne q.1]; exact he⟩
      · rcases z1 i hi a with q | ⟨q, r⟩
        · obtain ⟨c, hc, hd, he⟩ := (s4 w hw).mpr (Or.inl ⟨i, hi, q, e⟩)
          have q := z0 c hc hd
          exact ⟨c, hc, q.2, by rw [up1_ne q.1]; exact he⟩
        · exact ⟨i, hi, h1, by rw [up1_ne a, r]; exact e⟩
    · exact ⟨j, hj, aj, by rw [up1_self, e]⟩
  · rw [nm_up hj hu, if_neg (by rw [k2j]; exact hk), s5]
  · obtain ⟨c1, i, hi, c2, c3⟩ := s6 C hC
    have nc : C j ≠ 1 := fun z => c3 ((hC j hj z).2 i hi c2)
    exact ⟨fun a ha h1 => by rw [up1_ne (fun e => nc (by rw [← e]; exact h1))]; exact c1 a ha h1, j, hj, hv, nc⟩
theorem fkL_fail {v K A A2 A3 : Nat → Nat} {u j : Nat} (hl : fkL v K A u j A2) (hj : j < 6) (hk : K j ≠ 4294967295) (h01 : A01 A3) (hle : ∀ i, i < 6 → up1 A2 j 1 i = 1 → A3 i = 1) (hf : fkF v K (up1 A2 j 1) (K j) A3) : fkL v K A u (j + 1) A3 := by
  obtain ⟨l1, l2, l3, l4⟩ := hl
  have le : ∀ i, i < 6 → A2 i = 1 → A3 i = 1 := fun i hi h => hle i hi (by rw [up1_app]; split <;> first | rfl | exact h)
  have a3j : A3 j = 1 := hle j hj up1_self
  refine ⟨h01, fun i hi h => le i hi (l2 i hi h), fun i hi h => ?_, fun i hi h0 h1 => ?_⟩
  · by_cases e : i = j
    · rw [e]; exact a3j
    · exact le i (by omega) (l3 i (by omega) h)
  · by_cases e : i = j
    · subst e
      exact ⟨hk, fun a ha hb => hf.1 a ha hb⟩
    · rcases l1 i hi with q | q
      · exact hf.2 i hi (by rw [up1_ne e]; exact q) h1
      · have z := l4 i hi h0 q
        exact ⟨z.1, fun a ha hb => le a ha (z.2 a ha hb)⟩
theorem fkL_skip {v K A A2 : Nat → Nat} {u j : Nat} (hl : fkL v K A u j A2) (h : A2 j ≠ 0 ∨ (v j).testBit u = false) (hj : j < 6) : fkL v K A u (j + 1) A2 := by
  obtain ⟨l1, l2, l3, l4⟩ := hl
  refine ⟨l1, l2, fun i hi hv => ?_, l4⟩
  by_cases e : i = j
  · subst e
    rcases h with h | h
    · exact (l1 i hj).elim (fun z => absurd z h) id
    · rw [h] at hv; exact absurd hv (by decide)
  · exact l3 i (by omega) hv
theorem fkL_end {v K A A2 : Nat → Nat} {u : Nat} (hl : fkL v K A u 6 A2) : fkF v K A u A2 := ⟨hl.2.2.1, hl.2.2.2⟩
theorem NA_up {A : Nat → Nat} {j : Nat} (hj : j < 6) (h : A j = 0) : sumN (up1 A j 1) 6 = sumN A 6 + 1 := by
  have := sumN_up (f := A) (i := j) (v := 1) 6 hj
  omega
theorem NA_le {A : Nat → Nat} (h : A01 A) : sumN A 6 ≤ 6 := sumN_le (B := 1) 6 (fun i hi => by have := h i hi; omega)
theorem NA_mono {A A2 : Nat → Nat} (h : A01 A) (h2 : ∀ i, i < 6 → A i = 1 → A2 i = 1) : sumN A 6 ≤ sumN A2 6 := sumN_mono 6 (fun i hi => by
  rcases h i hi with q | q
  · omega
  · have := h2 i hi q; omega)
/-- what the chains keep between vigils -/
def chI (v K C : Nat → Nat) (u : Nat) : Prop := Kok v K ∧ (∀ i j, i < 6 → j < 6 → K i = K j → K i ≠ 4294967295 → i = j) ∧ (∀ j, j < 6 → K j ≠ 4294967295 → K j < u) ∧ clo v K C ∧ ∀ w, w < u → (∃ j, j < 6 ∧ K j = w) ∨ ∀ i, i < 6 → (v i).testBit w = true → C i = 1
theorem ch_0 {v K : Nat → Nat} (h : ∀ j, j < 6 → K j = 4294967295) : chI v K (fun _ => 0) 0 := ⟨fun j hj => Or.inl (h j hj), fun i j hi _ _ hn => absurd (h i hi) hn, fun j hj hn => absurd (h j hj) hn, fun j hj h1 => absurd h1 (by show ¬ (0 : Nat) = 1; omega), fun w hw => absurd hw (by omega)⟩
theorem ch_pre {v K C A : Nat → Nat} {u : Nat} (h : chI v K C u) (ha : ∀ j, j < 6 → A j = 0) (hu : u < 8) : fkPre v K A u := ⟨fun j hj => Or.inl (ha j hj), h.1, fun i j hi hj _ _ e hn => h.2.1 i j hi hj e hn, fun j hj _ e => by have := h.2.2.1 j hj (by omega); omega⟩
theorem ch_S {v K C A K2 : Nat → Nat} {u : Nat} (h : chI v K C u) (ha : ∀ j, j < 6 → A j = 0) (hu : u < 8) (hs : fkS v K A u K2) : chI v K2 C (u + 1) := by
  obtain ⟨h1, h2, h3, h4, h5⟩ := h
  obtain ⟨s1, s2, s3, s4, s5, s6⟩ := hs
  have cc := (s6 C h4).1
  refine ⟨s1, fun i j hi hj e hn => s3 i j hi hj (ha i hi) (ha j hj) e hn, fun j hj hn => ?_, fun j hj hc => by rw [cc j hj hc]; exact h4 j hj hc, fun w hw => ?_⟩
  · have k8 : K2 j < 8 := (s1 j hj).elim (fun z => absurd z hn) (fun z => z.1)
    rcases (s4 (K2 j) k8).mp ⟨j, hj, ha j hj, rfl⟩ with ⟨c, hc, _, he⟩ | he
    · have := h3 c hc (by omega); omega
    · omega
  · by_cases e : w = u
    · obtain ⟨c, hc, _, he⟩ := (s4 w (by omega)).mpr (Or.inr e)
      exact Or.inl ⟨c, hc, he⟩
    · rcases h5 w (by omega) with ⟨j, hj, q⟩ | q
      · obtain ⟨c, hc, _, he⟩ := (s4 w (by omega)).mpr (Or.inl ⟨j, hj, ha j hj, q⟩)
        exact Or.inl ⟨c, hc, he⟩
      · exact Or.inr q
theorem ch_F {v K C A A2 : Nat → Nat} {u : Nat} (h : chI v K C u) (ha : ∀ j, j < 6 → A j = 0) (hf : fkF v K A u A2) : chI v K (fun j => if A2 j = 1 then 1 else C j) (u + 1) := by
  obtain ⟨h1, h2, h3, h4, h5⟩ := h
  refine ⟨h1, h2, fun j hj hn => by have := h3 j hj hn; omega, fun j hj hc => ?_, fun w hw => ?_⟩
  · by_cases q : A2 j = 1
    · have z := hf.2 j hj (ha j hj) q
      exact ⟨z.1, fun i hi hb => if_pos (z.2 i hi hb)⟩
    · have hc : C j = 1 := by simpa [q] using hc
      have z := h4 j hj hc
      refine ⟨z.1, fun i hi hb => ?_⟩
      show (if A2 i = 1 then 1 else C i) = 1
      split
      · rfl
      · exact z.2 i hi hb
  · by_cases e : w = u
    · right
      intro i hi hb
      exact if_pos (hf.1 i hi (by rw [← e]; exact hb))
    · rcases h5 w (by omega) with q | q
      · exact Or.inl q
      · right
        intro i hi hb
        show (if A2 i = 1 then 1 else C i) = 1
        split
        · rfl
        · exact q i hi hb
