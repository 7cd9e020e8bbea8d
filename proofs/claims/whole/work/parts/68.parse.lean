/-! THE MODEL: reading (laid by wip/whole/src/p68.py) -/
def wdS : List (List Nat) := [[101, 110, 103, 105, 110, 101, 32], [115, 119, 97, 112, 32], [114, 97, 116, 101, 32], [114, 117, 110, 32], [111, 105, 108, 32], [102, 105, 108, 108, 32], [98, 117, 121, 32], [109, 111, 110, 107], [97, 98, 108, 101, 32], [109, 101, 110, 100, 32], [114, 101, 112, 97, 105, 114], [112, 97, 115, 115, 32]]
def rsS : List (List Nat) := [[35], [35, 32, 35, 35], [35, 61, 35], [35, 42, 37], [35, 46, 35, 43, 37], [37], [37], [], [35, 35], [35, 32, 35, 35], [], [37]]
def bgS : List Nat := [0, 7, 12, 17, 21, 25, 30, 34, 38, 43, 48, 54, 59]
def ltS : List Nat := [101, 110, 103, 105, 110, 101, 32, 115, 119, 97, 112, 32, 114, 97, 116, 101, 32, 114, 117, 110, 32, 111, 105, 108, 32, 102, 105, 108, 108, 32, 98, 117, 121, 32, 109, 111, 110, 107, 97, 98, 108, 101, 32, 109, 101, 110, 100, 32, 114, 101, 112, 97, 105, 114, 112, 97, 115, 115, 32]
def wdK (k : Nat) : List Nat := wdS.getD k []
def rsK (k : Nat) : List Nat := rsS.getD k []
def lnK (k : Nat) : Nat := (wdK k).length
theorem fm_split : ∀ k, k < 12 → chS.getD k [] = wdK k ++ rsK k := by decide
theorem bg_lt : ∀ k, k < 12 → bgS.getD (k + 1) 0 = bgS.getD k 0 + lnK k ∧ bgS.getD k 0 + lnK k ≤ 59 ∧ 4 ≤ lnK k ∧ lnK k ≤ 7 := by decide
theorem wd_lt : ∀ k, k < 12 → ∀ i, i < lnK k → ltS.getD (bgS.getD k 0 + i) 0 = (wdK k).getD i 0 := by decide
theorem wd_no : ∀ k, k < 12 → ∀ c, c ∈ wdK k → c ≠ 35 ∧ c ≠ 37 := by decide
theorem wd_two : ∀ a, a < 12 → ∀ b, b < 12 → (wdK a).getD 0 0 = (wdK b).getD 0 0 → (wdK a).getD 1 0 = (wdK b).getD 1 0 → a = b := by decide
/-- how far a word agrees with the text from a place on -/
def lkW (s : Nat → Nat) (n : Nat) : List Nat → Nat → Nat
  | [], _ => 0
  | c :: t, p => if p < n ∧ s p = c then 1 + lkW s n t (p + 1) else 0
theorem lkW_1 {s : Nat → Nat} {n c p : Nat} {t : List Nat} (h : p < n ∧ s p = c) : lkW s n (c :: t) p = 1 + lkW s n t (p + 1) := by rw [lkW, if_pos h]
theorem lkW_0 {s : Nat → Nat} {n c p : Nat} {t : List Nat} (h : ¬ (p < n ∧ s p = c)) : lkW s n (c :: t) p = 0 := by rw [lkW, if_neg h]
theorem lkW_le {s : Nat → Nat} {n : Nat} : ∀ l p, lkW s n l p ≤ l.length
  | [], _ => Nat.le_refl _
  | c :: t, p => by
    have := lkW_le (s := s) (n := n) t (p + 1)
    simp only [lkW, List.length_cons]
    split <;> omega
theorem lkW_n {s : Nat → Nat} {n : Nat} : ∀ l p, p ≤ n → p + lkW s n l p ≤ n
  | [], _, h => h
  | c :: t, p, h => by
    simp only [lkW]
    split
    · next q => have := lkW_n (s := s) (n := n) t (p + 1) (by omega); omega
    · omega
theorem lkW_is {s : Nat → Nat} {n : Nat} : ∀ (l : List Nat) (p i : Nat), i ≤ l.length → (∀ j, j < i → p + j < n ∧ s (p + j) = l.getD j 0) → (i < l.length → ¬ (p + i < n ∧ s (p + i) = l.getD i 0)) → lkW s n l p = i
  | [], p, i, h, _, _ => by simp only [lkW]; simp only [List.length_nil] at h; omega
  | c :: t, p, 0, h, _, h2 => by
    have z : ¬ (p < n ∧ s p = c) := h2 (by simp only [List.length_cons]; omega)
    exact lkW_0 z
  | c :: t, p, i + 1, h, h1, h2 => by
    have z : p < n ∧ s p = c := h1 0 (by omega)
    rw [lkW_1 z, lkW_is t (p + 1) i (by simp only [List.length_cons] at h; omega) (fun j hj => by
      have w := h1 (j + 1) (by omega)
      rw [show p + 1 + j = p + (j + 1) by omega]; exact w) (fun hi => by
      have w := h2 (by simp only [List.length_cons]; omega)
      rw [show p + 1 + i = p + (i + 1) by omega]; exact w)]
    omega
theorem lkW_at {s : Nat → Nat} {n : Nat} : ∀ (l : List Nat) (p j : Nat), j < lkW s n l p → s (p + j) = l.getD j 0
  | [], p, j, h => by simp only [lkW] at h; omega
  | c :: t, p, j, h => by
    simp only [lkW] at h
    by_cases q : p < n ∧ s p = c
    · rw [if_pos q] at h
      cases j with
      | zero => exact q.2
      | succ j =>
        have w := lkW_at (s := s) (n := n) t (p + 1) j (by omega)
        rw [show p + 1 + j = p + (j + 1) by omega] at w
        exact w
    · rw [if_neg q] at h; omega
theorem fit_c1 {s : Nat → Nat} {n c p : Nat} {t : List Nat} (hc : c ≠ 35 ∧ c ≠ 37) (h : p < n ∧ s p = c) : fitF s n (c :: t) p = fitF s n t (p + 1) := by rw [fitF, if_neg (by omega), if_pos h]
theorem fit_c0 {s : Nat → Nat} {n c p : Nat} {t : List Nat} (hc : c ≠ 35 ∧ c ≠ 37) (h : ¬ (p < n ∧ s p = c)) : fitF s n (c :: t) p = (false, p, []) := by rw [fitF, if_neg (by omega), if_neg h]
theorem fit_d1 {s : Nat → Nat} {n c p m : Nat} {t : List Nat} (hc : c = 35 ∨ c = 37) (hm : (if c = 37 then 1 else 0) = m) (h : dgt s n p) : fitF s n (c :: t) p = ((fitF s n t (p + nmK s n m p)).1, (fitF s n t (p + nmK s n m p)).2.1, nmV s n m p :: (fitF s n t (p + nmK s n m p)).2.2) := by subst hm; rw [fitF, if_pos hc, if_pos h]
theorem fit_d0 {s : Nat → Nat} {n c p : Nat} {t : List Nat} (hc : c = 35 ∨ c = 37) (h : ¬ dgt s n p) : fitF s n (c :: t) p = (false, p, []) := by rw [fitF, if_pos hc, if_neg h]
theorem fit_app {s : Nat → Nat} {n : Nat} (r : List Nat) : ∀ (l : List Nat) (p : Nat), (∀ c, c ∈ l → c ≠ 35 ∧ c ≠ 37) → (lkW s n l p = l.length → fitF s n (l ++ r) p = fitF s n r (p + l.length)) ∧ (lkW s n l p ≠ l.length → fitF s n (l ++ r) p = (false, p + lkW s n l p, []))
  | [], p, _ => ⟨fun _ => rfl, fun h => absurd rfl h⟩
  | c :: t, p, h => by
    have hc := h c (List.mem_cons_self ..)
    have ih := fit_app (s := s) (n := n) r t (p + 1) (fun x hx => h x (List.mem_cons_of_mem _ hx))
    rw [List.cons_append, List.length_cons]
    by_cases q : p < n ∧ s p = c
    · rw [lkW_1 q, fit_c1 hc q]
      refine ⟨fun z => ?_, fun z => ?_⟩
      · rw [ih.1 (by omega), show p + 1 + t.length = p + (t.length + 1) by omega]
      · rw [ih.2 (by omega), show p + 1 + lkW s n t (p + 1) = p + (1 + lkW s n t (p + 1)) by omega]
    · rw [lkW_0 q, fit_c0 hc q]
      exact ⟨fun z => absurd z (by omega), fun _ => rfl⟩
def lkN (s : Nat → Nat) (n p k : Nat) : Nat := lkW s n (wdK k) p
theorem fit_k {s : Nat → Nat} {n p k : Nat} (hk : k < 12) : (lkN s n p k = lnK k → fitF s n (fm k) p = fitF s n (rsK k) (p + lnK k)) ∧ (lkN s n p k ≠ lnK k → fitF s n (fm k) p = (false, p + lkN s n p k, [])) := by
  have e : fm k = wdK k ++ rsK k := fm_split k hk
  rw [e]
  exact fit_app (rsK k) (wdK k) p (wd_no k hk)
theorem lk_two {s : Nat → Nat} {n p a b : Nat} (ha : a < 12) (hb : b < 12) (h1 : 2 ≤ lkN s n p a) (h2 : 2 ≤ lkN s n p b) : a = b := by
  have a0 := lkW_at (wdK a) p 0 (show 0 < lkW s n (wdK a) p by unfold lkN at h1; omega)
  have b0 := lkW_at (wdK b) p 0 (show 0 < lkW s n (wdK b) p by unfold lkN at h2; omega)
  have a1 := lkW_at (wdK a) p 1 (show 1 < lkW s n (wdK a) p by unfold lkN at h1; omega)
  have b1 := lkW_at (wdK b) p 1 (show 1 < lkW s n (wdK b) p by unfold lkN at h2; omega)
  exact wd_two a ha b hb (by rw [← a0, ← b0]) (by rw [← a1, ← b1])
theorem fur_max {s : Nat → Nat} {n a m : Nat} : ∀ k, (∀ i, i < k → (fitF s n (fm i) a).2.1 ≤ m) → a ≤ m → furN s n a k ≤ m
  | 0, _, h => h
  | k + 1, h, ha => by
    have ih := fur_max k (fun i hi => h i (by omega)) ha
    have := h k (by omega)
    simp only [furN]
    omega
theorem fur_ge {s : Nat → Nat} {n a i : Nat} : ∀ k, i < k → (fitF s n (fm i) a).2.1 ≤ furN s n a k
  | 0, h => absurd h (by omega)
  | k + 1, h => by
    simp only [furN]
    by_cases e : i = k
    · subst e; omega
    · have := fur_ge (s := s) (n := n) (a := a) (i := i) k (by omega)
      omega
/-- the word that the text is most like decides -/
theorem best_is {s : Nat → Nat} {n p b : Nat} (hp : p ≤ n) (hb : b < 12) (hm : ∀ k, k < 12 → lkN s n p k ≤ lkN s n p b) :
    (lkN s n p b ≠ lnK b → ckN s n p = 12 ∧ furN s n p 12 = p + lkN s n p b) ∧
    (lkN s n p b = lnK b → ((fitF s n (rsK b) (p + lnK b)).1 = true → ckN s n p = b ∧ ckA s n p = (fitF s n (rsK b) (p + lnK b)).2.1 ∧ ckL s n p = (fitF s n (rsK b) (p + lnK b)).2.2) ∧
      ((fitF s n (rsK b) (p + lnK b)).1 = false → ckN s n p = 12 ∧ furN s n p 12 = (fitF s n (rsK b) (p + lnK b)).2.1)) := by
  have lb := bg_lt b hb
  have leb : lkN s n p b ≤ lnK b := lkW_le _ _
  have oth : ∀ k, k < 12 → k ≠ b → lkN s n p k ≠ lnK k := fun k hk ne z => by
    have lk := bg_lt k hk
    have := hm k hk
    exact ne (lk_two (s := s) (n := n) (p := p) hk hb (by omega) (by omega))
  have ofit : ∀ k, k < 12 → k ≠ b → fitF s n (fm k) p = (false, p + lkN s n p k, []) := fun k hk ne => (fit_k hk).2 (oth k hk ne)
  have ge := (fit_at (s := s) (n := n) (rsK b) (p + lnK b)).1
  refine ⟨fun h => ?_, fun h => ⟨fun t => ?_, fun t => ?_⟩⟩
  · have all : ∀ k, k < 12 → fitF s n (fm k) p = (false, p + lkN s n p k, []) := fun k hk => (fit_k hk).2 (fun z => by
      by_cases e : k = b
      · rw [e] at z; exact h z
      · exact oth k hk e z)
    refine ⟨ckN_12 (fun i hi => by rw [all i hi]), Nat.le_antisymm (fur_max 12 (fun i hi => by rw [all i hi]; have := hm i hi; dsimp only; omega) (by omega)) ?_⟩
    have := fur_ge (s := s) (n := n) (a := p) (i := b) 12 hb
    rw [all b hb] at this
    exact this
  · have fb : fitF s n (fm b) p = fitF s n (rsK b) (p + lnK b) := (fit_k hb).1 h
    have ck : ckN s n p = b := ckN_is hb (fun i hi => by rw [ofit i (by omega) (by omega)]) (by rw [fb]; exact t)
    exact ⟨ck, by rw [ckA_is ck, fb], by rw [ckL_is ck, fb]⟩
  · have fb : fitF s n (fm b) p = fitF s n (rsK b) (p + lnK b) := (fit_k hb).1 h
    refine ⟨ckN_12 (fun i hi => ?_), Nat.le_antisymm (fur_max 12 (fun i hi => ?_) (by omega)) ?_⟩
    · by_cases e : i = b
      · rw [e, fb]; exact t
      · rw [ofit i hi e]
    · by_cases e : i = b
      · rw [e, fb]; exact Nat.le_refl _
      · rw [ofit i hi e]
        have := hm i hi
        dsimp only; omega
    · have := fur_ge (s := s) (n := n) (a := p) (i := b) 12 hb
      rw [fb] at this
      exact this
/-- reading a form step by step: w = 1 once it has failed -/
def wL (s : Nat → Nat) (n c w p : Nat) : Nat := if w = 1 ∨ ¬ (p < n ∧ s p = c) then 1 else 0
def wD (s : Nat → Nat) (n w p : Nat) : Nat := if w = 1 ∨ ¬ dgt s n p then 1 else 0
def pL (w p k : Nat) : Nat := if w = 1 then p else p + k
def vD (s : Nat → Nat) (n w p : Nat) : Nat := if wD s n w p = 1 then 0 else s p - 48
def vN (s : Nat → Nat) (n w p : Nat) : Nat := if wD s n w p = 1 then 0 else nmV s n 1 p
def rnF (s : Nat → Nat) (n : Nat) : List Nat → Nat → Nat → Nat × Nat × List Nat
  | [], w, p => (w, p, [])
  | c :: t, w, p => if c = 35 then ((rnF s n t (wD s n w p) (pL (wD s n w p) p 1)).1, (rnF s n t (wD s n w p) (pL (wD s n w p) p 1)).2.1, vD s n w p :: (rnF s n t (wD s n w p) (pL (wD s n w p) p 1)).2.2)
    else if c = 37 then ((rnF s n t (wD s n w p) (pL (wD s n w p) p (nmK s n 1 p))).1, (rnF s n t (wD s n w p) (pL (wD s n w p) p (nmK s n 1 p))).2.1, vN s n w p :: (rnF s n t (wD s n w p) (pL (wD s n w p) p (nmK s n 1 p))).2.2)
    else rnF s n t (wL s n c w p) (pL (wL s n c w p) p 1)
theorem wD_1 {s : Nat → Nat} {n p : Nat} : wD s n 1 p = 1 := if_pos (Or.inl rfl)
theorem wL_1 {s : Nat → Nat} {n c p : Nat} : wL s n c 1 p = 1 := if_pos (Or.inl rfl)
theorem wD_le {s : Nat → Nat} {n w p : Nat} : wD s n w p ≤ 1 := by unfold wD; split <;> omega
theorem wL_le {s : Nat → Nat} {n c w p : Nat} : wL s n c w p ≤ 1 := by unfold wL; split <;> omega
theorem wD_n {s : Nat → Nat} {n w p k : Nat} (hp : p ≤ n) : pL (wD s n w p) p 1 ≤ n ∧ pL (wD s n w p) p (nmK s n k p) ≤ n := by
  unfold pL wD
  by_cases d : dgt s n p
  · have k1 := nmK_n (m := k) d
    have d1 := d.1
    split <;> constructor <;> (try split) <;> omega
  · rw [if_pos (Or.inr d), if_pos rfl, if_pos rfl]
    exact ⟨hp, hp⟩
theorem wL_n {s : Nat → Nat} {n c w p : Nat} (hp : p ≤ n) : pL (wL s n c w p) p 1 ≤ n := by
  unfold pL wL
  by_cases d : p < n ∧ s p = c
  · have d1 := d.1
    split <;> (try split) <;> omega
  · rw [if_pos (Or.inr d), if_pos rfl]
    exact hp
theorem rn_1 {s : Nat → Nat} {n : Nat} : ∀ (l : List Nat) (p : Nat), (rnF s n l 1 p).1 = 1 ∧ (rnF s n l 1 p).2.1 = p
  | [], p => ⟨rfl, rfl⟩
  | c :: t, p => by
    have ih := rn_1 (s := s) (n := n) t p
    have e1 : ∀ k, pL 1 p k = p := fun k => if_pos rfl
    simp only [rnF]
    rw [wD_1, wL_1, e1, e1]
    split
    · exact ih
    · split
      · exact ih
      · exact ih
theorem rn_5 {s : Nat → Nat} {n c w p : Nat} {t : List Nat} (h : c = 35) : rnF s n (c :: t) w p = ((rnF s n t (wD s n w p) (pL (wD s n w p) p 1)).1, (rnF s n t (wD s n w p) (pL (wD s n w p) p 1)).2.1, vD s n w p :: (rnF s n t (wD s n w p) (pL (wD s n w p) p 1)).2.2) := by rw [rnF, if_pos h]
theorem rn_7 {s : Nat → Nat} {n c w p : Nat} {t : List Nat} (h5 : c ≠ 35) (h : c = 37) : rnF s n (c :: t) w p = ((rnF s n t (wD s n w p) (pL (wD s n w p) p (nmK s n 1 p))).1, (rnF s n t (wD s n w p) (pL (wD s n w p) p (nmK s n 1 p))).2.1, vN s n w p :: (rnF s n t (wD s n w p) (pL (wD s n w p) p (nmK s n 1 p))).2.2) := by rw [rnF, if_neg h5, if_pos h]
theorem rn_c {s : Nat → Nat} {n c w p : Nat} {t : List Nat} (h5 : c ≠ 35) (h : c ≠ 37) : rnF s n (c :: t) w p = rnF s n t (wL s n c w p) (pL (wL s n c w p) p 1) := by rw [rnF, if_neg h5, if_neg h]
def RF3 (r : Nat × Nat × List Nat) (q : Bool × Nat × List Nat) : Prop := (q.1 = true → r.1 = 0) ∧ (q.1 = false → r.1 = 1) ∧ r.2.1 = q.2.1 ∧ (q.1 = true → r.2.2 = q.2.2)
theorem rn_fit {s : Nat → Nat} {n : Nat} : ∀ (l : List Nat) (p : Nat), RF3 (rnF s n l 0 p) (fitF s n l p)
  | [], p => ⟨fun _ => rfl, fun z => (by cases z), rfl, fun _ => rfl⟩
  | c :: t, p => by
    have e0 : ∀ k, pL 0 p k = p + k := fun k => if_neg (by omega)
    have e1 : ∀ k, pL 1 p k = p := fun k => if_pos rfl
    have r1 := rn_1 (s := s) (n := n) t p
    by_cases h5 : c = 35
    · rw [rn_5 h5]
      by_cases d : dgt s n p
      · have w : wD s n 0 p = 0 := if_neg (fun z => z.elim (by omega) (fun z => z d))
        have ih := rn_fit (s := s) (n := n) t (p + 1)
        have k1 : nmK s n 0 p = 1 := if_neg (by omega)
        have v1 : nmV s n 0 p = s p - 48 := if_neg (by omega)
        have v2 : vD s n 0 p = s p - 48 := by unfold vD; rw [w, if_neg (by omega)]
        rw [fit_d1 (m := 0) (Or.inl h5) (if_neg (by omega)) d, w, e0, k1, v1, v2]
        exact ⟨ih.1, ih.2.1, ih.2.2.1, fun z => congrArg (List.cons _) (ih.2.2.2 z)⟩
      · have w : wD s n 0 p = 1 := if_pos (Or.inr d)
        rw [fit_d0 (Or.inl h5) d, w, e1]
        exact ⟨fun z => (by cases z), fun _ => r1.1, r1.2, fun z => (by cases z)⟩
    · by_cases h7 : c = 37
      · rw [rn_7 h5 h7]
        by_cases d : dgt s n p
        · have w : wD s n 0 p = 0 := if_neg (fun z => z.elim (by omega) (fun z => z d))
          have ih := rn_fit (s := s) (n := n) t (p + nmK s n 1 p)
          have v2 : vN s n 0 p = nmV s n 1 p := by unfold vN; rw [w, if_neg (by omega)]
          rw [fit_d1 (m := 1) (Or.inr h7) (if_pos h7) d, w, e0, v2]
          exact ⟨ih.1, ih.2.1, ih.2.2.1, fun z => congrArg (List.cons _) (ih.2.2.2 z)⟩
        · have w : wD s n 0 p = 1 := if_pos (Or.inr d)
          rw [fit_d0 (Or.inr h7) d, w, e1]
          exact ⟨fun z => (by cases z), fun _ => r1.1, r1.2, fun z => (by cases z)⟩
      · rw [rn_c h5 h7]
        by_cases d : p < n ∧ s p = c
        · have w : wL s n c 0 p = 0 := if_neg (fun z => z.elim (by omega) (fun z => z d))
          rw [fit_c1 ⟨h5, h7⟩ d, w, e0]
          exact rn_fit t (p + 1)
        · have w : wL s n c 0 p = 1 := if_pos (Or.inr d)
          rw [fit_c0 ⟨h5, h7⟩ d, w, e1]
          exact ⟨fun z => (by cases z), fun _ => r1.1, r1.2, fun z => (by cases z)⟩
/-- the model's text and its reading: the place p, w whether it failed -/
def TM (J : DJ) (s : Nat → Nat) (n : Nat) : Prop := J 356 = s ∧ J 351 21 = n ∧ n ≤ 60 ∧ ∀ i, i < n → 32 ≤ s i ∧ s i ≤ 126
def mst (J : DJ) (w p : Nat) : DJ := up2 (up2 J 351 22 w) 351 20 p
theorem mst_ne {J : DJ} {w p c : Nat} (h : c ≠ 351) : mst J w p c = J c := by unfold mst; rw [up2_ne h, up2_ne h]
theorem mst_w {J : DJ} {w p : Nat} : mst J w p 351 22 = w := by unfold mst; rw [up2_app, if_neg (by omega), up2_app, if_pos ⟨rfl, rfl⟩]
theorem mst_p {J : DJ} {w p : Nat} : mst J w p 351 20 = p := by unfold mst; rw [up2_app, if_pos ⟨rfl, rfl⟩]
theorem mst_o {J : DJ} {w p j : Nat} (h1 : j ≠ 20) (h2 : j ≠ 22) : mst J w p 351 j = J 351 j := by unfold mst; rw [up2_app, if_neg (fun z => h1 z.2), up2_app, if_neg (fun z => h2 z.2)]
theorem mst_22 {J : DJ} {w p v : Nat} : up2 (mst J w p) 351 22 v = mst J v p := by
  funext k j
  unfold mst
  simp only [up2_app]
  (repeat' split) <;> first | rfl | (exfalso; omega)
theorem mst_20 {J : DJ} {w p q : Nat} : up2 (mst J w p) 351 20 q = mst J w q := by
  funext k j
  unfold mst
  simp only [up2_app]
  (repeat' split) <;> first | rfl | (exfalso; omega)
theorem mst_363 {J : DJ} {C : Nat → Nat} {w p i v : Nat} : up2 (mst (sR J 363 C) w p) 363 i v = mst (sR J 363 (up1 C i v)) w p := by
  funext k j
  unfold mst sR up1
  simp only [up2_app]
  by_cases e : k = 363
  · subst e
    simp only [if_true, true_and]
    (repeat' split) <;> first | rfl | (exfalso; omega)
  · (repeat' split) <;> first | rfl | (exfalso; omega)
theorem TM.mst {J : DJ} {s : Nat → Nat} {n w p : Nat} (t : TM J s n) : TM (mst J w p) s n := ⟨by rw [mst_ne (by omega)]; exact t.1, by rw [mst_o (by omega) (by omega)]; exact t.2.1, t.2.2⟩
theorem TM.com {J : DJ} {s C : Nat → Nat} {n : Nat} (t : TM J s n) : TM (sR J 363 C) s n := ⟨by rw [sR_ne (by omega)]; exact t.1, by rw [sR_ne (by omega)]; exact t.2.1, t.2.2⟩
def hrN (s : Nat → Nat) (n p : Nat) : Nat := if p < n then s p else 4294967295
theorem hr_f {s : Nat → Nat} {n p : Nat} (h : ∀ i, i < n → 32 ≤ s i ∧ s i ≤ 126) : hrN s n p < 4294967296 ∧ (p < n → hrN s n p = s p ∧ s p ≤ 126) ∧ (¬ p < n → hrN s n p = 4294967295) := by
  unfold hrN
  by_cases q : p < n
  · have := h p q
    rw [if_pos q]
    exact ⟨by omega, fun _ => ⟨rfl, this.2⟩, fun z => absurd q z⟩
  · rw [if_neg q]
    exact ⟨by omega, fun z => absurd z q, fun _ => rfl⟩
theorem S_X11_here {g : Gn} {J : DJ} {s : Nat → Nat} {n p : Nat} (t : TM J s n) (hp : J 351 20 = p) (hl : p ≤ n) : SJ g mX11_here 0 0 0 [.ref (g.2 351)] J (Ri (hrN s n p) J) NoX := by
  obtain ⟨t6, t1, tn, tc⟩ := t
  refine SJ_of_VJ (by decide +kernel) (Nat.le_of_ble_eq_true rfl) ?_
  show VJ g mX11_here 0 0 0 _ _ 0 [(0, .ref (g.2 351))] [] J
  refine J_aload_n 1 rfl dX11_here_0 rfl ?_
  refine g_X11_place0 4 rfl dX11_here_1 lkX11_259 ?_
  refine J_cv (b := p) hp ?_
  refine J_aload_n 5 rfl dX11_here_4 rfl ?_
  refine g_X11_size0 8 rfl dX11_here_5 lkX11_262 ?_
  refine J_cv (b := n) t1 ?_
  refine J_icmp_ge 23 11 (by decide) rfl dX11_here_8 (by omega) (by omega) (fun c8 => ?_) (fun c8 => ?_)
  · refine J_iconst 24 4294967295 rfl dX11_here_23 ic_m1 ?_
    refine J_iret rfl dX11_here_24 ?_
    first
      | exact ⟨by unfold hrN; rw [if_pos (by omega)], rfl⟩
      | exact ⟨by unfold hrN; rw [if_neg (by omega)], rfl⟩
  · refine J_aload_n 12 rfl dX11_here_11 rfl ?_
    refine g_X11_input 15 rfl dX11_here_12 lkX11_29 ?_
    refine J_aload_n 16 rfl dX11_here_15 rfl ?_
    refine g_X11_place0 19 rfl dX11_here_16 lkX11_259 ?_
    refine J_cv (b := p) hp ?_
    refine J_iald 20 rfl dX11_here_19 (sa_X11_input) (by omega) ?_
    refine J_cv (b := s p) (by rw [t6]) ?_
    refine J_goto 24 (by decide) dX11_here_20 ?_
    refine J_iret rfl dX11_here_24 ?_
    first
      | exact ⟨by unfold hrN; rw [if_pos (by omega)], rfl⟩
      | exact ⟨by unfold hrN; rw [if_neg (by omega)], rfl⟩

theorem S_X11_expects {g : Gn} {J : DJ} {s : Nat → Nat} {n w p : Nat} (t : TM J s n) (hw : w ≤ 1) (hl : p ≤ n) {c : Nat} (hc : c ≤ 126) : SJ g mX11_expects 1 0 0 [.ref (g.2 351), .int (nI (c))] (mst J w p) (Rv (mst J (wL s n c w p) (pL (wL s n c w p) p 1))) NoX := by
  have tn := t.2.2.1
  have hf := hr_f (p := p) t.2.2.2
  have wle := wL_le (s := s) (n := n) (c := c) (w := w) (p := p)
  have wf1 : (w = 1 ∨ ¬ (p < n ∧ s p = c)) → wL s n c w p = 1 := fun h => if_pos h
  have wf0 : ¬ (w = 1 ∨ ¬ (p < n ∧ s p = c)) → wL s n c w p = 0 := fun h => if_neg h
  refine SJ_of_VJ (by decide +kernel) (Nat.le_of_ble_eq_true rfl) ?_
  show VJ g mX11_expects 1 0 0 _ _ 0 [(0, .ref (g.2 351)), (1, .int (nI (c)))] [] (mst J w p)
  refine J_aload_n 1 rfl dX11_expects_0 rfl ?_
  refine J_aload_n 2 rfl dX11_expects_1 rfl ?_
  refine g_X11_isWrong 5 rfl dX11_expects_2 lkX11_265 ?_
  refine J_cv (b := w) mst_w ?_
  refine J_if_ne 16 8 (by decide) rfl dX11_expects_5 (by omega) (fun c5 => ?_) (fun c5 => ?_)
  · refine J_iconst 17 1 rfl dX11_expects_16 ic_1 ?_
    refine J_goto 21 (by decide) dX11_expects_17 ?_
    refine p_X11_isWrong 24 (by omega) rfl dX11_expects_21 lkX11_265 ?_
    rw [mst_22]
    refine J_aload_n 25 rfl dX11_expects_24 rfl ?_
    refine J_dup 26 rfl dX11_expects_25 rfl ?_
    refine g_X11_place0 29 rfl dX11_expects_26 lkX11_259 ?_
    refine J_cv (b := p) mst_p ?_
    refine J_aload_n 30 rfl dX11_expects_29 rfl ?_
    refine g_X11_isWrong 33 rfl dX11_expects_30 lkX11_265 ?_
    refine J_cv (b := wL s n c w p) (by rw [mst_w]; omega) ?_
    refine J_if_eq 40 36 (by decide) rfl dX11_expects_33 (by omega) (fun c33 => ?_) (fun c33 => ?_)
    · refine J_iconst 41 1 rfl dX11_expects_40 ic_1 ?_
      refine J_iadd 42 rfl dX11_expects_41 ?_
      refine p_X11_place0 45 rfl dX11_expects_42 lkX11_259 ?_
      rw [mst_20]
      refine J_vret rfl dX11_expects_45 ?_
      first
        | (have e1 : wL s n c w p = 1 := by omega
           rw [e1]; unfold pL; rw [if_pos rfl]; exact ⟨rfl, rfl⟩)
        | (have e1 : wL s n c w p = 0 := by omega
           rw [e1]; unfold pL; rw [if_neg (by omega)]; exact ⟨rfl, rfl⟩)
        | (exfalso; omega)
    · refine J_iconst 37 0 rfl dX11_expects_36 ic_0 ?_
      refine J_goto 41 (by decide) dX11_expects_37 ?_
      refine J_iadd 42 rfl dX11_expects_41 ?_
      refine p_X11_place0 45 rfl dX11_expects_42 lkX11_259 ?_
      rw [mst_20]
      refine J_vret rfl dX11_expects_45 ?_
      first
        | (have e1 : wL s n c w p = 1 := by omega
           rw [e1]; unfold pL; rw [if_pos rfl]; exact ⟨rfl, rfl⟩)
        | (have e1 : wL s n c w p = 0 := by omega
           rw [e1]; unfold pL; rw [if_neg (by omega)]; exact ⟨rfl, rfl⟩)
        | (exfalso; omega)
  · refine J_aload_n 9 rfl dX11_expects_8 rfl ?_
    refine J_callVi (As := []) 12 _ rfl kalX11_here lkX11_269 dX11_expects_9 (lt_X11) (so_X11) rfl rfl rfl (by exact Nat.le_of_ble_eq_true rfl) (by omega) (S_X11_here t.mst mst_p (by omega)) ?_
    refine J_iload_n 13 rfl dX11_expects_12 rfl ?_
    refine J_icmp_eq 20 16 (by decide) rfl dX11_expects_13 (by omega) (by omega) (fun c13 => ?_) (fun c13 => ?_)
    · refine J_iconst 21 0 rfl dX11_expects_20 ic_0 ?_
      refine p_X11_isWrong 24 (by omega) rfl dX11_expects_21 lkX11_265 ?_
      rw [mst_22]
      refine J_aload_n 25 rfl dX11_expects_24 rfl ?_
      refine J_dup 26 rfl dX11_expects_25 rfl ?_
      refine g_X11_place0 29 rfl dX11_expects_26 lkX11_259 ?_
      refine J_cv (b := p) mst_p ?_
      refine J_aload_n 30 rfl dX11_expects_29 rfl ?_
      refine g_X11_isWrong 33 rfl dX11_expects_30 lkX11_265 ?_
      refine J_cv (b := wL s n c w p) (by rw [mst_w]; omega) ?_
      refine J_if_eq 40 36 (by decide) rfl dX11_expects_33 (by omega) (fun c33 => ?_) (fun c33 => ?_)
      · refine J_iconst 41 1 rfl dX11_expects_40 ic_1 ?_
        refine J_iadd 42 rfl dX11_expects_41 ?_
        refine p_X11_place0 45 rfl dX11_expects_42 lkX11_259 ?_
        rw [mst_20]
        refine J_vret rfl dX11_expects_45 ?_
        first
          | (have e1 : wL s n c w p = 1 := by omega
             rw [e1]; unfold pL; rw [if_pos rfl]; exact ⟨rfl, rfl⟩)
          | (have e1 : wL s n c w p = 0 := by omega
             rw [e1]; unfold pL; rw [if_neg (by omega)]; exact ⟨rfl, rfl⟩)
          | (exfalso; omega)
      · refine J_iconst 37 0 rfl dX11_expects_36 ic_0 ?_
        refine J_goto 41 (by decide) dX11_expects_37 ?_
        refine J_iadd 42 rfl dX11_expects_41 ?_
        refine p_X11_place0 45 rfl dX11_expects_42 lkX11_259 ?_
        rw [mst_20]
        refine J_vret rfl dX11_expects_45 ?_
        first
          | (have e1 : wL s n c w p = 1 := by omega
             rw [e1]; unfold pL; rw [if_pos rfl]; exact ⟨rfl, rfl⟩)
          | (have e1 : wL s n c w p = 0 := by omega
             rw [e1]; unfold pL; rw [if_neg (by omega)]; exact ⟨rfl, rfl⟩)
          | (exfalso; omega)
    · refine J_iconst 17 1 rfl dX11_expects_16 ic_1 ?_
      refine J_goto 21 (by decide) dX11_expects_17 ?_
      refine p_X11_isWrong 24 (by omega) rfl dX11_expects_21 lkX11_265 ?_
      rw [mst_22]
      refine J_aload_n 25 rfl dX11_expects_24 rfl ?_
      refine J_dup 26 rfl dX11_expects_25 rfl ?_
      refine g_X11_place0 29 rfl dX11_expects_26 lkX11_259 ?_
      refine J_cv (b := p) mst_p ?_
      refine J_aload_n 30 rfl dX11_expects_29 rfl ?_
      refine g_X11_isWrong 33 rfl dX11_expects_30 lkX11_265 ?_
      refine J_cv (b := wL s n c w p) (by rw [mst_w]; omega) ?_
      refine J_if_eq 40 36 (by decide) rfl dX11_expects_33 (by omega) (fun c33 => ?_) (fun c33 => ?_)
      · refine J_iconst 41 1 rfl dX11_expects_40 ic_1 ?_
        refine J_iadd 42 rfl dX11_expects_41 ?_
        refine p_X11_place0 45 rfl dX11_expects_42 lkX11_259 ?_
        rw [mst_20]
        refine J_vret rfl dX11_expects_45 ?_
        first
          | (have e1 : wL s n c w p = 1 := by omega
             rw [e1]; unfold pL; rw [if_pos rfl]; exact ⟨rfl, rfl⟩)
          | (have e1 : wL s n c w p = 0 := by omega
             rw [e1]; unfold pL; rw [if_neg (by omega)]; exact ⟨rfl, rfl⟩)
          | (exfalso; omega)
      · refine J_iconst 37 0 rfl dX11_expects_36 ic_0 ?_
        refine J_goto 41 (by decide) dX11_expects_37 ?_
        refine J_iadd 42 rfl dX11_expects_41 ?_
        refine p_X11_place0 45 rfl dX11_expects_42 lkX11_259 ?_
        rw [mst_20]
        refine J_vret rfl dX11_expects_45 ?_
        first
          | (have e1 : wL s n c w p = 1 := by omega
             rw [e1]; unfold pL; rw [if_pos rfl]; exact ⟨rfl, rfl⟩)
          | (have e1 : wL s n c w p = 0 := by omega
             rw [e1]; unfold pL; rw [if_neg (by omega)]; exact ⟨rfl, rfl⟩)
          | (exfalso; omega)

theorem S_X11_digit {g : Gn} {J : DJ} {s : Nat → Nat} {n w p : Nat} (t : TM J s n) (hw : w ≤ 1) (hl : p ≤ n) : SJ g mX11_digit 2 0 0 [.ref (g.2 351)] (mst J w p) (Rp (vD s n w p) (fun J2 => J2 = mst J (wD s n w p) (pL (wD s n w p) p 1))) NoX := by
  have tn := t.2.2.1
  have hf := hr_f (p := p) t.2.2.2
  have wle := wD_le (s := s) (n := n) (w := w) (p := p)
  have wf1 : (w = 1 ∨ ¬ (p < n ∧ (48 ≤ s p ∧ s p ≤ 57))) → wD s n w p = 1 := fun h => if_pos h
  have wf0 : ¬ (w = 1 ∨ ¬ (p < n ∧ (48 ≤ s p ∧ s p ≤ 57))) → wD s n w p = 0 := fun h => if_neg h
  refine SJ_of_VJ (by decide +kernel) (Nat.le_of_ble_eq_true rfl) ?_
  show VJ g mX11_digit 2 0 0 _ _ 0 [(0, .ref (g.2 351))] [] (mst J w p)
  refine J_aload_n 1 rfl dX11_digit_0 rfl ?_
  refine J_aload_n 2 rfl dX11_digit_1 rfl ?_
  refine g_X11_isWrong 5 rfl dX11_digit_2 lkX11_265 ?_
  refine J_cv (b := w) mst_w ?_
  refine J_if_ne 25 8 (by decide) rfl dX11_digit_5 (by omega) (fun c5 => ?_) (fun c5 => ?_)
  · refine J_iconst 26 1 rfl dX11_digit_25 ic_1 ?_
    refine J_goto 30 (by decide) dX11_digit_26 ?_
    refine p_X11_isWrong 33 (by omega) rfl dX11_digit_30 lkX11_265 ?_
    rw [mst_22]
    refine J_aload_n 34 rfl dX11_digit_33 rfl ?_
    refine g_X11_isWrong 37 rfl dX11_digit_34 lkX11_265 ?_
    refine J_cv (b := wD s n w p) (by rw [mst_w]; omega) ?_
    refine J_if_eq 44 40 (by decide) rfl dX11_digit_37 (by omega) (fun c37 => ?_) (fun c37 => ?_)
    · refine J_aload_n 45 rfl dX11_digit_44 rfl ?_
      refine J_callVi (As := []) 48 _ rfl kalX11_here lkX11_269 dX11_digit_45 (lt_X11) (so_X11) rfl rfl rfl (by exact Nat.le_of_ble_eq_true rfl) (by omega) (S_X11_here t.mst mst_p (by omega)) ?_
      refine J_bipush 50 48 rfl dX11_digit_48 bc_48 ?_
      refine J_isub 51 rfl dX11_digit_50 (by omega) ?_
      refine J_istore_n 52 rfl dX11_digit_51 rfl (Nat.le_of_ble_eq_true rfl) ?_
      refine J_aload_n 53 rfl dX11_digit_52 rfl ?_
      refine J_dup 54 rfl dX11_digit_53 rfl ?_
      refine g_X11_place0 57 rfl dX11_digit_54 lkX11_259 ?_
      refine J_cv (b := p) mst_p ?_
      refine J_aload_n 58 rfl dX11_digit_57 rfl ?_
      refine g_X11_isWrong 61 rfl dX11_digit_58 lkX11_265 ?_
      refine J_cv (b := wD s n w p) (by rw [mst_w]; omega) ?_
      refine J_if_eq 68 64 (by decide) rfl dX11_digit_61 (by omega) (fun c61 => ?_) (fun c61 => ?_)
      · refine J_iconst 69 1 rfl dX11_digit_68 ic_1 ?_
        refine J_iadd 70 rfl dX11_digit_69 ?_
        refine p_X11_place0 73 rfl dX11_digit_70 lkX11_259 ?_
        rw [mst_20]
        refine J_iload_n 74 rfl dX11_digit_73 rfl ?_
        refine J_iret rfl dX11_digit_74 ?_
        first
          | (have e1 : wD s n w p = 1 := by omega
             unfold vD; rw [e1]; unfold pL; rw [if_pos rfl, if_pos rfl]; exact ⟨rfl, rfl⟩)
          | (have e1 : wD s n w p = 0 := by omega
             unfold vD; rw [e1]; unfold pL; rw [if_neg (by omega), if_neg (by omega)]; exact ⟨by rw [(hf.2.1 (by omega)).1], rfl⟩)
          | (exfalso; omega)
      · refine J_iconst 65 0 rfl dX11_digit_64 ic_0 ?_
        refine J_goto 69 (by decide) dX11_digit_65 ?_
        refine J_iadd 70 rfl dX11_digit_69 ?_
        refine p_X11_place0 73 rfl dX11_digit_70 lkX11_259 ?_
        rw [mst_20]
        refine J_iload_n 74 rfl dX11_digit_73 rfl ?_
        refine J_iret rfl dX11_digit_74 ?_
        first
          | (have e1 : wD s n w p = 1 := by omega
             unfold vD; rw [e1]; unfold pL; rw [if_pos rfl, if_pos rfl]; exact ⟨rfl, rfl⟩)
          | (have e1 : wD s n w p = 0 := by omega
             unfold vD; rw [e1]; unfold pL; rw [if_neg (by omega), if_neg (by omega)]; exact ⟨by rw [(hf.2.1 (by omega)).1], rfl⟩)
          | (exfalso; omega)
    · refine J_iconst 41 0 rfl dX11_digit_40 ic_0 ?_
      refine J_goto 51 (by decide) dX11_digit_41 ?_
      refine J_istore_n 52 rfl dX11_digit_51 rfl (Nat.le_of_ble_eq_true rfl) ?_
      refine J_aload_n 53 rfl dX11_digit_52 rfl ?_
      refine J_dup 54 rfl dX11_digit_53 rfl ?_
      refine g_X11_place0 57 rfl dX11_digit_54 lkX11_259 ?_
      refine J_cv (b := p) mst_p ?_
      refine J_aload_n 58 rfl dX11_digit_57 rfl ?_
      refine g_X11_isWrong 61 rfl dX11_digit_58 lkX11_265 ?_
      refine J_cv (b := wD s n w p) (by rw [mst_w]; omega) ?_
      refine J_if_eq 68 64 (by decide) rfl dX11_digit_61 (by omega) (fun c61 => ?_) (fun c61 => ?_)
      · refine J_iconst 69 1 rfl dX11_digit_68 ic_1 ?_
        refine J_iadd 70 rfl dX11_digit_69 ?_
        refine p_X11_place0 73 rfl dX11_digit_70 lkX11_259 ?_
        rw [mst_20]
        refine J_iload_n 74 rfl dX11_digit_73 rfl ?_
        refine J_iret rfl dX11_digit_74 ?_
        first
          | (have e1 : wD s n w p = 1 := by omega
             unfold vD; rw [e1]; unfold pL; rw [if_pos rfl, if_pos rfl]; exact ⟨rfl, rfl⟩)
          | (have e1 : wD s n w p = 0 := by omega
             unfold vD; rw [e1]; unfold pL; rw [if_neg (by omega), if_neg (by omega)]; exact ⟨by rw [(hf.2.1 (by omega)).1], rfl⟩)
          | (exfalso; omega)
      · refine J_iconst 65 0 rfl dX11_digit_64 ic_0 ?_
        refine J_goto 69 (by decide) dX11_digit_65 ?_
        refine J_iadd 70 rfl dX11_digit_69 ?_
        refine p_X11_place0 73 rfl dX11_digit_70 lkX11_259 ?_
        rw [mst_20]
        refine J_iload_n 74 rfl dX11_digit_73 rfl ?_
        refine J_iret rfl dX11_digit_74 ?_
        first
          | (have e1 : wD s n w p = 1 := by omega
             unfold vD; rw [e1]; unfold pL; rw [if_pos rfl, if_pos rfl]; exact ⟨rfl, rfl⟩)
          | (have e1 : wD s n w p = 0 := by omega
             unfold vD; rw [e1]; unfold pL; rw [if_neg (by omega), if_neg (by omega)]; exact ⟨by rw [(hf.2.1 (by omega)).1], rfl⟩)
          | (exfalso; omega)
  · refine J_aload_n 9 rfl dX11_digit_8 rfl ?_
    refine J_callVi (As := []) 12 _ rfl kalX11_here lkX11_269 dX11_digit_9 (lt_X11) (so_X11) rfl rfl rfl (by exact Nat.le_of_ble_eq_true rfl) (by omega) (S_X11_here t.mst mst_p (by omega)) ?_
    refine J_i2l 13 _ rfl dX11_digit_12 rfl ?_
    refine J_ldc2 16 rfl dX11_digit_13 lkX11_190 ?_
    refine J_ldc2 19 rfl dX11_digit_16 lkX11_272 ?_
    refine J_callSi (As := [_, _, _]) 22 rfl kalX11_in lkX11_63 dX11_digit_19 rfl rfl (by exact Nat.le_of_ble_eq_true rfl) (by omega) (S_in_le 48 57 (by decide) (by decide) hf.1 (by omega) (by omega)) ?_
    refine J_ifb_ne (hdp := _) 29 25 (by decide) rfl dX11_digit_22 (fun c22 => ?_) (fun c22 => ?_)
    · refine J_iconst 30 0 rfl dX11_digit_29 ic_0 ?_
      refine p_X11_isWrong 33 (by omega) rfl dX11_digit_30 lkX11_265 ?_
      rw [mst_22]
      refine J_aload_n 34 rfl dX11_digit_33 rfl ?_
      refine g_X11_isWrong 37 rfl dX11_digit_34 lkX11_265 ?_
      refine J_cv (b := wD s n w p) (by rw [mst_w]; omega) ?_
      refine J_if_eq 44 40 (by decide) rfl dX11_digit_37 (by omega) (fun c37 => ?_) (fun c37 => ?_)
      · refine J_aload_n 45 rfl dX11_digit_44 rfl ?_
        refine J_callVi (As := []) 48 _ rfl kalX11_here lkX11_269 dX11_digit_45 (lt_X11) (so_X11) rfl rfl rfl (by exact Nat.le_of_ble_eq_true rfl) (by omega) (S_X11_here t.mst mst_p (by omega)) ?_
        refine J_bipush 50 48 rfl dX11_digit_48 bc_48 ?_
        refine J_isub 51 rfl dX11_digit_50 (by omega) ?_
        refine J_istore_n 52 rfl dX11_digit_51 rfl (Nat.le_of_ble_eq_true rfl) ?_
        refine J_aload_n 53 rfl dX11_digit_52 rfl ?_
        refine J_dup 54 rfl dX11_digit_53 rfl ?_
        refine g_X11_place0 57 rfl dX11_digit_54 lkX11_259 ?_
        refine J_cv (b := p) mst_p ?_
        refine J_aload_n 58 rfl dX11_digit_57 rfl ?_
        refine g_X11_isWrong 61 rfl dX11_digit_58 lkX11_265 ?_
        refine J_cv (b := wD s n w p) (by rw [mst_w]; omega) ?_
        refine J_if_eq 68 64 (by decide) rfl dX11_digit_61 (by omega) (fun c61 => ?_) (fun c61 => ?_)
        · refine J_iconst 69 1 rfl dX11_digit_68 ic_1 ?_
          refine J_iadd 70 rfl dX11_digit_69 ?_
          refine p_X11_place0 73 rfl dX11_digit_70 lkX11_259 ?_
          rw [mst_20]
          refine J_iload_n 74 rfl dX11_digit_73 rfl ?_
          refine J_iret rfl dX11_digit_74 ?_
          first
            | (have e1 : wD s n w p = 1 := by omega
               unfold vD; rw [e1]; unfold pL; rw [if_pos rfl, if_pos rfl]; exact ⟨rfl, rfl⟩)
            | (have e1 : wD s n w p = 0 := by omega
               unfold vD; rw [e1]; unfold pL; rw [if_neg (by omega), if_neg (by omega)]; exact ⟨by rw [(hf.2.1 (by omega)).1], rfl⟩)
            | (exfalso; omega)
        · refine J_iconst 65 0 rfl dX11_digit_64 ic_0 ?_
          refine J_goto 69 (by decide) dX11_digit_65 ?_
          refine J_iadd 70 rfl dX11_digit_69 ?_
          refine p_X11_place0 73 rfl dX11_digit_70 lkX11_259 ?_
          rw [mst_20]
          refine J_iload_n 74 rfl dX11_digit_73 rfl ?_
          refine J_iret rfl dX11_digit_74 ?_
          first
            | (have e1 : wD s n w p = 1 := by omega
               unfold vD; rw [e1]; unfold pL; rw [if_pos rfl, if_pos rfl]; exact ⟨rfl, rfl⟩)
            | (have e1 : wD s n w p = 0 := by omega
               unfold vD; rw [e1]; unfold pL; rw [if_neg (by omega), if_neg (by omega)]; exact ⟨by rw [(hf.2.1 (by omega)).1], rfl⟩)
            | (exfalso; omega)
      · refine J_iconst 41 0 rfl dX11_digit_40 ic_0 ?_
        refine J_goto 51 (by decide) dX11_digit_41 ?_
        refine J_istore_n 52 rfl dX11_digit_51 rfl (Nat.le_of_ble_eq_true rfl) ?_
        refine J_aload_n 53 rfl dX11_digit_52 rfl ?_
        refine J_dup 54 rfl dX11_digit_53 rfl ?_
        refine g_X11_place0 57 rfl dX11_digit_54 lkX11_259 ?_
        refine J_cv (b := p) mst_p ?_
        refine J_aload_n 58 rfl dX11_digit_57 rfl ?_
        refine g_X11_isWrong 61 rfl dX11_digit_58 lkX11_265 ?_
        refine J_cv (b := wD s n w p) (by rw [mst_w]; omega) ?_
        refine J_if_eq 68 64 (by decide) rfl dX11_digit_61 (by omega) (fun c61 => ?_) (fun c61 => ?_)
        · refine J_iconst 69 1 rfl dX11_digit_68 ic_1 ?_
          refine J_iadd 70 rfl dX11_digit_69 ?_
          refine p_X11_place0 73 rfl dX11_digit_70 lkX11_259 ?_
          rw [mst_20]
          refine J_iload_n 74 rfl dX11_digit_73 rfl ?_
          refine J_iret rfl dX11_digit_74 ?_
          first
            | (have e1 : wD s n w p = 1 := by omega
               unfold vD; rw [e1]; unfold pL; rw [if_pos rfl, if_pos rfl]; exact ⟨rfl, rfl⟩)
            | (have e1 : wD s n w p = 0 := by omega
               unfold vD; rw [e1]; unfold pL; rw [if_neg (by omega), if_neg (by omega)]; exact ⟨by rw [(hf.2.1 (by omega)).1], rfl⟩)
            | (exfalso; omega)
        · refine J_iconst 65 0 rfl dX11_digit_64 ic_0 ?_
          refine J_goto 69 (by decide) dX11_digit_65 ?_
          refine J_iadd 70 rfl dX11_digit_69 ?_
          refine p_X11_place0 73 rfl dX11_digit_70 lkX11_259 ?_
          rw [mst_20]
          refine J_iload_n 74 rfl dX11_digit_73 rfl ?_
          refine J_iret rfl dX11_digit_74 ?_
          first
            | (have e1 : wD s n w p = 1 := by omega
               unfold vD; rw [e1]; unfold pL; rw [if_pos rfl, if_pos rfl]; exact ⟨rfl, rfl⟩)
            | (have e1 : wD s n w p = 0 := by omega
               unfold vD; rw [e1]; unfold pL; rw [if_neg (by omega), if_neg (by omega)]; exact ⟨by rw [(hf.2.1 (by omega)).1], rfl⟩)
            | (exfalso; omega)
    · refine J_iconst 26 1 rfl dX11_digit_25 ic_1 ?_
      refine J_goto 30 (by decide) dX11_digit_26 ?_
      refine p_X11_isWrong 33 (by omega) rfl dX11_digit_30 lkX11_265 ?_
      rw [mst_22]
      refine J_aload_n 34 rfl dX11_digit_33 rfl ?_
      refine g_X11_isWrong 37 rfl dX11_digit_34 lkX11_265 ?_
      refine J_cv (b := wD s n w p) (by rw [mst_w]; omega) ?_
      refine J_if_eq 44 40 (by decide) rfl dX11_digit_37 (by omega) (fun c37 => ?_) (fun c37 => ?_)
      · refine J_aload_n 45 rfl dX11_digit_44 rfl ?_
        refine J_callVi (As := []) 48 _ rfl kalX11_here lkX11_269 dX11_digit_45 (lt_X11) (so_X11) rfl rfl rfl (by exact Nat.le_of_ble_eq_true rfl) (by omega) (S_X11_here t.mst mst_p (by omega)) ?_
        refine J_bipush 50 48 rfl dX11_digit_48 bc_48 ?_
        refine J_isub 51 rfl dX11_digit_50 (by omega) ?_
        refine J_istore_n 52 rfl dX11_digit_51 rfl (Nat.le_of_ble_eq_true rfl) ?_
        refine J_aload_n 53 rfl dX11_digit_52 rfl ?_
        refine J_dup 54 rfl dX11_digit_53 rfl ?_
        refine g_X11_place0 57 rfl dX11_digit_54 lkX11_259 ?_
        refine J_cv (b := p) mst_p ?_
        refine J_aload_n 58 rfl dX11_digit_57 rfl ?_
        refine g_X11_isWrong 61 rfl dX11_digit_58 lkX11_265 ?_
        refine J_cv (b := wD s n w p) (by rw [mst_w]; omega) ?_
        refine J_if_eq 68 64 (by decide) rfl dX11_digit_61 (by omega) (fun c61 => ?_) (fun c61 => ?_)
        · refine J_iconst 69 1 rfl dX11_digit_68 ic_1 ?_
          refine J_iadd 70 rfl dX11_digit_69 ?_
          refine p_X11_place0 73 rfl dX11_digit_70 lkX11_259 ?_
          rw [mst_20]
          refine J_iload_n 74 rfl dX11_digit_73 rfl ?_
          refine J_iret rfl dX11_digit_74 ?_
          first
            | (have e1 : wD s n w p = 1 := by omega
               unfold vD; rw [e1]; unfold pL; rw [if_pos rfl, if_pos rfl]; exact ⟨rfl, rfl⟩)
            | (have e1 : wD s n w p = 0 := by omega
               unfold vD; rw [e1]; unfold pL; rw [if_neg (by omega), if_neg (by omega)]; exact ⟨by rw [(hf.2.1 (by omega)).1], rfl⟩)
            | (exfalso; omega)
        · refine J_iconst 65 0 rfl dX11_digit_64 ic_0 ?_
          refine J_goto 69 (by decide) dX11_digit_65 ?_
          refine J_iadd 70 rfl dX11_digit_69 ?_
          refine p_X11_place0 73 rfl dX11_digit_70 lkX11_259 ?_
          rw [mst_20]
          refine J_iload_n 74 rfl dX11_digit_73 rfl ?_
          refine J_iret rfl dX11_digit_74 ?_
          first
            | (have e1 : wD s n w p = 1 := by omega
               unfold vD; rw [e1]; unfold pL; rw [if_pos rfl, if_pos rfl]; exact ⟨rfl, rfl⟩)
            | (have e1 : wD s n w p = 0 := by omega
               unfold vD; rw [e1]; unfold pL; rw [if_neg (by omega), if_neg (by omega)]; exact ⟨by rw [(hf.2.1 (by omega)).1], rfl⟩)
            | (exfalso; omega)
      · refine J_iconst 41 0 rfl dX11_digit_40 ic_0 ?_
        refine J_goto 51 (by decide) dX11_digit_41 ?_
        refine J_istore_n 52 rfl dX11_digit_51 rfl (Nat.le_of_ble_eq_true rfl) ?_
        refine J_aload_n 53 rfl dX11_digit_52 rfl ?_
        refine J_dup 54 rfl dX11_digit_53 rfl ?_
        refine g_X11_place0 57 rfl dX11_digit_54 lkX11_259 ?_
        refine J_cv (b := p) mst_p ?_
        refine J_aload_n 58 rfl dX11_digit_57 rfl ?_
        refine g_X11_isWrong 61 rfl dX11_digit_58 lkX11_265 ?_
        refine J_cv (b := wD s n w p) (by rw [mst_w]; omega) ?_
        refine J_if_eq 68 64 (by decide) rfl dX11_digit_61 (by omega) (fun c61 => ?_) (fun c61 => ?_)
        · refine J_iconst 69 1 rfl dX11_digit_68 ic_1 ?_
          refine J_iadd 70 rfl dX11_digit_69 ?_
          refine p_X11_place0 73 rfl dX11_digit_70 lkX11_259 ?_
          rw [mst_20]
          refine J_iload_n 74 rfl dX11_digit_73 rfl ?_
          refine J_iret rfl dX11_digit_74 ?_
          first
            | (have e1 : wD s n w p = 1 := by omega
               unfold vD; rw [e1]; unfold pL; rw [if_pos rfl, if_pos rfl]; exact ⟨rfl, rfl⟩)
            | (have e1 : wD s n w p = 0 := by omega
               unfold vD; rw [e1]; unfold pL; rw [if_neg (by omega), if_neg (by omega)]; exact ⟨by rw [(hf.2.1 (by omega)).1], rfl⟩)
            | (exfalso; omega)
        · refine J_iconst 65 0 rfl dX11_digit_64 ic_0 ?_
          refine J_goto 69 (by decide) dX11_digit_65 ?_
          refine J_iadd 70 rfl dX11_digit_69 ?_
          refine p_X11_place0 73 rfl dX11_digit_70 lkX11_259 ?_
          rw [mst_20]
          refine J_iload_n 74 rfl dX11_digit_73 rfl ?_
          refine J_iret rfl dX11_digit_74 ?_
          first
            | (have e1 : wD s n w p = 1 := by omega
               unfold vD; rw [e1]; unfold pL; rw [if_pos rfl, if_pos rfl]; exact ⟨rfl, rfl⟩)
            | (have e1 : wD s n w p = 0 := by omega
               unfold vD; rw [e1]; unfold pL; rw [if_neg (by omega), if_neg (by omega)]; exact ⟨by rw [(hf.2.1 (by omega)).1], rfl⟩)
            | (exfalso; omega)

theorem S_X11_number {g : Gn} {J : DJ} {s : Nat → Nat} {n w p : Nat} (t : TM J s n) (hw : w ≤ 1) (hl : p ≤ n) : SJ g mX11_number 3 0 0 [.ref (g.2 351)] (mst J w p) (Rp (vN s n w p) (fun J2 => J2 = mst J (wD s n w p) (pL (wD s n w p) p (nmK s n 1 p)))) NoX := by
  have tn := t.2.2.1
  have hf := hr_f (p := p) t.2.2.2
  have wle := wD_le (s := s) (n := n) (w := w) (p := p)
  obtain ⟨w1, ew⟩ : ∃ w1, w1 = wD s n w p := ⟨_, rfl⟩
  obtain ⟨p1, ep⟩ : ∃ p1, p1 = pL w1 p 1 := ⟨_, rfl⟩
  have pn := (wD_n (s := s) (n := n) (w := w) (p := p) (k := 1) hl).1
  rw [← ew] at wle pn
  rw [← ep] at pn
  have hf1 := hr_f (p := p1) t.2.2.2
  have wf1 : w1 = 0 → dgt s n p ∧ p1 = p + 1 := fun z => by
    refine ⟨?_, by rw [ep, z]; exact if_neg (by omega)⟩
    rw [ew] at z
    unfold wD at z
    split at z
    · omega
    · next q => exact Decidable.byContradiction (fun y => q (Or.inr y))
  refine SJ_of_VJ (by decide +kernel) (Nat.le_of_ble_eq_true rfl) ?_
  show VJ g mX11_number 3 0 0 _ _ 0 [(0, .ref (g.2 351))] [] (mst J w p)
  refine J_aload_n 1 rfl dX11_number_0 rfl ?_
  refine J_callVip (As := []) 4 _ rfl kalX11_digit lkX11_274 dX11_number_1 (lt_X11) (so_X11) rfl rfl rfl (by exact Nat.le_of_ble_eq_true rfl) (by omega) (S_X11_digit t hw hl) (fun J1 q1 => ?_)
  subst q1
  rw [← ew, ← ep]
  refine J_istore_n 5 rfl dX11_number_4 rfl (Nat.le_of_ble_eq_true rfl) ?_
  refine J_aload_n 6 rfl dX11_number_5 rfl ?_
  refine g_X11_isWrong 9 rfl dX11_number_6 lkX11_265 ?_
  refine J_cv (b := w1) mst_w ?_
  refine J_if_ne 41 12 (by decide) rfl dX11_number_9 (by omega) (fun c9 => ?_) (fun c9 => ?_)
  · refine J_iload_n 42 rfl dX11_number_41 rfl ?_
    refine J_iret rfl dX11_number_42 ?_
    first
      | (have z : w1 = 0 := by omega
         have y := wf1 z
         have d1 : dgt s n p1 := by
           have := (hf1.2.1); have := hf1.2.2
           by_cases q : p1 < n
           · have h1 := (hf1.2.1 q).1
             exact ⟨q, by omega⟩
           · have h1 := hf1.2.2 q
             omega
         have d2 : dgt s n (p + 1) := by rw [← y.2]; exact d1
         have wd0 : wD s n 0 p1 = 0 := if_neg (fun x => x.elim (by omega) (fun x => x d1))
         have k2 : nmK s n 1 p = 2 := if_pos ⟨rfl, d2⟩
         have a1 : vD s n w p = s p - 48 := by unfold vD; rw [← ew, if_neg (by omega)]
         have a2 : vD s n w1 p1 = s p1 - 48 := by unfold vD; rw [z, wd0, if_neg (by omega)]
         have a3 : vN s n w p = (s p - 48) * 10 + (s (p + 1) - 48) := by unfold vN nmV; rw [← ew, if_neg (by omega), if_pos ⟨rfl, d2⟩]
         refine ⟨?_, ?_⟩
         · rw [a1, a2, a3, y.2, Nat.mul_comm]
         · rw [z, wd0, k2, y.2]
           rfl)
      | (refine ⟨?_, ?_⟩
         · unfold vD vN
           rw [← ew]
           by_cases z : w1 = 1
           · rw [if_pos z, if_pos z]
           · have y := wf1 (by omega)
             have nd : ¬ dgt s n (p + 1) := by
               rw [← y.2]
               intro d
               have h1 := (hf1.2.1 d.1).1
               have := d.2
               omega
             rw [if_neg z, if_neg z]
             unfold nmV
             rw [if_neg (fun x => nd x.2)]
         · rw [ep]
           unfold pL
           by_cases z : w1 = 1
           · rw [if_pos z, if_pos z]
           · have y := wf1 (by omega)
             have nd : ¬ dgt s n (p + 1) := by
               rw [← y.2]
               intro d
               have h1 := (hf1.2.1 d.1).1
               have := d.2
               omega
             rw [if_neg z, if_neg z]
             unfold nmK
             rw [if_neg (fun x => nd x.2)])
      | (exfalso; omega)
  · refine J_aload_n 13 rfl dX11_number_12 rfl ?_
    refine J_callVi (As := []) 16 _ rfl kalX11_here lkX11_269 dX11_number_13 (lt_X11) (so_X11) rfl rfl rfl (by exact Nat.le_of_ble_eq_true rfl) (by omega) (S_X11_here t.mst mst_p (by omega)) ?_
    refine J_i2l 17 _ rfl dX11_number_16 rfl ?_
    refine J_ldc2 20 rfl dX11_number_17 lkX11_190 ?_
    refine J_ldc2 23 rfl dX11_number_20 lkX11_272 ?_
    refine J_callSi (As := [_, _, _]) 26 rfl kalX11_in lkX11_63 dX11_number_23 rfl rfl (by exact Nat.le_of_ble_eq_true rfl) (by omega) (S_in_le 48 57 (by decide) (by decide) hf1.1 (by omega) (by omega)) ?_
    refine J_ifb_eq (hdp := _) 41 29 (by decide) rfl dX11_number_26 (fun c26 => ?_) (fun c26 => ?_)
    · refine J_iload_n 42 rfl dX11_number_41 rfl ?_
      refine J_iret rfl dX11_number_42 ?_
      first
        | (have z : w1 = 0 := by omega
           have y := wf1 z
           have d1 : dgt s n p1 := by
             have := (hf1.2.1); have := hf1.2.2
             by_cases q : p1 < n
             · have h1 := (hf1.2.1 q).1
               exact ⟨q, by omega⟩
             · have h1 := hf1.2.2 q
               omega
           have d2 : dgt s n (p + 1) := by rw [← y.2]; exact d1
           have wd0 : wD s n 0 p1 = 0 := if_neg (fun x => x.elim (by omega) (fun x => x d1))
           have k2 : nmK s n 1 p = 2 := if_pos ⟨rfl, d2⟩
           have a1 : vD s n w p = s p - 48 := by unfold vD; rw [← ew, if_neg (by omega)]
           have a2 : vD s n w1 p1 = s p1 - 48 := by unfold vD; rw [z, wd0, if_neg (by omega)]
           have a3 : vN s n w p = (s p - 48) * 10 + (s (p + 1) - 48) := by unfold vN nmV; rw [← ew, if_neg (by omega), if_pos ⟨rfl, d2⟩]
           refine ⟨?_, ?_⟩
           · rw [a1, a2, a3, y.2, Nat.mul_comm]
           · rw [z, wd0, k2, y.2]
             rfl)
        | (refine ⟨?_, ?_⟩
           · unfold vD vN
             rw [← ew]
             by_cases z : w1 = 1
             · rw [if_pos z, if_pos z]
             · have y := wf1 (by omega)
               have nd : ¬ dgt s n (p + 1) := by
                 rw [← y.2]
                 intro d
                 have h1 := (hf1.2.1 d.1).1
                 have := d.2
                 omega
               rw [if_neg z, if_neg z]
               unfold nmV
               rw [if_neg (fun x => nd x.2)]
           · rw [ep]
             unfold pL
             by_cases z : w1 = 1
             · rw [if_pos z, if_pos z]
             · have y := wf1 (by omega)
               have nd : ¬ dgt s n (p + 1) := by
                 rw [← y.2]
                 intro d
                 have h1 := (hf1.2.1 d.1).1
                 have := d.2
                 omega
               rw [if_neg z, if_neg z]
               unfold nmK
               rw [if_neg (fun x => nd x.2)])
        | (exfalso; omega)
    · refine J_bipush 31 10 rfl dX11_number_29 bc_10 ?_
      refine J_iload_n 32 rfl dX11_number_31 rfl ?_
      refine J_imul 33 rfl dX11_number_32 ?_
      refine J_aload_n 34 rfl dX11_number_33 rfl ?_
      refine J_callVip (As := []) 37 _ rfl kalX11_digit lkX11_274 dX11_number_34 (lt_X11) (so_X11) rfl rfl rfl (by exact Nat.le_of_ble_eq_true rfl) (by omega) (S_X11_digit t wle pn) (fun J34 q34 => ?_)
      subst q34
      refine J_iadd 38 rfl dX11_number_37 ?_
      refine J_goto 42 (by decide) dX11_number_38 ?_
      refine J_iret rfl dX11_number_42 ?_
      first
        | (have z : w1 = 0 := by omega
           have y := wf1 z
           have d1 : dgt s n p1 := by
             have := (hf1.2.1); have := hf1.2.2
             by_cases q : p1 < n
             · have h1 := (hf1.2.1 q).1
               exact ⟨q, by omega⟩
             · have h1 := hf1.2.2 q
               omega
           have d2 : dgt s n (p + 1) := by rw [← y.2]; exact d1
           have wd0 : wD s n 0 p1 = 0 := if_neg (fun x => x.elim (by omega) (fun x => x d1))
           have k2 : nmK s n 1 p = 2 := if_pos ⟨rfl, d2⟩
           have a1 : vD s n w p = s p - 48 := by unfold vD; rw [← ew, if_neg (by omega)]
           have a2 : vD s n w1 p1 = s p1 - 48 := by unfold vD; rw [z, wd0, if_neg (by omega)]
           have a3 : vN s n w p = (s p - 48) * 10 + (s (p + 1) - 48) := by unfold vN nmV; rw [← ew, if_neg (by omega), if_pos ⟨rfl, d2⟩]
           refine ⟨?_, ?_⟩
           · rw [a1, a2, a3, y.2, Nat.mul_comm]
           · rw [z, wd0, k2, y.2]
             rfl)
        | (refine ⟨?_, ?_⟩
           · unfold vD vN
             rw [← ew]
             by_cases z : w1 = 1
             · rw [if_pos z, if_pos z]
             · have y := wf1 (by omega)
               have nd : ¬ dgt s n (p + 1) := by
                 rw [← y.2]
                 intro d
                 have h1 := (hf1.2.1 d.1).1
                 have := d.2
                 omega
               rw [if_neg z, if_neg z]
               unfold nmV
               rw [if_neg (fun x => nd x.2)]
           · rw [ep]
             unfold pL
             by_cases z : w1 = 1
             · rw [if_pos z, if_pos z]
             · have y := wf1 (by omega)
               have nd : ¬ dgt s n (p + 1) := by
                 rw [← y.2]
                 intro d
                 have h1 := (hf1.2.1 d.1).1
                 have := d.2
                 omega
               rw [if_neg z, if_neg z]
               unfold nmK
               rw [if_neg (fun x => nd x.2)])
        | (exfalso; omega)

theorem S_X11_digitBehind {g : Gn} {J : DJ} {s : Nat → Nat} {n w p : Nat} (t : TM J s n) (hw : w ≤ 1) (hl : p ≤ n) {c : Nat} (hc : c ≤ 126) : SJ g mX11_digitBehind 4 0 0 [.ref (g.2 351), .int (nI (c))] (mst J w p) (Rp (vD s n (wL s n c w p) (pL (wL s n c w p) p 1)) (fun J2 => J2 = mst J (wD s n (wL s n c w p) (pL (wL s n c w p) p 1)) (pL (wD s n (wL s n c w p) (pL (wL s n c w p) p 1)) (pL (wL s n c w p) p 1) 1))) NoX := by
  refine SJ_of_VJ (by decide +kernel) (Nat.le_of_ble_eq_true rfl) ?_
  show VJ g mX11_digitBehind 4 0 0 _ _ 0 [(0, .ref (g.2 351)), (1, .int (nI (c)))] [] (mst J w p)
  refine J_aload_n 1 rfl dX11_digitBehind_0 rfl ?_
  refine J_iload_n 2 rfl dX11_digitBehind_1 rfl ?_
  refine J_callVv (As := [_]) 5 _ rfl kalX11_expects lkX11_277 dX11_digitBehind_2 (lt_X11) (so_X11) rfl rfl rfl (by exact Nat.le_of_ble_eq_true rfl) (by omega) (S_X11_expects t hw hl hc) ?_
  refine J_aload_n 6 rfl dX11_digitBehind_5 rfl ?_
  refine J_callVip (As := []) 9 _ rfl kalX11_digit lkX11_274 dX11_digitBehind_6 (lt_X11) (so_X11) rfl rfl rfl (by exact Nat.le_of_ble_eq_true rfl) (by omega) (S_X11_digit t wL_le (wL_n hl)) (fun J6 q6 => ?_)
  refine J_iret rfl dX11_digitBehind_9 ?_
  exact ⟨rfl, by assumption⟩

theorem S_X11_numberBehind {g : Gn} {J : DJ} {s : Nat → Nat} {n w p : Nat} (t : TM J s n) (hw : w ≤ 1) (hl : p ≤ n) {c : Nat} (hc : c ≤ 126) : SJ g mX11_numberBehind 4 0 0 [.ref (g.2 351), .int (nI (c))] (mst J w p) (Rp (vN s n (wL s n c w p) (pL (wL s n c w p) p 1)) (fun J2 => J2 = mst J (wD s n (wL s n c w p) (pL (wL s n c w p) p 1)) (pL (wD s n (wL s n c w p) (pL (wL s n c w p) p 1)) (pL (wL s n c w p) p 1) (nmK s n 1 (pL (wL s n c w p) p 1))))) NoX := by
  refine SJ_of_VJ (by decide +kernel) (Nat.le_of_ble_eq_true rfl) ?_
  show VJ g mX11_numberBehind 4 0 0 _ _ 0 [(0, .ref (g.2 351)), (1, .int (nI (c)))] [] (mst J w p)
  refine J_aload_n 1 rfl dX11_numberBehind_0 rfl ?_
  refine J_iload_n 2 rfl dX11_numberBehind_1 rfl ?_
  refine J_callVv (As := [_]) 5 _ rfl kalX11_expects lkX11_277 dX11_numberBehind_2 (lt_X11) (so_X11) rfl rfl rfl (by exact Nat.le_of_ble_eq_true rfl) (by omega) (S_X11_expects t hw hl hc) ?_
  refine J_aload_n 6 rfl dX11_numberBehind_5 rfl ?_
  refine J_callVip (As := []) 9 _ rfl kalX11_number lkX11_280 dX11_numberBehind_6 (lt_X11) (so_X11) rfl rfl rfl (by exact Nat.le_of_ble_eq_true rfl) (by omega) (S_X11_number t wL_le (wL_n hl)) (fun J6 q6 => ?_)
  refine J_iret rfl dX11_numberBehind_9 ?_
  exact ⟨rfl, by assumption⟩

