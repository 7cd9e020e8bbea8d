/-! ONE CELL'S ROW AS A FUNCTION -/
def sR (J : DJ) (k : Nat) (r : Nat → Nat) : DJ := fun k' => if k' = k then r else J k'
theorem sR_app (J : DJ) (k : Nat) (r : Nat → Nat) (c : Nat) : sR J k r c = if c = k then r else J c := rfl
theorem sR_at {J : DJ} {k : Nat} {r : Nat → Nat} : sR J k r k = r := if_pos rfl
theorem sR_ne {J : DJ} {k c : Nat} {r : Nat → Nat} (h : c ≠ k) : sR J k r c = J c := if_neg h
theorem sR_id {J : DJ} {k : Nat} : sR J k (J k) = J := by
  funext c
  rw [sR_app]
  split
  · next h => rw [h]
  · rfl
theorem sR_sR {J : DJ} {k : Nat} {r r2 : Nat → Nat} : sR (sR J k r) k r2 = sR J k r2 := by
  funext c
  simp only [sR_app]
  split <;> rfl
theorem sR_comm {J : DJ} {k c : Nat} {r r2 : Nat → Nat} (h : k ≠ c) : sR (sR J k r) c r2 = sR (sR J c r2) k r := by
  funext d
  simp only [sR_app]
  by_cases a : d = c
  · subst a
    rw [if_pos rfl, if_neg (fun z => h z.symm), if_pos rfl]
  · rw [if_neg a, if_neg a]
theorem up2_sR (J : DJ) (k i v : Nat) : up2 J k i v = sR J k (up1 (J k) i v) := by
  funext c
  unfold up2 sR up1
  split
  · next h => subst h; rfl
  · rfl
theorem up2_in (J : DJ) (k i v : Nat) (r : Nat → Nat) : up2 (sR J k r) k i v = sR J k (up1 r i v) := by
  rw [up2_sR, sR_at, sR_sR]
theorem up2_out {J : DJ} {k c i v : Nat} {r : Nat → Nat} (h : c ≠ k) : up2 (sR J k r) c i v = sR (up2 J c i v) k r := by
  rw [up2_sR, sR_ne h, sR_comm (fun z => h z.symm), ← up2_sR]
theorem Fr_sR {k n c : Nat} {J J1 : DJ} {r : Nat → Nat} (h1 : Fr k n J J1) (hc : k ≤ c ∧ c < k + n) : Fr k n J (sR J1 c r) := fun c' h => by rw [sR_ne (by omega)]; exact h1 c' h
def swp (w : Nat → Nat) (p q : Nat) : Nat → Nat := up1 (up1 w q (w p)) p (w q)
theorem up2_swp {J : DJ} {k p q : Nat} : up2 (up2 J k q (J k p)) k p (J k q) = sR J k (swp (J k) p q) := by
  rw [up2_sR J k q (J k p), up2_in]
  rfl
theorem swp_back {w : Nat → Nat} {p q : Nat} : up1 (up1 (swp w p q) p (swp w p q q)) q (w q) = w := by
  funext j
  unfold swp
  simp only [up1_app]
  by_cases a : j = q
  · subst a; simp
  · rw [if_neg a]
    by_cases b : j = p
    · subst b
      have a2 : ¬ q = j := fun z => a z.symm
      simp [a2]
    · simp [a, b]
/-- the counting of firing orders -/
def eoS (n ev : Nat) (T : Nat → Nat) (S l x : Nat) : Nat → Nat := if S.testBit x = false ∧ ev ≤ dist l x n then up1 T ((S ||| 2 ^ x) * 8 + x) (T ((S ||| 2 ^ x) * 8 + x) + T (S * 8 + l)) else T
def eoX (n ev : Nat) (T : Nat → Nat) (S l : Nat) : Nat → Nat → Nat
  | 0 => T
  | k + 1 => eoS n ev (eoX n ev T S l k) S l k
def eoL (n ev : Nat) (T : Nat → Nat) (S : Nat) : Nat → Nat → Nat
  | 0 => T
  | l + 1 => eoX n ev (eoL n ev T S l) S l n
def eoT (n ev : Nat) : Nat → Nat → Nat
  | 0 => fun k => if k = 8 then 1 else 0
  | i + 1 => eoL n ev (eoT n ev i) (2 * i + 1) n
def eoE (n ev : Nat) (T : Nat → Nat) : Nat → Nat := sumN (fun l => if 1 ≤ l ∧ ev ≤ dist l 0 n then T ((2 ^ n - 1) * 8 + l) else 0)
def eoR (n ev : Nat) : Nat := eoE n ev (eoT n ev (2 ^ (n - 1))) n
def cF (n ev : Nat) : Nat → Nat → (Nat → Nat) → Nat
  | 0, p, w => if ev ≤ dist (w (p - 1)) (w 0) n then 1 else 0
  | k + 1, p, w => sumN (fun j => if ev ≤ dist (w (p - 1)) (w (p + j)) n then cF n ev k (p + 1) (swp w p (p + j)) else 0) (n - p)
/-- alike as ints, below a bound -/
def IEq (N : Nat) (T U : Nat → Nat) : Prop := ∀ i, i < N → nI (U i) = nI (T i)
theorem IEq.up {N : Nat} {T U : Nat → Nat} {i a b : Nat} (h : IEq N T U) (e : nI b = nI a) : IEq N (up1 T i a) (up1 U i b) := fun j hj => by
  rw [up1_app, up1_app]
  split
  · exact e
  · exact h j hj
theorem or_lt {n S x : Nat} (hS : S < 2 ^ n) (hx : x < n) : S ||| 2 ^ x < 2 ^ n := Nat.or_lt_two_pow hS (Nat.pow_lt_pow_right (by omega) hx)
theorem or_ne {S x : Nat} (h : S.testBit x = false) : S ||| 2 ^ x ≠ S := fun e => by
  have : (S ||| 2 ^ x).testBit x = true := by rw [Nat.testBit_or, Nat.testBit_two_pow_self, Bool.or_true]
  rw [e, h] at this
  exact absurd this (by decide)
