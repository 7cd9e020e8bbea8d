/-! BITS OF SMALL NUMBERS, case by case -/
theorem sh1 : ∀ v, v < 31 → nI 1 <<< (nI v &&& 31) = nI (2 ^ v) := by decide +kernel
theorem and_bit : ∀ v, v < 8 → ∀ x, x < 256 → nI x &&& nI (2 ^ v) = nI (if x.testBit v then 2 ^ v else 0) := by decide +kernel
theorem or_bit : ∀ v, v < 8 → ∀ x, x < 256 → nI x ||| nI (2 ^ v) = nI (x ||| 2 ^ v) ∧ x ||| 2 ^ v < 256 := by decide +kernel
theorem clr_bit : ∀ v, v < 8 → ∀ x, x < 256 → nI x &&& (nI (2 ^ v) ^^^ nI 4294967295) = nI (if x.testBit v then x - 2 ^ v else x) := by decide +kernel
section BITS
variable {g : Gn} {y : MI} {d kc ks : Nat} {Q : Option Value → DJ → Prop} {X : String → DJ → Prop} {pc : Nat} {L : List (Nat × Value)} {st : List Value} {J : DJ}
theorem J_ldcI (pc' n : Nat) {i : Nat} {v : Int32} (hp : pc + 2 = pc') (hd : decode y.2.1 pc = .ok (.ldc i, 2)) (hv : Cond.constant y.1.cls i v ∈ WALL) (e : v = nI n) (h : VJ g y d kc ks Q X pc' L (.int (nI n) :: st) J) : VJ g y d kc ks Q X pc L st J := J_ldc pc' hp hd hv (by rw [e]; exact h)
theorem J_iincM0 (pc' : Nat) {i : Nat} (hp : pc + 3 = pc') (hd : decode y.2.1 pc = .ok (.iinc i (-1), 3)) (hk : lkL L i = some (.int (nI 0))) (hn : i < y.2.2.1) (h : VJ g y d kc ks Q X pc' (stL i (.int (nI 4294967295)) L) st J) : VJ g y d kc ks Q X pc L st J := V_iinc pc' (nI 4294967295) hp hd hk (by decide) hn h
end BITS
