/-! the constants of the code (printed by wip/whole/tools/walk.py) -/
theorem bc_6 : (Int8.ofInt 6).toInt32 = nI 6 := by decide
theorem bc_7 : (Int8.ofInt 7).toInt32 = nI 7 := by decide
theorem bc_8 : (Int8.ofInt 8).toInt32 = nI 8 := by decide
theorem bc_9 : (Int8.ofInt 9).toInt32 = nI 9 := by decide
theorem bc_10 : (Int8.ofInt 10).toInt32 = nI 10 := by decide
theorem bc_11 : (Int8.ofInt 11).toInt32 = nI 11 := by decide
theorem bc_12 : (Int8.ofInt 12).toInt32 = nI 12 := by decide
theorem bc_13 : (Int8.ofInt 13).toInt32 = nI 13 := by decide
theorem bc_14 : (Int8.ofInt 14).toInt32 = nI 14 := by decide
theorem bc_15 : (Int8.ofInt 15).toInt32 = nI 15 := by decide
theorem bc_16 : (Int8.ofInt 16).toInt32 = nI 16 := by decide
theorem bc_17 : (Int8.ofInt 17).toInt32 = nI 17 := by decide
theorem bc_18 : (Int8.ofInt 18).toInt32 = nI 18 := by decide
theorem bc_19 : (Int8.ofInt 19).toInt32 = nI 19 := by decide
theorem bc_20 : (Int8.ofInt 20).toInt32 = nI 20 := by decide
theorem bc_21 : (Int8.ofInt 21).toInt32 = nI 21 := by decide
theorem bc_22 : (Int8.ofInt 22).toInt32 = nI 22 := by decide
theorem bc_23 : (Int8.ofInt 23).toInt32 = nI 23 := by decide
theorem bc_24 : (Int8.ofInt 24).toInt32 = nI 24 := by decide
theorem bc_25 : (Int8.ofInt 25).toInt32 = nI 25 := by decide
theorem bc_26 : (Int8.ofInt 26).toInt32 = nI 26 := by decide
theorem bc_27 : (Int8.ofInt 27).toInt32 = nI 27 := by decide
theorem bc_28 : (Int8.ofInt 28).toInt32 = nI 28 := by decide
theorem bc_29 : (Int8.ofInt 29).toInt32 = nI 29 := by decide
theorem bc_30 : (Int8.ofInt 30).toInt32 = nI 30 := by decide
theorem bc_31 : (Int8.ofInt 31).toInt32 = nI 31 := by decide
theorem bc_32 : (Int8.ofInt 32).toInt32 = nI 32 := by decide
theorem bc_33 : (Int8.ofInt 33).toInt32 = nI 33 := by decide
theorem bc_34 : (Int8.ofInt 34).toInt32 = nI 34 := by decide
theorem bc_35 : (Int8.ofInt 35).toInt32 = nI 35 := by decide
theorem bc_36 : (Int8.ofInt 36).toInt32 = nI 36 := by decide
theorem bc_37 : (Int8.ofInt 37).toInt32 = nI 37 := by decide
theorem bc_38 : (Int8.ofInt 38).toInt32 = nI 38 := by decide
theorem bc_39 : (Int8.ofInt 39).toInt32 = nI 39 := by decide
theorem bc_40 : (Int8.ofInt 40).toInt32 = nI 40 := by decide
theorem bc_41 : (Int8.ofInt 41).toInt32 = nI 41 := by decide
theorem bc_42 : (Int8.ofInt 42).toInt32 = nI 42 := by decide
theorem bc_43 : (Int8.ofInt 43).toInt32 = nI 43 := by decide
theorem bc_44 : (Int8.ofInt 44).toInt32 = nI 44 := by decide
theorem bc_45 : (Int8.ofInt 45).toInt32 = nI 45 := by decide
theorem bc_46 : (Int8.ofInt 46).toInt32 = nI 46 := by decide
theorem bc_47 : (Int8.ofInt 47).toInt32 = nI 47 := by decide
theorem bc_48 : (Int8.ofInt 48).toInt32 = nI 48 := by decide
theorem bc_49 : (Int8.ofInt 49).toInt32 = nI 49 := by decide
theorem bc_50 : (Int8.ofInt 50).toInt32 = nI 50 := by decide
theorem bc_51 : (Int8.ofInt 51).toInt32 = nI 51 := by decide
theorem bc_52 : (Int8.ofInt 52).toInt32 = nI 52 := by decide
theorem bc_53 : (Int8.ofInt 53).toInt32 = nI 53 := by decide
theorem bc_54 : (Int8.ofInt 54).toInt32 = nI 54 := by decide
theorem bc_55 : (Int8.ofInt 55).toInt32 = nI 55 := by decide
theorem bc_56 : (Int8.ofInt 56).toInt32 = nI 56 := by decide
theorem bc_57 : (Int8.ofInt 57).toInt32 = nI 57 := by decide
theorem bc_58 : (Int8.ofInt 58).toInt32 = nI 58 := by decide
theorem bc_59 : (Int8.ofInt 59).toInt32 = nI 59 := by decide
theorem bc_60 : (Int8.ofInt 60).toInt32 = nI 60 := by decide
theorem bc_61 : (Int8.ofInt 61).toInt32 = nI 61 := by decide
theorem bc_63 : (Int8.ofInt 63).toInt32 = nI 63 := by decide
theorem bc_64 : (Int8.ofInt 64).toInt32 = nI 64 := by decide
theorem bc_97 : (Int8.ofInt 97).toInt32 = nI 97 := by decide
theorem bc_98 : (Int8.ofInt 98).toInt32 = nI 98 := by decide
theorem bc_99 : (Int8.ofInt 99).toInt32 = nI 99 := by decide
theorem bc_100 : (Int8.ofInt 100).toInt32 = nI 100 := by decide
theorem bc_101 : (Int8.ofInt 101).toInt32 = nI 101 := by decide
theorem bc_102 : (Int8.ofInt 102).toInt32 = nI 102 := by decide
theorem bc_103 : (Int8.ofInt 103).toInt32 = nI 103 := by decide
theorem bc_105 : (Int8.ofInt 105).toInt32 = nI 105 := by decide
theorem bc_107 : (Int8.ofInt 107).toInt32 = nI 107 := by decide
theorem bc_108 : (Int8.ofInt 108).toInt32 = nI 108 := by decide
theorem bc_109 : (Int8.ofInt 109).toInt32 = nI 109 := by decide
theorem bc_110 : (Int8.ofInt 110).toInt32 = nI 110 := by decide
theorem bc_111 : (Int8.ofInt 111).toInt32 = nI 111 := by decide
theorem bc_112 : (Int8.ofInt 112).toInt32 = nI 112 := by decide
theorem bc_114 : (Int8.ofInt 114).toInt32 = nI 114 := by decide
theorem bc_115 : (Int8.ofInt 115).toInt32 = nI 115 := by decide
theorem bc_116 : (Int8.ofInt 116).toInt32 = nI 116 := by decide
theorem bc_117 : (Int8.ofInt 117).toInt32 = nI 117 := by decide
theorem bc_119 : (Int8.ofInt 119).toInt32 = nI 119 := by decide
theorem bc_121 : (Int8.ofInt 121).toInt32 = nI 121 := by decide
theorem bc_126 : (Int8.ofInt 126).toInt32 = nI 126 := by decide
theorem ic_m1 : Int32.ofInt (-1) = nI 4294967295 := by decide
theorem ic_0 : Int32.ofInt 0 = nI 0 := by decide
theorem ic_1 : Int32.ofInt 1 = nI 1 := by decide
theorem ic_2 : Int32.ofInt 2 = nI 2 := by decide
theorem ic_3 : Int32.ofInt 3 = nI 3 := by decide
theorem ic_4 : Int32.ofInt 4 = nI 4 := by decide
theorem ic_5 : Int32.ofInt 5 = nI 5 := by decide
theorem sc_215 : (Int16.ofInt 215).toInt32 = nI 215 := by decide
theorem sc_221 : (Int16.ofInt 221).toInt32 = nI 221 := by decide
theorem sc_242 : (Int16.ofInt 242).toInt32 = nI 242 := by decide
theorem sc_244 : (Int16.ofInt 244).toInt32 = nI 244 := by decide
theorem sc_245 : (Int16.ofInt 245).toInt32 = nI 245 := by decide
theorem sc_255 : (Int16.ofInt 255).toInt32 = nI 255 := by decide
theorem sc_256 : (Int16.ofInt 256).toInt32 = nI 256 := by decide
theorem sc_267 : (Int16.ofInt 267).toInt32 = nI 267 := by decide
theorem sc_269 : (Int16.ofInt 269).toInt32 = nI 269 := by decide
theorem sc_500 : (Int16.ofInt 500).toInt32 = nI 500 := by decide
theorem sc_512 : (Int16.ofInt 512).toInt32 = nI 512 := by decide
theorem sc_576 : (Int16.ofInt 576).toInt32 = nI 576 := by decide
theorem sc_999 : (Int16.ofInt 999).toInt32 = nI 999 := by decide
theorem sc_1883 : (Int16.ofInt 1883).toInt32 = nI 1883 := by decide
theorem sc_2048 : (Int16.ofInt 2048).toInt32 = nI 2048 := by decide
theorem sc_2152 : (Int16.ofInt 2152).toInt32 = nI 2152 := by decide
theorem sc_9999 : (Int16.ofInt 9999).toInt32 = nI 9999 := by decide
section JCV
variable {g : Gn} {y : MI} {d kc ks : Nat} {Q : Option Value → DJ → Prop} {X : String → DJ → Prop} {pc : Nat} {L : List (Nat × Value)} {st : List Value} {J : DJ}
theorem J_cv {a b : Nat} (h : a = b) (k : VJ g y d kc ks Q X pc L (.int (nI b) :: st) J) : VJ g y d kc ks Q X pc L (.int (nI a) :: st) J := by rw [h]; exact k
theorem J_icmpR_eq (tgt pc' : Nat) {x z : Int32} {off : Int} (ht : (pc : Int) + off = (tgt : Int)) (hp : pc + 3 = pc') (hd : decode y.2.1 pc = .ok (.if_icmp .eq off, 3)) (kt : x = z → VJ g y d kc ks Q X tgt L st J) (kf : ¬ (x = z) → VJ g y d kc ks Q X pc' L st J) : VJ g y d kc ks Q X pc L (.int z :: .int x :: st) J := V_icmp_eq tgt pc' ht hp hd kt kf
theorem J_ifR_eq (tgt pc' : Nat) {x : Int32} {off : Int} (ht : (pc : Int) + off = (tgt : Int)) (hp : pc + 3 = pc') (hd : decode y.2.1 pc = .ok (.ifCond .eq off, 3)) (kt : x = 0 → VJ g y d kc ks Q X tgt L st J) (kf : ¬ (x = 0) → VJ g y d kc ks Q X pc' L st J) : VJ g y d kc ks Q X pc L (.int x :: st) J := V_if_eq tgt pc' ht hp hd kt kf
theorem J_icmpR_ne (tgt pc' : Nat) {x z : Int32} {off : Int} (ht : (pc : Int) + off = (tgt : Int)) (hp : pc + 3 = pc') (hd : decode y.2.1 pc = .ok (.if_icmp .ne off, 3)) (kt : ¬ x = z → VJ g y d kc ks Q X tgt L st J) (kf : x = z → VJ g y d kc ks Q X pc' L st J) : VJ g y d kc ks Q X pc L (.int z :: .int x :: st) J := V_icmp_ne tgt pc' ht hp hd kt kf
theorem J_ifR_ne (tgt pc' : Nat) {x : Int32} {off : Int} (ht : (pc : Int) + off = (tgt : Int)) (hp : pc + 3 = pc') (hd : decode y.2.1 pc = .ok (.ifCond .ne off, 3)) (kt : ¬ x = 0 → VJ g y d kc ks Q X tgt L st J) (kf : x = 0 → VJ g y d kc ks Q X pc' L st J) : VJ g y d kc ks Q X pc L (.int x :: st) J := V_if_ne tgt pc' ht hp hd kt kf
theorem J_icmpR_lt (tgt pc' : Nat) {x z : Int32} {off : Int} (ht : (pc : Int) + off = (tgt : Int)) (hp : pc + 3 = pc') (hd : decode y.2.1 pc = .ok (.if_icmp .lt off, 3)) (kt : x < z → VJ g y d kc ks Q X tgt L st J) (kf : ¬ (x < z) → VJ g y d kc ks Q X pc' L st J) : VJ g y d kc ks Q X pc L (.int z :: .int x :: st) J := V_icmp_lt tgt pc' ht hp hd kt kf
theorem J_ifR_lt (tgt pc' : Nat) {x : Int32} {off : Int} (ht : (pc : Int) + off = (tgt : Int)) (hp : pc + 3 = pc') (hd : decode y.2.1 pc = .ok (.ifCond .lt off, 3)) (kt : x < 0 → VJ g y d kc ks Q X tgt L st J) (kf : ¬ (x < 0) → VJ g y d kc ks Q X pc' L st J) : VJ g y d kc ks Q X pc L (.int x :: st) J := V_if_lt tgt pc' ht hp hd kt kf
theorem J_icmpR_ge (tgt pc' : Nat) {x z : Int32} {off : Int} (ht : (pc : Int) + off = (tgt : Int)) (hp : pc + 3 = pc') (hd : decode y.2.1 pc = .ok (.if_icmp .ge off, 3)) (kt : z ≤ x → VJ g y d kc ks Q X tgt L st J) (kf : ¬ (z ≤ x) → VJ g y d kc ks Q X pc' L st J) : VJ g y d kc ks Q X pc L (.int z :: .int x :: st) J := V_icmp_ge tgt pc' ht hp hd kt kf
theorem J_ifR_ge (tgt pc' : Nat) {x : Int32} {off : Int} (ht : (pc : Int) + off = (tgt : Int)) (hp : pc + 3 = pc') (hd : decode y.2.1 pc = .ok (.ifCond .ge off, 3)) (kt : 0 ≤ x → VJ g y d kc ks Q X tgt L st J) (kf : ¬ (0 ≤ x) → VJ g y d kc ks Q X pc' L st J) : VJ g y d kc ks Q X pc L (.int x :: st) J := V_if_ge tgt pc' ht hp hd kt kf
theorem J_icmpR_gt (tgt pc' : Nat) {x z : Int32} {off : Int} (ht : (pc : Int) + off = (tgt : Int)) (hp : pc + 3 = pc') (hd : decode y.2.1 pc = .ok (.if_icmp .gt off, 3)) (kt : z < x → VJ g y d kc ks Q X tgt L st J) (kf : ¬ (z < x) → VJ g y d kc ks Q X pc' L st J) : VJ g y d kc ks Q X pc L (.int z :: .int x :: st) J := V_icmp_gt tgt pc' ht hp hd kt kf
theorem J_ifR_gt (tgt pc' : Nat) {x : Int32} {off : Int} (ht : (pc : Int) + off = (tgt : Int)) (hp : pc + 3 = pc') (hd : decode y.2.1 pc = .ok (.ifCond .gt off, 3)) (kt : 0 < x → VJ g y d kc ks Q X tgt L st J) (kf : ¬ (0 < x) → VJ g y d kc ks Q X pc' L st J) : VJ g y d kc ks Q X pc L (.int x :: st) J := V_if_gt tgt pc' ht hp hd kt kf
theorem J_icmpR_le (tgt pc' : Nat) {x z : Int32} {off : Int} (ht : (pc : Int) + off = (tgt : Int)) (hp : pc + 3 = pc') (hd : decode y.2.1 pc = .ok (.if_icmp .le off, 3)) (kt : x ≤ z → VJ g y d kc ks Q X tgt L st J) (kf : ¬ (x ≤ z) → VJ g y d kc ks Q X pc' L st J) : VJ g y d kc ks Q X pc L (.int z :: .int x :: st) J := V_icmp_le tgt pc' ht hp hd kt kf
theorem J_ifR_le (tgt pc' : Nat) {x : Int32} {off : Int} (ht : (pc : Int) + off = (tgt : Int)) (hp : pc + 3 = pc') (hd : decode y.2.1 pc = .ok (.ifCond .le off, 3)) (kt : x ≤ 0 → VJ g y d kc ks Q X tgt L st J) (kf : ¬ (x ≤ 0) → VJ g y d kc ks Q X pc' L st J) : VJ g y d kc ks Q X pc L (.int x :: st) J := V_if_le tgt pc' ht hp hd kt kf
def keepL (ks : List Nat) (L : List (Nat × Value)) : List (Nat × Value) := match ks with
  | [] => []
  | i :: t => match lkL L i with
    | some v => (i, v) :: keepL t L
    | none => keepL t L
theorem keepL_mem {L : List (Nat × Value)} : ∀ (ks : List Nat) (q : Nat × Value), q ∈ keepL ks L → q ∈ L
  | [], q, h => by cases h
  | i :: t, q, h => by
    unfold keepL at h
    cases hb : lkL L i with
    | none => rw [hb] at h; exact keepL_mem t q h
    | some v =>
      rw [hb] at h
      rcases List.mem_cons.mp h with e | e
      · rw [e]; exact lkL_mem L i v hb
      · exact keepL_mem t q e
theorem V_keep {u : Un} {ws : va_W} {Q : Option Value → va_W → Prop} {X : String → va_W → Prop} (is : List Nat) (k : V u y d kc ks Q X pc (keepL is L) st ws) : V u y d kc ks Q X pc L st ws := by
  intro p e R s m args below meth c H locs cells slots ls C q1 q2 q3 q4 hw hS hl
  exact k p e R s m args below meth c H locs cells slots ls C q1 q2 q3 q4 hw hS ⟨hl.1, hl.2.1, fun q hq => hl.2.2 q (keepL_mem is q hq)⟩
/-- only these locals are still known -/
theorem J_keep (is : List Nat) (k : VJ g y d kc ks Q X pc (keepL is L) st J) : VJ g y d kc ks Q X pc L st J := V_keep is k
theorem J_mabsR (pc' : Nat) {idx : Nat} {x : Int32} (hp : pc + 3 = pc') (hd : decode y.2.1 pc = .ok (.invokestatic idx, 3)) (hl0 : Cond.methodLink y.1.cls idx Lib.Math.abs.name ∈ WALL) (hcat : (st.map fun v => v.category).sum ≤ 8) (hdd : 1 ≤ d) (h : VJ g y d kc ks Q X pc' L (.int (if 0 ≤ x then x else 0 - x) :: st) J) : VJ g y d kc ks Q X pc L (.int x :: st) J := V_mabs pc' hp hd hl0 lk_absS lk_mathI lk_absC hcat hdd h
/-- |a - b| -/
theorem abs_sub {a b : Nat} (ha : a < 1073741824) (hb : b < 1073741824) : (if (0 : Int32) ≤ nI a - nI b then nI a - nI b else 0 - (nI a - nI b)) = nI (max a b - min a b) := by
  have e := pk_sub_toInt ha hb
  by_cases q : b ≤ a
  · have h0 : (0 : Int32) ≤ nI a - nI b := by
      rw [Int32.le_iff_toInt_le, e]
      show (0 : Int) ≤ _
      omega
    rw [if_pos h0, pk_sub q, Nat.max_eq_left q, Nat.min_eq_right q]
  · have h0 : ¬ (0 : Int32) ≤ nI a - nI b := by
      rw [Int32.le_iff_toInt_le, e]
      show ¬ (0 : Int) ≤ _
      omega
    rw [if_neg h0, Nat.max_eq_right (by omega), Nat.min_eq_left (by omega), ← pk_sub (by omega : a ≤ b)]
    rw [Int32.zero_sub, Int32.neg_sub]
theorem J_mabs (pc' : Nat) {idx a b : Nat} (hp : pc + 3 = pc') (hd : decode y.2.1 pc = .ok (.invokestatic idx, 3)) (hl0 : Cond.methodLink y.1.cls idx Lib.Math.abs.name ∈ WALL) (hcat : (st.map fun v => v.category).sum ≤ 8) (hdd : 1 ≤ d) (hab : a < 1073741824 ∧ b < 1073741824) (h : VJ g y d kc ks Q X pc' L (.int (nI (max a b - min a b)) :: st) J) : VJ g y d kc ks Q X pc L (.int (nI a - nI b) :: st) J := by
  refine J_mabsR pc' hp hd hl0 hcat hdd ?_
  rw [abs_sub hab.1 hab.2]
  exact h
/-- signed order of any ints against small ones -/
theorem nI_leS {n c : Nat} (hn : n < 4294967296) (hc : c < 2147483648) : nI c ≤ nI n ↔ n < 2147483648 ∧ c ≤ n := by
  by_cases h : n < 2147483648
  · rw [nI_leI hc h]; omega
  · have e : (nI n).toInt = (n : Int) - 4294967296 := by
      show (nI n).toBitVec.toInt = _
      rw [BitVec.toInt_eq_toNat_cond, pk_tn hn]
      rw [if_neg (by omega)]
      rfl
    have e2 : (nI c).toInt = (c : Int) := nI_toInt hc
    rw [Int32.le_iff_toInt_le, e, e2]
    omega
theorem nI_ltS {n c : Nat} (hn : n < 4294967296) (hc : c < 2147483648) : nI n < nI c ↔ ¬ (n < 2147483648 ∧ c ≤ n) := by
  rw [← nI_leS hn hc]
  exact ⟨fun h => Int32.not_le.mpr h, fun h => Int32.not_le.mp h⟩
theorem J_icmp_ltS (tgt pc' : Nat) {a b : Nat} {off : Int} (ht : (pc : Int) + off = (tgt : Int)) (hp : pc + 3 = pc') (hd : decode y.2.1 pc = .ok (.if_icmp .lt off, 3)) (ha : a < 4294967296) (hb : b < 2147483648) (kt : ¬ (a < 2147483648 ∧ b ≤ a) → VJ g y d kc ks Q X tgt L st J) (kf : a < 2147483648 ∧ b ≤ a → VJ g y d kc ks Q X pc' L st J) : VJ g y d kc ks Q X pc L (.int (nI b) :: .int (nI a) :: st) J := V_icmp_lt tgt pc' ht hp hd (fun h => kt ((nI_ltS ha hb).mp h)) (fun h => kf (by
  have q := fun z => h ((nI_ltS ha hb).mpr z)
  exact Classical.byContradiction q))
end JCV
