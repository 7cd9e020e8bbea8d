/-! THE ROWS OVER DATA: numbers are nI of naturals; VJ, SJ: V and Sem over the world of data -/
def VJ (g : Gn) (y : MI) (d kc ks : Nat) (Q : Option Value → DJ → Prop) (X : String → DJ → Prop) (pc : Nat) (L : List (Nat × Value)) (st : List Value) (J : DJ) : Prop :=
  V g.1 y d kc ks (fun v ws => ∃ J', ws = wd g J' ∧ Q v J') (fun E ws => ∃ J', ws = wd g J' ∧ X E J') pc L st (wd g J)
def SJ (g : Gn) (y : MI) (d kc ks : Nat) (av : List Value) (J : DJ) (Q : Option Value → DJ → Prop) (X : String → DJ → Prop) : Prop :=
  Sem g.1 y d kc ks av (wd g J) (fun v ws => ∃ J', ws = wd g J' ∧ Q v J') (fun E ws => ∃ J', ws = wd g J' ∧ X E J')
def NoX : String → DJ → Prop := fun _ _ => False
def Ri (r : Nat) (J0 : DJ) : Option Value → DJ → Prop := fun v J => v = some (.int (nI r)) ∧ J = J0
def Rv (J0 : DJ) : Option Value → DJ → Prop := fun v J => v = none ∧ J = J0
def Rr (a : Nat) (J0 : DJ) : Option Value → DJ → Prop := fun v J => v = some (.ref a) ∧ J = J0
def Xo (E0 : String) (J0 : DJ) : String → DJ → Prop := fun E J => E = E0 ∧ J = J0
/-- a truth value as a number -/
def bt (p : Prop) [Decidable p] : Nat := if p then 1 else 0
theorem nI_eq32 {a b : Nat} (ha : a < 4294967296) (hb : b < 4294967296) : nI a = nI b ↔ a = b := by
  constructor
  · intro h
    have h1 : (nI a).toBitVec.toNat = (nI b).toBitVec.toNat := by rw [h]
    rw [pk_tn ha, pk_tn hb] at h1
    exact h1
  · intro h; rw [h]
theorem nI_zero32 {a : Nat} (ha : a < 4294967296) : nI a = 0 ↔ a = 0 := by
  rw [← nI_0]
  exact nI_eq32 ha (by omega)
theorem nI_m1 : (-1 : Int32) = nI 4294967295 := by decide
theorem nI_pred' {a : Nat} (h : 1 ≤ a) : nI a + (-1) = nI (a - 1) := by
  obtain ⟨b, rfl⟩ : ∃ b, a = b + 1 := ⟨a - 1, by omega⟩
  rw [pk_m1]; rfl
theorem nI_of32 (x : Int32) : ∃ n, n < 4294967296 ∧ x = nI n := by
  refine ⟨x.toBitVec.toNat, x.toBitVec.isLt, ?_⟩
  apply Int32.toBitVec_inj.mp
  apply BitVec.eq_of_toNat_eq
  rw [pk_tn x.toBitVec.isLt]
theorem SJ_of_VJ {g : Gn} {y : MI} {d kc ks : Nat} {av : List Value} {J : DJ} {Q : Option Value → DJ → Prop} {X : String → DJ → Prop} (hy : plainName y.1.cls = true) (hn : (lg_sl av).length ≤ y.2.2.1) (h : VJ g y d kc ks Q X 0 (lv_args 0 av) [] J) : SJ g y d kc ks av J Q X := Sem_of_V hy hn h
theorem SJ.mono {g : Gn} {y : MI} {d kc ks : Nat} {av : List Value} {J : DJ} {Q Q2 : Option Value → DJ → Prop} {X X2 : String → DJ → Prop} (h : SJ g y d kc ks av J Q X) (hQ : ∀ v J', Q v J' → Q2 v J') (hX : ∀ E J', X E J' → X2 E J') : SJ g y d kc ks av J Q2 X2 :=
  Sem.mono h (fun v ws ⟨J', e, q⟩ => ⟨J', e, hQ v J' q⟩) (fun E ws ⟨J', e, q⟩ => ⟨J', e, hX E J' q⟩)
section JROWS
variable {g : Gn} {y : MI} {d kc ks : Nat} {Q : Option Value → DJ → Prop} {X : String → DJ → Prop} {pc : Nat} {L : List (Nat × Value)} {st : List Value} {J : DJ}
theorem J_aload_n (pc' : Nat) {k : Fin 4} {x : Nat} (hp : pc + 1 = pc') (hd : decode y.2.1 pc = .ok (.aload_n k, 1)) (hk : lkL L (k : Nat) = some (.ref x)) (h : VJ g y d kc ks Q X pc' L (.ref x :: st) J) : VJ g y d kc ks Q X pc L st J := V_aload_n pc' hp hd hk h
theorem J_aload (pc' : Nat) {i x : Nat} (hp : pc + 2 = pc') (hd : decode y.2.1 pc = .ok (.aload i, 2)) (hk : lkL L i = some (.ref x)) (h : VJ g y d kc ks Q X pc' L (.ref x :: st) J) : VJ g y d kc ks Q X pc L st J := V_aload pc' hp hd hk h
theorem J_iload_n (pc' : Nat) {k : Fin 4} {x : Int32} (hp : pc + 1 = pc') (hd : decode y.2.1 pc = .ok (.iload_n k, 1)) (hk : lkL L (k : Nat) = some (.int x)) (h : VJ g y d kc ks Q X pc' L (.int x :: st) J) : VJ g y d kc ks Q X pc L st J := V_iload_n pc' hp hd hk h
theorem J_iload (pc' : Nat) {i : Nat} {x : Int32} (hp : pc + 2 = pc') (hd : decode y.2.1 pc = .ok (.iload i, 2)) (hk : lkL L i = some (.int x)) (h : VJ g y d kc ks Q X pc' L (.int x :: st) J) : VJ g y d kc ks Q X pc L st J := V_iload pc' hp hd hk h
theorem J_lload_n (pc' : Nat) {k : Fin 4} {x : Int64} (hp : pc + 1 = pc') (hd : decode y.2.1 pc = .ok (.lload_n k, 1)) (hk : lkL L (k : Nat) = some (.long x)) (h : VJ g y d kc ks Q X pc' L (.long x :: st) J) : VJ g y d kc ks Q X pc L st J := V_lload_n pc' hp hd hk h
theorem J_lload (pc' : Nat) {i : Nat} {x : Int64} (hp : pc + 2 = pc') (hd : decode y.2.1 pc = .ok (.lload i, 2)) (hk : lkL L i = some (.long x)) (h : VJ g y d kc ks Q X pc' L (.long x :: st) J) : VJ g y d kc ks Q X pc L st J := V_lload pc' hp hd hk h
theorem J_istore_n (pc' : Nat) {k0 : Fin 4} {i : Nat} {x : Int32} (hp : pc + 1 = pc') (hd : decode y.2.1 pc = .ok (.istore_n k0, 1)) (hi : (k0 : Nat) = i) (hn : i < y.2.2.1) (h : VJ g y d kc ks Q X pc' (stL i (.int x) L) st J) : VJ g y d kc ks Q X pc L (.int x :: st) J := V_istore_n pc' hp hd hi hn h
theorem J_istore (pc' : Nat) {i : Nat} {x : Int32} (hp : pc + 2 = pc') (hd : decode y.2.1 pc = .ok (.istore i, 2)) (hn : i < y.2.2.1) (h : VJ g y d kc ks Q X pc' (stL i (.int x) L) st J) : VJ g y d kc ks Q X pc L (.int x :: st) J := V_istore pc' hp hd hn h
theorem J_astore_n (pc' : Nat) {k0 : Fin 4} {i : Nat} {x : Nat} (hp : pc + 1 = pc') (hd : decode y.2.1 pc = .ok (.astore_n k0, 1)) (hi : (k0 : Nat) = i) (hn : i < y.2.2.1) (h : VJ g y d kc ks Q X pc' (stL i (.ref x) L) st J) : VJ g y d kc ks Q X pc L (.ref x :: st) J := V_astore_n pc' hp hd hi hn h
theorem J_astore (pc' : Nat) {i : Nat} {x : Nat} (hp : pc + 2 = pc') (hd : decode y.2.1 pc = .ok (.astore i, 2)) (hn : i < y.2.2.1) (h : VJ g y d kc ks Q X pc' (stL i (.ref x) L) st J) : VJ g y d kc ks Q X pc L (.ref x :: st) J := V_astore pc' hp hd hn h
theorem J_iinc (pc' : Nat) {i a : Nat} {z : Int} (n : Nat) (hp : pc + 3 = pc') (hd : decode y.2.1 pc = .ok (.iinc i z, 3)) (hz : Int32.ofInt z = nI n) (hk : lkL L i = some (.int (nI a))) (hn : i < y.2.2.1) (h : VJ g y d kc ks Q X pc' (stL i (.int (nI (a + n))) L) st J) : VJ g y d kc ks Q X pc L st J := V_iinc pc' (nI (a + n)) hp hd hk (by rw [hz, nI_add]) hn h
theorem J_iincM (pc' : Nat) {i a : Nat} (hp : pc + 3 = pc') (hd : decode y.2.1 pc = .ok (.iinc i (-1), 3)) (hk : lkL L i = some (.int (nI a))) (hn : i < y.2.2.1) (ha : 1 ≤ a) (h : VJ g y d kc ks Q X pc' (stL i (.int (nI (a - 1))) L) st J) : VJ g y d kc ks Q X pc L st J := V_iinc pc' (nI (a - 1)) hp hd hk (nI_pred' ha) hn h
theorem J_iconst (pc' : Nat) {z : Int} (n : Nat) (hp : pc + 1 = pc') (hd : decode y.2.1 pc = .ok (.iconst z, 1)) (hz : Int32.ofInt z = nI n) (h : VJ g y d kc ks Q X pc' L (.int (nI n) :: st) J) : VJ g y d kc ks Q X pc L st J := V_iconst pc' _ hp hd hz h
theorem J_bipush (pc' : Nat) {z : Int} (n : Nat) (hp : pc + 2 = pc') (hd : decode y.2.1 pc = .ok (.bipush z, 2)) (hz : (Int8.ofInt z).toInt32 = nI n) (h : VJ g y d kc ks Q X pc' L (.int (nI n) :: st) J) : VJ g y d kc ks Q X pc L st J := V_bipush pc' _ hp hd hz h
theorem J_sipush (pc' : Nat) {z : Int} (n : Nat) (hp : pc + 3 = pc') (hd : decode y.2.1 pc = .ok (.sipush z, 3)) (hz : (Int16.ofInt z).toInt32 = nI n) (h : VJ g y d kc ks Q X pc' L (.int (nI n) :: st) J) : VJ g y d kc ks Q X pc L st J := V_sipush pc' _ hp hd hz h
theorem J_lconst (pc' : Nat) {n : Fin 2} (v : Int64) (hp : pc + 1 = pc') (hd : decode y.2.1 pc = .ok (.lconst n, 1)) (hv : Int64.ofNat (n : Nat) = v) (h : VJ g y d kc ks Q X pc' L (.long v :: st) J) : VJ g y d kc ks Q X pc L st J := V_lconst pc' v hp hd hv h
theorem J_ldc2 (pc' : Nat) {i : Nat} {v : Int64} (hp : pc + 3 = pc') (hd : decode y.2.1 pc = .ok (.ldc2_w i, 3)) (hv : Cond.constantLong y.1.cls i v ∈ WALL) (h : VJ g y d kc ks Q X pc' L (.long v :: st) J) : VJ g y d kc ks Q X pc L st J := V_ldc2 pc' hp hd hv h
theorem J_ldc (pc' : Nat) {i : Nat} {v : Int32} (hp : pc + 2 = pc') (hd : decode y.2.1 pc = .ok (.ldc i, 2)) (hv : Cond.constant y.1.cls i v ∈ WALL) (h : VJ g y d kc ks Q X pc' L (.int v :: st) J) : VJ g y d kc ks Q X pc L st J := V_ldc pc' hp hd hv h
theorem J_iadd (pc' : Nat) {a b : Nat} (hp : pc + 1 = pc') (hd : decode y.2.1 pc = .ok (.iadd, 1)) (h : VJ g y d kc ks Q X pc' L (.int (nI (a + b)) :: st) J) : VJ g y d kc ks Q X pc L (.int (nI b) :: .int (nI a) :: st) J := V_iadd pc' hp hd (by rw [nI_add]; exact h)
theorem J_isub (pc' : Nat) {a b : Nat} (hp : pc + 1 = pc') (hd : decode y.2.1 pc = .ok (.isub, 1)) (hab : b ≤ a) (h : VJ g y d kc ks Q X pc' L (.int (nI (a - b)) :: st) J) : VJ g y d kc ks Q X pc L (.int (nI b) :: .int (nI a) :: st) J := V_isub pc' hp hd (by rw [pk_sub hab]; exact h)
theorem J_isubR (pc' : Nat) {x z : Int32} (hp : pc + 1 = pc') (hd : decode y.2.1 pc = .ok (.isub, 1)) (h : VJ g y d kc ks Q X pc' L (.int (x - z) :: st) J) : VJ g y d kc ks Q X pc L (.int z :: .int x :: st) J := V_isub pc' hp hd h
theorem J_imul (pc' : Nat) {a b : Nat} (hp : pc + 1 = pc') (hd : decode y.2.1 pc = .ok (.imul, 1)) (h : VJ g y d kc ks Q X pc' L (.int (nI (a * b)) :: st) J) : VJ g y d kc ks Q X pc L (.int (nI b) :: .int (nI a) :: st) J := V_imul pc' hp hd (by rw [pk_mul]; exact h)
theorem J_irem (pc' : Nat) {a b : Nat} (hp : pc + 1 = pc') (hd : decode y.2.1 pc = .ok (.irem, 1)) (ha : a < 2147483648) (h0 : 0 < b) (hb : b < 2147483648) (h : VJ g y d kc ks Q X pc' L (.int (nI (a % b)) :: st) J) : VJ g y d kc ks Q X pc L (.int (nI b) :: .int (nI a) :: st) J := V_irem pc' hp hd (nI_ne0 h0 hb) (by rw [pk_rem ha h0 hb]; exact h)
theorem J_idiv (pc' : Nat) {a b : Nat} (hp : pc + 1 = pc') (hd : decode y.2.1 pc = .ok (.idiv, 1)) (ha : a < 2147483648) (h0 : 0 < b) (hb : b < 2147483648) (h : VJ g y d kc ks Q X pc' L (.int (nI (a / b)) :: st) J) : VJ g y d kc ks Q X pc L (.int (nI b) :: .int (nI a) :: st) J := V_idiv pc' hp hd (nI_ne0 h0 hb) (by rw [pk_div ha h0 hb]; exact h)
theorem J_iand (pc' : Nat) {x z : Int32} (n : Nat) (hp : pc + 1 = pc') (hd : decode y.2.1 pc = .ok (.iand, 1)) (hn : x &&& z = nI n) (h : VJ g y d kc ks Q X pc' L (.int (nI n) :: st) J) : VJ g y d kc ks Q X pc L (.int z :: .int x :: st) J := V_iand pc' hp hd (by rw [hn]; exact h)
theorem J_ior (pc' : Nat) {x z : Int32} (n : Nat) (hp : pc + 1 = pc') (hd : decode y.2.1 pc = .ok (.ior, 1)) (hn : x ||| z = nI n) (h : VJ g y d kc ks Q X pc' L (.int (nI n) :: st) J) : VJ g y d kc ks Q X pc L (.int z :: .int x :: st) J := V_ior pc' hp hd (by rw [hn]; exact h)
theorem J_ixorR (pc' : Nat) {x z : Int32} (hp : pc + 1 = pc') (hd : decode y.2.1 pc = .ok (.ixor, 1)) (h : VJ g y d kc ks Q X pc' L (.int (x ^^^ z) :: st) J) : VJ g y d kc ks Q X pc L (.int z :: .int x :: st) J := V_ixor pc' hp hd h
theorem J_iandR (pc' : Nat) {x z : Int32} (hp : pc + 1 = pc') (hd : decode y.2.1 pc = .ok (.iand, 1)) (h : VJ g y d kc ks Q X pc' L (.int (x &&& z) :: st) J) : VJ g y d kc ks Q X pc L (.int z :: .int x :: st) J := V_iand pc' hp hd h
theorem J_ishl (pc' : Nat) {x z : Int32} (n : Nat) (hp : pc + 1 = pc') (hd : decode y.2.1 pc = .ok (.ishl, 1)) (hn : x <<< (z &&& 31) = nI n) (h : VJ g y d kc ks Q X pc' L (.int (nI n) :: st) J) : VJ g y d kc ks Q X pc L (.int z :: .int x :: st) J := V_ishl pc' hp hd (by rw [hn]; exact h)
theorem J_ishr (pc' : Nat) {x z : Int32} (n : Nat) (hp : pc + 1 = pc') (hd : decode y.2.1 pc = .ok (.ishr, 1)) (hn : x >>> (z &&& 31) = nI n) (h : VJ g y d kc ks Q X pc' L (.int (nI n) :: st) J) : VJ g y d kc ks Q X pc L (.int z :: .int x :: st) J := V_ishr pc' hp hd (by rw [hn]; exact h)
theorem J_i2l (pc' : Nat) {x : Int32} (v : Int64) (hp : pc + 1 = pc') (hd : decode y.2.1 pc = .ok (.i2l, 1)) (hv : x.toInt64 = v) (h : VJ g y d kc ks Q X pc' L (.long v :: st) J) : VJ g y d kc ks Q X pc L (.int x :: st) J := V_i2l pc' v hp hd hv h
theorem J_i2c (pc' : Nat) {x : Int32} (v : Int32) (hp : pc + 1 = pc') (hd : decode y.2.1 pc = .ok (.i2c, 1)) (hv : (x.toUInt32 % 65536).toInt32 = v) (h : VJ g y d kc ks Q X pc' L (.int v :: st) J) : VJ g y d kc ks Q X pc L (.int x :: st) J := V_i2c pc' v hp hd hv h
theorem J_lcmp (pc' : Nat) {x z : Int64} (hp : pc + 1 = pc') (hd : decode y.2.1 pc = .ok (.lcmp, 1)) (h : VJ g y d kc ks Q X pc' L (.int (lg_cmp x z) :: st) J) : VJ g y d kc ks Q X pc L (.long z :: .long x :: st) J := V_lcmp pc' hp hd h
theorem J_dup (pc' : Nat) {v : Value} (hp : pc + 1 = pc') (hd : decode y.2.1 pc = .ok (.dup, 1)) (hv : v.category = 1) (h : VJ g y d kc ks Q X pc' L (v :: v :: st) J) : VJ g y d kc ks Q X pc L (v :: st) J := V_dup pc' hp hd hv h
theorem J_dup2 (pc' : Nat) {v w : Value} (hp : pc + 1 = pc') (hd : decode y.2.1 pc = .ok (.dup2, 1)) (hv : v.category = 1) (hw : w.category = 1) (h : VJ g y d kc ks Q X pc' L (v :: w :: v :: w :: st) J) : VJ g y d kc ks Q X pc L (v :: w :: st) J := V_dup2 pc' hp hd hv hw h
theorem J_pop (pc' : Nat) {v : Value} (hp : pc + 1 = pc') (hd : decode y.2.1 pc = .ok (.pop, 1)) (hv : v.category = 1) (h : VJ g y d kc ks Q X pc' L st J) : VJ g y d kc ks Q X pc L (v :: st) J := V_pop pc' hp hd hv h
theorem J_goto (tgt : Nat) {off : Int} (ht : (pc : Int) + off = (tgt : Int)) (hd : decode y.2.1 pc = .ok (.goto off, 3)) (h : VJ g y d kc ks Q X tgt L st J) : VJ g y d kc ks Q X pc L st J := V_goto tgt ht hd h
theorem J_icmp_lt (tgt pc' : Nat) {a b : Nat} {off : Int} (ht : (pc : Int) + off = (tgt : Int)) (hp : pc + 3 = pc') (hd : decode y.2.1 pc = .ok (.if_icmp .lt off, 3)) (ha : a < 2147483648) (hb : b < 2147483648) (kt : a < b → VJ g y d kc ks Q X tgt L st J) (kf : b ≤ a → VJ g y d kc ks Q X pc' L st J) : VJ g y d kc ks Q X pc L (.int (nI b) :: .int (nI a) :: st) J := V_icmp_lt tgt pc' ht hp hd (fun h => kt ((nI_ltI ha hb).mp h)) (fun h => kf (Nat.not_lt.mp fun q => h ((nI_ltI ha hb).mpr q)))
theorem J_icmp_ge (tgt pc' : Nat) {a b : Nat} {off : Int} (ht : (pc : Int) + off = (tgt : Int)) (hp : pc + 3 = pc') (hd : decode y.2.1 pc = .ok (.if_icmp .ge off, 3)) (ha : a < 2147483648) (hb : b < 2147483648) (kt : b ≤ a → VJ g y d kc ks Q X tgt L st J) (kf : a < b → VJ g y d kc ks Q X pc' L st J) : VJ g y d kc ks Q X pc L (.int (nI b) :: .int (nI a) :: st) J := V_icmp_ge tgt pc' ht hp hd (fun h => kt ((nI_leI hb ha).mp h)) (fun h => kf (Nat.not_le.mp fun q => h ((nI_leI hb ha).mpr q)))
theorem J_icmp_gt (tgt pc' : Nat) {a b : Nat} {off : Int} (ht : (pc : Int) + off = (tgt : Int)) (hp : pc + 3 = pc') (hd : decode y.2.1 pc = .ok (.if_icmp .gt off, 3)) (ha : a < 2147483648) (hb : b < 2147483648) (kt : b < a → VJ g y d kc ks Q X tgt L st J) (kf : a ≤ b → VJ g y d kc ks Q X pc' L st J) : VJ g y d kc ks Q X pc L (.int (nI b) :: .int (nI a) :: st) J := V_icmp_gt tgt pc' ht hp hd (fun h => kt ((nI_ltI hb ha).mp h)) (fun h => kf (Nat.not_lt.mp fun q => h ((nI_ltI hb ha).mpr q)))
theorem J_icmp_le (tgt pc' : Nat) {a b : Nat} {off : Int} (ht : (pc : Int) + off = (tgt : Int)) (hp : pc + 3 = pc') (hd : decode y.2.1 pc = .ok (.if_icmp .le off, 3)) (ha : a < 2147483648) (hb : b < 2147483648) (kt : a ≤ b → VJ g y d kc ks Q X tgt L st J) (kf : b < a → VJ g y d kc ks Q X pc' L st J) : VJ g y d kc ks Q X pc L (.int (nI b) :: .int (nI a) :: st) J := V_icmp_le tgt pc' ht hp hd (fun h => kt ((nI_leI ha hb).mp h)) (fun h => kf (Nat.not_le.mp fun q => h ((nI_leI ha hb).mpr q)))
theorem J_icmp_eq (tgt pc' : Nat) {a b : Nat} {off : Int} (ht : (pc : Int) + off = (tgt : Int)) (hp : pc + 3 = pc') (hd : decode y.2.1 pc = .ok (.if_icmp .eq off, 3)) (ha : a < 4294967296) (hb : b < 4294967296) (kt : a = b → VJ g y d kc ks Q X tgt L st J) (kf : a ≠ b → VJ g y d kc ks Q X pc' L st J) : VJ g y d kc ks Q X pc L (.int (nI b) :: .int (nI a) :: st) J := V_icmp_eq tgt pc' ht hp hd (fun h => kt ((nI_eq32 ha hb).mp h)) (fun h => kf fun q => h ((nI_eq32 ha hb).mpr q))
theorem J_icmp_ne (tgt pc' : Nat) {a b : Nat} {off : Int} (ht : (pc : Int) + off = (tgt : Int)) (hp : pc + 3 = pc') (hd : decode y.2.1 pc = .ok (.if_icmp .ne off, 3)) (ha : a < 4294967296) (hb : b < 4294967296) (kt : a ≠ b → VJ g y d kc ks Q X tgt L st J) (kf : a = b → VJ g y d kc ks Q X pc' L st J) : VJ g y d kc ks Q X pc L (.int (nI b) :: .int (nI a) :: st) J := V_icmp_ne tgt pc' ht hp hd (fun h => kt fun q => h ((nI_eq32 ha hb).mpr q)) (fun h => kf ((nI_eq32 ha hb).mp h))
theorem J_if_eq (tgt pc' : Nat) {a : Nat} {off : Int} (ht : (pc : Int) + off = (tgt : Int)) (hp : pc + 3 = pc') (hd : decode y.2.1 pc = .ok (.ifCond .eq off, 3)) (ha : a < 4294967296) (kt : a = 0 → VJ g y d kc ks Q X tgt L st J) (kf : a ≠ 0 → VJ g y d kc ks Q X pc' L st J) : VJ g y d kc ks Q X pc L (.int (nI a) :: st) J := V_if_eq tgt pc' ht hp hd (fun h => kt ((nI_zero32 ha).mp h)) (fun h => kf fun q => h ((nI_zero32 ha).mpr q))
theorem J_if_ne (tgt pc' : Nat) {a : Nat} {off : Int} (ht : (pc : Int) + off = (tgt : Int)) (hp : pc + 3 = pc') (hd : decode y.2.1 pc = .ok (.ifCond .ne off, 3)) (ha : a < 4294967296) (kt : a ≠ 0 → VJ g y d kc ks Q X tgt L st J) (kf : a = 0 → VJ g y d kc ks Q X pc' L st J) : VJ g y d kc ks Q X pc L (.int (nI a) :: st) J := V_if_ne tgt pc' ht hp hd (fun h => kt fun q => h ((nI_zero32 ha).mpr q)) (fun h => kf ((nI_zero32 ha).mp h))
theorem J_if_le (tgt pc' : Nat) {a : Nat} {off : Int} (ht : (pc : Int) + off = (tgt : Int)) (hp : pc + 3 = pc') (hd : decode y.2.1 pc = .ok (.ifCond .le off, 3)) (ha : a < 2147483648) (kt : a = 0 → VJ g y d kc ks Q X tgt L st J) (kf : 0 < a → VJ g y d kc ks Q X pc' L st J) : VJ g y d kc ks Q X pc L (.int (nI a) :: st) J := V_if_le tgt pc' ht hp hd (fun h => kt (by rw [← nI_0] at h; have := (nI_leI ha (by omega)).mp h; omega)) (fun h => kf (by rw [← nI_0] at h; have : ¬ a ≤ 0 := fun q => h ((nI_leI ha (by omega)).mpr q); omega))
theorem J_if_gt (tgt pc' : Nat) {a : Nat} {off : Int} (ht : (pc : Int) + off = (tgt : Int)) (hp : pc + 3 = pc') (hd : decode y.2.1 pc = .ok (.ifCond .gt off, 3)) (ha : a < 2147483648) (kt : 0 < a → VJ g y d kc ks Q X tgt L st J) (kf : a = 0 → VJ g y d kc ks Q X pc' L st J) : VJ g y d kc ks Q X pc L (.int (nI a) :: st) J := V_if_gt tgt pc' ht hp hd (fun h => kt (by rw [← nI_0] at h; exact (nI_ltI (by omega) ha).mp h)) (fun h => kf (by rw [← nI_0] at h; have : ¬ 0 < a := fun q => h ((nI_ltI (by omega) ha).mpr q); omega))
theorem J_if_lt (tgt pc' : Nat) {a : Nat} {off : Int} (ht : (pc : Int) + off = (tgt : Int)) (hp : pc + 3 = pc') (hd : decode y.2.1 pc = .ok (.ifCond .lt off, 3)) (ha : a < 2147483648) (kf : VJ g y d kc ks Q X pc' L st J) : VJ g y d kc ks Q X pc L (.int (nI a) :: st) J := V_if_lt tgt pc' ht hp hd (fun h => absurd h (nI_pos ha)) (fun _ => kf)
theorem J_if_ge (tgt pc' : Nat) {a : Nat} {off : Int} (ht : (pc : Int) + off = (tgt : Int)) (hp : pc + 3 = pc') (hd : decode y.2.1 pc = .ok (.ifCond .ge off, 3)) (ha : a < 2147483648) (kt : VJ g y d kc ks Q X tgt L st J) : VJ g y d kc ks Q X pc L (.int (nI a) :: st) J := V_if_ge tgt pc' ht hp hd (fun _ => kt) (fun h => absurd (nI_pos' ha) h)
/-- a truth value decides -/
theorem J_ifb_eq (tgt pc' : Nat) {p : Prop} [hdp : Decidable p] {off : Int} (ht : (pc : Int) + off = (tgt : Int)) (hp : pc + 3 = pc') (hd : decode y.2.1 pc = .ok (.ifCond .eq off, 3)) (kt : ¬ p → VJ g y d kc ks Q X tgt L st J) (kf : p → VJ g y d kc ks Q X pc' L st J) : VJ g y d kc ks Q X pc L (.int (nI (bt p)) :: st) J := by
  by_cases h : p
  · rw [show bt p = 1 from if_pos h]
    exact J_if_eq tgt pc' ht hp hd (by omega) (fun q => absurd q (by omega)) (fun _ => kf h)
  · rw [show bt p = 0 from if_neg h]
    exact J_if_eq tgt pc' ht hp hd (by omega) (fun _ => kt h) (fun q => absurd rfl q)
theorem J_ifb_ne (tgt pc' : Nat) {p : Prop} [hdp : Decidable p] {off : Int} (ht : (pc : Int) + off = (tgt : Int)) (hp : pc + 3 = pc') (hd : decode y.2.1 pc = .ok (.ifCond .ne off, 3)) (kt : p → VJ g y d kc ks Q X tgt L st J) (kf : ¬ p → VJ g y d kc ks Q X pc' L st J) : VJ g y d kc ks Q X pc L (.int (nI (bt p)) :: st) J := by
  by_cases h : p
  · rw [show bt p = 1 from if_pos h]
    exact J_if_ne tgt pc' ht hp hd (by omega) (fun _ => kt h) (fun q => absurd q (by omega))
  · rw [show bt p = 0 from if_neg h]
    exact J_if_ne tgt pc' ht hp hd (by omega) (fun q => absurd rfl q) (fun _ => kf h)
theorem J_mmin (pc' : Nat) {idx a b : Nat} (hp : pc + 3 = pc') (hd : decode y.2.1 pc = .ok (.invokestatic idx, 3)) (hl0 : Cond.methodLink y.1.cls idx Lib.Math.min.name ∈ WALL) (hcat : (st.map fun v => v.category).sum ≤ 8) (hdd : 1 ≤ d) (ha : a < 2147483648) (hb : b < 2147483648) (h : VJ g y d kc ks Q X pc' L (.int (nI (min a b)) :: st) J) : VJ g y d kc ks Q X pc L (.int (nI b) :: .int (nI a) :: st) J := by
  refine V_mmin pc' hp hd hl0 lk_minS lk_mathI lk_minC hcat hdd ?_
  have e : (if nI b < nI a then nI b else nI a) = nI (min a b) := by
    by_cases q : b < a
    · rw [if_pos ((nI_ltI hb ha).mpr q), Nat.min_eq_right (by omega)]
    · rw [if_neg (fun z => q ((nI_ltI hb ha).mp z)), Nat.min_eq_left (by omega)]
  rw [e]; exact h
theorem J_mmax (pc' : Nat) {idx a b : Nat} (hp : pc + 3 = pc') (hd : decode y.2.1 pc = .ok (.invokestatic idx, 3)) (hl0 : Cond.methodLink y.1.cls idx Lib.Math.max.name ∈ WALL) (hcat : (st.map fun v => v.category).sum ≤ 8) (hdd : 1 ≤ d) (ha : a < 2147483648) (hb : b < 2147483648) (h : VJ g y d kc ks Q X pc' L (.int (nI (max a b)) :: st) J) : VJ g y d kc ks Q X pc L (.int (nI b) :: .int (nI a) :: st) J := by
  refine V_mmax pc' hp hd hl0 lk_maxS lk_mathI lk_maxC hcat hdd ?_
  have e : (if nI a < nI b then nI b else nI a) = nI (max a b) := by
    by_cases q : a < b
    · rw [if_pos ((nI_ltI ha hb).mpr q), Nat.max_eq_right (by omega)]
    · rw [if_neg (fun z => q ((nI_ltI ha hb).mp z)), Nat.max_eq_left (by omega)]
  rw [e]; exact h
end JROWS
section JMEM
variable {g : Gn} {y z : MI} {d d' kc ks kc' ks' : Nat} {Q Q' : Option Value → DJ → Prop} {X X' : String → DJ → Prop} {pc : Nat} {L : List (Nat × Value)} {st st0 As : List Value} {J : DJ}
theorem celR_obj {u : Un} {ad row : Nat → Nat} {k ci : Nat} {sl : List (Option Nat)} (hs : shp k = .inr (ci, sl)) : celR u ad k row = .inr (ci, fldV ad row sl 0) := by
  unfold celR; rw [hs]
theorem J_getI (pc' k j : Nat) {idx ci N : Nat} {C0 : String} {T : u_T} {sl : List (Option Nat)} (hp : pc + 3 = pc') (hd : decode y.2.1 pc = .ok (.getfield idx, 3)) (hin : ∀ w ∈ u_ws C0 T N, w ∈ WALL) (hk : k < 367) (hs : shp k = .inr (ci, sl)) (hc : vwCl[ci]? = some (C0, T, N)) (hj : j < N) (hl0 : Cond.fieldLink y.1.cls idx (T j).1 (T j).2.1 (T j).2.2.1 ∈ WALL) (hsl : sl[j]? = some none) (h : VJ g y d kc ks Q X pc' L (.int (nI (J k j)) :: st) J) : VJ g y d kc ks Q X pc L (.ref (g.2 k) :: st) J := by
  refine V_getf pc' hp hd hin ((wd_get g J hk).trans (by rw [celR_obj hs])) hc hj hl0 (v := .int (nI (J k j))) ?_ h
  rw [fldV_get, hsl]
  simp
theorem J_getR (pc' k j r : Nat) {idx ci N : Nat} {C0 : String} {T : u_T} {sl : List (Option Nat)} (hp : pc + 3 = pc') (hd : decode y.2.1 pc = .ok (.getfield idx, 3)) (hin : ∀ w ∈ u_ws C0 T N, w ∈ WALL) (hk : k < 367) (hs : shp k = .inr (ci, sl)) (hc : vwCl[ci]? = some (C0, T, N)) (hj : j < N) (hl0 : Cond.fieldLink y.1.cls idx (T j).1 (T j).2.1 (T j).2.2.1 ∈ WALL) (hsl : sl[j]? = some (some r)) (h : VJ g y d kc ks Q X pc' L (.ref (g.2 r) :: st) J) : VJ g y d kc ks Q X pc L (.ref (g.2 k) :: st) J := by
  refine V_getf pc' hp hd hin ((wd_get g J hk).trans (by rw [celR_obj hs])) hc hj hl0 (v := .ref (g.2 r)) ?_ h
  rw [fldV_get, hsl]
  rfl
theorem up2_ne {J : DJ} {k j v i : Nat} (h : i ≠ k) : up2 J k j v i = J i := by unfold up2; rw [if_neg h]
theorem up2_self {J : DJ} {k j v : Nat} : up2 J k j v k = fun j' => if j' = j then v else J k j' := by unfold up2; rw [if_pos rfl]
theorem J_putI (pc' k j : Nat) {idx ci N n : Nat} {C0 : String} {T : u_T} {sl : List (Option Nat)} (ty0 : Nat → FieldType) {ty : FieldType} (hp : pc + 3 = pc') (hd : decode y.2.1 pc = .ok (.putfield idx, 3)) (hin : ∀ w ∈ u_ws C0 T N, w ∈ WALL) (hty : ∀ k, k < N → parseFieldDescriptor (T k).2.2.1 = some (ty0 k)) (hnm : ∀ a, a < N → ∀ b, b < N → a ≠ b → (T a).2.1 ≠ (T b).2.1) (hk : k < 367) (hs : shp k = .inr (ci, sl)) (hc : vwCl[ci]? = some (C0, T, N)) (hj : j < N) (hl0 : Cond.fieldLink y.1.cls idx (T j).1 (T j).2.1 (T j).2.2.1 ∈ WALL) (hfin : (T j).2.2.2 = false) (hpd : parseFieldDescriptor (T j).2.2.1 = some ty) (hn : narrow ty (.int (nI n)) = .int (nI n)) (hfit : fits ty (.int (nI n)) = true) (hsl : sl[j]? = some none) (h : VJ g y d kc ks Q X pc' L st (up2 J k j n)) : VJ g y d kc ks Q X pc L (.int (nI n) :: .ref (g.2 k) :: st) J := by
  have hlen : j < sl.length := (List.getElem?_eq_some_iff.mp hsl).1
  refine V_putf pc' ty0 hp hd hin hty hnm ((wd_get g J hk).trans (by rw [celR_obj hs])) hc hj hl0 hfin hpd hn hfit (by rw [fldV_len]; exact hlen) ?_
  rw [wd_set g J (up2 J k j n) (by rw [celR_obj hs, fldV_set _ _ _ hsl, up2_self]) (fun i hi => up2_ne hi)]
  exact h
theorem celR_i {u : Un} {ad row : Nat → Nat} {k N : Nat} (hs : shp k = .inl (0, N)) : celR u ad k row = .inl (u.2.2.2 0, N, .inl (fun j => nI (row j))) := by
  unfold celR; rw [hs]; rfl
theorem celR_c {u : Un} {ad row : Nat → Nat} {k N : Nat} (hs : shp k = .inl (1, N)) : celR u ad k row = .inl (u.2.2.2 1, N, .inl (fun j => nI (row j))) := by
  unfold celR; rw [hs]; rfl
theorem celR_e {u : Un} {ad row : Nat → Nat} {k N : Nat} (hs : shp k = .inl (2, N)) : celR u ad k row = .inl (u.2.2.2 2, N, .inr (.inr (.inr (.inr (fun j => some (ad (k + 9 + 5 * j))))))) := by
  unfold celR; rw [hs]; rfl
theorem celR_h {u : Un} {ad row : Nat → Nat} {k N : Nat} (hs : shp k = .inl (3, N)) : celR u ad k row = .inl (u.2.2.2 3, N, .inr (.inr (.inr (.inr (fun j => some (ad (93 + 30 * j))))))) := by
  unfold celR; rw [hs]; rfl
def arI (k N : Nat) : Prop := k < 367 ∧ shp k = .inl (0, N) ∧ N < 2147483648
def arC (k N : Nat) : Prop := k < 367 ∧ shp k = .inl (1, N) ∧ N < 2147483648
theorem J_iald (pc' : Nat) {k N i : Nat} (hp : pc + 1 = pc') (hd : decode y.2.1 pc = .ok (.iaload, 1)) (ha : arI k N) (hi : i < N) (h : VJ g y d kc ks Q X pc' L (.int (nI (J k i)) :: st) J) : VJ g y d kc ks Q X pc L (.int (nI i) :: .ref (g.2 k) :: st) J := by
  obtain ⟨hk, hs, hN⟩ := ha
  refine V_iald pc' hp hd ((wd_get g J hk).trans (by rw [celR_i hs])) (vp_in_nI hi hN) ?_
  rw [nI_clamp (by omega)]
  exact h
theorem J_cald (pc' : Nat) {k N i : Nat} (hp : pc + 1 = pc') (hd : decode y.2.1 pc = .ok (.caload, 1)) (ha : arC k N) (hi : i < N) (h : VJ g y d kc ks Q X pc' L (.int (nI (J k i)) :: st) J) : VJ g y d kc ks Q X pc L (.int (nI i) :: .ref (g.2 k) :: st) J := by
  obtain ⟨hk, hs, hN⟩ := ha
  refine V_cald pc' hp hd ((wd_get g J hk).trans (by rw [celR_c hs])) (vp_in_nI hi hN) ?_
  rw [nI_clamp (by omega)]
  exact h
theorem J_iast (pc' : Nat) {k N i n : Nat} (hp : pc + 1 = pc') (hd : decode y.2.1 pc = .ok (.iastore, 1)) (ha : arI k N) (hi : i < N) (h : VJ g y d kc ks Q X pc' L st (up2 J k i n)) : VJ g y d kc ks Q X pc L (.int (nI n) :: .int (nI i) :: .ref (g.2 k) :: st) J := by
  obtain ⟨hk, hs, hN⟩ := ha
  refine V_iast pc' hp hd ((wd_get g J hk).trans (by rw [celR_i hs])) (vp_in_nI hi hN) ?_
  rw [nI_clamp (by omega), wd_set g J (up2 J k i n) (by
    rw [celR_i hs, up2_self]
    congr 3
    refine congrArg Sum.inl ?_
    funext j
    show (if j = i then nI n else nI (J k j)) = nI (if j = i then n else J k j)
    by_cases e : j = i <;> simp [e]) (fun i hi => up2_ne hi)]
  exact h
theorem J_cast (pc' : Nat) {k N i n : Nat} (hp : pc + 1 = pc') (hd : decode y.2.1 pc = .ok (.castore, 1)) (ha : arC k N) (hi : i < N) (hn : n < 65536) (h : VJ g y d kc ks Q X pc' L st (up2 J k i n)) : VJ g y d kc ks Q X pc L (.int (nI n) :: .int (nI i) :: .ref (g.2 k) :: st) J := by
  obtain ⟨hk, hs, hN⟩ := ha
  have en : vp_nar .char (nI n) = nI n := by
    have h1 := (pk_charN hn).1
    unfold vp_nar
    rw [h1]
  refine V_cast pc' hp hd ((wd_get g J hk).trans (by rw [celR_c hs])) (vp_in_nI hi hN) ?_
  rw [nI_clamp (by omega), en, wd_set g J (up2 J k i n) (by
    rw [celR_c hs, up2_self]
    congr 3
    refine congrArg Sum.inl ?_
    funext j
    show (if j = i then nI n else nI (J k j)) = nI (if j = i then n else J k j)
    by_cases e : j = i <;> simp [e]) (fun i hi => up2_ne hi)]
  exact h
theorem J_aaldE (pc' b : Nat) {i : Nat} (hp : pc + 1 = pc') (hd : decode y.2.1 pc = .ok (.aaload, 1)) (hb : isH b) (hi : i < 4) (h : VJ g y d kc ks Q X pc' L (.ref (g.2 (b + 10 + 5 * i)) :: st) J) : VJ g y d kc ks Q X pc L (.int (nI i) :: .ref (g.2 (b + 1)) :: st) J := by
  have hk := isH_le hb
  refine V_aaldE pc' hp hd ((wd_get g J (k := b + 1) (by omega)).trans (by rw [celR_e (N := 4) (by rw [shp_h hb (by omega)]; rfl)])) (vp_in_nI hi (by omega)) (r := g.2 (b + 10 + 5 * i)) ?_ h
  rw [nI_clamp (by omega)]
theorem J_aaldH (pc' : Nat) {i : Nat} (hp : pc + 1 = pc') (hd : decode y.2.1 pc = .ok (.aaload, 1)) (hi : i < 8) (h : VJ g y d kc ks Q X pc' L (.ref (g.2 (93 + 30 * i)) :: st) J) : VJ g y d kc ks Q X pc L (.int (nI i) :: .ref (g.2 92) :: st) J := by
  refine V_aaldH pc' hp hd ((wd_get g J (k := 92) (by omega)).trans (by rw [celR_h (N := 8) rfl])) (vp_in_nI hi (by omega)) (r := g.2 (93 + 30 * i)) ?_ h
  rw [nI_clamp (by omega)]
theorem cp2_ne {J : DJ} {s sp t dp n i : Nat} (h : i ≠ t) : cp2 J s sp t dp n i = J i := by unfold cp2; rw [if_neg h]
theorem cp2_self {J : DJ} {s sp t dp n : Nat} : cp2 J s sp t dp n t = fun j => if dp ≤ j ∧ j < dp + n then J s (sp + (j - dp)) else J t j := by unfold cp2; rw [if_pos rfl]
theorem J_copy (pc' : Nat) {k1 k2 N1 N2 idx sp dp n : Nat} (hp : pc + 3 = pc') (hd : decode y.2.1 pc = .ok (.invokestatic idx, 3)) (hl0 : Cond.methodLink y.1.cls idx arraycopyName ∈ WALL) (ha1 : arI k1 N1) (ha2 : arI k2 N2) (h1 : sp + n ≤ N1) (h2 : dp + n ≤ N2) (hcat : (st.map fun v => v.category).sum ≤ 8) (hdd : 1 ≤ d) (h : VJ g y d kc ks Q X pc' L st (cp2 J k1 sp k2 dp n)) : VJ g y d kc ks Q X pc L (.int (nI n) :: .int (nI dp) :: .ref (g.2 k2) :: .int (nI sp) :: .ref (g.2 k1) :: st) J := by
  obtain ⟨hk1, hs1, hN1⟩ := ha1
  obtain ⟨hk2, hs2, hN2⟩ := ha2
  refine V_copy pc' hp hd hl0 lk_copynative lk_copystatic lk_sysI ((wd_get g J hk1).trans (by rw [celR_i hs1])) ((wd_get g J hk2).trans (by rw [celR_i hs2])) (nI_pos (by omega)) (nI_pos (by omega)) (nI_pos (by omega)) (by rw [nI_clamp (by omega), nI_clamp (by omega)]; exact h1) (by rw [nI_clamp (by omega), nI_clamp (by omega)]; exact h2) hcat hdd ?_
  rw [nI_clamp (by omega), nI_clamp (by omega), nI_clamp (by omega), wd_set g J (cp2 J k1 sp k2 dp n) (by
    rw [celR_i hs2, cp2_self]
    congr 3
    refine congrArg Sum.inl ?_
    funext j
    show (if dp ≤ j ∧ j < dp + n then nI (J k1 (sp + (j - dp))) else nI (J k2 j)) = nI (if dp ≤ j ∧ j < dp + n then J k1 (sp + (j - dp)) else J k2 j)
    by_cases e : dp ≤ j ∧ j < dp + n <;> simp [e]) (fun i hi => cp2_ne hi)]
  exact h
/-- ends -/
theorem J_iret {n : Nat} (hr : y.2.2.2 = some .int) (hd : decode y.2.1 pc = .ok (.ireturn, 1)) (h : Q (some (.int (nI n))) J) : VJ g y d kc ks Q X pc L [.int (nI n)] J := V_iret hr hd ⟨J, rfl, h⟩
theorem J_zret {p : Prop} [hdp : Decidable p] (hr : y.2.2.2 = some .boolean) (hd : decode y.2.1 pc = .ok (.ireturn, 1)) (h : Q (some (.int (nI (bt p)))) J) : VJ g y d kc ks Q X pc L [.int (nI (bt p))] J := V_zret hr (by unfold bt; by_cases q : p <;> simp only [q] <;> decide) hd ⟨J, rfl, h⟩
theorem J_zret1 (hr : y.2.2.2 = some .boolean) (hd : decode y.2.1 pc = .ok (.ireturn, 1)) (h : Q (some (.int (nI 1))) J) : VJ g y d kc ks Q X pc L [.int (nI 1)] J := V_zret hr (by decide) hd ⟨J, rfl, h⟩
theorem J_zret0 (hr : y.2.2.2 = some .boolean) (hd : decode y.2.1 pc = .ok (.ireturn, 1)) (h : Q (some (.int (nI 0))) J) : VJ g y d kc ks Q X pc L [.int (nI 0)] J := V_zret hr (by decide) hd ⟨J, rfl, h⟩
theorem J_vret (hr : y.2.2.2 = none) (hd : decode y.2.1 pc = .ok (.return_, 1)) (h : Q none J) : VJ g y d kc ks Q X pc L [] J := V_vret hr hd ⟨J, rfl, h⟩
theorem J_aret {a : Nat} {n : String} (hr : y.2.2.2 = some (.object n)) (hd : decode y.2.1 pc = .ok (.areturn, 1)) (h : Q (some (.ref a)) J) : VJ g y d kc ks Q X pc L [.ref a] J := V_aret hr hd ⟨J, rfl, h⟩
/-- calls -/
theorem J_callV (pc' b : Nat) {idx n ci N : Nat} {T : u_T} {sl : List (Option Nat)} (hp : pc + 3 = pc') (k : CalV z n) (hl : Cond.methodLink y.1.cls idx z.1 ∈ WALL) (hd : decode y.2.1 pc = .ok (.invokevirtual idx, 3)) (hb : b < 367) (hs : shp b = .inr (ci, sl)) (hc : vwCl[ci]? = some (z.1.cls, T, N)) (hn : As.length = n) (hst : st0 = As.reverse ++ .ref (g.2 b) :: st) (hcat : (st.map fun v => v.category).sum ≤ 8)
    (hdd : d' + 1 ≤ d) (hkc : kc' ≤ kc) (hks : ks' ≤ ks) (hSem : SJ g z d' kc' ks' (.ref (g.2 b) :: As) J Q' X') (kx : ∀ (E : String) (J' : DJ), X' E J' → X E J')
    (kr : ∀ (v : Option Value) (J' : DJ), Q' v J' → VJ g y d (kc - kc') (ks - ks') Q X pc' L (v.toList ++ st) J') : VJ g y d kc ks Q X pc L st0 J :=
  V_callV hp k hl hd hSem ((wd_get g J hb).trans (by rw [celR_obj hs])) hc hn hst hcat hdd hkc hks (fun E ws ⟨J', e, q⟩ => ⟨J', e, kx E J' q⟩) (fun v ws ⟨J', e, q⟩ => by rw [e]; exact kr v J' q)
theorem J_callS (pc' : Nat) {idx n : Nat} (hp : pc + 3 = pc') (k : CalS z n) (hl : Cond.methodLink y.1.cls idx z.1 ∈ WALL) (hd : decode y.2.1 pc = .ok (.invokestatic idx, 3)) (hn : As.length = n) (hst : st0 = As.reverse ++ st) (hcat : (st.map fun v => v.category).sum ≤ 8)
    (hdd : d' + 1 ≤ d) (hkc : kc' ≤ kc) (hks : ks' ≤ ks) (hSem : SJ g z d' kc' ks' As J Q' X') (kx : ∀ (E : String) (J' : DJ), X' E J' → X E J')
    (kr : ∀ (v : Option Value) (J' : DJ), Q' v J' → VJ g y d (kc - kc') (ks - ks') Q X pc' L (v.toList ++ st) J') : VJ g y d kc ks Q X pc L st0 J :=
  V_callS hp k hl hd hSem hn hst hcat hdd hkc hks (fun E ws ⟨J', e, q⟩ => ⟨J', e, kx E J' q⟩) (fun v ws ⟨J', e, q⟩ => by rw [e]; exact kr v J' q)
theorem J_callSN (pc' : Nat) {idx n : Nat} {host : String} (hp : pc + 3 = pc') (k : CalS z n) (hl : (y.1.cls, idx, z.1, host) ∈ nestL) (hd : decode y.2.1 pc = .ok (.invokestatic idx, 3)) (hn : As.length = n) (hst : st0 = As.reverse ++ st) (hcat : (st.map fun v => v.category).sum ≤ 8)
    (hdd : d' + 1 ≤ d) (hkc : kc' ≤ kc) (hks : ks' ≤ ks) (hSem : SJ g z d' kc' ks' As J Q' NoX)
    (kr : ∀ (v : Option Value) (J' : DJ), Q' v J' → VJ g y d (kc - kc') (ks - ks') Q X pc' L (v.toList ++ st) J') : VJ g y d kc ks Q X pc L st0 J :=
  V_callSN hp k hl hd (Sem.mono hSem (fun _ _ h => h) (fun E ws ⟨J', e, q⟩ => q)) hn hst hcat hdd hkc hks (fun v ws ⟨J', e, q⟩ => by rw [e]; exact kr v J' q)
theorem J_callVi (pc' b : Nat) {idx n ci N r : Nat} {T : u_T} {sl : List (Option Nat)} {J0 : DJ} (hp : pc + 3 = pc') (k : CalV z n) (hl : Cond.methodLink y.1.cls idx z.1 ∈ WALL) (hd : decode y.2.1 pc = .ok (.invokevirtual idx, 3)) (hb : b < 367) (hs : shp b = .inr (ci, sl)) (hc : vwCl[ci]? = some (z.1.cls, T, N)) (hn : As.length = n) (hst : st0 = As.reverse ++ .ref (g.2 b) :: st) (hcat : (st.map fun v => v.category).sum ≤ 8)
    (hdd : d' + 1 ≤ d) (hSem : SJ g z d' 0 0 (.ref (g.2 b) :: As) J (Ri r J0) NoX) (kr : VJ g y d kc ks Q X pc' L (.int (nI r) :: st) J0) : VJ g y d kc ks Q X pc L st0 J :=
  J_callV pc' b hp k hl hd hb hs hc hn hst hcat hdd (Nat.zero_le _) (Nat.zero_le _) hSem (fun _ _ h => absurd h id) (fun v J' ⟨e1, e2⟩ => by rw [e1, e2]; exact kr)
theorem J_callVv (pc' b : Nat) {idx n ci N : Nat} {T : u_T} {sl : List (Option Nat)} {J0 : DJ} (hp : pc + 3 = pc') (k : CalV z n) (hl : Cond.methodLink y.1.cls idx z.1 ∈ WALL) (hd : decode y.2.1 pc = .ok (.invokevirtual idx, 3)) (hb : b < 367) (hs : shp b = .inr (ci, sl)) (hc : vwCl[ci]? = some (z.1.cls, T, N)) (hn : As.length = n) (hst : st0 = As.reverse ++ .ref (g.2 b) :: st) (hcat : (st.map fun v => v.category).sum ≤ 8)
    (hdd : d' + 1 ≤ d) (hSem : SJ g z d' 0 0 (.ref (g.2 b) :: As) J (Rv J0) NoX) (kr : VJ g y d kc ks Q X pc' L st J0) : VJ g y d kc ks Q X pc L st0 J :=
  J_callV pc' b hp k hl hd hb hs hc hn hst hcat hdd (Nat.zero_le _) (Nat.zero_le _) hSem (fun _ _ h => absurd h id) (fun v J' ⟨e1, e2⟩ => by rw [e1, e2]; exact kr)
theorem J_callVr (pc' b : Nat) {idx n ci N a : Nat} {T : u_T} {sl : List (Option Nat)} {J0 : DJ} (hp : pc + 3 = pc') (k : CalV z n) (hl : Cond.methodLink y.1.cls idx z.1 ∈ WALL) (hd : decode y.2.1 pc = .ok (.invokevirtual idx, 3)) (hb : b < 367) (hs : shp b = .inr (ci, sl)) (hc : vwCl[ci]? = some (z.1.cls, T, N)) (hn : As.length = n) (hst : st0 = As.reverse ++ .ref (g.2 b) :: st) (hcat : (st.map fun v => v.category).sum ≤ 8)
    (hdd : d' + 1 ≤ d) (hSem : SJ g z d' 0 0 (.ref (g.2 b) :: As) J (Rr a J0) NoX) (kr : VJ g y d kc ks Q X pc' L (.ref a :: st) J0) : VJ g y d kc ks Q X pc L st0 J :=
  J_callV pc' b hp k hl hd hb hs hc hn hst hcat hdd (Nat.zero_le _) (Nat.zero_le _) hSem (fun _ _ h => absurd h id) (fun v J' ⟨e1, e2⟩ => by rw [e1, e2]; exact kr)
theorem J_callSi (pc' : Nat) {idx n r : Nat} {J0 : DJ} (hp : pc + 3 = pc') (k : CalS z n) (hl : Cond.methodLink y.1.cls idx z.1 ∈ WALL) (hd : decode y.2.1 pc = .ok (.invokestatic idx, 3)) (hn : As.length = n) (hst : st0 = As.reverse ++ st) (hcat : (st.map fun v => v.category).sum ≤ 8)
    (hdd : d' + 1 ≤ d) (hSem : SJ g z d' 0 0 As J (Ri r J0) NoX) (kr : VJ g y d kc ks Q X pc' L (.int (nI r) :: st) J0) : VJ g y d kc ks Q X pc L st0 J :=
  J_callS pc' hp k hl hd hn hst hcat hdd (Nat.zero_le _) (Nat.zero_le _) hSem (fun _ _ h => absurd h id) (fun v J' ⟨e1, e2⟩ => by rw [e1, e2]; exact kr)
theorem J_callSv (pc' : Nat) {idx n : Nat} {J0 : DJ} (hp : pc + 3 = pc') (k : CalS z n) (hl : Cond.methodLink y.1.cls idx z.1 ∈ WALL) (hd : decode y.2.1 pc = .ok (.invokestatic idx, 3)) (hn : As.length = n) (hst : st0 = As.reverse ++ st) (hcat : (st.map fun v => v.category).sum ≤ 8)
    (hdd : d' + 1 ≤ d) (hSem : SJ g z d' 0 0 As J (Rv J0) NoX) (kr : VJ g y d kc ks Q X pc' L st J0) : VJ g y d kc ks Q X pc L st0 J :=
  J_callS pc' hp k hl hd hn hst hcat hdd (Nat.zero_le _) (Nat.zero_le _) hSem (fun _ _ h => absurd h id) (fun v J' ⟨e1, e2⟩ => by rw [e1, e2]; exact kr)
theorem J_callSNi (pc' : Nat) {idx n r : Nat} {host : String} {J0 : DJ} (hp : pc + 3 = pc') (k : CalS z n) (hl : (y.1.cls, idx, z.1, host) ∈ nestL) (hd : decode y.2.1 pc = .ok (.invokestatic idx, 3)) (hn : As.length = n) (hst : st0 = As.reverse ++ st) (hcat : (st.map fun v => v.category).sum ≤ 8)
    (hdd : d' + 1 ≤ d) (hSem : SJ g z d' 0 0 As J (Ri r J0) NoX) (kr : VJ g y d kc ks Q X pc' L (.int (nI r) :: st) J0) : VJ g y d kc ks Q X pc L st0 J :=
  J_callSN pc' hp k hl hd hn hst hcat hdd (Nat.zero_le _) (Nat.zero_le _) hSem (fun v J' ⟨e1, e2⟩ => by rw [e1, e2]; exact kr)
theorem J_throw0 {cls : String} {names : List String} {ik ic : Nat} (hcls : Bundle.fit cls = true) (hnames : ∀ n ∈ names, Bundle.fit n = true) (hk : Cond.classLink y.1.cls ik cls ∈ WALL) (hini : Cond.initialized cls ∈ WALL) (hat : ∀ w ∈ vx_at0 y.1.cls ic cls names, w ∈ WALL ∨ w ∈ nstW)
    (d0 : decode y.2.1 pc = .ok (.new ik, 3)) (d3 : decode y.2.1 (pc + 3) = .ok (.dup, 1)) (d4 : decode y.2.1 (pc + 4) = .ok (.invokespecial ic, 3)) (d7 : decode y.2.1 (pc + 7) = .ok (.athrow, 1))
    (hcat : (st.map fun v => v.category).sum ≤ 8) (hdd : names.length + 4 ≤ d) (hkc : 1 ≤ kc) (hks : 6 ≤ ks) (hX : X cls J) : VJ g y d kc ks Q X pc L st J := V_throw0 hcls hnames hk hini hat d0 d3 d4 d7 hcat hdd hkc hks ⟨J, rfl, hX⟩
end JMEM
