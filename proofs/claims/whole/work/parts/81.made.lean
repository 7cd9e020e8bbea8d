/-! MAKING: the world grows; small classes (laid by wip/whole/src/p81.py) -/
def iniS (s : Shp) (j : Nat) : Nat := match s with
  | .inr (3, _) => if j = 6 then 3 else 0
  | .inr (5, _) => if j = 6 ∨ j = 7 then 20 else 0
  | .inr (12, _) => if j = 10 ∨ j = 11 then 4294967295 else 0
  | .inr (13, _) => if j = 6 ∨ j = 7 then 4294967295 else 0
  | _ => 0
/-- the numbers of a new object -/
def JZ : DJ := fun k j => if k = 352 then (if j = 2 then 20 else 0) else if k = 361 then ltS.getD j 0 else if k = 362 then bgS.getD j 0 else iniS (shp k) j
theorem JZ_of {k : Nat} {s : Shp} (h : shp k = s) (h1 : k ≠ 352) (h2 : k ≠ 361) (h3 : k ≠ 362) : JZ k = iniS s := by
  funext j
  unfold JZ
  rw [if_neg h1, if_neg h2, if_neg h3, h]
/-- a cell of the new world: addresses ad, rows of references F -/
def celF (u : Un) (ad : Nat → Nat) (F : Nat → Nat → Option Nat) (k : Nat) : va_E := match shp k with
  | .inr (ci, sl) => .inr (ci, fldV ad (JZ k) sl 0)
  | .inl (t, n) => match t with
    | 0 => .inl (u.2.2.2 0, n, .inl (fun j => nI (JZ k j)))
    | 1 => .inl (u.2.2.2 1, n, .inl (fun j => nI (JZ k j)))
    | 2 => .inl (u.2.2.2 2, n, .inr (.inr (.inr (.inr (F k)))))
    | 3 => .inl (u.2.2.2 3, n, .inr (.inr (.inr (.inr (F k)))))
    | 4 => .inl (u.2.2.2 4, n, .inr (.inl (fun j => Int64.ofNat (JZ k j))))
    | _ => .inl (u.2.2.2 5, n, .inr (.inr (.inr (.inl (fun j => UInt64.ofNat (JZ k j))))))
def cll (u : Un) (ad : Nat → Nat) (F : Nat → Nat → Option Nat) (k : Nat) : Nat × va_E := (ad k, celF u ad F k)
/-- n cells of it from b on -/
def sgm (u : Un) (ad : Nat → Nat) (F : Nat → Nat → Option Nat) (b : Nat) : Nat → va_W
  | 0 => []
  | n + 1 => sgm u ad F b n ++ [cll u ad F (b + n)]
theorem sgm_app {u : Un} {ad : Nat → Nat} {F : Nat → Nat → Option Nat} {b n : Nat} : ∀ m, sgm u ad F b (n + m) = sgm u ad F b n ++ sgm u ad F (b + n) m
  | 0 => (List.append_nil _).symm
  | m + 1 => by
    show sgm u ad F b (n + m) ++ [cll u ad F (b + (n + m))] = sgm u ad F b n ++ (sgm u ad F (b + n) m ++ [cll u ad F (b + n + m)])
    rw [sgm_app m, List.append_assoc, Nat.add_assoc]
theorem sgm_len {u : Un} {ad : Nat → Nat} {F : Nat → Nat → Option Nat} {b : Nat} : ∀ n, (sgm u ad F b n).length = n
  | 0 => rfl
  | n + 1 => by
    show (sgm u ad F b n ++ [cll u ad F (b + n)]).length = n + 1
    rw [List.length_append, sgm_len n]; rfl
/-- the references of cell k are below m -/
def rfB (k m : Nat) : Bool := match shp k with
  | .inr (_, sl) => sl.all (fun o => match o with | some r => decide (r < m) | none => true)
  | .inl (2, n) => decide (k + 4 + 5 * n < m)
  | .inl (3, n) => decide (63 + 30 * n < m)
  | .inl _ => true
theorem fldV_congr {ad ad' row : Nat → Nat} {m : Nat} (ha : ∀ r, r < m → ad r = ad' r) : ∀ (sl : List (Option Nat)) (i : Nat), sl.all (fun o => match o with | some r => decide (r < m) | none => true) = true → fldV ad row sl i = fldV ad' row sl i
  | [], _, _ => rfl
  | none :: t, i, h => by
    have h2 := (Bool.and_eq_true_iff.mp h).2
    show Value.int (nI (row i)) :: fldV ad row t (i + 1) = Value.int (nI (row i)) :: fldV ad' row t (i + 1)
    rw [fldV_congr ha t (i + 1) h2]
  | some r :: t, i, h => by
    have h1 := of_decide_eq_true (Bool.and_eq_true_iff.mp h).1
    have h2 := (Bool.and_eq_true_iff.mp h).2
    show Value.ref (ad r) :: fldV ad row t (i + 1) = Value.ref (ad' r) :: fldV ad' row t (i + 1)
    rw [fldV_congr ha t (i + 1) h2, ha r h1]
theorem celF_congr {u : Un} {ad ad' : Nat → Nat} {F F' : Nat → Nat → Option Nat} {k m : Nat} (h : rfB k m = true) (ha : ∀ r, r < m → ad r = ad' r) (hF : F k = F' k) : celF u ad F k = celF u ad' F' k := by
  unfold rfB at h
  unfold celF
  generalize shp k = s at h ⊢
  match s, h with
  | .inr (ci, sl), h => exact congrArg (fun x => Sum.inr (ci, x)) (fldV_congr ha sl 0 h)
  | .inl (t, n), _ => rw [hF]
theorem sgm_congr {u : Un} {ad ad' : Nat → Nat} {F F' : Nat → Nat → Option Nat} {b m : Nat} (ha : ∀ r, r < m → ad r = ad' r) : ∀ n, (∀ k, b ≤ k → k < b + n → rfB k m = true) → b + n ≤ m → (∀ k, b ≤ k → k < b + n → F k = F' k) → sgm u ad F b n = sgm u ad' F' b n
  | 0, _, _, _ => rfl
  | n + 1, h, hm, hF => by
    show sgm u ad F b n ++ [cll u ad F (b + n)] = sgm u ad' F' b n ++ [cll u ad' F' (b + n)]
    rw [sgm_congr ha n (fun k h1 h2 => h k h1 (by omega)) (by omega) (fun k h1 h2 => hF k h1 (by omega))]
    unfold cll
    rw [celF_congr (h (b + n) (by omega) (by omega)) ha (hF (b + n) (by omega) (by omega)), ha (b + n) (by omega)]
theorem sgm_glue {u : Un} {ad ad' : Nat → Nat} {F F' : Nat → Nat → Option Nat} {b n c m l : Nat} (hc : b + n = c) (hl : n + m = l) (h : ∀ k, b ≤ k → k < b + n → rfB k (b + n) = true) (ha : ∀ k, k < c → ad' k = ad k) (hF : ∀ k, k < c → F' k = F k) : sgm u ad F b n ++ sgm u ad' F' c m = sgm u ad' F' b l := by
  subst hc hl
  rw [sgm_app, sgm_congr (ad' := ad') (F' := F') (fun r hr => (ha r hr).symm) n h (Nat.le_refl _) (fun k _ h2 => (hF k h2).symm)]
/-- the rows of references hold what they should -/
def FO (ad : Nat → Nat) (F : Nat → Nat → Option Nat) (b n : Nat) : Prop := ∀ k, b ≤ k → k < b + n → (∀ N, shp k = .inl (2, N) → ∀ j, j < N → F k j = some (ad (k + 9 + 5 * j))) ∧ ∀ N, shp k = .inl (3, N) → ∀ j, j < N → F k j = some (ad (93 + 30 * j))
def nbS (s : Shp) : Bool := match s with
  | .inl (2, _) => false
  | .inl (3, _) => false
  | _ => true
theorem FO_none {ad : Nat → Nat} {F : Nat → Nat → Option Nat} {b n : Nat} (h : ∀ r, r < n → nbS (shp (b + r)) = true) : FO ad F b n := by
  intro k h1 h2
  have q := h (k - b) (by omega)
  rw [show b + (k - b) = k by omega] at q
  refine ⟨fun N e => ?_, fun N e => ?_⟩
  · rw [e] at q
    have q2 : false = true := q
    cases q2
  · rw [e] at q
    have q2 : false = true := q
    cases q2
theorem FO_congr {ad ad' : Nat → Nat} {F F' : Nat → Nat → Option Nat} {b n m : Nat} (h : ∀ k, b ≤ k → k < b + n → rfB k m = true) (ha : ∀ r, r < m → ad' r = ad r) (hF : ∀ k, b ≤ k → k < b + n → F' k = F k) (f : FO ad F b n) : FO ad' F' b n := by
  intro k h1 h2
  obtain ⟨f2, f3⟩ := f k h1 h2
  have q := h k h1 h2
  unfold rfB at q
  rw [hF k h1 h2]
  refine ⟨fun N e j hj => ?_, fun N e j hj => ?_⟩
  · rw [e] at q
    have q := of_decide_eq_true q
    rw [f2 N e j hj, ha _ (by omega)]
  · rw [e] at q
    have q := of_decide_eq_true q
    rw [f3 N e j hj, ha _ (by omega)]
theorem FO_app {ad : Nat → Nat} {F : Nat → Nat → Option Nat} {b n c m l : Nat} (hc : b + n = c) (hl : n + m = l) (f1 : FO ad F b n) (f2 : FO ad F c m) : FO ad F b l := by
  subst hc hl
  intro k h1 h2
  by_cases q : k < b + n
  · exact f1 k h1 q
  · exact f2 k (by omega) (by omega)
/-- addresses from b on are those of a list -/
def adU (ad : Nat → Nat) (b : Nat) (l : List Nat) : Nat → Nat := fun k => if k < b then ad k else l.getD (k - b) 0
theorem adU_lo {ad : Nat → Nat} {b k : Nat} {l : List Nat} (h : k < b) : adU ad b l k = ad k := if_pos h
theorem adU_at {ad : Nat → Nat} {b : Nat} {l : List Nat} (r : Nat) : adU ad b l (b + r) = l.getD r 0 := by
  unfold adU
  rw [if_neg (by omega), Nat.add_sub_cancel_left]
/-- what a constructor leaves: n cells more, from b on -/
def QC (u : Un) (b n q : Nat) (ad0 : Nat → Nat) (F0 : Nat → Nat → Option Nat) (w0 : va_W) : Option Value → va_W → Prop := fun v ws' => v = none ∧ ∃ (ad : Nat → Nat) (F : Nat → Nat → Option Nat), (∀ k, k < b → ad k = ad0 k) ∧ (∀ k, k < b → F k = F0 k) ∧ ad b = q ∧ FO ad F b n ∧ ws' = w0 ++ sgm u ad F b n
theorem cll_o {u : Un} {ad : Nat → Nat} {F : Nat → Nat → Option Nat} {k q ci : Nat} {sl : List (Option Nat)} {fs : List Value} (hs : shp k = .inr (ci, sl)) (hq : ad k = q) (hf : fldV ad (JZ k) sl 0 = fs) : cll u ad F k = (q, .inr (ci, fs)) := by
  subst hq hf
  unfold cll celF
  rw [hs]
theorem cll_i {u : Un} {ad : Nat → Nat} {F : Nat → Nat → Option Nat} {k q N : Nat} {f : Nat → Nat} (hs : shp k = .inl (0, N)) (hq : ad k = q) (hJ : JZ k = f) : cll u ad F k = (q, .inl (u.2.2.2 0, N, .inl (fun j => nI (f j)))) := by
  subst hq hJ
  unfold cll celF
  rw [hs]
  rfl
theorem cll_c {u : Un} {ad : Nat → Nat} {F : Nat → Nat → Option Nat} {k q N : Nat} {f : Nat → Nat} (hs : shp k = .inl (1, N)) (hq : ad k = q) (hJ : JZ k = f) : cll u ad F k = (q, .inl (u.2.2.2 1, N, .inl (fun j => nI (f j)))) := by
  subst hq hJ
  unfold cll celF
  rw [hs]
  rfl
theorem cll_r2 {u : Un} {ad : Nat → Nat} {F : Nat → Nat → Option Nat} {k q N : Nat} (hs : shp k = .inl (2, N)) (hq : ad k = q) : cll u ad F k = (q, .inl (u.2.2.2 2, N, .inr (.inr (.inr (.inr (F k)))))) := by
  subst hq
  unfold cll celF
  rw [hs]
  rfl
theorem cll_r3 {u : Un} {ad : Nat → Nat} {F : Nat → Nat → Option Nat} {k q N : Nat} (hs : shp k = .inl (3, N)) (hq : ad k = q) : cll u ad F k = (q, .inl (u.2.2.2 3, N, .inr (.inr (.inr (.inr (F k)))))) := by
  subst hq
  unfold cll celF
  rw [hs]
  rfl
theorem ap_get {w0 l : va_W} {j : Nat} {x : Nat × va_E} (h : l[j]? = some x) : (w0 ++ l)[w0.length + j]? = some x := by
  rw [List.getElem?_append_right (Nat.le_add_right _ _), Nat.add_sub_cancel_left]
  exact h
theorem ap_set {w0 l : va_W} {j : Nat} {x : Nat × va_E} : (w0 ++ l).set (w0.length + j) x = w0 ++ l.set j x := by
  rw [List.set_append_right _ _ (Nat.le_add_right _ _), Nat.add_sub_cancel_left]
section NROWS
variable {u : Un} {y : MI} {d kc ks : Nat} {Q : Option Value → va_W → Prop} {X : String → va_W → Prop} {pc : Nat} {L : List (Nat × Value)} {st : List Value} {w0 l l2 : va_W}
theorem N_get (pc' j0 : Nat) {idx ci N j : Nat} {C0 : String} {T : u_T} {fs : List Value} {a : Nat} {v : Value} (hp : pc + 3 = pc') (hd : decode y.2.1 pc = .ok (.getfield idx, 3)) (hin : ∀ w ∈ u_ws C0 T N, w ∈ WALL) (hb : l[j0]? = some (a, .inr (ci, fs))) (hc : vwCl[ci]? = some (C0, T, N)) (hj : j < N) (hl0 : Cond.fieldLink y.1.cls idx (T j).1 (T j).2.1 (T j).2.2.1 ∈ WALL) (hv : fs[j]? = some v) (k : V u y d kc ks Q X pc' L (v :: st) (w0 ++ l)) : V u y d kc ks Q X pc L (.ref a :: st) (w0 ++ l) :=
  V_getf pc' hp hd hin (ap_get hb) hc hj hl0 hv k
theorem N_putf (pc' j0 : Nat) {idx ci N j : Nat} {C0 : String} {T : u_T} {fs : List Value} {a : Nat} {v : Value} (ty0 : Nat → FieldType) (hp : pc + 3 = pc') (hd : decode y.2.1 pc = .ok (.putfield idx, 3)) (hin : ∀ w ∈ u_ws C0 T N, w ∈ WALL) (hty : ∀ k, k < N → parseFieldDescriptor (T k).2.2.1 = some (ty0 k)) (hnm : ∀ a, a < N → ∀ b, b < N → a ≠ b → (T a).2.1 ≠ (T b).2.1) (hb : l[j0]? = some (a, .inr (ci, fs))) (hc : vwCl[ci]? = some (C0, T, N)) (hj : j < N) (hl0 : Cond.fieldLink y.1.cls idx (T j).1 (T j).2.1 (T j).2.2.1 ∈ WALL) (hfin : (T j).2.2.2 = false) (hn : narrow (ty0 j) v = v) (hfit : fits (ty0 j) v = true) (hlen : j < fs.length) (h2 : l.set j0 (a, .inr (ci, fs.set j v)) = l2) (k : V u y d kc ks Q X pc' L st (w0 ++ l2)) : V u y d kc ks Q X pc L (v :: .ref a :: st) (w0 ++ l) :=
  V_putf pc' ty0 hp hd hin hty hnm (ap_get hb) hc hj hl0 hfin (hty j hj) hn hfit hlen (by rw [ap_set, h2]; exact k)
theorem N_putF (pc' j0 : Nat) {idx ci N j : Nat} {C0 : String} {T : u_T} {fs : List Value} {a : Nat} {v : Value} (ty0 : Nat → FieldType) (hp : pc + 3 = pc') (hd : decode y.2.1 pc = .ok (.putfield idx, 3)) (hin : ∀ w ∈ u_ws C0 T N, w ∈ WALL) (hty : ∀ k, k < N → parseFieldDescriptor (T k).2.2.1 = some (ty0 k)) (hnm : ∀ a, a < N → ∀ b, b < N → a ≠ b → (T a).2.1 ≠ (T b).2.1) (hb : l[j0]? = some (a, .inr (ci, fs))) (hc : vwCl[ci]? = some (C0, T, N)) (hj : j < N) (hl0 : Cond.fieldLink y.1.cls idx (T j).1 (T j).2.1 (T j).2.2.1 ∈ WALL) (hfin : (T j).2.2.2 = true) (hini : y.1.name = "<init>") (hdec : (T j).1 = y.1.cls) (hn : narrow (ty0 j) v = v) (hfit : fits (ty0 j) v = true) (hlen : j < fs.length) (h2 : l.set j0 (a, .inr (ci, fs.set j v)) = l2) (k : V u y d kc ks Q X pc' L st (w0 ++ l2)) : V u y d kc ks Q X pc L (v :: .ref a :: st) (w0 ++ l) :=
  V_putF pc' ty0 hp hd hin hty hnm (ap_get hb) hc hj hl0 hfin hini hdec (hty j hj) hn hfit hlen (by rw [ap_set, h2]; exact k)
theorem N_newi (pc' : Nat) {n : Nat} (hp : pc + 2 = pc') (hd : decode y.2.1 pc = .ok (.newarray .int, 2)) (hn : n < 2147483648) (hbytes : n * 4 ≤ 536870912) (hkc : 1 ≤ kc) (hks : n ≤ ks) (k : ∀ q : Nat, V u y d (kc - 1) (ks - n) Q X pc' L (.ref q :: st) (w0 ++ (l ++ [(q, .inl (u.2.2.2 0, n, .inl (fun _ => nI 0)))]))) : V u y d kc ks Q X pc L (.int (nI n) :: st) (w0 ++ l) :=
  V_newarr pc' 0 (atype := .int) (ty := .int) (cA0 := u.2.2.2 0) (N' := n) (a0 := (n, .inl (fun _ => nI 0))) hp hd wAC_int rfl (Or.inl rfl) rfl (fun cA => by rw [vp_cell_i, nI_0]; rfl) (nI_pos hn) (nI_clamp hn) hbytes hkc hks (fun q => by rw [List.append_assoc]; exact k q)
theorem N_newc (pc' : Nat) {n : Nat} (hp : pc + 2 = pc') (hd : decode y.2.1 pc = .ok (.newarray .char, 2)) (hn : n < 2147483648) (hbytes : n * 2 ≤ 536870912) (hkc : 1 ≤ kc) (hks : n ≤ ks) (k : ∀ q : Nat, V u y d (kc - 1) (ks - n) Q X pc' L (.ref q :: st) (w0 ++ (l ++ [(q, .inl (u.2.2.2 1, n, .inl (fun _ => nI 0)))]))) : V u y d kc ks Q X pc L (.int (nI n) :: st) (w0 ++ l) :=
  V_newarr pc' 1 (atype := .char) (ty := .char) (cA0 := u.2.2.2 1) (N' := n) (a0 := (n, .inl (fun _ => nI 0))) hp hd wAC_char rfl (Or.inr (Or.inl rfl)) rfl (fun cA => by rw [vp_cell_i, nI_0]; rfl) (nI_pos hn) (nI_clamp hn) hbytes hkc hks (fun q => by rw [List.append_assoc]; exact k q)
end NROWS
theorem isE_hi {k : Nat} (h : isE k) : k < 330 := by
  obtain ⟨b, e, hb, he, rfl⟩ := h
  have := isH_le hb; omega
theorem isR_hi {k : Nat} (h : isR k) : k < 330 := by
  obtain ⟨b, hb, rfl⟩ := h
  have := isH_le hb; omega
theorem isK_hi {k : Nat} (h : isK k) : k < 330 := by
  obtain ⟨b, hb, rfl⟩ := h
  have := isH_le hb; omega
theorem S_X1_init {u : Un} {q : Nat} {w0 : va_W} {ad0 : Nat → Nat} {F0 : Nat → Nat → Option Nat} {b : Nat} (hb : isE b) : Sem u mX1_init 1 4 48 [.ref q] (w0 ++ ([(q, .inr (3, [.null, .null, .null, .null, .int (nI 0), .int (nI 0), .int (nI 0), .int (nI 0), .int (nI 0)]))] : va_W)) (QC u b 5 q ad0 F0 w0) (fun _ _ => False) := by
  refine Sem_of_V (by decide +kernel) (Nat.le_of_ble_eq_true rfl) ?_
  show V u mX1_init 1 4 48 _ _ 0 [(0, .ref q)] [] _
  refine V_aload_n 1 rfl dX1_init_0 rfl ?_
  refine V_objInit 4 rfl dX1_init_1 lkX1_3 lk_objI lk_objC (by exact Nat.le_of_ble_eq_true rfl) (by omega) ?_
  refine V_aload_n 5 rfl dX1_init_4 rfl ?_
  refine V_bipush 7 (nI 8) rfl dX1_init_5 bc_8 ?_
  refine N_newi 9 rfl dX1_init_7 (Nat.le_of_ble_eq_true rfl) (Nat.le_of_ble_eq_true rfl) (by omega) (by omega) (fun q1 => ?_)
  show V u mX1_init _ _ _ _ _ 9 _ _ (w0 ++ ([(q, .inr (3, [.null, .null, .null, .null, .int (nI 0), .int (nI 0), .int (nI 0), .int (nI 0), .int (nI 0)])), (q1, .inl (u.2.2.2 0, 8, .inl (fun _ => nI 0)))] : va_W))
  refine N_putF (j := 0) (l2 := [(q, .inr (3, [.ref q1, .null, .null, .null, .int (nI 0), .int (nI 0), .int (nI 0), .int (nI 0), .int (nI 0)])), (q1, .inl (u.2.2.2 0, 8, .inl (fun _ => nI 0)))]) 12 0 tyX1 rfl dX1_init_9 wsX1_in tyX1_ok nmX1 rfl rfl (by omega) lkX1_9 rfl rfl rfl rfl rfl (Nat.le_of_ble_eq_true rfl) rfl ?_
  refine V_aload_n 13 rfl dX1_init_12 rfl ?_
  refine V_bipush 15 (nI 8) rfl dX1_init_13 bc_8 ?_
  refine N_newi 17 rfl dX1_init_15 (Nat.le_of_ble_eq_true rfl) (Nat.le_of_ble_eq_true rfl) (by omega) (by omega) (fun q2 => ?_)
  show V u mX1_init _ _ _ _ _ 17 _ _ (w0 ++ ([(q, .inr (3, [.ref q1, .null, .null, .null, .int (nI 0), .int (nI 0), .int (nI 0), .int (nI 0), .int (nI 0)])), (q1, .inl (u.2.2.2 0, 8, .inl (fun _ => nI 0))), (q2, .inl (u.2.2.2 0, 8, .inl (fun _ => nI 0)))] : va_W))
  refine N_putF (j := 1) (l2 := [(q, .inr (3, [.ref q1, .ref q2, .null, .null, .int (nI 0), .int (nI 0), .int (nI 0), .int (nI 0), .int (nI 0)])), (q1, .inl (u.2.2.2 0, 8, .inl (fun _ => nI 0))), (q2, .inl (u.2.2.2 0, 8, .inl (fun _ => nI 0)))]) 20 0 tyX1 rfl dX1_init_17 wsX1_in tyX1_ok nmX1 rfl rfl (by omega) lkX1_15 rfl rfl rfl rfl rfl (Nat.le_of_ble_eq_true rfl) rfl ?_
  refine V_aload_n 21 rfl dX1_init_20 rfl ?_
  refine V_bipush 23 (nI 8) rfl dX1_init_21 bc_8 ?_
  refine N_newi 25 rfl dX1_init_23 (Nat.le_of_ble_eq_true rfl) (Nat.le_of_ble_eq_true rfl) (by omega) (by omega) (fun q3 => ?_)
  show V u mX1_init _ _ _ _ _ 25 _ _ (w0 ++ ([(q, .inr (3, [.ref q1, .ref q2, .null, .null, .int (nI 0), .int (nI 0), .int (nI 0), .int (nI 0), .int (nI 0)])), (q1, .inl (u.2.2.2 0, 8, .inl (fun _ => nI 0))), (q2, .inl (u.2.2.2 0, 8, .inl (fun _ => nI 0))), (q3, .inl (u.2.2.2 0, 8, .inl (fun _ => nI 0)))] : va_W))
  refine N_putF (j := 2) (l2 := [(q, .inr (3, [.ref q1, .ref q2, .ref q3, .null, .int (nI 0), .int (nI 0), .int (nI 0), .int (nI 0), .int (nI 0)])), (q1, .inl (u.2.2.2 0, 8, .inl (fun _ => nI 0))), (q2, .inl (u.2.2.2 0, 8, .inl (fun _ => nI 0))), (q3, .inl (u.2.2.2 0, 8, .inl (fun _ => nI 0)))]) 28 0 tyX1 rfl dX1_init_25 wsX1_in tyX1_ok nmX1 rfl rfl (by omega) lkX1_18 rfl rfl rfl rfl rfl (Nat.le_of_ble_eq_true rfl) rfl ?_
  refine V_aload_n 29 rfl dX1_init_28 rfl ?_
  refine V_bipush 31 (nI 24) rfl dX1_init_29 bc_24 ?_
  refine N_newi 33 rfl dX1_init_31 (Nat.le_of_ble_eq_true rfl) (Nat.le_of_ble_eq_true rfl) (by omega) (by omega) (fun q4 => ?_)
  show V u mX1_init _ _ _ _ _ 33 _ _ (w0 ++ ([(q, .inr (3, [.ref q1, .ref q2, .ref q3, .null, .int (nI 0), .int (nI 0), .int (nI 0), .int (nI 0), .int (nI 0)])), (q1, .inl (u.2.2.2 0, 8, .inl (fun _ => nI 0))), (q2, .inl (u.2.2.2 0, 8, .inl (fun _ => nI 0))), (q3, .inl (u.2.2.2 0, 8, .inl (fun _ => nI 0))), (q4, .inl (u.2.2.2 0, 24, .inl (fun _ => nI 0)))] : va_W))
  refine N_putF (j := 3) (l2 := [(q, .inr (3, [.ref q1, .ref q2, .ref q3, .ref q4, .int (nI 0), .int (nI 0), .int (nI 0), .int (nI 0), .int (nI 0)])), (q1, .inl (u.2.2.2 0, 8, .inl (fun _ => nI 0))), (q2, .inl (u.2.2.2 0, 8, .inl (fun _ => nI 0))), (q3, .inl (u.2.2.2 0, 8, .inl (fun _ => nI 0))), (q4, .inl (u.2.2.2 0, 24, .inl (fun _ => nI 0)))]) 36 0 tyX1 rfl dX1_init_33 wsX1_in tyX1_ok nmX1 rfl rfl (by omega) lkX1_21 rfl rfl rfl rfl rfl (Nat.le_of_ble_eq_true rfl) rfl ?_
  refine V_aload_n 37 rfl dX1_init_36 rfl ?_
  refine V_iconst 38 (nI 3) rfl dX1_init_37 ic_3 ?_
  refine N_putf (j := 6) (l2 := [(q, .inr (3, [.ref q1, .ref q2, .ref q3, .ref q4, .int (nI 0), .int (nI 0), .int (nI 3), .int (nI 0), .int (nI 0)])), (q1, .inl (u.2.2.2 0, 8, .inl (fun _ => nI 0))), (q2, .inl (u.2.2.2 0, 8, .inl (fun _ => nI 0))), (q3, .inl (u.2.2.2 0, 8, .inl (fun _ => nI 0))), (q4, .inl (u.2.2.2 0, 24, .inl (fun _ => nI 0)))]) 41 0 tyX1 rfl dX1_init_38 wsX1_in tyX1_ok nmX1 rfl rfl (by omega) lkX1_24 rfl rfl rfl (Nat.le_of_ble_eq_true rfl) rfl ?_
  refine V_vret rfl dX1_init_41 ?_
  obtain ⟨ad, had⟩ : ∃ ad, ad = adU ad0 b [q, q1, q2, q3, q4] := ⟨_, rfl⟩
  have a0 : ad (b + 0) = q := by rw [had]; exact adU_at 0
  have a1 : ad (b + 1) = q1 := by rw [had]; exact adU_at 1
  have a2 : ad (b + 2) = q2 := by rw [had]; exact adU_at 2
  have a3 : ad (b + 3) = q3 := by rw [had]; exact adU_at 3
  have a4 : ad (b + 4) = q4 := by rw [had]; exact adU_at 4
  have hk := isE_hi hb
  have e0 : cll u ad F0 (b + 0) = (q, .inr (3, [.ref q1, .ref q2, .ref q3, .ref q4, .int (nI 0), .int (nI 0), .int (nI 3), .int (nI 0), .int (nI 0)])) := by
    refine cll_o (shp_e hb (show 0 < 5 by omega)) a0 ?_
    rw [JZ_of (shp_e hb (show 0 < 5 by omega)) (by omega) (by omega) (by omega)]
    show ([.ref (ad (b + 1)), .ref (ad (b + 2)), .ref (ad (b + 3)), .ref (ad (b + 4)), .int (nI 0), .int (nI 0), .int (nI 3), .int (nI 0), .int (nI 0)] : List Value) = _
    rw [a1, a2, a3, a4]
  have e1 : cll u ad F0 (b + 1) = (q1, .inl (u.2.2.2 0, 8, .inl (fun _ => nI 0))) := cll_i (f := fun _ => 0) (shp_e hb (show 1 < 5 by omega)) a1 (JZ_of (shp_e hb (show 1 < 5 by omega)) (by omega) (by omega) (by omega))
  have e2 : cll u ad F0 (b + 2) = (q2, .inl (u.2.2.2 0, 8, .inl (fun _ => nI 0))) := cll_i (f := fun _ => 0) (shp_e hb (show 2 < 5 by omega)) a2 (JZ_of (shp_e hb (show 2 < 5 by omega)) (by omega) (by omega) (by omega))
  have e3 : cll u ad F0 (b + 3) = (q3, .inl (u.2.2.2 0, 8, .inl (fun _ => nI 0))) := cll_i (f := fun _ => 0) (shp_e hb (show 3 < 5 by omega)) a3 (JZ_of (shp_e hb (show 3 < 5 by omega)) (by omega) (by omega) (by omega))
  have e4 : cll u ad F0 (b + 4) = (q4, .inl (u.2.2.2 0, 24, .inl (fun _ => nI 0))) := cll_i (f := fun _ => 0) (shp_e hb (show 4 < 5 by omega)) a4 (JZ_of (shp_e hb (show 4 < 5 by omega)) (by omega) (by omega) (by omega))
  refine ⟨rfl, ad, F0, fun k hk => by rw [had]; exact adU_lo hk, fun _ _ => rfl, a0, FO_none (fun r hr => by
    rw [shp_e hb hr]
    match r, hr with
    | 0, _ => rfl
    | 1, _ => rfl
    | 2, _ => rfl
    | 3, _ => rfl
    | 4, _ => rfl), congrArg (fun z => w0 ++ z) ?_⟩
  show _ = [cll u ad F0 (b + 0), cll u ad F0 (b + 1), cll u ad F0 (b + 2), cll u ad F0 (b + 3), cll u ad F0 (b + 4)]
  rw [e0, e1, e2, e3, e4]
theorem S_X8_init {u : Un} {q : Nat} {w0 : va_W} {ad0 : Nat → Nat} {F0 : Nat → Nat → Option Nat} {b : Nat} (hb : isR b) : Sem u mX8_init 1 3 24 [.ref q] (w0 ++ ([(q, .inr (10, [.null, .null, .null, .int (nI 0)]))] : va_W)) (QC u b 4 q ad0 F0 w0) (fun _ _ => False) := by
  refine Sem_of_V (by decide +kernel) (Nat.le_of_ble_eq_true rfl) ?_
  show V u mX8_init 1 3 24 _ _ 0 [(0, .ref q)] [] _
  refine V_aload_n 1 rfl dX8_init_0 rfl ?_
  refine V_objInit 4 rfl dX8_init_1 lkX8_3 lk_objI lk_objC (by exact Nat.le_of_ble_eq_true rfl) (by omega) ?_
  refine V_aload_n 5 rfl dX8_init_4 rfl ?_
  refine V_bipush 7 (nI 8) rfl dX8_init_5 bc_8 ?_
  refine N_newi 9 rfl dX8_init_7 (Nat.le_of_ble_eq_true rfl) (Nat.le_of_ble_eq_true rfl) (by omega) (by omega) (fun q1 => ?_)
  show V u mX8_init _ _ _ _ _ 9 _ _ (w0 ++ ([(q, .inr (10, [.null, .null, .null, .int (nI 0)])), (q1, .inl (u.2.2.2 0, 8, .inl (fun _ => nI 0)))] : va_W))
  refine N_putF (j := 0) (l2 := [(q, .inr (10, [.ref q1, .null, .null, .int (nI 0)])), (q1, .inl (u.2.2.2 0, 8, .inl (fun _ => nI 0)))]) 12 0 tyX8 rfl dX8_init_9 wsX8_in tyX8_ok nmX8 rfl rfl (by omega) lkX8_9 rfl rfl rfl rfl rfl (Nat.le_of_ble_eq_true rfl) rfl ?_
  refine V_aload_n 13 rfl dX8_init_12 rfl ?_
  refine V_bipush 15 (nI 8) rfl dX8_init_13 bc_8 ?_
  refine N_newi 17 rfl dX8_init_15 (Nat.le_of_ble_eq_true rfl) (Nat.le_of_ble_eq_true rfl) (by omega) (by omega) (fun q2 => ?_)
  show V u mX8_init _ _ _ _ _ 17 _ _ (w0 ++ ([(q, .inr (10, [.ref q1, .null, .null, .int (nI 0)])), (q1, .inl (u.2.2.2 0, 8, .inl (fun _ => nI 0))), (q2, .inl (u.2.2.2 0, 8, .inl (fun _ => nI 0)))] : va_W))
  refine N_putF (j := 1) (l2 := [(q, .inr (10, [.ref q1, .ref q2, .null, .int (nI 0)])), (q1, .inl (u.2.2.2 0, 8, .inl (fun _ => nI 0))), (q2, .inl (u.2.2.2 0, 8, .inl (fun _ => nI 0)))]) 20 0 tyX8 rfl dX8_init_17 wsX8_in tyX8_ok nmX8 rfl rfl (by omega) lkX8_15 rfl rfl rfl rfl rfl (Nat.le_of_ble_eq_true rfl) rfl ?_
  refine V_aload_n 21 rfl dX8_init_20 rfl ?_
  refine V_bipush 23 (nI 8) rfl dX8_init_21 bc_8 ?_
  refine N_newi 25 rfl dX8_init_23 (Nat.le_of_ble_eq_true rfl) (Nat.le_of_ble_eq_true rfl) (by omega) (by omega) (fun q3 => ?_)
  show V u mX8_init _ _ _ _ _ 25 _ _ (w0 ++ ([(q, .inr (10, [.ref q1, .ref q2, .null, .int (nI 0)])), (q1, .inl (u.2.2.2 0, 8, .inl (fun _ => nI 0))), (q2, .inl (u.2.2.2 0, 8, .inl (fun _ => nI 0))), (q3, .inl (u.2.2.2 0, 8, .inl (fun _ => nI 0)))] : va_W))
  refine N_putF (j := 2) (l2 := [(q, .inr (10, [.ref q1, .ref q2, .ref q3, .int (nI 0)])), (q1, .inl (u.2.2.2 0, 8, .inl (fun _ => nI 0))), (q2, .inl (u.2.2.2 0, 8, .inl (fun _ => nI 0))), (q3, .inl (u.2.2.2 0, 8, .inl (fun _ => nI 0)))]) 28 0 tyX8 rfl dX8_init_25 wsX8_in tyX8_ok nmX8 rfl rfl (by omega) lkX8_18 rfl rfl rfl rfl rfl (Nat.le_of_ble_eq_true rfl) rfl ?_
  refine V_vret rfl dX8_init_28 ?_
  obtain ⟨ad, had⟩ : ∃ ad, ad = adU ad0 b [q, q1, q2, q3] := ⟨_, rfl⟩
  have a0 : ad (b + 0) = q := by rw [had]; exact adU_at 0
  have a1 : ad (b + 1) = q1 := by rw [had]; exact adU_at 1
  have a2 : ad (b + 2) = q2 := by rw [had]; exact adU_at 2
  have a3 : ad (b + 3) = q3 := by rw [had]; exact adU_at 3
  have hk := isR_hi hb
  have e0 : cll u ad F0 (b + 0) = (q, .inr (10, [.ref q1, .ref q2, .ref q3, .int (nI 0)])) := by
    refine cll_o (shp_r hb (show 0 < 4 by omega)) a0 ?_
    rw [JZ_of (shp_r hb (show 0 < 4 by omega)) (by omega) (by omega) (by omega)]
    show ([.ref (ad (b + 1)), .ref (ad (b + 2)), .ref (ad (b + 3)), .int (nI 0)] : List Value) = _
    rw [a1, a2, a3]
  have e1 : cll u ad F0 (b + 1) = (q1, .inl (u.2.2.2 0, 8, .inl (fun _ => nI 0))) := cll_i (f := fun _ => 0) (shp_r hb (show 1 < 4 by omega)) a1 (JZ_of (shp_r hb (show 1 < 4 by omega)) (by omega) (by omega) (by omega))
  have e2 : cll u ad F0 (b + 2) = (q2, .inl (u.2.2.2 0, 8, .inl (fun _ => nI 0))) := cll_i (f := fun _ => 0) (shp_r hb (show 2 < 4 by omega)) a2 (JZ_of (shp_r hb (show 2 < 4 by omega)) (by omega) (by omega) (by omega))
  have e3 : cll u ad F0 (b + 3) = (q3, .inl (u.2.2.2 0, 8, .inl (fun _ => nI 0))) := cll_i (f := fun _ => 0) (shp_r hb (show 3 < 4 by omega)) a3 (JZ_of (shp_r hb (show 3 < 4 by omega)) (by omega) (by omega) (by omega))
  refine ⟨rfl, ad, F0, fun k hk => by rw [had]; exact adU_lo hk, fun _ _ => rfl, a0, FO_none (fun r hr => by
    rw [shp_r hb hr]
    match r, hr with
    | 0, _ => rfl
    | 1, _ => rfl
    | 2, _ => rfl
    | 3, _ => rfl), congrArg (fun z => w0 ++ z) ?_⟩
  show _ = [cll u ad F0 (b + 0), cll u ad F0 (b + 1), cll u ad F0 (b + 2), cll u ad F0 (b + 3)]
  rw [e0, e1, e2, e3]
theorem S_X4_init {u : Un} {q : Nat} {w0 : va_W} {ad0 : Nat → Nat} {F0 : Nat → Nat → Option Nat} {b : Nat} (hb : isK b) : Sem u mX4_init 1 2 24 [.ref q] (w0 ++ ([(q, .inr (6, [.null, .null, .int (nI 0)]))] : va_W)) (QC u b 3 q ad0 F0 w0) (fun _ _ => False) := by
  refine Sem_of_V (by decide +kernel) (Nat.le_of_ble_eq_true rfl) ?_
  show V u mX4_init 1 2 24 _ _ 0 [(0, .ref q)] [] _
  refine V_aload_n 1 rfl dX4_init_0 rfl ?_
  refine V_objInit 4 rfl dX4_init_1 lkX4_3 lk_objI lk_objC (by exact Nat.le_of_ble_eq_true rfl) (by omega) ?_
  refine V_aload_n 5 rfl dX4_init_4 rfl ?_
  refine V_bipush 7 (nI 12) rfl dX4_init_5 bc_12 ?_
  refine N_newi 9 rfl dX4_init_7 (Nat.le_of_ble_eq_true rfl) (Nat.le_of_ble_eq_true rfl) (by omega) (by omega) (fun q1 => ?_)
  show V u mX4_init _ _ _ _ _ 9 _ _ (w0 ++ ([(q, .inr (6, [.null, .null, .int (nI 0)])), (q1, .inl (u.2.2.2 0, 12, .inl (fun _ => nI 0)))] : va_W))
  refine N_putF (j := 0) (l2 := [(q, .inr (6, [.ref q1, .null, .int (nI 0)])), (q1, .inl (u.2.2.2 0, 12, .inl (fun _ => nI 0)))]) 12 0 tyX4 rfl dX4_init_9 wsX4_in tyX4_ok nmX4 rfl rfl (by omega) lkX4_9 rfl rfl rfl rfl rfl (Nat.le_of_ble_eq_true rfl) rfl ?_
  refine V_aload_n 13 rfl dX4_init_12 rfl ?_
  refine V_bipush 15 (nI 12) rfl dX4_init_13 bc_12 ?_
  refine N_newi 17 rfl dX4_init_15 (Nat.le_of_ble_eq_true rfl) (Nat.le_of_ble_eq_true rfl) (by omega) (by omega) (fun q2 => ?_)
  show V u mX4_init _ _ _ _ _ 17 _ _ (w0 ++ ([(q, .inr (6, [.ref q1, .null, .int (nI 0)])), (q1, .inl (u.2.2.2 0, 12, .inl (fun _ => nI 0))), (q2, .inl (u.2.2.2 0, 12, .inl (fun _ => nI 0)))] : va_W))
  refine N_putF (j := 1) (l2 := [(q, .inr (6, [.ref q1, .ref q2, .int (nI 0)])), (q1, .inl (u.2.2.2 0, 12, .inl (fun _ => nI 0))), (q2, .inl (u.2.2.2 0, 12, .inl (fun _ => nI 0)))]) 20 0 tyX4 rfl dX4_init_17 wsX4_in tyX4_ok nmX4 rfl rfl (by omega) lkX4_15 rfl rfl rfl rfl rfl (Nat.le_of_ble_eq_true rfl) rfl ?_
  refine V_vret rfl dX4_init_20 ?_
  obtain ⟨ad, had⟩ : ∃ ad, ad = adU ad0 b [q, q1, q2] := ⟨_, rfl⟩
  have a0 : ad (b + 0) = q := by rw [had]; exact adU_at 0
  have a1 : ad (b + 1) = q1 := by rw [had]; exact adU_at 1
  have a2 : ad (b + 2) = q2 := by rw [had]; exact adU_at 2
  have hk := isK_hi hb
  have e0 : cll u ad F0 (b + 0) = (q, .inr (6, [.ref q1, .ref q2, .int (nI 0)])) := by
    refine cll_o (shp_k hb (show 0 < 3 by omega)) a0 ?_
    rw [JZ_of (shp_k hb (show 0 < 3 by omega)) (by omega) (by omega) (by omega)]
    show ([.ref (ad (b + 1)), .ref (ad (b + 2)), .int (nI 0)] : List Value) = _
    rw [a1, a2]
  have e1 : cll u ad F0 (b + 1) = (q1, .inl (u.2.2.2 0, 12, .inl (fun _ => nI 0))) := cll_i (f := fun _ => 0) (shp_k hb (show 1 < 3 by omega)) a1 (JZ_of (shp_k hb (show 1 < 3 by omega)) (by omega) (by omega) (by omega))
  have e2 : cll u ad F0 (b + 2) = (q2, .inl (u.2.2.2 0, 12, .inl (fun _ => nI 0))) := cll_i (f := fun _ => 0) (shp_k hb (show 2 < 3 by omega)) a2 (JZ_of (shp_k hb (show 2 < 3 by omega)) (by omega) (by omega) (by omega))
  refine ⟨rfl, ad, F0, fun k hk => by rw [had]; exact adU_lo hk, fun _ _ => rfl, a0, FO_none (fun r hr => by
    rw [shp_k hb hr]
    match r, hr with
    | 0, _ => rfl
    | 1, _ => rfl
    | 2, _ => rfl), congrArg (fun z => w0 ++ z) ?_⟩
  show _ = [cll u ad F0 (b + 0), cll u ad F0 (b + 1), cll u ad F0 (b + 2)]
  rw [e0, e1, e2]
theorem S_X0_init {u : Un} {q : Nat} {w0 : va_W} {ad0 : Nat → Nat} {F0 : Nat → Nat → Option Nat} : Sem u mX0_init 1 3 112 [.ref q] (w0 ++ ([(q, .inr (2, [.null, .int (nI 0), .null, .null, .int (nI 0), .int (nI 0)]))] : va_W)) (QC u 344 4 q ad0 F0 w0) (fun _ _ => False) := by
  refine Sem_of_V (by decide +kernel) (Nat.le_of_ble_eq_true rfl) ?_
  show V u mX0_init 1 3 112 _ _ 0 [(0, .ref q)] [] _
  refine V_aload_n 1 rfl dX0_init_0 rfl ?_
  refine V_objInit 4 rfl dX0_init_1 lkX0_3 lk_objI lk_objC (by exact Nat.le_of_ble_eq_true rfl) (by omega) ?_
  refine V_aload_n 5 rfl dX0_init_4 rfl ?_
  refine V_bipush 7 (nI 60) rfl dX0_init_5 bc_60 ?_
  refine N_newc 9 rfl dX0_init_7 (Nat.le_of_ble_eq_true rfl) (Nat.le_of_ble_eq_true rfl) (by omega) (by omega) (fun q1 => ?_)
  show V u mX0_init _ _ _ _ _ 9 _ _ (w0 ++ ([(q, .inr (2, [.null, .int (nI 0), .null, .null, .int (nI 0), .int (nI 0)])), (q1, .inl (u.2.2.2 1, 60, .inl (fun _ => nI 0)))] : va_W))
  refine N_putF (j := 0) (l2 := [(q, .inr (2, [.ref q1, .int (nI 0), .null, .null, .int (nI 0), .int (nI 0)])), (q1, .inl (u.2.2.2 1, 60, .inl (fun _ => nI 0)))]) 12 0 tyX0 rfl dX0_init_9 wsX0_in tyX0_ok nmX0 rfl rfl (by omega) lkX0_11 rfl rfl rfl rfl rfl (Nat.le_of_ble_eq_true rfl) rfl ?_
  refine V_aload_n 13 rfl dX0_init_12 rfl ?_
  refine V_bipush 15 (nI 13) rfl dX0_init_13 bc_13 ?_
  refine N_newi 17 rfl dX0_init_15 (Nat.le_of_ble_eq_true rfl) (Nat.le_of_ble_eq_true rfl) (by omega) (by omega) (fun q2 => ?_)
  show V u mX0_init _ _ _ _ _ 17 _ _ (w0 ++ ([(q, .inr (2, [.ref q1, .int (nI 0), .null, .null, .int (nI 0), .int (nI 0)])), (q1, .inl (u.2.2.2 1, 60, .inl (fun _ => nI 0))), (q2, .inl (u.2.2.2 0, 13, .inl (fun _ => nI 0)))] : va_W))
  refine N_putF (j := 2) (l2 := [(q, .inr (2, [.ref q1, .int (nI 0), .ref q2, .null, .int (nI 0), .int (nI 0)])), (q1, .inl (u.2.2.2 1, 60, .inl (fun _ => nI 0))), (q2, .inl (u.2.2.2 0, 13, .inl (fun _ => nI 0)))]) 20 0 tyX0 rfl dX0_init_17 wsX0_in tyX0_ok nmX0 rfl rfl (by omega) lkX0_15 rfl rfl rfl rfl rfl (Nat.le_of_ble_eq_true rfl) rfl ?_
  refine V_aload_n 21 rfl dX0_init_20 rfl ?_
  refine V_bipush 23 (nI 39) rfl dX0_init_21 bc_39 ?_
  refine N_newi 25 rfl dX0_init_23 (Nat.le_of_ble_eq_true rfl) (Nat.le_of_ble_eq_true rfl) (by omega) (by omega) (fun q3 => ?_)
  show V u mX0_init _ _ _ _ _ 25 _ _ (w0 ++ ([(q, .inr (2, [.ref q1, .int (nI 0), .ref q2, .null, .int (nI 0), .int (nI 0)])), (q1, .inl (u.2.2.2 1, 60, .inl (fun _ => nI 0))), (q2, .inl (u.2.2.2 0, 13, .inl (fun _ => nI 0))), (q3, .inl (u.2.2.2 0, 39, .inl (fun _ => nI 0)))] : va_W))
  refine N_putF (j := 3) (l2 := [(q, .inr (2, [.ref q1, .int (nI 0), .ref q2, .ref q3, .int (nI 0), .int (nI 0)])), (q1, .inl (u.2.2.2 1, 60, .inl (fun _ => nI 0))), (q2, .inl (u.2.2.2 0, 13, .inl (fun _ => nI 0))), (q3, .inl (u.2.2.2 0, 39, .inl (fun _ => nI 0)))]) 28 0 tyX0 rfl dX0_init_25 wsX0_in tyX0_ok nmX0 rfl rfl (by omega) lkX0_19 rfl rfl rfl rfl rfl (Nat.le_of_ble_eq_true rfl) rfl ?_
  refine V_vret rfl dX0_init_28 ?_
  obtain ⟨ad, had⟩ : ∃ ad, ad = adU ad0 344 [q, q1, q2, q3] := ⟨_, rfl⟩
  have a0 : ad 344 = q := by rw [had]; exact adU_at 0
  have a1 : ad 345 = q1 := by rw [had]; exact adU_at 1
  have a2 : ad 346 = q2 := by rw [had]; exact adU_at 2
  have a3 : ad 347 = q3 := by rw [had]; exact adU_at 3
  have e0 : cll u ad F0 344 = (q, .inr (2, [.ref q1, .int (nI 0), .ref q2, .ref q3, .int (nI 0), .int (nI 0)])) := by
    refine cll_o (show shp 344 = _ from rfl) a0 ?_
    rw [JZ_of (show shp 344 = _ from rfl) (by omega) (by omega) (by omega)]
    show ([.ref (ad 345), .int (nI 0), .ref (ad 346), .ref (ad 347), .int (nI 0), .int (nI 0)] : List Value) = _
    rw [a1, a2, a3]
  have e1 : cll u ad F0 345 = (q1, .inl (u.2.2.2 1, 60, .inl (fun _ => nI 0))) := cll_c (f := fun _ => 0) (show shp 345 = _ from rfl) a1 (JZ_of (show shp 345 = _ from rfl) (by omega) (by omega) (by omega))
  have e2 : cll u ad F0 346 = (q2, .inl (u.2.2.2 0, 13, .inl (fun _ => nI 0))) := cll_i (f := fun _ => 0) (show shp 346 = _ from rfl) a2 (JZ_of (show shp 346 = _ from rfl) (by omega) (by omega) (by omega))
  have e3 : cll u ad F0 347 = (q3, .inl (u.2.2.2 0, 39, .inl (fun _ => nI 0))) := cll_i (f := fun _ => 0) (show shp 347 = _ from rfl) a3 (JZ_of (show shp 347 = _ from rfl) (by omega) (by omega) (by omega))
  refine ⟨rfl, ad, F0, fun k hk => by rw [had]; exact adU_lo hk, fun _ _ => rfl, a0, FO_none (by decide +kernel), congrArg (fun z => w0 ++ z) ?_⟩
  show _ = [cll u ad F0 344, cll u ad F0 345, cll u ad F0 346, cll u ad F0 347]
  rw [e0, e1, e2, e3]
theorem S_X2_init {u : Un} {q : Nat} {w0 : va_W} {ad0 : Nat → Nat} {F0 : Nat → Nat → Option Nat} : Sem u mX2_init 1 2 2056 [.ref q] (w0 ++ ([(q, .inr (4, [.null, .null]))] : va_W)) (QC u 333 3 q ad0 F0 w0) (fun _ _ => False) := by
  refine Sem_of_V (by decide +kernel) (Nat.le_of_ble_eq_true rfl) ?_
  show V u mX2_init 1 2 2056 _ _ 0 [(0, .ref q)] [] _
  refine V_aload_n 1 rfl dX2_init_0 rfl ?_
  refine V_objInit 4 rfl dX2_init_1 lkX2_3 lk_objI lk_objC (by exact Nat.le_of_ble_eq_true rfl) (by omega) ?_
  refine V_aload_n 5 rfl dX2_init_4 rfl ?_
  refine V_sipush 8 (nI 2048) rfl dX2_init_5 sc_2048 ?_
  refine N_newi 10 rfl dX2_init_8 (Nat.le_of_ble_eq_true rfl) (Nat.le_of_ble_eq_true rfl) (by omega) (by omega) (fun q1 => ?_)
  show V u mX2_init _ _ _ _ _ 10 _ _ (w0 ++ ([(q, .inr (4, [.null, .null])), (q1, .inl (u.2.2.2 0, 2048, .inl (fun _ => nI 0)))] : va_W))
  refine N_putF (j := 0) (l2 := [(q, .inr (4, [.ref q1, .null])), (q1, .inl (u.2.2.2 0, 2048, .inl (fun _ => nI 0)))]) 13 0 tyX2 rfl dX2_init_10 wsX2_in tyX2_ok nmX2 rfl rfl (by omega) lkX2_9 rfl rfl rfl rfl rfl (Nat.le_of_ble_eq_true rfl) rfl ?_
  refine V_aload_n 14 rfl dX2_init_13 rfl ?_
  refine V_bipush 16 (nI 8) rfl dX2_init_14 bc_8 ?_
  refine N_newi 18 rfl dX2_init_16 (Nat.le_of_ble_eq_true rfl) (Nat.le_of_ble_eq_true rfl) (by omega) (by omega) (fun q2 => ?_)
  show V u mX2_init _ _ _ _ _ 18 _ _ (w0 ++ ([(q, .inr (4, [.ref q1, .null])), (q1, .inl (u.2.2.2 0, 2048, .inl (fun _ => nI 0))), (q2, .inl (u.2.2.2 0, 8, .inl (fun _ => nI 0)))] : va_W))
  refine N_putF (j := 1) (l2 := [(q, .inr (4, [.ref q1, .ref q2])), (q1, .inl (u.2.2.2 0, 2048, .inl (fun _ => nI 0))), (q2, .inl (u.2.2.2 0, 8, .inl (fun _ => nI 0)))]) 21 0 tyX2 rfl dX2_init_18 wsX2_in tyX2_ok nmX2 rfl rfl (by omega) lkX2_15 rfl rfl rfl rfl rfl (Nat.le_of_ble_eq_true rfl) rfl ?_
  refine V_vret rfl dX2_init_21 ?_
  obtain ⟨ad, had⟩ : ∃ ad, ad = adU ad0 333 [q, q1, q2] := ⟨_, rfl⟩
  have a0 : ad 333 = q := by rw [had]; exact adU_at 0
  have a1 : ad 334 = q1 := by rw [had]; exact adU_at 1
  have a2 : ad 335 = q2 := by rw [had]; exact adU_at 2
  have e0 : cll u ad F0 333 = (q, .inr (4, [.ref q1, .ref q2])) := by
    refine cll_o (show shp 333 = _ from rfl) a0 ?_
    rw [JZ_of (show shp 333 = _ from rfl) (by omega) (by omega) (by omega)]
    show ([.ref (ad 334), .ref (ad 335)] : List Value) = _
    rw [a1, a2]
  have e1 : cll u ad F0 334 = (q1, .inl (u.2.2.2 0, 2048, .inl (fun _ => nI 0))) := cll_i (f := fun _ => 0) (show shp 334 = _ from rfl) a1 (JZ_of (show shp 334 = _ from rfl) (by omega) (by omega) (by omega))
  have e2 : cll u ad F0 335 = (q2, .inl (u.2.2.2 0, 8, .inl (fun _ => nI 0))) := cll_i (f := fun _ => 0) (show shp 335 = _ from rfl) a2 (JZ_of (show shp 335 = _ from rfl) (by omega) (by omega) (by omega))
  refine ⟨rfl, ad, F0, fun k hk => by rw [had]; exact adU_lo hk, fun _ _ => rfl, a0, FO_none (by decide +kernel), congrArg (fun z => w0 ++ z) ?_⟩
  show _ = [cll u ad F0 333, cll u ad F0 334, cll u ad F0 335]
  rw [e0, e1, e2]
theorem S_X5_init {u : Un} {q : Nat} {w0 : va_W} {ad0 : Nat → Nat} {F0 : Nat → Nat → Option Nat} : Sem u mX5_init 1 1 19 [.ref q] (w0 ++ ([(q, .inr (7, [.null, .int (nI 0)]))] : va_W)) (QC u 348 2 q ad0 F0 w0) (fun _ _ => False) := by
  refine Sem_of_V (by decide +kernel) (Nat.le_of_ble_eq_true rfl) ?_
  show V u mX5_init 1 1 19 _ _ 0 [(0, .ref q)] [] _
  refine V_aload_n 1 rfl dX5_init_0 rfl ?_
  refine V_objInit 4 rfl dX5_init_1 lkX5_3 lk_objI lk_objC (by exact Nat.le_of_ble_eq_true rfl) (by omega) ?_
  refine V_aload_n 5 rfl dX5_init_4 rfl ?_
  refine V_bipush 7 (nI 19) rfl dX5_init_5 bc_19 ?_
  refine N_newc 9 rfl dX5_init_7 (Nat.le_of_ble_eq_true rfl) (Nat.le_of_ble_eq_true rfl) (by omega) (by omega) (fun q1 => ?_)
  show V u mX5_init _ _ _ _ _ 9 _ _ (w0 ++ ([(q, .inr (7, [.null, .int (nI 0)])), (q1, .inl (u.2.2.2 1, 19, .inl (fun _ => nI 0)))] : va_W))
  refine N_putF (j := 0) (l2 := [(q, .inr (7, [.ref q1, .int (nI 0)])), (q1, .inl (u.2.2.2 1, 19, .inl (fun _ => nI 0)))]) 12 0 tyX5 rfl dX5_init_9 wsX5_in tyX5_ok nmX5 rfl rfl (by omega) lkX5_9 rfl rfl rfl rfl rfl (Nat.le_of_ble_eq_true rfl) rfl ?_
  refine V_vret rfl dX5_init_12 ?_
  obtain ⟨ad, had⟩ : ∃ ad, ad = adU ad0 348 [q, q1] := ⟨_, rfl⟩
  have a0 : ad 348 = q := by rw [had]; exact adU_at 0
  have a1 : ad 349 = q1 := by rw [had]; exact adU_at 1
  have e0 : cll u ad F0 348 = (q, .inr (7, [.ref q1, .int (nI 0)])) := by
    refine cll_o (show shp 348 = _ from rfl) a0 ?_
    rw [JZ_of (show shp 348 = _ from rfl) (by omega) (by omega) (by omega)]
    show ([.ref (ad 349), .int (nI 0)] : List Value) = _
    rw [a1]
  have e1 : cll u ad F0 349 = (q1, .inl (u.2.2.2 1, 19, .inl (fun _ => nI 0))) := cll_c (f := fun _ => 0) (show shp 349 = _ from rfl) a1 (JZ_of (show shp 349 = _ from rfl) (by omega) (by omega) (by omega))
  refine ⟨rfl, ad, F0, fun k hk => by rw [had]; exact adU_lo hk, fun _ _ => rfl, a0, FO_none (by decide +kernel), congrArg (fun z => w0 ++ z) ?_⟩
  show _ = [cll u ad F0 348, cll u ad F0 349]
  rw [e0, e1]
theorem S_X7_init {u : Un} {q : Nat} {w0 : va_W} {ad0 : Nat → Nat} {F0 : Nat → Nat → Option Nat} : Sem u mX7_init 1 2 264 [.ref q] (w0 ++ ([(q, .inr (9, [.null, .null]))] : va_W)) (QC u 341 3 q ad0 F0 w0) (fun _ _ => False) := by
  refine Sem_of_V (by decide +kernel) (Nat.le_of_ble_eq_true rfl) ?_
  show V u mX7_init 1 2 264 _ _ 0 [(0, .ref q)] [] _
  refine V_aload_n 1 rfl dX7_init_0 rfl ?_
  refine V_objInit 4 rfl dX7_init_1 lkX7_3 lk_objI lk_objC (by exact Nat.le_of_ble_eq_true rfl) (by omega) ?_
  refine V_aload_n 5 rfl dX7_init_4 rfl ?_
  refine V_bipush 7 (nI 8) rfl dX7_init_5 bc_8 ?_
  refine N_newi 9 rfl dX7_init_7 (Nat.le_of_ble_eq_true rfl) (Nat.le_of_ble_eq_true rfl) (by omega) (by omega) (fun q1 => ?_)
  show V u mX7_init _ _ _ _ _ 9 _ _ (w0 ++ ([(q, .inr (9, [.null, .null])), (q1, .inl (u.2.2.2 0, 8, .inl (fun _ => nI 0)))] : va_W))
  refine N_putF (j := 0) (l2 := [(q, .inr (9, [.ref q1, .null])), (q1, .inl (u.2.2.2 0, 8, .inl (fun _ => nI 0)))]) 12 0 tyX7 rfl dX7_init_9 wsX7_in tyX7_ok nmX7 rfl rfl (by omega) lkX7_9 rfl rfl rfl rfl rfl (Nat.le_of_ble_eq_true rfl) rfl ?_
  refine V_aload_n 13 rfl dX7_init_12 rfl ?_
  refine V_sipush 16 (nI 256) rfl dX7_init_13 sc_256 ?_
  refine N_newi 18 rfl dX7_init_16 (Nat.le_of_ble_eq_true rfl) (Nat.le_of_ble_eq_true rfl) (by omega) (by omega) (fun q2 => ?_)
  show V u mX7_init _ _ _ _ _ 18 _ _ (w0 ++ ([(q, .inr (9, [.ref q1, .null])), (q1, .inl (u.2.2.2 0, 8, .inl (fun _ => nI 0))), (q2, .inl (u.2.2.2 0, 256, .inl (fun _ => nI 0)))] : va_W))
  refine N_putF (j := 1) (l2 := [(q, .inr (9, [.ref q1, .ref q2])), (q1, .inl (u.2.2.2 0, 8, .inl (fun _ => nI 0))), (q2, .inl (u.2.2.2 0, 256, .inl (fun _ => nI 0)))]) 21 0 tyX7 rfl dX7_init_18 wsX7_in tyX7_ok nmX7 rfl rfl (by omega) lkX7_15 rfl rfl rfl rfl rfl (Nat.le_of_ble_eq_true rfl) rfl ?_
  refine V_vret rfl dX7_init_21 ?_
  obtain ⟨ad, had⟩ : ∃ ad, ad = adU ad0 341 [q, q1, q2] := ⟨_, rfl⟩
  have a0 : ad 341 = q := by rw [had]; exact adU_at 0
  have a1 : ad 342 = q1 := by rw [had]; exact adU_at 1
  have a2 : ad 343 = q2 := by rw [had]; exact adU_at 2
  have e0 : cll u ad F0 341 = (q, .inr (9, [.ref q1, .ref q2])) := by
    refine cll_o (show shp 341 = _ from rfl) a0 ?_
    rw [JZ_of (show shp 341 = _ from rfl) (by omega) (by omega) (by omega)]
    show ([.ref (ad 342), .ref (ad 343)] : List Value) = _
    rw [a1, a2]
  have e1 : cll u ad F0 342 = (q1, .inl (u.2.2.2 0, 8, .inl (fun _ => nI 0))) := cll_i (f := fun _ => 0) (show shp 342 = _ from rfl) a1 (JZ_of (show shp 342 = _ from rfl) (by omega) (by omega) (by omega))
  have e2 : cll u ad F0 343 = (q2, .inl (u.2.2.2 0, 256, .inl (fun _ => nI 0))) := cll_i (f := fun _ => 0) (show shp 343 = _ from rfl) a2 (JZ_of (show shp 343 = _ from rfl) (by omega) (by omega) (by omega))
  refine ⟨rfl, ad, F0, fun k hk => by rw [had]; exact adU_lo hk, fun _ _ => rfl, a0, FO_none (by decide +kernel), congrArg (fun z => w0 ++ z) ?_⟩
  show _ = [cll u ad F0 341, cll u ad F0 342, cll u ad F0 343]
  rw [e0, e1, e2]
theorem S_X9_init {u : Un} {q : Nat} {w0 : va_W} {ad0 : Nat → Nat} {F0 : Nat → Nat → Option Nat} : Sem u mX9_init 1 4 596 [.ref q] (w0 ++ ([(q, .inr (11, [.null, .null, .null, .null]))] : va_W)) (QC u 336 5 q ad0 F0 w0) (fun _ _ => False) := by
  refine Sem_of_V (by decide +kernel) (Nat.le_of_ble_eq_true rfl) ?_
  show V u mX9_init 1 4 596 _ _ 0 [(0, .ref q)] [] _
  refine V_aload_n 1 rfl dX9_init_0 rfl ?_
  refine V_objInit 4 rfl dX9_init_1 lkX9_3 lk_objI lk_objC (by exact Nat.le_of_ble_eq_true rfl) (by omega) ?_
  refine V_aload_n 5 rfl dX9_init_4 rfl ?_
  refine V_sipush 8 (nI 576) rfl dX9_init_5 sc_576 ?_
  refine N_newi 10 rfl dX9_init_8 (Nat.le_of_ble_eq_true rfl) (Nat.le_of_ble_eq_true rfl) (by omega) (by omega) (fun q1 => ?_)
  show V u mX9_init _ _ _ _ _ 10 _ _ (w0 ++ ([(q, .inr (11, [.null, .null, .null, .null])), (q1, .inl (u.2.2.2 0, 576, .inl (fun _ => nI 0)))] : va_W))
  refine N_putF (j := 0) (l2 := [(q, .inr (11, [.ref q1, .null, .null, .null])), (q1, .inl (u.2.2.2 0, 576, .inl (fun _ => nI 0)))]) 13 0 tyX9 rfl dX9_init_10 wsX9_in tyX9_ok nmX9 rfl rfl (by omega) lkX9_11 rfl rfl rfl rfl rfl (Nat.le_of_ble_eq_true rfl) rfl ?_
  refine V_aload_n 14 rfl dX9_init_13 rfl ?_
  refine V_bipush 16 (nI 6) rfl dX9_init_14 bc_6 ?_
  refine N_newi 18 rfl dX9_init_16 (Nat.le_of_ble_eq_true rfl) (Nat.le_of_ble_eq_true rfl) (by omega) (by omega) (fun q2 => ?_)
  show V u mX9_init _ _ _ _ _ 18 _ _ (w0 ++ ([(q, .inr (11, [.ref q1, .null, .null, .null])), (q1, .inl (u.2.2.2 0, 576, .inl (fun _ => nI 0))), (q2, .inl (u.2.2.2 0, 6, .inl (fun _ => nI 0)))] : va_W))
  refine N_putF (j := 1) (l2 := [(q, .inr (11, [.ref q1, .ref q2, .null, .null])), (q1, .inl (u.2.2.2 0, 576, .inl (fun _ => nI 0))), (q2, .inl (u.2.2.2 0, 6, .inl (fun _ => nI 0)))]) 21 0 tyX9 rfl dX9_init_18 wsX9_in tyX9_ok nmX9 rfl rfl (by omega) lkX9_15 rfl rfl rfl rfl rfl (Nat.le_of_ble_eq_true rfl) rfl ?_
  refine V_aload_n 22 rfl dX9_init_21 rfl ?_
  refine V_bipush 24 (nI 6) rfl dX9_init_22 bc_6 ?_
  refine N_newi 26 rfl dX9_init_24 (Nat.le_of_ble_eq_true rfl) (Nat.le_of_ble_eq_true rfl) (by omega) (by omega) (fun q3 => ?_)
  show V u mX9_init _ _ _ _ _ 26 _ _ (w0 ++ ([(q, .inr (11, [.ref q1, .ref q2, .null, .null])), (q1, .inl (u.2.2.2 0, 576, .inl (fun _ => nI 0))), (q2, .inl (u.2.2.2 0, 6, .inl (fun _ => nI 0))), (q3, .inl (u.2.2.2 0, 6, .inl (fun _ => nI 0)))] : va_W))
  refine N_putF (j := 2) (l2 := [(q, .inr (11, [.ref q1, .ref q2, .ref q3, .null])), (q1, .inl (u.2.2.2 0, 576, .inl (fun _ => nI 0))), (q2, .inl (u.2.2.2 0, 6, .inl (fun _ => nI 0))), (q3, .inl (u.2.2.2 0, 6, .inl (fun _ => nI 0)))]) 29 0 tyX9 rfl dX9_init_26 wsX9_in tyX9_ok nmX9 rfl rfl (by omega) lkX9_18 rfl rfl rfl rfl rfl (Nat.le_of_ble_eq_true rfl) rfl ?_
  refine V_aload_n 30 rfl dX9_init_29 rfl ?_
  refine V_bipush 32 (nI 8) rfl dX9_init_30 bc_8 ?_
  refine N_newi 34 rfl dX9_init_32 (Nat.le_of_ble_eq_true rfl) (Nat.le_of_ble_eq_true rfl) (by omega) (by omega) (fun q4 => ?_)
  show V u mX9_init _ _ _ _ _ 34 _ _ (w0 ++ ([(q, .inr (11, [.ref q1, .ref q2, .ref q3, .null])), (q1, .inl (u.2.2.2 0, 576, .inl (fun _ => nI 0))), (q2, .inl (u.2.2.2 0, 6, .inl (fun _ => nI 0))), (q3, .inl (u.2.2.2 0, 6, .inl (fun _ => nI 0))), (q4, .inl (u.2.2.2 0, 8, .inl (fun _ => nI 0)))] : va_W))
  refine N_putF (j := 3) (l2 := [(q, .inr (11, [.ref q1, .ref q2, .ref q3, .ref q4])), (q1, .inl (u.2.2.2 0, 576, .inl (fun _ => nI 0))), (q2, .inl (u.2.2.2 0, 6, .inl (fun _ => nI 0))), (q3, .inl (u.2.2.2 0, 6, .inl (fun _ => nI 0))), (q4, .inl (u.2.2.2 0, 8, .inl (fun _ => nI 0)))]) 37 0 tyX9 rfl dX9_init_34 wsX9_in tyX9_ok nmX9 rfl rfl (by omega) lkX9_21 rfl rfl rfl rfl rfl (Nat.le_of_ble_eq_true rfl) rfl ?_
  refine V_vret rfl dX9_init_37 ?_
  obtain ⟨ad, had⟩ : ∃ ad, ad = adU ad0 336 [q, q1, q2, q3, q4] := ⟨_, rfl⟩
  have a0 : ad 336 = q := by rw [had]; exact adU_at 0
  have a1 : ad 337 = q1 := by rw [had]; exact adU_at 1
  have a2 : ad 338 = q2 := by rw [had]; exact adU_at 2
  have a3 : ad 339 = q3 := by rw [had]; exact adU_at 3
  have a4 : ad 340 = q4 := by rw [had]; exact adU_at 4
  have e0 : cll u ad F0 336 = (q, .inr (11, [.ref q1, .ref q2, .ref q3, .ref q4])) := by
    refine cll_o (show shp 336 = _ from rfl) a0 ?_
    rw [JZ_of (show shp 336 = _ from rfl) (by omega) (by omega) (by omega)]
    show ([.ref (ad 337), .ref (ad 338), .ref (ad 339), .ref (ad 340)] : List Value) = _
    rw [a1, a2, a3, a4]
  have e1 : cll u ad F0 337 = (q1, .inl (u.2.2.2 0, 576, .inl (fun _ => nI 0))) := cll_i (f := fun _ => 0) (show shp 337 = _ from rfl) a1 (JZ_of (show shp 337 = _ from rfl) (by omega) (by omega) (by omega))
  have e2 : cll u ad F0 338 = (q2, .inl (u.2.2.2 0, 6, .inl (fun _ => nI 0))) := cll_i (f := fun _ => 0) (show shp 338 = _ from rfl) a2 (JZ_of (show shp 338 = _ from rfl) (by omega) (by omega) (by omega))
  have e3 : cll u ad F0 339 = (q3, .inl (u.2.2.2 0, 6, .inl (fun _ => nI 0))) := cll_i (f := fun _ => 0) (show shp 339 = _ from rfl) a3 (JZ_of (show shp 339 = _ from rfl) (by omega) (by omega) (by omega))
  have e4 : cll u ad F0 340 = (q4, .inl (u.2.2.2 0, 8, .inl (fun _ => nI 0))) := cll_i (f := fun _ => 0) (show shp 340 = _ from rfl) a4 (JZ_of (show shp 340 = _ from rfl) (by omega) (by omega) (by omega))
  refine ⟨rfl, ad, F0, fun k hk => by rw [had]; exact adU_lo hk, fun _ _ => rfl, a0, FO_none (by decide +kernel), congrArg (fun z => w0 ++ z) ?_⟩
  show _ = [cll u ad F0 336, cll u ad F0 337, cll u ad F0 338, cll u ad F0 339, cll u ad F0 340]
  rw [e0, e1, e2, e3, e4]
