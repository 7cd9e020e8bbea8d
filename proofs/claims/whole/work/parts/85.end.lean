/-! THE LAW from its entry (laid by wip/whole/src/p85.py) -/
section VSMAKE
variable {u : Un} {y z : MI} {S : State → Prop} {d d' kc ks kc' ks' : Nat} {Q Q' : Option Value → va_W → Prop} {X : String → va_W → Prop} {pc : Nat} {L : List (Nat × Value)} {st st0 As : List Value} {ws ws2 : va_W}
theorem T_dup (pc' : Nat) {v : Value} (hp : pc + 1 = pc') (hd : decode y.2.1 pc = .ok (.dup, 1)) (hv : v.category = 1) (k : VS u y S d kc ks Q X pc' L (v :: v :: st) ws) : VS u y S d kc ks Q X pc L (v :: st) ws := by
  subst hp
  intro p e R s m args below meth c H locs cells slots ls C s0 q1 q2 q3 q4 hw hS hl
  exact lv_dup C.1 C.2.1 hd hv (k p e R s m args below meth c H locs cells slots ls C s0 q1 q2 q3 q4 hw hS hl)
theorem T_conv (h : ∀ H, Wd u ws H → Wd u ws2 H) (k : VS u y S d kc ks Q X pc L st ws2) : VS u y S d kc ks Q X pc L st ws := by
  intro p e R s m args below meth c H locs cells slots ls C s0 q1 q2 q3 q4 hw hS hl
  exact k p e R s m args below meth c H locs cells slots ls C s0 q1 q2 q3 q4 (h H hw) hS hl
theorem T_new (pc' : Nat) {index ci N : Nat} {C0 : String} {T : u_T} {fs : List Value} (ty : Nat → FieldType) (hp : pc + 3 = pc') (hd : decode y.2.1 pc = .ok (.new index, 3)) (hin : ∀ w ∈ u_ws C0 T N, w ∈ WALL) (hty : ∀ k, k < N → parseFieldDescriptor (T k).2.2.1 = some (ty k)) (hcl : Cond.classLink y.1.cls index C0 ∈ WALL) (hinst : Cond.instantiable C0 N ∈ WALL) (hini : Cond.initialized C0 ∈ WALL) (hc : vwCl[ci]? = some (C0, T, N)) (hfs : ∀ j, j < N → defaultValue (ty j) = vp_V fs j) (hkc : 1 ≤ kc) (hks : N ≤ ks)
    (k : ∀ q : Nat, VS u y S d (kc - 1) (ks - N) Q X pc' L (.ref q :: st) (ws ++ [(q, .inr (ci, fs))])) : VS u y S d kc ks Q X pc L st ws := by
  subst hp
  intro p e R s m args below meth c H locs cells slots ls C s0 q1 q2 q3 q4 hw hS hl
  have hK := C.2.2.2.2.2.2.2.2.2
  exact va_new C.1 C.2.1 (Ts := WALL) (fun w h => C.word h) hin ty hty C.2.2.2.2.2.1 (C.word hcl) (C.word hinst) (C.word hini) hK.1 hw.1 hw.2 hS (fun q hq => Nat.le_trans hK.2.1 hq) hc hfs (by omega) (by omega) hd (fun q H1 hP hD hS1 => k q p e R s m args below meth c H1 locs _ _ ls C s0 q1 q2 (by omega) (by omega) ⟨hP, hD⟩ hS1 hl)
theorem T_newarr (pc' t0 : Nat) {atype : ArrayType} {ty : FieldType} {cA0 : ClassId} {n : Int32} {N' : Nat} {a0 : vp_A} (hp : pc + 2 = pc') (hd : decode y.2.1 pc = .ok (.newarray atype, 2)) (harr : Cond.arrayClass (newarray.typeOf atype) ∈ WALL) (hty : newarray.typeOf atype = ty) (h4 : ty = .int ∨ ty = .char ∨ ty = .long ∨ ty = .double) (ht : (uT u)[t0]? = some (cA0, ty)) (ha : ∀ cA : ClassId, vp_cell cA a0 = arrV cA N' (fun _ => defaultValue ty)) (hn : ¬ n < 0) (hN : n.toNatClampNeg = N') (hbytes : N' * componentBytes ty ≤ 536870912) (hkc : 1 ≤ kc) (hks : N' ≤ ks)
    (k : ∀ q : Nat, VS u y S d (kc - 1) (ks - N') Q X pc' L (.ref q :: st) (ws ++ [(q, .inl (cA0, a0))])) : VS u y S d kc ks Q X pc L (.int n :: st) ws := by
  subst hp
  intro p e R s m args below meth c H locs cells slots ls C s0 q1 q2 q3 q4 hw hS hl
  have hK := C.2.2.2.2.2.2.2.2.2
  refine va_newa C.1 C.2.1 (C.word harr) hty hK.1 hw.1 hw.2 hS (fun q hq => Nat.le_trans hK.2.1 hq) ha hn hN hbytes (by omega) (by omega) hd (fun q cA H1 hK1 hP hD hS1 => ?_)
  have e1 : va_RA s cA ty := (hK1.2 (uT u).length (cA, ty) (by rw [List.getElem?_append_right (Nat.le_refl _), Nat.sub_self]; rfl)).2
  have e2 : va_RA s cA0 ty := (hK.1.2 t0 (cA0, ty) ht).2
  have e3 : cA = cA0 := va_RA_inj h4 e1 e2
  subst e3
  exact k q p e R s m args below meth c H1 locs _ _ ls C s0 q1 q2 (by omega) (by omega) ⟨hP, hD⟩ hS1 hl
theorem T_callI {pc' idx n b : Nat} (hp : pc + 3 = pc') (k : CalI z n) (hl : Cond.methodLink y.1.cls idx z.1 ∈ WALL) (hd : decode y.2.1 pc = .ok (.invokespecial idx, 3)) (hSem : Sem u z d' kc' ks' (.ref b :: As) ws Q' (fun _ _ => False))
    (hn : As.length = n) (hst : st0 = As.reverse ++ .ref b :: st) (hcat : (st.map fun v => v.category).sum ≤ 8)
    (hdd : d' + 1 ≤ d) (hkc : kc' ≤ kc) (hks : ks' ≤ ks)
    (kr : ∀ (v : Option Value) (ws' : va_W), Q' v ws' → VS u y S d (kc - kc') (ks - ks') Q X pc' L (v.toList ++ st) ws') : VS u y S d kc ks Q X pc L st0 ws := by
  subst hp
  intro p e R s m args below meth c H locs cells slots ls C s0 q1 q2 q3 q4 hw hS hls
  have cw := k.1.bl (R := R) (kc' := kc') (ks' := ks') C hl hdd q1 q2
  rw [k.2.2.2] at cw
  have hr := va_runI (g := F0 m pc ls st0) (locs := locs) (cells := cells) (slots := slots) (below := below) (meth := meth) (e := e) (As := As) (rest := st) (b := b) ⟨C.1, C.2.1, C.2.2.1, C.2.2.2.2.2.1, C.2.2.2.2.1⟩ (Sem.met C.2.2.2.2.2.2.2.2.1.2 hSem) ⟨cw, k.2.1, C.word k.2.2.1⟩
    ⟨cPc_blind _ _ _, fun U hU hW => ⟨rfl, by rw [hU]; exact hw, C.kt hS hU hW⟩⟩ rfl hn hls.1 hst (lv_room hcat) hd ⟨by omega, by omega⟩
  exact V_runP hr hS (fun v ws' H1 locs1 hq hw1 hS1 => kr v ws' hq p e R s m args below meth c H1 locs1 _ _ ls C s0 q1 q2 (by omega) (by omega) hw1 hS1 hls)
end VSMAKE
theorem sgm_get {u : Un} {ad : Nat → Nat} {F : Nat → Nat → Option Nat} {b : Nat} : ∀ (n i : Nat), i < n → (sgm u ad F b n)[i]? = some (cll u ad F (b + i))
  | 0, _, h => absurd h (Nat.not_lt_zero _)
  | n + 1, i, h => by
    show (sgm u ad F b n ++ [cll u ad F (b + n)])[i]? = _
    by_cases e : i < n
    · rw [List.getElem?_append_left (by rw [sgm_len]; exact e), sgm_get n i e]
    · have e2 : i = n := by omega
      subst e2
      rw [List.getElem?_append_right (by rw [sgm_len]; exact Nat.le_refl _), sgm_len, Nat.sub_self]
      rfl
theorem arrV_same {cA : ClassId} {N : Nat} {f f' : Nat → Value} (h : ∀ j, j < N → f j = f' j) : arrV cA N f = arrV cA N f' := by
  unfold arrV
  congr 1
  apply Array.ext
  · simp
  · intro i h1 h2
    simp only [Array.getElem_ofFn]
    exact h i (by simpa using h1)
theorem celF_at {u : Un} {ad : Nat → Nat} {F : Nat → Nat → Option Nat} {k : Nat} {D : va_G} {cl : List vw_C} {H : Heap} (f2 : ∀ N, shp k = .inl (2, N) → ∀ j, j < N → F k j = some (ad (k + 9 + 5 * j))) (f3 : ∀ N, shp k = .inl (3, N) → ∀ j, j < N → F k j = some (ad (93 + 30 * j))) (h : va_at D cl (cll u ad F k) H) : va_at D cl (ad k, celR u ad k (JZ k)) H := by
  unfold cll celF at h
  unfold celR
  generalize shp k = s at f2 f3 h ⊢
  match s, f2, f3, h with
  | .inr (ci, sl), _, _, h => exact h
  | .inl (0, n), _, _, h => exact h
  | .inl (1, n), _, _, h => exact h
  | .inl (2, n), f2, _, h =>
    have q : H[ad k]? = some (arrV (u.2.2.2 2) n (fun j => va_rf (F k j))) := h
    show H[ad k]? = some (arrV (u.2.2.2 2) n (fun j => va_rf (some (ad (k + 9 + 5 * j)))))
    rw [q, arrV_same (fun j hj => by rw [f2 n rfl j hj])]
  | .inl (3, n), _, f3, h =>
    have q : H[ad k]? = some (arrV (u.2.2.2 3) n (fun j => va_rf (F k j))) := h
    show H[ad k]? = some (arrV (u.2.2.2 3) n (fun j => va_rf (some (ad (93 + 30 * j)))))
    rw [q, arrV_same (fun j hj => by rw [f3 n rfl j hj])]
  | .inl (4, n), _, _, h => exact h
  | .inl (t + 5, n), _, _, h => exact h
theorem wd_some {g : Gn} {J : DJ} {i : Nat} {x : Nat × va_E} (h : (wd g J)[i]? = some x) : i < 367 ∧ x = (g.2 i, celR g.1 g.2 i (J i)) := by
  have hi : i < 367 := by
    have q := (List.getElem?_eq_some_iff.mp h).1
    unfold wd at q
    simpa using q
  rw [wd_get g J hi] at h
  exact ⟨hi, (Option.some.inj h).symm⟩
/-- the made cells are the world of data -/
theorem Wd_of_sgm {u : Un} {ad : Nat → Nat} {F : Nat → Nat → Option Nat} {H : Heap} (fo : FO ad F 0 367) (h : Wd u (sgm u ad F 0 367) H) : Wd u (wd (u, ad) JZ) H := by
  have g0 : ∀ i, i < 367 → (sgm u ad F 0 367)[i]? = some (cll u ad F i) := fun i hi => by
    have q := sgm_get (u := u) (ad := ad) (F := F) (b := 0) 367 i hi
    rw [Nat.zero_add] at q
    exact q
  refine ⟨fun i x hx => ?_, fun i j p q hp hq e => ?_, fun i x hx => ?_⟩
  · obtain ⟨hi, e⟩ := wd_some hx
    subst e
    obtain ⟨f2, f3⟩ := fo i (Nat.zero_le _) (by omega)
    exact celF_at f2 f3 (h.1 i _ (g0 i hi))
  · obtain ⟨hi, e1⟩ := wd_some hp
    obtain ⟨hj, e2⟩ := wd_some hq
    subst e1 e2
    exact h.2.1 i j _ _ (g0 i hi) (g0 j hj) e
  · obtain ⟨hi, e1⟩ := wd_some hx
    subst e1
    exact (show uA u (cll u ad F i).1 from h.2.2 i _ (g0 i hi))
theorem rfA_key : ∀ o, o < 365 → rfB o 365 = true ∧ (o < 351 → rfB o 351 = true) := by decide +kernel
theorem rfA : ∀ k, 0 ≤ k → k < 0 + 351 → rfB k (0 + 351) = true := fun k _ h => (rfA_key k (by omega)).2 (by omega)
theorem rfA2 : ∀ k, 0 ≤ k → k < 0 + 365 → rfB k 365 = true := fun k _ h => (rfA_key k (by omega)).1
theorem JZ_352 {i : Nat} (h : i ≠ 2) : JZ 352 i = 0 := by
  show (if i = 2 then 20 else 0) = 0
  rw [if_neg h]
theorem JZ_le (i : Nat) : JZ 352 i ≤ 500 := by
  by_cases h : i = 2
  · subst h; decide
  · rw [JZ_352 h]; omega
/-- at the start both sides are alike -/
theorem LI_JZ : LI JZ 500 := by
  refine ⟨⟨⟨⟨⟨rfl, rfl, rfl, rfl, rfl⟩, fun i hi => ?_, ⟨rfl, fun i hi => absurd hi (Nat.not_lt_zero i)⟩, ⟨rfl, fun i hi => absurd hi (Nat.not_lt_zero i)⟩, fun e he => absurd he (Nat.not_lt_zero e)⟩, rfl, by decide, by decide⟩, ⟨by decide, by decide, by decide, ⟨by decide, fun i hi => absurd hi (Nat.not_lt_zero i), fun i hi => absurd hi (Nat.not_lt_zero (i + 1))⟩, ⟨by decide, fun i hi => absurd hi (Nat.not_lt_zero i)⟩, fun e he => absurd he (Nat.not_lt_zero e), fun e _ he => ?_, fun i hi => ?_, fun i _ => JZ_le i, by omega⟩, ⟨rfl, by decide, by decide, fun i hi => absurd hi (Nat.not_lt_zero i)⟩, Or.inl rfl, rfl, by omega⟩, rfl, ⟨rfl, rfl, by decide, by decide⟩, ⟨rfl, rfl, by decide, fun i hi => absurd hi (Nat.not_lt_zero i)⟩, ⟨fun i hi => rfl, fun i hi => rfl⟩, [], ⟨rfl, fun i hi => absurd hi (Nat.not_lt_zero i)⟩, ⟨rfl, fun i hi => absurd hi (Nat.not_lt_zero i)⟩, by decide, fun j hj => absurd hj (Nat.not_lt_zero j)⟩
  · rw [JZ_352 (by omega)]; rfl
  · refine ⟨JZ_352 (by omega), JZ_352 (by omega), JZ_352 (by omega), fun c hc => JZ_352 (by omega)⟩
  · rw [JZ_352 (by omega)]
    exact ⟨by omega, fun _ => rfl⟩

/-- the law, from its entry -/
theorem law_made {u : Un} {S : State → Prop} {b Ln : Nat} {xs : Nat → Int32} (hS : ∀ ad, ScrS (u, ad) S b Ln xs) : VS u mL_law S 30 20000 120000 (fun v _ => v = some (.int (nI 1))) (fun _ _ => False) 0 [(0, .ref b)] [] [] := by
  refine T_new (ci := 12) (C0 := RX10) (T := TX10) (N := 13) (fs := [.null, .null, .null, .null, .null, .null, .null, .null, .null, .null, .int (nI 0), .int (nI 0), .int (nI 0)]) 3 tyX10 rfl dL_law_0 wsX10_in tyX10_ok cwL_8 cwI_X10 kalX10_init.1.2.1 rfl fs_X10 (by omega) (by omega) (fun q => ?_)
  refine T_dup 4 rfl dL_law_3 rfl ?_
  refine T_callI (z := mX10_init) (As := []) rfl kalX10_init lkL_156 dL_law_4 (S_X10_init (w0 := []) (ad0 := fun _ => 0) (F0 := fun _ _ => none)) rfl rfl (by exact Nat.le_of_ble_eq_true rfl) (by omega) (by omega) (by omega) (fun vv ww hq => ?_)
  obtain ⟨hv1, ad1, F1, h1a, h1b, x0, fo1, hw1⟩ := hq
  subst hv1
  rw [hw1, List.nil_append]
  clear hw1 h1a h1b
  show VS u mL_law S _ _ _ _ _ 7 _ [.ref q] (sgm u ad1 F1 0 351)
  refine T_astore_n (i := 1) 8 rfl dL_law_7 rfl (Nat.le_of_ble_eq_true rfl) ?_
  refine T_new (ci := 13) (C0 := RX11) (T := TX11) (N := 25) (fs := [.null, .null, .null, .int (nI 0), .null, .int (nI 0), .int (nI 0), .int (nI 0), .int (nI 0), .null, .int (nI 0), .null, .int (nI 0), .null, .null, .null, .null, .null, .null, .int (nI 0), .int (nI 0), .int (nI 0), .int (nI 0), .null, .int (nI 0)]) 11 tyX11 rfl dL_law_8 wsX11_in tyX11_ok cwL_157 cwI_X11 kalX11_init.1.2.1 rfl fs_X11 (by omega) (by omega) (fun q2 => ?_)
  refine T_dup 12 rfl dL_law_11 rfl ?_
  refine T_callI (z := mX11_init) (As := []) rfl kalX11_init lkL_159 dL_law_12 (S_X11_init (w0 := sgm u ad1 F1 0 351) (ad0 := ad1) (F0 := F1)) rfl rfl (by exact Nat.le_of_ble_eq_true rfl) (by omega) (by omega) (by omega) (fun vv ww hq => ?_)
  obtain ⟨hv2, ad2, F2, g1, g2, x351, g4, hw2⟩ := hq
  subst hv2
  rw [hw2]
  clear hw2
  have fo2 : FO ad2 F2 0 365 := FO_app (n := 351) (c := 351) (m := 14) rfl rfl (FO_congr rfA (fun r hr => g1 r (by omega)) (fun k _ q2 => g2 k (by omega)) fo1) g4
  rw [sgm_glue (c := 351) (m := 14) (l := 365) rfl rfl rfA g1 g2]
  show VS u mL_law S _ _ _ _ _ 15 _ [.ref q2] (sgm u ad2 F2 0 365)
  refine T_astore_n (i := 2) 16 rfl dL_law_15 rfl (Nat.le_of_ble_eq_true rfl) ?_
  refine T_iconst 17 (nI 1) rfl dL_law_16 ic_1 ?_
  refine T_newarr 19 4 (atype := .long) (ty := .long) (cA0 := u.2.2.2 4) (N' := 1) (a0 := (1, .inr (.inl (fun _ => 0)))) rfl dL_law_17 wAC_long rfl (Or.inr (Or.inr (Or.inl rfl))) rfl (fun cA => rfl) (nI_pos (by omega)) (nI_clamp (by omega)) (Nat.le_of_ble_eq_true rfl) (by omega) (by omega) (fun q3 => ?_)
  refine T_astore_n (i := 3) 20 rfl dL_law_19 rfl (Nat.le_of_ble_eq_true rfl) ?_
  refine T_iconst 21 (nI 1) rfl dL_law_20 ic_1 ?_
  refine T_newarr 23 5 (atype := .double) (ty := .double) (cA0 := u.2.2.2 5) (N' := 1) (a0 := (1, .inr (.inr (.inr (.inl (fun _ => 0)))))) rfl dL_law_21 wAC_double rfl (Or.inr (Or.inr (Or.inr rfl))) rfl (fun cA => rfl) (nI_pos (by omega)) (nI_clamp (by omega)) (Nat.le_of_ble_eq_true rfl) (by omega) (by omega) (fun q4 => ?_)
  refine T_astore (i := 4) 25 rfl dL_law_23 (Nat.le_of_ble_eq_true rfl) ?_
  refine T_iconst 26 (nI 0) rfl dL_law_25 ic_0 ?_
  refine T_istore (i := 5) 28 rfl dL_law_26 (Nat.le_of_ble_eq_true rfl) ?_
  obtain ⟨ad, had⟩ : ∃ ad, ad = adU ad2 365 [q3, q4] := ⟨_, rfl⟩
  have k1 : ∀ k, k < 365 → ad k = ad2 k := fun k hk => by rw [had]; exact adU_lo hk
  have x365 : ad 365 = q3 := by rw [had]; exact adU_at 0
  have x366 : ad 366 = q4 := by rw [had]; exact adU_at 1
  have y0 : ad 0 = q := by rw [k1 0 (by omega), g1 0 (by omega)]; exact x0
  have y351 : ad 351 = q2 := by rw [k1 351 (by omega)]; exact x351
  have e365 : cll u ad F2 365 = (q3, .inl (u.2.2.2 4, 1, .inr (.inl (fun _ => 0)))) := by
    unfold cll
    rw [x365]
    rfl
  have e366 : cll u ad F2 366 = (q4, .inl (u.2.2.2 5, 1, .inr (.inr (.inr (.inl (fun _ => 0)))))) := by
    unfold cll
    rw [x366]
    rfl
  have eW : (sgm u ad2 F2 0 365 ++ ([(q3, .inl (u.2.2.2 4, 1, .inr (.inl (fun _ => 0))))] : va_W)) ++ ([(q4, .inl (u.2.2.2 5, 1, .inr (.inr (.inr (.inl (fun _ => 0))))))] : va_W) = sgm u ad F2 0 367 := by
    rw [sgm_congr (ad' := ad) (F' := F2) (fun r hr => (k1 r hr).symm) 365 rfA2 (by omega) (fun _ _ _ => rfl), ← e365, ← e366]
    rfl
  have fo : FO ad F2 0 367 := FO_app (n := 365) (c := 365) (m := 2) rfl rfl (FO_congr rfA2 (fun r hr => k1 r hr) (fun _ _ _ => rfl) fo2) (FO_none (by decide +kernel))
  refine T_conv (ws2 := wd (u, ad) JZ) (fun H hH => Wd_of_sgm fo (by rw [← eW]; exact hH)) ?_
  have eL : ([(0, .ref b), (1, .ref q), (2, .ref q2), (3, .ref q3), (4, .ref q4), (5, .int (nI 0))] : List (Nat × Value)) = LL (u, ad) b 0 := by
    show _ = ([(0, .ref b), (1, .ref (ad 0)), (2, .ref (ad 351)), (3, .ref (ad 365)), (4, .ref (ad 366)), (5, .int (nI 0))] : List (Nat × Value))
    rw [y0, y351, x365, x366]
  show VS u mL_law S _ _ _ _ _ 28 ([(0, .ref b), (1, .ref q), (2, .ref q2), (3, .ref q3), (4, .ref q4), (5, .int (nI 0))] : List (Nat × Value)) [] (wd (u, ad) JZ)
  rw [eL]
  exact law_loop (g := (u, ad)) (hS ad) 512 0 500 _ _ JZ (by have := (hS ad).2; omega) (by omega) LI_JZ (by omega) (by omega) (by omega)
set_option maxHeartbeats 4000000 in
set_option maxRecDepth 100000 in
/-- THE LAW, from its entry -/
theorem whole_start {p : Program} {e : Env} {s : State} {m : MethodId} {below : List Frame} {meth : Method} {c : Code} (l : Launch) (hflags : l.flags = flags0) {b L : Nat} {xs : Nat → Int32} (hL : L ≤ 2048) (C0 : lw_At p s m meth c b L xs) : W p l e room_1 s m #[Value.ref b] below meth c s.heap [] 0 0 (lw_Z below #[Value.ref b] s) (entryFrame m ([Value.ref b] : List Value).toArray 10) := by
  obtain ⟨hx, hb, hr, hml, hown, hts, hX, hbl, hlocks, hgv⟩ := id C0
  obtain ⟨u, hu1, hu2, hk⟩ := start_Kt l hts hgv
  have htr : u.1.stackTraces = false := by
    rw [hu1]
    unfold Launch.stackTraces
    rw [hflags]
    decide
  have hS : ∀ ad : Nat → Nat, ScrS (u, ad) (fun t => t = s) b L xs := fun ad => ⟨fun t ht => by
    rw [ht]
    refine ⟨hX, hbl, ?_⟩
    show ¬ u.2.1 ≤ b
    rw [hu2]
    exact Nat.not_le.mpr hbl, hL⟩
  have hl := lv_entry ([.ref b]) (n := 10) (Nat.le_of_ble_eq_true rfl)
  rw [lg_entry_eq]
  generalize (lg_sl ([.ref b]) ++ List.replicate (10 - (lg_sl ([.ref b])).length) Slot.unset).toArray = ls at hl ⊢
  have hl : lv_has ls 10 [(0, .ref b)] := hl
  subst hu1
  exact law_Z (g := (u, fun _ => 0)) (fun q hq => by rw [← hu2]; exact hq) (law_made hS) (law_Cx (u := u) C0 htr hk) rfl (by omega) (by omega) ⟨fun k q h => by simp at h, ⟨fun i j p q h => by simp at h, fun k q h => by simp at h⟩⟩ va_S.rf hl
