/-! THE START: the tables' facts (laid by wip/whole/src/p84.py) -/
theorem mem_places {L M : List Cond} (ps : List Nat) (h : (L == ps.filterMap (fun i => M[i]?)) = true) : ∀ w ∈ L, w ∈ M := by
  intro w hw
  have h1 : L = ps.filterMap (fun i => M[i]?) := by simpa using h
  rw [h1] at hw
  obtain ⟨i, -, hi⟩ := List.mem_filterMap.mp hw
  exact List.mem_of_getElem? hi
theorem mem_rng {α : Type} {f : Nat → α} {n i : Nat} (h : i < n) : f i ∈ (List.range n).map f := List.mem_map.mpr ⟨i, List.mem_range.mpr h, rfl⟩
def flN : List Cond := flatC (Jvm.Cond.and given_1 narrow_1)
def tmS (i : Nat) : Term := .string "EngineMonastery$CommandText" (70 + 2 * i)
theorem fl_exa : ∀ w ∈ (List.range 12).map (fun i => Cond.exactly (tmS i) "java/lang/String"), w ∈ flN := mem_places [133, 145, 159, 173, 187, 204, 219, 234, 249, 268, 290, 310] (by decide +kernel)
theorem fl_cod : ∀ w ∈ (List.range 12).map (fun i => Cond.eq (.field (tmS i) "java/lang/String" "coder" "B") (.int 0)), w ∈ flN := mem_places [134, 146, 160, 174, 188, 205, 220, 235, 250, 269, 291, 311] (by decide +kernel)
theorem fl_arr : ∀ w ∈ (List.range 12).map (fun i => Cond.arrayOf (.field (tmS i) "java/lang/String" "value" "[B") .byte), w ∈ flN := mem_places [135, 147, 161, 175, 189, 206, 221, 236, 251, 270, 292, 312] (by decide +kernel)
theorem fl_len : ∀ w ∈ (List.range 12).map (fun i => Cond.eq (.length (.field (tmS i) "java/lang/String" "value" "[B")) (.int (Int32.ofNat (lnS.getD i 0)))), w ∈ flN := mem_places [136, 148, 162, 176, 190, 207, 222, 237, 252, 271, 293, 313] (by decide +kernel)
theorem fl_el0 : ∀ w ∈ (List.range 8).map (fun j => Cond.eq (.elem (.field (tmS 0) "java/lang/String" "value" "[B") (.int (Int32.ofNat j))) (.int ((byS.getD 0 []).getD j 0))), w ∈ flN := mem_places [137, 138, 139, 140, 141, 142, 143, 144] (by decide +kernel)
theorem fl_el1 : ∀ w ∈ (List.range 9).map (fun j => Cond.eq (.elem (.field (tmS 1) "java/lang/String" "value" "[B") (.int (Int32.ofNat j))) (.int ((byS.getD 1 []).getD j 0))), w ∈ flN := mem_places [149, 150, 151, 152, 153, 154, 155, 156, 157] (by decide +kernel)
theorem fl_el2 : ∀ w ∈ (List.range 8).map (fun j => Cond.eq (.elem (.field (tmS 2) "java/lang/String" "value" "[B") (.int (Int32.ofNat j))) (.int ((byS.getD 2 []).getD j 0))), w ∈ flN := mem_places [163, 164, 165, 166, 167, 168, 169, 170] (by decide +kernel)
theorem fl_el3 : ∀ w ∈ (List.range 7).map (fun j => Cond.eq (.elem (.field (tmS 3) "java/lang/String" "value" "[B") (.int (Int32.ofNat j))) (.int ((byS.getD 3 []).getD j 0))), w ∈ flN := mem_places [177, 178, 179, 180, 181, 182, 183] (by decide +kernel)
theorem fl_el4 : ∀ w ∈ (List.range 9).map (fun j => Cond.eq (.elem (.field (tmS 4) "java/lang/String" "value" "[B") (.int (Int32.ofNat j))) (.int ((byS.getD 4 []).getD j 0))), w ∈ flN := mem_places [191, 192, 193, 194, 195, 196, 197, 198, 199] (by decide +kernel)
theorem fl_el5 : ∀ w ∈ (List.range 6).map (fun j => Cond.eq (.elem (.field (tmS 5) "java/lang/String" "value" "[B") (.int (Int32.ofNat j))) (.int ((byS.getD 5 []).getD j 0))), w ∈ flN := mem_places [208, 209, 210, 211, 212, 213] (by decide +kernel)
theorem fl_el6 : ∀ w ∈ (List.range 5).map (fun j => Cond.eq (.elem (.field (tmS 6) "java/lang/String" "value" "[B") (.int (Int32.ofNat j))) (.int ((byS.getD 6 []).getD j 0))), w ∈ flN := mem_places [223, 224, 225, 226, 227] (by decide +kernel)
theorem fl_el7 : ∀ w ∈ (List.range 4).map (fun j => Cond.eq (.elem (.field (tmS 7) "java/lang/String" "value" "[B") (.int (Int32.ofNat j))) (.int ((byS.getD 7 []).getD j 0))), w ∈ flN := mem_places [238, 239, 240, 241] (by decide +kernel)
theorem fl_el8 : ∀ w ∈ (List.range 7).map (fun j => Cond.eq (.elem (.field (tmS 8) "java/lang/String" "value" "[B") (.int (Int32.ofNat j))) (.int ((byS.getD 8 []).getD j 0))), w ∈ flN := mem_places [253, 254, 255, 256, 257, 258, 259] (by decide +kernel)
theorem fl_el9 : ∀ w ∈ (List.range 9).map (fun j => Cond.eq (.elem (.field (tmS 9) "java/lang/String" "value" "[B") (.int (Int32.ofNat j))) (.int ((byS.getD 9 []).getD j 0))), w ∈ flN := mem_places [272, 273, 274, 275, 276, 277, 278, 279, 280] (by decide +kernel)
theorem fl_el10 : ∀ w ∈ (List.range 6).map (fun j => Cond.eq (.elem (.field (tmS 10) "java/lang/String" "value" "[B") (.int (Int32.ofNat j))) (.int ((byS.getD 10 []).getD j 0))), w ∈ flN := mem_places [294, 295, 296, 297, 298, 299] (by decide +kernel)
theorem fl_el11 : ∀ w ∈ (List.range 6).map (fun j => Cond.eq (.elem (.field (tmS 11) "java/lang/String" "value" "[B") (.int (Int32.ofNat j))) (.int ((byS.getD 11 []).getD j 0))), w ∈ flN := mem_places [314, 315, 316, 317, 318, 319] (by decide +kernel)
theorem fl_el {i j : Nat} (hi : i < 12) (hj : j < lnS.getD i 0) : Cond.eq (.elem (.field (tmS i) "java/lang/String" "value" "[B") (.int (Int32.ofNat j))) (.int ((byS.getD i []).getD j 0)) ∈ flN := by
  match i, hi, hj with
  | 0, _, h => exact fl_el0 _ (mem_rng (n := 8) h)
  | 1, _, h => exact fl_el1 _ (mem_rng (n := 9) h)
  | 2, _, h => exact fl_el2 _ (mem_rng (n := 8) h)
  | 3, _, h => exact fl_el3 _ (mem_rng (n := 7) h)
  | 4, _, h => exact fl_el4 _ (mem_rng (n := 9) h)
  | 5, _, h => exact fl_el5 _ (mem_rng (n := 6) h)
  | 6, _, h => exact fl_el6 _ (mem_rng (n := 5) h)
  | 7, _, h => exact fl_el7 _ (mem_rng (n := 4) h)
  | 8, _, h => exact fl_el8 _ (mem_rng (n := 7) h)
  | 9, _, h => exact fl_el9 _ (mem_rng (n := 9) h)
  | 10, _, h => exact fl_el10 _ (mem_rng (n := 6) h)
  | 11, _, h => exact fl_el11 _ (mem_rng (n := 6) h)
  | k + 12, h, _ => exact absurd h (by omega)
theorem fl_ne1 : ∀ w ∈ (List.range 1).map (fun j => Cond.not (Cond.eq (tmS j) (tmS 1))), w ∈ flN := mem_places [158] (by decide +kernel)
theorem fl_ne2 : ∀ w ∈ (List.range 2).map (fun j => Cond.not (Cond.eq (tmS j) (tmS 2))), w ∈ flN := mem_places [171, 172] (by decide +kernel)
theorem fl_ne3 : ∀ w ∈ (List.range 3).map (fun j => Cond.not (Cond.eq (tmS j) (tmS 3))), w ∈ flN := mem_places [184, 185, 186] (by decide +kernel)
theorem fl_ne4 : ∀ w ∈ (List.range 4).map (fun j => Cond.not (Cond.eq (tmS j) (tmS 4))), w ∈ flN := mem_places [200, 201, 202, 203] (by decide +kernel)
theorem fl_ne5 : ∀ w ∈ (List.range 5).map (fun j => Cond.not (Cond.eq (tmS j) (tmS 5))), w ∈ flN := mem_places [214, 215, 216, 217, 218] (by decide +kernel)
theorem fl_ne6 : ∀ w ∈ (List.range 6).map (fun j => Cond.not (Cond.eq (tmS j) (tmS 6))), w ∈ flN := mem_places [228, 229, 230, 231, 232, 233] (by decide +kernel)
theorem fl_ne7 : ∀ w ∈ (List.range 7).map (fun j => Cond.not (Cond.eq (tmS j) (tmS 7))), w ∈ flN := mem_places [242, 243, 244, 245, 246, 247, 248] (by decide +kernel)
theorem fl_ne8 : ∀ w ∈ (List.range 8).map (fun j => Cond.not (Cond.eq (tmS j) (tmS 8))), w ∈ flN := mem_places [260, 261, 262, 263, 264, 265, 266, 267] (by decide +kernel)
theorem fl_ne9 : ∀ w ∈ (List.range 9).map (fun j => Cond.not (Cond.eq (tmS j) (tmS 9))), w ∈ flN := mem_places [281, 282, 283, 284, 285, 286, 287, 288, 289] (by decide +kernel)
theorem fl_ne10 : ∀ w ∈ (List.range 10).map (fun j => Cond.not (Cond.eq (tmS j) (tmS 10))), w ∈ flN := mem_places [300, 301, 302, 303, 304, 305, 306, 307, 308, 309] (by decide +kernel)
theorem fl_ne11 : ∀ w ∈ (List.range 11).map (fun j => Cond.not (Cond.eq (tmS j) (tmS 11))), w ∈ flN := mem_places [320, 321, 322, 323, 324, 325, 326, 327, 328, 329, 330] (by decide +kernel)
theorem fl_ne {i j : Nat} (hi : i < 12) (hj : j < i) : Cond.not (Cond.eq (tmS j) (tmS i)) ∈ flN := by
  match i, hi, hj with
  | 0, _, h => exact absurd h (Nat.not_lt_zero _)
  | 1, _, h => exact fl_ne1 _ (mem_rng (n := 1) h)
  | 2, _, h => exact fl_ne2 _ (mem_rng (n := 2) h)
  | 3, _, h => exact fl_ne3 _ (mem_rng (n := 3) h)
  | 4, _, h => exact fl_ne4 _ (mem_rng (n := 4) h)
  | 5, _, h => exact fl_ne5 _ (mem_rng (n := 5) h)
  | 6, _, h => exact fl_ne6 _ (mem_rng (n := 6) h)
  | 7, _, h => exact fl_ne7 _ (mem_rng (n := 7) h)
  | 8, _, h => exact fl_ne8 _ (mem_rng (n := 8) h)
  | 9, _, h => exact fl_ne9 _ (mem_rng (n := 9) h)
  | 10, _, h => exact fl_ne10 _ (mem_rng (n := 10) h)
  | 11, _, h => exact fl_ne11 _ (mem_rng (n := 11) h)
  | k + 12, h, _ => exact absurd h (by omega)
theorem fl_nc : ∀ w ∈ ncL.map (fun q => Cond.not (.castable q.1 q.2)), w ∈ flN := mem_places [24, 57, 58, 26, 59] (by decide +kernel)
theorem fl_uns : Cond.isRef (.static "java/lang/Throwable" "UNASSIGNED_STACK" "[Ljava/lang/StackTraceElement;") ∈ flN := List.mem_of_getElem? (i := 4) (by decide +kernel)
theorem fl_sup : Cond.isRef (.static "java/lang/Throwable" "SUPPRESSED_SENTINEL" "Ljava/util/List;") ∈ flN := List.mem_of_getElem? (i := 5) (by decide +kernel)
theorem fl_fmt : Cond.isRef (.static "jdk/internal/util/Preconditions" "SIOOBE_FORMATTER" "Ljava/util/function/BiFunction;") ∈ flN := List.mem_of_getElem? (i := 7) (by decide +kernel)
theorem fl_cmp : Cond.eq (.static "java/lang/String" "COMPACT_STRINGS" "Z") (.int 1) ∈ flN := List.mem_of_getElem? (i := 6) (by decide +kernel)
/-- words at places of the tables -/
theorem tb_nest : ∀ w ∈ nestL.map (fun q => Cond.methodLinkNest q.1 q.2.1 q.2.2.1 q.2.2.2), w ∈ lw_tbl := mem_places [115, 142, 160, 272, 285, 305, 318, 346, 548, 675, 913, 993, 1366] (by decide +kernel)
theorem tb_cast : ∀ w ∈ castL.map (fun X => Cond.castable X X), w ∈ lw_tbl := mem_places [556, 654, 833, 710, 1457] (by decide +kernel)
theorem decl_of {s : State} {args : Array Value} {x : MethodName} {bytes : ByteArray} {ml : Nat} {ret : Option FieldType} (h1 : (Cond.instanceMethod x).before args s = true) (h2 : (Cond.code x bytes ml ret).before args s = true) : (Cond.declares x).before args s = true := by
  obtain ⟨m, meth, a1, a2, a3, -⟩ := Cond.instanceMethod_spec h1
  obtain ⟨meth2, c, b1, -, -, -, -, -, -, b8⟩ := Cond.code_spec a1 h2
  have e : meth = meth2 := Option.some.inj (a2.symm.trans b1)
  subst e
  simp [Cond.before, Cond.holds, Cond.value, a1, a2, a3, b8]
theorem decl_start {s : State} {args : Array Value} (hts : ∀ w ∈ lw_tbl, w.before args s = true) : ∀ x ∈ declL, (Cond.declares x).before args s = true := by
  intro x hx
  obtain ⟨X, hX, rfl⟩ := List.mem_map.mp hx
  simp only [List.mem_cons, List.not_mem_nil, or_false] at hX
  rcases hX with rfl | rfl | rfl | rfl | rfl | rfl | rfl | rfl
  · exact hts _ (List.mem_of_getElem? (i := 887) (by decide +kernel))
  · exact decl_of (bytes := prog_20_method_1_code) (ml := 1) (ret := none) (hts _ (List.mem_of_getElem? (i := 662) (by decide +kernel))) (hts _ (List.mem_of_getElem? (i := 663) (by decide +kernel)))
  · exact decl_of (bytes := prog_21_method_1_code) (ml := 1) (ret := none) (hts _ (List.mem_of_getElem? (i := 841) (by decide +kernel))) (hts _ (List.mem_of_getElem? (i := 842) (by decide +kernel)))
  · exact decl_of (bytes := prog_32_method_1_code) (ml := 1) (ret := none) (hts _ (List.mem_of_getElem? (i := 718) (by decide +kernel))) (hts _ (List.mem_of_getElem? (i := 719) (by decide +kernel)))
  · exact decl_of (bytes := prog_15_method_1_code) (ml := 1) (ret := none) (hts _ (List.mem_of_getElem? (i := 1469) (by decide +kernel))) (hts _ (List.mem_of_getElem? (i := 1470) (by decide +kernel)))
  · exact hts _ (List.mem_of_getElem? (i := 557) (by decide +kernel))
  · exact hts _ (List.mem_of_getElem? (i := 559) (by decide +kernel))
  · exact hts _ (List.mem_of_getElem? (i := 561) (by decide +kernel))
theorem nst_start {s : State} {args : Array Value} (hts : ∀ w ∈ lw_tbl, w.before args s = true) : ∀ w ∈ nstW, va_Nw w s := by
  intro w h
  refine va_Nw.of (A := args) (nstW_tab h) ?_
  rcases List.mem_append.mp h with h | h
  · exact hts w (tb_nest w h)
  · rcases List.mem_append.mp h with h | h
    · obtain ⟨x, hx, rfl⟩ := List.mem_map.mp h
      exact decl_start hts x hx
    · exact hts w (tb_cast w h)
theorem tb_ao : ∀ w ∈ aoL.map (fun C => Cond.arrayOver (.object C)), w ∈ lw_tbl := mem_places [112, 257] (by decide +kernel)
theorem tb_str : ∀ w ∈ (List.range 12).map (fun i => Cond.stringRef "EngineMonastery$CommandText" (70 + 2 * i) (txS.getD i "")), w ∈ lw_tbl := mem_places [1298, 1299, 1300, 1301, 1302, 1303, 1304, 1305, 1306, 1307, 1308, 1309] (by decide +kernel)
theorem tb_uns : Cond.laysStatic "java/lang/Throwable" "UNASSIGNED_STACK" "[Ljava/lang/StackTraceElement;" ∈ lw_tbl := List.mem_of_getElem? (i := 581) (by decide +kernel)
theorem tb_sup : Cond.laysStatic "java/lang/Throwable" "SUPPRESSED_SENTINEL" "Ljava/util/List;" ∈ lw_tbl := List.mem_of_getElem? (i := 583) (by decide +kernel)
theorem tb_fmt : Cond.laysStatic "jdk/internal/util/Preconditions" "SIOOBE_FORMATTER" "Ljava/util/function/BiFunction;" ∈ lw_tbl := List.mem_of_getElem? (i := 1339) (by decide +kernel)
theorem tb_cmp : Cond.laysStatic "java/lang/String" "COMPACT_STRINGS" "Z" ∈ lw_tbl := List.mem_of_getElem? (i := 1323) (by decide +kernel)
theorem tb_ini_thr : Cond.initialized "java/lang/Throwable" ∈ lw_tbl := List.mem_of_getElem? (i := 82) (by decide +kernel)
theorem tb_ini_pre : Cond.initialized "jdk/internal/util/Preconditions" ∈ lw_tbl := List.mem_of_getElem? (i := 94) (by decide +kernel)
theorem tb_ini_str : Cond.initialized "java/lang/String" ∈ lw_tbl := List.mem_of_getElem? (i := 91) (by decide +kernel)
theorem tb_mk_J0 : Cond.instantiable RJ0 4 ∈ lw_tbl := List.mem_of_getElem? (i := 890) (by decide +kernel)
theorem tb_mk_Jx : Cond.instantiable RJx00060 6 ∈ lw_tbl := List.mem_of_getElem? (i := 864) (by decide +kernel)
theorem tb_ws_J0 : ∀ w ∈ u_ws RJ0 TJ0 2, w ∈ lw_tbl := mem_places [892, 894] (by decide +kernel)
theorem tb_ws_Jx : ∀ w ∈ u_ws RJx00060 TJx00060 6, w ∈ lw_tbl := mem_places [879, 880, 881, 882, 883, 884] (by decide +kernel)
theorem arr_start {s : State} {args : Array Value} {ty : FieldType} (hty : ty = .int ∨ ty = .char ∨ ty = .long ∨ ty = .double) (h : (Cond.arrayClass ty).before args s = true) : ∃ c : ClassId, ArrOfT s c ty ∧ va_RA s c ty := by
  obtain ⟨c, k, comp, h1, h2, h3⟩ := Cond.arrayClass_spec h
  refine ⟨c, fun n z => ⟨fun k0 hh => (by rcases hty with rfl | rfl | rfl | rfl <;> cases hh), k, h2, comp, h3⟩, ?_⟩
  rcases hty with rfl | rfl | rfl | rfl <;> exact h1
theorem arr_startO {s : State} {C : String} (h : va_AO C s) : ∃ c : ClassId, ArrOfT s c (.object C) ∧ va_RA s c (.object C) := by
  obtain ⟨comp, c, k, h1, h2, h3, h4, h5⟩ := Cond.arrayOver_spec h
  exact ⟨c, fun n z => ⟨fun k h => (by cases h), k, h3, comp, h4⟩, k, comp, h3, h4, h1, h5⟩
set_option maxRecDepth 100000 in
/-- the tables' facts at the law's entry -/
theorem start_Kt (l : Launch) {s : State} {args : Array Value} (hts : ∀ w ∈ lw_tbl, w.before args s = true) (hgv : (Jvm.Cond.and given_1 narrow_1).before args s = true) : ∃ u : Un, u.1 = l ∧ u.2.1 = s.heap.size ∧ Kt u s s.heap := by
  have hn : ∀ c ∈ flN, c.before args s = true := flat_of_before _ hgv
  have hw : ∀ w ∈ WALL, w.before args s = true := fun w h => hts w (WALL_tbl w h)
  obtain ⟨dC, dI, hKc⟩ : ∃ (dC : Nat → ClassId) (dI : Nat → Nat → Nat), ∀ (k : Nat) (q : vw_C), vwCl[k]? = some q → u_Kn s q.1 q.2.1 q.2.2 (dC k) (dI k) := by
    have h0 : ∀ k : Nat, ∃ p : ClassId × (Nat → Nat), ∀ q : vw_C, vwCl[k]? = some q → u_Kn s q.1 q.2.1 q.2.2 p.1 p.2 := by
      intro k
      match k with
      | 0 =>
        obtain ⟨c, j, h⟩ := u_known (C := RJ0) (T := TJ0) (N := 2) (n := 4) hts tb_ws_J0 (hts _ tb_mk_J0)
        refine ⟨(c, j), fun q hq => ?_⟩
        have e : (RJ0, TJ0, 2) = q := Option.some.inj ((show vwCl[0]? = some (RJ0, TJ0, 2) from rfl).symm.trans hq)
        subst e
        exact h
      | 1 =>
        obtain ⟨c, j, h⟩ := u_known (C := RJx00060) (T := TJx00060) (N := 6) (n := 6) hts tb_ws_Jx (hts _ tb_mk_Jx)
        refine ⟨(c, j), fun q hq => ?_⟩
        have e : (RJx00060, TJx00060, 6) = q := Option.some.inj ((show vwCl[1]? = some (RJx00060, TJx00060, 6) from rfl).symm.trans hq)
        subst e
        exact h
      | 2 =>
        obtain ⟨c, j, h⟩ := u_known (C := RX0) (T := TX0) (N := 6) (n := 6) hw wsX0_in (hw _ cwI_X0)
        refine ⟨(c, j), fun q hq => ?_⟩
        have e : (RX0, TX0, 6) = q := Option.some.inj ((show vwCl[2]? = some (RX0, TX0, 6) from rfl).symm.trans hq)
        subst e
        exact h
      | 3 =>
        obtain ⟨c, j, h⟩ := u_known (C := RX1) (T := TX1) (N := 9) (n := 9) hw wsX1_in (hw _ cwI_X1)
        refine ⟨(c, j), fun q hq => ?_⟩
        have e : (RX1, TX1, 9) = q := Option.some.inj ((show vwCl[3]? = some (RX1, TX1, 9) from rfl).symm.trans hq)
        subst e
        exact h
      | 4 =>
        obtain ⟨c, j, h⟩ := u_known (C := RX2) (T := TX2) (N := 2) (n := 2) hw wsX2_in (hw _ cwI_X2)
        refine ⟨(c, j), fun q hq => ?_⟩
        have e : (RX2, TX2, 2) = q := Option.some.inj ((show vwCl[4]? = some (RX2, TX2, 2) from rfl).symm.trans hq)
        subst e
        exact h
      | 5 =>
        obtain ⟨c, j, h⟩ := u_known (C := RX3) (T := TX3) (N := 12) (n := 12) hw wsX3_in (hw _ cwI_X3)
        refine ⟨(c, j), fun q hq => ?_⟩
        have e : (RX3, TX3, 12) = q := Option.some.inj ((show vwCl[5]? = some (RX3, TX3, 12) from rfl).symm.trans hq)
        subst e
        exact h
      | 6 =>
        obtain ⟨c, j, h⟩ := u_known (C := RX4) (T := TX4) (N := 3) (n := 3) hw wsX4_in (hw _ cwI_X4)
        refine ⟨(c, j), fun q hq => ?_⟩
        have e : (RX4, TX4, 3) = q := Option.some.inj ((show vwCl[6]? = some (RX4, TX4, 3) from rfl).symm.trans hq)
        subst e
        exact h
      | 7 =>
        obtain ⟨c, j, h⟩ := u_known (C := RX5) (T := TX5) (N := 2) (n := 2) hw wsX5_in (hw _ cwI_X5)
        refine ⟨(c, j), fun q hq => ?_⟩
        have e : (RX5, TX5, 2) = q := Option.some.inj ((show vwCl[7]? = some (RX5, TX5, 2) from rfl).symm.trans hq)
        subst e
        exact h
      | 8 =>
        obtain ⟨c, j, h⟩ := u_known (C := RX6) (T := TX6) (N := 3) (n := 3) hw wsX6_in (hw _ cwI_X6)
        refine ⟨(c, j), fun q hq => ?_⟩
        have e : (RX6, TX6, 3) = q := Option.some.inj ((show vwCl[8]? = some (RX6, TX6, 3) from rfl).symm.trans hq)
        subst e
        exact h
      | 9 =>
        obtain ⟨c, j, h⟩ := u_known (C := RX7) (T := TX7) (N := 2) (n := 2) hw wsX7_in (hw _ cwI_X7)
        refine ⟨(c, j), fun q hq => ?_⟩
        have e : (RX7, TX7, 2) = q := Option.some.inj ((show vwCl[9]? = some (RX7, TX7, 2) from rfl).symm.trans hq)
        subst e
        exact h
      | 10 =>
        obtain ⟨c, j, h⟩ := u_known (C := RX8) (T := TX8) (N := 4) (n := 4) hw wsX8_in (hw _ cwI_X8)
        refine ⟨(c, j), fun q hq => ?_⟩
        have e : (RX8, TX8, 4) = q := Option.some.inj ((show vwCl[10]? = some (RX8, TX8, 4) from rfl).symm.trans hq)
        subst e
        exact h
      | 11 =>
        obtain ⟨c, j, h⟩ := u_known (C := RX9) (T := TX9) (N := 4) (n := 4) hw wsX9_in (hw _ cwI_X9)
        refine ⟨(c, j), fun q hq => ?_⟩
        have e : (RX9, TX9, 4) = q := Option.some.inj ((show vwCl[11]? = some (RX9, TX9, 4) from rfl).symm.trans hq)
        subst e
        exact h
      | 12 =>
        obtain ⟨c, j, h⟩ := u_known (C := RX10) (T := TX10) (N := 13) (n := 13) hw wsX10_in (hw _ cwI_X10)
        refine ⟨(c, j), fun q hq => ?_⟩
        have e : (RX10, TX10, 13) = q := Option.some.inj ((show vwCl[12]? = some (RX10, TX10, 13) from rfl).symm.trans hq)
        subst e
        exact h
      | 13 =>
        obtain ⟨c, j, h⟩ := u_known (C := RX11) (T := TX11) (N := 25) (n := 25) hw wsX11_in (hw _ cwI_X11)
        refine ⟨(c, j), fun q hq => ?_⟩
        have e : (RX11, TX11, 25) = q := Option.some.inj ((show vwCl[13]? = some (RX11, TX11, 25) from rfl).symm.trans hq)
        subst e
        exact h
      | k + 14 => exact ⟨(0, fun _ => 0), fun q hq => by
          have : vwCl[k + 14]? = none := List.getElem?_eq_none (by show 14 ≤ k + 14; omega)
          rw [this] at hq
          cases hq⟩
    obtain ⟨f, hf⟩ := Classical.axiomOfChoice h0
    exact ⟨fun k => (f k).1, fun k => (f k).2, fun k q hq => hf k q hq⟩
  have hao : ∀ C ∈ aoL, va_AO C s := fun C hC => va_AO.of (hts _ (tb_ao _ (List.mem_map.mpr ⟨C, hC, rfl⟩)))
  obtain ⟨c0, hc0⟩ := arr_start (ty := .int) (Or.inl rfl) (hw _ wAC_int)
  obtain ⟨c1, hc1⟩ := arr_start (ty := .char) (Or.inr (Or.inl rfl)) (hw _ wAC_char)
  obtain ⟨c2, hc2⟩ := arr_startO (hao "EngineMonastery$Engine" (by decide))
  obtain ⟨c3, hc3⟩ := arr_startO (hao "EngineMonastery$House" (by decide))
  obtain ⟨c4, hc4⟩ := arr_start (ty := .long) (Or.inr (Or.inr (Or.inl rfl))) (hw _ wAC_long)
  obtain ⟨c5, hc5⟩ := arr_start (ty := .double) (Or.inr (Or.inr (Or.inr rfl))) (hw _ wAC_double)
  have hA : ∀ a : Nat, a < s.heap.size → ¬ (fun q : Nat => s.heap.size ≤ q) a := fun a ha => Nat.not_le.mpr ha
  have hL31 : ∀ i : Nat, i < 12 → lnS.getD i 0 < 2 ^ 31 := by decide
  obtain ⟨adK, adV, hv, hev⟩ := vk_Sof (args := args) (s := s) (N := 12) (tm := tmS) (len := lnS) (byt := byS) (A := fun q : Nat => s.heap.size ≤ q) hL31 (fun i hi => hn _ (fl_exa _ (mem_rng hi))) (fun i hi => hn _ (fl_cod _ (mem_rng hi))) (fun i hi => hn _ (fl_arr _ (mem_rng hi))) (fun i hi => hn _ (fl_len _ (mem_rng hi))) (fun i hi j hj => hn _ (fl_el hi hj))
    (fun i j hi hj hij => by
      rcases Nat.lt_or_gt_of_ne hij with h | h
      · exact Or.inl (hn _ (fl_ne hj h))
      · exact Or.inr (hn _ (fl_ne hi h))) hA
  obtain ⟨cf, hcf⟩ : ∃ cf : Nat → ClassId, cf = fun n => match n with
    | 0 => c0
    | 1 => c1
    | 2 => c2
    | 3 => c3
    | 4 => c4
    | 5 => c5
    | n => if n < 200 then adK (n - 100) else adV (n - 200) := ⟨_, rfl⟩
  have f0 : cf 0 = c0 := by rw [hcf]; rfl
  have f1 : cf 1 = c1 := by rw [hcf]; rfl
  have f2 : cf 2 = c2 := by rw [hcf]; rfl
  have f3 : cf 3 = c3 := by rw [hcf]; rfl
  have f4 : cf 4 = c4 := by rw [hcf]; rfl
  have f5 : cf 5 = c5 := by rw [hcf]; rfl
  have fK : ∀ i, i < 12 → cf (100 + i) = adK i := by
    intro i hi
    have e : ∀ m, m = 100 + i → cf m = adK i := by
      intro m hm
      rw [hcf]
      match m, hm with
      | 0, h => exact absurd h (by omega)
      | 1, h => exact absurd h (by omega)
      | 2, h => exact absurd h (by omega)
      | 3, h => exact absurd h (by omega)
      | 4, h => exact absurd h (by omega)
      | 5, h => exact absurd h (by omega)
      | k + 6, h =>
        show (if k + 6 < 200 then adK (k + 6 - 100) else adV (k + 6 - 200)) = adK i
        rw [if_pos (by omega), show k + 6 - 100 = i by omega]
    exact e _ rfl
  have fV : ∀ i, i < 12 → cf (200 + i) = adV i := by
    intro i hi
    have e : ∀ m, m = 200 + i → cf m = adV i := by
      intro m hm
      rw [hcf]
      match m, hm with
      | 0, h => exact absurd h (by omega)
      | 1, h => exact absurd h (by omega)
      | 2, h => exact absurd h (by omega)
      | 3, h => exact absurd h (by omega)
      | 4, h => exact absurd h (by omega)
      | 5, h => exact absurd h (by omega)
      | k + 6, h =>
        show (if k + 6 < 200 then adK (k + 6 - 100) else adV (k + 6 - 200)) = adV i
        rw [if_neg (by omega), show k + 6 - 200 = i by omega]
    exact e _ rfl
  clear hcf
  refine ⟨(l, s.heap.size, (dC, dI), cf), rfl, rfl, ⟨hKc, fun k q hq => ?_⟩, Nat.le_refl _, ?_, ?_, ⟨nst_start hts, fun q hq => va_Nc.of (hn _ (fl_nc _ (List.mem_map.mpr ⟨q, hq, rfl⟩))), hao⟩, ⟨fun i hi => ?_, fun i j hi hj => ?_⟩, fun i hi => ?_, ?_, ?_⟩
  · have hq2 : [(cf 0, FieldType.int), (cf 1, .char), (cf 2, .object "EngineMonastery$Engine"), (cf 3, .object "EngineMonastery$House"), (cf 4, .long), (cf 5, .double)][k]? = some q := hq
    rw [f0, f1, f2, f3, f4, f5] at hq2
    match k, hq2 with
    | 0, h => cases h; exact hc0
    | 1, h => cases h; exact hc1
    | 2, h => cases h; exact hc2
    | 3, h => cases h; exact hc3
    | 4, h => cases h; exact hc4
    | 5, h => cases h; exact hc5
    | k + 6, h => cases h
  · exact vx_Zqof (hts _ tb_uns) (hts _ tb_ini_thr) (hn _ fl_uns) hA
  · exact vx_Zqof (hts _ tb_sup) (hts _ tb_ini_thr) (hn _ fl_sup) hA
  · show va_O "java/lang/String" (cf (100 + i)) _ s s.heap ∧ va_OF "java/lang/String" "coder" "B" (.int 0) (cf (100 + i)) _ s s.heap ∧ va_OF "java/lang/String" "value" "[B" (.ref (cf (200 + i))) (cf (100 + i)) _ s s.heap ∧ va_T .byte (cf (200 + i)) (lnS.getD i 0) (fun j => .int ((byS.getD i []).getD j 0)) _ s s.heap
    rw [fK i hi, fV i hi]
    exact hv.1 i hi
  · show cf (100 + i) = cf (100 + j) → i = j
    rw [fK i hi, fK j hj]
    exact hv.2 i j hi hj
  · show vk_R "EngineMonastery$CommandText" (70 + 2 * i) (txS.getD i "") (cf (100 + i)) s
    rw [fK i hi]
    exact vk_R.of (hts _ (tb_str _ (mem_rng hi))) (hev i hi)
  · exact va_Zof (hts _ tb_cmp) (hts _ tb_ini_str) (va_eqt (hn _ fl_cmp)) hA
  · exact va_Zqof (hts _ tb_fmt) (hts _ tb_ini_pre) (hn _ fl_fmt) hA
