/-! THE WORLD OF DATA (printed by wip/whole/tools/data.py): 367 cells, a fixed shape, numbers J cell place -/
abbrev Shp : Type := (Nat × Nat) ⊕ (Nat × List (Option Nat))
abbrev DJ : Type := Nat → Nat → Nat
abbrev Gn : Type := Un × (Nat → Nat)
def shE (k r : Nat) : Shp := match r with
  | 0 => .inr (3, [some (k + 1), some (k + 2), some (k + 3), some (k + 4), none, none, none, none, none])
  | 1 => .inl (0, 8)
  | 2 => .inl (0, 8)
  | 3 => .inl (0, 8)
  | _ => .inl (0, 24)
def shR (k r : Nat) : Shp := match r with
  | 0 => .inr (10, [some (k + 1), some (k + 2), some (k + 3), none])
  | _ => .inl (0, 8)
def shK (k r : Nat) : Shp := match r with
  | 0 => .inr (6, [some (k + 1), some (k + 2), none])
  | _ => .inl (0, 12)
def shH (b o : Nat) : Shp :=
  if o = 0 then .inr (5, [some (b + 1), some (b + 2), some (b + 3), some (b + 7), none, none, none, none, none, none, none, none])
  else if o = 1 then .inl (2, 4)
  else if o = 2 then .inl (0, 6)
  else if o < 7 then shR (b + 3) (o - 3)
  else if o < 10 then shK (b + 7) (o - 7)
  else shE (b + 10 + 5 * ((o - 10) / 5)) ((o - 10) % 5)
def shT (k : Nat) : Shp := match k with
  | 0 => .inr (4, [some 334, some 335])
  | 1 => .inl (0, 2048)
  | 2 => .inl (0, 8)
  | 3 => .inr (11, [some 337, some 338, some 339, some 340])
  | 4 => .inl (0, 576)
  | 5 => .inl (0, 6)
  | 6 => .inl (0, 6)
  | 7 => .inl (0, 8)
  | 8 => .inr (9, [some 342, some 343])
  | 9 => .inl (0, 8)
  | 10 => .inl (0, 256)
  | 11 => .inr (2, [some 345, none, some 346, some 347, none, none])
  | 12 => .inl (1, 60)
  | 13 => .inl (0, 13)
  | 14 => .inl (0, 39)
  | 15 => .inr (7, [some 349, none])
  | 16 => .inl (1, 19)
  | 17 => .inl (0, 24)
  | 18 => .inr (13, [some 352, some 353, some 354, none, some 355, none, none, none, none, some 356, none, some 357, none, some 358, some 359, some 360, some 361, some 362, some 363, none, none, none, none, some 364, none])
  | 19 => .inl (0, 269)
  | 20 => .inl (0, 269)
  | 21 => .inl (0, 269)
  | 22 => .inl (0, 2152)
  | 23 => .inl (0, 60)
  | 24 => .inl (0, 32)
  | 25 => .inl (0, 576)
  | 26 => .inl (0, 8)
  | 27 => .inl (0, 2048)
  | 28 => .inl (1, 59)
  | 29 => .inl (0, 13)
  | 30 => .inl (0, 244)
  | 31 => .inl (0, 40)
  | 32 => .inl (4, 1)
  | _ => .inl (5, 1)
def shp (k : Nat) : Shp :=
  if k = 0 then .inr (12, [some 1, some 31, some 61, some 91, some 333, some 336, some 341, some 344, some 348, some 350, none, none, none])
  else if k < 91 then shH (1 + 30 * ((k - 1) / 30)) ((k - 1) % 30)
  else if k = 91 then .inr (8, [some 92, none, none])
  else if k = 92 then .inl (3, 8)
  else if k < 333 then shH (93 + 30 * ((k - 93) / 30)) ((k - 93) % 30)
  else shT (k - 333)
def fldV (ad row : Nat → Nat) : List (Option Nat) → Nat → List Value
  | [], _ => []
  | none :: t, j => .int (nI (row j)) :: fldV ad row t (j + 1)
  | some r :: t, j => .ref (ad r) :: fldV ad row t (j + 1)
def celR (u : Un) (ad : Nat → Nat) (k : Nat) (row : Nat → Nat) : va_E := match shp k with
  | .inr (ci, sl) => .inr (ci, fldV ad row sl 0)
  | .inl (t, n) => match t with
    | 0 => .inl (u.2.2.2 0, n, .inl (fun j => nI (row j)))
    | 1 => .inl (u.2.2.2 1, n, .inl (fun j => nI (row j)))
    | 2 => .inl (u.2.2.2 2, n, .inr (.inr (.inr (.inr (fun j => some (ad (k + 9 + 5 * j)))))))
    | 3 => .inl (u.2.2.2 3, n, .inr (.inr (.inr (.inr (fun j => some (ad (93 + 30 * j)))))))
    | 4 => .inl (u.2.2.2 4, n, .inr (.inl (fun j => Int64.ofNat (row j))))
    | _ => .inl (u.2.2.2 5, n, .inr (.inr (.inr (.inl (fun j => UInt64.ofNat (row j))))))
def wd (g : Gn) (J : DJ) : va_W := (List.range 367).map (fun k => (g.2 k, celR g.1 g.2 k (J k)))
def up2 (J : DJ) (k j v : Nat) : DJ := fun k' => if k' = k then (fun j' => if j' = j then v else J k j') else J k'
theorem up2_app (J : DJ) (k j v k' j' : Nat) : up2 J k j v k' j' = if k' = k ∧ j' = j then v else J k' j' := by
  unfold up2
  by_cases h : k' = k
  · subst h; by_cases h2 : j' = j <;> simp [h2]
  · simp [h]
/-- n places of cell s from sp on go into cell t from dp on -/
def cp2 (J : DJ) (s sp t dp n : Nat) : DJ := fun k' => if k' = t then (fun j => if dp ≤ j ∧ j < dp + n then J s (sp + (j - dp)) else J t j) else J k'
theorem cp2_app (J : DJ) (s sp t dp n k' j : Nat) : cp2 J s sp t dp n k' j = if k' = t ∧ dp ≤ j ∧ j < dp + n then J s (sp + (j - dp)) else J k' j := by
  unfold cp2
  by_cases h : k' = t
  · subst h; simp
  · simp [h]
theorem wd_get (g : Gn) (J : DJ) {k : Nat} (hk : k < 367) : (wd g J)[k]? = some (g.2 k, celR g.1 g.2 k (J k)) := by
  unfold wd
  rw [List.getElem?_map, List.getElem?_range hk]
  rfl
theorem wd_set (g : Gn) (J J' : DJ) {k : Nat} {e : va_E} (he : e = celR g.1 g.2 k (J' k)) (ho : ∀ i, i ≠ k → J' i = J i) : (wd g J).set k (g.2 k, e) = wd g J' := by
  apply List.ext_getElem?
  intro i
  rw [List.getElem?_set]
  by_cases hi : i < 367
  · rw [wd_get g J' hi]
    by_cases h : k = i
    · subst h
      have : k < (wd g J).length := by unfold wd; simpa using hi
      simp [this, he]
    · rw [if_neg h, wd_get g J hi, ho i (fun e => h e.symm)]
  · have h1 : (wd g J')[i]? = none := by rw [List.getElem?_eq_none_iff]; unfold wd; simp; omega
    have h2 : (wd g J)[i]? = none := by rw [List.getElem?_eq_none_iff]; unfold wd; simp; omega
    rw [h1]
    by_cases h : k = i
    · subst h
      have : ¬ k < (wd g J).length := by unfold wd; simp; omega
      simp [this]
    · rw [if_neg h, h2]
theorem fldV_get (ad row : Nat → Nat) : ∀ (sl : List (Option Nat)) (i j : Nat), (fldV ad row sl i)[j]? = (sl[j]?).map (fun o => match o with | none => Value.int (nI (row (i + j))) | some r => Value.ref (ad r))
  | [], i, j => by simp [fldV]
  | none :: t, i, 0 => by simp [fldV]
  | some r :: t, i, 0 => by simp [fldV]
  | none :: t, i, j + 1 => by simp [fldV, fldV_get ad row t (i + 1) j, Nat.add_comm, Nat.add_left_comm]
  | some r :: t, i, j + 1 => by simp [fldV, fldV_get ad row t (i + 1) j, Nat.add_comm, Nat.add_left_comm]
theorem fldV_len (ad row : Nat → Nat) : ∀ (sl : List (Option Nat)) (i : Nat), (fldV ad row sl i).length = sl.length
  | [], i => rfl
  | none :: t, i => by simp [fldV, fldV_len ad row t (i + 1)]
  | some r :: t, i => by simp [fldV, fldV_len ad row t (i + 1)]
theorem fldV_set (ad row : Nat → Nat) (v : Nat) {sl : List (Option Nat)} {j : Nat} (h : sl[j]? = some none) : (fldV ad row sl 0).set j (.int (nI v)) = fldV ad (fun i => if i = j then v else row i) sl 0 := by
  apply List.ext_getElem?
  intro i
  rw [List.getElem?_set, fldV_get, fldV_get, fldV_len]
  by_cases e : j = i
  · subst e
    have hl : j < sl.length := (List.getElem?_eq_some_iff.mp h).1
    rw [h, if_pos rfl, if_pos hl]
    simp
  · rw [if_neg e]
    cases hs : sl[i]? with
    | none => rfl
    | some o =>
      cases o with
      | none =>
        show some (Value.int (nI (row (0 + i)))) = some (Value.int (nI (if 0 + i = j then v else row (0 + i))))
        rw [if_neg (by omega)]
      | some r => rfl
def isH (b : Nat) : Prop := b = 1 ∨ b = 31 ∨ b = 61 ∨ ∃ i, i < 8 ∧ b = 93 + 30 * i
def isE (k : Nat) : Prop := ∃ b e, isH b ∧ e < 4 ∧ k = b + 10 + 5 * e
def isR (k : Nat) : Prop := ∃ b, isH b ∧ k = b + 3
def isK (k : Nat) : Prop := ∃ b, isH b ∧ k = b + 7
theorem isH_1 : isH 1 := Or.inl rfl
theorem isH_31 : isH 31 := Or.inr (Or.inl rfl)
theorem isH_61 : isH 61 := Or.inr (Or.inr (Or.inl rfl))
theorem isH_p {i : Nat} (h : i < 8) : isH (93 + 30 * i) := Or.inr (Or.inr (Or.inr ⟨i, h, rfl⟩))
theorem isH_le {b : Nat} (h : isH b) : b ≤ 303 := by
  rcases h with h | h | h | ⟨i, h1, h2⟩ <;> omega
theorem isH_E {b e : Nat} (hb : isH b) (he : e < 4) : isE (b + 10 + 5 * e) := ⟨b, e, hb, he, rfl⟩
theorem isH_R {b : Nat} (hb : isH b) : isR (b + 3) := ⟨b, hb, rfl⟩
theorem isH_K {b : Nat} (hb : isH b) : isK (b + 7) := ⟨b, hb, rfl⟩
theorem isE_lt {k : Nat} (h : isE k) : k + 4 < 367 := by
  obtain ⟨b, e, hb, he, rfl⟩ := h
  have := isH_le hb; omega
theorem isR_lt {k : Nat} (h : isR k) : k + 3 < 367 := by
  obtain ⟨b, hb, rfl⟩ := h
  have := isH_le hb; omega
theorem isK_lt {k : Nat} (h : isK k) : k + 2 < 367 := by
  obtain ⟨b, hb, rfl⟩ := h
  have := isH_le hb; omega
theorem shp_h {b o : Nat} (hb : isH b) (ho : o < 30) : shp (b + o) = shH b o := by
  have key : ∀ c, (c = 1 ∨ c = 31 ∨ c = 61) → shp (c + o) = shH c o := by
    intro c hc
    unfold shp
    rw [if_neg (by omega), if_pos (by omega)]
    have e1 : 1 + 30 * ((c + o - 1) / 30) = c := by omega
    have e2 : (c + o - 1) % 30 = o := by omega
    rw [e1, e2]
  rcases hb with h | h | h | ⟨i, hi, h⟩
  · exact key b (Or.inl h)
  · exact key b (Or.inr (Or.inl h))
  · exact key b (Or.inr (Or.inr h))
  · unfold shp
    rw [if_neg (by omega), if_neg (by omega), if_neg (by omega), if_neg (by omega), if_pos (by omega)]
    have e1 : 93 + 30 * ((b + o - 93) / 30) = b := by omega
    have e2 : (b + o - 93) % 30 = o := by omega
    rw [e1, e2]
theorem shp_e {k r : Nat} (hk : isE k) (hr : r < 5) : shp (k + r) = shE k r := by
  obtain ⟨b, e, hb, he, rfl⟩ := hk
  have e0 : b + 10 + 5 * e + r = b + (10 + 5 * e + r) := by omega
  rw [e0, shp_h hb (by omega)]
  unfold shH
  rw [if_neg (by omega), if_neg (by omega), if_neg (by omega), if_neg (by omega), if_neg (by omega)]
  have e1 : (10 + 5 * e + r - 10) / 5 = e := by omega
  have e2 : (10 + 5 * e + r - 10) % 5 = r := by omega
  rw [e1, e2]
theorem shp_r {k r : Nat} (hk : isR k) (hr : r < 4) : shp (k + r) = shR k r := by
  obtain ⟨b, hb, rfl⟩ := hk
  have e0 : b + 3 + r = b + (3 + r) := by omega
  rw [e0, shp_h hb (by omega)]
  unfold shH
  rw [if_neg (by omega), if_neg (by omega), if_neg (by omega), if_pos (by omega)]
  have e1 : 3 + r - 3 = r := by omega
  rw [e1]
theorem shp_k {k r : Nat} (hk : isK k) (hr : r < 3) : shp (k + r) = shK k r := by
  obtain ⟨b, hb, rfl⟩ := hk
  have e0 : b + 7 + r = b + (7 + r) := by omega
  rw [e0, shp_h hb (by omega)]
  unfold shH
  rw [if_neg (by omega), if_neg (by omega), if_neg (by omega), if_neg (by omega), if_pos (by omega)]
  have e1 : 7 + r - 7 = r := by omega
  rw [e1]

theorem wsX0_in : ∀ w ∈ u_ws RX0 TX0 6, w ∈ WALL := List.forall_mem_cons.mpr ⟨inWALL (w := u_lay RX0 TX0 0) 330 (by decide +kernel) (by decide +kernel), List.forall_mem_cons.mpr ⟨inWALL (w := u_lay RX0 TX0 1) 332 (by decide +kernel) (by decide +kernel), List.forall_mem_cons.mpr ⟨inWALL (w := u_lay RX0 TX0 2) 334 (by decide +kernel) (by decide +kernel), List.forall_mem_cons.mpr ⟨inWALL (w := u_lay RX0 TX0 3) 336 (by decide +kernel) (by decide +kernel), List.forall_mem_cons.mpr ⟨inWALL (w := u_lay RX0 TX0 4) 338 (by decide +kernel) (by decide +kernel), List.forall_mem_cons.mpr ⟨inWALL (w := u_lay RX0 TX0 5) 340 (by decide +kernel) (by decide +kernel), fun _ h => absurd h List.not_mem_nil⟩⟩⟩⟩⟩⟩
theorem wsX1_in : ∀ w ∈ u_ws RX1 TX1 9, w ∈ WALL := List.forall_mem_cons.mpr ⟨inWALL (w := u_lay RX1 TX1 0) 183 (by decide +kernel) (by decide +kernel), List.forall_mem_cons.mpr ⟨inWALL (w := u_lay RX1 TX1 1) 185 (by decide +kernel) (by decide +kernel), List.forall_mem_cons.mpr ⟨inWALL (w := u_lay RX1 TX1 2) 187 (by decide +kernel) (by decide +kernel), List.forall_mem_cons.mpr ⟨inWALL (w := u_lay RX1 TX1 3) 189 (by decide +kernel) (by decide +kernel), List.forall_mem_cons.mpr ⟨inWALL (w := u_lay RX1 TX1 4) 191 (by decide +kernel) (by decide +kernel), List.forall_mem_cons.mpr ⟨inWALL (w := u_lay RX1 TX1 5) 193 (by decide +kernel) (by decide +kernel), List.forall_mem_cons.mpr ⟨inWALL (w := u_lay RX1 TX1 6) 195 (by decide +kernel) (by decide +kernel), List.forall_mem_cons.mpr ⟨inWALL (w := u_lay RX1 TX1 7) 197 (by decide +kernel) (by decide +kernel), List.forall_mem_cons.mpr ⟨inWALL (w := u_lay RX1 TX1 8) 199 (by decide +kernel) (by decide +kernel), fun _ h => absurd h List.not_mem_nil⟩⟩⟩⟩⟩⟩⟩⟩⟩
theorem wsX2_in : ∀ w ∈ u_ws RX2 TX2 2, w ∈ WALL := List.forall_mem_cons.mpr ⟨inWALL (w := u_lay RX2 TX2 0) 278 (by decide +kernel) (by decide +kernel), List.forall_mem_cons.mpr ⟨inWALL (w := u_lay RX2 TX2 1) 280 (by decide +kernel) (by decide +kernel), fun _ h => absurd h List.not_mem_nil⟩⟩
theorem wsX3_in : ∀ w ∈ u_ws RX3 TX3 12, w ∈ WALL := List.forall_mem_cons.mpr ⟨inWALL (w := u_lay RX3 TX3 0) 225 (by decide +kernel) (by decide +kernel), List.forall_mem_cons.mpr ⟨inWALL (w := u_lay RX3 TX3 1) 227 (by decide +kernel) (by decide +kernel), List.forall_mem_cons.mpr ⟨inWALL (w := u_lay RX3 TX3 2) 229 (by decide +kernel) (by decide +kernel), List.forall_mem_cons.mpr ⟨inWALL (w := u_lay RX3 TX3 3) 231 (by decide +kernel) (by decide +kernel), List.forall_mem_cons.mpr ⟨inWALL (w := u_lay RX3 TX3 4) 233 (by decide +kernel) (by decide +kernel), List.forall_mem_cons.mpr ⟨inWALL (w := u_lay RX3 TX3 5) 235 (by decide +kernel) (by decide +kernel), List.forall_mem_cons.mpr ⟨inWALL (w := u_lay RX3 TX3 6) 237 (by decide +kernel) (by decide +kernel), List.forall_mem_cons.mpr ⟨inWALL (w := u_lay RX3 TX3 7) 239 (by decide +kernel) (by decide +kernel), List.forall_mem_cons.mpr ⟨inWALL (w := u_lay RX3 TX3 8) 241 (by decide +kernel) (by decide +kernel), List.forall_mem_cons.mpr ⟨inWALL (w := u_lay RX3 TX3 9) 243 (by decide +kernel) (by decide +kernel), List.forall_mem_cons.mpr ⟨inWALL (w := u_lay RX3 TX3 10) 245 (by decide +kernel) (by decide +kernel), List.forall_mem_cons.mpr ⟨inWALL (w := u_lay RX3 TX3 11) 247 (by decide +kernel) (by decide +kernel), fun _ h => absurd h List.not_mem_nil⟩⟩⟩⟩⟩⟩⟩⟩⟩⟩⟩⟩
theorem wsX4_in : ∀ w ∈ u_ws RX4 TX4 3, w ∈ WALL := List.forall_mem_cons.mpr ⟨inWALL (w := u_lay RX4 TX4 0) 152 (by decide +kernel) (by decide +kernel), List.forall_mem_cons.mpr ⟨inWALL (w := u_lay RX4 TX4 1) 154 (by decide +kernel) (by decide +kernel), List.forall_mem_cons.mpr ⟨inWALL (w := u_lay RX4 TX4 2) 156 (by decide +kernel) (by decide +kernel), fun _ h => absurd h List.not_mem_nil⟩⟩⟩
theorem wsX5_in : ∀ w ∈ u_ws RX5 TX5 2, w ∈ WALL := List.forall_mem_cons.mpr ⟨inWALL (w := u_lay RX5 TX5 0) 354 (by decide +kernel) (by decide +kernel), List.forall_mem_cons.mpr ⟨inWALL (w := u_lay RX5 TX5 1) 356 (by decide +kernel) (by decide +kernel), fun _ h => absurd h List.not_mem_nil⟩⟩
theorem wsX6_in : ∀ w ∈ u_ws RX6 TX6 3, w ∈ WALL := List.forall_mem_cons.mpr ⟨inWALL (w := u_lay RX6 TX6 0) 263 (by decide +kernel) (by decide +kernel), List.forall_mem_cons.mpr ⟨inWALL (w := u_lay RX6 TX6 1) 265 (by decide +kernel) (by decide +kernel), List.forall_mem_cons.mpr ⟨inWALL (w := u_lay RX6 TX6 2) 267 (by decide +kernel) (by decide +kernel), fun _ h => absurd h List.not_mem_nil⟩⟩⟩
theorem wsX7_in : ∀ w ∈ u_ws RX7 TX7 2, w ∈ WALL := List.forall_mem_cons.mpr ⟨inWALL (w := u_lay RX7 TX7 0) 311 (by decide +kernel) (by decide +kernel), List.forall_mem_cons.mpr ⟨inWALL (w := u_lay RX7 TX7 1) 313 (by decide +kernel) (by decide +kernel), fun _ h => absurd h List.not_mem_nil⟩⟩
theorem wsX8_in : ∀ w ∈ u_ws RX8 TX8 4, w ∈ WALL := List.forall_mem_cons.mpr ⟨inWALL (w := u_lay RX8 TX8 0) 130 (by decide +kernel) (by decide +kernel), List.forall_mem_cons.mpr ⟨inWALL (w := u_lay RX8 TX8 1) 132 (by decide +kernel) (by decide +kernel), List.forall_mem_cons.mpr ⟨inWALL (w := u_lay RX8 TX8 2) 134 (by decide +kernel) (by decide +kernel), List.forall_mem_cons.mpr ⟨inWALL (w := u_lay RX8 TX8 3) 136 (by decide +kernel) (by decide +kernel), fun _ h => absurd h List.not_mem_nil⟩⟩⟩⟩
theorem wsX9_in : ∀ w ∈ u_ws RX9 TX9 4, w ∈ WALL := List.forall_mem_cons.mpr ⟨inWALL (w := u_lay RX9 TX9 0) 294 (by decide +kernel) (by decide +kernel), List.forall_mem_cons.mpr ⟨inWALL (w := u_lay RX9 TX9 1) 296 (by decide +kernel) (by decide +kernel), List.forall_mem_cons.mpr ⟨inWALL (w := u_lay RX9 TX9 2) 298 (by decide +kernel) (by decide +kernel), List.forall_mem_cons.mpr ⟨inWALL (w := u_lay RX9 TX9 3) 300 (by decide +kernel) (by decide +kernel), fun _ h => absurd h List.not_mem_nil⟩⟩⟩⟩
theorem wsX10_in : ∀ w ∈ u_ws RX10 TX10 13, w ∈ WALL := List.forall_mem_cons.mpr ⟨inWALL (w := u_lay RX10 TX10 0) 372 (by decide +kernel) (by decide +kernel), List.forall_mem_cons.mpr ⟨inWALL (w := u_lay RX10 TX10 1) 374 (by decide +kernel) (by decide +kernel), List.forall_mem_cons.mpr ⟨inWALL (w := u_lay RX10 TX10 2) 376 (by decide +kernel) (by decide +kernel), List.forall_mem_cons.mpr ⟨inWALL (w := u_lay RX10 TX10 3) 378 (by decide +kernel) (by decide +kernel), List.forall_mem_cons.mpr ⟨inWALL (w := u_lay RX10 TX10 4) 380 (by decide +kernel) (by decide +kernel), List.forall_mem_cons.mpr ⟨inWALL (w := u_lay RX10 TX10 5) 382 (by decide +kernel) (by decide +kernel), List.forall_mem_cons.mpr ⟨inWALL (w := u_lay RX10 TX10 6) 384 (by decide +kernel) (by decide +kernel), List.forall_mem_cons.mpr ⟨inWALL (w := u_lay RX10 TX10 7) 386 (by decide +kernel) (by decide +kernel), List.forall_mem_cons.mpr ⟨inWALL (w := u_lay RX10 TX10 8) 388 (by decide +kernel) (by decide +kernel), List.forall_mem_cons.mpr ⟨inWALL (w := u_lay RX10 TX10 9) 390 (by decide +kernel) (by decide +kernel), List.forall_mem_cons.mpr ⟨inWALL (w := u_lay RX10 TX10 10) 392 (by decide +kernel) (by decide +kernel), List.forall_mem_cons.mpr ⟨inWALL (w := u_lay RX10 TX10 11) 394 (by decide +kernel) (by decide +kernel), List.forall_mem_cons.mpr ⟨inWALL (w := u_lay RX10 TX10 12) 396 (by decide +kernel) (by decide +kernel), fun _ h => absurd h List.not_mem_nil⟩⟩⟩⟩⟩⟩⟩⟩⟩⟩⟩⟩⟩
theorem wsX11_in : ∀ w ∈ u_ws RX11 TX11 25, w ∈ WALL := List.forall_mem_cons.mpr ⟨inWALL (w := u_lay RX11 TX11 0) 1525 (by decide +kernel) (by decide +kernel), List.forall_mem_cons.mpr ⟨inWALL (w := u_lay RX11 TX11 1) 1527 (by decide +kernel) (by decide +kernel), List.forall_mem_cons.mpr ⟨inWALL (w := u_lay RX11 TX11 2) 1529 (by decide +kernel) (by decide +kernel), List.forall_mem_cons.mpr ⟨inWALL (w := u_lay RX11 TX11 3) 1531 (by decide +kernel) (by decide +kernel), List.forall_mem_cons.mpr ⟨inWALL (w := u_lay RX11 TX11 4) 1533 (by decide +kernel) (by decide +kernel), List.forall_mem_cons.mpr ⟨inWALL (w := u_lay RX11 TX11 5) 1535 (by decide +kernel) (by decide +kernel), List.forall_mem_cons.mpr ⟨inWALL (w := u_lay RX11 TX11 6) 1537 (by decide +kernel) (by decide +kernel), List.forall_mem_cons.mpr ⟨inWALL (w := u_lay RX11 TX11 7) 1539 (by decide +kernel) (by decide +kernel), List.forall_mem_cons.mpr ⟨inWALL (w := u_lay RX11 TX11 8) 1541 (by decide +kernel) (by decide +kernel), List.forall_mem_cons.mpr ⟨inWALL (w := u_lay RX11 TX11 9) 1543 (by decide +kernel) (by decide +kernel), List.forall_mem_cons.mpr ⟨inWALL (w := u_lay RX11 TX11 10) 1545 (by decide +kernel) (by decide +kernel), List.forall_mem_cons.mpr ⟨inWALL (w := u_lay RX11 TX11 11) 1547 (by decide +kernel) (by decide +kernel), List.forall_mem_cons.mpr ⟨inWALL (w := u_lay RX11 TX11 12) 1549 (by decide +kernel) (by decide +kernel), List.forall_mem_cons.mpr ⟨inWALL (w := u_lay RX11 TX11 13) 1551 (by decide +kernel) (by decide +kernel), List.forall_mem_cons.mpr ⟨inWALL (w := u_lay RX11 TX11 14) 1553 (by decide +kernel) (by decide +kernel), List.forall_mem_cons.mpr ⟨inWALL (w := u_lay RX11 TX11 15) 1555 (by decide +kernel) (by decide +kernel), List.forall_mem_cons.mpr ⟨inWALL (w := u_lay RX11 TX11 16) 1557 (by decide +kernel) (by decide +kernel), List.forall_mem_cons.mpr ⟨inWALL (w := u_lay RX11 TX11 17) 1559 (by decide +kernel) (by decide +kernel), List.forall_mem_cons.mpr ⟨inWALL (w := u_lay RX11 TX11 18) 1561 (by decide +kernel) (by decide +kernel), List.forall_mem_cons.mpr ⟨inWALL (w := u_lay RX11 TX11 19) 1563 (by decide +kernel) (by decide +kernel), List.forall_mem_cons.mpr ⟨inWALL (w := u_lay RX11 TX11 20) 1565 (by decide +kernel) (by decide +kernel), List.forall_mem_cons.mpr ⟨inWALL (w := u_lay RX11 TX11 21) 1567 (by decide +kernel) (by decide +kernel), List.forall_mem_cons.mpr ⟨inWALL (w := u_lay RX11 TX11 22) 1569 (by decide +kernel) (by decide +kernel), List.forall_mem_cons.mpr ⟨inWALL (w := u_lay RX11 TX11 23) 1571 (by decide +kernel) (by decide +kernel), List.forall_mem_cons.mpr ⟨inWALL (w := u_lay RX11 TX11 24) 1573 (by decide +kernel) (by decide +kernel), fun _ h => absurd h List.not_mem_nil⟩⟩⟩⟩⟩⟩⟩⟩⟩⟩⟩⟩⟩⟩⟩⟩⟩⟩⟩⟩⟩⟩⟩⟩⟩
