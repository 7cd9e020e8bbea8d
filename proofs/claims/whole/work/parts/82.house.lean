/-! MAKING: House, Past (laid by wip/whole/src/p82.py) -/
theorem cwL_8 : Cond.classLink RL 8 RX10 ∈ WALL := inT1 (w := Cond.classLink RL 8 RX10) 28 rfl rfl
theorem cwL_157 : Cond.classLink RL 157 RX11 ∈ WALL := inT6 (w := Cond.classLink RL 157 RX11) 225 rfl rfl
theorem cwX10_7 : Cond.classLink RX10 7 RX3 ∈ WALL := inT1 (w := Cond.classLink RX10 7 RX3) 36 rfl rfl
theorem cwX3_9 : Cond.classLink RX3 9 RX1 ∈ WALL := inT1 (w := Cond.classLink RX3 9 RX1) 42 rfl rfl
theorem cwX3_21 : Cond.classLink RX3 21 RX8 ∈ WALL := inT1 (w := Cond.classLink RX3 21 RX8) 44 rfl rfl
theorem cwX3_28 : Cond.classLink RX3 28 RX4 ∈ WALL := inT1 (w := Cond.classLink RX3 28 RX4) 71 rfl rfl
theorem cwX10_22 : Cond.classLink RX10 22 RX6 ∈ WALL := inT1 (w := Cond.classLink RX10 22 RX6) 181 rfl rfl
theorem cwX6_9 : Cond.classLink RX6 9 RX3 ∈ WALL := inT1 (w := Cond.classLink RX6 9 RX3) 187 rfl rfl
theorem cwX10_29 : Cond.classLink RX10 29 RX2 ∈ WALL := inT1 (w := Cond.classLink RX10 29 RX2) 201 rfl rfl
theorem cwX10_36 : Cond.classLink RX10 36 RX9 ∈ WALL := inT1 (w := Cond.classLink RX10 36 RX9) 214 rfl rfl
theorem cwX10_43 : Cond.classLink RX10 43 RX7 ∈ WALL := inT1 (w := Cond.classLink RX10 43 RX7) 234 rfl rfl
theorem cwX10_50 : Cond.classLink RX10 50 RX0 ∈ WALL := inT2 (w := Cond.classLink RX10 50 RX0) 7 rfl rfl
theorem cwX10_57 : Cond.classLink RX10 57 RX5 ∈ WALL := inT2 (w := Cond.classLink RX10 57 RX5) 35 rfl rfl
theorem cwI_X0 : Cond.instantiable RX0 6 ∈ WALL := inT2 (w := Cond.instantiable RX0 6) 8 rfl rfl
theorem cwI_X1 : Cond.instantiable RX1 9 ∈ WALL := inT1 (w := Cond.instantiable RX1 9) 90 rfl rfl
theorem cwI_X2 : Cond.instantiable RX2 2 ∈ WALL := inT1 (w := Cond.instantiable RX2 2) 202 rfl rfl
theorem cwI_X3 : Cond.instantiable RX3 12 ∈ WALL := inT1 (w := Cond.instantiable RX3 12) 37 rfl rfl
theorem cwI_X4 : Cond.instantiable RX4 3 ∈ WALL := inT1 (w := Cond.instantiable RX4 3) 72 rfl rfl
theorem cwI_X5 : Cond.instantiable RX5 2 ∈ WALL := inT2 (w := Cond.instantiable RX5 2) 36 rfl rfl
theorem cwI_X6 : Cond.instantiable RX6 3 ∈ WALL := inT1 (w := Cond.instantiable RX6 3) 182 rfl rfl
theorem cwI_X7 : Cond.instantiable RX7 2 ∈ WALL := inT1 (w := Cond.instantiable RX7 2) 235 rfl rfl
theorem cwI_X8 : Cond.instantiable RX8 4 ∈ WALL := inT1 (w := Cond.instantiable RX8 4) 45 rfl rfl
theorem cwI_X9 : Cond.instantiable RX9 4 ∈ WALL := inT1 (w := Cond.instantiable RX9 4) 215 rfl rfl
theorem cwI_X10 : Cond.instantiable RX10 13 ∈ WALL := inT1 (w := Cond.instantiable RX10 13) 29 rfl rfl
theorem cwI_X11 : Cond.instantiable RX11 25 ∈ WALL := inT6 (w := Cond.instantiable RX11 25) 226 rfl rfl
theorem fs_X0 : ∀ j, j < 6 → defaultValue (tyX0 j) = vp_V [.null, .int (nI 0), .null, .null, .int (nI 0), .int (nI 0)] j := fun j hj => by
  match j, hj with
  | 0, _ => first | rfl | (rw [nI_0]; rfl)
  | 1, _ => first | rfl | (rw [nI_0]; rfl)
  | 2, _ => first | rfl | (rw [nI_0]; rfl)
  | 3, _ => first | rfl | (rw [nI_0]; rfl)
  | 4, _ => first | rfl | (rw [nI_0]; rfl)
  | 5, _ => first | rfl | (rw [nI_0]; rfl)
  | k + 6, h => exact absurd h (by omega)
theorem fs_X1 : ∀ j, j < 9 → defaultValue (tyX1 j) = vp_V [.null, .null, .null, .null, .int (nI 0), .int (nI 0), .int (nI 0), .int (nI 0), .int (nI 0)] j := fun j hj => by
  match j, hj with
  | 0, _ => first | rfl | (rw [nI_0]; rfl)
  | 1, _ => first | rfl | (rw [nI_0]; rfl)
  | 2, _ => first | rfl | (rw [nI_0]; rfl)
  | 3, _ => first | rfl | (rw [nI_0]; rfl)
  | 4, _ => first | rfl | (rw [nI_0]; rfl)
  | 5, _ => first | rfl | (rw [nI_0]; rfl)
  | 6, _ => first | rfl | (rw [nI_0]; rfl)
  | 7, _ => first | rfl | (rw [nI_0]; rfl)
  | 8, _ => first | rfl | (rw [nI_0]; rfl)
  | k + 9, h => exact absurd h (by omega)
theorem fs_X2 : ∀ j, j < 2 → defaultValue (tyX2 j) = vp_V [.null, .null] j := fun j hj => by
  match j, hj with
  | 0, _ => first | rfl | (rw [nI_0]; rfl)
  | 1, _ => first | rfl | (rw [nI_0]; rfl)
  | k + 2, h => exact absurd h (by omega)
theorem fs_X3 : ∀ j, j < 12 → defaultValue (tyX3 j) = vp_V [.null, .null, .null, .null, .int (nI 0), .int (nI 0), .int (nI 0), .int (nI 0), .int (nI 0), .int (nI 0), .int (nI 0), .int (nI 0)] j := fun j hj => by
  match j, hj with
  | 0, _ => first | rfl | (rw [nI_0]; rfl)
  | 1, _ => first | rfl | (rw [nI_0]; rfl)
  | 2, _ => first | rfl | (rw [nI_0]; rfl)
  | 3, _ => first | rfl | (rw [nI_0]; rfl)
  | 4, _ => first | rfl | (rw [nI_0]; rfl)
  | 5, _ => first | rfl | (rw [nI_0]; rfl)
  | 6, _ => first | rfl | (rw [nI_0]; rfl)
  | 7, _ => first | rfl | (rw [nI_0]; rfl)
  | 8, _ => first | rfl | (rw [nI_0]; rfl)
  | 9, _ => first | rfl | (rw [nI_0]; rfl)
  | 10, _ => first | rfl | (rw [nI_0]; rfl)
  | 11, _ => first | rfl | (rw [nI_0]; rfl)
  | k + 12, h => exact absurd h (by omega)
theorem fs_X4 : ∀ j, j < 3 → defaultValue (tyX4 j) = vp_V [.null, .null, .int (nI 0)] j := fun j hj => by
  match j, hj with
  | 0, _ => first | rfl | (rw [nI_0]; rfl)
  | 1, _ => first | rfl | (rw [nI_0]; rfl)
  | 2, _ => first | rfl | (rw [nI_0]; rfl)
  | k + 3, h => exact absurd h (by omega)
theorem fs_X5 : ∀ j, j < 2 → defaultValue (tyX5 j) = vp_V [.null, .int (nI 0)] j := fun j hj => by
  match j, hj with
  | 0, _ => first | rfl | (rw [nI_0]; rfl)
  | 1, _ => first | rfl | (rw [nI_0]; rfl)
  | k + 2, h => exact absurd h (by omega)
theorem fs_X6 : ∀ j, j < 3 → defaultValue (tyX6 j) = vp_V [.null, .int (nI 0), .int (nI 0)] j := fun j hj => by
  match j, hj with
  | 0, _ => first | rfl | (rw [nI_0]; rfl)
  | 1, _ => first | rfl | (rw [nI_0]; rfl)
  | 2, _ => first | rfl | (rw [nI_0]; rfl)
  | k + 3, h => exact absurd h (by omega)
theorem fs_X7 : ∀ j, j < 2 → defaultValue (tyX7 j) = vp_V [.null, .null] j := fun j hj => by
  match j, hj with
  | 0, _ => first | rfl | (rw [nI_0]; rfl)
  | 1, _ => first | rfl | (rw [nI_0]; rfl)
  | k + 2, h => exact absurd h (by omega)
theorem fs_X8 : ∀ j, j < 4 → defaultValue (tyX8 j) = vp_V [.null, .null, .null, .int (nI 0)] j := fun j hj => by
  match j, hj with
  | 0, _ => first | rfl | (rw [nI_0]; rfl)
  | 1, _ => first | rfl | (rw [nI_0]; rfl)
  | 2, _ => first | rfl | (rw [nI_0]; rfl)
  | 3, _ => first | rfl | (rw [nI_0]; rfl)
  | k + 4, h => exact absurd h (by omega)
theorem fs_X9 : ∀ j, j < 4 → defaultValue (tyX9 j) = vp_V [.null, .null, .null, .null] j := fun j hj => by
  match j, hj with
  | 0, _ => first | rfl | (rw [nI_0]; rfl)
  | 1, _ => first | rfl | (rw [nI_0]; rfl)
  | 2, _ => first | rfl | (rw [nI_0]; rfl)
  | 3, _ => first | rfl | (rw [nI_0]; rfl)
  | k + 4, h => exact absurd h (by omega)
theorem fs_X10 : ∀ j, j < 13 → defaultValue (tyX10 j) = vp_V [.null, .null, .null, .null, .null, .null, .null, .null, .null, .null, .int (nI 0), .int (nI 0), .int (nI 0)] j := fun j hj => by
  match j, hj with
  | 0, _ => first | rfl | (rw [nI_0]; rfl)
  | 1, _ => first | rfl | (rw [nI_0]; rfl)
  | 2, _ => first | rfl | (rw [nI_0]; rfl)
  | 3, _ => first | rfl | (rw [nI_0]; rfl)
  | 4, _ => first | rfl | (rw [nI_0]; rfl)
  | 5, _ => first | rfl | (rw [nI_0]; rfl)
  | 6, _ => first | rfl | (rw [nI_0]; rfl)
  | 7, _ => first | rfl | (rw [nI_0]; rfl)
  | 8, _ => first | rfl | (rw [nI_0]; rfl)
  | 9, _ => first | rfl | (rw [nI_0]; rfl)
  | 10, _ => first | rfl | (rw [nI_0]; rfl)
  | 11, _ => first | rfl | (rw [nI_0]; rfl)
  | 12, _ => first | rfl | (rw [nI_0]; rfl)
  | k + 13, h => exact absurd h (by omega)
theorem fs_X11 : ∀ j, j < 25 → defaultValue (tyX11 j) = vp_V [.null, .null, .null, .int (nI 0), .null, .int (nI 0), .int (nI 0), .int (nI 0), .int (nI 0), .null, .int (nI 0), .null, .int (nI 0), .null, .null, .null, .null, .null, .null, .int (nI 0), .int (nI 0), .int (nI 0), .int (nI 0), .null, .int (nI 0)] j := fun j hj => by
  match j, hj with
  | 0, _ => first | rfl | (rw [nI_0]; rfl)
  | 1, _ => first | rfl | (rw [nI_0]; rfl)
  | 2, _ => first | rfl | (rw [nI_0]; rfl)
  | 3, _ => first | rfl | (rw [nI_0]; rfl)
  | 4, _ => first | rfl | (rw [nI_0]; rfl)
  | 5, _ => first | rfl | (rw [nI_0]; rfl)
  | 6, _ => first | rfl | (rw [nI_0]; rfl)
  | 7, _ => first | rfl | (rw [nI_0]; rfl)
  | 8, _ => first | rfl | (rw [nI_0]; rfl)
  | 9, _ => first | rfl | (rw [nI_0]; rfl)
  | 10, _ => first | rfl | (rw [nI_0]; rfl)
  | 11, _ => first | rfl | (rw [nI_0]; rfl)
  | 12, _ => first | rfl | (rw [nI_0]; rfl)
  | 13, _ => first | rfl | (rw [nI_0]; rfl)
  | 14, _ => first | rfl | (rw [nI_0]; rfl)
  | 15, _ => first | rfl | (rw [nI_0]; rfl)
  | 16, _ => first | rfl | (rw [nI_0]; rfl)
  | 17, _ => first | rfl | (rw [nI_0]; rfl)
  | 18, _ => first | rfl | (rw [nI_0]; rfl)
  | 19, _ => first | rfl | (rw [nI_0]; rfl)
  | 20, _ => first | rfl | (rw [nI_0]; rfl)
  | 21, _ => first | rfl | (rw [nI_0]; rfl)
  | 22, _ => first | rfl | (rw [nI_0]; rfl)
  | 23, _ => first | rfl | (rw [nI_0]; rfl)
  | 24, _ => first | rfl | (rw [nI_0]; rfl)
  | k + 25, h => exact absurd h (by omega)
def hsL : List Nat := [1, 31, 61, 93, 123, 153, 183, 213, 243, 273, 303]
theorem isH_in {b : Nat} (h : isH b) : b ∈ hsL := by
  rcases h with rfl | rfl | rfl | ⟨i, hi, rfl⟩
  · decide
  · decide
  · decide
  · match i, hi with
    | 0, _ => decide
    | 1, _ => decide
    | 2, _ => decide
    | 3, _ => decide
    | 4, _ => decide
    | 5, _ => decide
    | 6, _ => decide
    | 7, _ => decide
    | k + 8, h => exact absurd h (by omega)
theorem rfH_key : ∀ b ∈ hsL, ∀ n ∈ [4, 7, 12, 17, 22, 27], ∀ o, o < n → rfB (b + 3 + o) (b + 3 + n) = true := by decide +kernel
theorem rfH {b n : Nat} (hb : isH b) (hn : n ∈ [4, 7, 12, 17, 22, 27]) : ∀ k, b + 3 ≤ k → k < b + 3 + n → rfB k (b + 3 + n) = true := by
  intro k h1 h2
  have q := rfH_key b (isH_in hb) n hn (k - (b + 3)) (by omega)
  rw [show b + 3 + (k - (b + 3)) = k by omega] at q
  exact q
theorem S_X3_init {u : Un} {q : Nat} {w0 : va_W} {ad0 : Nat → Nat} {F0 : Nat → Nat → Option Nat} {b : Nat} (hb : isH b) : Sem u mX3_init 2 29 293 [.ref q] (w0 ++ ([(q, .inr (5, [.null, .null, .null, .null, .int (nI 0), .int (nI 0), .int (nI 0), .int (nI 0), .int (nI 0), .int (nI 0), .int (nI 0), .int (nI 0)]))] : va_W)) (QC u b 30 q ad0 F0 w0) (fun _ _ => False) := by
  have hbl := isH_le hb
  refine Sem_of_V (by decide +kernel) (Nat.le_of_ble_eq_true rfl) ?_
  show V u mX3_init 2 29 293 _ _ 0 [(0, .ref q)] [] _
  refine V_aload_n 1 rfl dX3_init_0 rfl ?_
  refine V_objInit 4 rfl dX3_init_1 lkX3_3 lk_objI lk_objC (by exact Nat.le_of_ble_eq_true rfl) (by omega) ?_
  refine V_aload_n 5 rfl dX3_init_4 rfl ?_
  refine V_iconst 6 (nI 4) rfl dX3_init_5 ic_4 ?_
  refine V_anewarr 9 2 (C0 := RX1) (cA0 := u.2.2.2 2) (N' := 4) rfl dX3_init_6 cwX3_9 (by decide) rfl (nI_pos (by omega)) (nI_clamp (by omega)) (Nat.le_of_ble_eq_true rfl) (by omega) (by omega) (fun q1 => ?_)
  rw [List.append_assoc]
  show V u mX3_init _ _ _ _ _ 9 _ _ (w0 ++ ([(q, .inr (5, [.null, .null, .null, .null, .int (nI 0), .int (nI 0), .int (nI 0), .int (nI 0), .int (nI 0), .int (nI 0), .int (nI 0), .int (nI 0)])), (q1, .inl (u.2.2.2 2, 4, .inr (.inr (.inr (.inr (fun _ => none))))))] : va_W))
  refine N_putF (j := 0) (l2 := ([(q, .inr (5, [.ref q1, .null, .null, .null, .int (nI 0), .int (nI 0), .int (nI 0), .int (nI 0), .int (nI 0), .int (nI 0), .int (nI 0), .int (nI 0)])), (q1, .inl (u.2.2.2 2, 4, .inr (.inr (.inr (.inr (fun _ => none))))))] : va_W)) 12 0 tyX3 rfl dX3_init_9 wsX3_in tyX3_ok nmX3 rfl rfl (by omega) lkX3_11 rfl rfl rfl rfl rfl (Nat.le_of_ble_eq_true rfl) rfl ?_
  refine V_aload_n 13 rfl dX3_init_12 rfl ?_
  refine V_bipush 15 (nI 6) rfl dX3_init_13 bc_6 ?_
  refine N_newi 17 rfl dX3_init_15 (Nat.le_of_ble_eq_true rfl) (Nat.le_of_ble_eq_true rfl) (by omega) (by omega) (fun q2 => ?_)
  show V u mX3_init _ _ _ _ _ 17 _ _ (w0 ++ ([(q, .inr (5, [.ref q1, .null, .null, .null, .int (nI 0), .int (nI 0), .int (nI 0), .int (nI 0), .int (nI 0), .int (nI 0), .int (nI 0), .int (nI 0)])), (q1, .inl (u.2.2.2 2, 4, .inr (.inr (.inr (.inr (fun _ => none)))))), (q2, .inl (u.2.2.2 0, 6, .inl (fun _ => nI 0)))] : va_W))
  refine N_putF (j := 1) (l2 := ([(q, .inr (5, [.ref q1, .ref q2, .null, .null, .int (nI 0), .int (nI 0), .int (nI 0), .int (nI 0), .int (nI 0), .int (nI 0), .int (nI 0), .int (nI 0)])), (q1, .inl (u.2.2.2 2, 4, .inr (.inr (.inr (.inr (fun _ => none)))))), (q2, .inl (u.2.2.2 0, 6, .inl (fun _ => nI 0)))] : va_W)) 20 0 tyX3 rfl dX3_init_17 wsX3_in tyX3_ok nmX3 rfl rfl (by omega) lkX3_17 rfl rfl rfl rfl rfl (Nat.le_of_ble_eq_true rfl) rfl ?_
  refine V_aload_n 21 rfl dX3_init_20 rfl ?_
  refine V_new (ci := 10) (C0 := RX8) (T := TX8) (N := 4) (fs := [.null, .null, .null, .int (nI 0)]) 24 tyX8 rfl dX3_init_21 wsX8_in tyX8_ok cwX3_21 cwI_X8 kalX8_init.1.2.1 rfl fs_X8 (by omega) (by omega) (fun q3 => ?_)
  refine V_dup 25 rfl dX3_init_24 rfl ?_
  refine V_callIN (host := "EngineMonastery") (z := mX8_init) (As := []) rfl kalX8_init (by decide) dX3_init_25 (S_X8_init (b := b + 3) (ad0 := adU ad0 b [q, q1, q2]) (F0 := F0) (isH_R hb)) rfl rfl (by exact Nat.le_of_ble_eq_true rfl) (by omega) (by omega) (by omega) (fun vv ww hq => ?_)
  obtain ⟨rfl, ad1, F1, h1, h2, h3, h4, rfl⟩ := hq
  rw [List.append_assoc]
  show V u mX3_init _ _ _ _ _ 28 _ [.ref q3, .ref q] (w0 ++ (([(q, .inr (5, [.ref q1, .ref q2, .null, .null, .int (nI 0), .int (nI 0), .int (nI 0), .int (nI 0), .int (nI 0), .int (nI 0), .int (nI 0), .int (nI 0)])), (q1, .inl (u.2.2.2 2, 4, .inr (.inr (.inr (.inr (fun _ => none)))))), (q2, .inl (u.2.2.2 0, 6, .inl (fun _ => nI 0)))] : va_W) ++ sgm u ad1 F1 (b + 3) 4))
  refine N_putF (j := 2) (l2 := ([(q, .inr (5, [.ref q1, .ref q2, .ref q3, .null, .int (nI 0), .int (nI 0), .int (nI 0), .int (nI 0), .int (nI 0), .int (nI 0), .int (nI 0), .int (nI 0)])), (q1, .inl (u.2.2.2 2, 4, .inr (.inr (.inr (.inr (fun _ => none)))))), (q2, .inl (u.2.2.2 0, 6, .inl (fun _ => nI 0)))] : va_W) ++ sgm u ad1 F1 (b + 3) 4) 31 0 tyX3 rfl dX3_init_28 wsX3_in tyX3_ok nmX3 rfl rfl (by omega) lkX3_24 rfl rfl rfl rfl rfl (Nat.le_of_ble_eq_true rfl) rfl ?_
  refine V_aload_n 32 rfl dX3_init_31 rfl ?_
  refine V_new (ci := 6) (C0 := RX4) (T := TX4) (N := 3) (fs := [.null, .null, .int (nI 0)]) 35 tyX4 rfl dX3_init_32 wsX4_in tyX4_ok cwX3_28 cwI_X4 kalX4_init.1.2.1 rfl fs_X4 (by omega) (by omega) (fun q4 => ?_)
  refine V_dup 36 rfl dX3_init_35 rfl ?_
  refine V_callIN (host := "EngineMonastery") (z := mX4_init) (As := []) rfl kalX4_init (by decide) dX3_init_36 (S_X4_init (b := b + 7) (ad0 := ad1) (F0 := F1) (isH_K hb)) rfl rfl (by exact Nat.le_of_ble_eq_true rfl) (by omega) (by omega) (by omega) (fun vv ww hq => ?_)
  obtain ⟨rfl, ad2, F2, i1, i2, i3, i4, rfl⟩ := hq
  rw [List.append_assoc, List.append_assoc, sgm_glue (c := b + 7) (m := 3) (l := 7) (by omega) rfl (rfH hb (by decide)) i1 i2]
  show V u mX3_init _ _ _ _ _ 39 _ [.ref q4, .ref q] (w0 ++ (([(q, .inr (5, [.ref q1, .ref q2, .ref q3, .null, .int (nI 0), .int (nI 0), .int (nI 0), .int (nI 0), .int (nI 0), .int (nI 0), .int (nI 0), .int (nI 0)])), (q1, .inl (u.2.2.2 2, 4, .inr (.inr (.inr (.inr (fun _ => none)))))), (q2, .inl (u.2.2.2 0, 6, .inl (fun _ => nI 0)))] : va_W) ++ sgm u ad2 F2 (b + 3) 7))
  refine N_putF (j := 3) (l2 := ([(q, .inr (5, [.ref q1, .ref q2, .ref q3, .ref q4, .int (nI 0), .int (nI 0), .int (nI 0), .int (nI 0), .int (nI 0), .int (nI 0), .int (nI 0), .int (nI 0)])), (q1, .inl (u.2.2.2 2, 4, .inr (.inr (.inr (.inr (fun _ => none)))))), (q2, .inl (u.2.2.2 0, 6, .inl (fun _ => nI 0)))] : va_W) ++ sgm u ad2 F2 (b + 3) 7) 42 0 tyX3 rfl dX3_init_39 wsX3_in tyX3_ok nmX3 rfl rfl (by omega) lkX3_31 rfl rfl rfl rfl rfl (Nat.le_of_ble_eq_true rfl) rfl ?_
  refine V_aload_n 43 rfl dX3_init_42 rfl ?_
  refine V_bipush 45 (nI 20) rfl dX3_init_43 bc_20 ?_
  refine N_putf (j := 6) (l2 := ([(q, .inr (5, [.ref q1, .ref q2, .ref q3, .ref q4, .int (nI 0), .int (nI 0), .int (nI 20), .int (nI 0), .int (nI 0), .int (nI 0), .int (nI 0), .int (nI 0)])), (q1, .inl (u.2.2.2 2, 4, .inr (.inr (.inr (.inr (fun _ => none)))))), (q2, .inl (u.2.2.2 0, 6, .inl (fun _ => nI 0)))] : va_W) ++ sgm u ad2 F2 (b + 3) 7) 48 0 tyX3 rfl dX3_init_45 wsX3_in tyX3_ok nmX3 rfl rfl (by omega) lkX3_35 rfl rfl rfl (Nat.le_of_ble_eq_true rfl) rfl ?_
  refine V_aload_n 49 rfl dX3_init_48 rfl ?_
  refine V_bipush 51 (nI 20) rfl dX3_init_49 bc_20 ?_
  refine N_putf (j := 7) (l2 := ([(q, .inr (5, [.ref q1, .ref q2, .ref q3, .ref q4, .int (nI 0), .int (nI 0), .int (nI 20), .int (nI 20), .int (nI 0), .int (nI 0), .int (nI 0), .int (nI 0)])), (q1, .inl (u.2.2.2 2, 4, .inr (.inr (.inr (.inr (fun _ => none)))))), (q2, .inl (u.2.2.2 0, 6, .inl (fun _ => nI 0)))] : va_W) ++ sgm u ad2 F2 (b + 3) 7) 54 0 tyX3 rfl dX3_init_51 wsX3_in tyX3_ok nmX3 rfl rfl (by omega) lkX3_39 rfl rfl rfl (Nat.le_of_ble_eq_true rfl) rfl ?_
  refine V_iconst 55 (nI 0) rfl dX3_init_54 ic_0 ?_
  refine V_istore_n (i := 1) 56 rfl dX3_init_55 rfl (Nat.le_of_ble_eq_true rfl) ?_
  have loop : ∀ (n i : Nat), i + n = 4 → ∀ (ad : Nat → Nat) (F : Nat → Nat → Option Nat) (f : Nat → Option Nat), (∀ k, k < b + 3 → ad k = adU ad0 b [q, q1, q2] k) → (∀ k, k < b + 3 → F k = F0 k) → FO ad F (b + 3) (7 + 5 * i) → (∀ j, j < i → f j = some (ad (b + 10 + 5 * j))) → ad (b + 3) = q3 → ad (b + 7) = q4 → V u mX3_init 2 (5 * n) (57 * n) (QC u b 30 q ad0 F0 w0) (fun _ _ => False) 56 [(0, .ref q), (1, .int (nI i))] [] (w0 ++ (([(q, .inr (5, [.ref q1, .ref q2, .ref q3, .ref q4, .int (nI 0), .int (nI 0), .int (nI 20), .int (nI 20), .int (nI 0), .int (nI 0), .int (nI 0), .int (nI 0)])), (q1, .inl (u.2.2.2 2, 4, .inr (.inr (.inr (.inr (f)))))), (q2, .inl (u.2.2.2 0, 6, .inl (fun _ => nI 0)))] : va_W) ++ sgm u ad F (b + 3) (7 + 5 * i))) := by
    intro n
    induction n with
    | zero =>
      intro i hi ad F f k1 k2 k3 k4 k5 k6
      have i4 : i = 4 := by omega
      subst i4
      refine V_iload_n 57 rfl dX3_init_56 rfl ?_
      refine V_iconst 58 (nI 4) rfl dX3_init_57 ic_4 ?_
      refine V_icmp_ge 80 61 (by decide) rfl dX3_init_58 (fun _ => ?_) (fun c => absurd (Int32.le_refl _) c)
      refine V_vret rfl dX3_init_80 ?_
      obtain ⟨F', hF'⟩ : ∃ F' : Nat → Nat → Option Nat, F' = fun k => if k = b + 1 then f else F k := ⟨_, rfl⟩
      have F1e : F' (b + 1) = f := by rw [hF']; exact if_pos rfl
      have FNe : ∀ k, k ≠ b + 1 → F' k = F k := fun k hk => by rw [hF']; exact if_neg hk
      have a0 : ad (b + 0) = q := by rw [k1 (b + 0) (by omega)]; exact adU_at 0
      have a1 : ad (b + 1) = q1 := by rw [k1 (b + 1) (by omega)]; exact adU_at 1
      have a2 : ad (b + 2) = q2 := by rw [k1 (b + 2) (by omega)]; exact adU_at 2
      have s0 : shp (b + 0) = .inr (5, [some (b + 1), some (b + 2), some (b + 3), some (b + 7), none, none, none, none, none, none, none, none]) := shp_h hb (by omega)
      have s1 : shp (b + 1) = .inl (2, 4) := shp_h hb (by omega)
      have s2 : shp (b + 2) = .inl (0, 6) := shp_h hb (by omega)
      have e0 : cll u ad F' (b + 0) = (q, .inr (5, [.ref q1, .ref q2, .ref q3, .ref q4, .int (nI 0), .int (nI 0), .int (nI 20), .int (nI 20), .int (nI 0), .int (nI 0), .int (nI 0), .int (nI 0)])) := by
        refine cll_o s0 a0 ?_
        rw [JZ_of s0 (by omega) (by omega) (by omega)]
        show ([.ref (ad (b + 1)), .ref (ad (b + 2)), .ref (ad (b + 3)), .ref (ad (b + 7)), .int (nI 0), .int (nI 0), .int (nI 20), .int (nI 20), .int (nI 0), .int (nI 0), .int (nI 0), .int (nI 0)] : List Value) = _
        rw [a1, a2, k5, k6]
      have e1 : cll u ad F' (b + 1) = (q1, .inl (u.2.2.2 2, 4, .inr (.inr (.inr (.inr (f)))))) := by rw [cll_r2 s1 a1, F1e]
      have e2 : cll u ad F' (b + 2) = (q2, .inl (u.2.2.2 0, 6, .inl (fun _ => nI 0))) := cll_i (f := fun _ => 0) s2 a2 (JZ_of s2 (by omega) (by omega) (by omega))
      have e30 : sgm u ad F' b 30 = sgm u ad F' b 3 ++ sgm u ad F' (b + 3) 27 := sgm_app (n := 3) 27
      have eS : sgm u ad F (b + 3) 27 = sgm u ad F' (b + 3) 27 := sgm_congr (fun _ _ => rfl) 27 (rfH hb (by decide)) (Nat.le_refl _) (fun k q1 q2 => (FNe k (by omega)).symm)
      refine ⟨rfl, ad, F', fun k hk => by rw [k1 k (by omega)]; exact adU_lo hk, fun k hk => by rw [FNe k (by omega)]; exact k2 k (by omega), a0, FO_app (n := 3) (m := 27) rfl rfl ?_ (FO_congr (rfH hb (n := 27) (by decide)) (fun _ _ => rfl) (fun k q1 q2 => FNe k (by omega)) k3), congrArg (fun z => w0 ++ z) ?_⟩
      · intro k j1 j2
        rcases (show k = b + 0 ∨ k = b + 1 ∨ k = b + 2 by omega) with e | e | e
        · rw [e, s0]
          exact ⟨fun N h => (by cases h), fun N h => (by cases h)⟩
        · rw [e, s1]
          refine ⟨fun N h j hj => ?_, fun N h => by cases h⟩
          cases h
          rw [F1e, k4 j hj, show b + 1 + 9 + 5 * j = b + 10 + 5 * j by omega]
        · rw [e, s2]
          exact ⟨fun N h => (by cases h), fun N h => (by cases h)⟩
      · show ([(q, .inr (5, [.ref q1, .ref q2, .ref q3, .ref q4, .int (nI 0), .int (nI 0), .int (nI 20), .int (nI 20), .int (nI 0), .int (nI 0), .int (nI 0), .int (nI 0)])), (q1, .inl (u.2.2.2 2, 4, .inr (.inr (.inr (.inr (f)))))), (q2, .inl (u.2.2.2 0, 6, .inl (fun _ => nI 0)))] : va_W) ++ sgm u ad F (b + 3) 27 = _
        rw [e30, eS]
        show _ = [cll u ad F' (b + 0), cll u ad F' (b + 1), cll u ad F' (b + 2)] ++ _
        rw [e0, e1, e2]
    | succ n ih =>
      intro i hi ad F f k1 k2 k3 k4 k5 k6
      have hi4 : i < 4 := by omega
      have hn : 7 + 5 * i ∈ [4, 7, 12, 17, 22, 27] := by
        rcases (show i = 0 ∨ i = 1 ∨ i = 2 ∨ i = 3 by omega) with rfl | rfl | rfl | rfl <;> decide
      refine V_iload_n 57 rfl dX3_init_56 rfl ?_
      refine V_iconst 58 (nI 4) rfl dX3_init_57 ic_4 ?_
      refine V_icmp_ge 80 61 (by decide) rfl dX3_init_58 (fun c => absurd c (nI_ge hi4 (by omega))) (fun _ => ?_)
      refine V_aload_n 62 rfl dX3_init_61 rfl ?_
      refine N_get (j := 0) 65 0 rfl dX3_init_62 wsX3_in rfl rfl (by omega) lkX3_11 rfl ?_
      refine V_iload_n 66 rfl dX3_init_65 rfl ?_
      refine V_new (ci := 3) (C0 := RX1) (T := TX1) (N := 9) (fs := [.null, .null, .null, .null, .int (nI 0), .int (nI 0), .int (nI 0), .int (nI 0), .int (nI 0)]) 69 tyX1 rfl dX3_init_66 wsX1_in tyX1_ok cwX3_9 cwI_X1 kalX1_init.1.2.1 rfl fs_X1 (by omega) (by omega) (fun v => ?_)
      refine V_dup 70 rfl dX3_init_69 rfl ?_
      refine V_callIN (host := "EngineMonastery") (z := mX1_init) (As := []) rfl kalX1_init (by decide) dX3_init_70 (S_X1_init (b := b + 10 + 5 * i) (ad0 := ad) (F0 := F) (isH_E hb hi4)) rfl rfl (by exact Nat.le_of_ble_eq_true rfl) (by omega) (by omega) (by omega) (fun vv ww hq => ?_)
      obtain ⟨rfl, ad3, F3, g1, g2, g3, g4, rfl⟩ := hq
      have eC : cll u ad3 F3 (b + 10 + 5 * i + 0) = (v, .inr (3, _)) := cll_o (shp_e (isH_E hb hi4) (show 0 < 5 by omega)) g3 rfl
      have hv : ((w0 ++ (([(q, .inr (5, [.ref q1, .ref q2, .ref q3, .ref q4, .int (nI 0), .int (nI 0), .int (nI 20), .int (nI 20), .int (nI 0), .int (nI 0), .int (nI 0), .int (nI 0)])), (q1, .inl (u.2.2.2 2, 4, .inr (.inr (.inr (.inr (f)))))), (q2, .inl (u.2.2.2 0, 6, .inl (fun _ => nI 0)))] : va_W) ++ sgm u ad F (b + 3) (7 + 5 * i))) ++ sgm u ad3 F3 (b + 10 + 5 * i) 5)[(w0 ++ (([(q, .inr (5, [.ref q1, .ref q2, .ref q3, .ref q4, .int (nI 0), .int (nI 0), .int (nI 20), .int (nI 20), .int (nI 0), .int (nI 0), .int (nI 0), .int (nI 0)])), (q1, .inl (u.2.2.2 2, 4, .inr (.inr (.inr (.inr (f)))))), (q2, .inl (u.2.2.2 0, 6, .inl (fun _ => nI 0)))] : va_W) ++ sgm u ad F (b + 3) (7 + 5 * i))).length + 0]? = some (v, .inr (3, _)) := ap_get (congrArg some eC)
      rw [List.append_assoc, List.append_assoc] at hv ⊢
      show V u mX3_init _ _ _ _ _ 73 _ [.ref v, .int (nI i), .ref q1] _
      refine V_aast 74 (w0.length + 1) 2 _ 3 (r := (RX1, TX1, 9)) rfl dX3_init_73 (ap_get (j := 1) rfl) rfl hv rfl (vp_in_nI hi4 (by omega)) ?_
      rw [ap_set, nI_clamp (by omega)]
      show V u mX3_init _ _ _ _ _ 74 _ _ (w0 ++ (([(q, .inr (5, [.ref q1, .ref q2, .ref q3, .ref q4, .int (nI 0), .int (nI 0), .int (nI 20), .int (nI 20), .int (nI 0), .int (nI 0), .int (nI 0), .int (nI 0)])), (q1, .inl (u.2.2.2 2, 4, .inr (.inr (.inr (.inr (va_up f i (some v))))))), (q2, .inl (u.2.2.2 0, 6, .inl (fun _ => nI 0)))] : va_W) ++ (sgm u ad F (b + 3) (7 + 5 * i) ++ sgm u ad3 F3 (b + 10 + 5 * i) 5)))
      rw [sgm_glue (c := b + 10 + 5 * i) (m := 5) (l := 7 + 5 * (i + 1)) (by omega) (by omega) (rfH hb hn) g1 g2]
      refine V_iinc 77 (nI (i + 1)) rfl dX3_init_74 rfl (by rw [ic_1, nI_add]) (Nat.le_of_ble_eq_true rfl) ?_
      refine V_goto 56 (by decide) dX3_init_77 ?_
      refine V_more (kc := 5 * n) (ks := 57 * n) (by omega) (by omega) (ih (i + 1) (by omega) ad3 F3 (va_up f i (some v)) (fun k hk => (g1 k (by omega)).trans (k1 k hk)) (fun k hk => (g2 k (by omega)).trans (k2 k hk)) ?_ (fun j hj => ?_) ((g1 _ (by omega)).trans k5) ((g1 _ (by omega)).trans k6))
      · exact FO_app (c := b + 10 + 5 * i) (by omega) (by omega) (FO_congr (rfH hb hn) (fun r hr => g1 r (by omega)) (fun k q1 q2 => g2 k (by omega)) k3) g4
      · by_cases e : j = i
        · subst e
          rw [va_up_self, g3]
        · rw [va_up_ne f (some v) e, k4 j (by omega), g1 _ (by omega)]
  exact V_more (kc := 5 * 4) (ks := 57 * 4) (by omega) (by omega) (loop 4 0 rfl ad2 F2 (fun _ => none) (fun k hk => (i1 k (by omega)).trans (h1 k hk)) (fun k hk => (i2 k (by omega)).trans (h2 k (by omega))) (FO_app (c := b + 7) (n := 4) (m := 3) (by omega) rfl (FO_congr (rfH hb (n := 4) (by decide)) (fun r hr => i1 r (by omega)) (fun k q1 q2 => i2 k (by omega)) h4) i4) (fun j hj => absurd hj (Nat.not_lt_zero j)) ((i1 _ (by omega)).trans h3) i3)
theorem rfP_key : ∀ i, i < 9 → ∀ o, o < 30 * i → rfB (93 + o) (93 + 30 * i) = true := by decide +kernel
theorem rfP {i : Nat} (hi : i < 9) : ∀ k, 93 ≤ k → k < 93 + 30 * i → rfB k (93 + 30 * i) = true := by
  intro k h1 h2
  have q := rfP_key i hi (k - 93) (by omega)
  rw [show 93 + (k - 93) = k by omega] at q
  exact q
theorem S_X6_init {u : Un} {q : Nat} {w0 : va_W} {ad0 : Nat → Nat} {F0 : Nat → Nat → Option Nat} : Sem u mX6_init 3 241 2448 [.ref q] (w0 ++ ([(q, .inr (8, [.null, .int (nI 0), .int (nI 0)]))] : va_W)) (QC u 91 242 q ad0 F0 w0) (fun _ _ => False) := by
  refine Sem_of_V (by decide +kernel) (Nat.le_of_ble_eq_true rfl) ?_
  show V u mX6_init 3 241 2448 _ _ 0 [(0, .ref q)] [] _
  refine V_aload_n 1 rfl dX6_init_0 rfl ?_
  refine V_objInit 4 rfl dX6_init_1 lkX6_3 lk_objI lk_objC (by exact Nat.le_of_ble_eq_true rfl) (by omega) ?_
  refine V_aload_n 5 rfl dX6_init_4 rfl ?_
  refine V_bipush 7 (nI 8) rfl dX6_init_5 bc_8 ?_
  refine V_anewarr 10 3 (C0 := RX3) (cA0 := u.2.2.2 3) (N' := 8) rfl dX6_init_7 cwX6_9 (by decide) rfl (nI_pos (by omega)) (nI_clamp (by omega)) (Nat.le_of_ble_eq_true rfl) (by omega) (by omega) (fun q1 => ?_)
  rw [List.append_assoc]
  show V u mX6_init _ _ _ _ _ 10 _ _ (w0 ++ ([(q, .inr (8, [.null, .int (nI 0), .int (nI 0)])), (q1, .inl (u.2.2.2 3, 8, .inr (.inr (.inr (.inr (fun _ => none))))))] : va_W))
  refine N_putF (j := 0) (l2 := ([(q, .inr (8, [.ref q1, .int (nI 0), .int (nI 0)])), (q1, .inl (u.2.2.2 3, 8, .inr (.inr (.inr (.inr (fun _ => none))))))] : va_W)) 13 0 tyX6 rfl dX6_init_10 wsX6_in tyX6_ok nmX6 rfl rfl (by omega) lkX6_11 rfl rfl rfl rfl rfl (Nat.le_of_ble_eq_true rfl) rfl ?_
  refine V_iconst 14 (nI 0) rfl dX6_init_13 ic_0 ?_
  refine V_istore_n (i := 1) 15 rfl dX6_init_14 rfl (Nat.le_of_ble_eq_true rfl) ?_
  have loop : ∀ (n i : Nat), i + n = 8 → ∀ (ad : Nat → Nat) (F : Nat → Nat → Option Nat) (f : Nat → Option Nat), (∀ k, k < 93 → ad k = adU ad0 91 [q, q1] k) → (∀ k, k < 93 → F k = F0 k) → FO ad F 93 (30 * i) → (∀ j, j < i → f j = some (ad (93 + 30 * j))) → V u mX6_init 3 (30 * n) (305 * n) (QC u 91 242 q ad0 F0 w0) (fun _ _ => False) 15 [(0, .ref q), (1, .int (nI i))] [] (w0 ++ (([(q, .inr (8, [.ref q1, .int (nI 0), .int (nI 0)])), (q1, .inl (u.2.2.2 3, 8, .inr (.inr (.inr (.inr (f))))))] : va_W) ++ sgm u ad F 93 (30 * i))) := by
    intro n
    induction n with
    | zero =>
      intro i hi ad F f k1 k2 k3 k4
      have i4 : i = 8 := by omega
      subst i4
      refine V_iload_n 16 rfl dX6_init_15 rfl ?_
      refine V_bipush 18 (nI 8) rfl dX6_init_16 bc_8 ?_
      refine V_icmp_ge 40 21 (by decide) rfl dX6_init_18 (fun _ => ?_) (fun c => absurd (Int32.le_refl _) c)
      refine V_vret rfl dX6_init_40 ?_
      obtain ⟨F', hF'⟩ : ∃ F' : Nat → Nat → Option Nat, F' = fun k => if k = 92 then f else F k := ⟨_, rfl⟩
      have F1e : F' 92 = f := by rw [hF']; exact if_pos rfl
      have FNe : ∀ k, k ≠ 92 → F' k = F k := fun k hk => by rw [hF']; exact if_neg hk
      have a0 : ad 91 = q := by rw [k1 91 (by omega)]; exact adU_at 0
      have a1 : ad 92 = q1 := by rw [k1 92 (by omega)]; exact adU_at 1
      have s0 : shp 91 = .inr (8, [some 92, none, none]) := rfl
      have s1 : shp 92 = .inl (3, 8) := rfl
      have e0 : cll u ad F' 91 = (q, .inr (8, [.ref q1, .int (nI 0), .int (nI 0)])) := by
        refine cll_o s0 a0 ?_
        rw [JZ_of s0 (by omega) (by omega) (by omega)]
        show ([.ref (ad 92), .int (nI 0), .int (nI 0)] : List Value) = _
        rw [a1]
      have e1 : cll u ad F' 92 = (q1, .inl (u.2.2.2 3, 8, .inr (.inr (.inr (.inr (f)))))) := by rw [cll_r3 s1 a1, F1e]
      have e30 : sgm u ad F' 91 242 = sgm u ad F' 91 2 ++ sgm u ad F' 93 240 := sgm_app (n := 2) 240
      have eS : sgm u ad F 93 240 = sgm u ad F' 93 240 := sgm_congr (m := 93 + 30 * 8) (fun _ _ => rfl) 240 (rfP (i := 8) (by omega)) (Nat.le_refl _) (fun k q1 q2 => (FNe k (by omega)).symm)
      refine ⟨rfl, ad, F', fun k hk => by rw [k1 k (by omega)]; exact adU_lo hk, fun k hk => by rw [FNe k (by omega)]; exact k2 k (by omega), a0, FO_app (n := 2) (c := 93) (m := 240) rfl rfl ?_ (FO_congr (rfP (i := 8) (by omega)) (fun _ _ => rfl) (fun k q1 q2 => FNe k (by omega)) k3), congrArg (fun z => w0 ++ z) ?_⟩
      · intro k j1 j2
        rcases (show k = 91 ∨ k = 92 by omega) with e | e
        · rw [e, s0]
          exact ⟨fun N h => (by cases h), fun N h => (by cases h)⟩
        · rw [e, s1]
          refine ⟨fun N h => (by cases h), fun N h j hj => ?_⟩
          cases h
          rw [F1e, k4 j hj]
      · show ([(q, .inr (8, [.ref q1, .int (nI 0), .int (nI 0)])), (q1, .inl (u.2.2.2 3, 8, .inr (.inr (.inr (.inr (f))))))] : va_W) ++ sgm u ad F 93 240 = _
        rw [e30, eS]
        show _ = [cll u ad F' 91, cll u ad F' 92] ++ _
        rw [e0, e1]
    | succ n ih =>
      intro i hi ad F f k1 k2 k3 k4
      have hi4 : i < 8 := by omega
      refine V_iload_n 16 rfl dX6_init_15 rfl ?_
      refine V_bipush 18 (nI 8) rfl dX6_init_16 bc_8 ?_
      refine V_icmp_ge 40 21 (by decide) rfl dX6_init_18 (fun c => absurd c (nI_ge hi4 (by omega))) (fun _ => ?_)
      refine V_aload_n 22 rfl dX6_init_21 rfl ?_
      refine N_get (j := 0) 25 0 rfl dX6_init_22 wsX6_in rfl rfl (by omega) lkX6_11 rfl ?_
      refine V_iload_n 26 rfl dX6_init_25 rfl ?_
      refine V_new (ci := 5) (C0 := RX3) (T := TX3) (N := 12) (fs := [.null, .null, .null, .null, .int (nI 0), .int (nI 0), .int (nI 0), .int (nI 0), .int (nI 0), .int (nI 0), .int (nI 0), .int (nI 0)]) 29 tyX3 rfl dX6_init_26 wsX3_in tyX3_ok cwX6_9 cwI_X3 kalX3_init.1.2.1 rfl fs_X3 (by omega) (by omega) (fun v => ?_)
      refine V_dup 30 rfl dX6_init_29 rfl ?_
      refine V_callI (z := mX3_init) (As := []) rfl kalX3_init lkX6_17 dX6_init_30 (S_X3_init (b := 93 + 30 * i) (ad0 := ad) (F0 := F) (isH_p hi4)) rfl rfl (by exact Nat.le_of_ble_eq_true rfl) (by omega) (by omega) (by omega) (fun vv ww hq => ?_)
      obtain ⟨rfl, ad3, F3, g1, g2, g3, g4, rfl⟩ := hq
      have eC : cll u ad3 F3 (93 + 30 * i + 0) = (v, .inr (5, _)) := cll_o (shp_h (isH_p hi4) (show 0 < 30 by omega)) g3 rfl
      have e30 : sgm u ad3 F3 (93 + 30 * i) 30 = [cll u ad3 F3 (93 + 30 * i + 0)] ++ sgm u ad3 F3 (93 + 30 * i + 1) 29 := sgm_app (n := 1) 29
      have hv : ((w0 ++ (([(q, .inr (8, [.ref q1, .int (nI 0), .int (nI 0)])), (q1, .inl (u.2.2.2 3, 8, .inr (.inr (.inr (.inr (f))))))] : va_W) ++ sgm u ad F 93 (30 * i))) ++ sgm u ad3 F3 (93 + 30 * i) 30)[(w0 ++ (([(q, .inr (8, [.ref q1, .int (nI 0), .int (nI 0)])), (q1, .inl (u.2.2.2 3, 8, .inr (.inr (.inr (.inr (f))))))] : va_W) ++ sgm u ad F 93 (30 * i))).length + 0]? = some (v, .inr (5, _)) := ap_get (by rw [e30]; exact congrArg some eC)
      rw [List.append_assoc, List.append_assoc] at hv ⊢
      show V u mX6_init _ _ _ _ _ 33 _ [.ref v, .int (nI i), .ref q1] _
      refine V_aast 34 (w0.length + 1) 3 _ 5 (r := (RX3, TX3, 12)) rfl dX6_init_33 (ap_get (j := 1) rfl) rfl hv rfl (vp_in_nI hi4 (by omega)) ?_
      rw [ap_set, nI_clamp (by omega)]
      show V u mX6_init _ _ _ _ _ 34 _ _ (w0 ++ (([(q, .inr (8, [.ref q1, .int (nI 0), .int (nI 0)])), (q1, .inl (u.2.2.2 3, 8, .inr (.inr (.inr (.inr (va_up f i (some v)))))))] : va_W) ++ (sgm u ad F 93 (30 * i) ++ sgm u ad3 F3 (93 + 30 * i) 30)))
      rw [sgm_glue (c := 93 + 30 * i) (m := 30) (l := 30 * (i + 1)) rfl (by omega) (rfP (by omega)) g1 g2]
      refine V_iinc 37 (nI (i + 1)) rfl dX6_init_34 rfl (by rw [ic_1, nI_add]) (Nat.le_of_ble_eq_true rfl) ?_
      refine V_goto 15 (by decide) dX6_init_37 ?_
      refine V_more (kc := 30 * n) (ks := 305 * n) (by omega) (by omega) (ih (i + 1) (by omega) ad3 F3 (va_up f i (some v)) (fun k hk => (g1 k (by omega)).trans (k1 k hk)) (fun k hk => (g2 k (by omega)).trans (k2 k hk)) ?_ (fun j hj => ?_))
      · exact FO_app (c := 93 + 30 * i) rfl (by omega) (FO_congr (rfP (by omega)) (fun r hr => g1 r (by omega)) (fun k q1 q2 => g2 k (by omega)) k3) g4
      · by_cases e : j = i
        · subst e
          rw [va_up_self, g3]
        · rw [va_up_ne f (some v) e, k4 j (by omega), g1 _ (by omega)]
  exact V_more (kc := 30 * 8) (ks := 305 * 8) (by omega) (by omega) (loop 8 0 rfl (adU ad0 91 [q, q1]) F0 (fun _ => none) (fun k hk => rfl) (fun k hk => rfl) (FO_none (fun r hr => absurd hr (Nat.not_lt_zero r))) (fun j hj => absurd hj (Nat.not_lt_zero j)))
