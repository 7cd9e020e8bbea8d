/-! THE MODEL: rotas (laid by wip/whole/src/p66.py) -/
theorem cb1 : ∀ fr, fr < 64 → ∀ m, m < 6 → (63 - fr).testBit m = !fr.testBit m := by decide +kernel
theorem cb2 : ∀ fr, fr < 64 → ∀ m, m < 6 → fr.testBit m = true → 63 - (fr - 2 ^ m) = (63 - fr) ||| 2 ^ m := by decide +kernel
theorem cb3 : ∀ m, m < 7 → ∀ j, j < 6 → (2 ^ m - 1).testBit j = decide (j < m) := by decide +kernel
theorem rM_stop {v h : Nat → Nat} {u t M : Nat} : ∀ k, M ≤ k → (∀ m, M ≤ m → m < k → v m = 0) → rM v h u t k = rM v h u t M
  | 0, hk, _ => by rw [show M = 0 by omega]
  | k + 1, hk, hz => by
    by_cases e : M = k + 1
    · rw [e]
    · simp only [rM]
      rw [if_neg (fun z => by
        have z2 := z.2
        rw [hz k (by omega) (by omega), Nat.zero_testBit] at z2
        exact absurd z2 (by decide)), rM_stop k (by omega) (fun m h1 h2 => hz m h1 (by omega))]
theorem rM_cong {v h : Nat → Nat} {u t t2 : Nat} (h0 : h t2 = h t) : ∀ k, (∀ m, m < k → v m ≠ 0 → t2.testBit m = t.testBit m ∧ h (t2 ||| 2 ^ m) = h (t ||| 2 ^ m)) → rM v h u t2 k = rM v h u t k
  | 0, _ => h0
  | k + 1, hz => by
    have ih := rM_cong (u := u) h0 k (fun m hm => hz m (by omega))
    simp only [rM]
    rw [ih]
    by_cases e : v k = 0
    · rw [if_neg (fun z => by have z2 := z.2; rw [e, Nat.zero_testBit] at z2; exact absurd z2 (by decide)), if_neg (fun z => by have z2 := z.2; rw [e, Nat.zero_testBit] at z2; exact absurd z2 (by decide))]
    · have q := hz k (by omega) e
      rw [q.1, q.2]
theorem rW_cong {v : Nat → Nat} : ∀ k t t2, (∀ m, m < 6 → v m ≠ 0 → t2.testBit m = t.testBit m) → rW v k t2 = rW v k t
  | 0, _, _, _ => rfl
  | k + 1, t, t2, h => by
    simp only [rW]
    refine rM_cong (rW_cong k t t2 h) 6 (fun m hm hv => ⟨h m hm hv, rW_cong k _ _ (fun j hj hvj => ?_)⟩)
    rw [Nat.testBit_or, Nat.testBit_or, h j hj hvj]
theorem lkF_spec {v : Nat → Nat} {u t : Nat} : ∀ k, k ≤ 6 → lkF v u t k ≠ 4294967295 → t.testBit (lkF v u t k) = false ∧ (v (lkF v u t k)).testBit u = true
  | 0, _, h => absurd rfl h
  | k + 1, hk, h => by
    simp only [lkF] at h ⊢
    by_cases c : t.testBit (5 - k) = false ∧ (v (5 - k)).testBit u = true ∧ 1 + rW v (7 - u) (t ||| 2 ^ (5 - k)) = rW v (8 - u) t
    · rw [if_pos c]; exact ⟨c.1, c.2.1⟩
    · rw [if_neg c] at h ⊢; exact lkF_spec k (by omega) h
theorem lkF_none {v : Nat → Nat} {u t M : Nat} (hM : M ≤ 6) (hz : ∀ m, M ≤ m → m < 6 → v m = 0) : ∀ k, k ≤ 6 - M → lkF v u t k = 4294967295
  | 0, _ => rfl
  | k + 1, hk => by
    simp only [lkF]
    rw [if_neg (fun z => by
      have z2 := z.2.1
      rw [hz (5 - k) (by omega) (by omega), Nat.zero_testBit] at z2
      exact absurd z2 (by decide))]
    exact lkF_none hM hz k (by omega)
/-- who is free, and who is taken -/
def RelF (M fr t : Nat) : Prop := fr < 64 ∧ ∀ m, m < 6 → fr.testBit m = (decide (m < M) && !t.testBit m)
theorem RelF.w {v : Nat → Nat} {M fr t : Nat} (h : RelF M fr t) (hz : ∀ m, M ≤ m → m < 6 → v m = 0) (k : Nat) : rW v k (63 - fr) = rW v k t := rW_cong k _ _ (fun m hm hv => by
  rw [cb1 fr h.1 m hm, h.2 m hm]
  have : m < M := by
    refine Classical.byContradiction (fun q => hv (hz m (by omega) hm))
  simp [this])
theorem RelF.w2 {v : Nat → Nat} {M fr t d : Nat} (h : RelF M fr t) (hz : ∀ m, M ≤ m → m < 6 → v m = 0) (hd : d < 6) (hb : fr.testBit d = true) (k : Nat) : rW v k (63 - (fr - 2 ^ d)) = rW v k (t ||| 2 ^ d) := by
  rw [cb2 fr h.1 d hd hb]
  refine rW_cong k _ _ (fun m hm hv => ?_)
  rw [Nat.testBit_or, Nat.testBit_or, cb1 fr h.1 m hm, h.2 m hm]
  have : m < M := by
    refine Classical.byContradiction (fun q => hv (hz m (by omega) hm))
  simp [this]
theorem RelF.take {M fr t d : Nat} (h : RelF M fr t) (hd : d < 6) (hb : fr.testBit d = true) : RelF M (fr - 2 ^ d) (t ||| 2 ^ d) := by
  have h1 := h.1
  have pd := Nat.two_pow_pos d
  refine ⟨by omega, fun m hm => ?_⟩
  rw [tb_sub d (by omega) fr (by omega) hb m (by omega), h.2 m hm, Nat.testBit_or, Nat.testBit_two_pow]
  by_cases e : d = m
  · subst e; simp
  · have e2 : ¬ m = d := fun z => e z.symm
    simp [e, e2]
def bhV (f T : Nat → Nat) (u fr m : Nat) : Nat := if fr.testBit m = true ∧ (f (215 + m)).testBit u = true then 1 + T (64 * (u + 1) + (fr - 2 ^ m)) else 4294967295
def pr1 (c : Nat) : Nat := if c = 0 then 4294967295 else c - 1
theorem sub1_pr (c : Nat) : nI c - nI 1 = nI (pr1 c) := by
  unfold pr1
  by_cases h : c = 0
  · rw [if_pos h, h]; decide
  · rw [if_neg h, pk_sub (by omega)]
section ROTROW
variable {g : Gn} {y : MI} {d kc ks : Nat} {Q : Option Value → DJ → Prop} {X : String → DJ → Prop} {pc : Nat} {L : List (Nat × Value)} {st : List Value} {J : DJ}
theorem J_isub1 (pc' : Nat) {a : Nat} (hp : pc + 1 = pc') (hd : decode y.2.1 pc = .ok (.isub, 1)) (h : VJ g y d kc ks Q X pc' L (.int (nI (pr1 a)) :: st) J) : VJ g y d kc ks Q X pc L (.int (nI 1) :: .int (nI a) :: st) J := J_isubR pc' hp hd (by rw [sub1_pr]; exact h)
/-- the greater of a small number and -1 -/
theorem J_mmaxM (pc' : Nat) {idx a : Nat} (hp : pc + 3 = pc') (hd : decode y.2.1 pc = .ok (.invokestatic idx, 3)) (hl0 : Cond.methodLink y.1.cls idx Lib.Math.max.name ∈ WALL) (hcat : (st.map fun v => v.category).sum ≤ 8) (hdd : 1 ≤ d) (ha : a < 2147483648) (h : VJ g y d kc ks Q X pc' L (.int (nI a) :: st) J) : VJ g y d kc ks Q X pc L (.int (nI 4294967295) :: .int (nI a) :: st) J := by
  have nlt : ¬ (nI a < nI 4294967295) := fun z => by
    rw [Int32.lt_iff_toInt_lt, nI_toInt ha] at z
    have e : (nI 4294967295).toInt = -1 := by decide
    omega
  refine V_mmax pc' hp hd hl0 lk_maxS lk_mathI lk_maxC hcat hdd ?_
  rw [if_neg nlt]
  exact h
end ROTROW
theorem S_X11_isAble {g : Gn} {J : DJ} {f : Nat → Nat} {m u : Nat} (hm : m < 6) (hu : u < 8) (hv : f (215 + m) < 256) : SJ g mX11_isAble 0 0 0 [.ref (g.2 351), .int (nI (m)), .int (nI (u))] (sR J 352 f) (Ri (bt ((f (215 + m)).testBit u = true)) (sR J 352 f)) NoX := by
  have sb := shr_bit u hu _ hv
  refine SJ_of_VJ (by decide +kernel) (Nat.le_of_ble_eq_true rfl) ?_
  show VJ g mX11_isAble 0 0 0 _ _ 0 [(0, .ref (g.2 351)), (1, .int (nI (m))), (2, .int (nI (u)))] [] (sR J 352 f)
  refine J_aload_n 1 rfl dX11_isAble_0 rfl ?_
  refine g_X11_m 4 rfl dX11_isAble_1 lkX11_9 ?_
  refine J_sipush 7 215 rfl dX11_isAble_4 sc_215 ?_
  refine J_iload_n 8 rfl dX11_isAble_7 rfl ?_
  refine J_iadd 9 rfl dX11_isAble_8 ?_
  refine J_mald 10 rfl dX11_isAble_9 (by omega) ?_
  refine J_iload_n 11 rfl dX11_isAble_10 rfl ?_
  refine J_ishr 12 (f (215 + m) / 2 ^ u) rfl dX11_isAble_11 sb.1 ?_
  refine J_iconst 13 1 rfl dX11_isAble_12 ic_1 ?_
  refine J_iand 14 (if (f (215 + m)).testBit u then 1 else 0) rfl dX11_isAble_13 sb.2 ?_
  refine J_iconst 15 1 rfl dX11_isAble_14 ic_1 ?_
  refine J_icmp_ne 22 18 (by decide) rfl dX11_isAble_15 (by split <;> omega) (by omega) (fun c15 => ?_) (fun c15 => ?_)
  · refine J_iconst 23 0 rfl dX11_isAble_22 ic_0 ?_
    refine J_zret0 rfl dX11_isAble_23 ?_
    by_cases q : (f (215 + m)).testBit u = true
    · first
        | exact ⟨congrArg (fun z => some (Value.int (nI z))) (bt_t q).symm, rfl⟩
        | (exfalso; rw [if_pos q] at c15; omega)
    · first
        | exact ⟨congrArg (fun z => some (Value.int (nI z))) (bt_f q).symm, rfl⟩
        | (exfalso; rw [if_neg q] at c15; omega)
  · refine J_iconst 19 1 rfl dX11_isAble_18 ic_1 ?_
    refine J_goto 23 (by decide) dX11_isAble_19 ?_
    refine J_zret1 rfl dX11_isAble_23 ?_
    by_cases q : (f (215 + m)).testBit u = true
    · first
        | exact ⟨congrArg (fun z => some (Value.int (nI z))) (bt_t q).symm, rfl⟩
        | (exfalso; rw [if_pos q] at c15; omega)
    · first
        | exact ⟨congrArg (fun z => some (Value.int (nI z))) (bt_f q).symm, rfl⟩
        | (exfalso; rw [if_neg q] at c15; omega)

theorem S_X11_behind {g : Gn} {J : DJ} {f : Nat → Nat} {m u fr : Nat} (hm : m < 6) (hu : u < 8) (hfr : fr < 64) (hv : f (215 + m) < 256) : SJ g mX11_behind 1 0 0 [.ref (g.2 351), .int (nI (u)), .int (nI (fr)), .int (nI (m))] (sR J 352 f) (Ri (bhV f (J 358) u fr m) (sR J 352 f)) NoX := by
  have sb := shr_bit m (by omega) fr (by omega)
  have cb := clr_bit m (by omega) fr (by omega)
  have pm := Nat.two_pow_pos m
  refine SJ_of_VJ (by decide +kernel) (Nat.le_of_ble_eq_true rfl) ?_
  show VJ g mX11_behind 1 0 0 _ _ 0 [(0, .ref (g.2 351)), (1, .int (nI (u))), (2, .int (nI (fr))), (3, .int (nI (m)))] [] (sR J 352 f)
  have tl : ∀ (b : Nat), b < 2 → (b = 1 ↔ fr.testBit m = true ∧ (f (215 + m)).testBit u = true) → VJ g mX11_behind 1 0 0 (Ri (bhV f (J 358) u fr m) (sR J 352 f)) NoX 23 [(0, .ref (g.2 351)), (1, .int (nI u)), (2, .int (nI fr)), (3, .int (nI m))] [.int (nI b)] (sR J 352 f) := by
    intro b hb hbb
    refine J_istore 25 rfl dX11_behind_23 (Nat.le_of_ble_eq_true rfl) ?_
    refine J_iload 27 rfl dX11_behind_25 rfl ?_
    refine J_if_eq 54 30 (by decide) rfl dX11_behind_27 (by omega) (fun c27 => ?_) (fun c27 => ?_)
    · refine J_iconst 55 4294967295 rfl dX11_behind_54 ic_m1 ?_
      refine J_iret rfl dX11_behind_55 ?_
      unfold bhV
      first
        | exact ⟨by rw [if_pos (hbb.mp (by omega))], rfl⟩
        | exact ⟨by rw [if_neg (fun z => by have := hbb.mpr z; omega)], rfl⟩
    · refine J_iconst 31 1 rfl dX11_behind_30 ic_1 ?_
      refine J_aload_n 32 rfl dX11_behind_31 rfl ?_
      refine g_X11_mosts 35 rfl dX11_behind_32 lkX11_35 ?_
      refine J_bipush 37 64 rfl dX11_behind_35 bc_64 ?_
      refine J_iload_n 38 rfl dX11_behind_37 rfl ?_
      refine J_iconst 39 1 rfl dX11_behind_38 ic_1 ?_
      refine J_iadd 40 rfl dX11_behind_39 ?_
      refine J_imul 41 rfl dX11_behind_40 ?_
      refine J_iload_n 42 rfl dX11_behind_41 rfl ?_
      refine J_iconst 43 1 rfl dX11_behind_42 ic_1 ?_
      refine J_iload_n 44 rfl dX11_behind_43 rfl ?_
      refine J_ishl 45 (2 ^ m) rfl dX11_behind_44 (sh1 m (by omega)) ?_
      refine J_iconst 46 4294967295 rfl dX11_behind_45 ic_m1 ?_
      refine J_ixorR 47 rfl dX11_behind_46 ?_
      refine J_iand 48 (fr - 2 ^ m) rfl dX11_behind_47 (by rw [cb, if_pos (hbb.mp (by omega)).1]) ?_
      refine J_iadd 49 rfl dX11_behind_48 ?_
      refine J_iald 50 rfl dX11_behind_49 (sa_X11_mosts) (by omega) ?_
      refine J_cv (b := J 358 (64 * (u + 1) + (fr - 2 ^ m))) (by rw [sR_ne (by omega)]) ?_
      refine J_iadd 51 rfl dX11_behind_50 ?_
      refine J_goto 55 (by decide) dX11_behind_51 ?_
      refine J_iret rfl dX11_behind_55 ?_
      unfold bhV
      first
        | exact ⟨by rw [if_pos (hbb.mp (by omega))], rfl⟩
        | exact ⟨by rw [if_neg (fun z => by have := hbb.mpr z; omega)], rfl⟩
  refine J_iload_n 1 rfl dX11_behind_0 rfl ?_
  refine J_iload_n 2 rfl dX11_behind_1 rfl ?_
  refine J_ishr 3 (fr / 2 ^ m) rfl dX11_behind_2 sb.1 ?_
  refine J_iconst 4 1 rfl dX11_behind_3 ic_1 ?_
  refine J_iand 5 (if fr.testBit m then 1 else 0) rfl dX11_behind_4 sb.2 ?_
  refine J_iconst 6 1 rfl dX11_behind_5 ic_1 ?_
  refine J_icmp_ne 22 9 (by decide) rfl dX11_behind_6 (by split <;> omega) (by omega) (fun c6 => ?_) (fun c6 => ?_)
  · refine J_iconst 23 0 rfl dX11_behind_22 ic_0 ?_
    have wb : fr.testBit m = true ∨ fr.testBit m = false := by cases fr.testBit m <;> simp
    first
      | exact tl 1 (by omega) ⟨fun _ => ⟨by
          rcases wb with z | z
          · exact z
          · rw [if_neg (by rw [z]; decide)] at c6; omega, by assumption⟩, fun _ => rfl⟩
      | exact tl 0 (by omega) ⟨fun z => absurd z (by omega), fun z => absurd z.2 (by assumption)⟩
      | exact tl 0 (by omega) ⟨fun z => absurd z (by omega), fun z => by
          rw [if_pos z.1] at c6
          omega⟩
  · refine J_aload_n 10 rfl dX11_behind_9 rfl ?_
    refine J_iload_n 11 rfl dX11_behind_10 rfl ?_
    refine J_iload_n 12 rfl dX11_behind_11 rfl ?_
    refine J_callVi (As := [_, _]) 15 _ rfl kalX11_isAble lkX11_102 dX11_behind_12 (lt_X11) (so_X11) rfl rfl rfl (by exact Nat.le_of_ble_eq_true rfl) (by omega) (S_X11_isAble hm hu hv) ?_
    refine J_ifb_eq (hdp := _) 22 18 (by decide) rfl dX11_behind_15 (fun c15 => ?_) (fun c15 => ?_)
    · refine J_iconst 23 0 rfl dX11_behind_22 ic_0 ?_
      have wb : fr.testBit m = true ∨ fr.testBit m = false := by cases fr.testBit m <;> simp
      first
        | exact tl 1 (by omega) ⟨fun _ => ⟨by
            rcases wb with z | z
            · exact z
            · rw [if_neg (by rw [z]; decide)] at c6; omega, by assumption⟩, fun _ => rfl⟩
        | exact tl 0 (by omega) ⟨fun z => absurd z (by omega), fun z => absurd z.2 (by assumption)⟩
        | exact tl 0 (by omega) ⟨fun z => absurd z (by omega), fun z => by
            rw [if_pos z.1] at c6
            omega⟩
    · refine J_iconst 19 1 rfl dX11_behind_18 ic_1 ?_
      refine J_goto 23 (by decide) dX11_behind_19 ?_
      have wb : fr.testBit m = true ∨ fr.testBit m = false := by cases fr.testBit m <;> simp
      first
        | exact tl 1 (by omega) ⟨fun _ => ⟨by
            rcases wb with z | z
            · exact z
            · rw [if_neg (by rw [z]; decide)] at c6; omega, by assumption⟩, fun _ => rfl⟩
        | exact tl 0 (by omega) ⟨fun z => absurd z (by omega), fun z => absurd z.2 (by assumption)⟩
        | exact tl 0 (by omega) ⟨fun z => absurd z (by omega), fun z => by
            rw [if_pos z.1] at c6
            omega⟩

theorem S_X11_rotas {g : Gn} {J : DJ} {f : Nat → Nat} {B : Nat} (hw : WF f B) : SJ g mX11_rotas 2 0 0 [.ref (g.2 351)] (sR J 352 f) (Rp (rW (fvig f) 8 0) (fun J2 => ∃ T K, J2 = (sR (sR (sR J 358 T) 359 K) 352 f) ∧ ∀ u, u < 8 → K u = kp (fvig f) u)) NoX := by
  have h0 := hw.1
  have h2 := hw.2.1
  have h3 := hw.2.2.1
  have hO := hw.2.2.2.2.2.1
  have h4 := hw.2.2.2.2.1.1
  have hB := hw.2.2.2.2.2.2.2.2.1
  have hmo := hw.2.2.2.2.2.2.2.1
  have hv : ∀ m, m < 6 → f (215 + m) < 256 := fun m hm => (hmo m hm).1
  have hz : ∀ m, f 3 ≤ m → m < 6 → (fvig f) m = 0 := fun m h1 h2 => (hmo m h2).2 h1
  have r8 : ∀ T : Nat → Nat, (sR (sR J 358 T) 352 f) 358 = T := fun T => by rw [sR_ne (by omega), sR_at]
  have r84 : ∀ T K : Nat → Nat, (sR (sR (sR J 358 T) 359 K) 352 f) 358 = T := fun T K => by rw [sR_ne (by omega), sR_ne (by omega), sR_at]
  have r94 : ∀ T K : Nat → Nat, (sR (sR (sR J 358 T) 359 K) 352 f) 359 = K := fun T K => by rw [sR_ne (by omega), sR_at]
  refine SJ_of_VJ (by decide +kernel) (Nat.le_of_ble_eq_true rfl) ?_
  show VJ g mX11_rotas 2 0 0 _ _ 0 [(0, .ref (g.2 351))] [] (sR J 352 f)
  have phD : ∀ (T : Nat → Nat), (∀ w, 0 ≤ w → w ≤ 8 → ∀ s, s < 64 → T (64 * w + s) = rW (fvig f) (8 - w) (63 - s)) → ∀ (n9 : Nat) (u fr : Nat) (K : Nat → Nat), 8 - u = n9 → u ≤ 8 → (∀ w, w < u → K w = kp (fvig f) w) → RelF (f 3) fr (kpT (fvig f) u) → VJ g mX11_rotas 2 0 0 (Rp (rW (fvig f) 8 0) (fun J2 => ∃ T K, J2 = (sR (sR (sR J 358 T) 359 K) 352 f) ∧ ∀ u, u < 8 → K u = kp (fvig f) u)) NoX 131 [(0, .ref (g.2 351)), (1, .int (nI fr)), (2, .int (nI (rW (fvig f) 8 0))), (3, .int (nI u))] [] (sR (sR (sR J 358 T) 359 K) 352 f) := by
    intro T hT n9
    induction n9 using Nat.strongRecOn with
    | ind n9 ih =>
      intro u fr K hi hu hK hR
      have mo : u < 8 → ∀ (K : Nat → Nat), (∀ w, w < u → K w = kp (fvig f) w) → K u = 4294967295 → VJ g mX11_rotas 2 0 0 (Rp (rW (fvig f) 8 0) (fun J2 => ∃ T K, J2 = (sR (sR (sR J 358 T) 359 K) 352 f) ∧ ∀ u, u < 8 → K u = kp (fvig f) u)) NoX 154 [(0, .ref (g.2 351)), (1, .int (nI fr)), (2, .int (nI (rW (fvig f) 8 0))), (3, .int (nI u)), (4, .int (nI (pr1 (f 3))))] [] (sR (sR (sR J 358 T) 359 K) 352 f) := by
        intro hu8
        have monks : ∀ (c : Nat) (K : Nat → Nat), c ≤ f 3 → (∀ w, w < u → K w = kp (fvig f) w) → K u = lkF (fvig f) u (kpT (fvig f) u) (6 - c) → VJ g mX11_rotas 2 0 0 (Rp (rW (fvig f) 8 0) (fun J2 => ∃ T K, J2 = (sR (sR (sR J 358 T) 359 K) 352 f) ∧ ∀ u, u < 8 → K u = kp (fvig f) u)) NoX 154 [(0, .ref (g.2 351)), (1, .int (nI fr)), (2, .int (nI (rW (fvig f) 8 0))), (3, .int (nI u)), (4, .int (nI (pr1 c)))] [] (sR (sR (sR J 358 T) 359 K) 352 f) := by
          intro c
          induction c with
          | zero =>
            intro K hc hK hKu
            refine J_iload 156 rfl dX11_rotas_154 rfl ?_
            refine J_ifR_lt 204 159 (by decide) rfl dX11_rotas_156 (fun _ => ?_) (fun c => absurd (by decide) c)
            have kl := lkF_lt (fvig f) u (kpT (fvig f) u) 6
            refine J_iload_n 205 rfl dX11_rotas_204 rfl ?_
            refine J_aload_n 206 rfl dX11_rotas_205 rfl ?_
            refine g_X11_keepers 209 rfl dX11_rotas_206 lkX11_38 ?_
            refine J_iload_n 210 rfl dX11_rotas_209 rfl ?_
            refine J_iald 211 rfl dX11_rotas_210 (sa_X11_keepers) (by omega) ?_
            refine J_cv (b := lkF (fvig f) u (kpT (fvig f) u) 6) (by rw [r94]; exact hKu) ?_
            refine J_iconst 212 4294967295 rfl dX11_rotas_211 ic_m1 ?_
            refine J_icmp_ne 219 215 (by decide) rfl dX11_rotas_212 (by omega) (by omega) (fun c212 => ?_) (fun c212 => ?_)
            · skip
              refine J_iconst 220 1 rfl dX11_rotas_219 ic_1 ?_
              refine J_aload_n 221 rfl dX11_rotas_220 rfl ?_
              refine g_X11_keepers 224 rfl dX11_rotas_221 lkX11_38 ?_
              refine J_iload_n 225 rfl dX11_rotas_224 rfl ?_
              refine J_iald 226 rfl dX11_rotas_225 (sa_X11_keepers) (by omega) ?_
              refine J_cv (b := lkF (fvig f) u (kpT (fvig f) u) 6) (by rw [r94]; exact hKu) ?_
              refine J_ishl 227 (2 ^ lkF (fvig f) u (kpT (fvig f) u) 6) rfl dX11_rotas_226 (sh1 _ (by omega)) ?_
              refine J_iconst 228 4294967295 rfl dX11_rotas_227 ic_m1 ?_
              refine J_ixorR 229 rfl dX11_rotas_228 ?_
              have sp := lkF_spec (v := (fvig f)) (u := u) (t := kpT (fvig f) u) 6 (Nat.le_refl _) c212
              have kM : lkF (fvig f) u (kpT (fvig f) u) 6 < f 3 := by
                refine Classical.byContradiction (fun q => ?_)
                have s2 := sp.2
                rw [hz _ (by omega) (by omega), Nat.zero_testBit] at s2
                exact absurd s2 (by decide)
              have fb : fr.testBit (lkF (fvig f) u (kpT (fvig f) u) 6) = true := by rw [hR.2 _ (by omega), sp.1]; simp [kM]
              have cb := clr_bit (lkF (fvig f) u (kpT (fvig f) u) 6) (by omega) fr (by have := hR.1; omega)
              rw [if_pos fb] at cb
              refine J_iand 230 (fr - 2 ^ lkF (fvig f) u (kpT (fvig f) u) 6) rfl dX11_rotas_229 cb ?_
              refine J_istore_n 231 rfl dX11_rotas_230 rfl (Nat.le_of_ble_eq_true rfl) ?_
              refine J_iinc 234 1 rfl dX11_rotas_231 ic_1 rfl (Nat.le_of_ble_eq_true rfl) ?_
              refine J_goto 131 (by decide) dX11_rotas_234 ?_
              refine J_keep [0, 1, 2, 3] ?_
              refine ih _ (by omega) (u + 1) (fr - 2 ^ lkF (fvig f) u (kpT (fvig f) u) 6) K rfl (by omega) (fun w hw2 => ?_) ?_
              · by_cases z : w = u
                · rw [z]; exact hKu
                · exact hK w (by omega)
              · simp only [kpT]
                rw [if_neg c212]
                exact hR.take (by omega) fb
            · skip
              refine J_iload_n 216 rfl dX11_rotas_215 rfl ?_
              refine J_goto 229 (by decide) dX11_rotas_216 ?_
              refine J_iand 230 fr rfl dX11_rotas_229 Int32.and_self ?_
              refine J_istore_n 231 rfl dX11_rotas_230 rfl (Nat.le_of_ble_eq_true rfl) ?_
              refine J_iinc 234 1 rfl dX11_rotas_231 ic_1 rfl (Nat.le_of_ble_eq_true rfl) ?_
              refine J_goto 131 (by decide) dX11_rotas_234 ?_
              refine J_keep [0, 1, 2, 3] ?_
              refine ih _ (by omega) (u + 1) fr K rfl (by omega) (fun w hw2 => ?_) ?_
              · by_cases z : w = u
                · rw [z]; exact hKu
                · exact hK w (by omega)
              · simp only [kpT]
                rw [if_pos c212]
                exact hR
          | succ d ihd =>
            intro K hc hK hKu
            have pd := Nat.two_pow_pos d
            have e9 : pr1 (d + 1) = d := by unfold pr1; rw [if_neg (by omega)]; omega
            rw [e9]
            have wl8 := rW_le (fvig f) (8 - u) (kpT (fvig f) u)
            have Tu : T (64 * u + fr) = rW (fvig f) (8 - u) (kpT (fvig f) u) := by rw [hT u (Nat.zero_le _) (by omega) fr hR.1, hR.w hz]
            have lk : lkF (fvig f) u (kpT (fvig f) u) (6 - d) = if (kpT (fvig f) u).testBit d = false ∧ ((fvig f) d).testBit u = true ∧ 1 + rW (fvig f) (7 - u) (kpT (fvig f) u ||| 2 ^ d) = rW (fvig f) (8 - u) (kpT (fvig f) u) then d else lkF (fvig f) u (kpT (fvig f) u) (5 - d) := by
              rw [show 6 - d = (5 - d) + 1 by omega]
              simp only [lkF]
              rw [show 5 - (5 - d) = d by omega]
            have bv : bhV f T u fr d = rW (fvig f) (8 - u) (kpT (fvig f) u) ↔ (kpT (fvig f) u).testBit d = false ∧ ((fvig f) d).testBit u = true ∧ 1 + rW (fvig f) (7 - u) (kpT (fvig f) u ||| 2 ^ d) = rW (fvig f) (8 - u) (kpT (fvig f) u) := by
              unfold bhV
              have fd : fr.testBit d = !(kpT (fvig f) u).testBit d := by
                rw [hR.2 d (by omega)]
                have : d < f 3 := by omega
                simp [this]
              by_cases q : fr.testBit d = true ∧ (f (215 + d)).testBit u = true
              · rw [if_pos q, hT (u + 1) (Nat.zero_le _) (by omega) _ (by have := hR.1; omega), show 8 - (u + 1) = 7 - u by omega, hR.w2 hz (by omega) q.1]
                rw [fd] at q
                have q1 : (kpT (fvig f) u).testBit d = false := by simpa using q.1
                exact ⟨fun z => ⟨q1, q.2, z⟩, fun z => z.2.2⟩
              · rw [if_neg q]
                constructor
                · intro z; omega
                · intro z
                  exfalso
                  exact q ⟨by rw [fd, z.1]; rfl, z.2.1⟩
            have bl : bhV f T u fr d < 4294967296 := by
              unfold bhV
              split
              · next q =>
                have q1 := rW_le (fvig f) (8 - (u + 1)) (63 - (fr - 2 ^ d))
                rw [hT (u + 1) (Nat.zero_le _) (by omega) _ (by have := hR.1; omega)]
                omega
              · omega
            have down : ∀ (K : Nat → Nat), (∀ w, w < u → K w = kp (fvig f) w) → K u = lkF (fvig f) u (kpT (fvig f) u) (6 - d) → VJ g mX11_rotas 2 0 0 (Rp (rW (fvig f) 8 0) (fun J2 => ∃ T K, J2 = (sR (sR (sR J 358 T) 359 K) 352 f) ∧ ∀ u, u < 8 → K u = kp (fvig f) u)) NoX 198 [(0, .ref (g.2 351)), (1, .int (nI fr)), (2, .int (nI (rW (fvig f) 8 0))), (3, .int (nI u)), (4, .int (nI d))] [] (sR (sR (sR J 358 T) 359 K) 352 f) := by
              intro K hK hKu
              by_cases z0 : d = 0
              · subst z0
                refine J_iincM0 201 rfl dX11_rotas_198 rfl (Nat.le_of_ble_eq_true rfl) ?_
                refine J_goto 154 (by decide) dX11_rotas_201 ?_
                exact ihd K (Nat.zero_le _) hK hKu
              · have ep : pr1 d = d - 1 := by unfold pr1; rw [if_neg z0]
                have z := ihd K (by omega) hK hKu
                rw [ep] at z
                refine J_iincM 201 rfl dX11_rotas_198 rfl (Nat.le_of_ble_eq_true rfl) (by omega) ?_
                refine J_goto 154 (by decide) dX11_rotas_201 ?_
                exact z
            refine J_iload 156 rfl dX11_rotas_154 rfl ?_
            refine J_if_lt 204 159 (by decide) rfl dX11_rotas_156 (by omega) ?_
            refine J_aload_n 160 rfl dX11_rotas_159 rfl ?_
            refine g_X11_keepers 163 rfl dX11_rotas_160 lkX11_38 ?_
            refine J_iload_n 164 rfl dX11_rotas_163 rfl ?_
            refine J_aload_n 165 rfl dX11_rotas_164 rfl ?_
            refine J_iload_n 166 rfl dX11_rotas_165 rfl ?_
            refine J_iload_n 167 rfl dX11_rotas_166 rfl ?_
            refine J_iload 169 rfl dX11_rotas_167 rfl ?_
            refine J_callVi (As := [_, _, _]) 172 _ rfl kalX11_behind lkX11_106 dX11_rotas_169 (lt_X11) (so_X11) rfl rfl rfl (by exact Nat.le_of_ble_eq_true rfl) (by omega) (S_X11_behind (by omega) (by omega) hR.1 (hv _ (by omega))) ?_
            refine J_cv (b := bhV f T u fr d) (by congr 1) ?_
            refine J_aload_n 173 rfl dX11_rotas_172 rfl ?_
            refine g_X11_mosts 176 rfl dX11_rotas_173 lkX11_35 ?_
            refine J_bipush 178 64 rfl dX11_rotas_176 bc_64 ?_
            refine J_iload_n 179 rfl dX11_rotas_178 rfl ?_
            refine J_imul 180 rfl dX11_rotas_179 ?_
            refine J_iload_n 181 rfl dX11_rotas_180 rfl ?_
            refine J_iadd 182 rfl dX11_rotas_181 ?_
            refine J_iald 183 rfl dX11_rotas_182 (sa_X11_mosts) (by have := hR.1; omega) ?_
            refine J_cv (b := rW (fvig f) (8 - u) (kpT (fvig f) u)) (by rw [r84]; exact Tu) ?_
            refine J_icmp_ne 191 186 (by decide) rfl dX11_rotas_183 bl (by omega) (fun c183 => ?_) (fun c183 => ?_)
            · refine J_aload_n 192 rfl dX11_rotas_191 rfl ?_
              refine g_X11_keepers 195 rfl dX11_rotas_192 lkX11_38 ?_
              refine J_iload_n 196 rfl dX11_rotas_195 rfl ?_
              refine J_iald 197 rfl dX11_rotas_196 (sa_X11_keepers) (by omega) ?_
              refine J_cv (b := K u) (by rw [r94]) ?_
              refine J_iast 198 rfl dX11_rotas_197 (sa_X11_keepers) (by omega) ?_
              rw [up2_out (by omega)]
              rw [up2_in]
              first
                | (have cnd := bv.mp (by assumption)
                   rw [if_pos cnd] at lk
                   refine down _ (fun w hw2 => by rw [up1_ne (by omega)]; exact hK w hw2) ?_
                   rw [up1_self, lk]; done)
                | (have cnd : ¬ _ := fun z => absurd (bv.mpr z) (by assumption)
                   rw [if_neg cnd] at lk
                   refine down _ (fun w hw2 => by rw [up1_ne (by omega)]; exact hK w hw2) ?_
                   rw [up1_self, lk, hKu, show 6 - (d + 1) = 5 - d by omega]; done)
            · refine J_iload 188 rfl dX11_rotas_186 rfl ?_
              refine J_goto 197 (by decide) dX11_rotas_188 ?_
              refine J_iast 198 rfl dX11_rotas_197 (sa_X11_keepers) (by omega) ?_
              rw [up2_out (by omega)]
              rw [up2_in]
              first
                | (have cnd := bv.mp (by assumption)
                   rw [if_pos cnd] at lk
                   refine down _ (fun w hw2 => by rw [up1_ne (by omega)]; exact hK w hw2) ?_
                   rw [up1_self, lk]; done)
                | (have cnd : ¬ _ := fun z => absurd (bv.mpr z) (by assumption)
                   rw [if_neg cnd] at lk
                   refine down _ (fun w hw2 => by rw [up1_ne (by omega)]; exact hK w hw2) ?_
                   rw [up1_self, lk, hKu, show 6 - (d + 1) = 5 - d by omega]; done)
        intro K hK hKu
        exact monks (f 3) K (Nat.le_refl _) hK (by rw [hKu, lkF_none h3 hz _ (Nat.le_refl _)])
      refine J_iload_n 132 rfl dX11_rotas_131 rfl ?_
      refine J_bipush 134 8 rfl dX11_rotas_132 bc_8 ?_
      refine J_icmp_ge 237 137 (by decide) rfl dX11_rotas_134 (by omega) (by omega) (fun c134 => ?_) (fun c134 => ?_)
      · refine J_iload_n 238 rfl dX11_rotas_237 rfl ?_
        refine J_iret rfl dX11_rotas_238 ?_
        have e9 : u = 8 := by omega
        subst e9
        exact ⟨rfl, T, K, rfl, hK⟩
      · refine J_aload_n 138 rfl dX11_rotas_137 rfl ?_
        refine g_X11_keepers 141 rfl dX11_rotas_138 lkX11_38 ?_
        refine J_iload_n 142 rfl dX11_rotas_141 rfl ?_
        refine J_iconst 143 4294967295 rfl dX11_rotas_142 ic_m1 ?_
        refine J_iast 144 rfl dX11_rotas_143 (sa_X11_keepers) (by omega) ?_
        rw [up2_out (by omega)]
        refine J_aload_n 145 rfl dX11_rotas_144 rfl ?_
        refine g_X11_m 148 rfl dX11_rotas_145 lkX11_9 ?_
        refine J_iconst 149 3 rfl dX11_rotas_148 ic_3 ?_
        refine J_mald 150 rfl dX11_rotas_149 (by omega) ?_
        refine J_iconst 151 1 rfl dX11_rotas_150 ic_1 ?_
        refine J_isub1 152 rfl dX11_rotas_151 ?_
        refine J_istore 154 rfl dX11_rotas_152 (Nat.le_of_ble_eq_true rfl) ?_
        rw [up2_in]
        exact mo (by omega) _ (fun w hw2 => by rw [up1_ne (by omega)]; exact hK w hw2) up1_self
  have phC : ∀ (T : Nat → Nat), (∀ w, 0 ≤ w → w ≤ 8 → ∀ s, s < 64 → T (64 * w + s) = rW (fvig f) (8 - w) (63 - s)) → VJ g mX11_rotas 2 0 0 (Rp (rW (fvig f) 8 0) (fun J2 => ∃ T K, J2 = (sR (sR (sR J 358 T) 359 K) 352 f) ∧ ∀ u, u < 8 → K u = kp (fvig f) u)) NoX 111 [(0, .ref (g.2 351))] [] (sR (sR J 358 T) 352 f) := by
    intro T hT
    have pp := Nat.two_pow_pos (f 3)
    have p64 : 2 ^ f 3 ≤ 64 := Nat.le_trans (Nat.pow_le_pow_right (by omega) h3) (by decide)
    have hR0 : RelF (f 3) (2 ^ f 3 - 1) (kpT (fvig f) 0) := ⟨by omega, fun m hm => by rw [cb3 (f 3) (by omega) m hm]; simp [kpT]⟩
    have T0 : T (2 ^ f 3 - 1) = rW (fvig f) 8 0 := by
      have z := hT 0 (Nat.le_refl _) (by omega) (2 ^ f 3 - 1) (by omega)
      rw [hR0.w hz] at z
      rw [show 64 * 0 + (2 ^ f 3 - 1) = 2 ^ f 3 - 1 by omega] at z
      exact z
    have e9 : (sR (sR J 358 T) 352 f) = sR (sR (sR J 358 T) 359 (J 359)) 352 f := by
      rw [← sR_ne (J := J) (k := 358) (c := 359) (r := T) (by omega), sR_id]
    refine J_iconst 112 1 rfl dX11_rotas_111 ic_1 ?_
    refine J_aload_n 113 rfl dX11_rotas_112 rfl ?_
    refine g_X11_m 116 rfl dX11_rotas_113 lkX11_9 ?_
    refine J_iconst 117 3 rfl dX11_rotas_116 ic_3 ?_
    refine J_mald 118 rfl dX11_rotas_117 (by omega) ?_
    refine J_ishl 119 (2 ^ f 3) rfl dX11_rotas_118 (sh1 _ (by omega)) ?_
    refine J_iconst 120 1 rfl dX11_rotas_119 ic_1 ?_
    refine J_isub 121 rfl dX11_rotas_120 (by omega) ?_
    refine J_istore_n 122 rfl dX11_rotas_121 rfl (Nat.le_of_ble_eq_true rfl) ?_
    refine J_aload_n 123 rfl dX11_rotas_122 rfl ?_
    refine g_X11_mosts 126 rfl dX11_rotas_123 lkX11_35 ?_
    refine J_iload_n 127 rfl dX11_rotas_126 rfl ?_
    refine J_iald 128 rfl dX11_rotas_127 (sa_X11_mosts) (by omega) ?_
    refine J_cv (b := rW (fvig f) 8 0) (by rw [r8]; exact T0) ?_
    refine J_istore_n 129 rfl dX11_rotas_128 rfl (Nat.le_of_ble_eq_true rfl) ?_
    refine J_iconst 130 0 rfl dX11_rotas_129 ic_0 ?_
    refine J_istore_n 131 rfl dX11_rotas_130 rfl (Nat.le_of_ble_eq_true rfl) ?_
    rw [e9]
    exact phD T hT _ 0 _ _ rfl (Nat.zero_le _) (fun w hw2 => absurd hw2 (Nat.not_lt_zero _)) hR0
  have phB : ∀ (k : Nat) (T : Nat → Nat), k < 8 → (∀ w, k + 1 ≤ w → w ≤ 8 → ∀ s, s < 64 → T (64 * w + s) = rW (fvig f) (8 - w) (63 - s)) → VJ g mX11_rotas 2 0 0 (Rp (rW (fvig f) 8 0) (fun J2 => ∃ T K, J2 = (sR (sR (sR J 358 T) 359 K) 352 f) ∧ ∀ u, u < 8 → K u = kp (fvig f) u)) NoX 28 [(0, .ref (g.2 351)), (1, .int (nI k))] [] (sR (sR J 358 T) 352 f) := by
    intro k
    induction k using Nat.strongRecOn with
    | ind k ihk =>
      intro T0 hk8 hT0
      have next : ∀ (T : Nat → Nat), (∀ w, k ≤ w → w ≤ 8 → ∀ s, s < 64 → T (64 * w + s) = rW (fvig f) (8 - w) (63 - s)) → VJ g mX11_rotas 2 0 0 (Rp (rW (fvig f) 8 0) (fun J2 => ∃ T K, J2 = (sR (sR (sR J 358 T) 359 K) 352 f) ∧ ∀ u, u < 8 → K u = kp (fvig f) u)) NoX 105 [(0, .ref (g.2 351)), (1, .int (nI k))] [] (sR (sR J 358 T) 352 f) := by
        intro T hT
        by_cases z0 : k = 0
        · subst z0
          refine J_iincM0 108 rfl dX11_rotas_105 rfl (Nat.le_of_ble_eq_true rfl) ?_
          refine J_goto 28 (by decide) dX11_rotas_108 ?_
          refine J_iload_n 29 rfl dX11_rotas_28 rfl ?_
          refine J_ifR_lt 111 32 (by decide) rfl dX11_rotas_29 (fun _ => ?_) (fun c => absurd (by decide) c)
          refine J_keep [0] ?_
          exact phC T hT
        · skip
          refine J_iincM 108 rfl dX11_rotas_105 rfl (Nat.le_of_ble_eq_true rfl) (by omega) ?_
          refine J_goto 28 (by decide) dX11_rotas_108 ?_
          exact ihk (k - 1) (by omega) T (by omega) (fun w h1 h2 => hT w (by omega) h2)
      have frees : ∀ (n9 : Nat) (fr : Nat) (T : Nat → Nat), 64 - fr = n9 → fr ≤ 64 → (∀ w, k + 1 ≤ w → w ≤ 8 → ∀ s, s < 64 → T (64 * w + s) = rW (fvig f) (8 - w) (63 - s)) → (∀ s, s < fr → T (64 * k + s) = rW (fvig f) (8 - k) (63 - s)) → VJ g mX11_rotas 2 0 0 (Rp (rW (fvig f) 8 0) (fun J2 => ∃ T K, J2 = (sR (sR (sR J 358 T) 359 K) 352 f) ∧ ∀ u, u < 8 → K u = kp (fvig f) u)) NoX 34 [(0, .ref (g.2 351)), (1, .int (nI k)), (2, .int (nI fr))] [] (sR (sR J 358 T) 352 f) := by
        intro n9
        induction n9 using Nat.strongRecOn with
        | ind n9 ihf =>
          intro fr T hi hf hT hs
          have mon : fr < 64 → ∀ (m9 : Nat) (j : Nat), f 3 - j = m9 → j ≤ f 3 → VJ g mX11_rotas 2 0 0 (Rp (rW (fvig f) 8 0) (fun J2 => ∃ T K, J2 = (sR (sR (sR J 358 T) 359 K) 352 f) ∧ ∀ u, u < 8 → K u = kp (fvig f) u)) NoX 57 [(0, .ref (g.2 351)), (1, .int (nI k)), (2, .int (nI fr)), (3, .int (nI (rM (fvig f) (rW (fvig f) (7 - k)) k (63 - fr) j))), (4, .int (nI j))] [] (sR (sR J 358 T) 352 f) := by
            intro hf64 m9
            induction m9 using Nat.strongRecOn with
            | ind m9 ihm =>
              intro j hi2 hj
              have st : rM (fvig f) (rW (fvig f) (7 - k)) k (63 - fr) (j + 1) = if (63 - fr).testBit j = false ∧ ((fvig f) j).testBit k = true then max (rM (fvig f) (rW (fvig f) (7 - k)) k (63 - fr) j) (1 + rW (fvig f) (7 - k) ((63 - fr) ||| 2 ^ j)) else rM (fvig f) (rW (fvig f) (7 - k)) k (63 - fr) j := rfl
              have ml : rM (fvig f) (rW (fvig f) (7 - k)) k (63 - fr) j ≤ 8 := rM_le (by have := rW_le (fvig f) (7 - k) (63 - fr); omega) j (fun i _ _ _ => by have := rW_le (fvig f) (7 - k) ((63 - fr) ||| 2 ^ i); omega)
              have wl := rW_le (fvig f) (7 - k) ((63 - fr) ||| 2 ^ j)
              refine J_iload 59 rfl dX11_rotas_57 rfl ?_
              refine J_aload_n 60 rfl dX11_rotas_59 rfl ?_
              refine g_X11_m 63 rfl dX11_rotas_60 lkX11_9 ?_
              refine J_iconst 64 3 rfl dX11_rotas_63 ic_3 ?_
              refine J_mald 65 rfl dX11_rotas_64 (by omega) ?_
              refine J_icmp_ge 87 68 (by decide) rfl dX11_rotas_65 (by omega) (by omega) (fun c65 => ?_) (fun c65 => ?_)
              · refine J_aload_n 88 rfl dX11_rotas_87 rfl ?_
                refine g_X11_mosts 91 rfl dX11_rotas_88 lkX11_35 ?_
                refine J_bipush 93 64 rfl dX11_rotas_91 bc_64 ?_
                refine J_iload_n 94 rfl dX11_rotas_93 rfl ?_
                refine J_imul 95 rfl dX11_rotas_94 ?_
                refine J_iload_n 96 rfl dX11_rotas_95 rfl ?_
                refine J_iadd 97 rfl dX11_rotas_96 ?_
                refine J_iload_n 98 rfl dX11_rotas_97 rfl ?_
                refine J_iast 99 rfl dX11_rotas_98 (sa_X11_mosts) (by omega) ?_
                rw [up2_out (by omega)]
                refine J_iinc 102 1 rfl dX11_rotas_99 ic_1 rfl (Nat.le_of_ble_eq_true rfl) ?_
                refine J_goto 34 (by decide) dX11_rotas_102 ?_
                rw [up2_in]
                refine J_keep [0, 1, 2] ?_
                refine ihf _ (by omega) (fr + 1) _ rfl (by omega) (fun w h1 h2 s hs2 => ?_) (fun s hs2 => ?_)
                · rw [up1_ne (by omega)]; exact hT w h1 h2 s hs2
                · rw [up1_app]
                  by_cases z : s = fr
                  · rw [z, if_pos rfl, show 8 - k = (7 - k) + 1 by omega]
                    show _ = rM (fvig f) (rW (fvig f) (7 - k)) (7 - (7 - k)) (63 - fr) 6
                    rw [show 7 - (7 - k) = k by omega, rM_stop 6 h3 hz, show j = f 3 by omega]
                  · rw [if_neg (by omega)]; exact hs s (by omega)
              · refine J_iload_n 69 rfl dX11_rotas_68 rfl ?_
                refine J_aload_n 70 rfl dX11_rotas_69 rfl ?_
                refine J_iload_n 71 rfl dX11_rotas_70 rfl ?_
                refine J_iload_n 72 rfl dX11_rotas_71 rfl ?_
                refine J_iload 74 rfl dX11_rotas_72 rfl ?_
                refine J_callVi (As := [_, _, _]) 77 _ rfl kalX11_behind lkX11_106 dX11_rotas_74 (lt_X11) (so_X11) rfl rfl rfl (by exact Nat.le_of_ble_eq_true rfl) (by omega) (S_X11_behind (by omega) (by omega) hf64 (hv _ (by omega))) ?_
                refine J_cv (b := bhV f T k fr j) (by congr 1) ?_
                have pj := Nat.two_pow_pos j
                have cbj := cb1 fr hf64 j (by omega)
                by_cases q : fr.testBit j = true ∧ (f (215 + j)).testBit k = true
                · have bq : bhV f T k fr j = 1 + rW (fvig f) (7 - k) ((63 - fr) ||| 2 ^ j) := by
                    unfold bhV
                    rw [if_pos q, hT (k + 1) (Nat.le_refl _) (by omega) _ (by omega), show 8 - (k + 1) = 7 - k by omega, cb2 fr hf64 j (by omega) q.1]
                  rw [bq]
                  rw [if_pos ⟨by rw [cbj, q.1]; rfl, q.2⟩] at st
                  refine J_mmax 80 rfl dX11_rotas_77 lkX11_110 (by exact Nat.le_of_ble_eq_true rfl) (by omega) (by omega) (by omega) ?_
                  refine J_istore_n 81 rfl dX11_rotas_80 rfl (Nat.le_of_ble_eq_true rfl) ?_
                  refine J_iinc 84 1 rfl dX11_rotas_81 ic_1 rfl (Nat.le_of_ble_eq_true rfl) ?_
                  refine J_goto 57 (by decide) dX11_rotas_84 ?_
                  have z := ihm _ (by omega) (j + 1) rfl (by omega)
                  rw [st] at z
                  exact z
                · have bq : bhV f T k fr j = 4294967295 := by
                    unfold bhV
                    rw [if_neg q]
                  rw [bq]
                  rw [if_neg (fun z => q ⟨by have z1 := z.1; rw [cbj] at z1; simpa using z1, z.2⟩)] at st
                  refine J_mmaxM 80 rfl dX11_rotas_77 lkX11_110 (by exact Nat.le_of_ble_eq_true rfl) (by omega) (by omega) ?_
                  refine J_istore_n 81 rfl dX11_rotas_80 rfl (Nat.le_of_ble_eq_true rfl) ?_
                  refine J_iinc 84 1 rfl dX11_rotas_81 ic_1 rfl (Nat.le_of_ble_eq_true rfl) ?_
                  refine J_goto 57 (by decide) dX11_rotas_84 ?_
                  have z := ihm _ (by omega) (j + 1) rfl (by omega)
                  rw [st] at z
                  exact z
          refine J_iload_n 35 rfl dX11_rotas_34 rfl ?_
          refine J_bipush 37 64 rfl dX11_rotas_35 bc_64 ?_
          refine J_icmp_ge 105 40 (by decide) rfl dX11_rotas_37 (by omega) (by omega) (fun c37 => ?_) (fun c37 => ?_)
          · refine J_keep [0, 1] ?_
            have e9 : fr = 64 := by omega
            subst e9
            refine next T (fun w h1 h2 s hs2 => ?_)
            by_cases z : w = k
            · rw [z]; exact hs s hs2
            · exact hT w (by omega) h2 s hs2
          · refine J_aload_n 41 rfl dX11_rotas_40 rfl ?_
            refine g_X11_mosts 44 rfl dX11_rotas_41 lkX11_35 ?_
            refine J_bipush 46 64 rfl dX11_rotas_44 bc_64 ?_
            refine J_iload_n 47 rfl dX11_rotas_46 rfl ?_
            refine J_iconst 48 1 rfl dX11_rotas_47 ic_1 ?_
            refine J_iadd 49 rfl dX11_rotas_48 ?_
            refine J_imul 50 rfl dX11_rotas_49 ?_
            refine J_iload_n 51 rfl dX11_rotas_50 rfl ?_
            refine J_iadd 52 rfl dX11_rotas_51 ?_
            refine J_iald 53 rfl dX11_rotas_52 (sa_X11_mosts) (by omega) ?_
            refine J_cv (b := rM (fvig f) (rW (fvig f) (7 - k)) k (63 - fr) 0) (by rw [r8, show 64 * (k + 1) + fr = 64 * (k + 1) + fr from rfl, hT (k + 1) (Nat.le_refl _) (by omega) fr (by omega), show 8 - (k + 1) = 7 - k by omega]; rfl) ?_
            refine J_istore_n 54 rfl dX11_rotas_53 rfl (Nat.le_of_ble_eq_true rfl) ?_
            refine J_iconst 55 0 rfl dX11_rotas_54 ic_0 ?_
            refine J_istore 57 rfl dX11_rotas_55 (Nat.le_of_ble_eq_true rfl) ?_
            exact mon (by omega) _ 0 rfl (Nat.zero_le _)
      refine J_iload_n 29 rfl dX11_rotas_28 rfl ?_
      refine J_if_lt 111 32 (by decide) rfl dX11_rotas_29 (by omega) ?_
      refine J_iconst 33 0 rfl dX11_rotas_32 ic_0 ?_
      refine J_istore_n 34 rfl dX11_rotas_33 rfl (Nat.le_of_ble_eq_true rfl) ?_
      exact frees _ 0 T0 rfl (Nat.zero_le _) hT0 (fun s hs2 => absurd hs2 (Nat.not_lt_zero _))
  have phA : ∀ (n9 : Nat) (k : Nat) (T : Nat → Nat), 64 - k = n9 → k ≤ 64 → (∀ s, s < k → T (512 + s) = 0) → VJ g mX11_rotas 2 0 0 (Rp (rW (fvig f) 8 0) (fun J2 => ∃ T K, J2 = (sR (sR (sR J 358 T) 359 K) 352 f) ∧ ∀ u, u < 8 → K u = kp (fvig f) u)) NoX 2 [(0, .ref (g.2 351)), (1, .int (nI k))] [] (sR (sR J 358 T) 352 f) := by
    intro n9
    induction n9 using Nat.strongRecOn with
    | ind n9 ih =>
      intro k T hi hk hs
      refine J_iload_n 3 rfl dX11_rotas_2 rfl ?_
      refine J_bipush 5 64 rfl dX11_rotas_3 bc_64 ?_
      refine J_icmp_ge 25 8 (by decide) rfl dX11_rotas_5 (by omega) (by omega) (fun c5 => ?_) (fun c5 => ?_)
      · refine J_bipush 27 7 rfl dX11_rotas_25 bc_7 ?_
        refine J_istore_n 28 rfl dX11_rotas_27 rfl (Nat.le_of_ble_eq_true rfl) ?_
        refine phB 7 T (by omega) (fun w h1 h2 s hs2 => ?_)
        rw [show w = 8 by omega, show 64 * 8 + s = 512 + s by omega, hs s (by omega)]
        rfl
      · refine J_aload_n 9 rfl dX11_rotas_8 rfl ?_
        refine g_X11_mosts 12 rfl dX11_rotas_9 lkX11_35 ?_
        refine J_sipush 15 512 rfl dX11_rotas_12 sc_512 ?_
        refine J_iload_n 16 rfl dX11_rotas_15 rfl ?_
        refine J_iadd 17 rfl dX11_rotas_16 ?_
        refine J_iconst 18 0 rfl dX11_rotas_17 ic_0 ?_
        refine J_iast 19 rfl dX11_rotas_18 (sa_X11_mosts) (by omega) ?_
        rw [up2_out (by omega)]
        refine J_iinc 22 1 rfl dX11_rotas_19 ic_1 rfl (Nat.le_of_ble_eq_true rfl) ?_
        refine J_goto 2 (by decide) dX11_rotas_22 ?_
        rw [up2_in]
        refine ih _ (by omega) (k + 1) _ rfl (by omega) (fun s hs2 => ?_)
        rw [up1_app]
        by_cases z : s = k
        · rw [if_pos (by omega)]
        · rw [if_neg (by omega)]; exact hs s (by omega)
  refine J_iconst 1 0 rfl dX11_rotas_0 ic_0 ?_
  refine J_istore_n 2 rfl dX11_rotas_1 rfl (Nat.le_of_ble_eq_true rfl) ?_
  have z := phA _ 0 (J 358) rfl (Nat.zero_le _) (fun s hs => absurd hs (Nat.not_lt_zero _))
  rw [sR_id] at z
  exact z

