/-! THE MODEL: reading a command (laid by wip/whole/src/p69.py) -/
/-- the words that the model reads by -/
def LT (J : DJ) : Prop := (∀ i, i < 59 → J 361 i = ltS.getD i 0) ∧ ∀ i, i < 13 → J 362 i = bgS.getD i 0
theorem LT.mst {J : DJ} {w p : Nat} (h : LT J) : LT (mst J w p) := ⟨by rw [mst_ne (by omega)]; exact h.1, by rw [mst_ne (by omega)]; exact h.2⟩
theorem J_tabL {g : Gn} {y : MI} {d kc ks : Nat} {Q : Option Value → DJ → Prop} {X : String → DJ → Prop} {pc : Nat} {L : List (Nat × Value)} {st : List Value} {J : DJ} {dflt lo hi : Int} {offs : Array Int} {len a : Nat} {off : Int} (tgt : Nat) (hd : decode y.2.1 pc = .ok (.tableswitch dflt lo hi offs, len)) (ha : a < 2147483648) (h1 : ¬ (a : Int) < lo) (h2 : ¬ hi < (a : Int)) (ho : offs[((a : Int) - lo).toNat]? = some off) (ht : (pc : Int) + off = (tgt : Int)) (k : VJ g y d kc ks Q X tgt L st J) : VJ g y d kc ks Q X pc L (.int (nI a) :: st) J :=
  V_tabIn tgt hd (by rw [nI_toInt ha]; exact h1) (by rw [nI_toInt ha]; exact h2) (by rw [nI_toInt ha]; exact ho) ht k
theorem wd_128 : ∀ k, k < 12 → ∀ i, i < lnK k → (wdK k).getD i 0 < 128 := by decide
theorem S_X11_likeness {g : Gn} {J : DJ} {s : Nat → Nat} {n p k : Nat} (t : TM J s n) (lt : LT J) (hp : J 351 20 = p) (hl : p ≤ n) (hk : k < 12) : SJ g mX11_likeness 1 0 0 [.ref (g.2 351), .int (nI (k))] J (Ri (lkN s n p k) J) NoX := by
  have tn := t.2.2.1
  have bk := bg_lt k hk
  have b0 := lt.2 k (by omega)
  have b1 := lt.2 (k + 1) (by omega)
  refine SJ_of_VJ (by decide +kernel) (Nat.le_of_ble_eq_true rfl) ?_
  show VJ g mX11_likeness 1 0 0 _ _ 0 [(0, .ref (g.2 351)), (1, .int (nI (k)))] [] J
  have loop : ∀ (n9 : Nat) (i : Nat), lnK k - i = n9 → i ≤ lnK k → (∀ j, j < i → p + j < n ∧ s (p + j) = (wdK k).getD j 0) → VJ g mX11_likeness 1 0 0 (Ri (lkN s n p k) J) NoX 18 [(0, .ref (g.2 351)), (1, .int (nI (k))), (2, .int (nI (i))), (3, .int (nI (lnK k)))] [] J := by
    intro n9
    induction n9 using Nat.strongRecOn with
    | ind n9 ih =>
      intro i hi hle hall
      have fin : (i < lnK k → ¬ (p + i < n ∧ s (p + i) = (wdK k).getD i 0)) → lkN s n p k = i := fun h => lkW_is _ _ _ hle hall h
      have sb : p + i < n → s (p + i) ≤ 126 := fun h => (t.2.2.2 _ h).2
      have lb : i < lnK k → J 361 (bgS.getD k 0 + i) = (wdK k).getD i 0 := fun h => by rw [lt.1 _ (by omega)]; exact wd_lt k hk i h
      have wb : i < lnK k → (wdK k).getD i 0 < 128 := fun h => wd_128 k hk i h
      refine J_iload_n 19 rfl dX11_likeness_18 rfl ?_
      refine J_iload_n 20 rfl dX11_likeness_19 rfl ?_
      refine J_icmp_ge 69 23 (by decide) rfl dX11_likeness_20 (by omega) (by omega) (fun c20 => ?_) (fun c20 => ?_)
      · refine J_iload_n 70 rfl dX11_likeness_69 rfl ?_
        refine J_iret rfl dX11_likeness_70 ?_
        first
          | exact ⟨by rw [fin (fun _ => by omega)], rfl⟩
          | exact ⟨by rw [fin (fun _ q => by omega)], rfl⟩
          | exact ⟨by rw [fin (fun q => absurd q (by omega))], rfl⟩
      · refine J_aload_n 24 rfl dX11_likeness_23 rfl ?_
        refine g_X11_place0 27 rfl dX11_likeness_24 lkX11_259 ?_
        refine J_cv (b := p) hp ?_
        refine J_iload_n 28 rfl dX11_likeness_27 rfl ?_
        refine J_iadd 29 rfl dX11_likeness_28 ?_
        refine J_aload_n 30 rfl dX11_likeness_29 rfl ?_
        refine g_X11_size0 33 rfl dX11_likeness_30 lkX11_262 ?_
        refine J_cv (b := n) t.2.1 ?_
        refine J_icmp_ge 69 36 (by decide) rfl dX11_likeness_33 (by omega) (by omega) (fun c33 => ?_) (fun c33 => ?_)
        · refine J_iload_n 70 rfl dX11_likeness_69 rfl ?_
          refine J_iret rfl dX11_likeness_70 ?_
          first
            | exact ⟨by rw [fin (fun _ => by omega)], rfl⟩
            | exact ⟨by rw [fin (fun _ q => by omega)], rfl⟩
            | exact ⟨by rw [fin (fun q => absurd q (by omega))], rfl⟩
        · refine J_aload_n 37 rfl dX11_likeness_36 rfl ?_
          refine g_X11_input 40 rfl dX11_likeness_37 lkX11_29 ?_
          refine J_aload_n 41 rfl dX11_likeness_40 rfl ?_
          refine g_X11_place0 44 rfl dX11_likeness_41 lkX11_259 ?_
          refine J_cv (b := p) hp ?_
          refine J_iload_n 45 rfl dX11_likeness_44 rfl ?_
          refine J_iadd 46 rfl dX11_likeness_45 ?_
          refine J_iald 47 rfl dX11_likeness_46 (sa_X11_input) (by omega) ?_
          refine J_cv (b := s (p + i)) (by rw [t.1]) ?_
          refine J_aload_n 48 rfl dX11_likeness_47 rfl ?_
          refine g_X11_letters 51 rfl dX11_likeness_48 lkX11_44 ?_
          refine J_aload_n 52 rfl dX11_likeness_51 rfl ?_
          refine g_X11_begins0 55 rfl dX11_likeness_52 lkX11_48 ?_
          refine J_iload_n 56 rfl dX11_likeness_55 rfl ?_
          refine J_iald 57 rfl dX11_likeness_56 (sa_X11_begins0) (by omega) ?_
          refine J_cv (b := bgS.getD k 0) b0 ?_
          refine J_iload_n 58 rfl dX11_likeness_57 rfl ?_
          refine J_iadd 59 rfl dX11_likeness_58 ?_
          refine J_cald 60 rfl dX11_likeness_59 (sa_X11_letters) (by omega) ?_
          refine J_cv (b := (wdK k).getD i 0) (lb (by omega)) ?_
          refine J_icmp_ne 69 63 (by decide) rfl dX11_likeness_60 (by have := sb (by omega); omega) (by have := wb (by omega); omega) (fun c60 => ?_) (fun c60 => ?_)
          · refine J_iload_n 70 rfl dX11_likeness_69 rfl ?_
            refine J_iret rfl dX11_likeness_70 ?_
            first
              | exact ⟨by rw [fin (fun _ => by omega)], rfl⟩
              | exact ⟨by rw [fin (fun _ q => by omega)], rfl⟩
              | exact ⟨by rw [fin (fun q => absurd q (by omega))], rfl⟩
          · refine J_iinc 66 1 rfl dX11_likeness_63 ic_1 rfl (Nat.le_of_ble_eq_true rfl) ?_
            refine J_goto 18 (by decide) dX11_likeness_66 ?_
            refine ih _ (by omega) (i + 1) rfl (by omega) (fun j hj => ?_)
            by_cases e : j = i
            · rw [e]; exact ⟨by omega, by omega⟩
            · exact hall j (by omega)
  refine J_iconst 1 0 rfl dX11_likeness_0 ic_0 ?_
  refine J_istore_n 2 rfl dX11_likeness_1 rfl (Nat.le_of_ble_eq_true rfl) ?_
  refine J_aload_n 3 rfl dX11_likeness_2 rfl ?_
  refine g_X11_begins0 6 rfl dX11_likeness_3 lkX11_48 ?_
  refine J_iload_n 7 rfl dX11_likeness_6 rfl ?_
  refine J_iconst 8 1 rfl dX11_likeness_7 ic_1 ?_
  refine J_iadd 9 rfl dX11_likeness_8 ?_
  refine J_iald 10 rfl dX11_likeness_9 (sa_X11_begins0) (by omega) ?_
  refine J_cv (b := bgS.getD (k + 1) 0) b1 ?_
  refine J_aload_n 11 rfl dX11_likeness_10 rfl ?_
  refine g_X11_begins0 14 rfl dX11_likeness_11 lkX11_48 ?_
  refine J_iload_n 15 rfl dX11_likeness_14 rfl ?_
  refine J_iald 16 rfl dX11_likeness_15 (sa_X11_begins0) (by omega) ?_
  refine J_cv (b := bgS.getD k 0) b0 ?_
  refine J_isub 17 rfl dX11_likeness_16 (by omega) ?_
  refine J_istore_n 18 rfl dX11_likeness_17 rfl (Nat.le_of_ble_eq_true rfl) ?_
  rw [show bgS.getD (k + 1) 0 - bgS.getD k 0 = lnK k by omega]
  exact loop _ 0 rfl (by omega) (fun j hj => absurd hj (by omega))

theorem S_X11_readArguments {g : Gn} {J : DJ} {s C : Nat → Nat} {n p k at1 : Nat} (t : TM J s n) (hl : p ≤ n) (hk : k < 12) (ha : at1 < 240) : SJ g mX11_readArguments 5 0 0 [.ref (g.2 351), .int (nI (k)), .int (nI (at1))] (mst (sR J 363 C) 0 p) (Rq (fun J2 => ∃ C2, J2 = mst (sR J 363 C2) (rnF s n (rsK k) 0 p).1 (rnF s n (rsK k) 0 p).2.1 ∧ (∀ j, j < at1 → C2 j = C j) ∧ ∀ j, j < (rnF s n (rsK k) 0 p).2.2.length → C2 (at1 + j) = (rnF s n (rsK k) 0 p).2.2.getD j 0)) NoX := by
  refine SJ_of_VJ (by decide +kernel) (Nat.le_of_ble_eq_true rfl) ?_
  show VJ g mX11_readArguments 5 0 0 _ _ 0 [(0, .ref (g.2 351)), (1, .int (nI (k))), (2, .int (nI (at1)))] [] (mst (sR J 363 C) 0 p)
  have k12 : k = 0 ∨ k = 1 ∨ k = 2 ∨ k = 3 ∨ k = 4 ∨ k = 5 ∨ k = 6 ∨ k = 7 ∨ k = 8 ∨ k = 9 ∨ k = 10 ∨ k = 11 := by omega
  rcases k12 with e | e | e | e | e | e | e | e | e | e | e | e <;> subst e
  · refine J_iload_n 1 rfl dX11_readArguments_0 rfl ?_
    refine J_bipush 3 7 rfl dX11_readArguments_1 bc_7 ?_
    refine J_icmp_eq 12 6 (by decide) rfl dX11_readArguments_3 (by omega) (by omega) (fun c => absurd c (by omega)) (fun _ => ?_)
    refine J_iload_n 7 rfl dX11_readArguments_6 rfl ?_
    refine J_bipush 9 10 rfl dX11_readArguments_7 bc_10 ?_
    refine J_icmp_ne 16 12 (by decide) rfl dX11_readArguments_9 (by omega) (by omega) (fun _ => ?_) (fun c => absurd c (by omega))
    refine J_iconst 17 0 rfl dX11_readArguments_16 ic_0 ?_
    refine J_istore_n 18 rfl dX11_readArguments_17 rfl (Nat.le_of_ble_eq_true rfl) ?_
    refine J_iload_n 19 rfl dX11_readArguments_18 rfl ?_
    refine J_iconst 20 5 rfl dX11_readArguments_19 ic_5 ?_
    refine J_icmp_eq 35 23 (by decide) rfl dX11_readArguments_20 (by omega) (by omega) (fun c => absurd c (by omega)) (fun _ => ?_)
    refine J_iload_n 24 rfl dX11_readArguments_23 rfl ?_
    refine J_bipush 26 6 rfl dX11_readArguments_24 bc_6 ?_
    refine J_icmp_eq 35 29 (by decide) rfl dX11_readArguments_26 (by omega) (by omega) (fun c => absurd c (by omega)) (fun _ => ?_)
    refine J_iload_n 30 rfl dX11_readArguments_29 rfl ?_
    refine J_bipush 32 11 rfl dX11_readArguments_30 bc_11 ?_
    refine J_icmp_ne 39 35 (by decide) rfl dX11_readArguments_32 (by omega) (by omega) (fun _ => ?_) (fun c => absurd c (by omega))
    refine J_iconst 40 0 rfl dX11_readArguments_39 ic_0 ?_
    refine J_istore 42 rfl dX11_readArguments_40 (Nat.le_of_ble_eq_true rfl) ?_
    refine J_aload_n 43 rfl dX11_readArguments_42 rfl ?_
    refine g_X11_commands 46 rfl dX11_readArguments_43 lkX11_51 ?_
    refine J_iload_n 47 rfl dX11_readArguments_46 rfl ?_
    refine J_iload_n 48 rfl dX11_readArguments_47 rfl ?_
    refine J_if_eq 55 51 (by decide) rfl dX11_readArguments_48 (by omega) (fun _ => ?_) (fun c => absurd c (by omega))
    refine J_iload 57 rfl dX11_readArguments_55 rfl ?_
    refine J_if_eq 67 60 (by decide) rfl dX11_readArguments_57 (by omega) (fun _ => ?_) (fun c => absurd c (by omega))
    refine J_aload_n 68 rfl dX11_readArguments_67 rfl ?_
    refine J_callVip (As := []) 71 _ rfl kalX11_digit lkX11_274 dX11_readArguments_68 (lt_X11) (so_X11) rfl rfl rfl (by exact Nat.le_of_ble_eq_true rfl) (by omega) (S_X11_digit t.com (by omega) hl) (fun J68 q68 => ?_)
    subst q68
    refine J_iast 72 rfl dX11_readArguments_71 (sa_X11_commands) (by omega) ?_
    rw [mst_363]
    refine J_iload_n 73 rfl dX11_readArguments_72 rfl ?_
    refine J_tabOut 233 dX11_readArguments_73 (by omega) (Or.inl (by decide)) (by decide) ?_
    refine J_vret rfl dX11_readArguments_233 ?_
    have er : rnF s n (rsK 0) 0 p = rnF s n [35] 0 p := rfl
    rw [er]
    rw [rn_5 rfl]
    simp only [rnF, List.length_cons, List.length_nil]
    refine ⟨rfl, _, rfl, fun j hj => ?_, fun j hj => ?_⟩
    · rw [up1_ne (by omega)]
    · have e0 : j = 0 := by omega
      subst e0
      rw [up1_app, if_pos (by omega)]
      rfl
  · refine J_iload_n 1 rfl dX11_readArguments_0 rfl ?_
    refine J_bipush 3 7 rfl dX11_readArguments_1 bc_7 ?_
    refine J_icmp_eq 12 6 (by decide) rfl dX11_readArguments_3 (by omega) (by omega) (fun c => absurd c (by omega)) (fun _ => ?_)
    refine J_iload_n 7 rfl dX11_readArguments_6 rfl ?_
    refine J_bipush 9 10 rfl dX11_readArguments_7 bc_10 ?_
    refine J_icmp_ne 16 12 (by decide) rfl dX11_readArguments_9 (by omega) (by omega) (fun _ => ?_) (fun c => absurd c (by omega))
    refine J_iconst 17 0 rfl dX11_readArguments_16 ic_0 ?_
    refine J_istore_n 18 rfl dX11_readArguments_17 rfl (Nat.le_of_ble_eq_true rfl) ?_
    refine J_iload_n 19 rfl dX11_readArguments_18 rfl ?_
    refine J_iconst 20 5 rfl dX11_readArguments_19 ic_5 ?_
    refine J_icmp_eq 35 23 (by decide) rfl dX11_readArguments_20 (by omega) (by omega) (fun c => absurd c (by omega)) (fun _ => ?_)
    refine J_iload_n 24 rfl dX11_readArguments_23 rfl ?_
    refine J_bipush 26 6 rfl dX11_readArguments_24 bc_6 ?_
    refine J_icmp_eq 35 29 (by decide) rfl dX11_readArguments_26 (by omega) (by omega) (fun c => absurd c (by omega)) (fun _ => ?_)
    refine J_iload_n 30 rfl dX11_readArguments_29 rfl ?_
    refine J_bipush 32 11 rfl dX11_readArguments_30 bc_11 ?_
    refine J_icmp_ne 39 35 (by decide) rfl dX11_readArguments_32 (by omega) (by omega) (fun _ => ?_) (fun c => absurd c (by omega))
    refine J_iconst 40 0 rfl dX11_readArguments_39 ic_0 ?_
    refine J_istore 42 rfl dX11_readArguments_40 (Nat.le_of_ble_eq_true rfl) ?_
    refine J_aload_n 43 rfl dX11_readArguments_42 rfl ?_
    refine g_X11_commands 46 rfl dX11_readArguments_43 lkX11_51 ?_
    refine J_iload_n 47 rfl dX11_readArguments_46 rfl ?_
    refine J_iload_n 48 rfl dX11_readArguments_47 rfl ?_
    refine J_if_eq 55 51 (by decide) rfl dX11_readArguments_48 (by omega) (fun _ => ?_) (fun c => absurd c (by omega))
    refine J_iload 57 rfl dX11_readArguments_55 rfl ?_
    refine J_if_eq 67 60 (by decide) rfl dX11_readArguments_57 (by omega) (fun _ => ?_) (fun c => absurd c (by omega))
    refine J_aload_n 68 rfl dX11_readArguments_67 rfl ?_
    refine J_callVip (As := []) 71 _ rfl kalX11_digit lkX11_274 dX11_readArguments_68 (lt_X11) (so_X11) rfl rfl rfl (by exact Nat.le_of_ble_eq_true rfl) (by omega) (S_X11_digit t.com (by omega) hl) (fun J68 q68 => ?_)
    subst q68
    refine J_iast 72 rfl dX11_readArguments_71 (sa_X11_commands) (by omega) ?_
    rw [mst_363]
    refine J_iload_n 73 rfl dX11_readArguments_72 rfl ?_
    refine J_tabL 124 dX11_readArguments_73 (by omega) (by decide) (by decide) rfl (by decide) ?_
    refine J_aload_n 125 rfl dX11_readArguments_124 rfl ?_
    refine g_X11_commands 128 rfl dX11_readArguments_125 lkX11_51 ?_
    refine J_iload_n 129 rfl dX11_readArguments_128 rfl ?_
    refine J_iconst 130 1 rfl dX11_readArguments_129 ic_1 ?_
    refine J_iadd 131 rfl dX11_readArguments_130 ?_
    refine J_aload_n 132 rfl dX11_readArguments_131 rfl ?_
    refine J_bipush 134 32 rfl dX11_readArguments_132 bc_32 ?_
    refine J_callVip (As := [_]) 137 _ rfl kalX11_digitBehind lkX11_283 dX11_readArguments_134 (lt_X11) (so_X11) rfl rfl rfl (by exact Nat.le_of_ble_eq_true rfl) (by omega) (S_X11_digitBehind (c := 32) t.com wD_le (wD_n (k := 1) hl).1 (by omega)) (fun J134 q134 => ?_)
    subst q134
    refine J_iast 138 rfl dX11_readArguments_137 (sa_X11_commands) (by omega) ?_
    rw [mst_363]
    refine J_aload_n 139 rfl dX11_readArguments_138 rfl ?_
    refine g_X11_commands 142 rfl dX11_readArguments_139 lkX11_51 ?_
    refine J_iload_n 143 rfl dX11_readArguments_142 rfl ?_
    refine J_iconst 144 2 rfl dX11_readArguments_143 ic_2 ?_
    refine J_iadd 145 rfl dX11_readArguments_144 ?_
    refine J_aload_n 146 rfl dX11_readArguments_145 rfl ?_
    refine J_callVip (As := []) 149 _ rfl kalX11_digit lkX11_274 dX11_readArguments_146 (lt_X11) (so_X11) rfl rfl rfl (by exact Nat.le_of_ble_eq_true rfl) (by omega) (S_X11_digit t.com wD_le (wD_n (k := 1) (wL_n (wD_n (k := 1) hl).1)).1) (fun J146 q146 => ?_)
    subst q146
    refine J_iast 150 rfl dX11_readArguments_149 (sa_X11_commands) (by omega) ?_
    rw [mst_363]
    refine J_goto 233 (by decide) dX11_readArguments_150 ?_
    refine J_vret rfl dX11_readArguments_233 ?_
    have er : rnF s n (rsK 1) 0 p = rnF s n [35, 32, 35, 35] 0 p := rfl
    rw [er]
    rw [rn_5 rfl, rn_c (by decide) (by decide), rn_5 rfl, rn_5 rfl]
    simp only [rnF, List.length_cons, List.length_nil]
    refine ⟨rfl, _, rfl, fun j hj => ?_, fun j hj => ?_⟩
    · rw [up1_ne (by omega), up1_ne (by omega), up1_ne (by omega)]
    · have e0 : j = 0 ∨ j = 1 ∨ j = 2 := by omega
      rcases e0 with e | e | e <;> subst e
      · rw [up1_ne (by omega), up1_ne (by omega), up1_app, if_pos (by omega)]
        rfl
      · rw [up1_ne (by omega), up1_app, if_pos (by omega)]
        rfl
      · rw [up1_app, if_pos (by omega)]
        rfl
  · refine J_iload_n 1 rfl dX11_readArguments_0 rfl ?_
    refine J_bipush 3 7 rfl dX11_readArguments_1 bc_7 ?_
    refine J_icmp_eq 12 6 (by decide) rfl dX11_readArguments_3 (by omega) (by omega) (fun c => absurd c (by omega)) (fun _ => ?_)
    refine J_iload_n 7 rfl dX11_readArguments_6 rfl ?_
    refine J_bipush 9 10 rfl dX11_readArguments_7 bc_10 ?_
    refine J_icmp_ne 16 12 (by decide) rfl dX11_readArguments_9 (by omega) (by omega) (fun _ => ?_) (fun c => absurd c (by omega))
    refine J_iconst 17 0 rfl dX11_readArguments_16 ic_0 ?_
    refine J_istore_n 18 rfl dX11_readArguments_17 rfl (Nat.le_of_ble_eq_true rfl) ?_
    refine J_iload_n 19 rfl dX11_readArguments_18 rfl ?_
    refine J_iconst 20 5 rfl dX11_readArguments_19 ic_5 ?_
    refine J_icmp_eq 35 23 (by decide) rfl dX11_readArguments_20 (by omega) (by omega) (fun c => absurd c (by omega)) (fun _ => ?_)
    refine J_iload_n 24 rfl dX11_readArguments_23 rfl ?_
    refine J_bipush 26 6 rfl dX11_readArguments_24 bc_6 ?_
    refine J_icmp_eq 35 29 (by decide) rfl dX11_readArguments_26 (by omega) (by omega) (fun c => absurd c (by omega)) (fun _ => ?_)
    refine J_iload_n 30 rfl dX11_readArguments_29 rfl ?_
    refine J_bipush 32 11 rfl dX11_readArguments_30 bc_11 ?_
    refine J_icmp_ne 39 35 (by decide) rfl dX11_readArguments_32 (by omega) (by omega) (fun _ => ?_) (fun c => absurd c (by omega))
    refine J_iconst 40 0 rfl dX11_readArguments_39 ic_0 ?_
    refine J_istore 42 rfl dX11_readArguments_40 (Nat.le_of_ble_eq_true rfl) ?_
    refine J_aload_n 43 rfl dX11_readArguments_42 rfl ?_
    refine g_X11_commands 46 rfl dX11_readArguments_43 lkX11_51 ?_
    refine J_iload_n 47 rfl dX11_readArguments_46 rfl ?_
    refine J_iload_n 48 rfl dX11_readArguments_47 rfl ?_
    refine J_if_eq 55 51 (by decide) rfl dX11_readArguments_48 (by omega) (fun _ => ?_) (fun c => absurd c (by omega))
    refine J_iload 57 rfl dX11_readArguments_55 rfl ?_
    refine J_if_eq 67 60 (by decide) rfl dX11_readArguments_57 (by omega) (fun _ => ?_) (fun c => absurd c (by omega))
    refine J_aload_n 68 rfl dX11_readArguments_67 rfl ?_
    refine J_callVip (As := []) 71 _ rfl kalX11_digit lkX11_274 dX11_readArguments_68 (lt_X11) (so_X11) rfl rfl rfl (by exact Nat.le_of_ble_eq_true rfl) (by omega) (S_X11_digit t.com (by omega) hl) (fun J68 q68 => ?_)
    subst q68
    refine J_iast 72 rfl dX11_readArguments_71 (sa_X11_commands) (by omega) ?_
    rw [mst_363]
    refine J_iload_n 73 rfl dX11_readArguments_72 rfl ?_
    refine J_tabL 153 dX11_readArguments_73 (by omega) (by decide) (by decide) rfl (by decide) ?_
    refine J_aload_n 154 rfl dX11_readArguments_153 rfl ?_
    refine g_X11_commands 157 rfl dX11_readArguments_154 lkX11_51 ?_
    refine J_iload_n 158 rfl dX11_readArguments_157 rfl ?_
    refine J_iconst 159 1 rfl dX11_readArguments_158 ic_1 ?_
    refine J_iadd 160 rfl dX11_readArguments_159 ?_
    refine J_aload_n 161 rfl dX11_readArguments_160 rfl ?_
    refine J_bipush 163 61 rfl dX11_readArguments_161 bc_61 ?_
    refine J_callVip (As := [_]) 166 _ rfl kalX11_digitBehind lkX11_283 dX11_readArguments_163 (lt_X11) (so_X11) rfl rfl rfl (by exact Nat.le_of_ble_eq_true rfl) (by omega) (S_X11_digitBehind (c := 61) t.com wD_le (wD_n (k := 1) hl).1 (by omega)) (fun J163 q163 => ?_)
    subst q163
    refine J_iast 167 rfl dX11_readArguments_166 (sa_X11_commands) (by omega) ?_
    rw [mst_363]
    refine J_goto 233 (by decide) dX11_readArguments_167 ?_
    refine J_vret rfl dX11_readArguments_233 ?_
    have er : rnF s n (rsK 2) 0 p = rnF s n [35, 61, 35] 0 p := rfl
    rw [er]
    rw [rn_5 rfl, rn_c (by decide) (by decide), rn_5 rfl]
    simp only [rnF, List.length_cons, List.length_nil]
    refine ⟨rfl, _, rfl, fun j hj => ?_, fun j hj => ?_⟩
    · rw [up1_ne (by omega), up1_ne (by omega)]
    · have e0 : j = 0 ∨ j = 1 := by omega
      rcases e0 with e | e <;> subst e
      · rw [up1_ne (by omega), up1_app, if_pos (by omega)]
        rfl
      · rw [up1_app, if_pos (by omega)]
        rfl
  · refine J_iload_n 1 rfl dX11_readArguments_0 rfl ?_
    refine J_bipush 3 7 rfl dX11_readArguments_1 bc_7 ?_
    refine J_icmp_eq 12 6 (by decide) rfl dX11_readArguments_3 (by omega) (by omega) (fun c => absurd c (by omega)) (fun _ => ?_)
    refine J_iload_n 7 rfl dX11_readArguments_6 rfl ?_
    refine J_bipush 9 10 rfl dX11_readArguments_7 bc_10 ?_
    refine J_icmp_ne 16 12 (by decide) rfl dX11_readArguments_9 (by omega) (by omega) (fun _ => ?_) (fun c => absurd c (by omega))
    refine J_iconst 17 0 rfl dX11_readArguments_16 ic_0 ?_
    refine J_istore_n 18 rfl dX11_readArguments_17 rfl (Nat.le_of_ble_eq_true rfl) ?_
    refine J_iload_n 19 rfl dX11_readArguments_18 rfl ?_
    refine J_iconst 20 5 rfl dX11_readArguments_19 ic_5 ?_
    refine J_icmp_eq 35 23 (by decide) rfl dX11_readArguments_20 (by omega) (by omega) (fun c => absurd c (by omega)) (fun _ => ?_)
    refine J_iload_n 24 rfl dX11_readArguments_23 rfl ?_
    refine J_bipush 26 6 rfl dX11_readArguments_24 bc_6 ?_
    refine J_icmp_eq 35 29 (by decide) rfl dX11_readArguments_26 (by omega) (by omega) (fun c => absurd c (by omega)) (fun _ => ?_)
    refine J_iload_n 30 rfl dX11_readArguments_29 rfl ?_
    refine J_bipush 32 11 rfl dX11_readArguments_30 bc_11 ?_
    refine J_icmp_ne 39 35 (by decide) rfl dX11_readArguments_32 (by omega) (by omega) (fun _ => ?_) (fun c => absurd c (by omega))
    refine J_iconst 40 0 rfl dX11_readArguments_39 ic_0 ?_
    refine J_istore 42 rfl dX11_readArguments_40 (Nat.le_of_ble_eq_true rfl) ?_
    refine J_aload_n 43 rfl dX11_readArguments_42 rfl ?_
    refine g_X11_commands 46 rfl dX11_readArguments_43 lkX11_51 ?_
    refine J_iload_n 47 rfl dX11_readArguments_46 rfl ?_
    refine J_iload_n 48 rfl dX11_readArguments_47 rfl ?_
    refine J_if_eq 55 51 (by decide) rfl dX11_readArguments_48 (by omega) (fun _ => ?_) (fun c => absurd c (by omega))
    refine J_iload 57 rfl dX11_readArguments_55 rfl ?_
    refine J_if_eq 67 60 (by decide) rfl dX11_readArguments_57 (by omega) (fun _ => ?_) (fun c => absurd c (by omega))
    refine J_aload_n 68 rfl dX11_readArguments_67 rfl ?_
    refine J_callVip (As := []) 71 _ rfl kalX11_digit lkX11_274 dX11_readArguments_68 (lt_X11) (so_X11) rfl rfl rfl (by exact Nat.le_of_ble_eq_true rfl) (by omega) (S_X11_digit t.com (by omega) hl) (fun J68 q68 => ?_)
    subst q68
    refine J_iast 72 rfl dX11_readArguments_71 (sa_X11_commands) (by omega) ?_
    rw [mst_363]
    refine J_iload_n 73 rfl dX11_readArguments_72 rfl ?_
    refine J_tabL 170 dX11_readArguments_73 (by omega) (by decide) (by decide) rfl (by decide) ?_
    refine J_aload_n 171 rfl dX11_readArguments_170 rfl ?_
    refine g_X11_commands 174 rfl dX11_readArguments_171 lkX11_51 ?_
    refine J_iload_n 175 rfl dX11_readArguments_174 rfl ?_
    refine J_iconst 176 1 rfl dX11_readArguments_175 ic_1 ?_
    refine J_iadd 177 rfl dX11_readArguments_176 ?_
    refine J_aload_n 178 rfl dX11_readArguments_177 rfl ?_
    refine J_bipush 180 42 rfl dX11_readArguments_178 bc_42 ?_
    refine J_callVip (As := [_]) 183 _ rfl kalX11_numberBehind lkX11_286 dX11_readArguments_180 (lt_X11) (so_X11) rfl rfl rfl (by exact Nat.le_of_ble_eq_true rfl) (by omega) (S_X11_numberBehind (c := 42) t.com wD_le (wD_n (k := 1) hl).1 (by omega)) (fun J180 q180 => ?_)
    subst q180
    refine J_iast 184 rfl dX11_readArguments_183 (sa_X11_commands) (by omega) ?_
    rw [mst_363]
    refine J_goto 233 (by decide) dX11_readArguments_184 ?_
    refine J_vret rfl dX11_readArguments_233 ?_
    have er : rnF s n (rsK 3) 0 p = rnF s n [35, 42, 37] 0 p := rfl
    rw [er]
    rw [rn_5 rfl, rn_c (by decide) (by decide), rn_7 (by decide) rfl]
    simp only [rnF, List.length_cons, List.length_nil]
    refine ⟨rfl, _, rfl, fun j hj => ?_, fun j hj => ?_⟩
    · rw [up1_ne (by omega), up1_ne (by omega)]
    · have e0 : j = 0 ∨ j = 1 := by omega
      rcases e0 with e | e <;> subst e
      · rw [up1_ne (by omega), up1_app, if_pos (by omega)]
        rfl
      · rw [up1_app, if_pos (by omega)]
        rfl
  · refine J_iload_n 1 rfl dX11_readArguments_0 rfl ?_
    refine J_bipush 3 7 rfl dX11_readArguments_1 bc_7 ?_
    refine J_icmp_eq 12 6 (by decide) rfl dX11_readArguments_3 (by omega) (by omega) (fun c => absurd c (by omega)) (fun _ => ?_)
    refine J_iload_n 7 rfl dX11_readArguments_6 rfl ?_
    refine J_bipush 9 10 rfl dX11_readArguments_7 bc_10 ?_
    refine J_icmp_ne 16 12 (by decide) rfl dX11_readArguments_9 (by omega) (by omega) (fun _ => ?_) (fun c => absurd c (by omega))
    refine J_iconst 17 0 rfl dX11_readArguments_16 ic_0 ?_
    refine J_istore_n 18 rfl dX11_readArguments_17 rfl (Nat.le_of_ble_eq_true rfl) ?_
    refine J_iload_n 19 rfl dX11_readArguments_18 rfl ?_
    refine J_iconst 20 5 rfl dX11_readArguments_19 ic_5 ?_
    refine J_icmp_eq 35 23 (by decide) rfl dX11_readArguments_20 (by omega) (by omega) (fun c => absurd c (by omega)) (fun _ => ?_)
    refine J_iload_n 24 rfl dX11_readArguments_23 rfl ?_
    refine J_bipush 26 6 rfl dX11_readArguments_24 bc_6 ?_
    refine J_icmp_eq 35 29 (by decide) rfl dX11_readArguments_26 (by omega) (by omega) (fun c => absurd c (by omega)) (fun _ => ?_)
    refine J_iload_n 30 rfl dX11_readArguments_29 rfl ?_
    refine J_bipush 32 11 rfl dX11_readArguments_30 bc_11 ?_
    refine J_icmp_ne 39 35 (by decide) rfl dX11_readArguments_32 (by omega) (by omega) (fun _ => ?_) (fun c => absurd c (by omega))
    refine J_iconst 40 0 rfl dX11_readArguments_39 ic_0 ?_
    refine J_istore 42 rfl dX11_readArguments_40 (Nat.le_of_ble_eq_true rfl) ?_
    refine J_aload_n 43 rfl dX11_readArguments_42 rfl ?_
    refine g_X11_commands 46 rfl dX11_readArguments_43 lkX11_51 ?_
    refine J_iload_n 47 rfl dX11_readArguments_46 rfl ?_
    refine J_iload_n 48 rfl dX11_readArguments_47 rfl ?_
    refine J_if_eq 55 51 (by decide) rfl dX11_readArguments_48 (by omega) (fun _ => ?_) (fun c => absurd c (by omega))
    refine J_iload 57 rfl dX11_readArguments_55 rfl ?_
    refine J_if_eq 67 60 (by decide) rfl dX11_readArguments_57 (by omega) (fun _ => ?_) (fun c => absurd c (by omega))
    refine J_aload_n 68 rfl dX11_readArguments_67 rfl ?_
    refine J_callVip (As := []) 71 _ rfl kalX11_digit lkX11_274 dX11_readArguments_68 (lt_X11) (so_X11) rfl rfl rfl (by exact Nat.le_of_ble_eq_true rfl) (by omega) (S_X11_digit t.com (by omega) hl) (fun J68 q68 => ?_)
    subst q68
    refine J_iast 72 rfl dX11_readArguments_71 (sa_X11_commands) (by omega) ?_
    rw [mst_363]
    refine J_iload_n 73 rfl dX11_readArguments_72 rfl ?_
    refine J_tabL 187 dX11_readArguments_73 (by omega) (by decide) (by decide) rfl (by decide) ?_
    refine J_aload_n 188 rfl dX11_readArguments_187 rfl ?_
    refine g_X11_commands 191 rfl dX11_readArguments_188 lkX11_51 ?_
    refine J_iload_n 192 rfl dX11_readArguments_191 rfl ?_
    refine J_iconst 193 1 rfl dX11_readArguments_192 ic_1 ?_
    refine J_iadd 194 rfl dX11_readArguments_193 ?_
    refine J_aload_n 195 rfl dX11_readArguments_194 rfl ?_
    refine J_bipush 197 46 rfl dX11_readArguments_195 bc_46 ?_
    refine J_callVip (As := [_]) 200 _ rfl kalX11_digitBehind lkX11_283 dX11_readArguments_197 (lt_X11) (so_X11) rfl rfl rfl (by exact Nat.le_of_ble_eq_true rfl) (by omega) (S_X11_digitBehind (c := 46) t.com wD_le (wD_n (k := 1) hl).1 (by omega)) (fun J197 q197 => ?_)
    subst q197
    refine J_iast 201 rfl dX11_readArguments_200 (sa_X11_commands) (by omega) ?_
    rw [mst_363]
    refine J_aload_n 202 rfl dX11_readArguments_201 rfl ?_
    refine g_X11_commands 205 rfl dX11_readArguments_202 lkX11_51 ?_
    refine J_iload_n 206 rfl dX11_readArguments_205 rfl ?_
    refine J_iconst 207 2 rfl dX11_readArguments_206 ic_2 ?_
    refine J_iadd 208 rfl dX11_readArguments_207 ?_
    refine J_aload_n 209 rfl dX11_readArguments_208 rfl ?_
    refine J_bipush 211 43 rfl dX11_readArguments_209 bc_43 ?_
    refine J_callVip (As := [_]) 214 _ rfl kalX11_numberBehind lkX11_286 dX11_readArguments_211 (lt_X11) (so_X11) rfl rfl rfl (by exact Nat.le_of_ble_eq_true rfl) (by omega) (S_X11_numberBehind (c := 43) t.com wD_le (wD_n (k := 1) (wL_n (wD_n (k := 1) hl).1)).1 (by omega)) (fun J211 q211 => ?_)
    subst q211
    refine J_iast 215 rfl dX11_readArguments_214 (sa_X11_commands) (by omega) ?_
    rw [mst_363]
    refine J_goto 233 (by decide) dX11_readArguments_215 ?_
    refine J_vret rfl dX11_readArguments_233 ?_
    have er : rnF s n (rsK 4) 0 p = rnF s n [35, 46, 35, 43, 37] 0 p := rfl
    rw [er]
    rw [rn_5 rfl, rn_c (by decide) (by decide), rn_5 rfl, rn_c (by decide) (by decide), rn_7 (by decide) rfl]
    simp only [rnF, List.length_cons, List.length_nil]
    refine ⟨rfl, _, rfl, fun j hj => ?_, fun j hj => ?_⟩
    · rw [up1_ne (by omega), up1_ne (by omega), up1_ne (by omega)]
    · have e0 : j = 0 ∨ j = 1 ∨ j = 2 := by omega
      rcases e0 with e | e | e <;> subst e
      · rw [up1_ne (by omega), up1_ne (by omega), up1_app, if_pos (by omega)]
        rfl
      · rw [up1_ne (by omega), up1_app, if_pos (by omega)]
        rfl
      · rw [up1_app, if_pos (by omega)]
        rfl
  · refine J_iload_n 1 rfl dX11_readArguments_0 rfl ?_
    refine J_bipush 3 7 rfl dX11_readArguments_1 bc_7 ?_
    refine J_icmp_eq 12 6 (by decide) rfl dX11_readArguments_3 (by omega) (by omega) (fun c => absurd c (by omega)) (fun _ => ?_)
    refine J_iload_n 7 rfl dX11_readArguments_6 rfl ?_
    refine J_bipush 9 10 rfl dX11_readArguments_7 bc_10 ?_
    refine J_icmp_ne 16 12 (by decide) rfl dX11_readArguments_9 (by omega) (by omega) (fun _ => ?_) (fun c => absurd c (by omega))
    refine J_iconst 17 0 rfl dX11_readArguments_16 ic_0 ?_
    refine J_istore_n 18 rfl dX11_readArguments_17 rfl (Nat.le_of_ble_eq_true rfl) ?_
    refine J_iload_n 19 rfl dX11_readArguments_18 rfl ?_
    refine J_iconst 20 5 rfl dX11_readArguments_19 ic_5 ?_
    refine J_icmp_eq 35 23 (by decide) rfl dX11_readArguments_20 (by omega) (by omega) (fun _ => ?_) (fun c => absurd c (by omega))
    refine J_iconst 36 1 rfl dX11_readArguments_35 ic_1 ?_
    refine J_goto 40 (by decide) dX11_readArguments_36 ?_
    refine J_istore 42 rfl dX11_readArguments_40 (Nat.le_of_ble_eq_true rfl) ?_
    refine J_aload_n 43 rfl dX11_readArguments_42 rfl ?_
    refine g_X11_commands 46 rfl dX11_readArguments_43 lkX11_51 ?_
    refine J_iload_n 47 rfl dX11_readArguments_46 rfl ?_
    refine J_iload_n 48 rfl dX11_readArguments_47 rfl ?_
    refine J_if_eq 55 51 (by decide) rfl dX11_readArguments_48 (by omega) (fun _ => ?_) (fun c => absurd c (by omega))
    refine J_iload 57 rfl dX11_readArguments_55 rfl ?_
    refine J_if_eq 67 60 (by decide) rfl dX11_readArguments_57 (by omega) (fun c => absurd c (by omega)) (fun _ => ?_)
    refine J_aload_n 61 rfl dX11_readArguments_60 rfl ?_
    refine J_callVip (As := []) 64 _ rfl kalX11_number lkX11_280 dX11_readArguments_61 (lt_X11) (so_X11) rfl rfl rfl (by exact Nat.le_of_ble_eq_true rfl) (by omega) (S_X11_number t.com (by omega) hl) (fun J61 q61 => ?_)
    subst q61
    refine J_goto 71 (by decide) dX11_readArguments_64 ?_
    refine J_iast 72 rfl dX11_readArguments_71 (sa_X11_commands) (by omega) ?_
    rw [mst_363]
    refine J_iload_n 73 rfl dX11_readArguments_72 rfl ?_
    refine J_tabL 233 dX11_readArguments_73 (by omega) (by decide) (by decide) rfl (by decide) ?_
    refine J_vret rfl dX11_readArguments_233 ?_
    have er : rnF s n (rsK 5) 0 p = rnF s n [37] 0 p := rfl
    rw [er]
    rw [rn_7 (by decide) rfl]
    simp only [rnF, List.length_cons, List.length_nil]
    refine ⟨rfl, _, rfl, fun j hj => ?_, fun j hj => ?_⟩
    · rw [up1_ne (by omega)]
    · have e0 : j = 0 := by omega
      subst e0
      rw [up1_app, if_pos (by omega)]
      rfl
  · refine J_iload_n 1 rfl dX11_readArguments_0 rfl ?_
    refine J_bipush 3 7 rfl dX11_readArguments_1 bc_7 ?_
    refine J_icmp_eq 12 6 (by decide) rfl dX11_readArguments_3 (by omega) (by omega) (fun c => absurd c (by omega)) (fun _ => ?_)
    refine J_iload_n 7 rfl dX11_readArguments_6 rfl ?_
    refine J_bipush 9 10 rfl dX11_readArguments_7 bc_10 ?_
    refine J_icmp_ne 16 12 (by decide) rfl dX11_readArguments_9 (by omega) (by omega) (fun _ => ?_) (fun c => absurd c (by omega))
    refine J_iconst 17 0 rfl dX11_readArguments_16 ic_0 ?_
    refine J_istore_n 18 rfl dX11_readArguments_17 rfl (Nat.le_of_ble_eq_true rfl) ?_
    refine J_iload_n 19 rfl dX11_readArguments_18 rfl ?_
    refine J_iconst 20 5 rfl dX11_readArguments_19 ic_5 ?_
    refine J_icmp_eq 35 23 (by decide) rfl dX11_readArguments_20 (by omega) (by omega) (fun c => absurd c (by omega)) (fun _ => ?_)
    refine J_iload_n 24 rfl dX11_readArguments_23 rfl ?_
    refine J_bipush 26 6 rfl dX11_readArguments_24 bc_6 ?_
    refine J_icmp_eq 35 29 (by decide) rfl dX11_readArguments_26 (by omega) (by omega) (fun _ => ?_) (fun c => absurd c (by omega))
    refine J_iconst 36 1 rfl dX11_readArguments_35 ic_1 ?_
    refine J_goto 40 (by decide) dX11_readArguments_36 ?_
    refine J_istore 42 rfl dX11_readArguments_40 (Nat.le_of_ble_eq_true rfl) ?_
    refine J_aload_n 43 rfl dX11_readArguments_42 rfl ?_
    refine g_X11_commands 46 rfl dX11_readArguments_43 lkX11_51 ?_
    refine J_iload_n 47 rfl dX11_readArguments_46 rfl ?_
    refine J_iload_n 48 rfl dX11_readArguments_47 rfl ?_
    refine J_if_eq 55 51 (by decide) rfl dX11_readArguments_48 (by omega) (fun _ => ?_) (fun c => absurd c (by omega))
    refine J_iload 57 rfl dX11_readArguments_55 rfl ?_
    refine J_if_eq 67 60 (by decide) rfl dX11_readArguments_57 (by omega) (fun c => absurd c (by omega)) (fun _ => ?_)
    refine J_aload_n 61 rfl dX11_readArguments_60 rfl ?_
    refine J_callVip (As := []) 64 _ rfl kalX11_number lkX11_280 dX11_readArguments_61 (lt_X11) (so_X11) rfl rfl rfl (by exact Nat.le_of_ble_eq_true rfl) (by omega) (S_X11_number t.com (by omega) hl) (fun J61 q61 => ?_)
    subst q61
    refine J_goto 71 (by decide) dX11_readArguments_64 ?_
    refine J_iast 72 rfl dX11_readArguments_71 (sa_X11_commands) (by omega) ?_
    rw [mst_363]
    refine J_iload_n 73 rfl dX11_readArguments_72 rfl ?_
    refine J_tabL 233 dX11_readArguments_73 (by omega) (by decide) (by decide) rfl (by decide) ?_
    refine J_vret rfl dX11_readArguments_233 ?_
    have er : rnF s n (rsK 6) 0 p = rnF s n [37] 0 p := rfl
    rw [er]
    rw [rn_7 (by decide) rfl]
    simp only [rnF, List.length_cons, List.length_nil]
    refine ⟨rfl, _, rfl, fun j hj => ?_, fun j hj => ?_⟩
    · rw [up1_ne (by omega)]
    · have e0 : j = 0 := by omega
      subst e0
      rw [up1_app, if_pos (by omega)]
      rfl
  · refine J_iload_n 1 rfl dX11_readArguments_0 rfl ?_
    refine J_bipush 3 7 rfl dX11_readArguments_1 bc_7 ?_
    refine J_icmp_eq 12 6 (by decide) rfl dX11_readArguments_3 (by omega) (by omega) (fun _ => ?_) (fun c => absurd c (by omega))
    refine J_iconst 13 1 rfl dX11_readArguments_12 ic_1 ?_
    refine J_goto 17 (by decide) dX11_readArguments_13 ?_
    refine J_istore_n 18 rfl dX11_readArguments_17 rfl (Nat.le_of_ble_eq_true rfl) ?_
    refine J_iload_n 19 rfl dX11_readArguments_18 rfl ?_
    refine J_iconst 20 5 rfl dX11_readArguments_19 ic_5 ?_
    refine J_icmp_eq 35 23 (by decide) rfl dX11_readArguments_20 (by omega) (by omega) (fun c => absurd c (by omega)) (fun _ => ?_)
    refine J_iload_n 24 rfl dX11_readArguments_23 rfl ?_
    refine J_bipush 26 6 rfl dX11_readArguments_24 bc_6 ?_
    refine J_icmp_eq 35 29 (by decide) rfl dX11_readArguments_26 (by omega) (by omega) (fun c => absurd c (by omega)) (fun _ => ?_)
    refine J_iload_n 30 rfl dX11_readArguments_29 rfl ?_
    refine J_bipush 32 11 rfl dX11_readArguments_30 bc_11 ?_
    refine J_icmp_ne 39 35 (by decide) rfl dX11_readArguments_32 (by omega) (by omega) (fun _ => ?_) (fun c => absurd c (by omega))
    refine J_iconst 40 0 rfl dX11_readArguments_39 ic_0 ?_
    refine J_istore 42 rfl dX11_readArguments_40 (Nat.le_of_ble_eq_true rfl) ?_
    refine J_aload_n 43 rfl dX11_readArguments_42 rfl ?_
    refine g_X11_commands 46 rfl dX11_readArguments_43 lkX11_51 ?_
    refine J_iload_n 47 rfl dX11_readArguments_46 rfl ?_
    refine J_iload_n 48 rfl dX11_readArguments_47 rfl ?_
    refine J_if_eq 55 51 (by decide) rfl dX11_readArguments_48 (by omega) (fun c => absurd c (by omega)) (fun _ => ?_)
    refine J_iconst 52 0 rfl dX11_readArguments_51 ic_0 ?_
    refine J_goto 71 (by decide) dX11_readArguments_52 ?_
    refine J_iast 72 rfl dX11_readArguments_71 (sa_X11_commands) (by omega) ?_
    rw [mst_363]
    refine J_iload_n 73 rfl dX11_readArguments_72 rfl ?_
    refine J_tabL 233 dX11_readArguments_73 (by omega) (by decide) (by decide) rfl (by decide) ?_
    refine J_vret rfl dX11_readArguments_233 ?_
    have er : rnF s n (rsK 7) 0 p = rnF s n [] 0 p := rfl
    rw [er]
    simp only [rnF, List.length_cons, List.length_nil]
    refine ⟨rfl, _, rfl, fun j hj => ?_, fun j hj => ?_⟩
    · rw [up1_ne (by omega)]
    · exact absurd hj (Nat.not_lt_zero _)
  · refine J_iload_n 1 rfl dX11_readArguments_0 rfl ?_
    refine J_bipush 3 7 rfl dX11_readArguments_1 bc_7 ?_
    refine J_icmp_eq 12 6 (by decide) rfl dX11_readArguments_3 (by omega) (by omega) (fun c => absurd c (by omega)) (fun _ => ?_)
    refine J_iload_n 7 rfl dX11_readArguments_6 rfl ?_
    refine J_bipush 9 10 rfl dX11_readArguments_7 bc_10 ?_
    refine J_icmp_ne 16 12 (by decide) rfl dX11_readArguments_9 (by omega) (by omega) (fun _ => ?_) (fun c => absurd c (by omega))
    refine J_iconst 17 0 rfl dX11_readArguments_16 ic_0 ?_
    refine J_istore_n 18 rfl dX11_readArguments_17 rfl (Nat.le_of_ble_eq_true rfl) ?_
    refine J_iload_n 19 rfl dX11_readArguments_18 rfl ?_
    refine J_iconst 20 5 rfl dX11_readArguments_19 ic_5 ?_
    refine J_icmp_eq 35 23 (by decide) rfl dX11_readArguments_20 (by omega) (by omega) (fun c => absurd c (by omega)) (fun _ => ?_)
    refine J_iload_n 24 rfl dX11_readArguments_23 rfl ?_
    refine J_bipush 26 6 rfl dX11_readArguments_24 bc_6 ?_
    refine J_icmp_eq 35 29 (by decide) rfl dX11_readArguments_26 (by omega) (by omega) (fun c => absurd c (by omega)) (fun _ => ?_)
    refine J_iload_n 30 rfl dX11_readArguments_29 rfl ?_
    refine J_bipush 32 11 rfl dX11_readArguments_30 bc_11 ?_
    refine J_icmp_ne 39 35 (by decide) rfl dX11_readArguments_32 (by omega) (by omega) (fun _ => ?_) (fun c => absurd c (by omega))
    refine J_iconst 40 0 rfl dX11_readArguments_39 ic_0 ?_
    refine J_istore 42 rfl dX11_readArguments_40 (Nat.le_of_ble_eq_true rfl) ?_
    refine J_aload_n 43 rfl dX11_readArguments_42 rfl ?_
    refine g_X11_commands 46 rfl dX11_readArguments_43 lkX11_51 ?_
    refine J_iload_n 47 rfl dX11_readArguments_46 rfl ?_
    refine J_iload_n 48 rfl dX11_readArguments_47 rfl ?_
    refine J_if_eq 55 51 (by decide) rfl dX11_readArguments_48 (by omega) (fun _ => ?_) (fun c => absurd c (by omega))
    refine J_iload 57 rfl dX11_readArguments_55 rfl ?_
    refine J_if_eq 67 60 (by decide) rfl dX11_readArguments_57 (by omega) (fun _ => ?_) (fun c => absurd c (by omega))
    refine J_aload_n 68 rfl dX11_readArguments_67 rfl ?_
    refine J_callVip (As := []) 71 _ rfl kalX11_digit lkX11_274 dX11_readArguments_68 (lt_X11) (so_X11) rfl rfl rfl (by exact Nat.le_of_ble_eq_true rfl) (by omega) (S_X11_digit t.com (by omega) hl) (fun J68 q68 => ?_)
    subst q68
    refine J_iast 72 rfl dX11_readArguments_71 (sa_X11_commands) (by omega) ?_
    rw [mst_363]
    refine J_iload_n 73 rfl dX11_readArguments_72 rfl ?_
    refine J_tabL 218 dX11_readArguments_73 (by omega) (by decide) (by decide) rfl (by decide) ?_
    refine J_aload_n 219 rfl dX11_readArguments_218 rfl ?_
    refine g_X11_commands 222 rfl dX11_readArguments_219 lkX11_51 ?_
    refine J_iload_n 223 rfl dX11_readArguments_222 rfl ?_
    refine J_iconst 224 1 rfl dX11_readArguments_223 ic_1 ?_
    refine J_iadd 225 rfl dX11_readArguments_224 ?_
    refine J_aload_n 226 rfl dX11_readArguments_225 rfl ?_
    refine J_callVip (As := []) 229 _ rfl kalX11_digit lkX11_274 dX11_readArguments_226 (lt_X11) (so_X11) rfl rfl rfl (by exact Nat.le_of_ble_eq_true rfl) (by omega) (S_X11_digit t.com wD_le (wD_n (k := 1) hl).1) (fun J226 q226 => ?_)
    subst q226
    refine J_iast 230 rfl dX11_readArguments_229 (sa_X11_commands) (by omega) ?_
    rw [mst_363]
    refine J_goto 233 (by decide) dX11_readArguments_230 ?_
    refine J_vret rfl dX11_readArguments_233 ?_
    have er : rnF s n (rsK 8) 0 p = rnF s n [35, 35] 0 p := rfl
    rw [er]
    rw [rn_5 rfl, rn_5 rfl]
    simp only [rnF, List.length_cons, List.length_nil]
    refine ⟨rfl, _, rfl, fun j hj => ?_, fun j hj => ?_⟩
    · rw [up1_ne (by omega), up1_ne (by omega)]
    · have e0 : j = 0 ∨ j = 1 := by omega
      rcases e0 with e | e <;> subst e
      · rw [up1_ne (by omega), up1_app, if_pos (by omega)]
        rfl
      · rw [up1_app, if_pos (by omega)]
        rfl
  · refine J_iload_n 1 rfl dX11_readArguments_0 rfl ?_
    refine J_bipush 3 7 rfl dX11_readArguments_1 bc_7 ?_
    refine J_icmp_eq 12 6 (by decide) rfl dX11_readArguments_3 (by omega) (by omega) (fun c => absurd c (by omega)) (fun _ => ?_)
    refine J_iload_n 7 rfl dX11_readArguments_6 rfl ?_
    refine J_bipush 9 10 rfl dX11_readArguments_7 bc_10 ?_
    refine J_icmp_ne 16 12 (by decide) rfl dX11_readArguments_9 (by omega) (by omega) (fun _ => ?_) (fun c => absurd c (by omega))
    refine J_iconst 17 0 rfl dX11_readArguments_16 ic_0 ?_
    refine J_istore_n 18 rfl dX11_readArguments_17 rfl (Nat.le_of_ble_eq_true rfl) ?_
    refine J_iload_n 19 rfl dX11_readArguments_18 rfl ?_
    refine J_iconst 20 5 rfl dX11_readArguments_19 ic_5 ?_
    refine J_icmp_eq 35 23 (by decide) rfl dX11_readArguments_20 (by omega) (by omega) (fun c => absurd c (by omega)) (fun _ => ?_)
    refine J_iload_n 24 rfl dX11_readArguments_23 rfl ?_
    refine J_bipush 26 6 rfl dX11_readArguments_24 bc_6 ?_
    refine J_icmp_eq 35 29 (by decide) rfl dX11_readArguments_26 (by omega) (by omega) (fun c => absurd c (by omega)) (fun _ => ?_)
    refine J_iload_n 30 rfl dX11_readArguments_29 rfl ?_
    refine J_bipush 32 11 rfl dX11_readArguments_30 bc_11 ?_
    refine J_icmp_ne 39 35 (by decide) rfl dX11_readArguments_32 (by omega) (by omega) (fun _ => ?_) (fun c => absurd c (by omega))
    refine J_iconst 40 0 rfl dX11_readArguments_39 ic_0 ?_
    refine J_istore 42 rfl dX11_readArguments_40 (Nat.le_of_ble_eq_true rfl) ?_
    refine J_aload_n 43 rfl dX11_readArguments_42 rfl ?_
    refine g_X11_commands 46 rfl dX11_readArguments_43 lkX11_51 ?_
    refine J_iload_n 47 rfl dX11_readArguments_46 rfl ?_
    refine J_iload_n 48 rfl dX11_readArguments_47 rfl ?_
    refine J_if_eq 55 51 (by decide) rfl dX11_readArguments_48 (by omega) (fun _ => ?_) (fun c => absurd c (by omega))
    refine J_iload 57 rfl dX11_readArguments_55 rfl ?_
    refine J_if_eq 67 60 (by decide) rfl dX11_readArguments_57 (by omega) (fun _ => ?_) (fun c => absurd c (by omega))
    refine J_aload_n 68 rfl dX11_readArguments_67 rfl ?_
    refine J_callVip (As := []) 71 _ rfl kalX11_digit lkX11_274 dX11_readArguments_68 (lt_X11) (so_X11) rfl rfl rfl (by exact Nat.le_of_ble_eq_true rfl) (by omega) (S_X11_digit t.com (by omega) hl) (fun J68 q68 => ?_)
    subst q68
    refine J_iast 72 rfl dX11_readArguments_71 (sa_X11_commands) (by omega) ?_
    rw [mst_363]
    refine J_iload_n 73 rfl dX11_readArguments_72 rfl ?_
    refine J_tabL 124 dX11_readArguments_73 (by omega) (by decide) (by decide) rfl (by decide) ?_
    refine J_aload_n 125 rfl dX11_readArguments_124 rfl ?_
    refine g_X11_commands 128 rfl dX11_readArguments_125 lkX11_51 ?_
    refine J_iload_n 129 rfl dX11_readArguments_128 rfl ?_
    refine J_iconst 130 1 rfl dX11_readArguments_129 ic_1 ?_
    refine J_iadd 131 rfl dX11_readArguments_130 ?_
    refine J_aload_n 132 rfl dX11_readArguments_131 rfl ?_
    refine J_bipush 134 32 rfl dX11_readArguments_132 bc_32 ?_
    refine J_callVip (As := [_]) 137 _ rfl kalX11_digitBehind lkX11_283 dX11_readArguments_134 (lt_X11) (so_X11) rfl rfl rfl (by exact Nat.le_of_ble_eq_true rfl) (by omega) (S_X11_digitBehind (c := 32) t.com wD_le (wD_n (k := 1) hl).1 (by omega)) (fun J134 q134 => ?_)
    subst q134
    refine J_iast 138 rfl dX11_readArguments_137 (sa_X11_commands) (by omega) ?_
    rw [mst_363]
    refine J_aload_n 139 rfl dX11_readArguments_138 rfl ?_
    refine g_X11_commands 142 rfl dX11_readArguments_139 lkX11_51 ?_
    refine J_iload_n 143 rfl dX11_readArguments_142 rfl ?_
    refine J_iconst 144 2 rfl dX11_readArguments_143 ic_2 ?_
    refine J_iadd 145 rfl dX11_readArguments_144 ?_
    refine J_aload_n 146 rfl dX11_readArguments_145 rfl ?_
    refine J_callVip (As := []) 149 _ rfl kalX11_digit lkX11_274 dX11_readArguments_146 (lt_X11) (so_X11) rfl rfl rfl (by exact Nat.le_of_ble_eq_true rfl) (by omega) (S_X11_digit t.com wD_le (wD_n (k := 1) (wL_n (wD_n (k := 1) hl).1)).1) (fun J146 q146 => ?_)
    subst q146
    refine J_iast 150 rfl dX11_readArguments_149 (sa_X11_commands) (by omega) ?_
    rw [mst_363]
    refine J_goto 233 (by decide) dX11_readArguments_150 ?_
    refine J_vret rfl dX11_readArguments_233 ?_
    have er : rnF s n (rsK 9) 0 p = rnF s n [35, 32, 35, 35] 0 p := rfl
    rw [er]
    rw [rn_5 rfl, rn_c (by decide) (by decide), rn_5 rfl, rn_5 rfl]
    simp only [rnF, List.length_cons, List.length_nil]
    refine ⟨rfl, _, rfl, fun j hj => ?_, fun j hj => ?_⟩
    · rw [up1_ne (by omega), up1_ne (by omega), up1_ne (by omega)]
    · have e0 : j = 0 ∨ j = 1 ∨ j = 2 := by omega
      rcases e0 with e | e | e <;> subst e
      · rw [up1_ne (by omega), up1_ne (by omega), up1_app, if_pos (by omega)]
        rfl
      · rw [up1_ne (by omega), up1_app, if_pos (by omega)]
        rfl
      · rw [up1_app, if_pos (by omega)]
        rfl
  · refine J_iload_n 1 rfl dX11_readArguments_0 rfl ?_
    refine J_bipush 3 7 rfl dX11_readArguments_1 bc_7 ?_
    refine J_icmp_eq 12 6 (by decide) rfl dX11_readArguments_3 (by omega) (by omega) (fun c => absurd c (by omega)) (fun _ => ?_)
    refine J_iload_n 7 rfl dX11_readArguments_6 rfl ?_
    refine J_bipush 9 10 rfl dX11_readArguments_7 bc_10 ?_
    refine J_icmp_ne 16 12 (by decide) rfl dX11_readArguments_9 (by omega) (by omega) (fun c => absurd c (by omega)) (fun _ => ?_)
    refine J_iconst 13 1 rfl dX11_readArguments_12 ic_1 ?_
    refine J_goto 17 (by decide) dX11_readArguments_13 ?_
    refine J_istore_n 18 rfl dX11_readArguments_17 rfl (Nat.le_of_ble_eq_true rfl) ?_
    refine J_iload_n 19 rfl dX11_readArguments_18 rfl ?_
    refine J_iconst 20 5 rfl dX11_readArguments_19 ic_5 ?_
    refine J_icmp_eq 35 23 (by decide) rfl dX11_readArguments_20 (by omega) (by omega) (fun c => absurd c (by omega)) (fun _ => ?_)
    refine J_iload_n 24 rfl dX11_readArguments_23 rfl ?_
    refine J_bipush 26 6 rfl dX11_readArguments_24 bc_6 ?_
    refine J_icmp_eq 35 29 (by decide) rfl dX11_readArguments_26 (by omega) (by omega) (fun c => absurd c (by omega)) (fun _ => ?_)
    refine J_iload_n 30 rfl dX11_readArguments_29 rfl ?_
    refine J_bipush 32 11 rfl dX11_readArguments_30 bc_11 ?_
    refine J_icmp_ne 39 35 (by decide) rfl dX11_readArguments_32 (by omega) (by omega) (fun _ => ?_) (fun c => absurd c (by omega))
    refine J_iconst 40 0 rfl dX11_readArguments_39 ic_0 ?_
    refine J_istore 42 rfl dX11_readArguments_40 (Nat.le_of_ble_eq_true rfl) ?_
    refine J_aload_n 43 rfl dX11_readArguments_42 rfl ?_
    refine g_X11_commands 46 rfl dX11_readArguments_43 lkX11_51 ?_
    refine J_iload_n 47 rfl dX11_readArguments_46 rfl ?_
    refine J_iload_n 48 rfl dX11_readArguments_47 rfl ?_
    refine J_if_eq 55 51 (by decide) rfl dX11_readArguments_48 (by omega) (fun c => absurd c (by omega)) (fun _ => ?_)
    refine J_iconst 52 0 rfl dX11_readArguments_51 ic_0 ?_
    refine J_goto 71 (by decide) dX11_readArguments_52 ?_
    refine J_iast 72 rfl dX11_readArguments_71 (sa_X11_commands) (by omega) ?_
    rw [mst_363]
    refine J_iload_n 73 rfl dX11_readArguments_72 rfl ?_
    refine J_tabOut 233 dX11_readArguments_73 (by omega) (Or.inr (by decide)) (by decide) ?_
    refine J_vret rfl dX11_readArguments_233 ?_
    have er : rnF s n (rsK 10) 0 p = rnF s n [] 0 p := rfl
    rw [er]
    simp only [rnF, List.length_cons, List.length_nil]
    refine ⟨rfl, _, rfl, fun j hj => ?_, fun j hj => ?_⟩
    · rw [up1_ne (by omega)]
    · exact absurd hj (Nat.not_lt_zero _)
  · refine J_iload_n 1 rfl dX11_readArguments_0 rfl ?_
    refine J_bipush 3 7 rfl dX11_readArguments_1 bc_7 ?_
    refine J_icmp_eq 12 6 (by decide) rfl dX11_readArguments_3 (by omega) (by omega) (fun c => absurd c (by omega)) (fun _ => ?_)
    refine J_iload_n 7 rfl dX11_readArguments_6 rfl ?_
    refine J_bipush 9 10 rfl dX11_readArguments_7 bc_10 ?_
    refine J_icmp_ne 16 12 (by decide) rfl dX11_readArguments_9 (by omega) (by omega) (fun _ => ?_) (fun c => absurd c (by omega))
    refine J_iconst 17 0 rfl dX11_readArguments_16 ic_0 ?_
    refine J_istore_n 18 rfl dX11_readArguments_17 rfl (Nat.le_of_ble_eq_true rfl) ?_
    refine J_iload_n 19 rfl dX11_readArguments_18 rfl ?_
    refine J_iconst 20 5 rfl dX11_readArguments_19 ic_5 ?_
    refine J_icmp_eq 35 23 (by decide) rfl dX11_readArguments_20 (by omega) (by omega) (fun c => absurd c (by omega)) (fun _ => ?_)
    refine J_iload_n 24 rfl dX11_readArguments_23 rfl ?_
    refine J_bipush 26 6 rfl dX11_readArguments_24 bc_6 ?_
    refine J_icmp_eq 35 29 (by decide) rfl dX11_readArguments_26 (by omega) (by omega) (fun c => absurd c (by omega)) (fun _ => ?_)
    refine J_iload_n 30 rfl dX11_readArguments_29 rfl ?_
    refine J_bipush 32 11 rfl dX11_readArguments_30 bc_11 ?_
    refine J_icmp_ne 39 35 (by decide) rfl dX11_readArguments_32 (by omega) (by omega) (fun c => absurd c (by omega)) (fun _ => ?_)
    refine J_iconst 36 1 rfl dX11_readArguments_35 ic_1 ?_
    refine J_goto 40 (by decide) dX11_readArguments_36 ?_
    refine J_istore 42 rfl dX11_readArguments_40 (Nat.le_of_ble_eq_true rfl) ?_
    refine J_aload_n 43 rfl dX11_readArguments_42 rfl ?_
    refine g_X11_commands 46 rfl dX11_readArguments_43 lkX11_51 ?_
    refine J_iload_n 47 rfl dX11_readArguments_46 rfl ?_
    refine J_iload_n 48 rfl dX11_readArguments_47 rfl ?_
    refine J_if_eq 55 51 (by decide) rfl dX11_readArguments_48 (by omega) (fun _ => ?_) (fun c => absurd c (by omega))
    refine J_iload 57 rfl dX11_readArguments_55 rfl ?_
    refine J_if_eq 67 60 (by decide) rfl dX11_readArguments_57 (by omega) (fun c => absurd c (by omega)) (fun _ => ?_)
    refine J_aload_n 61 rfl dX11_readArguments_60 rfl ?_
    refine J_callVip (As := []) 64 _ rfl kalX11_number lkX11_280 dX11_readArguments_61 (lt_X11) (so_X11) rfl rfl rfl (by exact Nat.le_of_ble_eq_true rfl) (by omega) (S_X11_number t.com (by omega) hl) (fun J61 q61 => ?_)
    subst q61
    refine J_goto 71 (by decide) dX11_readArguments_64 ?_
    refine J_iast 72 rfl dX11_readArguments_71 (sa_X11_commands) (by omega) ?_
    rw [mst_363]
    refine J_iload_n 73 rfl dX11_readArguments_72 rfl ?_
    refine J_tabOut 233 dX11_readArguments_73 (by omega) (Or.inr (by decide)) (by decide) ?_
    refine J_vret rfl dX11_readArguments_233 ?_
    have er : rnF s n (rsK 11) 0 p = rnF s n [37] 0 p := rfl
    rw [er]
    rw [rn_7 (by decide) rfl]
    simp only [rnF, List.length_cons, List.length_nil]
    refine ⟨rfl, _, rfl, fun j hj => ?_, fun j hj => ?_⟩
    · rw [up1_ne (by omega)]
    · have e0 : j = 0 := by omega
      subst e0
      rw [up1_app, if_pos (by omega)]
      rfl

theorem mst_mk {J : DJ} {v q : Nat} : up2 (up2 J 351 20 q) 351 22 v = mst J v q := by
  funext k j
  unfold mst
  simp only [up2_app]
  (repeat' split) <;> first | rfl | (exfalso; omega)
theorem mst_a {J : DJ} {w p i v : Nat} : up2 (mst J w p) 363 i v = mst (up2 J 363 i v) w p := by
  funext k j
  unfold mst
  simp only [up2_app]
  (repeat' split) <;> first | rfl | (exfalso; omega)
theorem mst_b {J : DJ} {w p v : Nat} : up2 (mst J w p) 351 19 v = mst (up2 J 351 19 v) w p := by
  funext k j
  unfold mst
  simp only [up2_app]
  (repeat' split) <;> first | rfl | (exfalso; omega)
theorem TM.many {J : DJ} {s : Nat → Nat} {n v : Nat} (t : TM J s n) : TM (up2 J 351 19 v) s n := ⟨by rw [up2_ne (by omega)]; exact t.1, by rw [up2_app, if_neg (by omega)]; exact t.2.1, t.2.2⟩
/-- a command that stands in the model's cells -/
def St (J : DJ) (i : Nat) (x : Nat × List Nat) : Prop := J 363 (4 * i) = x.1 ∧ ∀ j, j < x.2.length → J 363 (4 * i + 1 + j) = x.2.getD j 0
def Rc (J J2 : DJ) : Prop := (∀ x, x ≠ 351 → x ≠ 363 → J2 x = J x) ∧ ∀ j, j ≠ 19 → j ≠ 20 → j ≠ 22 → J2 351 j = J 351 j
theorem Rc.refl {J : DJ} : Rc J J := ⟨fun _ _ _ => rfl, fun _ _ _ _ => rfl⟩
theorem Rc.trans {J J1 J2 : DJ} (h : Rc J J1) (h2 : Rc J1 J2) : Rc J J2 := ⟨fun x a b => (h2.1 x a b).trans (h.1 x a b), fun j a b c => (h2.2 j a b c).trans (h.2 j a b c)⟩
theorem Rc.tm {J J2 : DJ} {s : Nat → Nat} {n : Nat} (h : Rc J J2) (t : TM J s n) : TM J2 s n := ⟨by rw [h.1 356 (by omega) (by omega)]; exact t.1, by rw [h.2 21 (by omega) (by omega) (by omega)]; exact t.2.1, t.2.2⟩
theorem Rc.lt {J J2 : DJ} (h : Rc J J2) (t : LT J) : LT J2 := ⟨by rw [h.1 361 (by omega) (by omega)]; exact t.1, by rw [h.1 362 (by omega) (by omega)]; exact t.2⟩
theorem Rc.mst {J : DJ} {w p : Nat} : Rc J (mst J w p) := ⟨fun x a b => mst_ne a, fun j a b c => mst_o b c⟩
theorem ckN_t {s : Nat → Nat} {n a : Nat} (h : ckN s n a < 12) : (fitF s n (fm (ckN s n a)) a).1 = true := by
  obtain ⟨K, eK⟩ : ∃ K, ckN s n a = K := ⟨_, rfl⟩
  rw [eK] at h ⊢
  exact fstN_t2 (p := fun k => (fitF s n (fm k) a).1) (n := 12) (r := K) eK h
def RC (J J2 : DJ) (s : Nat → Nat) (n p c : Nat) : Prop := Rc J J2 ∧ (∀ j, j < 4 * c → J2 363 j = J 363 j) ∧
  ((ckN s n p < 12 ∧ (fitF s n (fm (ckN s n p)) p).1 = true ∧ J2 351 22 = 0 ∧ J2 351 20 = ckA s n p ∧ J2 351 19 = c + 1 ∧ St J2 c (ckN s n p, ckL s n p)) ∨ (ckN s n p = 12 ∧ J2 351 22 = 1 ∧ J2 351 20 = furN s n p 12))
theorem RC_in {J J2 : DJ} {s : Nat → Nat} {n p c K A : Nat} {Ls : List Nat} (hK : ckN s n p = K) (hA : ckA s n p = A) (hL : ckL s n p = Ls) (rc : Rc J J2) (lo : ∀ j, j < 4 * c → J2 363 j = J 363 j) (k12 : K < 12) (w0 : J2 351 22 = 0) (pA : J2 351 20 = A) (c1 : J2 351 19 = c + 1) (st0 : J2 363 (4 * c) = K) (st1 : ∀ j, j < Ls.length → J2 363 (4 * c + 1 + j) = Ls.getD j 0) : RC J J2 s n p c := by
  have t := ckN_t (s := s) (n := n) (a := p) (by rw [hK]; exact k12)
  refine ⟨rc, lo, Or.inl ⟨by rw [hK]; exact k12, t, w0, by rw [hA]; exact pA, c1, ?_⟩⟩
  rw [hK, hL]
  exact ⟨st0, st1⟩
theorem S_X11_readCommand {g : Gn} {J : DJ} {s : Nat → Nat} {n p c : Nat} (t : TM J s n) (lt : LT J) (hp : J 351 20 = p) (hl : p ≤ n) (hc : J 351 19 = c) (h13 : c < 13) : SJ g mX11_readCommand 7 0 0 [.ref (g.2 351)] J (Rq (fun J2 => RC J J2 s n p c)) NoX := by
  have tn := t.2.2.1
  have lkn : ∀ k, p + lkN s n p k ≤ n := fun k => lkW_n _ _ hl
  refine SJ_of_VJ (by decide +kernel) (Nat.le_of_ble_eq_true rfl) ?_
  show VJ g mX11_readCommand 7 0 0 _ _ 0 [(0, .ref (g.2 351))] [] J
  have loop : ∀ (n9 : Nat) (i b : Nat), 12 - i = n9 → i ≤ 12 → b < 12 → b < i → (∀ k, k < i → lkN s n p k ≤ lkN s n p b) → VJ g mX11_readCommand 7 0 0 (Rq (fun J2 => RC J J2 s n p c)) NoX 11 [(0, .ref (g.2 351)), (1, .int (nI (4 * c))), (2, .int (nI b)), (3, .int (nI i))] [] J := by
    intro n9
    induction n9 using Nat.strongRecOn with
    | ind n9 ih =>
      intro i b hi hle hb hbi hm
      have lb := lkn b
      have li := lkn i
      have bb := bg_lt b hb
      have b0 := lt.2 b (by omega)
      have b1 := lt.2 (b + 1) (by omega)
      refine J_iload_n 12 rfl dX11_readCommand_11 rfl ?_
      refine J_bipush 14 12 rfl dX11_readCommand_12 bc_12 ?_
      refine J_icmp_ge 42 17 (by decide) rfl dX11_readCommand_14 (by omega) (by omega) (fun c14 => ?_) (fun c14 => ?_)
      · have hmm : ∀ k, k < 12 → lkN s n p k ≤ lkN s n p b := fun k hk => hm k (by omega)
        have best := best_is hl hb hmm
        refine J_aload_n 43 rfl dX11_readCommand_42 rfl ?_
        refine J_iload_n 44 rfl dX11_readCommand_43 rfl ?_
        refine J_callVi (As := [_]) 47 _ rfl kalX11_likeness lkX11_292 dX11_readCommand_44 (lt_X11) (so_X11) rfl rfl rfl (by exact Nat.le_of_ble_eq_true rfl) (by omega) (S_X11_likeness t lt hp hl hb) ?_
        refine J_istore_n 48 rfl dX11_readCommand_47 rfl (Nat.le_of_ble_eq_true rfl) ?_
        refine J_aload_n 49 rfl dX11_readCommand_48 rfl ?_
        refine J_dup 50 rfl dX11_readCommand_49 rfl ?_
        refine g_X11_place0 53 rfl dX11_readCommand_50 lkX11_259 ?_
        refine J_cv (b := p) hp ?_
        refine J_iload_n 54 rfl dX11_readCommand_53 rfl ?_
        refine J_iadd 55 rfl dX11_readCommand_54 ?_
        refine p_X11_place0 58 rfl dX11_readCommand_55 lkX11_259 ?_
        have b0x : up2 J 351 20 (p + lkN s n p b) 362 b = bgS.getD b 0 := by rw [up2_ne (by omega)]; exact b0
        have b1x : up2 J 351 20 (p + lkN s n p b) 362 (b + 1) = bgS.getD (b + 1) 0 := by rw [up2_ne (by omega)]; exact b1
        refine J_aload_n 59 rfl dX11_readCommand_58 rfl ?_
        refine J_iload_n 60 rfl dX11_readCommand_59 rfl ?_
        refine J_aload_n 61 rfl dX11_readCommand_60 rfl ?_
        refine g_X11_begins0 64 rfl dX11_readCommand_61 lkX11_48 ?_
        refine J_iload_n 65 rfl dX11_readCommand_64 rfl ?_
        refine J_iconst 66 1 rfl dX11_readCommand_65 ic_1 ?_
        refine J_iadd 67 rfl dX11_readCommand_66 ?_
        refine J_iald 68 rfl dX11_readCommand_67 (sa_X11_begins0) (by omega) ?_
        refine J_cv (b := bgS.getD (b + 1) 0) b1x ?_
        refine J_aload_n 69 rfl dX11_readCommand_68 rfl ?_
        refine g_X11_begins0 72 rfl dX11_readCommand_69 lkX11_48 ?_
        refine J_iload_n 73 rfl dX11_readCommand_72 rfl ?_
        refine J_iald 74 rfl dX11_readCommand_73 (sa_X11_begins0) (by omega) ?_
        refine J_cv (b := bgS.getD b 0) b0x ?_
        refine J_isub 75 rfl dX11_readCommand_74 (by omega) ?_
        refine J_icmp_ge 82 78 (by decide) rfl dX11_readCommand_75 (by omega) (by omega) (fun c75 => ?_) (fun c75 => ?_)
        · refine J_iconst 83 0 rfl dX11_readCommand_82 ic_0 ?_
          refine p_X11_isWrong 86 (by omega) rfl dX11_readCommand_83 lkX11_265 ?_
          rw [mst_mk]
          refine J_aload_n 87 rfl dX11_readCommand_86 rfl ?_
          refine g_X11_isWrong 90 rfl dX11_readCommand_87 lkX11_265 ?_
          refine J_cv (b := 0) mst_w ?_
          refine J_if_ne 118 93 (by decide) rfl dX11_readCommand_90 (by omega) (fun c => absurd rfl c) (fun _ => ?_)
          refine J_aload_n 94 rfl dX11_readCommand_93 rfl ?_
          refine g_X11_commands 97 rfl dX11_readCommand_94 lkX11_51 ?_
          refine J_iload_n 98 rfl dX11_readCommand_97 rfl ?_
          refine J_iload_n 99 rfl dX11_readCommand_98 rfl ?_
          refine J_iast 100 rfl dX11_readCommand_99 (sa_X11_commands) (by omega) ?_
          rw [mst_a, up2_sR J 363]
          refine J_aload_n 101 rfl dX11_readCommand_100 rfl ?_
          refine J_dup 102 rfl dX11_readCommand_101 rfl ?_
          refine g_X11_commandMany 105 rfl dX11_readCommand_102 lkX11_289 ?_
          refine J_cv (b := c) (by rw [mst_o (by omega) (by omega), sR_ne (by omega)]; exact hc) ?_
          refine J_iconst 106 1 rfl dX11_readCommand_105 ic_1 ?_
          refine J_iadd 107 rfl dX11_readCommand_106 ?_
          refine p_X11_commandMany 110 rfl dX11_readCommand_107 lkX11_289 ?_
          rw [mst_b, up2_out (by omega)]
          refine J_aload_n 111 rfl dX11_readCommand_110 rfl ?_
          refine J_iload_n 112 rfl dX11_readCommand_111 rfl ?_
          refine J_iload_n 113 rfl dX11_readCommand_112 rfl ?_
          refine J_iconst 114 1 rfl dX11_readCommand_113 ic_1 ?_
          refine J_iadd 115 rfl dX11_readCommand_114 ?_
          refine J_callVvp (As := [_, _]) 118 _ rfl kalX11_readArguments lkX11_295 dX11_readCommand_115 (lt_X11) (so_X11) rfl rfl rfl (by exact Nat.le_of_ble_eq_true rfl) (by omega) (S_X11_readArguments t.many (by omega) hb (by omega)) (fun J115 q115 => ?_)
          refine J_vret rfl dX11_readCommand_118 ?_
          have eL : lkN s n p b = lnK b := by have := lkW_le (s := s) (n := n) (wdK b) p; unfold lkN lnK at *; omega
          have be := best.2 eL
          obtain ⟨C2, e2, lo, hv⟩ := q115
          have rf := rn_fit (s := s) (n := n) (rsK b) (p + lkN s n p b)
          rw [← eL] at be
          obtain ⟨R, eR⟩ : ∃ R, R = rnF s n (rsK b) 0 (p + lkN s n p b) := ⟨_, rfl⟩
          obtain ⟨F, eF⟩ : ∃ F, F = fitF s n (rsK b) (p + lkN s n p b) := ⟨_, rfl⟩
          rw [← eR] at rf hv e2
          rw [← eF] at rf be
          obtain ⟨rf1, rf2, rf3, rf4⟩ := rf
          have rc : Rc J J115 := by
            subst e2
            exact ⟨fun x x1 x2 => by rw [mst_ne x1, sR_ne x2, up2_ne x1], fun j j1 j2 j3 => by rw [mst_o j2 j3, sR_ne (by omega), up2_app, if_neg (fun z => j1 z.2)]⟩
          have g363 : J115 363 = C2 := by subst e2; rw [mst_ne (by omega), sR_at]
          have g22 : J115 351 22 = R.1 := by subst e2; exact mst_w
          have g20 : J115 351 20 = R.2.1 := by subst e2; exact mst_p
          have g19 : J115 351 19 = c + 1 := by subst e2; rw [mst_o (by omega) (by omega), sR_ne (by omega), up2_app, if_pos ⟨rfl, rfl⟩]
          have lo2 : ∀ j, j < 4 * c → J115 363 j = J 363 j := fun j hj => by rw [g363, lo j (by omega), up1_ne (by omega)]
          cases z : F.1 with
          | true =>
            have b2 := be.1 z
            refine ⟨rfl, RC_in b2.1 b2.2.1 b2.2.2 rc lo2 hb (by rw [g22]; exact rf1 z) (by rw [g20]; exact rf3) g19 (by rw [g363, lo _ (by omega), up1_app, if_pos rfl]) (fun j hj => ?_)⟩
            rw [g363, ← rf4 z]
            rw [← rf4 z] at hj
            exact hv j hj
          | false =>
            have b2 := be.2 z
            exact ⟨rfl, rc, lo2, Or.inr ⟨b2.1, by rw [g22]; exact rf2 z, by rw [g20, b2.2]; exact rf3⟩⟩
        · refine J_iconst 79 1 rfl dX11_readCommand_78 ic_1 ?_
          refine J_goto 83 (by decide) dX11_readCommand_79 ?_
          refine p_X11_isWrong 86 (by omega) rfl dX11_readCommand_83 lkX11_265 ?_
          rw [mst_mk]
          refine J_aload_n 87 rfl dX11_readCommand_86 rfl ?_
          refine g_X11_isWrong 90 rfl dX11_readCommand_87 lkX11_265 ?_
          refine J_cv (b := 1) mst_w ?_
          refine J_if_ne 118 93 (by decide) rfl dX11_readCommand_90 (by omega) (fun _ => ?_) (fun c => absurd c (by omega))
          refine J_vret rfl dX11_readCommand_118 ?_
          have be := best.1 (by omega)
          exact ⟨rfl, Rc.mst, fun j hj => by rw [mst_ne (by omega)], Or.inr ⟨be.1, mst_w, by rw [mst_p, be.2]⟩⟩
      · refine J_aload_n 18 rfl dX11_readCommand_17 rfl ?_
        refine J_iload_n 19 rfl dX11_readCommand_18 rfl ?_
        refine J_callVi (As := [_]) 22 _ rfl kalX11_likeness lkX11_292 dX11_readCommand_19 (lt_X11) (so_X11) rfl rfl rfl (by exact Nat.le_of_ble_eq_true rfl) (by omega) (S_X11_likeness t lt hp hl (by omega)) ?_
        refine J_aload_n 23 rfl dX11_readCommand_22 rfl ?_
        refine J_iload_n 24 rfl dX11_readCommand_23 rfl ?_
        refine J_callVi (As := [_]) 27 _ rfl kalX11_likeness lkX11_292 dX11_readCommand_24 (lt_X11) (so_X11) rfl rfl rfl (by exact Nat.le_of_ble_eq_true rfl) (by omega) (S_X11_likeness t lt hp hl hb) ?_
        refine J_icmp_le 34 30 (by decide) rfl dX11_readCommand_27 (by omega) (by omega) (fun c27 => ?_) (fun c27 => ?_)
        · refine J_iload_n 35 rfl dX11_readCommand_34 rfl ?_
          refine J_istore_n 36 rfl dX11_readCommand_35 rfl (Nat.le_of_ble_eq_true rfl) ?_
          refine J_iinc 39 1 rfl dX11_readCommand_36 ic_1 rfl (Nat.le_of_ble_eq_true rfl) ?_
          refine J_goto 11 (by decide) dX11_readCommand_39 ?_
          first
            | (have z : lkN s n p i ≤ lkN s n p b := by assumption
               refine ih _ (by omega) (i + 1) b rfl (by omega) hb (by omega) (fun k hk => ?_)
               by_cases e : k = i
               · rw [e]; exact z
               · exact hm k (by omega))
            | (have z : lkN s n p b < lkN s n p i := by assumption
               refine ih _ (by omega) (i + 1) i rfl (by omega) (by omega) (by omega) (fun k hk => ?_)
               by_cases e : k = i
               · rw [e]; exact Nat.le_refl _
               · have := hm k (by omega)
                 omega)
        · refine J_iload_n 31 rfl dX11_readCommand_30 rfl ?_
          refine J_goto 35 (by decide) dX11_readCommand_31 ?_
          refine J_istore_n 36 rfl dX11_readCommand_35 rfl (Nat.le_of_ble_eq_true rfl) ?_
          refine J_iinc 39 1 rfl dX11_readCommand_36 ic_1 rfl (Nat.le_of_ble_eq_true rfl) ?_
          refine J_goto 11 (by decide) dX11_readCommand_39 ?_
          first
            | (have z : lkN s n p i ≤ lkN s n p b := by assumption
               refine ih _ (by omega) (i + 1) b rfl (by omega) hb (by omega) (fun k hk => ?_)
               by_cases e : k = i
               · rw [e]; exact z
               · exact hm k (by omega))
            | (have z : lkN s n p b < lkN s n p i := by assumption
               refine ih _ (by omega) (i + 1) i rfl (by omega) (by omega) (by omega) (fun k hk => ?_)
               by_cases e : k = i
               · rw [e]; exact Nat.le_refl _
               · have := hm k (by omega)
                 omega)
  refine J_iconst 1 4 rfl dX11_readCommand_0 ic_4 ?_
  refine J_aload_n 2 rfl dX11_readCommand_1 rfl ?_
  refine g_X11_commandMany 5 rfl dX11_readCommand_2 lkX11_289 ?_
  refine J_cv (b := c) hc ?_
  refine J_imul 6 rfl dX11_readCommand_5 ?_
  refine J_istore_n 7 rfl dX11_readCommand_6 rfl (Nat.le_of_ble_eq_true rfl) ?_
  refine J_iconst 8 0 rfl dX11_readCommand_7 ic_0 ?_
  refine J_istore_n 9 rfl dX11_readCommand_8 rfl (Nat.le_of_ble_eq_true rfl) ?_
  refine J_iconst 10 1 rfl dX11_readCommand_9 ic_1 ?_
  refine J_istore_n 11 rfl dX11_readCommand_10 rfl (Nat.le_of_ble_eq_true rfl) ?_
  exact loop _ 1 0 rfl (by omega) (by omega) (by omega) (fun k hk => by rw [show k = 0 by omega]; exact Nat.le_refl _)

