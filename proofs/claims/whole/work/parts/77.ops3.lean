/-! THE LAW: lineAt, meanOil, vigilShare, setAble (laid by wip/whole/src/p77.py) -/
theorem op_50 {g : Gn} {S : State → Prop} {b Ln i kc ks B : Nat} {xs : Nat → Int32} {J : DJ} (hS : ScrS g S b Ln xs) (hi : i + 3 < Ln) (h : LI J B) (hB : B + 39000 < 40000000) (hkc : 34 ≤ kc) (hks : 204 ≤ ks) (next : ∀ J2, LI J2 (B + 39000) → TJ g S (kc - 34) (ks - 204) 3074 (LL g b i) [] J2) : TJ g S kc ks 2796 (LL g b i) [] J := by
  have hw := h.1.2.1
  have c40 := h.1.2.2.2.2.2
  obtain ⟨l, l1, l2, l3, l4⟩ := h.2.2.2.2.2
  obtain ⟨a1, h1, e1⟩ := nI_all (xs (i + 1))
  refine T_aload_n 2797 rfl dL_law_2796 rfl ?_
  refine TJ_arg 1 hS dL_law_2797 dL_law_2798 dL_law_2800 dL_law_2801 dL_law_2802 (by omega) hi rfl rfl ?_
  rw [e1]
  refine T_aload_n 2804 rfl dL_law_2803 rfl ?_
  refine TJ_callW (As := [_, _, _]) kalL_lineAt lkL_332 dL_law_2804 rfl rfl (by exact Nat.le_of_ble_eq_true rfl) (by omega) (by omega) (WL_lineAt (S_X10_lineAt h1 l1 l3 l4) (by omega) (by omega) (by omega) (fun v J' q => ⟨_, q.2.1⟩) (fun E J' q => by obtain ⟨f0, ee, -⟩ := q; rw [ee]; revert f0; (repeat' split) <;> first | (intro z; exact absurd rfl z) | (intro _; decide +kernel))) (fun v J1 w => ?_)
  obtain ⟨c, ev, wz⟩ := WP_any w
  subst ev
  have kk : ∀ a, 351 ≤ a → a ≠ 365 → a ≠ 366 → J1 a = J a := by
    intro a h1 h2 h3
    rcases wz with ⟨-, -, -, Jc, u, wr, e⟩ | ⟨-, -, kq⟩
    · rw [e, up2_ne (by omega), wr]
    · exact kq.1 a (by omega)
  refine T_istore 2809 rfl dL_law_2807 (by decide) ?_
  refine T_aload_n 2810 rfl dL_law_2809 rfl ?_
  refine TJ_arg 1 hS dL_law_2810 dL_law_2811 dL_law_2813 dL_law_2814 dL_law_2815 (by omega) hi rfl rfl ?_
  rw [e1]
  have hm := S_X11_lineAt (g := g) (J := J1) (l := l) h1 (by unfold LnM; rw [kk 351 (by omega) (by omega) (by omega), kk 364 (by omega) (by omega) (by omega)]; exact l2) (by omega) l4
  refine TJ_callM (As := [_]) 351 kalX11_lineAt lkL_334 dL_law_2816 (by omega) rfl rfl rfl rfl (by exact Nat.le_of_ble_eq_true rfl) (by omega) (Nat.zero_le _) (Nat.zero_le _) hm (fun v J2 q => ?_)
  obtain ⟨r, ev2, qq⟩ : ∃ r, v = some (.int (nI r)) ∧ ((a1 < l.length ∧ r = l.getD a1 0 ∧ MNo J1 J2 0) ∨ (¬ a1 < l.length ∧ MNo J1 J2 1)) := by
    rcases q with ⟨d1, d2, d3⟩ | ⟨d1, ⟨x, d2, -⟩, d3⟩
    · exact ⟨_, d2, Or.inl ⟨d1, rfl, d3⟩⟩
    · exact ⟨x, d2, Or.inr ⟨d1, d3⟩⟩
  subst ev2
  refine T_istore 2821 rfl dL_law_2819 (by decide) ?_
  have fin : LI J2 (B + 39000) ∧ J2 351 8 = c ∧ c < 10 ∧ (c = 0 → Int64.ofNat (J2 365 0) = (nI r).toInt64) := by
    rcases wz with ⟨b1, b2, b3, Jc, u, wr, e⟩ | ⟨b1, b2, kq⟩
    · rcases qq with ⟨d1, d2, mn⟩ | ⟨d1, mn⟩
      · subst wr
        subst e
        exact ⟨LI_le (LI_q h (Kq.out Sc.refl) mn) (by omega) hB, by rw [mn.2.2, b2], by omega, fun _ => by rw [mn.1 365 (by omega), b3, d2]⟩
      · rw [if_neg d1] at b1; omega
    · rcases qq with ⟨d1, d2, mn⟩ | ⟨d1, mn⟩
      · rw [if_pos d1] at b1; omega
      · rw [if_neg d1, cd_all.2.2.1] at b2
        exact ⟨LI_le (LI_q h kq mn) (by omega) hB, by rw [mn.2.2, b2], by omega, fun z => by omega⟩
  exact TJ_tail ⟨dL_law_2821, dL_law_2822, dL_law_2825, dL_law_2827, dL_law_2832, dL_law_2834, dL_law_2837, dL_law_2838, dL_law_2839, dL_law_2840, dL_law_2842, dL_law_2843, dL_law_2844, dL_law_2849, by decide⟩ fin.2.1 fin.2.2.1 fin.2.2.2 (T_more (by omega) (by omega) (next J2 fin.1))
theorem T_sub {u : Un} {y : MI} {S : State → Prop} {d kc ks pc : Nat} {L L2 : List (Nat × Value)} {st : List Value} {ws : va_W} {Q : Option Value → va_W → Prop} {X : String → va_W → Prop} (hL : ∀ q, q ∈ L2 → q ∈ L) (k : VS u y S d kc ks Q X pc L2 st ws) : VS u y S d kc ks Q X pc L st ws := by
  intro p e R s m args below meth c H locs cells slots ls C s0 q1 q2 q3 q4 hw hS hl
  exact k p e R s m args below meth c H locs cells slots ls C s0 q1 q2 q3 q4 hw hS ⟨hl.1, hl.2.1, fun q hq => hl.2.2 q (hL q hq)⟩
theorem f2d_8 : ∀ r, r < 9 → vf_n64 (FP.f2d (FP.fdiv (FP.i2f (nI r)) 1090519040)) := by unfold vf_n64; decide +kernel
theorem op_52 {g : Gn} {S : State → Prop} {b Ln i kc ks B : Nat} {xs : Nat → Int32} {J : DJ} (hS : ScrS g S b Ln xs) (hi : i + 3 < Ln) (h : LI J B) (hB : B + 39000 < 40000000) (hkc : 34 ≤ kc) (hks : 204 ≤ ks) (next : ∀ J2, LI J2 (B + 39000) → TJ g S (kc - 34) (ks - 204) 3074 (LL g b i) [] J2) : TJ g S kc ks 2917 (LL g b i) [] J := by
  have hw := h.1.2.1
  have r8 := rW_le (fvig (J 352)) 8 0
  have nn := f2d_8 (rW (fvig (J 352)) 8 0) (by omega)
  refine T_aload_n 2918 rfl dL_law_2917 rfl ?_
  refine TJ_callM (As := []) 0 kalX10_vigilShare lkL_339 dL_law_2918 (by omega) rfl rfl rfl rfl (by exact Nat.le_of_ble_eq_true rfl) (by omega) (by omega) (by omega) (S_X10_vigilShare h.1) (fun v J1 q => ?_)
  obtain ⟨rfl, sc⟩ := q
  have kq := Kq.sc sc
  have e52 : J1 352 = J 352 := kq.1 352 (by omega)
  refine T_f2d 2922 rfl dL_law_2921 nn ?_
  refine T_dstore 2924 rfl dL_law_2922 (by decide) ?_
  refine T_aload_n 2925 rfl dL_law_2924 rfl ?_
  have hm := S_X11_vigilShare (g := g) (J := J1) (f := J 352) hw
  rw [LI_f h e52] at hm
  refine TJ_callM (As := []) 351 kalX11_vigilShare lkL_343 dL_law_2925 (by omega) rfl rfl rfl rfl (by exact Nat.le_of_ble_eq_true rfl) (by omega) (Nat.zero_le _) (Nat.zero_le _) hm (fun v J2 q => ?_)
  obtain ⟨rfl, mn⟩ := q
  refine T_f2d 2929 rfl dL_law_2928 nn ?_
  refine T_dstore 2931 rfl dL_law_2929 (by decide) ?_
  have fin : ∀ L, (∀ q, q ∈ LL g b i → q ∈ L) → TJ g S (kc - 0 - 0) (ks - 0 - 0) 2957 L [] J2 := fun L hL => by
    refine T_goto 3074 (by decide) dL_law_2957 ?_
    exact T_sub hL (T_more (by omega) (by omega) (next J2 (LI_le (LI_q h kq mn) (by omega) hB)))
  have hL : ∀ q, q ∈ LL g b i → q ∈ ((8, Value.double (FP.f2d (FP.fdiv (FP.i2f (nI (rW (fvig (J 352)) 8 0))) 1090519040))) :: ((6, Value.double (FP.f2d (FP.fdiv (FP.i2f (nI (rW (fvig (J 352)) 8 0))) 1090519040))) :: (LL g b i))) := fun q hq => List.mem_cons_of_mem _ (List.mem_cons_of_mem _ hq)
  refine T_dload 2933 rfl dL_law_2931 rfl ?_
  refine T_dload 2935 rfl dL_law_2933 rfl ?_
  refine T_dcmp 2936 rfl dL_law_2935 ?_
  refine T_if_eq 2957 2939 (by decide) rfl dL_law_2936 (fun _ => fin _ hL) (fun z => ?_)
  refine T_dload 2941 rfl dL_law_2939 rfl ?_
  refine T_dload 2943 rfl dL_law_2941 rfl ?_
  refine T_dcmp 2944 rfl dL_law_2943 ?_
  refine T_if_eq 2955 2947 (by decide) rfl dL_law_2944 (fun y => absurd y z) (fun _ => ?_)
  refine T_dload 2949 rfl dL_law_2947 rfl ?_
  refine T_dload 2951 rfl dL_law_2949 rfl ?_
  refine T_dcmp 2952 rfl dL_law_2951 ?_
  exact T_if_ne 2957 2955 (by decide) rfl dL_law_2952 (fun _ => fin _ hL) (fun y => absurd y z)
theorem op_51 {g : Gn} {S : State → Prop} {b Ln i kc ks B : Nat} {xs : Nat → Int32} {J : DJ} (hS : ScrS g S b Ln xs) (hi : i + 3 < Ln) (h : LI J B) (hB : B + 39000 < 40000000) (hkc : 34 ≤ kc) (hks : 204 ≤ ks) (next : ∀ J2, LI J2 (B + 39000) → TJ g S (kc - 34) (ks - 204) 3074 (LL g b i) [] J2) : TJ g S kc ks 2852 (LL g b i) [] J := by
  have hw := h.1.2.1
  have c40 := h.1.2.2.2.2.2
  obtain ⟨xd, ex⟩ : ∃ xd, xd = FP.ddiv (FP.i2d (nI (allOil (J 352)))) (FP.i2d (nI (cnt (J 352)))) := ⟨_, rfl⟩
  refine T_aload_n 2853 rfl dL_law_2852 rfl ?_
  refine T_aload 2855 rfl dL_law_2853 rfl ?_
  refine TJ_callW (As := [_, _]) kalL_meanOil lkL_335 dL_law_2855 rfl rfl (by exact Nat.le_of_ble_eq_true rfl) (by omega) (by omega) (WL_meanOil (S_X10_meanOil h.1) (by omega) (by omega) (by omega) (fun v J' q => ⟨_, q.2.1⟩) (fun E J' q => by rw [q.2.1]; decide +kernel)) (fun v J1 w => ?_)
  obtain ⟨c, ev, kq, wz⟩ : ∃ c, v = some (.int (nI c)) ∧ Kq J J1 ∧ ((0 < cnt (J 352) ∧ c = 0 ∧ UInt64.ofNat (J1 366 0) = xd) ∨ (cnt (J 352) = 0 ∧ c = 1)) := by
    rcases w with ⟨Ja, r, ⟨d1, d2, d3⟩, ev, e⟩ | ⟨E, ⟨d1, d2, d3⟩, hm, ev⟩
    · have e2 : r = xd := by rw [ex]; exact Value.double.inj (Option.some.inj d2)
      refine ⟨0, ev, ?_, Or.inl ⟨d1, rfl, ?_⟩⟩
      · rw [e, d3]; exact ⟨fun c hc => up2_ne (by omega), by rw [up2_ne (by omega)]⟩
      · rw [e, up2_app, if_pos ⟨rfl, rfl⟩, UInt64.ofNat_toNat, e2]
    · subst d2
      exact ⟨1, by rw [ev]; decide +kernel, by rw [d3]; exact ⟨fun _ _ => rfl, rfl⟩, Or.inr ⟨d1, rfl⟩⟩
  subst ev
  have e52 : J1 352 = J 352 := kq.1 352 (by omega)
  refine T_istore 2860 rfl dL_law_2858 (by decide) ?_
  refine T_aload_n 2861 rfl dL_law_2860 rfl ?_
  have hm := S_X11_meanOil (g := g) (J := J1) (f := J 352) hw (by omega)
  rw [LI_f h e52] at hm
  refine TJ_callM (As := []) 351 kalX11_meanOil lkL_338 dL_law_2861 (by omega) rfl rfl rfl rfl (by exact Nat.le_of_ble_eq_true rfl) (by omega) (Nat.zero_le _) (Nat.zero_le _) hm (fun v J2 q => ?_)
  obtain ⟨y, ev2, mn, hc, h10, h0⟩ : ∃ y, v = some (.double y) ∧ (∃ p, MNo J1 J2 p) ∧ J2 351 8 = c ∧ c < 10 ∧ (c = 0 → UInt64.ofNat (J2 366 0) = y) := by
    rcases q with ⟨d1, d2, mn⟩ | ⟨d1, ⟨y, d2⟩, mn⟩
    · rcases wz with ⟨b1, b2, b3⟩ | ⟨b1, b2⟩
      · exact ⟨_, d2, ⟨_, mn⟩, by rw [mn.2.2, b2], by omega, fun _ => by rw [mn.1 366 (by omega), b3, ex]⟩
      · omega
    · rcases wz with ⟨b1, b2, b3⟩ | ⟨b1, b2⟩
      · omega
      · exact ⟨y, d2, ⟨_, mn⟩, by rw [mn.2.2, b2], by omega, fun z => by omega⟩
  subst ev2
  obtain ⟨pp, mn⟩ := mn
  refine T_dstore 2866 rfl dL_law_2864 (by decide) ?_
  have fin : ∀ L, (∀ q, q ∈ LL g b i → q ∈ L) → TJ g S (kc - 1 - 0) (ks - 6 - 0) 2914 L [] J2 := fun L hL => by
    refine T_goto 3074 (by decide) dL_law_2914 ?_
    exact T_sub hL (T_more (by omega) (by omega) (next J2 (LI_le (LI_q h kq mn) (by omega) hB)))
  have hL : ∀ q, q ∈ LL g b i → q ∈ ((7, Value.double y) :: (LL g b i ++ [(6, Value.int (nI c))])) := fun q hq => List.mem_cons_of_mem _ (List.mem_append_left _ hq)
  refine T_aload_n 2867 rfl dL_law_2866 rfl ?_
  refine TJ_callM (As := []) 351 kalX11_thrown lkL_166 dL_law_2867 (by omega) rfl rfl rfl rfl (by exact Nat.le_of_ble_eq_true rfl) (by omega) (Nat.zero_le _) (Nat.zero_le _) S_X11_thrown (fun v J' q => ?_)
  obtain ⟨e1, e2⟩ := q
  subst e2
  rw [e1, hc]
  refine T_iload 2872 rfl dL_law_2870 rfl ?_
  refine T_icmp_eq 2877 2875 (by decide) rfl dL_law_2872 (fun _ => ?_) (fun q => absurd rfl q)
  refine T_iload 2879 rfl dL_law_2877 rfl ?_
  refine T_if_ne 2914 2882 (by decide) rfl dL_law_2879 (fun _ => fin _ hL) (fun q => ?_)
  have c0 : c = 0 := by
    rw [← nI_0] at q
    have := congrArg Int32.toInt q
    rw [nI_toInt (by omega), nI_toInt (by omega)] at this
    omega
  have hy := h0 c0
  have dl : ∀ (st : List Value) (pc pc2 : Nat) (L : List (Nat × Value)), pc + 1 = pc2 → decode cL_law pc = .ok (.daload, 1) → TJ g S (kc - 1 - 0 - 0) (ks - 6 - 0 - 0) pc2 L (.double y :: st) J' → TJ g S (kc - 1 - 0 - 0) (ks - 6 - 0 - 0) pc L (.int (nI 0) :: .ref (g.2 366) :: st) J' := fun st pc pc2 L hp hd k => by
    refine T_dald pc2 hp hd ((wd_get g _ (show 366 < 367 by omega)).trans (by rw [celR_d (k := 366) (N := 1) rfl])) (vp_in_nI (by omega) (by omega)) ?_
    rw [nI_clamp (by omega), hy]
    exact k
  refine T_aload 2884 rfl dL_law_2882 rfl ?_
  refine T_iconst 2885 (nI 0) rfl dL_law_2884 ic_0 ?_
  refine dl _ 2885 2886 _ rfl dL_law_2885 ?_
  refine T_dload 2888 rfl dL_law_2886 rfl ?_
  refine T_dcmp 2889 rfl dL_law_2888 ?_
  refine T_if_eq 2914 2892 (by decide) rfl dL_law_2889 (fun _ => fin _ hL) (fun z => ?_)
  refine T_aload 2894 rfl dL_law_2892 rfl ?_
  refine T_iconst 2895 (nI 0) rfl dL_law_2894 ic_0 ?_
  refine dl _ 2895 2896 _ rfl dL_law_2895 ?_
  refine T_aload 2898 rfl dL_law_2896 rfl ?_
  refine T_iconst 2899 (nI 0) rfl dL_law_2898 ic_0 ?_
  refine dl _ 2899 2900 _ rfl dL_law_2899 ?_
  refine T_dcmp 2901 rfl dL_law_2900 ?_
  refine T_if_eq 2912 2904 (by decide) rfl dL_law_2901 (fun y => absurd y z) (fun _ => ?_)
  refine T_dload 2906 rfl dL_law_2904 rfl ?_
  refine T_dload 2908 rfl dL_law_2906 rfl ?_
  refine T_dcmp 2909 rfl dL_law_2908 ?_
  exact T_if_ne 2914 2912 (by decide) rfl dL_law_2909 (fun _ => fin _ hL) (fun y => absurd y z)
theorem op_29 {g : Gn} {S : State → Prop} {b Ln i kc ks B : Nat} {xs : Nat → Int32} {J : DJ} (hS : ScrS g S b Ln xs) (hi : i + 3 < Ln) (h : LI J B) (hB : B + 39000 < 40000000) (hkc : 34 ≤ kc) (hks : 204 ≤ ks) (next : ∀ J2, LI J2 (B + 39000) → TJ g S (kc - 34) (ks - 204) 3074 (LL g b i) [] J2) : TJ g S kc ks 1939 (LL g b i) [] J := by
  have hw := h.1.2.1
  have c40 := h.1.2.2.2.2.2
  obtain ⟨a1, h1, e1⟩ := nI_all (xs (i + 1))
  obtain ⟨a2, h2, e2⟩ := nI_all (xs (i + 2))
  obtain ⟨bb, hb2, hb0, hb1⟩ : ∃ bb, bb < 2 ∧ (xs (i + 3) = 0 → bb = 0) ∧ (¬ xs (i + 3) = 0 → bb = 1) := by
    by_cases z : xs (i + 3) = 0
    · exact ⟨0, by omega, fun _ => rfl, fun y => absurd z y⟩
    · exact ⟨1, by omega, fun y => absurd y z, fun _ => rfl⟩
  refine T_aload_n 1940 rfl dL_law_1939 rfl ?_
  refine TJ_arg 1 hS dL_law_1940 dL_law_1941 dL_law_1943 dL_law_1944 dL_law_1945 (by omega) hi rfl rfl ?_
  rw [e1]
  refine TJ_arg 2 hS dL_law_1946 dL_law_1947 dL_law_1949 dL_law_1950 dL_law_1951 (by omega) hi rfl rfl ?_
  rw [e2]
  refine TJ_arg 3 hS dL_law_1952 dL_law_1953 dL_law_1955 dL_law_1956 dL_law_1957 (by omega) hi rfl rfl ?_
  have rest : TJ g S kc ks 1966 (LL g b i) [.int (nI bb), .int (nI a2), .int (nI a1), .ref (g.2 0)] J := by
    refine T_aload_n 1967 rfl dL_law_1966 rfl ?_
    refine TJ_callW (As := [_, _, _, _, _]) kalL_setAble lkL_259 dL_law_1967 rfl rfl (by exact Nat.le_of_ble_eq_true rfl) (by omega) (by omega) (WL_setAble (S_X10_setAble h.1 h1 h2 hb2) (by omega) (by omega) (by omega) (fun v J' q => ⟨_, by split <;> omega, q.2.1⟩) (fun E J' q => by obtain ⟨f0, ee, -⟩ := q; rw [ee]; revert f0; unfold fAble; (repeat' split) <;> first | (intro z; exact absurd rfl z) | (intro _; decide +kernel))) (fun v J1 w => ?_)
    obtain ⟨c, ev, wq⟩ := WP_c w
    subst ev
    have e52 : J1 352 = J 352 := WC_k wq 352 (by omega) (by omega) (by omega)
    refine T_istore 1972 rfl dL_law_1970 (by decide) ?_
    refine T_aload_n 1973 rfl dL_law_1972 rfl ?_
    refine TJ_arg 1 hS dL_law_1973 dL_law_1974 dL_law_1976 dL_law_1977 dL_law_1978 (by omega) hi rfl rfl ?_
    rw [e1]
    refine TJ_arg 2 hS dL_law_1979 dL_law_1980 dL_law_1982 dL_law_1983 dL_law_1984 (by omega) hi rfl rfl ?_
    rw [e2]
    refine TJ_arg 3 hS dL_law_1985 dL_law_1986 dL_law_1988 dL_law_1989 dL_law_1990 (by omega) hi rfl rfl ?_
    have rest2 : TJ g S (kc - 1) (ks - 6) 1999 (LL g b i ++ [(6, .int (nI c))]) [.int (nI bb), .int (nI a2), .int (nI a1), .ref (g.2 351)] J1 := by
      have hm := S_X11_setAble (g := g) (J := J1) (B := B) (by rw [e52]; exact hw) (by omega) (by rw [WC_k wq 351 (by omega) (by omega) (by omega)]; exact h.1.2.2.1.2.1) h1 h2 hb2
      rw [e52] at hm
      refine TJ_callM (As := [_, _, _]) 351 kalX11_setAble lkL_262 dL_law_1999 (by omega) rfl rfl rfl rfl (by exact Nat.le_of_ble_eq_true rfl) (by omega) (Nat.zero_le _) (Nat.zero_le _) hm (fun v J2 q => ?_)
      obtain ⟨r, ev2, qq⟩ : ∃ r, v = some (.int (nI r)) ∧ ((fAble (J 352) a1 a2 = 0 ∧ r = (if (J 352 (215 + a1)).testBit a2 then 1 else 0) ∧ MCh J1 J2 (xAble (J 352) a1 a2 bb)) ∨ (fAble (J 352) a1 a2 ≠ 0 ∧ MNo J1 J2 (fAble (J 352) a1 a2))) := by
        rcases q with ⟨d1, d2, d3⟩ | ⟨d1, ⟨x, d2⟩, d3⟩
        · refine ⟨_, d2, Or.inl ⟨d1, ?_, d3⟩⟩
          by_cases z : (J 352 (215 + a1)).testBit a2 = true
          · rw [if_pos z]; exact bt_t rfl
          · rw [if_neg z]; exact bt_f (by omega)
        · exact ⟨x, d2, Or.inr ⟨d1, d3⟩⟩
      subst ev2
      have fin0 : LI J2 (B + 3000) ∧ J2 351 8 = c ∧ c < 10 ∧ (c = 0 → Int64.ofNat (J2 365 0) = (nI r).toInt64 ∧ r < 2) := by
        have q2 : (fAble (J 352) a1 a2 = 0 ∧ r = (if (J 352 (215 + a1)).testBit a2 then 1 else 0) ∧ MCh J1 J2 (xAble (J 352) a1 a2 bb)) ∨ (fAble (J 352) a1 a2 ≠ 0 ∧ 4294967295 = 4294967295 ∧ MNo J1 J2 (fAble (J 352) a1 a2)) := qq.elim Or.inl (fun z => Or.inr ⟨z.1, rfl, z.2⟩)
        rcases q2 with q3 | q3
        · have z := C_fin (p := fAble (J 352) a1 a2) (r := r) h wq (Or.inl q3) (fun y => WF_le (xAble_WF hw (fAble_0 y).1 (fAble_0 y).2) (by omega)) (by omega) (fun y => absurd q3.1 y)
          refine ⟨z.1, z.2.1, z.2.2.1, fun c0 => ⟨z.2.2.2 c0, ?_⟩⟩
          rw [q3.2.1]
          split <;> omega
        · have f1 : fAble (J 352) a1 a2 = 1 := by
            have := q3.1
            revert this
            unfold fAble
            (repeat' split) <;> (intro y; first | rfl | exact absurd rfl y)
          have z := C_fin (p := fAble (J 352) a1 a2) (r := 4294967295) h wq (Or.inr q3) (fun y => absurd y q3.1) (by omega) (fun y => by rw [f1]; exact ⟨cd_all.2.2.1, by omega, by omega⟩)
          refine ⟨z.1, z.2.1, z.2.2.1, fun c0 => ?_⟩
          exfalso
          rcases wq with ⟨y, -⟩ | ⟨-, y, -⟩
          · exact q3.1 y
          · rw [f1, cd_all.2.2.1] at y; omega
      refine T_istore 2004 rfl dL_law_2002 (by decide) ?_
      have fin : ∀ L, (∀ q, q ∈ LL g b i → q ∈ L) → TJ g S (kc - 1 - 0 - 0) (ks - 6 - 0 - 0) 2039 L [] J2 := fun L hL => by
        refine T_goto 3074 (by decide) dL_law_2039 ?_
        exact T_sub hL (T_more (by omega) (by omega) (next J2 (LI_le fin0.1 (by omega) hB)))
      have hL : ∀ q, q ∈ LL g b i → q ∈ (LL g b i ++ [(6, Value.int (nI c)), (7, Value.int (nI r))]) := fun q hq => List.mem_append_left _ hq
      refine T_aload_n 2005 rfl dL_law_2004 rfl ?_
      refine TJ_callM (As := []) 351 kalX11_thrown lkL_166 dL_law_2005 (by omega) rfl rfl rfl rfl (by exact Nat.le_of_ble_eq_true rfl) (by omega) (Nat.zero_le _) (Nat.zero_le _) S_X11_thrown (fun v J' q => ?_)
      obtain ⟨t1, t2⟩ := q
      subst t2
      rw [t1, fin0.2.1]
      have h10 := fin0.2.2.1
      refine T_iload 2010 rfl dL_law_2008 rfl ?_
      refine T_icmp_eq 2015 2013 (by decide) rfl dL_law_2010 (fun _ => ?_) (fun q => absurd rfl q)
      refine T_iload 2017 rfl dL_law_2015 rfl ?_
      refine T_if_ne 2039 2020 (by decide) rfl dL_law_2017 (fun _ => fin _ hL) (fun q => ?_)
      have c0 : c = 0 := by
        rw [← nI_0] at q
        have := congrArg Int32.toInt q
        rw [nI_toInt (by omega), nI_toInt (by omega)] at this
        omega
      have hy := fin0.2.2.2 c0
      refine T_aload_n 2021 rfl dL_law_2020 rfl ?_
      refine T_iconst 2022 (nI 0) rfl dL_law_2021 ic_0 ?_
      refine T_lald 2023 rfl dL_law_2022 ((wd_get g _ (show 365 < 367 by omega)).trans (by rw [celR_l (k := 365) (N := 1) rfl])) (vp_in_nI (by omega) (by omega)) ?_
      rw [nI_clamp (by omega), hy.1]
      refine T_iload 2025 rfl dL_law_2023 rfl ?_
      rcases (show r = 0 ∨ r = 1 by omega) with z | z
      · subst z
        refine T_if_eq 2032 2028 (by decide) rfl dL_law_2025 (fun _ => ?_) (fun y => absurd rfl y)
        refine T_lconst 2033 _ rfl dL_law_2032 rfl ?_
        refine T_lcmp 2034 rfl dL_law_2033 ?_
        exact T_if_eq 2039 2037 (by decide) rfl dL_law_2034 (fun _ => fin _ hL) (fun y => absurd ((lg_cmp_eq _ _).mpr (by decide)) y)
      · subst z
        refine T_if_eq 2032 2028 (by decide) rfl dL_law_2025 (fun y => absurd y (by decide)) (fun _ => ?_)
        refine T_lconst 2029 _ rfl dL_law_2028 rfl ?_
        refine T_goto 2033 (by decide) dL_law_2029 ?_
        refine T_lcmp 2034 rfl dL_law_2033 ?_
        exact T_if_eq 2039 2037 (by decide) rfl dL_law_2034 (fun _ => fin _ hL) (fun y => absurd ((lg_cmp_eq _ _).mpr (by decide)) y)
    refine T_if_eq 1998 1994 (by decide) rfl dL_law_1991 (fun z => ?_) (fun z => ?_)
    · refine T_iconst 1999 (nI 0) rfl dL_law_1998 ic_0 ?_
      have hb := hb0 z
      subst hb
      exact rest2
    · refine T_iconst 1995 (nI 1) rfl dL_law_1994 ic_1 ?_
      refine T_goto 1999 (by decide) dL_law_1995 ?_
      have hb := hb1 z
      subst hb
      exact rest2
  refine T_if_eq 1965 1961 (by decide) rfl dL_law_1958 (fun z => ?_) (fun z => ?_)
  · refine T_iconst 1966 (nI 0) rfl dL_law_1965 ic_0 ?_
    have hb := hb0 z
    subst hb
    exact rest
  · refine T_iconst 1962 (nI 1) rfl dL_law_1961 ic_1 ?_
    refine T_goto 1966 (by decide) dL_law_1962 ?_
    have hb := hb1 z
    subst hb
    exact rest
