/-! THE LAW: its rows (laid by wip/whole/src/p74.py) -/
abbrev mL_law : MI := (yL_law, cL_law, 10, some .boolean)
/-- the law's body, at data -/
abbrev TJ (g : Gn) (S : State → Prop) (kc ks pc : Nat) (L : List (Nat × Value)) (st : List Value) (J : DJ) : Prop := VS g.1 mL_law S 30 kc ks (fun v _ => v = some (.int (nI 1))) (fun _ _ => False) pc L st (wd g J)
def ScrS (g : Gn) (S : State → Prop) (b Ln : Nat) (xs : Nat → Int32) : Prop := (∀ s, S s → va_X b Ln xs s s.heap ∧ b < s.heap.size ∧ ¬ uA g.1 b) ∧ Ln ≤ 2048
def LL (g : Gn) (b i : Nat) : List (Nat × Value) := [(0, .ref b), (1, .ref (g.2 0)), (2, .ref (g.2 351)), (3, .ref (g.2 365)), (4, .ref (g.2 366)), (5, .int (nI i))]
theorem nI_all (x : Int32) : ∃ a, a < 4294967296 ∧ x = nI a := ⟨x.toUInt32.toNat, x.toUInt32.toNat_lt, by
  show x = (⟨UInt32.ofNat x.toUInt32.toNat⟩ : Int32)
  rw [UInt32.ofNat_toNat]⟩
section TJR
variable {g : Gn} {S : State → Prop} {kc ks pc : Nat} {L : List (Nat × Value)} {st : List Value} {J : DJ}
theorem TJ_arg {b Ln i : Nat} {xs : Nat → Int32} (k : Nat) (hS : ScrS g S b Ln xs) (d0 : decode cL_law pc = .ok (.aload_n 0, 1)) (d1 : decode cL_law (pc + 1) = .ok (.iload 5, 2)) (d2 : decode cL_law (pc + 3) = .ok (.iconst (k : Int), 1)) (d3 : decode cL_law (pc + 4) = .ok (.iadd, 1)) (d4 : decode cL_law (pc + 5) = .ok (.iaload, 1)) (hk : k ≤ 3) (hi : i + 3 < Ln) (l0 : lkL L 0 = some (.ref b)) (l5 : lkL L 5 = some (.int (nI i))) (h : TJ g S kc ks (pc + 6) L (.int (xs (i + k)) :: st) J) : TJ g S kc ks pc L st J := by
  have h2 := hS.2
  refine T_aload_n (pc + 1) rfl d0 l0 ?_
  refine T_iload (pc + 3) rfl d1 l5 ?_
  refine T_iconst (pc + 4) (nI k) rfl d2 rfl ?_
  refine T_iadd (pc + 5) rfl d3 ?_
  rw [nI_add]
  refine T_sld (pc + 6) rfl d4 hS.1 (vp_in_nI (by omega) (by omega)) ?_
  rw [nI_clamp (by omega)]
  exact h
theorem TJ_callM {z : MI} {n idx ci N : Nat} {T : u_T} {sl : List (Option Nat)} {st0 As : List Value} {Q' : Option Value → DJ → Prop} {d' kc' ks' : Nat} (b : Nat) (k : CalV z n) (hl : Cond.methodLink RL idx z.1 ∈ WALL) (hd : decode cL_law pc = .ok (.invokevirtual idx, 3)) (hb : b < 367) (hs : shp b = .inr (ci, sl)) (hc : vwCl[ci]? = some (z.1.cls, T, N)) (hn : As.length = n) (hst : st0 = As.reverse ++ .ref (g.2 b) :: st) (hcat : (st.map fun v => v.category).sum ≤ 8) (hdd : d' + 1 ≤ 30) (hkc : kc' ≤ kc) (hks : ks' ≤ ks) (hSem : SJ g z d' kc' ks' (.ref (g.2 b) :: As) J Q' NoX)
    (kr : ∀ (v : Option Value) (J' : DJ), Q' v J' → TJ g S (kc - kc') (ks - ks') (pc + 3) L (v.toList ++ st) J') : TJ g S kc ks pc L st0 J :=
  T_callV rfl k hl hd hSem ((wd_get g J hb).trans (by rw [celR_obj hs])) hc hn hst hcat hdd hkc hks (fun E ws ⟨J', e, q⟩ => absurd q id) (fun v ws ⟨J', e, q⟩ => by rw [e]; exact kr v J' q)
theorem TJ_callW {z : MI} {hh : HH} {n idx : Nat} {st0 As : List Value} {Q' : Option Value → DJ → Prop} (k : CalH z hh n) (hl : Cond.methodLink RL idx z.1 ∈ WALL) (hd : decode cL_law pc = .ok (.invokestatic idx, 3)) (hn : As.length = n) (hst : st0 = As.reverse ++ st) (hcat : (st.map fun v => v.category).sum ≤ 8) (hkc : 1 ≤ kc) (hks : 6 ≤ ks) (hSem : SHJ g z hh 17 1 6 As J Q')
    (kr : ∀ (v : Option Value) (J' : DJ), Q' v J' → TJ g S (kc - 1) (ks - 6) (pc + 3) L (v.toList ++ st) J') : TJ g S kc ks pc L st0 J :=
  T_callH rfl k hl hd hSem hn hst hcat (by omega) hkc hks (fun v ws ⟨J', e, q⟩ => by rw [e]; exact kr v J' q)
/-- the comparing that ends a step -/
def TailAt (t : Nat) (off : Int) : Prop := decode cL_law t = .ok (.aload_n 2, 1) ∧ decode cL_law (t + 1) = .ok (.invokevirtual 166, 3) ∧ decode cL_law (t + 4) = .ok (.iload 6, 2) ∧ decode cL_law (t + 6) = .ok (.if_icmp .eq 5, 3) ∧ decode cL_law (t + 11) = .ok (.iload 6, 2) ∧ decode cL_law (t + 13) = .ok (.ifCond .ne 15, 3) ∧ decode cL_law (t + 16) = .ok (.aload_n 3, 1) ∧ decode cL_law (t + 17) = .ok (.iconst 0, 1) ∧ decode cL_law (t + 18) = .ok (.laload, 1) ∧ decode cL_law (t + 19) = .ok (.iload 7, 2) ∧ decode cL_law (t + 21) = .ok (.i2l, 1) ∧ decode cL_law (t + 22) = .ok (.lcmp, 1) ∧ decode cL_law (t + 23) = .ok (.ifCond .eq 5, 3) ∧ decode cL_law (t + 28) = .ok (.goto off, 3) ∧ ((t + 28 : Nat) : Int) + off = 3074
theorem T_keep {u : Un} {y : MI} {d : Nat} {ws : va_W} {Q : Option Value → va_W → Prop} {X : String → va_W → Prop} (is : List Nat) (k : VS u y S d kc ks Q X pc (keepL is L) st ws) : VS u y S d kc ks Q X pc L st ws := by
  intro p e R s m args below meth c H locs cells slots ls C s0 q1 q2 q3 q4 hw hS hl
  exact k p e R s m args below meth c H locs cells slots ls C s0 q1 q2 q3 q4 hw hS ⟨hl.1, hl.2.1, fun q hq => hl.2.2 q (keepL_mem is q hq)⟩
theorem TJ_tail {b i c t : Nat} {off : Int} {r : Int32} (ht : TailAt t off) (hc : J 351 8 = c) (h10 : c < 10) (h0 : c = 0 → Int64.ofNat (J 365 0) = r.toInt64) (next : TJ g S kc ks 3074 (LL g b i) [] J) : TJ g S kc ks t (LL g b i ++ [(6, .int (nI c)), (7, .int r)]) [] J := by
  obtain ⟨d0, d1, d4, d6, d11, d13, d16, d17, d18, d19, d21, d22, d23, d28, hof⟩ := ht
  have fin : TJ g S kc ks (t + 28) (LL g b i ++ [(6, .int (nI c)), (7, .int r)]) [] J := by
    refine T_goto 3074 hof d28 ?_
    exact T_keep [0, 1, 2, 3, 4, 5] next
  refine T_aload_n (t + 1) rfl d0 rfl ?_
  refine TJ_callM (As := []) 351 kalX11_thrown lkL_166 d1 (by omega) rfl rfl rfl rfl (by exact Nat.le_of_ble_eq_true rfl) (by omega) (Nat.zero_le _) (Nat.zero_le _) S_X11_thrown (fun v J' q => ?_)
  obtain ⟨e1, e2⟩ := q
  subst e2
  rw [e1, hc]
  refine T_iload (t + 6) rfl d4 rfl ?_
  refine T_icmp_eq (t + 11) (t + 9) (by omega) rfl d6 (fun _ => ?_) (fun q => absurd rfl q)
  refine T_iload (t + 13) rfl d11 rfl ?_
  refine T_if_ne (t + 28) (t + 16) (by omega) rfl d13 (fun _ => fin) (fun q => ?_)
  have c0 : c = 0 := by
    rw [← nI_0] at q
    have := congrArg Int32.toInt q
    rw [nI_toInt (by omega), nI_toInt (by omega)] at this
    omega
  refine T_aload_n (t + 17) rfl d16 rfl ?_
  refine T_iconst (t + 18) (nI 0) rfl d17 ic_0 ?_
  refine T_lald (t + 19) rfl d18 ((wd_get g _ (show 365 < 367 by omega)).trans (by rw [celR_l (k := 365) (N := 1) rfl])) (vp_in_nI (by omega) (by omega)) ?_
  rw [nI_clamp (by omega)]
  refine T_iload (t + 21) rfl d19 rfl ?_
  refine T_i2l (t + 22) _ rfl d21 rfl ?_
  refine T_lcmp (t + 23) rfl d22 ?_
  refine T_if_eq (t + 28) (t + 26) (by omega) rfl d23 (fun _ => fin) (fun q => absurd ((lg_cmp_eq _ _).mpr (h0 c0)) q)
end TJR
