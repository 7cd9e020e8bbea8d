/-! THE LAW: its cases, one by one (laid by wip/whole/src/p75.py) -/
def Kq (J J1 : DJ) : Prop := (∀ c, c < 31 ∨ (61 ≤ c ∧ c < 334) ∨ c = 336 ∨ c = 341 ∨ (344 ≤ c ∧ c < 350) ∨ (351 ≤ c ∧ c ≠ 365 ∧ c ≠ 366) → J1 c = J c) ∧ J1 350 0 = J 350 0
theorem Kq.sc {J J1 : DJ} (h : Sc J J1) : Kq J J1 := ⟨fun c hc => h.1 c (by omega), h.2⟩
theorem Kq.out {J J1 : DJ} {v : Nat} (h : Sc J J1) : Kq J (up2 J1 365 0 v) := ⟨fun c hc => by rw [up2_ne (by omega)]; exact h.1 c (by omega), by rw [up2_ne (by omega)]; exact h.2⟩
theorem out_at {J1 : DJ} {v : Int64} : Int64.ofNat (up2 J1 365 0 (lgN v) 365 0) = v := by rw [up2_app, if_pos ⟨rfl, rfl⟩, lgN_of]
/-- a wrapper's answer in numbers -/
def WQ (cs : List String) (J : DJ) (F R c : Nat) (J1 : DJ) : Prop := Kq J J1 ∧ ((F = 0 ∧ c = 0 ∧ Int64.ofNat (J1 365 0) = (nI R).toInt64) ∨ (F ≠ 0 ∧ c = cdX cs (exc F)))
theorem WP_q {cs : List String} {J J1 : DJ} {F R : Nat} {v : Option Value} (w : WP cs (QF F R (fun J2 => Sc J J2)) (XF F J) v J1) : ∃ c, v = some (.int (nI c)) ∧ WQ cs J F R c J1 := by
  rcases w with ⟨Ja, r, ⟨f0, er, sc⟩, ev, e⟩ | ⟨E, ⟨f0, ee, sc⟩, hm, ev⟩
  · have e2 : r = nI R := Value.int.inj (Option.some.inj er)
    subst e
    exact ⟨0, ev, Kq.out sc, Or.inl ⟨f0, rfl, by rw [out_at, e2]⟩⟩
  · exact ⟨_, ev, Kq.sc sc, Or.inr ⟨f0, by rw [ee]⟩⟩
theorem PM_ok {f : Nat → Nat} {e : Nat} (oe : EOk f (7 + 52 * e)) : PM (ford f e) (f (7 + 52 * e)) := ⟨fun c hcc => by unfold ford; rw [show 11 + 52 * e + c = 7 + 52 * e + 4 + c by omega]; exact oe.2.2.2.2.2.1 c hcc, fun a b ha hbb z => by
  unfold ford at z
  rw [show 11 + 52 * e + a = 7 + 52 * e + 4 + a by omega, show 11 + 52 * e + b = 7 + 52 * e + 4 + b by omega] at z
  exact oe.2.2.2.2.2.2.1 a b ha hbb z⟩
theorem WP_n {cs : List String} {J J1 : DJ} {F : Nat} {P : Nat → Prop} {v : Option Value} (w : WP cs (QN F (fun r J2 => P r ∧ Sc J J2)) (XF F J) v J1) : ∃ c R, v = some (.int (nI c)) ∧ WQ cs J F R c J1 ∧ (F = 0 → P R) := by
  rcases w with ⟨Ja, r, ⟨f0, R, er, hp, sc⟩, ev, e⟩ | ⟨E, ⟨f0, ee, sc⟩, hm, ev⟩
  · have e2 : r = nI R := Value.int.inj (Option.some.inj er)
    subst e
    exact ⟨0, R, ev, ⟨Kq.out sc, Or.inl ⟨f0, rfl, by rw [out_at, e2]⟩⟩, fun _ => hp⟩
  · exact ⟨_, 0, ev, ⟨Kq.sc sc, Or.inr ⟨f0, by rw [ee]⟩⟩, fun z => absurd z f0⟩
theorem WQ_r {cs : List String} {J J1 : DJ} {F R R2 c : Nat} (w : WQ cs J F R c J1) (e : F = 0 → R = R2) : WQ cs J F R2 c J1 := ⟨w.1, w.2.elim (fun z => Or.inl ⟨z.1, z.2.1, by rw [← e z.1]; exact z.2.2⟩) Or.inr⟩
theorem Q_fin {J J1 J2 : DJ} {B F p c R r : Nat} {cs : List String} (h : LI J B) (w : WQ cs J F R c J1) (q : (F = 0 ∧ r = R ∧ MNo J1 J2 0) ∨ (F ≠ 0 ∧ r = 4294967295 ∧ MNo J1 J2 p)) (hcp : F ≠ 0 → cdX cs (exc F) = p ∧ p ≠ 0 ∧ p < 10) : LI J2 B ∧ J2 351 8 = c ∧ c < 10 ∧ (c = 0 → Int64.ofNat (J2 365 0) = (nI r).toInt64) := by
  obtain ⟨k, w⟩ := w
  rcases w with ⟨a1, a2, a3⟩ | ⟨a1, a2⟩
  · rcases q with ⟨b1, b2, b3⟩ | ⟨b1, b2, b3⟩
    · refine ⟨LI_q h k b3, by rw [b3.2.2, a2], by omega, fun _ => by rw [b3.1 365 (by omega), a3, b2]⟩
    · exact absurd a1 b1
  · rcases q with ⟨b1, b2, b3⟩ | ⟨b1, b2, b3⟩
    · exact absurd b1 a1
    · have z := hcp a1
      rw [z.1] at a2
      exact ⟨LI_q h k b3, by rw [b3.2.2, a2], by omega, fun c0 => absurd (a2 ▸ c0) z.2.1⟩
/-- a wrapper's answer of a change -/
def WC (cs : List String) (J : DJ) (F R c B : Nat) (x : Nat → Nat) (J1 : DJ) : Prop := (F = 0 ∧ c = 0 ∧ Int64.ofNat (J1 365 0) = (nI R).toInt64 ∧ ∃ Jc v, Ch J (J 351 5) (pfs J) (J 352) x B Jc ∧ J1 = up2 Jc 365 0 v) ∨ (F ≠ 0 ∧ c = cdX cs (exc F) ∧ Kq J J1)
theorem WC_k {cs : List String} {J J1 : DJ} {F R c B : Nat} {x : Nat → Nat} (w : WC cs J F R c B x J1) : (∀ a, 351 ≤ a → a ≠ 365 → a ≠ 366 → J1 a = J a) := by
  intro a h1 h2 h3
  rcases w with ⟨-, -, -, Jc, v, ch, e⟩ | ⟨-, -, k⟩
  · rw [e, up2_ne h2, ch.1 a (by omega)]
  · exact k.1 a (by omega)
theorem WP_c {cs : List String} {J J1 : DJ} {F R B : Nat} {x : Nat → Nat} {v : Option Value} (w : WP cs (QF F R (Ch J (J 351 5) (pfs J) (J 352) x B)) (XF F J) v J1) : ∃ c, v = some (.int (nI c)) ∧ WC cs J F R c B x J1 := by
  rcases w with ⟨Ja, r, ⟨f0, er, sc⟩, ev, e⟩ | ⟨E, ⟨f0, ee, sc⟩, hm, ev⟩
  · have e2 : r = nI R := Value.int.inj (Option.some.inj er)
    subst e
    exact ⟨0, ev, Or.inl ⟨f0, rfl, by rw [out_at, e2], Ja, _, sc, rfl⟩⟩
  · exact ⟨_, ev, Or.inr ⟨f0, by rw [ee], Kq.sc sc⟩⟩
theorem C_fin {J J1 J2 : DJ} {B F p c R r : Nat} {cs : List String} {x : Nat → Nat} (h : LI J B) (w : WC cs J F R c B x J1) (q : (F = 0 ∧ r = R ∧ MCh J1 J2 x) ∨ (F ≠ 0 ∧ r = 4294967295 ∧ MNo J1 J2 p)) (hx : F = 0 → WF x (B + 3000)) (hB : B + 3000 < 40000000) (hcp : F ≠ 0 → cdX cs (exc F) = p ∧ p ≠ 0 ∧ p < 10) : LI J2 (B + 3000) ∧ J2 351 8 = c ∧ c < 10 ∧ (c = 0 → Int64.ofNat (J2 365 0) = (nI r).toInt64) := by
  rcases w with ⟨a1, a2, a3, Jc, v, a4, a5⟩ | ⟨a1, a2, a3⟩
  · rcases q with ⟨b1, b2, b3⟩ | ⟨b1, b2, b3⟩
    · subst a5
      exact ⟨LI_ch h a4 (hx a1) b3 hB, by rw [b3.2.2.2.1, a2], by omega, fun _ => by rw [b3.1 365 (by omega), a3, b2]⟩
    · exact absurd a1 b1
  · rcases q with ⟨b1, b2, b3⟩ | ⟨b1, b2, b3⟩
    · exact absurd b1 a1
    · have z := hcp a1
      rw [z.1] at a2
      exact ⟨LI_le (LI_q h a3 b3) (by omega) hB, by rw [b3.2.2, a2], by omega, fun c0 => absurd (a2 ▸ c0) z.2.1⟩
theorem cd_all : cdX [IAE, ISE] (exc 2) = 1 ∧ cdX [IAE, ISE] (exc 3) = 2 ∧ cdX [IOOBE] (exc 1) = 1 ∧ cdX [IOOBE, IAE] (exc 1) = 1 ∧ cdX [IOOBE, IAE] (exc 2) = 2 ∧ cdX [IOOBE, IAE, ISE] (exc 1) = 1 ∧ cdX [IOOBE, IAE, ISE] (exc 2) = 2 ∧ cdX [IOOBE, IAE, ISE] (exc 3) = 3 ∧ cdX [ISE] (exc 3) = 1 ∧ cdX [IAE] (exc 2) = 1 ∧ cdX [NSEE] (exc 4) = 1 ∧ cdX [IAE, NSEE] (exc 2) = 1 ∧ cdX [IAE, NSEE] (exc 4) = 2 ∧ cdX [IOOBE, NSEE] (exc 1) = 1 ∧ cdX [IOOBE, NSEE] (exc 4) = 2 := by decide +kernel
theorem ex_mem : exc 1 = IOOBE ∧ exc 2 = IAE ∧ exc 3 = ISE ∧ exc 4 = NSEE := ⟨rfl, rfl, rfl, rfl⟩
theorem LI_f {J J1 : DJ} {B : Nat} (h : LI J B) (e : J1 352 = J 352) : sR J1 352 (J 352) = J1 := by rw [← e, sR_id]
theorem op_4 {g : Gn} {S : State → Prop} {b Ln i kc ks B : Nat} {xs : Nat → Int32} {J : DJ} (hS : ScrS g S b Ln xs) (hi : i + 3 < Ln) (h : LI J B) (hB : B + 39000 < 40000000) (hkc : 34 ≤ kc) (hks : 204 ≤ ks) (next : ∀ J2, LI J2 (B + 39000) → TJ g S (kc - 34) (ks - 204) 3074 (LL g b i) [] J2) : TJ g S kc ks 505 (LL g b i) [] J := by
  have hw := h.1.2.1
  obtain ⟨a1, h1, e1⟩ := nI_all (xs (i + 1))
  refine T_aload_n 506 rfl dL_law_505 rfl ?_
  refine TJ_arg 1 hS dL_law_506 dL_law_507 dL_law_509 dL_law_510 dL_law_511 (by omega) hi rfl rfl ?_
  rw [e1]
  refine T_aload_n 513 rfl dL_law_512 rfl ?_
  refine TJ_callW (As := [_, _, _]) kalL_cylinderCount lkL_181 dL_law_513 rfl rfl (by exact Nat.le_of_ble_eq_true rfl) (by omega) (by omega) (WL_cylinderCount (S_X10_cylinderCount h.1 h1) (by omega) (by omega) (by omega) (fun v J' q => ⟨_, q.2.1⟩) (fun E J' q => by obtain ⟨f0, ee, -⟩ := q; rw [ee]; revert f0; unfold qE; (repeat' split) <;> first | (intro z; exact absurd rfl z) | (intro _; decide +kernel))) (fun v J1 w => ?_)
  obtain ⟨c, ev, wq⟩ := WP_q w
  subst ev
  have e52 : J1 352 = J 352 := wq.1.1 352 (by omega)
  refine T_istore 518 rfl dL_law_516 (by decide) ?_
  refine T_aload_n 519 rfl dL_law_518 rfl ?_
  refine TJ_arg 1 hS dL_law_519 dL_law_520 dL_law_522 dL_law_523 dL_law_524 (by omega) hi rfl rfl ?_
  rw [e1]
  have hm := S_X11_cylinderCount (g := g) (J := J1) (f := J 352) hw (by have := h.1.2.2.2.2.2; omega) h1
  rw [LI_f h e52] at hm
  refine TJ_callM (As := [_]) 351 kalX11_cylinderCount lkL_183 dL_law_525 (by omega) rfl rfl rfl rfl (by exact Nat.le_of_ble_eq_true rfl) (by omega) (Nat.zero_le _) (Nat.zero_le _) hm (fun v J2 q => ?_)
  obtain ⟨r, rfl, q⟩ := q
  refine T_istore 530 rfl dL_law_528 (by decide) ?_
  have fin := Q_fin h wq q (by obtain ⟨d1, d2, d3, d4, d5, d6, d7, d8, d9, d10, d11, d12, d13, d14, d15⟩ := cd_all; unfold qE; (repeat' split) <;> first | (intro z; exact absurd rfl z) | (intro _; refine ⟨by assumption, by omega, by omega⟩) | (intro _; exfalso; omega))
  exact TJ_tail ⟨dL_law_530, dL_law_531, dL_law_534, dL_law_536, dL_law_541, dL_law_543, dL_law_546, dL_law_547, dL_law_548, dL_law_549, dL_law_551, dL_law_552, dL_law_553, dL_law_558, by decide⟩ fin.2.1 fin.2.2.1 fin.2.2.2 (T_more (by omega) (by omega) (next J2 (LI_le fin.1 (by omega) hB)))
theorem op_5 {g : Gn} {S : State → Prop} {b Ln i kc ks B : Nat} {xs : Nat → Int32} {J : DJ} (hS : ScrS g S b Ln xs) (hi : i + 3 < Ln) (h : LI J B) (hB : B + 39000 < 40000000) (hkc : 34 ≤ kc) (hks : 204 ≤ ks) (next : ∀ J2, LI J2 (B + 39000) → TJ g S (kc - 34) (ks - 204) 3074 (LL g b i) [] J2) : TJ g S kc ks 561 (LL g b i) [] J := by
  have hw := h.1.2.1
  obtain ⟨a1, h1, e1⟩ := nI_all (xs (i + 1))
  obtain ⟨a2, h2, e2⟩ := nI_all (xs (i + 2))
  refine T_aload_n 562 rfl dL_law_561 rfl ?_
  refine TJ_arg 1 hS dL_law_562 dL_law_563 dL_law_565 dL_law_566 dL_law_567 (by omega) hi rfl rfl ?_
  rw [e1]
  refine TJ_arg 2 hS dL_law_568 dL_law_569 dL_law_571 dL_law_572 dL_law_573 (by omega) hi rfl rfl ?_
  rw [e2]
  refine T_aload_n 575 rfl dL_law_574 rfl ?_
  refine TJ_callW (As := [_, _, _, _]) kalL_orderAt lkL_184 dL_law_575 rfl rfl (by exact Nat.le_of_ble_eq_true rfl) (by omega) (by omega) (WL_orderAt (S_X10_orderAt h.1 h1 h2) (by omega) (by omega) (by omega) (fun v J' q => ⟨_, q.2.1⟩) (fun E J' q => by obtain ⟨f0, ee, -⟩ := q; rw [ee]; revert f0; unfold qPt; (repeat' split) <;> first | (intro z; exact absurd rfl z) | (intro _; decide +kernel))) (fun v J1 w => ?_)
  obtain ⟨c, ev, wq⟩ := WP_q w
  subst ev
  have e52 : J1 352 = J 352 := wq.1.1 352 (by omega)
  refine T_istore 580 rfl dL_law_578 (by decide) ?_
  refine T_aload_n 581 rfl dL_law_580 rfl ?_
  refine TJ_arg 1 hS dL_law_581 dL_law_582 dL_law_584 dL_law_585 dL_law_586 (by omega) hi rfl rfl ?_
  rw [e1]
  refine TJ_arg 2 hS dL_law_587 dL_law_588 dL_law_590 dL_law_591 dL_law_592 (by omega) hi rfl rfl ?_
  rw [e2]
  have hm := S_X11_orderAt (g := g) (J := J1) (f := J 352) hw (by have := h.1.2.2.2.2.2; omega) h1 h2
  rw [LI_f h e52] at hm
  refine TJ_callM (As := [_, _]) 351 kalX11_orderAt lkL_186 dL_law_593 (by omega) rfl rfl rfl rfl (by exact Nat.le_of_ble_eq_true rfl) (by omega) (Nat.zero_le _) (Nat.zero_le _) hm (fun v J2 q => ?_)
  obtain ⟨r, rfl, q⟩ := q
  refine T_istore 598 rfl dL_law_596 (by decide) ?_
  have fin := Q_fin h wq q (by obtain ⟨d1, d2, d3, d4, d5, d6, d7, d8, d9, d10, d11, d12, d13, d14, d15⟩ := cd_all; unfold qPt; (repeat' split) <;> first | (intro z; exact absurd rfl z) | (intro _; refine ⟨by assumption, by omega, by omega⟩) | (intro _; exfalso; omega))
  exact TJ_tail ⟨dL_law_598, dL_law_599, dL_law_602, dL_law_604, dL_law_609, dL_law_611, dL_law_614, dL_law_615, dL_law_616, dL_law_617, dL_law_619, dL_law_620, dL_law_621, dL_law_626, by decide⟩ fin.2.1 fin.2.2.1 fin.2.2.2 (T_more (by omega) (by omega) (next J2 (LI_le fin.1 (by omega) hB)))
theorem op_6 {g : Gn} {S : State → Prop} {b Ln i kc ks B : Nat} {xs : Nat → Int32} {J : DJ} (hS : ScrS g S b Ln xs) (hi : i + 3 < Ln) (h : LI J B) (hB : B + 39000 < 40000000) (hkc : 34 ≤ kc) (hks : 204 ≤ ks) (next : ∀ J2, LI J2 (B + 39000) → TJ g S (kc - 34) (ks - 204) 3074 (LL g b i) [] J2) : TJ g S kc ks 629 (LL g b i) [] J := by
  have hw := h.1.2.1
  obtain ⟨a1, h1, e1⟩ := nI_all (xs (i + 1))
  obtain ⟨a2, h2, e2⟩ := nI_all (xs (i + 2))
  refine T_aload_n 630 rfl dL_law_629 rfl ?_
  refine TJ_arg 1 hS dL_law_630 dL_law_631 dL_law_633 dL_law_634 dL_law_635 (by omega) hi rfl rfl ?_
  rw [e1]
  refine TJ_arg 2 hS dL_law_636 dL_law_637 dL_law_639 dL_law_640 dL_law_641 (by omega) hi rfl rfl ?_
  rw [e2]
  refine T_aload_n 643 rfl dL_law_642 rfl ?_
  refine TJ_callW (As := [_, _, _, _]) kalL_dueAfter lkL_187 dL_law_643 rfl rfl (by exact Nat.le_of_ble_eq_true rfl) (by omega) (by omega) (WL_dueAfter (S_X10_dueAfter h.1 h1 h2) (by omega) (by omega) (by omega) (fun v J' q => ⟨_, q.2.1⟩) (fun E J' q => by obtain ⟨f0, ee, -⟩ := q; rw [ee]; revert f0; unfold qDue; (repeat' split) <;> first | (intro z; exact absurd rfl z) | (intro _; decide +kernel))) (fun v J1 w => ?_)
  obtain ⟨c, ev, wq⟩ := WP_q w
  subst ev
  have e52 : J1 352 = J 352 := wq.1.1 352 (by omega)
  refine T_istore 648 rfl dL_law_646 (by decide) ?_
  refine T_aload_n 649 rfl dL_law_648 rfl ?_
  refine TJ_arg 1 hS dL_law_649 dL_law_650 dL_law_652 dL_law_653 dL_law_654 (by omega) hi rfl rfl ?_
  rw [e1]
  refine TJ_arg 2 hS dL_law_655 dL_law_656 dL_law_658 dL_law_659 dL_law_660 (by omega) hi rfl rfl ?_
  rw [e2]
  have hm := S_X11_dueAfter (g := g) (J := J1) (f := J 352) hw (by have := h.1.2.2.2.2.2; omega) h1 h2
  rw [LI_f h e52] at hm
  refine TJ_callM (As := [_, _]) 351 kalX11_dueAfter lkL_189 dL_law_661 (by omega) rfl rfl rfl rfl (by exact Nat.le_of_ble_eq_true rfl) (by omega) (Nat.zero_le _) (Nat.zero_le _) hm (fun v J2 q => ?_)
  obtain ⟨r, rfl, q⟩ := q
  refine T_istore 666 rfl dL_law_664 (by decide) ?_
  have fin := Q_fin h wq q (by obtain ⟨d1, d2, d3, d4, d5, d6, d7, d8, d9, d10, d11, d12, d13, d14, d15⟩ := cd_all; unfold qDue; (repeat' split) <;> first | (intro z; exact absurd rfl z) | (intro _; refine ⟨by assumption, by omega, by omega⟩) | (intro _; exfalso; omega))
  exact TJ_tail ⟨dL_law_666, dL_law_667, dL_law_670, dL_law_672, dL_law_677, dL_law_679, dL_law_682, dL_law_683, dL_law_684, dL_law_685, dL_law_687, dL_law_688, dL_law_689, dL_law_694, by decide⟩ fin.2.1 fin.2.2.1 fin.2.2.2 (T_more (by omega) (by omega) (next J2 (LI_le fin.1 (by omega) hB)))
theorem op_7 {g : Gn} {S : State → Prop} {b Ln i kc ks B : Nat} {xs : Nat → Int32} {J : DJ} (hS : ScrS g S b Ln xs) (hi : i + 3 < Ln) (h : LI J B) (hB : B + 39000 < 40000000) (hkc : 34 ≤ kc) (hks : 204 ≤ ks) (next : ∀ J2, LI J2 (B + 39000) → TJ g S (kc - 34) (ks - 204) 3074 (LL g b i) [] J2) : TJ g S kc ks 697 (LL g b i) [] J := by
  have hw := h.1.2.1
  obtain ⟨a1, h1, e1⟩ := nI_all (xs (i + 1))
  obtain ⟨a2, h2, e2⟩ := nI_all (xs (i + 2))
  refine T_aload_n 698 rfl dL_law_697 rfl ?_
  refine TJ_arg 1 hS dL_law_698 dL_law_699 dL_law_701 dL_law_702 dL_law_703 (by omega) hi rfl rfl ?_
  rw [e1]
  refine TJ_arg 2 hS dL_law_704 dL_law_705 dL_law_707 dL_law_708 dL_law_709 (by omega) hi rfl rfl ?_
  rw [e2]
  refine T_aload_n 711 rfl dL_law_710 rfl ?_
  refine TJ_callW (As := [_, _, _, _]) kalL_dueAfterByStrokes lkL_190 dL_law_711 rfl rfl (by exact Nat.le_of_ble_eq_true rfl) (by omega) (by omega) (WL_dueAfterByStrokes (S_X10_dueAfterByStrokes h.1 h1 h2) (by omega) (by omega) (by omega) (fun v J' q => ⟨_, q.2.1⟩) (fun E J' q => by obtain ⟨f0, ee, -⟩ := q; rw [ee]; revert f0; unfold qDue; (repeat' split) <;> first | (intro z; exact absurd rfl z) | (intro _; decide +kernel))) (fun v J1 w => ?_)
  obtain ⟨c, ev, wq⟩ := WP_q w
  subst ev
  have e52 : J1 352 = J 352 := wq.1.1 352 (by omega)
  refine T_istore 716 rfl dL_law_714 (by decide) ?_
  refine T_aload_n 717 rfl dL_law_716 rfl ?_
  refine TJ_arg 1 hS dL_law_717 dL_law_718 dL_law_720 dL_law_721 dL_law_722 (by omega) hi rfl rfl ?_
  rw [e1]
  refine TJ_arg 2 hS dL_law_723 dL_law_724 dL_law_726 dL_law_727 dL_law_728 (by omega) hi rfl rfl ?_
  rw [e2]
  have hm := S_X11_dueAfterByStrokes (g := g) (J := J1) (f := J 352) hw (by have := h.1.2.2.2.2.2; omega) h1 h2
  rw [LI_f h e52] at hm
  refine TJ_callM (As := [_, _]) 351 kalX11_dueAfterByStrokes lkL_192 dL_law_729 (by omega) rfl rfl rfl rfl (by exact Nat.le_of_ble_eq_true rfl) (by omega) (Nat.zero_le _) (Nat.zero_le _) hm (fun v J2 q => ?_)
  obtain ⟨r, rfl, q⟩ := q
  refine T_istore 734 rfl dL_law_732 (by decide) ?_
  have fin := Q_fin h wq q (by obtain ⟨d1, d2, d3, d4, d5, d6, d7, d8, d9, d10, d11, d12, d13, d14, d15⟩ := cd_all; unfold qDue; (repeat' split) <;> first | (intro z; exact absurd rfl z) | (intro _; refine ⟨by assumption, by omega, by omega⟩) | (intro _; exfalso; omega))
  exact TJ_tail ⟨dL_law_734, dL_law_735, dL_law_738, dL_law_740, dL_law_745, dL_law_747, dL_law_750, dL_law_751, dL_law_752, dL_law_753, dL_law_755, dL_law_756, dL_law_757, dL_law_762, by decide⟩ fin.2.1 fin.2.2.1 fin.2.2.2 (T_more (by omega) (by omega) (next J2 (LI_le fin.1 (by omega) hB)))
theorem op_8 {g : Gn} {S : State → Prop} {b Ln i kc ks B : Nat} {xs : Nat → Int32} {J : DJ} (hS : ScrS g S b Ln xs) (hi : i + 3 < Ln) (h : LI J B) (hB : B + 39000 < 40000000) (hkc : 34 ≤ kc) (hks : 204 ≤ ks) (next : ∀ J2, LI J2 (B + 39000) → TJ g S (kc - 34) (ks - 204) 3074 (LL g b i) [] J2) : TJ g S kc ks 765 (LL g b i) [] J := by
  have hw := h.1.2.1
  obtain ⟨a1, h1, e1⟩ := nI_all (xs (i + 1))
  refine T_aload_n 766 rfl dL_law_765 rfl ?_
  refine TJ_arg 1 hS dL_law_766 dL_law_767 dL_law_769 dL_law_770 dL_law_771 (by omega) hi rfl rfl ?_
  rw [e1]
  refine T_aload_n 773 rfl dL_law_772 rfl ?_
  refine TJ_callW (As := [_, _, _]) kalL_turnOf lkL_193 dL_law_773 rfl rfl (by exact Nat.le_of_ble_eq_true rfl) (by omega) (by omega) (WL_turnOf (S_X10_turnOf h.1 h1) (by omega) (by omega) (by omega) (fun v J' q => ⟨_, q.2.1⟩) (fun E J' q => by obtain ⟨f0, ee, -⟩ := q; rw [ee]; revert f0; unfold qE; (repeat' split) <;> first | (intro z; exact absurd rfl z) | (intro _; decide +kernel))) (fun v J1 w => ?_)
  obtain ⟨c, ev, wq⟩ := WP_q w
  subst ev
  have e52 : J1 352 = J 352 := wq.1.1 352 (by omega)
  refine T_istore 778 rfl dL_law_776 (by decide) ?_
  refine T_aload_n 779 rfl dL_law_778 rfl ?_
  refine TJ_arg 1 hS dL_law_779 dL_law_780 dL_law_782 dL_law_783 dL_law_784 (by omega) hi rfl rfl ?_
  rw [e1]
  have hm := S_X11_turnOf (g := g) (J := J1) (f := J 352) hw (by have := h.1.2.2.2.2.2; omega) h1
  rw [LI_f h e52] at hm
  refine TJ_callM (As := [_]) 351 kalX11_turnOf lkL_195 dL_law_785 (by omega) rfl rfl rfl rfl (by exact Nat.le_of_ble_eq_true rfl) (by omega) (Nat.zero_le _) (Nat.zero_le _) hm (fun v J2 q => ?_)
  obtain ⟨r, rfl, q⟩ := q
  refine T_istore 790 rfl dL_law_788 (by decide) ?_
  have fin := Q_fin h wq q (by obtain ⟨d1, d2, d3, d4, d5, d6, d7, d8, d9, d10, d11, d12, d13, d14, d15⟩ := cd_all; unfold qE; (repeat' split) <;> first | (intro z; exact absurd rfl z) | (intro _; refine ⟨by assumption, by omega, by omega⟩) | (intro _; exfalso; omega))
  exact TJ_tail ⟨dL_law_790, dL_law_791, dL_law_794, dL_law_796, dL_law_801, dL_law_803, dL_law_806, dL_law_807, dL_law_808, dL_law_809, dL_law_811, dL_law_812, dL_law_813, dL_law_818, by decide⟩ fin.2.1 fin.2.2.1 fin.2.2.2 (T_more (by omega) (by omega) (next J2 (LI_le fin.1 (by omega) hB)))
theorem op_10 {g : Gn} {S : State → Prop} {b Ln i kc ks B : Nat} {xs : Nat → Int32} {J : DJ} (hS : ScrS g S b Ln xs) (hi : i + 3 < Ln) (h : LI J B) (hB : B + 39000 < 40000000) (hkc : 34 ≤ kc) (hks : 204 ≤ ks) (next : ∀ J2, LI J2 (B + 39000) → TJ g S (kc - 34) (ks - 204) 3074 (LL g b i) [] J2) : TJ g S kc ks 877 (LL g b i) [] J := by
  have hw := h.1.2.1
  obtain ⟨a1, h1, e1⟩ := nI_all (xs (i + 1))
  refine T_aload_n 878 rfl dL_law_877 rfl ?_
  refine TJ_arg 1 hS dL_law_878 dL_law_879 dL_law_881 dL_law_882 dL_law_883 (by omega) hi rfl rfl ?_
  rw [e1]
  refine T_aload_n 885 rfl dL_law_884 rfl ?_
  refine TJ_callW (As := [_, _, _]) kalL_evenness lkL_199 dL_law_885 rfl rfl (by exact Nat.le_of_ble_eq_true rfl) (by omega) (by omega) (WL_evenness (S_X10_evenness h.1 h1) (by omega) (by omega) (by omega) (fun v J' q => ⟨_, q.2.1⟩) (fun E J' q => by obtain ⟨f0, ee, -⟩ := q; rw [ee]; revert f0; unfold qE; (repeat' split) <;> first | (intro z; exact absurd rfl z) | (intro _; decide +kernel))) (fun v J1 w => ?_)
  obtain ⟨c, ev, wq⟩ := WP_q w
  subst ev
  have e52 : J1 352 = J 352 := wq.1.1 352 (by omega)
  refine T_istore 890 rfl dL_law_888 (by decide) ?_
  refine T_aload_n 891 rfl dL_law_890 rfl ?_
  refine TJ_arg 1 hS dL_law_891 dL_law_892 dL_law_894 dL_law_895 dL_law_896 (by omega) hi rfl rfl ?_
  rw [e1]
  have hm := S_X11_evenness (g := g) (J := J1) (f := J 352) hw (by have := h.1.2.2.2.2.2; omega) h1
  rw [LI_f h e52] at hm
  refine TJ_callM (As := [_]) 351 kalX11_evenness lkL_201 dL_law_897 (by omega) rfl rfl rfl rfl (by exact Nat.le_of_ble_eq_true rfl) (by omega) (Nat.zero_le _) (Nat.zero_le _) hm (fun v J2 q => ?_)
  obtain ⟨r, rfl, q⟩ := q
  refine T_istore 902 rfl dL_law_900 (by decide) ?_
  have fin := Q_fin h wq q (by obtain ⟨d1, d2, d3, d4, d5, d6, d7, d8, d9, d10, d11, d12, d13, d14, d15⟩ := cd_all; unfold qE; (repeat' split) <;> first | (intro z; exact absurd rfl z) | (intro _; refine ⟨by assumption, by omega, by omega⟩) | (intro _; exfalso; omega))
  exact TJ_tail ⟨dL_law_902, dL_law_903, dL_law_906, dL_law_908, dL_law_913, dL_law_915, dL_law_918, dL_law_919, dL_law_920, dL_law_921, dL_law_923, dL_law_924, dL_law_925, dL_law_930, by decide⟩ fin.2.1 fin.2.2.1 fin.2.2.2 (T_more (by omega) (by omega) (next J2 (LI_le fin.1 (by omega) hB)))
theorem op_11 {g : Gn} {S : State → Prop} {b Ln i kc ks B : Nat} {xs : Nat → Int32} {J : DJ} (hS : ScrS g S b Ln xs) (hi : i + 3 < Ln) (h : LI J B) (hB : B + 39000 < 40000000) (hkc : 34 ≤ kc) (hks : 204 ≤ ks) (next : ∀ J2, LI J2 (B + 39000) → TJ g S (kc - 34) (ks - 204) 3074 (LL g b i) [] J2) : TJ g S kc ks 933 (LL g b i) [] J := by
  have hw := h.1.2.1
  obtain ⟨a1, h1, e1⟩ := nI_all (xs (i + 1))
  obtain ⟨a2, h2, e2⟩ := nI_all (xs (i + 2))
  refine T_aload_n 934 rfl dL_law_933 rfl ?_
  refine TJ_arg 1 hS dL_law_934 dL_law_935 dL_law_937 dL_law_938 dL_law_939 (by omega) hi rfl rfl ?_
  rw [e1]
  refine TJ_arg 2 hS dL_law_940 dL_law_941 dL_law_943 dL_law_944 dL_law_945 (by omega) hi rfl rfl ?_
  rw [e2]
  refine T_aload_n 947 rfl dL_law_946 rfl ?_
  refine TJ_callW (As := [_, _, _, _]) kalL_evenOrders lkL_202 dL_law_947 rfl rfl (by exact Nat.le_of_ble_eq_true rfl) (by omega) (by omega) (WL_evenOrders (S_X10_evenOrders h.1 h1 h2) (by omega) (by omega) (by omega) (fun v J' q => ⟨_, q.2.1⟩) (fun E J' q => by obtain ⟨f0, ee, -⟩ := q; rw [ee]; revert f0; unfold qEv; (repeat' split) <;> first | (intro z; exact absurd rfl z) | (intro _; decide +kernel))) (fun v J1 w => ?_)
  obtain ⟨c, ev, wq⟩ := WP_q w
  subst ev
  have e52 : J1 352 = J 352 := wq.1.1 352 (by omega)
  refine T_istore 952 rfl dL_law_950 (by decide) ?_
  refine T_aload_n 953 rfl dL_law_952 rfl ?_
  refine TJ_arg 1 hS dL_law_953 dL_law_954 dL_law_956 dL_law_957 dL_law_958 (by omega) hi rfl rfl ?_
  rw [e1]
  refine TJ_arg 2 hS dL_law_959 dL_law_960 dL_law_962 dL_law_963 dL_law_964 (by omega) hi rfl rfl ?_
  rw [e2]
  have hm := S_X11_evenOrders (g := g) (J := J1) (f := J 352) hw (by have := h.1.2.2.2.2.2; omega) h1 h2
  rw [LI_f h e52] at hm
  refine TJ_callM (As := [_, _]) 351 kalX11_evenOrders lkL_204 dL_law_965 (by omega) rfl rfl rfl rfl (by exact Nat.le_of_ble_eq_true rfl) (by omega) (Nat.zero_le _) (Nat.zero_le _) hm (fun v J2 q => ?_)
  obtain ⟨r, rfl, q⟩ := q
  refine T_istore 970 rfl dL_law_968 (by decide) ?_
  have fin := Q_fin h wq q (by obtain ⟨d1, d2, d3, d4, d5, d6, d7, d8, d9, d10, d11, d12, d13, d14, d15⟩ := cd_all; unfold qEv; (repeat' split) <;> first | (intro z; exact absurd rfl z) | (intro _; refine ⟨by assumption, by omega, by omega⟩) | (intro _; exfalso; omega))
  exact TJ_tail ⟨dL_law_970, dL_law_971, dL_law_974, dL_law_976, dL_law_981, dL_law_983, dL_law_986, dL_law_987, dL_law_988, dL_law_989, dL_law_991, dL_law_992, dL_law_993, dL_law_998, by decide⟩ fin.2.1 fin.2.2.1 fin.2.2.2 (T_more (by omega) (by omega) (next J2 (LI_le fin.1 (by omega) hB)))
theorem op_16 {g : Gn} {S : State → Prop} {b Ln i kc ks B : Nat} {xs : Nat → Int32} {J : DJ} (hS : ScrS g S b Ln xs) (hi : i + 3 < Ln) (h : LI J B) (hB : B + 39000 < 40000000) (hkc : 34 ≤ kc) (hks : 204 ≤ ks) (next : ∀ J2, LI J2 (B + 39000) → TJ g S (kc - 34) (ks - 204) 3074 (LL g b i) [] J2) : TJ g S kc ks 1273 (LL g b i) [] J := by
  have hw := h.1.2.1
  obtain ⟨a1, h1, e1⟩ := nI_all (xs (i + 1))
  refine T_aload_n 1274 rfl dL_law_1273 rfl ?_
  refine TJ_arg 1 hS dL_law_1274 dL_law_1275 dL_law_1277 dL_law_1278 dL_law_1279 (by omega) hi rfl rfl ?_
  rw [e1]
  refine T_aload_n 1281 rfl dL_law_1280 rfl ?_
  refine TJ_callW (As := [_, _, _]) kalL_leastOilAfter lkL_217 dL_law_1281 rfl rfl (by exact Nat.le_of_ble_eq_true rfl) (by omega) (by omega) (WL_leastOilAfter (S_X10_leastOilAfter h.1 h1) (by omega) (by omega) (by omega) (fun v J' q => ⟨_, q.2.1⟩) (fun E J' q => by obtain ⟨f0, ee, -⟩ := q; rw [ee]; revert f0; unfold qLo; (repeat' split) <;> first | (intro z; exact absurd rfl z) | (intro _; decide +kernel))) (fun v J1 w => ?_)
  obtain ⟨c, ev, wq⟩ := WP_q w
  subst ev
  have e52 : J1 352 = J 352 := wq.1.1 352 (by omega)
  refine T_istore 1286 rfl dL_law_1284 (by decide) ?_
  refine T_aload_n 1287 rfl dL_law_1286 rfl ?_
  refine TJ_arg 1 hS dL_law_1287 dL_law_1288 dL_law_1290 dL_law_1291 dL_law_1292 (by omega) hi rfl rfl ?_
  rw [e1]
  have hm := S_X11_leastOilAfter (g := g) (J := J1) (f := J 352) hw (by have := h.1.2.2.2.2.2; omega) h1
  rw [LI_f h e52] at hm
  refine TJ_callM (As := [_]) 351 kalX11_leastOilAfter lkL_219 dL_law_1293 (by omega) rfl rfl rfl rfl (by exact Nat.le_of_ble_eq_true rfl) (by omega) (Nat.zero_le _) (Nat.zero_le _) hm (fun v J2 q => ?_)
  obtain ⟨r, rfl, q⟩ := q
  refine T_istore 1298 rfl dL_law_1296 (by decide) ?_
  have fin := Q_fin h wq q (by obtain ⟨d1, d2, d3, d4, d5, d6, d7, d8, d9, d10, d11, d12, d13, d14, d15⟩ := cd_all; unfold qLo; (repeat' split) <;> first | (intro z; exact absurd rfl z) | (intro _; refine ⟨by assumption, by omega, by omega⟩) | (intro _; exfalso; omega))
  exact TJ_tail ⟨dL_law_1298, dL_law_1299, dL_law_1302, dL_law_1304, dL_law_1309, dL_law_1311, dL_law_1314, dL_law_1315, dL_law_1316, dL_law_1317, dL_law_1319, dL_law_1320, dL_law_1321, dL_law_1326, by decide⟩ fin.2.1 fin.2.2.1 fin.2.2.2 (T_more (by omega) (by omega) (next J2 (LI_le fin.1 (by omega) hB)))
theorem op_17 {g : Gn} {S : State → Prop} {b Ln i kc ks B : Nat} {xs : Nat → Int32} {J : DJ} (hS : ScrS g S b Ln xs) (hi : i + 3 < Ln) (h : LI J B) (hB : B + 39000 < 40000000) (hkc : 34 ≤ kc) (hks : 204 ≤ ks) (next : ∀ J2, LI J2 (B + 39000) → TJ g S (kc - 34) (ks - 204) 3074 (LL g b i) [] J2) : TJ g S kc ks 1329 (LL g b i) [] J := by
  have hw := h.1.2.1
  obtain ⟨a1, h1, e1⟩ := nI_all (xs (i + 1))
  refine T_aload_n 1330 rfl dL_law_1329 rfl ?_
  refine TJ_arg 1 hS dL_law_1330 dL_law_1331 dL_law_1333 dL_law_1334 dL_law_1335 (by omega) hi rfl rfl ?_
  rw [e1]
  refine T_aload_n 1337 rfl dL_law_1336 rfl ?_
  refine TJ_callW (As := [_, _, _]) kalL_leastOilAfterByGiving lkL_220 dL_law_1337 rfl rfl (by exact Nat.le_of_ble_eq_true rfl) (by omega) (by omega) (WL_leastOilAfterByGiving (S_X10_leastOilAfterByGiving h.1 h1) (by omega) (by omega) (by omega) (fun v J' q => ⟨_, q.2.1⟩) (fun E J' q => by obtain ⟨f0, ee, -⟩ := q; rw [ee]; revert f0; unfold qLo; (repeat' split) <;> first | (intro z; exact absurd rfl z) | (intro _; decide +kernel))) (fun v J1 w => ?_)
  obtain ⟨c, ev, wq⟩ := WP_q w
  subst ev
  have e52 : J1 352 = J 352 := wq.1.1 352 (by omega)
  refine T_istore 1342 rfl dL_law_1340 (by decide) ?_
  refine T_aload_n 1343 rfl dL_law_1342 rfl ?_
  refine TJ_arg 1 hS dL_law_1343 dL_law_1344 dL_law_1346 dL_law_1347 dL_law_1348 (by omega) hi rfl rfl ?_
  rw [e1]
  have hm := S_X11_leastOilAfterByGiving (g := g) (J := J1) (f := J 352) hw (by have := h.1.2.2.2.2.2; omega) h1
  rw [LI_f h e52] at hm
  refine TJ_callM (As := [_]) 351 kalX11_leastOilAfterByGiving lkL_222 dL_law_1349 (by omega) rfl rfl rfl rfl (by exact Nat.le_of_ble_eq_true rfl) (by omega) (Nat.zero_le _) (Nat.zero_le _) hm (fun v J2 q => ?_)
  obtain ⟨r, rfl, q⟩ := q
  refine T_istore 1354 rfl dL_law_1352 (by decide) ?_
  have fin := Q_fin h wq q (by obtain ⟨d1, d2, d3, d4, d5, d6, d7, d8, d9, d10, d11, d12, d13, d14, d15⟩ := cd_all; unfold qLo; (repeat' split) <;> first | (intro z; exact absurd rfl z) | (intro _; refine ⟨by assumption, by omega, by omega⟩) | (intro _; exfalso; omega))
  exact TJ_tail ⟨dL_law_1354, dL_law_1355, dL_law_1358, dL_law_1360, dL_law_1365, dL_law_1367, dL_law_1370, dL_law_1371, dL_law_1372, dL_law_1373, dL_law_1375, dL_law_1376, dL_law_1377, dL_law_1382, by decide⟩ fin.2.1 fin.2.2.1 fin.2.2.2 (T_more (by omega) (by omega) (next J2 (LI_le fin.1 (by omega) hB)))
theorem op_19 {g : Gn} {S : State → Prop} {b Ln i kc ks B : Nat} {xs : Nat → Int32} {J : DJ} (hS : ScrS g S b Ln xs) (hi : i + 3 < Ln) (h : LI J B) (hB : B + 39000 < 40000000) (hkc : 34 ≤ kc) (hks : 204 ≤ ks) (next : ∀ J2, LI J2 (B + 39000) → TJ g S (kc - 34) (ks - 204) 3074 (LL g b i) [] J2) : TJ g S kc ks 1441 (LL g b i) [] J := by
  have hw := h.1.2.1
  obtain ⟨a1, h1, e1⟩ := nI_all (xs (i + 1))
  obtain ⟨a2, h2, e2⟩ := nI_all (xs (i + 2))
  refine T_aload_n 1442 rfl dL_law_1441 rfl ?_
  refine TJ_arg 1 hS dL_law_1442 dL_law_1443 dL_law_1445 dL_law_1446 dL_law_1447 (by omega) hi rfl rfl ?_
  rw [e1]
  refine TJ_arg 2 hS dL_law_1448 dL_law_1449 dL_law_1451 dL_law_1452 dL_law_1453 (by omega) hi rfl rfl ?_
  rw [e2]
  refine T_aload_n 1455 rfl dL_law_1454 rfl ?_
  refine TJ_callW (As := [_, _, _, _]) kalL_oilOf lkL_226 dL_law_1455 rfl rfl (by exact Nat.le_of_ble_eq_true rfl) (by omega) (by omega) (WL_oilOf (S_X10_oilOf h.1 h1 h2) (by omega) (by omega) (by omega) (fun v J' q => ⟨_, q.2.1⟩) (fun E J' q => by obtain ⟨f0, ee, -⟩ := q; rw [ee]; revert f0; unfold qPt; (repeat' split) <;> first | (intro z; exact absurd rfl z) | (intro _; decide +kernel))) (fun v J1 w => ?_)
  obtain ⟨c, ev, wq⟩ := WP_q w
  subst ev
  have e52 : J1 352 = J 352 := wq.1.1 352 (by omega)
  refine T_istore 1460 rfl dL_law_1458 (by decide) ?_
  refine T_aload_n 1461 rfl dL_law_1460 rfl ?_
  refine TJ_arg 1 hS dL_law_1461 dL_law_1462 dL_law_1464 dL_law_1465 dL_law_1466 (by omega) hi rfl rfl ?_
  rw [e1]
  refine TJ_arg 2 hS dL_law_1467 dL_law_1468 dL_law_1470 dL_law_1471 dL_law_1472 (by omega) hi rfl rfl ?_
  rw [e2]
  have hm := S_X11_oilOf (g := g) (J := J1) (f := J 352) hw (by have := h.1.2.2.2.2.2; omega) h1 h2
  rw [LI_f h e52] at hm
  refine TJ_callM (As := [_, _]) 351 kalX11_oilOf lkL_228 dL_law_1473 (by omega) rfl rfl rfl rfl (by exact Nat.le_of_ble_eq_true rfl) (by omega) (Nat.zero_le _) (Nat.zero_le _) hm (fun v J2 q => ?_)
  obtain ⟨r, rfl, q⟩ := q
  refine T_istore 1478 rfl dL_law_1476 (by decide) ?_
  have fin := Q_fin h wq q (by obtain ⟨d1, d2, d3, d4, d5, d6, d7, d8, d9, d10, d11, d12, d13, d14, d15⟩ := cd_all; unfold qPt; (repeat' split) <;> first | (intro z; exact absurd rfl z) | (intro _; refine ⟨by assumption, by omega, by omega⟩) | (intro _; exfalso; omega))
  exact TJ_tail ⟨dL_law_1478, dL_law_1479, dL_law_1482, dL_law_1484, dL_law_1489, dL_law_1491, dL_law_1494, dL_law_1495, dL_law_1496, dL_law_1497, dL_law_1499, dL_law_1500, dL_law_1501, dL_law_1506, by decide⟩ fin.2.1 fin.2.2.1 fin.2.2.2 (T_more (by omega) (by omega) (next J2 (LI_le fin.1 (by omega) hB)))
theorem op_20 {g : Gn} {S : State → Prop} {b Ln i kc ks B : Nat} {xs : Nat → Int32} {J : DJ} (hS : ScrS g S b Ln xs) (hi : i + 3 < Ln) (h : LI J B) (hB : B + 39000 < 40000000) (hkc : 34 ≤ kc) (hks : 204 ≤ ks) (next : ∀ J2, LI J2 (B + 39000) → TJ g S (kc - 34) (ks - 204) 3074 (LL g b i) [] J2) : TJ g S kc ks 1509 (LL g b i) [] J := by
  have hw := h.1.2.1
  obtain ⟨a1, h1, e1⟩ := nI_all (xs (i + 1))
  obtain ⟨a2, h2, e2⟩ := nI_all (xs (i + 2))
  refine T_aload_n 1510 rfl dL_law_1509 rfl ?_
  refine TJ_arg 1 hS dL_law_1510 dL_law_1511 dL_law_1513 dL_law_1514 dL_law_1515 (by omega) hi rfl rfl ?_
  rw [e1]
  refine TJ_arg 2 hS dL_law_1516 dL_law_1517 dL_law_1519 dL_law_1520 dL_law_1521 (by omega) hi rfl rfl ?_
  rw [e2]
  refine T_aload_n 1523 rfl dL_law_1522 rfl ?_
  refine TJ_callW (As := [_, _, _, _]) kalL_wearOf lkL_229 dL_law_1523 rfl rfl (by exact Nat.le_of_ble_eq_true rfl) (by omega) (by omega) (WL_wearOf (S_X10_wearOf h.1 h1 h2) (by omega) (by omega) (by omega) (fun v J' q => ⟨_, q.2.1⟩) (fun E J' q => by obtain ⟨f0, ee, -⟩ := q; rw [ee]; revert f0; unfold qPt; (repeat' split) <;> first | (intro z; exact absurd rfl z) | (intro _; decide +kernel))) (fun v J1 w => ?_)
  obtain ⟨c, ev, wq⟩ := WP_q w
  subst ev
  have e52 : J1 352 = J 352 := wq.1.1 352 (by omega)
  refine T_istore 1528 rfl dL_law_1526 (by decide) ?_
  refine T_aload_n 1529 rfl dL_law_1528 rfl ?_
  refine TJ_arg 1 hS dL_law_1529 dL_law_1530 dL_law_1532 dL_law_1533 dL_law_1534 (by omega) hi rfl rfl ?_
  rw [e1]
  refine TJ_arg 2 hS dL_law_1535 dL_law_1536 dL_law_1538 dL_law_1539 dL_law_1540 (by omega) hi rfl rfl ?_
  rw [e2]
  have hm := S_X11_wearOf (g := g) (J := J1) (f := J 352) hw (by have := h.1.2.2.2.2.2; omega) h1 h2
  rw [LI_f h e52] at hm
  refine TJ_callM (As := [_, _]) 351 kalX11_wearOf lkL_231 dL_law_1541 (by omega) rfl rfl rfl rfl (by exact Nat.le_of_ble_eq_true rfl) (by omega) (Nat.zero_le _) (Nat.zero_le _) hm (fun v J2 q => ?_)
  obtain ⟨r, rfl, q⟩ := q
  refine T_istore 1546 rfl dL_law_1544 (by decide) ?_
  have fin := Q_fin h wq q (by obtain ⟨d1, d2, d3, d4, d5, d6, d7, d8, d9, d10, d11, d12, d13, d14, d15⟩ := cd_all; unfold qPt; (repeat' split) <;> first | (intro z; exact absurd rfl z) | (intro _; refine ⟨by assumption, by omega, by omega⟩) | (intro _; exfalso; omega))
  exact TJ_tail ⟨dL_law_1546, dL_law_1547, dL_law_1550, dL_law_1552, dL_law_1557, dL_law_1559, dL_law_1562, dL_law_1563, dL_law_1564, dL_law_1565, dL_law_1567, dL_law_1568, dL_law_1569, dL_law_1574, by decide⟩ fin.2.1 fin.2.2.1 fin.2.2.2 (T_more (by omega) (by omega) (next J2 (LI_le fin.1 (by omega) hB)))
theorem op_23 {g : Gn} {S : State → Prop} {b Ln i kc ks B : Nat} {xs : Nat → Int32} {J : DJ} (hS : ScrS g S b Ln xs) (hi : i + 3 < Ln) (h : LI J B) (hB : B + 39000 < 40000000) (hkc : 34 ≤ kc) (hks : 204 ≤ ks) (next : ∀ J2, LI J2 (B + 39000) → TJ g S (kc - 34) (ks - 204) 3074 (LL g b i) [] J2) : TJ g S kc ks 1603 (LL g b i) [] J := by
  have hw := h.1.2.1
  obtain ⟨a1, h1, e1⟩ := nI_all (xs (i + 1))
  refine T_aload_n 1604 rfl dL_law_1603 rfl ?_
  refine TJ_arg 1 hS dL_law_1604 dL_law_1605 dL_law_1607 dL_law_1608 dL_law_1609 (by omega) hi rfl rfl ?_
  rw [e1]
  refine T_aload_n 1611 rfl dL_law_1610 rfl ?_
  refine TJ_callW (As := [_, _, _]) kalL_knockCount lkL_240 dL_law_1611 rfl rfl (by exact Nat.le_of_ble_eq_true rfl) (by omega) (by omega) (WL_knockCount (S_X10_knockCount h.1 h1) (by omega) (by omega) (by omega) (fun v J' q => ⟨_, q.2.1⟩) (fun E J' q => by obtain ⟨f0, ee, -⟩ := q; rw [ee]; revert f0; unfold qE; (repeat' split) <;> first | (intro z; exact absurd rfl z) | (intro _; decide +kernel))) (fun v J1 w => ?_)
  obtain ⟨c, ev, wq⟩ := WP_q w
  subst ev
  have e52 : J1 352 = J 352 := wq.1.1 352 (by omega)
  refine T_istore 1616 rfl dL_law_1614 (by decide) ?_
  refine T_aload_n 1617 rfl dL_law_1616 rfl ?_
  refine TJ_arg 1 hS dL_law_1617 dL_law_1618 dL_law_1620 dL_law_1621 dL_law_1622 (by omega) hi rfl rfl ?_
  rw [e1]
  have hm := S_X11_knockCount (g := g) (J := J1) (f := J 352) hw (by have := h.1.2.2.2.2.2; omega) h1
  rw [LI_f h e52] at hm
  refine TJ_callM (As := [_]) 351 kalX11_knockCount lkL_242 dL_law_1623 (by omega) rfl rfl rfl rfl (by exact Nat.le_of_ble_eq_true rfl) (by omega) (Nat.zero_le _) (Nat.zero_le _) hm (fun v J2 q => ?_)
  obtain ⟨r, rfl, q⟩ := q
  refine T_istore 1628 rfl dL_law_1626 (by decide) ?_
  have fin := Q_fin h wq q (by obtain ⟨d1, d2, d3, d4, d5, d6, d7, d8, d9, d10, d11, d12, d13, d14, d15⟩ := cd_all; unfold qE; (repeat' split) <;> first | (intro z; exact absurd rfl z) | (intro _; refine ⟨by assumption, by omega, by omega⟩) | (intro _; exfalso; omega))
  exact TJ_tail ⟨dL_law_1628, dL_law_1629, dL_law_1632, dL_law_1634, dL_law_1639, dL_law_1641, dL_law_1644, dL_law_1645, dL_law_1646, dL_law_1647, dL_law_1649, dL_law_1650, dL_law_1651, dL_law_1656, by decide⟩ fin.2.1 fin.2.2.1 fin.2.2.2 (T_more (by omega) (by omega) (next J2 (LI_le fin.1 (by omega) hB)))
theorem op_24 {g : Gn} {S : State → Prop} {b Ln i kc ks B : Nat} {xs : Nat → Int32} {J : DJ} (hS : ScrS g S b Ln xs) (hi : i + 3 < Ln) (h : LI J B) (hB : B + 39000 < 40000000) (hkc : 34 ≤ kc) (hks : 204 ≤ ks) (next : ∀ J2, LI J2 (B + 39000) → TJ g S (kc - 34) (ks - 204) 3074 (LL g b i) [] J2) : TJ g S kc ks 1659 (LL g b i) [] J := by
  have hw := h.1.2.1
  obtain ⟨a1, h1, e1⟩ := nI_all (xs (i + 1))
  obtain ⟨a2, h2, e2⟩ := nI_all (xs (i + 2))
  refine T_aload_n 1660 rfl dL_law_1659 rfl ?_
  refine TJ_arg 1 hS dL_law_1660 dL_law_1661 dL_law_1663 dL_law_1664 dL_law_1665 (by omega) hi rfl rfl ?_
  rw [e1]
  refine TJ_arg 2 hS dL_law_1666 dL_law_1667 dL_law_1669 dL_law_1670 dL_law_1671 (by omega) hi rfl rfl ?_
  rw [e2]
  refine T_aload_n 1673 rfl dL_law_1672 rfl ?_
  refine TJ_callW (As := [_, _, _, _]) kalL_knockAt lkL_243 dL_law_1673 rfl rfl (by exact Nat.le_of_ble_eq_true rfl) (by omega) (by omega) (WL_knockAt (S_X10_knockAt h.1 h1 h2) (by omega) (by omega) (by omega) (fun v J' q => ⟨_, q.2.1⟩) (fun E J' q => by obtain ⟨f0, ee, -⟩ := q; rw [ee]; revert f0; unfold qKa; (repeat' split) <;> first | (intro z; exact absurd rfl z) | (intro _; decide +kernel))) (fun v J1 w => ?_)
  obtain ⟨c, ev, wq⟩ := WP_q w
  subst ev
  have e52 : J1 352 = J 352 := wq.1.1 352 (by omega)
  refine T_istore 1678 rfl dL_law_1676 (by decide) ?_
  refine T_aload_n 1679 rfl dL_law_1678 rfl ?_
  refine TJ_arg 1 hS dL_law_1679 dL_law_1680 dL_law_1682 dL_law_1683 dL_law_1684 (by omega) hi rfl rfl ?_
  rw [e1]
  refine TJ_arg 2 hS dL_law_1685 dL_law_1686 dL_law_1688 dL_law_1689 dL_law_1690 (by omega) hi rfl rfl ?_
  rw [e2]
  have hm := S_X11_knockAt (g := g) (J := J1) (f := J 352) hw (by have := h.1.2.2.2.2.2; omega) h1 h2
  rw [LI_f h e52] at hm
  refine TJ_callM (As := [_, _]) 351 kalX11_knockAt lkL_245 dL_law_1691 (by omega) rfl rfl rfl rfl (by exact Nat.le_of_ble_eq_true rfl) (by omega) (Nat.zero_le _) (Nat.zero_le _) hm (fun v J2 q => ?_)
  obtain ⟨r, rfl, q⟩ := q
  refine T_istore 1696 rfl dL_law_1694 (by decide) ?_
  have fin := Q_fin h wq q (by obtain ⟨d1, d2, d3, d4, d5, d6, d7, d8, d9, d10, d11, d12, d13, d14, d15⟩ := cd_all; unfold qKa; (repeat' split) <;> first | (intro z; exact absurd rfl z) | (intro _; refine ⟨by assumption, by omega, by omega⟩) | (intro _; exfalso; omega))
  exact TJ_tail ⟨dL_law_1696, dL_law_1697, dL_law_1700, dL_law_1702, dL_law_1707, dL_law_1709, dL_law_1712, dL_law_1713, dL_law_1714, dL_law_1715, dL_law_1717, dL_law_1718, dL_law_1719, dL_law_1724, by decide⟩ fin.2.1 fin.2.2.1 fin.2.2.2 (T_more (by omega) (by omega) (next J2 (LI_le fin.1 (by omega) hB)))
theorem op_32 {g : Gn} {S : State → Prop} {b Ln i kc ks B : Nat} {xs : Nat → Int32} {J : DJ} (hS : ScrS g S b Ln xs) (hi : i + 3 < Ln) (h : LI J B) (hB : B + 39000 < 40000000) (hkc : 34 ≤ kc) (hks : 204 ≤ ks) (next : ∀ J2, LI J2 (B + 39000) → TJ g S (kc - 34) (ks - 204) 3074 (LL g b i) [] J2) : TJ g S kc ks 2068 (LL g b i) [] J := by
  have hw := h.1.2.1
  obtain ⟨a1, h1, e1⟩ := nI_all (xs (i + 1))
  refine T_aload_n 2069 rfl dL_law_2068 rfl ?_
  refine TJ_arg 1 hS dL_law_2069 dL_law_2070 dL_law_2072 dL_law_2073 dL_law_2074 (by omega) hi rfl rfl ?_
  rw [e1]
  refine T_aload_n 2076 rfl dL_law_2075 rfl ?_
  refine TJ_callW (As := [_, _, _]) kalL_keeperOf lkL_271 dL_law_2076 rfl rfl (by exact Nat.le_of_ble_eq_true rfl) (by omega) (by omega) (WL_keeperOf (S_X10_keeperOf h.1 h1) (by omega) (by omega) (by omega) (fun v J' q => ⟨_, q.2.1⟩) (fun E J' q => by obtain ⟨f0, ee, -⟩ := q; rw [ee]; revert f0; unfold qKe; (repeat' split) <;> first | (intro z; exact absurd rfl z) | (intro _; decide +kernel))) (fun v J1 w => ?_)
  obtain ⟨c, ev, wq⟩ := WP_q w
  subst ev
  have e52 : J1 352 = J 352 := wq.1.1 352 (by omega)
  refine T_istore 2081 rfl dL_law_2079 (by decide) ?_
  refine T_aload_n 2082 rfl dL_law_2081 rfl ?_
  refine TJ_arg 1 hS dL_law_2082 dL_law_2083 dL_law_2085 dL_law_2086 dL_law_2087 (by omega) hi rfl rfl ?_
  rw [e1]
  have hm := S_X11_keeperOf (g := g) (J := J1) (f := J 352) hw (by have := h.1.2.2.2.2.2; omega) h1
  rw [LI_f h e52] at hm
  refine TJ_callM (As := [_]) 351 kalX11_keeperOf lkL_273 dL_law_2088 (by omega) rfl rfl rfl rfl (by exact Nat.le_of_ble_eq_true rfl) (by omega) (Nat.zero_le _) (Nat.zero_le _) hm (fun v J2 q => ?_)
  obtain ⟨r, rfl, q⟩ := q
  refine T_istore 2093 rfl dL_law_2091 (by decide) ?_
  have fin := Q_fin h wq q (by obtain ⟨d1, d2, d3, d4, d5, d6, d7, d8, d9, d10, d11, d12, d13, d14, d15⟩ := cd_all; unfold qKe; (repeat' split) <;> first | (intro z; exact absurd rfl z) | (intro _; refine ⟨by assumption, by omega, by omega⟩) | (intro _; exfalso; omega))
  exact TJ_tail ⟨dL_law_2093, dL_law_2094, dL_law_2097, dL_law_2099, dL_law_2104, dL_law_2106, dL_law_2109, dL_law_2110, dL_law_2111, dL_law_2112, dL_law_2114, dL_law_2115, dL_law_2116, dL_law_2121, by decide⟩ fin.2.1 fin.2.2.1 fin.2.2.2 (T_more (by omega) (by omega) (next J2 (LI_le fin.1 (by omega) hB)))
theorem op_0 {g : Gn} {S : State → Prop} {b Ln i kc ks B : Nat} {xs : Nat → Int32} {J : DJ} (hS : ScrS g S b Ln xs) (hi : i + 3 < Ln) (h : LI J B) (hB : B + 39000 < 40000000) (hkc : 34 ≤ kc) (hks : 204 ≤ ks) (next : ∀ J2, LI J2 (B + 39000) → TJ g S (kc - 34) (ks - 204) 3074 (LL g b i) [] J2) : TJ g S kc ks 288 (LL g b i) [] J := by
  have hw := h.1.2.1
  obtain ⟨a1, h1, e1⟩ := nI_all (xs (i + 1))
  refine T_aload_n 289 rfl dL_law_288 rfl ?_
  refine TJ_arg 1 hS dL_law_289 dL_law_290 dL_law_292 dL_law_293 dL_law_294 (by omega) hi rfl rfl ?_
  rw [e1]
  refine T_aload_n 296 rfl dL_law_295 rfl ?_
  refine TJ_callW (As := [_, _, _]) kalL_addEngine lkL_160 dL_law_296 rfl rfl (by exact Nat.le_of_ble_eq_true rfl) (by omega) (by omega) (WL_addEngine (S_X10_addEngine h.1 h1) (by omega) (by omega) (by omega) (fun v J' q => ⟨_, q.2.1⟩) (fun E J' q => by obtain ⟨f0, ee, -⟩ := q; rw [ee]; revert f0; unfold fE; (repeat' split) <;> first | (intro z; exact absurd rfl z) | (intro _; decide +kernel))) (fun v J1 w => ?_)
  obtain ⟨c, ev, wq⟩ := WP_c w
  subst ev
  have e52 : J1 352 = J 352 := WC_k wq 352 (by omega) (by omega) (by omega)
  refine T_istore 301 rfl dL_law_299 (by decide) ?_
  refine T_aload_n 302 rfl dL_law_301 rfl ?_
  refine TJ_arg 1 hS dL_law_302 dL_law_303 dL_law_305 dL_law_306 dL_law_307 (by omega) hi rfl rfl ?_
  rw [e1]
  have hm := S_X11_addEngine (g := g) (J := J1) (B := B) (by rw [e52]; exact hw) (by omega) (by rw [WC_k wq 351 (by omega) (by omega) (by omega)]; exact h.1.2.2.1.2.1) h1
  rw [e52] at hm
  refine TJ_callM (As := [_]) 351 kalX11_addEngine lkL_165 dL_law_308 (by omega) rfl rfl rfl rfl (by exact Nat.le_of_ble_eq_true rfl) (by omega) (Nat.zero_le _) (Nat.zero_le _) hm (fun v J2 q => ?_)
  obtain ⟨r, rfl, q⟩ := q
  refine T_istore 313 rfl dL_law_311 (by decide) ?_
  have fin := C_fin h wq q (fun z => xC_WF (k := 0) (l := fun j => [a1].getD j 0) hw (by omega) z) (by omega) (by obtain ⟨d1, d2, d3, d4, d5, d6, d7, d8, d9, d10, d11, d12, d13, d14, d15⟩ := cd_all; unfold fE; (repeat' split) <;> first | (intro z; exact absurd rfl z) | (intro _; refine ⟨by assumption, by omega, by omega⟩) | (intro _; exfalso; omega))
  exact TJ_tail ⟨dL_law_313, dL_law_314, dL_law_317, dL_law_319, dL_law_324, dL_law_326, dL_law_329, dL_law_330, dL_law_331, dL_law_332, dL_law_334, dL_law_335, dL_law_336, dL_law_341, by decide⟩ fin.2.1 fin.2.2.1 fin.2.2.2 (T_more (by omega) (by omega) (next J2 (LI_le fin.1 (by omega) hB)))
theorem op_1 {g : Gn} {S : State → Prop} {b Ln i kc ks B : Nat} {xs : Nat → Int32} {J : DJ} (hS : ScrS g S b Ln xs) (hi : i + 3 < Ln) (h : LI J B) (hB : B + 39000 < 40000000) (hkc : 34 ≤ kc) (hks : 204 ≤ ks) (next : ∀ J2, LI J2 (B + 39000) → TJ g S (kc - 34) (ks - 204) 3074 (LL g b i) [] J2) : TJ g S kc ks 344 (LL g b i) [] J := by
  have hw := h.1.2.1
  obtain ⟨a1, h1, e1⟩ := nI_all (xs (i + 1))
  obtain ⟨a2, h2, e2⟩ := nI_all (xs (i + 2))
  obtain ⟨a3, h3, e3⟩ := nI_all (xs (i + 3))
  refine T_aload_n 345 rfl dL_law_344 rfl ?_
  refine TJ_arg 1 hS dL_law_345 dL_law_346 dL_law_348 dL_law_349 dL_law_350 (by omega) hi rfl rfl ?_
  rw [e1]
  refine TJ_arg 2 hS dL_law_351 dL_law_352 dL_law_354 dL_law_355 dL_law_356 (by omega) hi rfl rfl ?_
  rw [e2]
  refine TJ_arg 3 hS dL_law_357 dL_law_358 dL_law_360 dL_law_361 dL_law_362 (by omega) hi rfl rfl ?_
  rw [e3]
  refine T_aload_n 364 rfl dL_law_363 rfl ?_
  refine TJ_callW (As := [_, _, _, _, _]) kalL_exchange lkL_169 dL_law_364 rfl rfl (by exact Nat.le_of_ble_eq_true rfl) (by omega) (by omega) (WL_exchange (S_X10_exchange h.1 h1 h2 h3) (by omega) (by omega) (by omega) (fun v J' q => ⟨_, q.2.1⟩) (fun E J' q => by obtain ⟨f0, ee, -⟩ := q; rw [ee]; revert f0; unfold fSwap; (repeat' split) <;> first | (intro z; exact absurd rfl z) | (intro _; decide +kernel))) (fun v J1 w => ?_)
  obtain ⟨c, ev, wq⟩ := WP_c w
  subst ev
  have e52 : J1 352 = J 352 := WC_k wq 352 (by omega) (by omega) (by omega)
  refine T_istore 369 rfl dL_law_367 (by decide) ?_
  refine T_aload_n 370 rfl dL_law_369 rfl ?_
  refine TJ_arg 1 hS dL_law_370 dL_law_371 dL_law_373 dL_law_374 dL_law_375 (by omega) hi rfl rfl ?_
  rw [e1]
  refine TJ_arg 2 hS dL_law_376 dL_law_377 dL_law_379 dL_law_380 dL_law_381 (by omega) hi rfl rfl ?_
  rw [e2]
  refine TJ_arg 3 hS dL_law_382 dL_law_383 dL_law_385 dL_law_386 dL_law_387 (by omega) hi rfl rfl ?_
  rw [e3]
  have hm := S_X11_exchange (g := g) (J := J1) (B := B) (by rw [e52]; exact hw) (by omega) (by rw [WC_k wq 351 (by omega) (by omega) (by omega)]; exact h.1.2.2.1.2.1) h1 h2 h3
  rw [e52] at hm
  refine TJ_callM (As := [_, _, _]) 351 kalX11_exchange lkL_172 dL_law_388 (by omega) rfl rfl rfl rfl (by exact Nat.le_of_ble_eq_true rfl) (by omega) (Nat.zero_le _) (Nat.zero_le _) hm (fun v J2 q => ?_)
  obtain ⟨r, rfl, q⟩ := q
  refine T_istore 393 rfl dL_law_391 (by decide) ?_
  have fin := C_fin h wq q (fun z => xC_WF (k := 1) (l := fun j => [a1, a2, a3].getD j 0) hw (by omega) z) (by omega) (by obtain ⟨d1, d2, d3, d4, d5, d6, d7, d8, d9, d10, d11, d12, d13, d14, d15⟩ := cd_all; unfold fSwap; (repeat' split) <;> first | (intro z; exact absurd rfl z) | (intro _; refine ⟨by assumption, by omega, by omega⟩) | (intro _; exfalso; omega))
  exact TJ_tail ⟨dL_law_393, dL_law_394, dL_law_397, dL_law_399, dL_law_404, dL_law_406, dL_law_409, dL_law_410, dL_law_411, dL_law_412, dL_law_414, dL_law_415, dL_law_416, dL_law_421, by decide⟩ fin.2.1 fin.2.2.1 fin.2.2.2 (T_more (by omega) (by omega) (next J2 (LI_le fin.1 (by omega) hB)))
theorem op_2 {g : Gn} {S : State → Prop} {b Ln i kc ks B : Nat} {xs : Nat → Int32} {J : DJ} (hS : ScrS g S b Ln xs) (hi : i + 3 < Ln) (h : LI J B) (hB : B + 39000 < 40000000) (hkc : 34 ≤ kc) (hks : 204 ≤ ks) (next : ∀ J2, LI J2 (B + 39000) → TJ g S (kc - 34) (ks - 204) 3074 (LL g b i) [] J2) : TJ g S kc ks 424 (LL g b i) [] J := by
  have hw := h.1.2.1
  obtain ⟨a1, h1, e1⟩ := nI_all (xs (i + 1))
  obtain ⟨a2, h2, e2⟩ := nI_all (xs (i + 2))
  refine T_aload_n 425 rfl dL_law_424 rfl ?_
  refine TJ_arg 1 hS dL_law_425 dL_law_426 dL_law_428 dL_law_429 dL_law_430 (by omega) hi rfl rfl ?_
  rw [e1]
  refine TJ_arg 2 hS dL_law_431 dL_law_432 dL_law_434 dL_law_435 dL_law_436 (by omega) hi rfl rfl ?_
  rw [e2]
  refine T_aload_n 438 rfl dL_law_437 rfl ?_
  refine TJ_callW (As := [_, _, _, _]) kalL_setRate lkL_173 dL_law_438 rfl rfl (by exact Nat.le_of_ble_eq_true rfl) (by omega) (by omega) (WL_setRate (S_X10_setRate h.1 h1 h2) (by omega) (by omega) (by omega) (fun v J' q => ⟨_, q.2.1⟩) (fun E J' q => by obtain ⟨f0, ee, -⟩ := q; rw [ee]; revert f0; unfold fRate; (repeat' split) <;> first | (intro z; exact absurd rfl z) | (intro _; decide +kernel))) (fun v J1 w => ?_)
  obtain ⟨c, ev, wq⟩ := WP_c w
  subst ev
  have e52 : J1 352 = J 352 := WC_k wq 352 (by omega) (by omega) (by omega)
  refine T_istore 443 rfl dL_law_441 (by decide) ?_
  refine T_aload_n 444 rfl dL_law_443 rfl ?_
  refine TJ_arg 1 hS dL_law_444 dL_law_445 dL_law_447 dL_law_448 dL_law_449 (by omega) hi rfl rfl ?_
  rw [e1]
  refine TJ_arg 2 hS dL_law_450 dL_law_451 dL_law_453 dL_law_454 dL_law_455 (by omega) hi rfl rfl ?_
  rw [e2]
  have hm := S_X11_setRate (g := g) (J := J1) (B := B) (by rw [e52]; exact hw) (by omega) (by rw [WC_k wq 351 (by omega) (by omega) (by omega)]; exact h.1.2.2.1.2.1) h1 h2
  rw [e52] at hm
  refine TJ_callM (As := [_, _]) 351 kalX11_setRate lkL_176 dL_law_456 (by omega) rfl rfl rfl rfl (by exact Nat.le_of_ble_eq_true rfl) (by omega) (Nat.zero_le _) (Nat.zero_le _) hm (fun v J2 q => ?_)
  obtain ⟨r, rfl, q⟩ := q
  refine T_istore 461 rfl dL_law_459 (by decide) ?_
  have fin := C_fin h wq q (fun z => xC_WF (k := 2) (l := fun j => [a1, a2].getD j 0) hw (by omega) z) (by omega) (by obtain ⟨d1, d2, d3, d4, d5, d6, d7, d8, d9, d10, d11, d12, d13, d14, d15⟩ := cd_all; unfold fRate; (repeat' split) <;> first | (intro z; exact absurd rfl z) | (intro _; refine ⟨by assumption, by omega, by omega⟩) | (intro _; exfalso; omega))
  exact TJ_tail ⟨dL_law_461, dL_law_462, dL_law_465, dL_law_467, dL_law_472, dL_law_474, dL_law_477, dL_law_478, dL_law_479, dL_law_480, dL_law_482, dL_law_483, dL_law_484, dL_law_489, by decide⟩ fin.2.1 fin.2.2.1 fin.2.2.2 (T_more (by omega) (by omega) (next J2 (LI_le fin.1 (by omega) hB)))
theorem op_13 {g : Gn} {S : State → Prop} {b Ln i kc ks B : Nat} {xs : Nat → Int32} {J : DJ} (hS : ScrS g S b Ln xs) (hi : i + 3 < Ln) (h : LI J B) (hB : B + 39000 < 40000000) (hkc : 34 ≤ kc) (hks : 204 ≤ ks) (next : ∀ J2, LI J2 (B + 39000) → TJ g S (kc - 34) (ks - 204) 3074 (LL g b i) [] J2) : TJ g S kc ks 1069 (LL g b i) [] J := by
  have hw := h.1.2.1
  obtain ⟨a1, h1, e1⟩ := nI_all (xs (i + 1))
  obtain ⟨a2, h2, e2⟩ := nI_all (xs (i + 2))
  refine T_aload_n 1070 rfl dL_law_1069 rfl ?_
  refine TJ_arg 1 hS dL_law_1070 dL_law_1071 dL_law_1073 dL_law_1074 dL_law_1075 (by omega) hi rfl rfl ?_
  rw [e1]
  refine TJ_arg 2 hS dL_law_1076 dL_law_1077 dL_law_1079 dL_law_1080 dL_law_1081 (by omega) hi rfl rfl ?_
  rw [e2]
  refine T_aload_n 1083 rfl dL_law_1082 rfl ?_
  refine TJ_callW (As := [_, _, _, _]) kalL_run lkL_208 dL_law_1083 rfl rfl (by exact Nat.le_of_ble_eq_true rfl) (by omega) (by omega) (WL_run (S_X10_run h.1 h1 h2) (by omega) (by omega) (by omega) (fun v J' q => ⟨_, q.2.1⟩) (fun E J' q => by obtain ⟨f0, ee, -⟩ := q; rw [ee]; revert f0; unfold fRun; (repeat' split) <;> first | (intro z; exact absurd rfl z) | (intro _; decide +kernel))) (fun v J1 w => ?_)
  obtain ⟨c, ev, wq⟩ := WP_c w
  subst ev
  have e52 : J1 352 = J 352 := WC_k wq 352 (by omega) (by omega) (by omega)
  refine T_istore 1088 rfl dL_law_1086 (by decide) ?_
  refine T_aload_n 1089 rfl dL_law_1088 rfl ?_
  refine TJ_arg 1 hS dL_law_1089 dL_law_1090 dL_law_1092 dL_law_1093 dL_law_1094 (by omega) hi rfl rfl ?_
  rw [e1]
  refine TJ_arg 2 hS dL_law_1095 dL_law_1096 dL_law_1098 dL_law_1099 dL_law_1100 (by omega) hi rfl rfl ?_
  rw [e2]
  have hm := S_X11_run (g := g) (J := J1) (B := B) (by rw [e52]; exact hw) (by omega) (by rw [WC_k wq 351 (by omega) (by omega) (by omega)]; exact h.1.2.2.1.2.1) h1 h2
  rw [e52] at hm
  refine TJ_callM (As := [_, _]) 351 kalX11_run lkL_210 dL_law_1101 (by omega) rfl rfl rfl rfl (by exact Nat.le_of_ble_eq_true rfl) (by omega) (Nat.zero_le _) (Nat.zero_le _) hm (fun v J2 q => ?_)
  obtain ⟨r, rfl, q⟩ := q
  refine T_istore 1106 rfl dL_law_1104 (by decide) ?_
  have fin := C_fin h wq q (fun z => xC_WF (k := 3) (l := fun j => [a1, a2].getD j 0) hw (by omega) z) (by omega) (by obtain ⟨d1, d2, d3, d4, d5, d6, d7, d8, d9, d10, d11, d12, d13, d14, d15⟩ := cd_all; unfold fRun; (repeat' split) <;> first | (intro z; exact absurd rfl z) | (intro _; refine ⟨by assumption, by omega, by omega⟩) | (intro _; exfalso; omega))
  exact TJ_tail ⟨dL_law_1106, dL_law_1107, dL_law_1110, dL_law_1112, dL_law_1117, dL_law_1119, dL_law_1122, dL_law_1123, dL_law_1124, dL_law_1125, dL_law_1127, dL_law_1128, dL_law_1129, dL_law_1134, by decide⟩ fin.2.1 fin.2.2.1 fin.2.2.2 (T_more (by omega) (by omega) (next J2 (LI_le fin.1 (by omega) hB)))
theorem op_14 {g : Gn} {S : State → Prop} {b Ln i kc ks B : Nat} {xs : Nat → Int32} {J : DJ} (hS : ScrS g S b Ln xs) (hi : i + 3 < Ln) (h : LI J B) (hB : B + 39000 < 40000000) (hkc : 34 ≤ kc) (hks : 204 ≤ ks) (next : ∀ J2, LI J2 (B + 39000) → TJ g S (kc - 34) (ks - 204) 3074 (LL g b i) [] J2) : TJ g S kc ks 1137 (LL g b i) [] J := by
  have hw := h.1.2.1
  obtain ⟨a1, h1, e1⟩ := nI_all (xs (i + 1))
  obtain ⟨a2, h2, e2⟩ := nI_all (xs (i + 2))
  obtain ⟨a3, h3, e3⟩ := nI_all (xs (i + 3))
  refine T_aload_n 1138 rfl dL_law_1137 rfl ?_
  refine TJ_arg 1 hS dL_law_1138 dL_law_1139 dL_law_1141 dL_law_1142 dL_law_1143 (by omega) hi rfl rfl ?_
  rw [e1]
  refine TJ_arg 2 hS dL_law_1144 dL_law_1145 dL_law_1147 dL_law_1148 dL_law_1149 (by omega) hi rfl rfl ?_
  rw [e2]
  refine TJ_arg 3 hS dL_law_1150 dL_law_1151 dL_law_1153 dL_law_1154 dL_law_1155 (by omega) hi rfl rfl ?_
  rw [e3]
  refine T_aload_n 1157 rfl dL_law_1156 rfl ?_
  refine TJ_callW (As := [_, _, _, _, _]) kalL_oil lkL_211 dL_law_1157 rfl rfl (by exact Nat.le_of_ble_eq_true rfl) (by omega) (by omega) (WL_oil (S_X10_oil h.1 h1 h2 h3) (by omega) (by omega) (by omega) (fun v J' q => ⟨_, q.2.1⟩) (fun E J' q => by obtain ⟨f0, ee, -⟩ := q; rw [ee]; revert f0; unfold fOil; (repeat' split) <;> first | (intro z; exact absurd rfl z) | (intro _; decide +kernel))) (fun v J1 w => ?_)
  obtain ⟨c, ev, wq⟩ := WP_c w
  subst ev
  have e52 : J1 352 = J 352 := WC_k wq 352 (by omega) (by omega) (by omega)
  refine T_istore 1162 rfl dL_law_1160 (by decide) ?_
  refine T_aload_n 1163 rfl dL_law_1162 rfl ?_
  refine TJ_arg 1 hS dL_law_1163 dL_law_1164 dL_law_1166 dL_law_1167 dL_law_1168 (by omega) hi rfl rfl ?_
  rw [e1]
  refine TJ_arg 2 hS dL_law_1169 dL_law_1170 dL_law_1172 dL_law_1173 dL_law_1174 (by omega) hi rfl rfl ?_
  rw [e2]
  refine TJ_arg 3 hS dL_law_1175 dL_law_1176 dL_law_1178 dL_law_1179 dL_law_1180 (by omega) hi rfl rfl ?_
  rw [e3]
  have hm := S_X11_oil (g := g) (J := J1) (B := B) (by rw [e52]; exact hw) (by omega) (by rw [WC_k wq 351 (by omega) (by omega) (by omega)]; exact h.1.2.2.1.2.1) h1 h2 h3
  rw [e52] at hm
  refine TJ_callM (As := [_, _, _]) 351 kalX11_oil lkL_213 dL_law_1181 (by omega) rfl rfl rfl rfl (by exact Nat.le_of_ble_eq_true rfl) (by omega) (Nat.zero_le _) (Nat.zero_le _) hm (fun v J2 q => ?_)
  obtain ⟨r, rfl, q⟩ := q
  refine T_istore 1186 rfl dL_law_1184 (by decide) ?_
  have fin := C_fin h wq q (fun z => xC_WF (k := 4) (l := fun j => [a1, a2, a3].getD j 0) hw (by omega) z) (by omega) (by obtain ⟨d1, d2, d3, d4, d5, d6, d7, d8, d9, d10, d11, d12, d13, d14, d15⟩ := cd_all; unfold fOil; (repeat' split) <;> first | (intro z; exact absurd rfl z) | (intro _; refine ⟨by assumption, by omega, by omega⟩) | (intro _; exfalso; omega))
  exact TJ_tail ⟨dL_law_1186, dL_law_1187, dL_law_1190, dL_law_1192, dL_law_1197, dL_law_1199, dL_law_1202, dL_law_1203, dL_law_1204, dL_law_1205, dL_law_1207, dL_law_1208, dL_law_1209, dL_law_1214, by decide⟩ fin.2.1 fin.2.2.1 fin.2.2.2 (T_more (by omega) (by omega) (next J2 (LI_le fin.1 (by omega) hB)))
theorem op_15 {g : Gn} {S : State → Prop} {b Ln i kc ks B : Nat} {xs : Nat → Int32} {J : DJ} (hS : ScrS g S b Ln xs) (hi : i + 3 < Ln) (h : LI J B) (hB : B + 39000 < 40000000) (hkc : 34 ≤ kc) (hks : 204 ≤ ks) (next : ∀ J2, LI J2 (B + 39000) → TJ g S (kc - 34) (ks - 204) 3074 (LL g b i) [] J2) : TJ g S kc ks 1217 (LL g b i) [] J := by
  have hw := h.1.2.1
  obtain ⟨a1, h1, e1⟩ := nI_all (xs (i + 1))
  refine T_aload_n 1218 rfl dL_law_1217 rfl ?_
  refine TJ_arg 1 hS dL_law_1218 dL_law_1219 dL_law_1221 dL_law_1222 dL_law_1223 (by omega) hi rfl rfl ?_
  rw [e1]
  refine T_aload_n 1225 rfl dL_law_1224 rfl ?_
  refine TJ_callW (As := [_, _, _]) kalL_oilDriest lkL_214 dL_law_1225 rfl rfl (by exact Nat.le_of_ble_eq_true rfl) (by omega) (by omega) (WL_oilDriest (S_X10_oilDriest h.1 h1) (by omega) (by omega) (by omega) (fun v J' q => ⟨_, q.2.1⟩) (fun E J' q => by obtain ⟨f0, ee, -⟩ := q; rw [ee]; revert f0; unfold fFill; (repeat' split) <;> first | (intro z; exact absurd rfl z) | (intro _; decide +kernel))) (fun v J1 w => ?_)
  obtain ⟨c, ev, wq⟩ := WP_c w
  subst ev
  have e52 : J1 352 = J 352 := WC_k wq 352 (by omega) (by omega) (by omega)
  refine T_istore 1230 rfl dL_law_1228 (by decide) ?_
  refine T_aload_n 1231 rfl dL_law_1230 rfl ?_
  refine TJ_arg 1 hS dL_law_1231 dL_law_1232 dL_law_1234 dL_law_1235 dL_law_1236 (by omega) hi rfl rfl ?_
  rw [e1]
  have hm := S_X11_oilDriest (g := g) (J := J1) (B := B) (by rw [e52]; exact hw) (by omega) (by rw [WC_k wq 351 (by omega) (by omega) (by omega)]; exact h.1.2.2.1.2.1) h1
  rw [e52] at hm
  refine TJ_callM (As := [_]) 351 kalX11_oilDriest lkL_216 dL_law_1237 (by omega) rfl rfl rfl rfl (by exact Nat.le_of_ble_eq_true rfl) (by omega) (Nat.zero_le _) (Nat.zero_le _) hm (fun v J2 q => ?_)
  obtain ⟨r, rfl, q⟩ := q
  refine T_istore 1242 rfl dL_law_1240 (by decide) ?_
  have fin := C_fin h wq q (fun z => xC_WF (k := 5) (l := fun j => [a1].getD j 0) hw (by omega) z) (by omega) (by obtain ⟨d1, d2, d3, d4, d5, d6, d7, d8, d9, d10, d11, d12, d13, d14, d15⟩ := cd_all; unfold fFill; (repeat' split) <;> first | (intro z; exact absurd rfl z) | (intro _; refine ⟨by assumption, by omega, by omega⟩) | (intro _; exfalso; omega))
  exact TJ_tail ⟨dL_law_1242, dL_law_1243, dL_law_1246, dL_law_1248, dL_law_1253, dL_law_1255, dL_law_1258, dL_law_1259, dL_law_1260, dL_law_1261, dL_law_1263, dL_law_1264, dL_law_1265, dL_law_1270, by decide⟩ fin.2.1 fin.2.2.1 fin.2.2.2 (T_more (by omega) (by omega) (next J2 (LI_le fin.1 (by omega) hB)))
theorem op_18 {g : Gn} {S : State → Prop} {b Ln i kc ks B : Nat} {xs : Nat → Int32} {J : DJ} (hS : ScrS g S b Ln xs) (hi : i + 3 < Ln) (h : LI J B) (hB : B + 39000 < 40000000) (hkc : 34 ≤ kc) (hks : 204 ≤ ks) (next : ∀ J2, LI J2 (B + 39000) → TJ g S (kc - 34) (ks - 204) 3074 (LL g b i) [] J2) : TJ g S kc ks 1385 (LL g b i) [] J := by
  have hw := h.1.2.1
  obtain ⟨a1, h1, e1⟩ := nI_all (xs (i + 1))
  refine T_aload_n 1386 rfl dL_law_1385 rfl ?_
  refine TJ_arg 1 hS dL_law_1386 dL_law_1387 dL_law_1389 dL_law_1390 dL_law_1391 (by omega) hi rfl rfl ?_
  rw [e1]
  refine T_aload_n 1393 rfl dL_law_1392 rfl ?_
  refine TJ_callW (As := [_, _, _]) kalL_buyOil lkL_223 dL_law_1393 rfl rfl (by exact Nat.le_of_ble_eq_true rfl) (by omega) (by omega) (WL_buyOil (S_X10_buyOil h.1 h1) (by omega) (by omega) (by omega) (fun v J' q => ⟨_, q.2.1⟩) (fun E J' q => by obtain ⟨f0, ee, -⟩ := q; rw [ee]; revert f0; unfold fBuy; (repeat' split) <;> first | (intro z; exact absurd rfl z) | (intro _; decide +kernel))) (fun v J1 w => ?_)
  obtain ⟨c, ev, wq⟩ := WP_c w
  subst ev
  have e52 : J1 352 = J 352 := WC_k wq 352 (by omega) (by omega) (by omega)
  refine T_istore 1398 rfl dL_law_1396 (by decide) ?_
  refine T_aload_n 1399 rfl dL_law_1398 rfl ?_
  refine TJ_arg 1 hS dL_law_1399 dL_law_1400 dL_law_1402 dL_law_1403 dL_law_1404 (by omega) hi rfl rfl ?_
  rw [e1]
  have hm := S_X11_buyOil (g := g) (J := J1) (B := B) (by rw [e52]; exact hw) (by omega) (by rw [WC_k wq 351 (by omega) (by omega) (by omega)]; exact h.1.2.2.1.2.1) h1
  rw [e52] at hm
  refine TJ_callM (As := [_]) 351 kalX11_buyOil lkL_225 dL_law_1405 (by omega) rfl rfl rfl rfl (by exact Nat.le_of_ble_eq_true rfl) (by omega) (Nat.zero_le _) (Nat.zero_le _) hm (fun v J2 q => ?_)
  obtain ⟨r, rfl, q⟩ := q
  refine T_istore 1410 rfl dL_law_1408 (by decide) ?_
  have fin := C_fin h wq q (fun z => xC_WF (k := 6) (l := fun j => [a1].getD j 0) hw (by omega) z) (by omega) (by obtain ⟨d1, d2, d3, d4, d5, d6, d7, d8, d9, d10, d11, d12, d13, d14, d15⟩ := cd_all; unfold fBuy; (repeat' split) <;> first | (intro z; exact absurd rfl z) | (intro _; refine ⟨by assumption, by omega, by omega⟩) | (intro _; exfalso; omega))
  exact TJ_tail ⟨dL_law_1410, dL_law_1411, dL_law_1414, dL_law_1416, dL_law_1421, dL_law_1423, dL_law_1426, dL_law_1427, dL_law_1428, dL_law_1429, dL_law_1431, dL_law_1432, dL_law_1433, dL_law_1438, by decide⟩ fin.2.1 fin.2.2.1 fin.2.2.2 (T_more (by omega) (by omega) (next J2 (LI_le fin.1 (by omega) hB)))
theorem op_28 {g : Gn} {S : State → Prop} {b Ln i kc ks B : Nat} {xs : Nat → Int32} {J : DJ} (hS : ScrS g S b Ln xs) (hi : i + 3 < Ln) (h : LI J B) (hB : B + 39000 < 40000000) (hkc : 34 ≤ kc) (hks : 204 ≤ ks) (next : ∀ J2, LI J2 (B + 39000) → TJ g S (kc - 34) (ks - 204) 3074 (LL g b i) [] J2) : TJ g S kc ks 1895 (LL g b i) [] J := by
  have hw := h.1.2.1
  refine T_aload_n 1896 rfl dL_law_1895 rfl ?_
  refine T_aload_n 1897 rfl dL_law_1896 rfl ?_
  refine TJ_callW (As := [_, _]) kalL_addMonk lkL_255 dL_law_1897 rfl rfl (by exact Nat.le_of_ble_eq_true rfl) (by omega) (by omega) (WL_addMonk (S_X10_addMonk h.1) (by omega) (by omega) (by omega) (fun v J' q => ⟨_, q.2.1⟩) (fun E J' q => by obtain ⟨f0, ee, -⟩ := q; rw [ee]; revert f0; unfold fMonk; (repeat' split) <;> first | (intro z; exact absurd rfl z) | (intro _; decide +kernel))) (fun v J1 w => ?_)
  obtain ⟨c, ev, wq⟩ := WP_c w
  subst ev
  have e52 : J1 352 = J 352 := WC_k wq 352 (by omega) (by omega) (by omega)
  refine T_istore 1902 rfl dL_law_1900 (by decide) ?_
  refine T_aload_n 1903 rfl dL_law_1902 rfl ?_
  have hm := S_X11_addMonk (g := g) (J := J1) (B := B) (by rw [e52]; exact hw) (by omega) (by rw [WC_k wq 351 (by omega) (by omega) (by omega)]; exact h.1.2.2.1.2.1)
  rw [e52] at hm
  refine TJ_callM (As := []) 351 kalX11_addMonk lkL_258 dL_law_1903 (by omega) rfl rfl rfl rfl (by exact Nat.le_of_ble_eq_true rfl) (by omega) (Nat.zero_le _) (Nat.zero_le _) hm (fun v J2 q => ?_)
  obtain ⟨r, rfl, q⟩ := q
  refine T_istore 1908 rfl dL_law_1906 (by decide) ?_
  have fin := C_fin h wq q (fun z => xC_WF (k := 7) (l := fun _ => 0) hw (by omega) z) (by omega) (by obtain ⟨d1, d2, d3, d4, d5, d6, d7, d8, d9, d10, d11, d12, d13, d14, d15⟩ := cd_all; unfold fMonk; (repeat' split) <;> first | (intro z; exact absurd rfl z) | (intro _; refine ⟨by assumption, by omega, by omega⟩) | (intro _; exfalso; omega))
  exact TJ_tail ⟨dL_law_1908, dL_law_1909, dL_law_1912, dL_law_1914, dL_law_1919, dL_law_1921, dL_law_1924, dL_law_1925, dL_law_1926, dL_law_1927, dL_law_1929, dL_law_1930, dL_law_1931, dL_law_1936, by decide⟩ fin.2.1 fin.2.2.1 fin.2.2.2 (T_more (by omega) (by omega) (next J2 (LI_le fin.1 (by omega) hB)))
theorem op_33 {g : Gn} {S : State → Prop} {b Ln i kc ks B : Nat} {xs : Nat → Int32} {J : DJ} (hS : ScrS g S b Ln xs) (hi : i + 3 < Ln) (h : LI J B) (hB : B + 39000 < 40000000) (hkc : 34 ≤ kc) (hks : 204 ≤ ks) (next : ∀ J2, LI J2 (B + 39000) → TJ g S (kc - 34) (ks - 204) 3074 (LL g b i) [] J2) : TJ g S kc ks 2124 (LL g b i) [] J := by
  have hw := h.1.2.1
  obtain ⟨a1, h1, e1⟩ := nI_all (xs (i + 1))
  obtain ⟨a2, h2, e2⟩ := nI_all (xs (i + 2))
  obtain ⟨a3, h3, e3⟩ := nI_all (xs (i + 3))
  refine T_aload_n 2125 rfl dL_law_2124 rfl ?_
  refine TJ_arg 1 hS dL_law_2125 dL_law_2126 dL_law_2128 dL_law_2129 dL_law_2130 (by omega) hi rfl rfl ?_
  rw [e1]
  refine TJ_arg 2 hS dL_law_2131 dL_law_2132 dL_law_2134 dL_law_2135 dL_law_2136 (by omega) hi rfl rfl ?_
  rw [e2]
  refine TJ_arg 3 hS dL_law_2137 dL_law_2138 dL_law_2140 dL_law_2141 dL_law_2142 (by omega) hi rfl rfl ?_
  rw [e3]
  refine T_aload_n 2144 rfl dL_law_2143 rfl ?_
  refine TJ_callW (As := [_, _, _, _, _]) kalL_addRepair lkL_274 dL_law_2144 rfl rfl (by exact Nat.le_of_ble_eq_true rfl) (by omega) (by omega) (WL_addRepair (S_X10_addRepair h.1 h1 h2 h3) (by omega) (by omega) (by omega) (fun v J' q => ⟨_, q.2.1⟩) (fun E J' q => by obtain ⟨f0, ee, -⟩ := q; rw [ee]; revert f0; unfold fMend; (repeat' split) <;> first | (intro z; exact absurd rfl z) | (intro _; decide +kernel))) (fun v J1 w => ?_)
  obtain ⟨c, ev, wq⟩ := WP_c w
  subst ev
  have e52 : J1 352 = J 352 := WC_k wq 352 (by omega) (by omega) (by omega)
  refine T_istore 2149 rfl dL_law_2147 (by decide) ?_
  refine T_aload_n 2150 rfl dL_law_2149 rfl ?_
  refine TJ_arg 1 hS dL_law_2150 dL_law_2151 dL_law_2153 dL_law_2154 dL_law_2155 (by omega) hi rfl rfl ?_
  rw [e1]
  refine TJ_arg 2 hS dL_law_2156 dL_law_2157 dL_law_2159 dL_law_2160 dL_law_2161 (by omega) hi rfl rfl ?_
  rw [e2]
  refine TJ_arg 3 hS dL_law_2162 dL_law_2163 dL_law_2165 dL_law_2166 dL_law_2167 (by omega) hi rfl rfl ?_
  rw [e3]
  have hm := S_X11_addRepair (g := g) (J := J1) (B := B) (by rw [e52]; exact hw) (by omega) (by rw [WC_k wq 351 (by omega) (by omega) (by omega)]; exact h.1.2.2.1.2.1) h1 h2 h3
  rw [e52] at hm
  refine TJ_callM (As := [_, _, _]) 351 kalX11_addRepair lkL_276 dL_law_2168 (by omega) rfl rfl rfl rfl (by exact Nat.le_of_ble_eq_true rfl) (by omega) (Nat.zero_le _) (Nat.zero_le _) hm (fun v J2 q => ?_)
  obtain ⟨r, rfl, q⟩ := q
  refine T_istore 2173 rfl dL_law_2171 (by decide) ?_
  have fin := C_fin h wq q (fun z => xC_WF (k := 9) (l := fun j => [a1, a2, a3].getD j 0) hw (by omega) z) (by omega) (by obtain ⟨d1, d2, d3, d4, d5, d6, d7, d8, d9, d10, d11, d12, d13, d14, d15⟩ := cd_all; unfold fMend; (repeat' split) <;> first | (intro z; exact absurd rfl z) | (intro _; refine ⟨by assumption, by omega, by omega⟩) | (intro _; exfalso; omega))
  exact TJ_tail ⟨dL_law_2173, dL_law_2174, dL_law_2177, dL_law_2179, dL_law_2184, dL_law_2186, dL_law_2189, dL_law_2190, dL_law_2191, dL_law_2192, dL_law_2194, dL_law_2195, dL_law_2196, dL_law_2201, by decide⟩ fin.2.1 fin.2.2.1 fin.2.2.2 (T_more (by omega) (by omega) (next J2 (LI_le fin.1 (by omega) hB)))
theorem op_34 {g : Gn} {S : State → Prop} {b Ln i kc ks B : Nat} {xs : Nat → Int32} {J : DJ} (hS : ScrS g S b Ln xs) (hi : i + 3 < Ln) (h : LI J B) (hB : B + 39000 < 40000000) (hkc : 34 ≤ kc) (hks : 204 ≤ ks) (next : ∀ J2, LI J2 (B + 39000) → TJ g S (kc - 34) (ks - 204) 3074 (LL g b i) [] J2) : TJ g S kc ks 2204 (LL g b i) [] J := by
  have hw := h.1.2.1
  obtain ⟨a1, h1, e1⟩ := nI_all (xs (i + 1))
  refine T_aload_n 2205 rfl dL_law_2204 rfl ?_
  refine TJ_arg 1 hS dL_law_2205 dL_law_2206 dL_law_2208 dL_law_2209 dL_law_2210 (by omega) hi rfl rfl ?_
  rw [e1]
  refine T_aload_n 2212 rfl dL_law_2211 rfl ?_
  refine TJ_callW (As := [_, _, _]) kalL_removeRepair lkL_277 dL_law_2212 rfl rfl (by exact Nat.le_of_ble_eq_true rfl) (by omega) (by omega) (WL_removeRepair (S_X10_removeRepair h.1 h1) (by omega) (by omega) (by omega) (fun v J' q => ⟨_, q.2.1⟩) (fun E J' q => by obtain ⟨f0, ee, -⟩ := q; rw [ee]; revert f0; unfold qRm; (repeat' split) <;> first | (intro z; exact absurd rfl z) | (intro _; decide +kernel))) (fun v J1 w => ?_)
  obtain ⟨c, ev, wq⟩ := WP_c w
  subst ev
  have e52 : J1 352 = J 352 := WC_k wq 352 (by omega) (by omega) (by omega)
  refine T_istore 2217 rfl dL_law_2215 (by decide) ?_
  refine T_aload_n 2218 rfl dL_law_2217 rfl ?_
  refine TJ_arg 1 hS dL_law_2218 dL_law_2219 dL_law_2221 dL_law_2222 dL_law_2223 (by omega) hi rfl rfl ?_
  rw [e1]
  have hm := S_X11_removeRepair (g := g) (J := J1) (B := B) (by rw [e52]; exact hw) (by omega) (by rw [WC_k wq 351 (by omega) (by omega) (by omega)]; exact h.1.2.2.1.2.1) h1
  rw [e52] at hm
  refine TJ_callM (As := [_]) 351 kalX11_removeRepair lkL_279 dL_law_2224 (by omega) rfl rfl rfl rfl (by exact Nat.le_of_ble_eq_true rfl) (by omega) (Nat.zero_le _) (Nat.zero_le _) hm (fun v J2 q => ?_)
  obtain ⟨r, rfl, q⟩ := q
  refine T_istore 2229 rfl dL_law_2227 (by decide) ?_
  have fin := C_fin h wq q (fun z => WF_le (mDrop_WF hw (by unfold qRm at z; split at z <;> omega)) (by omega)) (by omega) (by obtain ⟨d1, d2, d3, d4, d5, d6, d7, d8, d9, d10, d11, d12, d13, d14, d15⟩ := cd_all; unfold qRm; (repeat' split) <;> first | (intro z; exact absurd rfl z) | (intro _; refine ⟨by assumption, by omega, by omega⟩) | (intro _; exfalso; omega))
  exact TJ_tail ⟨dL_law_2229, dL_law_2230, dL_law_2233, dL_law_2235, dL_law_2240, dL_law_2242, dL_law_2245, dL_law_2246, dL_law_2247, dL_law_2248, dL_law_2250, dL_law_2251, dL_law_2252, dL_law_2257, by decide⟩ fin.2.1 fin.2.2.1 fin.2.2.2 (T_more (by omega) (by omega) (next J2 (LI_le fin.1 (by omega) hB)))
theorem op_38 {g : Gn} {S : State → Prop} {b Ln i kc ks B : Nat} {xs : Nat → Int32} {J : DJ} (hS : ScrS g S b Ln xs) (hi : i + 3 < Ln) (h : LI J B) (hB : B + 39000 < 40000000) (hkc : 34 ≤ kc) (hks : 204 ≤ ks) (next : ∀ J2, LI J2 (B + 39000) → TJ g S (kc - 34) (ks - 204) 3074 (LL g b i) [] J2) : TJ g S kc ks 2299 (LL g b i) [] J := by
  have hw := h.1.2.1
  refine T_aload_n 2300 rfl dL_law_2299 rfl ?_
  refine T_aload_n 2301 rfl dL_law_2300 rfl ?_
  refine TJ_callW (As := [_, _]) kalL_repair lkL_292 dL_law_2301 rfl rfl (by exact Nat.le_of_ble_eq_true rfl) (by omega) (by omega) (WL_repair (S_X10_repair h.1) (by omega) (by omega) (by omega) (fun v J' q => ⟨_, q.2.1⟩) (fun E J' q => by obtain ⟨f0, ee, -⟩ := q; rw [ee]; revert f0; unfold fRep; (repeat' split) <;> first | (intro z; exact absurd rfl z) | (intro _; decide +kernel))) (fun v J1 w => ?_)
  obtain ⟨c, ev, wq⟩ := WP_c w
  subst ev
  have e52 : J1 352 = J 352 := WC_k wq 352 (by omega) (by omega) (by omega)
  refine T_istore 2306 rfl dL_law_2304 (by decide) ?_
  refine T_aload_n 2307 rfl dL_law_2306 rfl ?_
  have hm := S_X11_repair (g := g) (J := J1) (B := B) (by rw [e52]; exact hw) (by omega) (by rw [WC_k wq 351 (by omega) (by omega) (by omega)]; exact h.1.2.2.1.2.1)
  rw [e52] at hm
  refine TJ_callM (As := []) 351 kalX11_repair lkL_294 dL_law_2307 (by omega) rfl rfl rfl rfl (by exact Nat.le_of_ble_eq_true rfl) (by omega) (Nat.zero_le _) (Nat.zero_le _) hm (fun v J2 q => ?_)
  obtain ⟨r, rfl, q⟩ := q
  refine T_istore 2312 rfl dL_law_2310 (by decide) ?_
  have fin := C_fin h wq q (fun z => xC_WF (k := 10) (l := fun _ => 0) hw (by omega) z) (by omega) (by obtain ⟨d1, d2, d3, d4, d5, d6, d7, d8, d9, d10, d11, d12, d13, d14, d15⟩ := cd_all; unfold fRep; (repeat' split) <;> first | (intro z; exact absurd rfl z) | (intro _; refine ⟨by assumption, by omega, by omega⟩) | (intro _; exfalso; omega))
  exact TJ_tail ⟨dL_law_2312, dL_law_2313, dL_law_2316, dL_law_2318, dL_law_2323, dL_law_2325, dL_law_2328, dL_law_2329, dL_law_2330, dL_law_2331, dL_law_2333, dL_law_2334, dL_law_2335, dL_law_2340, by decide⟩ fin.2.1 fin.2.2.1 fin.2.2.2 (T_more (by omega) (by omega) (next J2 (LI_le fin.1 (by omega) hB)))
theorem op_40 {g : Gn} {S : State → Prop} {b Ln i kc ks B : Nat} {xs : Nat → Int32} {J : DJ} (hS : ScrS g S b Ln xs) (hi : i + 3 < Ln) (h : LI J B) (hB : B + 39000 < 40000000) (hkc : 34 ≤ kc) (hks : 204 ≤ ks) (next : ∀ J2, LI J2 (B + 39000) → TJ g S (kc - 34) (ks - 204) 3074 (LL g b i) [] J2) : TJ g S kc ks 2356 (LL g b i) [] J := by
  have hw := h.1.2.1
  obtain ⟨a1, h1, e1⟩ := nI_all (xs (i + 1))
  refine T_aload_n 2357 rfl dL_law_2356 rfl ?_
  refine TJ_arg 1 hS dL_law_2357 dL_law_2358 dL_law_2360 dL_law_2361 dL_law_2362 (by omega) hi rfl rfl ?_
  rw [e1]
  refine T_aload_n 2364 rfl dL_law_2363 rfl ?_
  refine TJ_callW (As := [_, _, _]) kalL_pass lkL_299 dL_law_2364 rfl rfl (by exact Nat.le_of_ble_eq_true rfl) (by omega) (by omega) (WL_pass (S_X10_pass h.1 h1) (by omega) (by omega) (by omega) (fun v J' q => ⟨_, q.2.1⟩) (fun E J' q => by obtain ⟨f0, ee, -⟩ := q; rw [ee]; revert f0; unfold fPass; (repeat' split) <;> first | (intro z; exact absurd rfl z) | (intro _; decide +kernel))) (fun v J1 w => ?_)
  obtain ⟨c, ev, wq⟩ := WP_c w
  subst ev
  have e52 : J1 352 = J 352 := WC_k wq 352 (by omega) (by omega) (by omega)
  refine T_istore 2369 rfl dL_law_2367 (by decide) ?_
  refine T_aload_n 2370 rfl dL_law_2369 rfl ?_
  refine TJ_arg 1 hS dL_law_2370 dL_law_2371 dL_law_2373 dL_law_2374 dL_law_2375 (by omega) hi rfl rfl ?_
  rw [e1]
  have hm := S_X11_pass (g := g) (J := J1) (B := B) (by rw [e52]; exact hw) (by omega) (by rw [WC_k wq 351 (by omega) (by omega) (by omega)]; exact h.1.2.2.1.2.1) h1
  rw [e52] at hm
  refine TJ_callM (As := [_]) 351 kalX11_pass lkL_301 dL_law_2376 (by omega) rfl rfl rfl rfl (by exact Nat.le_of_ble_eq_true rfl) (by omega) (Nat.zero_le _) (Nat.zero_le _) hm (fun v J2 q => ?_)
  obtain ⟨r, rfl, q⟩ := q
  refine T_istore 2381 rfl dL_law_2379 (by decide) ?_
  have fin := C_fin h wq q (fun z => xC_WF (k := 11) (l := fun j => [a1].getD j 0) hw (by omega) z) (by omega) (by obtain ⟨d1, d2, d3, d4, d5, d6, d7, d8, d9, d10, d11, d12, d13, d14, d15⟩ := cd_all; unfold fPass; (repeat' split) <;> first | (intro z; exact absurd rfl z) | (intro _; refine ⟨by assumption, by omega, by omega⟩) | (intro _; exfalso; omega))
  exact TJ_tail ⟨dL_law_2381, dL_law_2382, dL_law_2385, dL_law_2387, dL_law_2392, dL_law_2394, dL_law_2397, dL_law_2398, dL_law_2399, dL_law_2400, dL_law_2402, dL_law_2403, dL_law_2404, dL_law_2409, by decide⟩ fin.2.1 fin.2.2.1 fin.2.2.2 (T_more (by omega) (by omega) (next J2 (LI_le fin.1 (by omega) hB)))
theorem op_9 {g : Gn} {S : State → Prop} {b Ln i kc ks B : Nat} {xs : Nat → Int32} {J : DJ} (hS : ScrS g S b Ln xs) (hi : i + 3 < Ln) (h : LI J B) (hB : B + 39000 < 40000000) (hkc : 34 ≤ kc) (hks : 204 ≤ ks) (next : ∀ J2, LI J2 (B + 39000) → TJ g S (kc - 34) (ks - 204) 3074 (LL g b i) [] J2) : TJ g S kc ks 821 (LL g b i) [] J := by
  have hw := h.1.2.1
  obtain ⟨a1, h1, e1⟩ := nI_all (xs (i + 1))
  refine T_aload_n 822 rfl dL_law_821 rfl ?_
  refine TJ_arg 1 hS dL_law_822 dL_law_823 dL_law_825 dL_law_826 dL_law_827 (by omega) hi rfl rfl ?_
  rw [e1]
  refine T_aload_n 829 rfl dL_law_828 rfl ?_
  refine TJ_callW (As := [_, _, _]) kalL_turnByRepeating lkL_196 dL_law_829 rfl rfl (by exact Nat.le_of_ble_eq_true rfl) (by omega) (by omega) (WL_turnByRepeating (S_X10_turnByRepeating h.1 h1) (by omega) (by omega) (by omega) (fun v J' q => by obtain ⟨-, r, e, -⟩ := q; exact ⟨_, e⟩) (fun E J' q => by obtain ⟨f0, ee, -⟩ := q; rw [ee]; revert f0; unfold qE; (repeat' split) <;> first | (intro z; exact absurd rfl z) | (intro _; decide +kernel))) (fun v J1 w => ?_)
  obtain ⟨c, R, ev, wq, hP⟩ := WP_n w
  subst ev
  have e52 : J1 352 = J 352 := wq.1.1 352 (by omega)
  have wq := WQ_r (R2 := tuC (ford (J 352) a1) (J 352 (7 + 52 * a1)) (J 352 (7 + 52 * a1))) wq (fun z => by
    have ok := hw.2.2.2.2.2.1 a1 (by unfold qE at z; split at z <;> omega)
    exact turnB_eq (PM_ok ok) (by have := ok.1; omega) ok.2.1 (hP z))
  refine T_istore 834 rfl dL_law_832 (by decide) ?_
  refine T_aload_n 835 rfl dL_law_834 rfl ?_
  refine TJ_arg 1 hS dL_law_835 dL_law_836 dL_law_838 dL_law_839 dL_law_840 (by omega) hi rfl rfl ?_
  rw [e1]
  have hm := S_X11_turnByRepeating (g := g) (J := J1) (f := J 352) hw (by have := h.1.2.2.2.2.2; omega) h1
  rw [LI_f h e52] at hm
  refine TJ_callM (As := [_]) 351 kalX11_turnByRepeating lkL_198 dL_law_841 (by omega) rfl rfl rfl rfl (by exact Nat.le_of_ble_eq_true rfl) (by omega) (Nat.zero_le _) (Nat.zero_le _) hm (fun v J2 q => ?_)
  obtain ⟨r, rfl, q⟩ := q
  refine T_istore 846 rfl dL_law_844 (by decide) ?_
  have fin := Q_fin h wq q (by obtain ⟨d1, d2, d3, d4, d5, d6, d7, d8, d9, d10, d11, d12, d13, d14, d15⟩ := cd_all; unfold qE; (repeat' split) <;> first | (intro z; exact absurd rfl z) | (intro _; refine ⟨by assumption, by omega, by omega⟩) | (intro _; exfalso; omega))
  exact TJ_tail ⟨dL_law_846, dL_law_847, dL_law_850, dL_law_852, dL_law_857, dL_law_859, dL_law_862, dL_law_863, dL_law_864, dL_law_865, dL_law_867, dL_law_868, dL_law_869, dL_law_874, by decide⟩ fin.2.1 fin.2.2.1 fin.2.2.2 (T_more (by omega) (by omega) (next J2 (LI_le fin.1 (by omega) hB)))
theorem op_12 {g : Gn} {S : State → Prop} {b Ln i kc ks B : Nat} {xs : Nat → Int32} {J : DJ} (hS : ScrS g S b Ln xs) (hi : i + 3 < Ln) (h : LI J B) (hB : B + 39000 < 40000000) (hkc : 34 ≤ kc) (hks : 204 ≤ ks) (next : ∀ J2, LI J2 (B + 39000) → TJ g S (kc - 34) (ks - 204) 3074 (LL g b i) [] J2) : TJ g S kc ks 1001 (LL g b i) [] J := by
  have hw := h.1.2.1
  obtain ⟨a1, h1, e1⟩ := nI_all (xs (i + 1))
  obtain ⟨a2, h2, e2⟩ := nI_all (xs (i + 2))
  refine T_aload_n 1002 rfl dL_law_1001 rfl ?_
  refine TJ_arg 1 hS dL_law_1002 dL_law_1003 dL_law_1005 dL_law_1006 dL_law_1007 (by omega) hi rfl rfl ?_
  rw [e1]
  refine TJ_arg 2 hS dL_law_1008 dL_law_1009 dL_law_1011 dL_law_1012 dL_law_1013 (by omega) hi rfl rfl ?_
  rw [e2]
  refine T_aload_n 1015 rfl dL_law_1014 rfl ?_
  refine TJ_callW (As := [_, _, _, _]) kalL_evenOrdersByTrying lkL_205 dL_law_1015 rfl rfl (by exact Nat.le_of_ble_eq_true rfl) (by omega) (by omega) (WL_evenOrdersByTrying (S_X10_evenOrdersByTrying h.1 h1 h2) (by omega) (by omega) (by omega) (fun v J' q => ⟨_, q.2.1⟩) (fun E J' q => by obtain ⟨f0, ee, -⟩ := q; rw [ee]; revert f0; unfold qEv; (repeat' split) <;> first | (intro z; exact absurd rfl z) | (intro _; decide +kernel))) (fun v J1 w => ?_)
  obtain ⟨c, ev, wq⟩ := WP_q w
  subst ev
  have e52 : J1 352 = J 352 := wq.1.1 352 (by omega)
  have wq := WQ_r (R2 := eoR (J 352 (7 + 52 * a1)) a2) wq (fun z => by
    have z2 : a1 < J 352 0 ∧ 1 ≤ a2 ∧ a2 ≤ 4 := by unfold qEv at z; (repeat' split at z) <;> omega
    have ok := hw.2.2.2.2.2.1 a1 z2.1
    exact (eoR_cF ok.1 ok.2.1 z2.2.1 z2.2.2).symm)
  refine T_istore 1020 rfl dL_law_1018 (by decide) ?_
  refine T_aload_n 1021 rfl dL_law_1020 rfl ?_
  refine TJ_arg 1 hS dL_law_1021 dL_law_1022 dL_law_1024 dL_law_1025 dL_law_1026 (by omega) hi rfl rfl ?_
  rw [e1]
  refine TJ_arg 2 hS dL_law_1027 dL_law_1028 dL_law_1030 dL_law_1031 dL_law_1032 (by omega) hi rfl rfl ?_
  rw [e2]
  have hm := S_X11_evenOrdersByTrying (g := g) (J := J1) (f := J 352) hw (by have := h.1.2.2.2.2.2; omega) h1 h2
  rw [LI_f h e52] at hm
  refine TJ_callM (As := [_, _]) 351 kalX11_evenOrdersByTrying lkL_207 dL_law_1033 (by omega) rfl rfl rfl rfl (by exact Nat.le_of_ble_eq_true rfl) (by omega) (Nat.zero_le _) (Nat.zero_le _) hm (fun v J2 q => ?_)
  obtain ⟨r, rfl, q⟩ := q
  refine T_istore 1038 rfl dL_law_1036 (by decide) ?_
  have fin := Q_fin h wq q (by obtain ⟨d1, d2, d3, d4, d5, d6, d7, d8, d9, d10, d11, d12, d13, d14, d15⟩ := cd_all; unfold qEv; (repeat' split) <;> first | (intro z; exact absurd rfl z) | (intro _; refine ⟨by assumption, by omega, by omega⟩) | (intro _; exfalso; omega))
  exact TJ_tail ⟨dL_law_1038, dL_law_1039, dL_law_1042, dL_law_1044, dL_law_1049, dL_law_1051, dL_law_1054, dL_law_1055, dL_law_1056, dL_law_1057, dL_law_1059, dL_law_1060, dL_law_1061, dL_law_1066, by decide⟩ fin.2.1 fin.2.2.1 fin.2.2.2 (T_more (by omega) (by omega) (next J2 (LI_le fin.1 (by omega) hB)))
theorem op_25 {g : Gn} {S : State → Prop} {b Ln i kc ks B : Nat} {xs : Nat → Int32} {J : DJ} (hS : ScrS g S b Ln xs) (hi : i + 3 < Ln) (h : LI J B) (hB : B + 39000 < 40000000) (hkc : 34 ≤ kc) (hks : 204 ≤ ks) (next : ∀ J2, LI J2 (B + 39000) → TJ g S (kc - 34) (ks - 204) 3074 (LL g b i) [] J2) : TJ g S kc ks 1727 (LL g b i) [] J := by
  have hw := h.1.2.1
  obtain ⟨a1, h1, e1⟩ := nI_all (xs (i + 1))
  refine T_aload_n 1728 rfl dL_law_1727 rfl ?_
  refine TJ_arg 1 hS dL_law_1728 dL_law_1729 dL_law_1731 dL_law_1732 dL_law_1733 (by omega) hi rfl rfl ?_
  rw [e1]
  refine T_aload_n 1735 rfl dL_law_1734 rfl ?_
  refine TJ_callW (As := [_, _, _]) kalL_knockPeriod lkL_246 dL_law_1735 rfl rfl (by exact Nat.le_of_ble_eq_true rfl) (by omega) (by omega) (WL_knockPeriod (S_X10_knockPeriod h.1 h1) (by omega) (by omega) (by omega) (fun v J' q => by obtain ⟨-, r, e, -⟩ := q; exact ⟨_, e⟩) (fun E J' q => by obtain ⟨f0, ee, -⟩ := q; rw [ee]; revert f0; unfold qKp; (repeat' split) <;> first | (intro z; exact absurd rfl z) | (intro _; decide +kernel))) (fun v J1 w => ?_)
  obtain ⟨c, R, ev, wq, hP⟩ := WP_n w
  subst ev
  have e52 : J1 352 = J 352 := wq.1.1 352 (by omega)
  refine T_istore 1740 rfl dL_law_1738 (by decide) ?_
  refine T_aload_n 1741 rfl dL_law_1740 rfl ?_
  refine TJ_arg 1 hS dL_law_1741 dL_law_1742 dL_law_1744 dL_law_1745 dL_law_1746 (by omega) hi rfl rfl ?_
  rw [e1]
  have hm := S_X11_knockPeriod (g := g) (J := J1) (f := J 352) hw (by have := h.1.2.2.2.2.2; omega) h1 hP
  rw [LI_f h e52] at hm
  refine TJ_callM (As := [_]) 351 kalX11_knockPeriod lkL_248 dL_law_1747 (by omega) rfl rfl rfl rfl (by exact Nat.le_of_ble_eq_true rfl) (by omega) (Nat.zero_le _) (Nat.zero_le _) hm (fun v J2 q => ?_)
  obtain ⟨r, rfl, q⟩ := q
  refine T_istore 1752 rfl dL_law_1750 (by decide) ?_
  have fin := Q_fin h wq q (by obtain ⟨d1, d2, d3, d4, d5, d6, d7, d8, d9, d10, d11, d12, d13, d14, d15⟩ := cd_all; unfold qKp; (repeat' split) <;> first | (intro z; exact absurd rfl z) | (intro _; refine ⟨by assumption, by omega, by omega⟩) | (intro _; exfalso; omega))
  exact TJ_tail ⟨dL_law_1752, dL_law_1753, dL_law_1756, dL_law_1758, dL_law_1763, dL_law_1765, dL_law_1768, dL_law_1769, dL_law_1770, dL_law_1771, dL_law_1773, dL_law_1774, dL_law_1775, dL_law_1780, by decide⟩ fin.2.1 fin.2.2.1 fin.2.2.2 (T_more (by omega) (by omega) (next J2 (LI_le fin.1 (by omega) hB)))
theorem op_26 {g : Gn} {S : State → Prop} {b Ln i kc ks B : Nat} {xs : Nat → Int32} {J : DJ} (hS : ScrS g S b Ln xs) (hi : i + 3 < Ln) (h : LI J B) (hB : B + 39000 < 40000000) (hkc : 34 ≤ kc) (hks : 204 ≤ ks) (next : ∀ J2, LI J2 (B + 39000) → TJ g S (kc - 34) (ks - 204) 3074 (LL g b i) [] J2) : TJ g S kc ks 1783 (LL g b i) [] J := by
  have hw := h.1.2.1
  obtain ⟨a1, h1, e1⟩ := nI_all (xs (i + 1))
  refine T_aload_n 1784 rfl dL_law_1783 rfl ?_
  refine TJ_arg 1 hS dL_law_1784 dL_law_1785 dL_law_1787 dL_law_1788 dL_law_1789 (by omega) hi rfl rfl ?_
  rw [e1]
  refine T_aload_n 1791 rfl dL_law_1790 rfl ?_
  refine TJ_callW (As := [_, _, _]) kalL_knockPeriodByTrying lkL_249 dL_law_1791 rfl rfl (by exact Nat.le_of_ble_eq_true rfl) (by omega) (by omega) (WL_knockPeriodByTrying (S_X10_knockPeriodByTrying h.1 h1) (by omega) (by omega) (by omega) (fun v J' q => by obtain ⟨-, r, e, -⟩ := q; exact ⟨_, e⟩) (fun E J' q => by obtain ⟨f0, ee, -⟩ := q; rw [ee]; revert f0; unfold qKp; (repeat' split) <;> first | (intro z; exact absurd rfl z) | (intro _; decide +kernel))) (fun v J1 w => ?_)
  obtain ⟨c, R, ev, wq, hP⟩ := WP_n w
  subst ev
  have e52 : J1 352 = J 352 := wq.1.1 352 (by omega)
  refine T_istore 1796 rfl dL_law_1794 (by decide) ?_
  refine T_aload_n 1797 rfl dL_law_1796 rfl ?_
  refine TJ_arg 1 hS dL_law_1797 dL_law_1798 dL_law_1800 dL_law_1801 dL_law_1802 (by omega) hi rfl rfl ?_
  rw [e1]
  have hm := S_X11_knockPeriodByTrying (g := g) (J := J1) (f := J 352) hw (by have := h.1.2.2.2.2.2; omega) h1 hP
  rw [LI_f h e52] at hm
  refine TJ_callM (As := [_]) 351 kalX11_knockPeriodByTrying lkL_251 dL_law_1803 (by omega) rfl rfl rfl rfl (by exact Nat.le_of_ble_eq_true rfl) (by omega) (Nat.zero_le _) (Nat.zero_le _) hm (fun v J2 q => ?_)
  obtain ⟨r, rfl, q⟩ := q
  refine T_istore 1808 rfl dL_law_1806 (by decide) ?_
  have fin := Q_fin h wq q (by obtain ⟨d1, d2, d3, d4, d5, d6, d7, d8, d9, d10, d11, d12, d13, d14, d15⟩ := cd_all; unfold qKp; (repeat' split) <;> first | (intro z; exact absurd rfl z) | (intro _; refine ⟨by assumption, by omega, by omega⟩) | (intro _; exfalso; omega))
  exact TJ_tail ⟨dL_law_1808, dL_law_1809, dL_law_1812, dL_law_1814, dL_law_1819, dL_law_1821, dL_law_1824, dL_law_1825, dL_law_1826, dL_law_1827, dL_law_1829, dL_law_1830, dL_law_1831, dL_law_1836, by decide⟩ fin.2.1 fin.2.2.1 fin.2.2.2 (T_more (by omega) (by omega) (next J2 (LI_le fin.1 (by omega) hB)))
theorem op_27 {g : Gn} {S : State → Prop} {b Ln i kc ks B : Nat} {xs : Nat → Int32} {J : DJ} (hS : ScrS g S b Ln xs) (hi : i + 3 < Ln) (h : LI J B) (hB : B + 39000 < 40000000) (hkc : 34 ≤ kc) (hks : 204 ≤ ks) (next : ∀ J2, LI J2 (B + 39000) → TJ g S (kc - 34) (ks - 204) 3074 (LL g b i) [] J2) : TJ g S kc ks 1839 (LL g b i) [] J := by
  have hw := h.1.2.1
  obtain ⟨a1, h1, e1⟩ := nI_all (xs (i + 1))
  refine T_aload_n 1840 rfl dL_law_1839 rfl ?_
  refine TJ_arg 1 hS dL_law_1840 dL_law_1841 dL_law_1843 dL_law_1844 dL_law_1845 (by omega) hi rfl rfl ?_
  rw [e1]
  refine T_aload_n 1847 rfl dL_law_1846 rfl ?_
  refine TJ_callW (As := [_, _, _]) kalL_engineAtRank lkL_252 dL_law_1847 rfl rfl (by exact Nat.le_of_ble_eq_true rfl) (by omega) (by omega) (WL_engineAtRank (S_X10_engineAtRank h.1 h1) (by omega) (by omega) (by omega) (fun v J' q => by obtain ⟨-, r, e, -⟩ := q; exact ⟨_, e⟩) (fun E J' q => by obtain ⟨f0, ee, -⟩ := q; rw [ee]; revert f0; unfold qRk; (repeat' split) <;> first | (intro z; exact absurd rfl z) | (intro _; decide +kernel))) (fun v J1 w => ?_)
  obtain ⟨c, R, ev, wq, hP⟩ := WP_n w
  subst ev
  have e52 : J1 352 = J 352 := wq.1.1 352 (by omega)
  have hR : qRk (J 352) a1 = 0 → R < J 352 0 ∧ bef (J 352) R = a1 ∧ ∀ a, a < R → bef (J 352) a ≠ a1 := fun z => by
    have lt : a1 < J 352 0 := by unfold qRk at z; split at z <;> omega
    rcases hP z with y | y
    · exact y
    · obtain ⟨a, ha, hb⟩ := bef_ex lt
      exact absurd hb (y.2 a ha)
  refine T_istore 1852 rfl dL_law_1850 (by decide) ?_
  refine T_aload_n 1853 rfl dL_law_1852 rfl ?_
  refine TJ_arg 1 hS dL_law_1853 dL_law_1854 dL_law_1856 dL_law_1857 dL_law_1858 (by omega) hi rfl rfl ?_
  rw [e1]
  have hm := S_X11_engineAtRank (g := g) (J := J1) (f := J 352) hw (by have := h.1.2.2.2.2.2; omega) h1 hR
  rw [LI_f h e52] at hm
  refine TJ_callM (As := [_]) 351 kalX11_engineAtRank lkL_254 dL_law_1859 (by omega) rfl rfl rfl rfl (by exact Nat.le_of_ble_eq_true rfl) (by omega) (Nat.zero_le _) (Nat.zero_le _) hm (fun v J2 q => ?_)
  obtain ⟨r, rfl, q⟩ := q
  refine T_istore 1864 rfl dL_law_1862 (by decide) ?_
  have fin := Q_fin h wq q (by obtain ⟨d1, d2, d3, d4, d5, d6, d7, d8, d9, d10, d11, d12, d13, d14, d15⟩ := cd_all; unfold qRk; (repeat' split) <;> first | (intro z; exact absurd rfl z) | (intro _; refine ⟨by assumption, by omega, by omega⟩) | (intro _; exfalso; omega))
  exact TJ_tail ⟨dL_law_1864, dL_law_1865, dL_law_1868, dL_law_1870, dL_law_1875, dL_law_1877, dL_law_1880, dL_law_1881, dL_law_1882, dL_law_1883, dL_law_1885, dL_law_1886, dL_law_1887, dL_law_1892, by decide⟩ fin.2.1 fin.2.2.1 fin.2.2.2 (T_more (by omega) (by omega) (next J2 (LI_le fin.1 (by omega) hB)))
theorem op_42 {g : Gn} {S : State → Prop} {b Ln i kc ks B : Nat} {xs : Nat → Int32} {J : DJ} (hS : ScrS g S b Ln xs) (hi : i + 3 < Ln) (h : LI J B) (hB : B + 39000 < 40000000) (hkc : 34 ≤ kc) (hks : 204 ≤ ks) (next : ∀ J2, LI J2 (B + 39000) → TJ g S (kc - 34) (ks - 204) 3074 (LL g b i) [] J2) : TJ g S kc ks 2425 (LL g b i) [] J := by
  have hw := h.1.2.1
  obtain ⟨a1, h1, e1⟩ := nI_all (xs (i + 1))
  refine T_aload_n 2426 rfl dL_law_2425 rfl ?_
  refine TJ_arg 1 hS dL_law_2426 dL_law_2427 dL_law_2429 dL_law_2430 dL_law_2431 (by omega) hi rfl rfl ?_
  rw [e1]
  refine T_aload_n 2433 rfl dL_law_2432 rfl ?_
  refine TJ_callW (As := [_, _, _]) kalL_knocksIn lkL_306 dL_law_2433 rfl rfl (by exact Nat.le_of_ble_eq_true rfl) (by omega) (by omega) (WL_knocksIn (S_X10_knocksIn h.1 h1) (by omega) (by omega) (by omega) (fun v J' q => ⟨_, q.2.1⟩) (fun E J' q => by obtain ⟨f0, ee, -⟩ := q; rw [ee]; revert f0; (repeat' split) <;> first | (intro z; exact absurd rfl z) | (intro _; decide +kernel))) (fun v J1 w => ?_)
  obtain ⟨c, ev, wq⟩ := WP_q w
  subst ev
  have e52 : J1 352 = J 352 := wq.1.1 352 (by omega)
  refine T_istore 2438 rfl dL_law_2436 (by decide) ?_
  refine T_aload_n 2439 rfl dL_law_2438 rfl ?_
  refine TJ_arg 1 hS dL_law_2439 dL_law_2440 dL_law_2442 dL_law_2443 dL_law_2444 (by omega) hi rfl rfl ?_
  rw [e1]
  have hm := S_X11_knocksIn (g := g) (J := J1) (f := J 352) hw (by have := h.1.2.2.2.2.2; omega) h1
  rw [LI_f h e52] at hm
  refine TJ_callM (As := [_]) 351 kalX11_knocksIn lkL_308 dL_law_2445 (by omega) rfl rfl rfl rfl (by exact Nat.le_of_ble_eq_true rfl) (by omega) (Nat.zero_le _) (Nat.zero_le _) hm (fun v J2 q => ?_)
  obtain ⟨r, rfl, q⟩ := q
  refine T_istore 2450 rfl dL_law_2448 (by decide) ?_
  have fin := Q_fin h wq q (by obtain ⟨d1, d2, d3, d4, d5, d6, d7, d8, d9, d10, d11, d12, d13, d14, d15⟩ := cd_all; (repeat' split) <;> first | (intro z; exact absurd rfl z) | (intro _; refine ⟨by assumption, by omega, by omega⟩) | (intro _; exfalso; omega))
  exact TJ_tail ⟨dL_law_2450, dL_law_2451, dL_law_2454, dL_law_2456, dL_law_2461, dL_law_2463, dL_law_2466, dL_law_2467, dL_law_2468, dL_law_2469, dL_law_2471, dL_law_2472, dL_law_2473, dL_law_2478, by decide⟩ fin.2.1 fin.2.2.1 fin.2.2.2 (T_more (by omega) (by omega) (next J2 (LI_le fin.1 (by omega) hB)))
theorem op_43 {g : Gn} {S : State → Prop} {b Ln i kc ks B : Nat} {xs : Nat → Int32} {J : DJ} (hS : ScrS g S b Ln xs) (hi : i + 3 < Ln) (h : LI J B) (hB : B + 39000 < 40000000) (hkc : 34 ≤ kc) (hks : 204 ≤ ks) (next : ∀ J2, LI J2 (B + 39000) → TJ g S (kc - 34) (ks - 204) 3074 (LL g b i) [] J2) : TJ g S kc ks 2481 (LL g b i) [] J := by
  have hw := h.1.2.1
  obtain ⟨a1, h1, e1⟩ := nI_all (xs (i + 1))
  refine T_aload_n 2482 rfl dL_law_2481 rfl ?_
  refine TJ_arg 1 hS dL_law_2482 dL_law_2483 dL_law_2485 dL_law_2486 dL_law_2487 (by omega) hi rfl rfl ?_
  rw [e1]
  refine T_aload_n 2489 rfl dL_law_2488 rfl ?_
  refine TJ_callW (As := [_, _, _]) kalL_hourOfKnocks lkL_309 dL_law_2489 rfl rfl (by exact Nat.le_of_ble_eq_true rfl) (by omega) (by omega) (WL_hourOfKnocks (S_X10_hourOfKnocks h.1 h1) (by omega) (by omega) (by omega) (fun v J' q => ⟨_, q.2.1⟩) (fun E J' q => by obtain ⟨f0, ee, -⟩ := q; rw [ee]; revert f0; (repeat' split) <;> first | (intro z; exact absurd rfl z) | (intro _; decide +kernel))) (fun v J1 w => ?_)
  obtain ⟨c, ev, wq⟩ := WP_q w
  subst ev
  have e52 : J1 352 = J 352 := wq.1.1 352 (by omega)
  refine T_istore 2494 rfl dL_law_2492 (by decide) ?_
  refine T_aload_n 2495 rfl dL_law_2494 rfl ?_
  refine TJ_arg 1 hS dL_law_2495 dL_law_2496 dL_law_2498 dL_law_2499 dL_law_2500 (by omega) hi rfl rfl ?_
  rw [e1]
  have hm := S_X11_hourOfKnocks (g := g) (J := J1) (f := J 352) hw (by have := h.1.2.2.2.2.2; omega) h1
  rw [LI_f h e52] at hm
  refine TJ_callM (As := [_]) 351 kalX11_hourOfKnocks lkL_311 dL_law_2501 (by omega) rfl rfl rfl rfl (by exact Nat.le_of_ble_eq_true rfl) (by omega) (Nat.zero_le _) (Nat.zero_le _) hm (fun v J2 q => ?_)
  obtain ⟨r, rfl, q⟩ := q
  refine T_istore 2506 rfl dL_law_2504 (by decide) ?_
  have fin := Q_fin h wq q (by obtain ⟨d1, d2, d3, d4, d5, d6, d7, d8, d9, d10, d11, d12, d13, d14, d15⟩ := cd_all; (repeat' split) <;> first | (intro z; exact absurd rfl z) | (intro _; refine ⟨by assumption, by omega, by omega⟩) | (intro _; exfalso; omega))
  exact TJ_tail ⟨dL_law_2506, dL_law_2507, dL_law_2510, dL_law_2512, dL_law_2517, dL_law_2519, dL_law_2522, dL_law_2523, dL_law_2524, dL_law_2525, dL_law_2527, dL_law_2528, dL_law_2529, dL_law_2534, by decide⟩ fin.2.1 fin.2.2.1 fin.2.2.2 (T_more (by omega) (by omega) (next J2 (LI_le fin.1 (by omega) hB)))
theorem op_46 {g : Gn} {S : State → Prop} {b Ln i kc ks B : Nat} {xs : Nat → Int32} {J : DJ} (hS : ScrS g S b Ln xs) (hi : i + 3 < Ln) (h : LI J B) (hB : B + 39000 < 40000000) (hkc : 34 ≤ kc) (hks : 204 ≤ ks) (next : ∀ J2, LI J2 (B + 39000) → TJ g S (kc - 34) (ks - 204) 3074 (LL g b i) [] J2) : TJ g S kc ks 2639 (LL g b i) [] J := by
  have hw := h.1.2.1
  refine T_aload_n 2640 rfl dL_law_2639 rfl ?_
  refine T_aload_n 2641 rfl dL_law_2640 rfl ?_
  refine TJ_callW (As := [_, _]) kalL_errorPosition lkL_319 dL_law_2641 rfl rfl (by exact Nat.le_of_ble_eq_true rfl) (by omega) (by omega) (WL_errorPosition (S_X10_errorPosition h.1 h.2.2.1.2.2.1) (by omega) (by omega) (by omega) (fun v J' q => ⟨_, q.2.1⟩) (fun E J' q => by obtain ⟨f0, ee, -⟩ := q; rw [ee]; revert f0; (repeat' split) <;> first | (intro z; exact absurd rfl z) | (intro _; decide +kernel))) (fun v J1 w => ?_)
  obtain ⟨c, ev, wq⟩ := WP_q w
  subst ev
  have e52 : J1 352 = J 352 := wq.1.1 352 (by omega)
  have e6 : J1 351 6 = J 0 10 := by rw [wq.1.1 351 (by omega)]; exact h.2.2.1.1
  refine T_istore 2646 rfl dL_law_2644 (by decide) ?_
  refine T_aload_n 2647 rfl dL_law_2646 rfl ?_
  have hm := S_X11_errorPosition (g := g) (J := J1) (f := J 352) (by rw [e6]; exact h.2.2.1.2.2.1)
  rw [LI_f h e52] at hm
  rw [e6] at hm
  refine TJ_callM (As := []) 351 kalX11_errorPosition lkL_321 dL_law_2647 (by omega) rfl rfl rfl rfl (by exact Nat.le_of_ble_eq_true rfl) (by omega) (Nat.zero_le _) (Nat.zero_le _) hm (fun v J2 q => ?_)
  obtain ⟨r, rfl, q⟩ := q
  refine T_istore 2652 rfl dL_law_2650 (by decide) ?_
  have fin := Q_fin h wq q (by obtain ⟨d1, d2, d3, d4, d5, d6, d7, d8, d9, d10, d11, d12, d13, d14, d15⟩ := cd_all; (repeat' split) <;> first | (intro z; exact absurd rfl z) | (intro _; refine ⟨by assumption, by omega, by omega⟩) | (intro _; exfalso; omega))
  exact TJ_tail ⟨dL_law_2652, dL_law_2653, dL_law_2656, dL_law_2658, dL_law_2663, dL_law_2665, dL_law_2668, dL_law_2669, dL_law_2670, dL_law_2671, dL_law_2673, dL_law_2674, dL_law_2675, dL_law_2680, by decide⟩ fin.2.1 fin.2.2.1 fin.2.2.2 (T_more (by omega) (by omega) (next J2 (LI_le fin.1 (by omega) hB)))
theorem op_47 {g : Gn} {S : State → Prop} {b Ln i kc ks B : Nat} {xs : Nat → Int32} {J : DJ} (hS : ScrS g S b Ln xs) (hi : i + 3 < Ln) (h : LI J B) (hB : B + 39000 < 40000000) (hkc : 34 ≤ kc) (hks : 204 ≤ ks) (next : ∀ J2, LI J2 (B + 39000) → TJ g S (kc - 34) (ks - 204) 3074 (LL g b i) [] J2) : TJ g S kc ks 2683 (LL g b i) [] J := by
  have hw := h.1.2.1
  refine T_aload_n 2684 rfl dL_law_2683 rfl ?_
  refine T_aload_n 2685 rfl dL_law_2684 rfl ?_
  refine TJ_callW (As := [_, _]) kalL_failedCommand lkL_322 dL_law_2685 rfl rfl (by exact Nat.le_of_ble_eq_true rfl) (by omega) (by omega) (WL_failedCommand (S_X10_failedCommand h.1 h.2.2.1.2.2.2) (by omega) (by omega) (by omega) (fun v J' q => ⟨_, q.2.1⟩) (fun E J' q => by obtain ⟨f0, ee, -⟩ := q; rw [ee]; revert f0; (repeat' split) <;> first | (intro z; exact absurd rfl z) | (intro _; decide +kernel))) (fun v J1 w => ?_)
  obtain ⟨c, ev, wq⟩ := WP_q w
  subst ev
  have e52 : J1 352 = J 352 := wq.1.1 352 (by omega)
  have e6 : J1 351 7 = J 0 11 := by rw [wq.1.1 351 (by omega)]; exact h.2.2.1.2.1
  refine T_istore 2690 rfl dL_law_2688 (by decide) ?_
  refine T_aload_n 2691 rfl dL_law_2690 rfl ?_
  have hm := S_X11_failedCommand (g := g) (J := J1) (f := J 352) (by rw [e6]; exact h.2.2.1.2.2.2)
  rw [LI_f h e52] at hm
  rw [e6] at hm
  refine TJ_callM (As := []) 351 kalX11_failedCommand lkL_324 dL_law_2691 (by omega) rfl rfl rfl rfl (by exact Nat.le_of_ble_eq_true rfl) (by omega) (Nat.zero_le _) (Nat.zero_le _) hm (fun v J2 q => ?_)
  obtain ⟨r, rfl, q⟩ := q
  refine T_istore 2696 rfl dL_law_2694 (by decide) ?_
  have fin := Q_fin h wq q (by obtain ⟨d1, d2, d3, d4, d5, d6, d7, d8, d9, d10, d11, d12, d13, d14, d15⟩ := cd_all; (repeat' split) <;> first | (intro z; exact absurd rfl z) | (intro _; refine ⟨by assumption, by omega, by omega⟩) | (intro _; exfalso; omega))
  exact TJ_tail ⟨dL_law_2696, dL_law_2697, dL_law_2700, dL_law_2702, dL_law_2707, dL_law_2709, dL_law_2712, dL_law_2713, dL_law_2714, dL_law_2715, dL_law_2717, dL_law_2718, dL_law_2719, dL_law_2724, by decide⟩ fin.2.1 fin.2.2.1 fin.2.2.2 (T_more (by omega) (by omega) (next J2 (LI_le fin.1 (by omega) hB)))
