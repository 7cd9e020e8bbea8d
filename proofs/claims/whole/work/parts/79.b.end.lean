/-! THE LAW: its end (laid by wip/whole/src/p79.py) -/
theorem sbn_forget {s t : State} {L : List Loc} {k n : Nat} (h : s.sameButNew t L k n) (hf : ∀ q ∈ L, s.heap.size ≤ q.base) : s.sameButNew t [] k n := by
  obtain ⟨h1, h2, h3, h4, h5, h6⟩ := h
  refine ⟨h1, h2, h3, h4, h5, fun a c hc => ?_⟩
  obtain ⟨c', a1, a2, a3, a4⟩ := h6 a c hc
  refine ⟨c', a1, a2, a3, fun i _ => a4 i (fun hm => ?_)⟩
  have q := hf _ hm
  have lt : a < s.heap.size := (Array.getElem?_eq_some_iff.mp hc).1
  exact absurd lt (Nat.not_lt.mpr q)
/-- from the plain layer to the law's own end -/
theorem law_Z {g : Gn} {S : State → Prop} {p : Program} {e : Env} {s : State} {m : MethodId} {below : List Frame} {meth : Method} {c : Code} {b kc ks pc cells slots : Nat} {L : List (Nat × Value)} {st : List Value} {ws : va_W} {H : Heap} {locs : List Loc} {ls : Array Slot}
    (hu : ∀ q, uA g.1 q → s.heap.size ≤ q) (V : VS g.1 mL_law S 30 kc ks (fun v _ => v = some (.int (nI 1))) (fun _ _ => False) pc L st ws)
    (C : CxL g.1 mL_law p s m #[Value.ref b] meth c) (hS : S s) (hc : cells + kc ≤ 603072) (hk : slots + ks ≤ 7178346) (hw : Wd g.1 ws H) (hs : va_S (uA g.1) s.heap H locs) (hl : lv_has ls 10 L) :
    W p g.1.1 e room_1 s m #[Value.ref b] below meth c H locs cells slots (lw_Z below #[Value.ref b] s) (F0 m pc ls st) := by
  intro T hT X
  obtain ⟨t, a, o, h1, h2, h3⟩ := V p e room_1 s m #[Value.ref b] below meth c H locs cells slots ls C hS (Nat.le_of_ble_eq_true rfl) (Nat.le_of_ble_eq_true rfl) hc hk hw hs hl T hT X
  refine ⟨t, a, o, h1, h2, ?_⟩
  rcases h3 with ⟨⟨⟨v, ws', e1, e2, e3⟩, e4⟩, L', fe, hL⟩ | ⟨q, e1, E, ce, L', ⟨ws', hx, -⟩, -⟩
  · subst e2
    obtain ⟨-, hW, hsb⟩ := fe
    exact ⟨e1, lw_closed (d0 := s.drawn) (Drawn.sameBut.refl s.drawn lw_cs) ⟨_, e1⟩ hW (sbn_forget hsb (fun q hq => hu _ (hL q hq)))⟩
  · exact absurd hx id
theorem law_Cx {u : Un} {p : Program} {s : State} {m : MethodId} {meth : Method} {c : Code} {b Ln : Nat} {xs : Nat → Int32} (C0 : lw_At p s m meth c b Ln xs) (htr : u.1.stackTraces = false) (hk : Kt u s s.heap) : CxL u mL_law p s m #[Value.ref b] meth c := by
  obtain ⟨hx, hb, hr, hml, hown, hts, hX, hbl, hlocks, hgv⟩ := C0
  exact ⟨hx, hb, hml, hr, fun w hw => hts w (WALL_tbl w hw), hown, hlocks, trivial, ⟨trivial, htr⟩, hk⟩
