/-! MORE ROWS OVER DATA: answers with a property, calls of them, the four refusals -/
def Rp (r : Nat) (P : DJ → Prop) : Option Value → DJ → Prop := fun v J => v = some (.int (nI r)) ∧ P J
def Rq (P : DJ → Prop) : Option Value → DJ → Prop := fun v J => v = none ∧ P J
def Rn (P : Nat → Prop) (J0 : DJ) : Option Value → DJ → Prop := fun v J => ∃ r, v = some (.int (nI r)) ∧ P r ∧ J = J0
def Re (P : Nat → DJ → Prop) : Option Value → DJ → Prop := fun v J => ∃ r, v = some (.int (nI r)) ∧ P r J
/-- the cells outside the n ones from k on are as before -/
def Fr (k n : Nat) (J J' : DJ) : Prop := ∀ c, c < k ∨ k + n ≤ c → J' c = J c
theorem Fr.refl {k n : Nat} {J : DJ} : Fr k n J J := fun _ _ => rfl
theorem Fr.trans {k n : Nat} {J J1 J2 : DJ} (h1 : Fr k n J J1) (h2 : Fr k n J1 J2) : Fr k n J J2 := fun c hc => (h2 c hc).trans (h1 c hc)
theorem Fr.up {k n c j v : Nat} {J J1 : DJ} (h1 : Fr k n J J1) (hc : k ≤ c ∧ c < k + n) : Fr k n J (up2 J1 c j v) := fun c' h => by rw [up2_ne (by omega)]; exact h1 c' h
theorem Fr.cp {k n s sp t dp m : Nat} {J J1 : DJ} (h1 : Fr k n J J1) (hc : k ≤ t ∧ t < k + n) : Fr k n J (cp2 J1 s sp t dp m) := fun c' h => by rw [cp2_ne (by omega)]; exact h1 c' h
theorem Fr.sub {k n k2 n2 : Nat} {J J1 : DJ} (h1 : Fr k2 n2 J J1) (hk : k ≤ k2 ∧ k2 + n2 ≤ k + n) : Fr k n J J1 := fun c h => h1 c (by omega)
section MORE
variable {g : Gn} {y z : MI} {d d' kc ks : Nat} {Q Q' : Option Value → DJ → Prop} {X : String → DJ → Prop} {pc : Nat} {L : List (Nat × Value)} {st st0 As : List Value} {J : DJ} {P : DJ → Prop} {Pn : Nat → Prop} {Pe : Nat → DJ → Prop}
theorem J_callVip (pc' b : Nat) {idx n ci N r : Nat} {T : u_T} {sl : List (Option Nat)} (hp : pc + 3 = pc') (k : CalV z n) (hl : Cond.methodLink y.1.cls idx z.1 ∈ WALL) (hd : decode y.2.1 pc = .ok (.invokevirtual idx, 3)) (hb : b < 367) (hs : shp b = .inr (ci, sl)) (hc : vwCl[ci]? = some (z.1.cls, T, N)) (hn : As.length = n) (hst : st0 = As.reverse ++ .ref (g.2 b) :: st) (hcat : (st.map fun v => v.category).sum ≤ 8)
    (hdd : d' + 1 ≤ d) (hSem : SJ g z d' 0 0 (.ref (g.2 b) :: As) J (Rp r P) NoX) (kr : ∀ J0, P J0 → VJ g y d kc ks Q X pc' L (.int (nI r) :: st) J0) : VJ g y d kc ks Q X pc L st0 J :=
  J_callV pc' b hp k hl hd hb hs hc hn hst hcat hdd (Nat.zero_le _) (Nat.zero_le _) hSem (fun _ _ h => absurd h id) (fun v J' ⟨e1, e2⟩ => by rw [e1]; exact kr J' e2)
theorem J_callVvp (pc' b : Nat) {idx n ci N : Nat} {T : u_T} {sl : List (Option Nat)} (hp : pc + 3 = pc') (k : CalV z n) (hl : Cond.methodLink y.1.cls idx z.1 ∈ WALL) (hd : decode y.2.1 pc = .ok (.invokevirtual idx, 3)) (hb : b < 367) (hs : shp b = .inr (ci, sl)) (hc : vwCl[ci]? = some (z.1.cls, T, N)) (hn : As.length = n) (hst : st0 = As.reverse ++ .ref (g.2 b) :: st) (hcat : (st.map fun v => v.category).sum ≤ 8)
    (hdd : d' + 1 ≤ d) (hSem : SJ g z d' 0 0 (.ref (g.2 b) :: As) J (Rq P) NoX) (kr : ∀ J0, P J0 → VJ g y d kc ks Q X pc' L st J0) : VJ g y d kc ks Q X pc L st0 J :=
  J_callV pc' b hp k hl hd hb hs hc hn hst hcat hdd (Nat.zero_le _) (Nat.zero_le _) hSem (fun _ _ h => absurd h id) (fun v J' ⟨e1, e2⟩ => by rw [e1]; exact kr J' e2)
theorem J_callVie (pc' b : Nat) {idx n ci N : Nat} {T : u_T} {sl : List (Option Nat)} (hp : pc + 3 = pc') (k : CalV z n) (hl : Cond.methodLink y.1.cls idx z.1 ∈ WALL) (hd : decode y.2.1 pc = .ok (.invokevirtual idx, 3)) (hb : b < 367) (hs : shp b = .inr (ci, sl)) (hc : vwCl[ci]? = some (z.1.cls, T, N)) (hn : As.length = n) (hst : st0 = As.reverse ++ .ref (g.2 b) :: st) (hcat : (st.map fun v => v.category).sum ≤ 8)
    (hdd : d' + 1 ≤ d) (hSem : SJ g z d' 0 0 (.ref (g.2 b) :: As) J (Re Pe) NoX) (kr : ∀ r J0, Pe r J0 → VJ g y d kc ks Q X pc' L (.int (nI r) :: st) J0) : VJ g y d kc ks Q X pc L st0 J :=
  J_callV pc' b hp k hl hd hb hs hc hn hst hcat hdd (Nat.zero_le _) (Nat.zero_le _) hSem (fun _ _ h => absurd h id) (fun v J' ⟨r, e1, e2⟩ => by rw [e1]; exact kr r J' e2)
theorem J_callVin (pc' b : Nat) {idx n ci N : Nat} {T : u_T} {sl : List (Option Nat)} {J0 : DJ} (hp : pc + 3 = pc') (k : CalV z n) (hl : Cond.methodLink y.1.cls idx z.1 ∈ WALL) (hd : decode y.2.1 pc = .ok (.invokevirtual idx, 3)) (hb : b < 367) (hs : shp b = .inr (ci, sl)) (hc : vwCl[ci]? = some (z.1.cls, T, N)) (hn : As.length = n) (hst : st0 = As.reverse ++ .ref (g.2 b) :: st) (hcat : (st.map fun v => v.category).sum ≤ 8)
    (hdd : d' + 1 ≤ d) (hSem : SJ g z d' 0 0 (.ref (g.2 b) :: As) J (Rn Pn J0) NoX) (kr : ∀ r, Pn r → VJ g y d kc ks Q X pc' L (.int (nI r) :: st) J0) : VJ g y d kc ks Q X pc L st0 J :=
  J_callV pc' b hp k hl hd hb hs hc hn hst hcat hdd (Nat.zero_le _) (Nat.zero_le _) hSem (fun _ _ h => absurd h id) (fun v J' ⟨r, e1, e2, e3⟩ => by rw [e1, e3]; exact kr r e2)
theorem J_callSip (pc' : Nat) {idx n r : Nat} (hp : pc + 3 = pc') (k : CalS z n) (hl : Cond.methodLink y.1.cls idx z.1 ∈ WALL) (hd : decode y.2.1 pc = .ok (.invokestatic idx, 3)) (hn : As.length = n) (hst : st0 = As.reverse ++ st) (hcat : (st.map fun v => v.category).sum ≤ 8)
    (hdd : d' + 1 ≤ d) (hSem : SJ g z d' 0 0 As J (Rp r P) NoX) (kr : ∀ J0, P J0 → VJ g y d kc ks Q X pc' L (.int (nI r) :: st) J0) : VJ g y d kc ks Q X pc L st0 J :=
  J_callS pc' hp k hl hd hn hst hcat hdd (Nat.zero_le _) (Nat.zero_le _) hSem (fun _ _ h => absurd h id) (fun v J' ⟨e1, e2⟩ => by rw [e1]; exact kr J' e2)
theorem J_callSvp (pc' : Nat) {idx n : Nat} (hp : pc + 3 = pc') (k : CalS z n) (hl : Cond.methodLink y.1.cls idx z.1 ∈ WALL) (hd : decode y.2.1 pc = .ok (.invokestatic idx, 3)) (hn : As.length = n) (hst : st0 = As.reverse ++ st) (hcat : (st.map fun v => v.category).sum ≤ 8)
    (hdd : d' + 1 ≤ d) (hSem : SJ g z d' 0 0 As J (Rq P) NoX) (kr : ∀ J0, P J0 → VJ g y d kc ks Q X pc' L st J0) : VJ g y d kc ks Q X pc L st0 J :=
  J_callS pc' hp k hl hd hn hst hcat hdd (Nat.zero_le _) (Nat.zero_le _) hSem (fun _ _ h => absurd h id) (fun v J' ⟨e1, e2⟩ => by rw [e1]; exact kr J' e2)
theorem J_callSie (pc' : Nat) {idx n : Nat} (hp : pc + 3 = pc') (k : CalS z n) (hl : Cond.methodLink y.1.cls idx z.1 ∈ WALL) (hd : decode y.2.1 pc = .ok (.invokestatic idx, 3)) (hn : As.length = n) (hst : st0 = As.reverse ++ st) (hcat : (st.map fun v => v.category).sum ≤ 8)
    (hdd : d' + 1 ≤ d) (hSem : SJ g z d' 0 0 As J (Re Pe) NoX) (kr : ∀ r J0, Pe r J0 → VJ g y d kc ks Q X pc' L (.int (nI r) :: st) J0) : VJ g y d kc ks Q X pc L st0 J :=
  J_callS pc' hp k hl hd hn hst hcat hdd (Nat.zero_le _) (Nat.zero_le _) hSem (fun _ _ h => absurd h id) (fun v J' ⟨r, e1, e2⟩ => by rw [e1]; exact kr r J' e2)
theorem J_reqIndex (pc' : Nat) {idx : Nat} {p : Prop} [hdp : Decidable p] (hp : pc + 3 = pc') (hd : decode y.2.1 pc = .ok (.invokestatic idx, 3)) (hl : Cond.methodLink y.1.cls idx mX10_requireIndex.1 ∈ WALL) (hcat : (st.map fun v => v.category).sum ≤ 8) (hdd : 7 ≤ d) (hkc : 1 ≤ kc) (hks : 6 ≤ ks) (hX : ¬ p → X IOOBE J) (kr : p → VJ g y d kc ks Q X pc' L st J) : VJ g y d kc ks Q X pc L (.int (nI (bt p)) :: st) J := by
  by_cases h : p
  · exact J_callS (As := [_]) pc' hp kalX10_requireIndex hl hd rfl rfl hcat (by omega) (Nat.zero_le _) (Nat.zero_le _) (S_X10_requireIndex h) (fun _ _ h => absurd h id) (fun v J' ⟨e1, e2⟩ => by rw [e1, e2]; exact kr h)
  · exact J_callS (As := [_]) pc' hp kalX10_requireIndex hl hd rfl rfl hcat (by omega) hkc hks (X_X10_requireIndex h) (fun E J' ⟨e1, e2⟩ => by rw [e1, e2]; exact hX h) (fun v J' q => absurd q id)
theorem J_reqArgument (pc' : Nat) {idx : Nat} {p : Prop} [hdp : Decidable p] (hp : pc + 3 = pc') (hd : decode y.2.1 pc = .ok (.invokestatic idx, 3)) (hl : Cond.methodLink y.1.cls idx mX10_requireArgument.1 ∈ WALL) (hcat : (st.map fun v => v.category).sum ≤ 8) (hdd : 7 ≤ d) (hkc : 1 ≤ kc) (hks : 6 ≤ ks) (hX : ¬ p → X IAE J) (kr : p → VJ g y d kc ks Q X pc' L st J) : VJ g y d kc ks Q X pc L (.int (nI (bt p)) :: st) J := by
  by_cases h : p
  · exact J_callS (As := [_]) pc' hp kalX10_requireArgument hl hd rfl rfl hcat (by omega) (Nat.zero_le _) (Nat.zero_le _) (S_X10_requireArgument h) (fun _ _ h => absurd h id) (fun v J' ⟨e1, e2⟩ => by rw [e1, e2]; exact kr h)
  · exact J_callS (As := [_]) pc' hp kalX10_requireArgument hl hd rfl rfl hcat (by omega) hkc hks (X_X10_requireArgument h) (fun E J' ⟨e1, e2⟩ => by rw [e1, e2]; exact hX h) (fun v J' q => absurd q id)
theorem J_reqState (pc' : Nat) {idx : Nat} {p : Prop} [hdp : Decidable p] (hp : pc + 3 = pc') (hd : decode y.2.1 pc = .ok (.invokestatic idx, 3)) (hl : Cond.methodLink y.1.cls idx mX10_requireState.1 ∈ WALL) (hcat : (st.map fun v => v.category).sum ≤ 8) (hdd : 7 ≤ d) (hkc : 1 ≤ kc) (hks : 6 ≤ ks) (hX : ¬ p → X ISE J) (kr : p → VJ g y d kc ks Q X pc' L st J) : VJ g y d kc ks Q X pc L (.int (nI (bt p)) :: st) J := by
  by_cases h : p
  · exact J_callS (As := [_]) pc' hp kalX10_requireState hl hd rfl rfl hcat (by omega) (Nat.zero_le _) (Nat.zero_le _) (S_X10_requireState h) (fun _ _ h => absurd h id) (fun v J' ⟨e1, e2⟩ => by rw [e1, e2]; exact kr h)
  · exact J_callS (As := [_]) pc' hp kalX10_requireState hl hd rfl rfl hcat (by omega) hkc hks (X_X10_requireState h) (fun E J' ⟨e1, e2⟩ => by rw [e1, e2]; exact hX h) (fun v J' q => absurd q id)
theorem J_reqElement (pc' : Nat) {idx : Nat} {p : Prop} [hdp : Decidable p] (hp : pc + 3 = pc') (hd : decode y.2.1 pc = .ok (.invokestatic idx, 3)) (hl : Cond.methodLink y.1.cls idx mX10_requireElement.1 ∈ WALL) (hcat : (st.map fun v => v.category).sum ≤ 8) (hdd : 7 ≤ d) (hkc : 1 ≤ kc) (hks : 6 ≤ ks) (hX : ¬ p → X NSEE J) (kr : p → VJ g y d kc ks Q X pc' L st J) : VJ g y d kc ks Q X pc L (.int (nI (bt p)) :: st) J := by
  by_cases h : p
  · exact J_callS (As := [_]) pc' hp kalX10_requireElement hl hd rfl rfl hcat (by omega) (Nat.zero_le _) (Nat.zero_le _) (S_X10_requireElement h) (fun _ _ h => absurd h id) (fun v J' ⟨e1, e2⟩ => by rw [e1, e2]; exact kr h)
  · exact J_callS (As := [_]) pc' hp kalX10_requireElement hl hd rfl rfl hcat (by omega) hkc hks (X_X10_requireElement h) (fun E J' ⟨e1, e2⟩ => by rw [e1, e2]; exact hX h) (fun v J' q => absurd q id)
end MORE
