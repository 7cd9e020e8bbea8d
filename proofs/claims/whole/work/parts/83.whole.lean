/-! MAKING: the class and the model (laid by wip/whole/src/p83.py) -/
theorem rfX_key : ∀ m ∈ [30, 60, 90, 332, 335, 340, 343, 347, 349, 350], ∀ o, o < m → rfB (1 + o) (1 + m) = true := by decide +kernel
theorem rfX {m : Nat} (hm : m ∈ [30, 60, 90, 332, 335, 340, 343, 347, 349, 350]) : ∀ k, 1 ≤ k → k < 1 + m → rfB k (1 + m) = true := by
  intro k h1 h2
  have q := rfX_key m hm (k - 1) (by omega)
  rw [show 1 + (k - 1) = k by omega] at q
  exact q
theorem upd_snoc {l : List Nat} {i c : Nat} (hl : l.length = i) : upd (fun j => nI (l.getD j 0)) i (nI c) = fun j => nI ((l ++ [c]).getD j 0) := by
  subst hl
  funext j
  show (if j = l.length then nI c else nI (l.getD j 0)) = nI ((l ++ [c]).getD j 0)
  by_cases e : j = l.length
  · rw [if_pos e, e, getD_end]
  · rw [if_neg e]
    by_cases e2 : j < l.length
    · rw [getD_app e2]
    · rw [List.getD_eq_getElem?_getD, List.getD_eq_getElem?_getD, List.getElem?_eq_none (by omega), List.getElem?_eq_none (by rw [List.length_append]; show l.length + 1 ≤ j; omega)]
theorem nil_get : (fun _ : Nat => nI 0) = fun j => nI (([] : List Nat).getD j 0) := by
  funext j
  rfl
section NCAST
variable {u : Un} {y : MI} {d kc ks : Nat} {Q : Option Value → va_W → Prop} {X : String → va_W → Prop} {pc : Nat} {L : List (Nat × Value)} {st : List Value} {w0 : va_W}
theorem N_castL (pc' : Nat) {i n c a : Nat} {l : List Nat} (l2 : List Nat) (hp : pc + 1 = pc') (hd : decode y.2.1 pc = .ok (.castore, 1)) (hl : l.length = i) (h2 : l ++ [c] = l2) (hi : i < n) (hn : n < 2147483648) (hc : c < 65536) (k : V u y d kc ks Q X pc' L st (w0 ++ [(a, .inl (u.2.2.2 1, n, .inl (fun j => nI (l2.getD j 0))))])) : V u y d kc ks Q X pc L (.int (nI c) :: .int (nI i) :: .ref a :: st) (w0 ++ [(a, .inl (u.2.2.2 1, n, .inl (fun j => nI (l.getD j 0))))]) := by
  subst h2
  have en : vp_nar .char (nI c) = nI c := by
    unfold vp_nar
    rw [(pk_charN hc).1]
  refine V_cast (i := w0.length + 0) pc' hp hd (ap_get rfl) (vp_in_nI hi hn) ?_
  rw [ap_set, nI_clamp (by omega), en, upd_snoc hl]
  exact k
theorem N_iastL (pc' : Nat) {i n c a : Nat} {l : List Nat} (l2 : List Nat) (hp : pc + 1 = pc') (hd : decode y.2.1 pc = .ok (.iastore, 1)) (hl : l.length = i) (h2 : l ++ [c] = l2) (hi : i < n) (hn : n < 2147483648) (k : V u y d kc ks Q X pc' L st (w0 ++ [(a, .inl (u.2.2.2 0, n, .inl (fun j => nI (l2.getD j 0))))])) : V u y d kc ks Q X pc L (.int (nI c) :: .int (nI i) :: .ref a :: st) (w0 ++ [(a, .inl (u.2.2.2 0, n, .inl (fun j => nI (l.getD j 0))))]) := by
  subst h2
  refine V_iast (i := w0.length + 0) pc' hp hd (ap_get rfl) (vp_in_nI hi hn) ?_
  rw [ap_set, nI_clamp (by omega), upd_snoc hl]
  exact k
end NCAST
theorem X11_letters {u : Un} {d kc ks : Nat} {Q : Option Value → va_W → Prop} {X : String → va_W → Prop} {L : List (Nat × Value)} {st : List Value} {W0 : va_W} {a : Nat} (hst : (st.map fun v => v.category).sum ≤ 4) (k : V u mX11_init d kc ks Q X 445 L (.ref a :: st) (W0 ++ [(a, .inl (u.2.2.2 1, 59, .inl (fun j => nI (ltS.getD j 0))))])) : V u mX11_init d kc ks Q X 97 L (.ref a :: st) (W0 ++ [(a, .inl (u.2.2.2 1, 59, .inl (fun _ => nI 0)))]) := by
  rw [nil_get]
  refine V_dup 98 rfl dX11_init_97 rfl ?_
  refine V_iconst 99 (nI 0) rfl dX11_init_98 ic_0 ?_
  refine V_bipush 101 (nI 101) rfl dX11_init_99 bc_101 ?_
  refine N_castL 102 [101] rfl dX11_init_101 rfl rfl (by omega) (Nat.le_of_ble_eq_true rfl) (by omega) ?_
  refine V_dup 103 rfl dX11_init_102 rfl ?_
  refine V_iconst 104 (nI 1) rfl dX11_init_103 ic_1 ?_
  refine V_bipush 106 (nI 110) rfl dX11_init_104 bc_110 ?_
  refine N_castL 107 [101, 110] rfl dX11_init_106 rfl rfl (by omega) (Nat.le_of_ble_eq_true rfl) (by omega) ?_
  refine V_dup 108 rfl dX11_init_107 rfl ?_
  refine V_iconst 109 (nI 2) rfl dX11_init_108 ic_2 ?_
  refine V_bipush 111 (nI 103) rfl dX11_init_109 bc_103 ?_
  refine N_castL 112 [101, 110, 103] rfl dX11_init_111 rfl rfl (by omega) (Nat.le_of_ble_eq_true rfl) (by omega) ?_
  refine V_dup 113 rfl dX11_init_112 rfl ?_
  refine V_iconst 114 (nI 3) rfl dX11_init_113 ic_3 ?_
  refine V_bipush 116 (nI 105) rfl dX11_init_114 bc_105 ?_
  refine N_castL 117 [101, 110, 103, 105] rfl dX11_init_116 rfl rfl (by omega) (Nat.le_of_ble_eq_true rfl) (by omega) ?_
  refine V_dup 118 rfl dX11_init_117 rfl ?_
  refine V_iconst 119 (nI 4) rfl dX11_init_118 ic_4 ?_
  refine V_bipush 121 (nI 110) rfl dX11_init_119 bc_110 ?_
  refine N_castL 122 [101, 110, 103, 105, 110] rfl dX11_init_121 rfl rfl (by omega) (Nat.le_of_ble_eq_true rfl) (by omega) ?_
  refine V_dup 123 rfl dX11_init_122 rfl ?_
  refine V_iconst 124 (nI 5) rfl dX11_init_123 ic_5 ?_
  refine V_bipush 126 (nI 101) rfl dX11_init_124 bc_101 ?_
  refine N_castL 127 [101, 110, 103, 105, 110, 101] rfl dX11_init_126 rfl rfl (by omega) (Nat.le_of_ble_eq_true rfl) (by omega) ?_
  refine V_dup 128 rfl dX11_init_127 rfl ?_
  refine V_bipush 130 (nI 6) rfl dX11_init_128 bc_6 ?_
  refine V_bipush 132 (nI 32) rfl dX11_init_130 bc_32 ?_
  refine N_castL 133 [101, 110, 103, 105, 110, 101, 32] rfl dX11_init_132 rfl rfl (by omega) (Nat.le_of_ble_eq_true rfl) (by omega) ?_
  refine V_dup 134 rfl dX11_init_133 rfl ?_
  refine V_bipush 136 (nI 7) rfl dX11_init_134 bc_7 ?_
  refine V_bipush 138 (nI 115) rfl dX11_init_136 bc_115 ?_
  refine N_castL 139 [101, 110, 103, 105, 110, 101, 32, 115] rfl dX11_init_138 rfl rfl (by omega) (Nat.le_of_ble_eq_true rfl) (by omega) ?_
  refine V_dup 140 rfl dX11_init_139 rfl ?_
  refine V_bipush 142 (nI 8) rfl dX11_init_140 bc_8 ?_
  refine V_bipush 144 (nI 119) rfl dX11_init_142 bc_119 ?_
  refine N_castL 145 [101, 110, 103, 105, 110, 101, 32, 115, 119] rfl dX11_init_144 rfl rfl (by omega) (Nat.le_of_ble_eq_true rfl) (by omega) ?_
  refine V_dup 146 rfl dX11_init_145 rfl ?_
  refine V_bipush 148 (nI 9) rfl dX11_init_146 bc_9 ?_
  refine V_bipush 150 (nI 97) rfl dX11_init_148 bc_97 ?_
  refine N_castL 151 [101, 110, 103, 105, 110, 101, 32, 115, 119, 97] rfl dX11_init_150 rfl rfl (by omega) (Nat.le_of_ble_eq_true rfl) (by omega) ?_
  refine V_dup 152 rfl dX11_init_151 rfl ?_
  refine V_bipush 154 (nI 10) rfl dX11_init_152 bc_10 ?_
  refine V_bipush 156 (nI 112) rfl dX11_init_154 bc_112 ?_
  refine N_castL 157 [101, 110, 103, 105, 110, 101, 32, 115, 119, 97, 112] rfl dX11_init_156 rfl rfl (by omega) (Nat.le_of_ble_eq_true rfl) (by omega) ?_
  refine V_dup 158 rfl dX11_init_157 rfl ?_
  refine V_bipush 160 (nI 11) rfl dX11_init_158 bc_11 ?_
  refine V_bipush 162 (nI 32) rfl dX11_init_160 bc_32 ?_
  refine N_castL 163 [101, 110, 103, 105, 110, 101, 32, 115, 119, 97, 112, 32] rfl dX11_init_162 rfl rfl (by omega) (Nat.le_of_ble_eq_true rfl) (by omega) ?_
  refine V_dup 164 rfl dX11_init_163 rfl ?_
  refine V_bipush 166 (nI 12) rfl dX11_init_164 bc_12 ?_
  refine V_bipush 168 (nI 114) rfl dX11_init_166 bc_114 ?_
  refine N_castL 169 [101, 110, 103, 105, 110, 101, 32, 115, 119, 97, 112, 32, 114] rfl dX11_init_168 rfl rfl (by omega) (Nat.le_of_ble_eq_true rfl) (by omega) ?_
  refine V_dup 170 rfl dX11_init_169 rfl ?_
  refine V_bipush 172 (nI 13) rfl dX11_init_170 bc_13 ?_
  refine V_bipush 174 (nI 97) rfl dX11_init_172 bc_97 ?_
  refine N_castL 175 [101, 110, 103, 105, 110, 101, 32, 115, 119, 97, 112, 32, 114, 97] rfl dX11_init_174 rfl rfl (by omega) (Nat.le_of_ble_eq_true rfl) (by omega) ?_
  refine V_dup 176 rfl dX11_init_175 rfl ?_
  refine V_bipush 178 (nI 14) rfl dX11_init_176 bc_14 ?_
  refine V_bipush 180 (nI 116) rfl dX11_init_178 bc_116 ?_
  refine N_castL 181 [101, 110, 103, 105, 110, 101, 32, 115, 119, 97, 112, 32, 114, 97, 116] rfl dX11_init_180 rfl rfl (by omega) (Nat.le_of_ble_eq_true rfl) (by omega) ?_
  refine V_dup 182 rfl dX11_init_181 rfl ?_
  refine V_bipush 184 (nI 15) rfl dX11_init_182 bc_15 ?_
  refine V_bipush 186 (nI 101) rfl dX11_init_184 bc_101 ?_
  refine N_castL 187 [101, 110, 103, 105, 110, 101, 32, 115, 119, 97, 112, 32, 114, 97, 116, 101] rfl dX11_init_186 rfl rfl (by omega) (Nat.le_of_ble_eq_true rfl) (by omega) ?_
  refine V_dup 188 rfl dX11_init_187 rfl ?_
  refine V_bipush 190 (nI 16) rfl dX11_init_188 bc_16 ?_
  refine V_bipush 192 (nI 32) rfl dX11_init_190 bc_32 ?_
  refine N_castL 193 [101, 110, 103, 105, 110, 101, 32, 115, 119, 97, 112, 32, 114, 97, 116, 101, 32] rfl dX11_init_192 rfl rfl (by omega) (Nat.le_of_ble_eq_true rfl) (by omega) ?_
  refine V_dup 194 rfl dX11_init_193 rfl ?_
  refine V_bipush 196 (nI 17) rfl dX11_init_194 bc_17 ?_
  refine V_bipush 198 (nI 114) rfl dX11_init_196 bc_114 ?_
  refine N_castL 199 [101, 110, 103, 105, 110, 101, 32, 115, 119, 97, 112, 32, 114, 97, 116, 101, 32, 114] rfl dX11_init_198 rfl rfl (by omega) (Nat.le_of_ble_eq_true rfl) (by omega) ?_
  refine V_dup 200 rfl dX11_init_199 rfl ?_
  refine V_bipush 202 (nI 18) rfl dX11_init_200 bc_18 ?_
  refine V_bipush 204 (nI 117) rfl dX11_init_202 bc_117 ?_
  refine N_castL 205 [101, 110, 103, 105, 110, 101, 32, 115, 119, 97, 112, 32, 114, 97, 116, 101, 32, 114, 117] rfl dX11_init_204 rfl rfl (by omega) (Nat.le_of_ble_eq_true rfl) (by omega) ?_
  refine V_dup 206 rfl dX11_init_205 rfl ?_
  refine V_bipush 208 (nI 19) rfl dX11_init_206 bc_19 ?_
  refine V_bipush 210 (nI 110) rfl dX11_init_208 bc_110 ?_
  refine N_castL 211 [101, 110, 103, 105, 110, 101, 32, 115, 119, 97, 112, 32, 114, 97, 116, 101, 32, 114, 117, 110] rfl dX11_init_210 rfl rfl (by omega) (Nat.le_of_ble_eq_true rfl) (by omega) ?_
  refine V_dup 212 rfl dX11_init_211 rfl ?_
  refine V_bipush 214 (nI 20) rfl dX11_init_212 bc_20 ?_
  refine V_bipush 216 (nI 32) rfl dX11_init_214 bc_32 ?_
  refine N_castL 217 [101, 110, 103, 105, 110, 101, 32, 115, 119, 97, 112, 32, 114, 97, 116, 101, 32, 114, 117, 110, 32] rfl dX11_init_216 rfl rfl (by omega) (Nat.le_of_ble_eq_true rfl) (by omega) ?_
  refine V_dup 218 rfl dX11_init_217 rfl ?_
  refine V_bipush 220 (nI 21) rfl dX11_init_218 bc_21 ?_
  refine V_bipush 222 (nI 111) rfl dX11_init_220 bc_111 ?_
  refine N_castL 223 [101, 110, 103, 105, 110, 101, 32, 115, 119, 97, 112, 32, 114, 97, 116, 101, 32, 114, 117, 110, 32, 111] rfl dX11_init_222 rfl rfl (by omega) (Nat.le_of_ble_eq_true rfl) (by omega) ?_
  refine V_dup 224 rfl dX11_init_223 rfl ?_
  refine V_bipush 226 (nI 22) rfl dX11_init_224 bc_22 ?_
  refine V_bipush 228 (nI 105) rfl dX11_init_226 bc_105 ?_
  refine N_castL 229 [101, 110, 103, 105, 110, 101, 32, 115, 119, 97, 112, 32, 114, 97, 116, 101, 32, 114, 117, 110, 32, 111, 105] rfl dX11_init_228 rfl rfl (by omega) (Nat.le_of_ble_eq_true rfl) (by omega) ?_
  refine V_dup 230 rfl dX11_init_229 rfl ?_
  refine V_bipush 232 (nI 23) rfl dX11_init_230 bc_23 ?_
  refine V_bipush 234 (nI 108) rfl dX11_init_232 bc_108 ?_
  refine N_castL 235 [101, 110, 103, 105, 110, 101, 32, 115, 119, 97, 112, 32, 114, 97, 116, 101, 32, 114, 117, 110, 32, 111, 105, 108] rfl dX11_init_234 rfl rfl (by omega) (Nat.le_of_ble_eq_true rfl) (by omega) ?_
  refine V_dup 236 rfl dX11_init_235 rfl ?_
  refine V_bipush 238 (nI 24) rfl dX11_init_236 bc_24 ?_
  refine V_bipush 240 (nI 32) rfl dX11_init_238 bc_32 ?_
  refine N_castL 241 [101, 110, 103, 105, 110, 101, 32, 115, 119, 97, 112, 32, 114, 97, 116, 101, 32, 114, 117, 110, 32, 111, 105, 108, 32] rfl dX11_init_240 rfl rfl (by omega) (Nat.le_of_ble_eq_true rfl) (by omega) ?_
  refine V_dup 242 rfl dX11_init_241 rfl ?_
  refine V_bipush 244 (nI 25) rfl dX11_init_242 bc_25 ?_
  refine V_bipush 246 (nI 102) rfl dX11_init_244 bc_102 ?_
  refine N_castL 247 [101, 110, 103, 105, 110, 101, 32, 115, 119, 97, 112, 32, 114, 97, 116, 101, 32, 114, 117, 110, 32, 111, 105, 108, 32, 102] rfl dX11_init_246 rfl rfl (by omega) (Nat.le_of_ble_eq_true rfl) (by omega) ?_
  refine V_dup 248 rfl dX11_init_247 rfl ?_
  refine V_bipush 250 (nI 26) rfl dX11_init_248 bc_26 ?_
  refine V_bipush 252 (nI 105) rfl dX11_init_250 bc_105 ?_
  refine N_castL 253 [101, 110, 103, 105, 110, 101, 32, 115, 119, 97, 112, 32, 114, 97, 116, 101, 32, 114, 117, 110, 32, 111, 105, 108, 32, 102, 105] rfl dX11_init_252 rfl rfl (by omega) (Nat.le_of_ble_eq_true rfl) (by omega) ?_
  refine V_dup 254 rfl dX11_init_253 rfl ?_
  refine V_bipush 256 (nI 27) rfl dX11_init_254 bc_27 ?_
  refine V_bipush 258 (nI 108) rfl dX11_init_256 bc_108 ?_
  refine N_castL 259 [101, 110, 103, 105, 110, 101, 32, 115, 119, 97, 112, 32, 114, 97, 116, 101, 32, 114, 117, 110, 32, 111, 105, 108, 32, 102, 105, 108] rfl dX11_init_258 rfl rfl (by omega) (Nat.le_of_ble_eq_true rfl) (by omega) ?_
  refine V_dup 260 rfl dX11_init_259 rfl ?_
  refine V_bipush 262 (nI 28) rfl dX11_init_260 bc_28 ?_
  refine V_bipush 264 (nI 108) rfl dX11_init_262 bc_108 ?_
  refine N_castL 265 [101, 110, 103, 105, 110, 101, 32, 115, 119, 97, 112, 32, 114, 97, 116, 101, 32, 114, 117, 110, 32, 111, 105, 108, 32, 102, 105, 108, 108] rfl dX11_init_264 rfl rfl (by omega) (Nat.le_of_ble_eq_true rfl) (by omega) ?_
  refine V_dup 266 rfl dX11_init_265 rfl ?_
  refine V_bipush 268 (nI 29) rfl dX11_init_266 bc_29 ?_
  refine V_bipush 270 (nI 32) rfl dX11_init_268 bc_32 ?_
  refine N_castL 271 [101, 110, 103, 105, 110, 101, 32, 115, 119, 97, 112, 32, 114, 97, 116, 101, 32, 114, 117, 110, 32, 111, 105, 108, 32, 102, 105, 108, 108, 32] rfl dX11_init_270 rfl rfl (by omega) (Nat.le_of_ble_eq_true rfl) (by omega) ?_
  refine V_dup 272 rfl dX11_init_271 rfl ?_
  refine V_bipush 274 (nI 30) rfl dX11_init_272 bc_30 ?_
  refine V_bipush 276 (nI 98) rfl dX11_init_274 bc_98 ?_
  refine N_castL 277 [101, 110, 103, 105, 110, 101, 32, 115, 119, 97, 112, 32, 114, 97, 116, 101, 32, 114, 117, 110, 32, 111, 105, 108, 32, 102, 105, 108, 108, 32, 98] rfl dX11_init_276 rfl rfl (by omega) (Nat.le_of_ble_eq_true rfl) (by omega) ?_
  refine V_dup 278 rfl dX11_init_277 rfl ?_
  refine V_bipush 280 (nI 31) rfl dX11_init_278 bc_31 ?_
  refine V_bipush 282 (nI 117) rfl dX11_init_280 bc_117 ?_
  refine N_castL 283 [101, 110, 103, 105, 110, 101, 32, 115, 119, 97, 112, 32, 114, 97, 116, 101, 32, 114, 117, 110, 32, 111, 105, 108, 32, 102, 105, 108, 108, 32, 98, 117] rfl dX11_init_282 rfl rfl (by omega) (Nat.le_of_ble_eq_true rfl) (by omega) ?_
  refine V_dup 284 rfl dX11_init_283 rfl ?_
  refine V_bipush 286 (nI 32) rfl dX11_init_284 bc_32 ?_
  refine V_bipush 288 (nI 121) rfl dX11_init_286 bc_121 ?_
  refine N_castL 289 [101, 110, 103, 105, 110, 101, 32, 115, 119, 97, 112, 32, 114, 97, 116, 101, 32, 114, 117, 110, 32, 111, 105, 108, 32, 102, 105, 108, 108, 32, 98, 117, 121] rfl dX11_init_288 rfl rfl (by omega) (Nat.le_of_ble_eq_true rfl) (by omega) ?_
  refine V_dup 290 rfl dX11_init_289 rfl ?_
  refine V_bipush 292 (nI 33) rfl dX11_init_290 bc_33 ?_
  refine V_bipush 294 (nI 32) rfl dX11_init_292 bc_32 ?_
  refine N_castL 295 [101, 110, 103, 105, 110, 101, 32, 115, 119, 97, 112, 32, 114, 97, 116, 101, 32, 114, 117, 110, 32, 111, 105, 108, 32, 102, 105, 108, 108, 32, 98, 117, 121, 32] rfl dX11_init_294 rfl rfl (by omega) (Nat.le_of_ble_eq_true rfl) (by omega) ?_
  refine V_dup 296 rfl dX11_init_295 rfl ?_
  refine V_bipush 298 (nI 34) rfl dX11_init_296 bc_34 ?_
  refine V_bipush 300 (nI 109) rfl dX11_init_298 bc_109 ?_
  refine N_castL 301 [101, 110, 103, 105, 110, 101, 32, 115, 119, 97, 112, 32, 114, 97, 116, 101, 32, 114, 117, 110, 32, 111, 105, 108, 32, 102, 105, 108, 108, 32, 98, 117, 121, 32, 109] rfl dX11_init_300 rfl rfl (by omega) (Nat.le_of_ble_eq_true rfl) (by omega) ?_
  refine V_dup 302 rfl dX11_init_301 rfl ?_
  refine V_bipush 304 (nI 35) rfl dX11_init_302 bc_35 ?_
  refine V_bipush 306 (nI 111) rfl dX11_init_304 bc_111 ?_
  refine N_castL 307 [101, 110, 103, 105, 110, 101, 32, 115, 119, 97, 112, 32, 114, 97, 116, 101, 32, 114, 117, 110, 32, 111, 105, 108, 32, 102, 105, 108, 108, 32, 98, 117, 121, 32, 109, 111] rfl dX11_init_306 rfl rfl (by omega) (Nat.le_of_ble_eq_true rfl) (by omega) ?_
  refine V_dup 308 rfl dX11_init_307 rfl ?_
  refine V_bipush 310 (nI 36) rfl dX11_init_308 bc_36 ?_
  refine V_bipush 312 (nI 110) rfl dX11_init_310 bc_110 ?_
  refine N_castL 313 [101, 110, 103, 105, 110, 101, 32, 115, 119, 97, 112, 32, 114, 97, 116, 101, 32, 114, 117, 110, 32, 111, 105, 108, 32, 102, 105, 108, 108, 32, 98, 117, 121, 32, 109, 111, 110] rfl dX11_init_312 rfl rfl (by omega) (Nat.le_of_ble_eq_true rfl) (by omega) ?_
  refine V_dup 314 rfl dX11_init_313 rfl ?_
  refine V_bipush 316 (nI 37) rfl dX11_init_314 bc_37 ?_
  refine V_bipush 318 (nI 107) rfl dX11_init_316 bc_107 ?_
  refine N_castL 319 [101, 110, 103, 105, 110, 101, 32, 115, 119, 97, 112, 32, 114, 97, 116, 101, 32, 114, 117, 110, 32, 111, 105, 108, 32, 102, 105, 108, 108, 32, 98, 117, 121, 32, 109, 111, 110, 107] rfl dX11_init_318 rfl rfl (by omega) (Nat.le_of_ble_eq_true rfl) (by omega) ?_
  refine V_dup 320 rfl dX11_init_319 rfl ?_
  refine V_bipush 322 (nI 38) rfl dX11_init_320 bc_38 ?_
  refine V_bipush 324 (nI 97) rfl dX11_init_322 bc_97 ?_
  refine N_castL 325 [101, 110, 103, 105, 110, 101, 32, 115, 119, 97, 112, 32, 114, 97, 116, 101, 32, 114, 117, 110, 32, 111, 105, 108, 32, 102, 105, 108, 108, 32, 98, 117, 121, 32, 109, 111, 110, 107, 97] rfl dX11_init_324 rfl rfl (by omega) (Nat.le_of_ble_eq_true rfl) (by omega) ?_
  refine V_dup 326 rfl dX11_init_325 rfl ?_
  refine V_bipush 328 (nI 39) rfl dX11_init_326 bc_39 ?_
  refine V_bipush 330 (nI 98) rfl dX11_init_328 bc_98 ?_
  refine N_castL 331 [101, 110, 103, 105, 110, 101, 32, 115, 119, 97, 112, 32, 114, 97, 116, 101, 32, 114, 117, 110, 32, 111, 105, 108, 32, 102, 105, 108, 108, 32, 98, 117, 121, 32, 109, 111, 110, 107, 97, 98] rfl dX11_init_330 rfl rfl (by omega) (Nat.le_of_ble_eq_true rfl) (by omega) ?_
  refine V_dup 332 rfl dX11_init_331 rfl ?_
  refine V_bipush 334 (nI 40) rfl dX11_init_332 bc_40 ?_
  refine V_bipush 336 (nI 108) rfl dX11_init_334 bc_108 ?_
  refine N_castL 337 [101, 110, 103, 105, 110, 101, 32, 115, 119, 97, 112, 32, 114, 97, 116, 101, 32, 114, 117, 110, 32, 111, 105, 108, 32, 102, 105, 108, 108, 32, 98, 117, 121, 32, 109, 111, 110, 107, 97, 98, 108] rfl dX11_init_336 rfl rfl (by omega) (Nat.le_of_ble_eq_true rfl) (by omega) ?_
  refine V_dup 338 rfl dX11_init_337 rfl ?_
  refine V_bipush 340 (nI 41) rfl dX11_init_338 bc_41 ?_
  refine V_bipush 342 (nI 101) rfl dX11_init_340 bc_101 ?_
  refine N_castL 343 [101, 110, 103, 105, 110, 101, 32, 115, 119, 97, 112, 32, 114, 97, 116, 101, 32, 114, 117, 110, 32, 111, 105, 108, 32, 102, 105, 108, 108, 32, 98, 117, 121, 32, 109, 111, 110, 107, 97, 98, 108, 101] rfl dX11_init_342 rfl rfl (by omega) (Nat.le_of_ble_eq_true rfl) (by omega) ?_
  refine V_dup 344 rfl dX11_init_343 rfl ?_
  refine V_bipush 346 (nI 42) rfl dX11_init_344 bc_42 ?_
  refine V_bipush 348 (nI 32) rfl dX11_init_346 bc_32 ?_
  refine N_castL 349 [101, 110, 103, 105, 110, 101, 32, 115, 119, 97, 112, 32, 114, 97, 116, 101, 32, 114, 117, 110, 32, 111, 105, 108, 32, 102, 105, 108, 108, 32, 98, 117, 121, 32, 109, 111, 110, 107, 97, 98, 108, 101, 32] rfl dX11_init_348 rfl rfl (by omega) (Nat.le_of_ble_eq_true rfl) (by omega) ?_
  refine V_dup 350 rfl dX11_init_349 rfl ?_
  refine V_bipush 352 (nI 43) rfl dX11_init_350 bc_43 ?_
  refine V_bipush 354 (nI 109) rfl dX11_init_352 bc_109 ?_
  refine N_castL 355 [101, 110, 103, 105, 110, 101, 32, 115, 119, 97, 112, 32, 114, 97, 116, 101, 32, 114, 117, 110, 32, 111, 105, 108, 32, 102, 105, 108, 108, 32, 98, 117, 121, 32, 109, 111, 110, 107, 97, 98, 108, 101, 32, 109] rfl dX11_init_354 rfl rfl (by omega) (Nat.le_of_ble_eq_true rfl) (by omega) ?_
  refine V_dup 356 rfl dX11_init_355 rfl ?_
  refine V_bipush 358 (nI 44) rfl dX11_init_356 bc_44 ?_
  refine V_bipush 360 (nI 101) rfl dX11_init_358 bc_101 ?_
  refine N_castL 361 [101, 110, 103, 105, 110, 101, 32, 115, 119, 97, 112, 32, 114, 97, 116, 101, 32, 114, 117, 110, 32, 111, 105, 108, 32, 102, 105, 108, 108, 32, 98, 117, 121, 32, 109, 111, 110, 107, 97, 98, 108, 101, 32, 109, 101] rfl dX11_init_360 rfl rfl (by omega) (Nat.le_of_ble_eq_true rfl) (by omega) ?_
  refine V_dup 362 rfl dX11_init_361 rfl ?_
  refine V_bipush 364 (nI 45) rfl dX11_init_362 bc_45 ?_
  refine V_bipush 366 (nI 110) rfl dX11_init_364 bc_110 ?_
  refine N_castL 367 [101, 110, 103, 105, 110, 101, 32, 115, 119, 97, 112, 32, 114, 97, 116, 101, 32, 114, 117, 110, 32, 111, 105, 108, 32, 102, 105, 108, 108, 32, 98, 117, 121, 32, 109, 111, 110, 107, 97, 98, 108, 101, 32, 109, 101, 110] rfl dX11_init_366 rfl rfl (by omega) (Nat.le_of_ble_eq_true rfl) (by omega) ?_
  refine V_dup 368 rfl dX11_init_367 rfl ?_
  refine V_bipush 370 (nI 46) rfl dX11_init_368 bc_46 ?_
  refine V_bipush 372 (nI 100) rfl dX11_init_370 bc_100 ?_
  refine N_castL 373 [101, 110, 103, 105, 110, 101, 32, 115, 119, 97, 112, 32, 114, 97, 116, 101, 32, 114, 117, 110, 32, 111, 105, 108, 32, 102, 105, 108, 108, 32, 98, 117, 121, 32, 109, 111, 110, 107, 97, 98, 108, 101, 32, 109, 101, 110, 100] rfl dX11_init_372 rfl rfl (by omega) (Nat.le_of_ble_eq_true rfl) (by omega) ?_
  refine V_dup 374 rfl dX11_init_373 rfl ?_
  refine V_bipush 376 (nI 47) rfl dX11_init_374 bc_47 ?_
  refine V_bipush 378 (nI 32) rfl dX11_init_376 bc_32 ?_
  refine N_castL 379 [101, 110, 103, 105, 110, 101, 32, 115, 119, 97, 112, 32, 114, 97, 116, 101, 32, 114, 117, 110, 32, 111, 105, 108, 32, 102, 105, 108, 108, 32, 98, 117, 121, 32, 109, 111, 110, 107, 97, 98, 108, 101, 32, 109, 101, 110, 100, 32] rfl dX11_init_378 rfl rfl (by omega) (Nat.le_of_ble_eq_true rfl) (by omega) ?_
  refine V_dup 380 rfl dX11_init_379 rfl ?_
  refine V_bipush 382 (nI 48) rfl dX11_init_380 bc_48 ?_
  refine V_bipush 384 (nI 114) rfl dX11_init_382 bc_114 ?_
  refine N_castL 385 [101, 110, 103, 105, 110, 101, 32, 115, 119, 97, 112, 32, 114, 97, 116, 101, 32, 114, 117, 110, 32, 111, 105, 108, 32, 102, 105, 108, 108, 32, 98, 117, 121, 32, 109, 111, 110, 107, 97, 98, 108, 101, 32, 109, 101, 110, 100, 32, 114] rfl dX11_init_384 rfl rfl (by omega) (Nat.le_of_ble_eq_true rfl) (by omega) ?_
  refine V_dup 386 rfl dX11_init_385 rfl ?_
  refine V_bipush 388 (nI 49) rfl dX11_init_386 bc_49 ?_
  refine V_bipush 390 (nI 101) rfl dX11_init_388 bc_101 ?_
  refine N_castL 391 [101, 110, 103, 105, 110, 101, 32, 115, 119, 97, 112, 32, 114, 97, 116, 101, 32, 114, 117, 110, 32, 111, 105, 108, 32, 102, 105, 108, 108, 32, 98, 117, 121, 32, 109, 111, 110, 107, 97, 98, 108, 101, 32, 109, 101, 110, 100, 32, 114, 101] rfl dX11_init_390 rfl rfl (by omega) (Nat.le_of_ble_eq_true rfl) (by omega) ?_
  refine V_dup 392 rfl dX11_init_391 rfl ?_
  refine V_bipush 394 (nI 50) rfl dX11_init_392 bc_50 ?_
  refine V_bipush 396 (nI 112) rfl dX11_init_394 bc_112 ?_
  refine N_castL 397 [101, 110, 103, 105, 110, 101, 32, 115, 119, 97, 112, 32, 114, 97, 116, 101, 32, 114, 117, 110, 32, 111, 105, 108, 32, 102, 105, 108, 108, 32, 98, 117, 121, 32, 109, 111, 110, 107, 97, 98, 108, 101, 32, 109, 101, 110, 100, 32, 114, 101, 112] rfl dX11_init_396 rfl rfl (by omega) (Nat.le_of_ble_eq_true rfl) (by omega) ?_
  refine V_dup 398 rfl dX11_init_397 rfl ?_
  refine V_bipush 400 (nI 51) rfl dX11_init_398 bc_51 ?_
  refine V_bipush 402 (nI 97) rfl dX11_init_400 bc_97 ?_
  refine N_castL 403 [101, 110, 103, 105, 110, 101, 32, 115, 119, 97, 112, 32, 114, 97, 116, 101, 32, 114, 117, 110, 32, 111, 105, 108, 32, 102, 105, 108, 108, 32, 98, 117, 121, 32, 109, 111, 110, 107, 97, 98, 108, 101, 32, 109, 101, 110, 100, 32, 114, 101, 112, 97] rfl dX11_init_402 rfl rfl (by omega) (Nat.le_of_ble_eq_true rfl) (by omega) ?_
  refine V_dup 404 rfl dX11_init_403 rfl ?_
  refine V_bipush 406 (nI 52) rfl dX11_init_404 bc_52 ?_
  refine V_bipush 408 (nI 105) rfl dX11_init_406 bc_105 ?_
  refine N_castL 409 [101, 110, 103, 105, 110, 101, 32, 115, 119, 97, 112, 32, 114, 97, 116, 101, 32, 114, 117, 110, 32, 111, 105, 108, 32, 102, 105, 108, 108, 32, 98, 117, 121, 32, 109, 111, 110, 107, 97, 98, 108, 101, 32, 109, 101, 110, 100, 32, 114, 101, 112, 97, 105] rfl dX11_init_408 rfl rfl (by omega) (Nat.le_of_ble_eq_true rfl) (by omega) ?_
  refine V_dup 410 rfl dX11_init_409 rfl ?_
  refine V_bipush 412 (nI 53) rfl dX11_init_410 bc_53 ?_
  refine V_bipush 414 (nI 114) rfl dX11_init_412 bc_114 ?_
  refine N_castL 415 [101, 110, 103, 105, 110, 101, 32, 115, 119, 97, 112, 32, 114, 97, 116, 101, 32, 114, 117, 110, 32, 111, 105, 108, 32, 102, 105, 108, 108, 32, 98, 117, 121, 32, 109, 111, 110, 107, 97, 98, 108, 101, 32, 109, 101, 110, 100, 32, 114, 101, 112, 97, 105, 114] rfl dX11_init_414 rfl rfl (by omega) (Nat.le_of_ble_eq_true rfl) (by omega) ?_
  refine V_dup 416 rfl dX11_init_415 rfl ?_
  refine V_bipush 418 (nI 54) rfl dX11_init_416 bc_54 ?_
  refine V_bipush 420 (nI 112) rfl dX11_init_418 bc_112 ?_
  refine N_castL 421 [101, 110, 103, 105, 110, 101, 32, 115, 119, 97, 112, 32, 114, 97, 116, 101, 32, 114, 117, 110, 32, 111, 105, 108, 32, 102, 105, 108, 108, 32, 98, 117, 121, 32, 109, 111, 110, 107, 97, 98, 108, 101, 32, 109, 101, 110, 100, 32, 114, 101, 112, 97, 105, 114, 112] rfl dX11_init_420 rfl rfl (by omega) (Nat.le_of_ble_eq_true rfl) (by omega) ?_
  refine V_dup 422 rfl dX11_init_421 rfl ?_
  refine V_bipush 424 (nI 55) rfl dX11_init_422 bc_55 ?_
  refine V_bipush 426 (nI 97) rfl dX11_init_424 bc_97 ?_
  refine N_castL 427 [101, 110, 103, 105, 110, 101, 32, 115, 119, 97, 112, 32, 114, 97, 116, 101, 32, 114, 117, 110, 32, 111, 105, 108, 32, 102, 105, 108, 108, 32, 98, 117, 121, 32, 109, 111, 110, 107, 97, 98, 108, 101, 32, 109, 101, 110, 100, 32, 114, 101, 112, 97, 105, 114, 112, 97] rfl dX11_init_426 rfl rfl (by omega) (Nat.le_of_ble_eq_true rfl) (by omega) ?_
  refine V_dup 428 rfl dX11_init_427 rfl ?_
  refine V_bipush 430 (nI 56) rfl dX11_init_428 bc_56 ?_
  refine V_bipush 432 (nI 115) rfl dX11_init_430 bc_115 ?_
  refine N_castL 433 [101, 110, 103, 105, 110, 101, 32, 115, 119, 97, 112, 32, 114, 97, 116, 101, 32, 114, 117, 110, 32, 111, 105, 108, 32, 102, 105, 108, 108, 32, 98, 117, 121, 32, 109, 111, 110, 107, 97, 98, 108, 101, 32, 109, 101, 110, 100, 32, 114, 101, 112, 97, 105, 114, 112, 97, 115] rfl dX11_init_432 rfl rfl (by omega) (Nat.le_of_ble_eq_true rfl) (by omega) ?_
  refine V_dup 434 rfl dX11_init_433 rfl ?_
  refine V_bipush 436 (nI 57) rfl dX11_init_434 bc_57 ?_
  refine V_bipush 438 (nI 115) rfl dX11_init_436 bc_115 ?_
  refine N_castL 439 [101, 110, 103, 105, 110, 101, 32, 115, 119, 97, 112, 32, 114, 97, 116, 101, 32, 114, 117, 110, 32, 111, 105, 108, 32, 102, 105, 108, 108, 32, 98, 117, 121, 32, 109, 111, 110, 107, 97, 98, 108, 101, 32, 109, 101, 110, 100, 32, 114, 101, 112, 97, 105, 114, 112, 97, 115, 115] rfl dX11_init_438 rfl rfl (by omega) (Nat.le_of_ble_eq_true rfl) (by omega) ?_
  refine V_dup 440 rfl dX11_init_439 rfl ?_
  refine V_bipush 442 (nI 58) rfl dX11_init_440 bc_58 ?_
  refine V_bipush 444 (nI 32) rfl dX11_init_442 bc_32 ?_
  refine N_castL 445 [101, 110, 103, 105, 110, 101, 32, 115, 119, 97, 112, 32, 114, 97, 116, 101, 32, 114, 117, 110, 32, 111, 105, 108, 32, 102, 105, 108, 108, 32, 98, 117, 121, 32, 109, 111, 110, 107, 97, 98, 108, 101, 32, 109, 101, 110, 100, 32, 114, 101, 112, 97, 105, 114, 112, 97, 115, 115, 32] rfl dX11_init_444 rfl rfl (by omega) (Nat.le_of_ble_eq_true rfl) (by omega) ?_
  exact k
theorem X11_begins {u : Un} {d kc ks : Nat} {Q : Option Value → va_W → Prop} {X : String → va_W → Prop} {L : List (Nat × Value)} {st : List Value} {W0 : va_W} {a : Nat} (hst : (st.map fun v => v.category).sum ≤ 4) (k : V u mX11_init d kc ks Q X 524 L (.ref a :: st) (W0 ++ [(a, .inl (u.2.2.2 0, 13, .inl (fun j => nI (bgS.getD j 0))))])) : V u mX11_init d kc ks Q X 453 L (.ref a :: st) (W0 ++ [(a, .inl (u.2.2.2 0, 13, .inl (fun _ => nI 0)))]) := by
  rw [nil_get]
  refine V_dup 454 rfl dX11_init_453 rfl ?_
  refine V_iconst 455 (nI 0) rfl dX11_init_454 ic_0 ?_
  refine V_iconst 456 (nI 0) rfl dX11_init_455 ic_0 ?_
  refine N_iastL 457 [0] rfl dX11_init_456 rfl rfl (by omega) (Nat.le_of_ble_eq_true rfl) ?_
  refine V_dup 458 rfl dX11_init_457 rfl ?_
  refine V_iconst 459 (nI 1) rfl dX11_init_458 ic_1 ?_
  refine V_bipush 461 (nI 7) rfl dX11_init_459 bc_7 ?_
  refine N_iastL 462 [0, 7] rfl dX11_init_461 rfl rfl (by omega) (Nat.le_of_ble_eq_true rfl) ?_
  refine V_dup 463 rfl dX11_init_462 rfl ?_
  refine V_iconst 464 (nI 2) rfl dX11_init_463 ic_2 ?_
  refine V_bipush 466 (nI 12) rfl dX11_init_464 bc_12 ?_
  refine N_iastL 467 [0, 7, 12] rfl dX11_init_466 rfl rfl (by omega) (Nat.le_of_ble_eq_true rfl) ?_
  refine V_dup 468 rfl dX11_init_467 rfl ?_
  refine V_iconst 469 (nI 3) rfl dX11_init_468 ic_3 ?_
  refine V_bipush 471 (nI 17) rfl dX11_init_469 bc_17 ?_
  refine N_iastL 472 [0, 7, 12, 17] rfl dX11_init_471 rfl rfl (by omega) (Nat.le_of_ble_eq_true rfl) ?_
  refine V_dup 473 rfl dX11_init_472 rfl ?_
  refine V_iconst 474 (nI 4) rfl dX11_init_473 ic_4 ?_
  refine V_bipush 476 (nI 21) rfl dX11_init_474 bc_21 ?_
  refine N_iastL 477 [0, 7, 12, 17, 21] rfl dX11_init_476 rfl rfl (by omega) (Nat.le_of_ble_eq_true rfl) ?_
  refine V_dup 478 rfl dX11_init_477 rfl ?_
  refine V_iconst 479 (nI 5) rfl dX11_init_478 ic_5 ?_
  refine V_bipush 481 (nI 25) rfl dX11_init_479 bc_25 ?_
  refine N_iastL 482 [0, 7, 12, 17, 21, 25] rfl dX11_init_481 rfl rfl (by omega) (Nat.le_of_ble_eq_true rfl) ?_
  refine V_dup 483 rfl dX11_init_482 rfl ?_
  refine V_bipush 485 (nI 6) rfl dX11_init_483 bc_6 ?_
  refine V_bipush 487 (nI 30) rfl dX11_init_485 bc_30 ?_
  refine N_iastL 488 [0, 7, 12, 17, 21, 25, 30] rfl dX11_init_487 rfl rfl (by omega) (Nat.le_of_ble_eq_true rfl) ?_
  refine V_dup 489 rfl dX11_init_488 rfl ?_
  refine V_bipush 491 (nI 7) rfl dX11_init_489 bc_7 ?_
  refine V_bipush 493 (nI 34) rfl dX11_init_491 bc_34 ?_
  refine N_iastL 494 [0, 7, 12, 17, 21, 25, 30, 34] rfl dX11_init_493 rfl rfl (by omega) (Nat.le_of_ble_eq_true rfl) ?_
  refine V_dup 495 rfl dX11_init_494 rfl ?_
  refine V_bipush 497 (nI 8) rfl dX11_init_495 bc_8 ?_
  refine V_bipush 499 (nI 38) rfl dX11_init_497 bc_38 ?_
  refine N_iastL 500 [0, 7, 12, 17, 21, 25, 30, 34, 38] rfl dX11_init_499 rfl rfl (by omega) (Nat.le_of_ble_eq_true rfl) ?_
  refine V_dup 501 rfl dX11_init_500 rfl ?_
  refine V_bipush 503 (nI 9) rfl dX11_init_501 bc_9 ?_
  refine V_bipush 505 (nI 43) rfl dX11_init_503 bc_43 ?_
  refine N_iastL 506 [0, 7, 12, 17, 21, 25, 30, 34, 38, 43] rfl dX11_init_505 rfl rfl (by omega) (Nat.le_of_ble_eq_true rfl) ?_
  refine V_dup 507 rfl dX11_init_506 rfl ?_
  refine V_bipush 509 (nI 10) rfl dX11_init_507 bc_10 ?_
  refine V_bipush 511 (nI 48) rfl dX11_init_509 bc_48 ?_
  refine N_iastL 512 [0, 7, 12, 17, 21, 25, 30, 34, 38, 43, 48] rfl dX11_init_511 rfl rfl (by omega) (Nat.le_of_ble_eq_true rfl) ?_
  refine V_dup 513 rfl dX11_init_512 rfl ?_
  refine V_bipush 515 (nI 11) rfl dX11_init_513 bc_11 ?_
  refine V_bipush 517 (nI 54) rfl dX11_init_515 bc_54 ?_
  refine N_iastL 518 [0, 7, 12, 17, 21, 25, 30, 34, 38, 43, 48, 54] rfl dX11_init_517 rfl rfl (by omega) (Nat.le_of_ble_eq_true rfl) ?_
  refine V_dup 519 rfl dX11_init_518 rfl ?_
  refine V_bipush 521 (nI 12) rfl dX11_init_519 bc_12 ?_
  refine V_bipush 523 (nI 59) rfl dX11_init_521 bc_59 ?_
  refine N_iastL 524 [0, 7, 12, 17, 21, 25, 30, 34, 38, 43, 48, 54, 59] rfl dX11_init_523 rfl rfl (by omega) (Nat.le_of_ble_eq_true rfl) ?_
  exact k
theorem S_X11_init {u : Un} {q : Nat} {w0 : va_W} {ad0 : Nat → Nat} {F0 : Nat → Nat → Option Nat} : Sem u mX11_init 1 13 6039 [.ref q] (w0 ++ ([(q, .inr (13, [.null, .null, .null, .int (nI 0), .null, .int (nI 0), .int (nI 0), .int (nI 0), .int (nI 0), .null, .int (nI 0), .null, .int (nI 0), .null, .null, .null, .null, .null, .null, .int (nI 0), .int (nI 0), .int (nI 0), .int (nI 0), .null, .int (nI 0)]))] : va_W)) (QC u 351 14 q ad0 F0 w0) (fun _ _ => False) := by
  refine Sem_of_V (by decide +kernel) (Nat.le_of_ble_eq_true rfl) ?_
  show V u mX11_init 1 13 6039 _ _ 0 [(0, .ref q)] [] _
  refine V_aload_n 1 rfl dX11_init_0 rfl ?_
  refine V_objInit 4 rfl dX11_init_1 lkX11_1 lk_objI lk_objC (by exact Nat.le_of_ble_eq_true rfl) (by omega) ?_
  refine V_aload_n 5 rfl dX11_init_4 rfl ?_
  refine V_sipush 8 (nI 269) rfl dX11_init_5 sc_269 ?_
  refine N_newi 10 rfl dX11_init_8 (Nat.le_of_ble_eq_true rfl) (Nat.le_of_ble_eq_true rfl) (by omega) (by omega) (fun q1 => ?_)
  show V u mX11_init _ _ _ _ _ 10 _ _ (w0 ++ ([(q, .inr (13, [.null, .null, .null, .int (nI 0), .null, .int (nI 0), .int (nI 0), .int (nI 0), .int (nI 0), .null, .int (nI 0), .null, .int (nI 0), .null, .null, .null, .null, .null, .null, .int (nI 0), .int (nI 0), .int (nI 0), .int (nI 0), .null, .int (nI 0)])), (q1, .inl (u.2.2.2 0, 269, .inl (fun _ => nI 0)))] : va_W))
  refine N_putF (j := 0) (l2 := ([(q, .inr (13, [.ref q1, .null, .null, .int (nI 0), .null, .int (nI 0), .int (nI 0), .int (nI 0), .int (nI 0), .null, .int (nI 0), .null, .int (nI 0), .null, .null, .null, .null, .null, .null, .int (nI 0), .int (nI 0), .int (nI 0), .int (nI 0), .null, .int (nI 0)])), (q1, .inl (u.2.2.2 0, 269, .inl (fun _ => nI 0)))] : va_W)) 13 0 tyX11 rfl dX11_init_10 wsX11_in tyX11_ok nmX11 rfl rfl (by omega) lkX11_9 rfl rfl rfl rfl rfl (Nat.le_of_ble_eq_true rfl) rfl ?_
  refine V_aload_n 14 rfl dX11_init_13 rfl ?_
  refine V_sipush 17 (nI 269) rfl dX11_init_14 sc_269 ?_
  refine N_newi 19 rfl dX11_init_17 (Nat.le_of_ble_eq_true rfl) (Nat.le_of_ble_eq_true rfl) (by omega) (by omega) (fun q2 => ?_)
  show V u mX11_init _ _ _ _ _ 19 _ _ (w0 ++ ([(q, .inr (13, [.ref q1, .null, .null, .int (nI 0), .null, .int (nI 0), .int (nI 0), .int (nI 0), .int (nI 0), .null, .int (nI 0), .null, .int (nI 0), .null, .null, .null, .null, .null, .null, .int (nI 0), .int (nI 0), .int (nI 0), .int (nI 0), .null, .int (nI 0)])), (q1, .inl (u.2.2.2 0, 269, .inl (fun _ => nI 0))), (q2, .inl (u.2.2.2 0, 269, .inl (fun _ => nI 0)))] : va_W))
  refine N_putF (j := 1) (l2 := ([(q, .inr (13, [.ref q1, .ref q2, .null, .int (nI 0), .null, .int (nI 0), .int (nI 0), .int (nI 0), .int (nI 0), .null, .int (nI 0), .null, .int (nI 0), .null, .null, .null, .null, .null, .null, .int (nI 0), .int (nI 0), .int (nI 0), .int (nI 0), .null, .int (nI 0)])), (q1, .inl (u.2.2.2 0, 269, .inl (fun _ => nI 0))), (q2, .inl (u.2.2.2 0, 269, .inl (fun _ => nI 0)))] : va_W)) 22 0 tyX11 rfl dX11_init_19 wsX11_in tyX11_ok nmX11 rfl rfl (by omega) lkX11_13 rfl rfl rfl rfl rfl (Nat.le_of_ble_eq_true rfl) rfl ?_
  refine V_aload_n 23 rfl dX11_init_22 rfl ?_
  refine V_sipush 26 (nI 269) rfl dX11_init_23 sc_269 ?_
  refine N_newi 28 rfl dX11_init_26 (Nat.le_of_ble_eq_true rfl) (Nat.le_of_ble_eq_true rfl) (by omega) (by omega) (fun q3 => ?_)
  show V u mX11_init _ _ _ _ _ 28 _ _ (w0 ++ ([(q, .inr (13, [.ref q1, .ref q2, .null, .int (nI 0), .null, .int (nI 0), .int (nI 0), .int (nI 0), .int (nI 0), .null, .int (nI 0), .null, .int (nI 0), .null, .null, .null, .null, .null, .null, .int (nI 0), .int (nI 0), .int (nI 0), .int (nI 0), .null, .int (nI 0)])), (q1, .inl (u.2.2.2 0, 269, .inl (fun _ => nI 0))), (q2, .inl (u.2.2.2 0, 269, .inl (fun _ => nI 0))), (q3, .inl (u.2.2.2 0, 269, .inl (fun _ => nI 0)))] : va_W))
  refine N_putF (j := 2) (l2 := ([(q, .inr (13, [.ref q1, .ref q2, .ref q3, .int (nI 0), .null, .int (nI 0), .int (nI 0), .int (nI 0), .int (nI 0), .null, .int (nI 0), .null, .int (nI 0), .null, .null, .null, .null, .null, .null, .int (nI 0), .int (nI 0), .int (nI 0), .int (nI 0), .null, .int (nI 0)])), (q1, .inl (u.2.2.2 0, 269, .inl (fun _ => nI 0))), (q2, .inl (u.2.2.2 0, 269, .inl (fun _ => nI 0))), (q3, .inl (u.2.2.2 0, 269, .inl (fun _ => nI 0)))] : va_W)) 31 0 tyX11 rfl dX11_init_28 wsX11_in tyX11_ok nmX11 rfl rfl (by omega) lkX11_16 rfl rfl rfl rfl rfl (Nat.le_of_ble_eq_true rfl) rfl ?_
  refine V_aload_n 32 rfl dX11_init_31 rfl ?_
  refine V_sipush 35 (nI 2152) rfl dX11_init_32 sc_2152 ?_
  refine N_newi 37 rfl dX11_init_35 (Nat.le_of_ble_eq_true rfl) (Nat.le_of_ble_eq_true rfl) (by omega) (by omega) (fun q4 => ?_)
  show V u mX11_init _ _ _ _ _ 37 _ _ (w0 ++ ([(q, .inr (13, [.ref q1, .ref q2, .ref q3, .int (nI 0), .null, .int (nI 0), .int (nI 0), .int (nI 0), .int (nI 0), .null, .int (nI 0), .null, .int (nI 0), .null, .null, .null, .null, .null, .null, .int (nI 0), .int (nI 0), .int (nI 0), .int (nI 0), .null, .int (nI 0)])), (q1, .inl (u.2.2.2 0, 269, .inl (fun _ => nI 0))), (q2, .inl (u.2.2.2 0, 269, .inl (fun _ => nI 0))), (q3, .inl (u.2.2.2 0, 269, .inl (fun _ => nI 0))), (q4, .inl (u.2.2.2 0, 2152, .inl (fun _ => nI 0)))] : va_W))
  refine N_putF (j := 4) (l2 := ([(q, .inr (13, [.ref q1, .ref q2, .ref q3, .int (nI 0), .ref q4, .int (nI 0), .int (nI 0), .int (nI 0), .int (nI 0), .null, .int (nI 0), .null, .int (nI 0), .null, .null, .null, .null, .null, .null, .int (nI 0), .int (nI 0), .int (nI 0), .int (nI 0), .null, .int (nI 0)])), (q1, .inl (u.2.2.2 0, 269, .inl (fun _ => nI 0))), (q2, .inl (u.2.2.2 0, 269, .inl (fun _ => nI 0))), (q3, .inl (u.2.2.2 0, 269, .inl (fun _ => nI 0))), (q4, .inl (u.2.2.2 0, 2152, .inl (fun _ => nI 0)))] : va_W)) 40 0 tyX11 rfl dX11_init_37 wsX11_in tyX11_ok nmX11 rfl rfl (by omega) lkX11_19 rfl rfl rfl rfl rfl (Nat.le_of_ble_eq_true rfl) rfl ?_
  refine V_aload_n 41 rfl dX11_init_40 rfl ?_
  refine V_iconst 42 (nI 4294967295) rfl dX11_init_41 ic_m1 ?_
  refine N_putf (j := 6) (l2 := ([(q, .inr (13, [.ref q1, .ref q2, .ref q3, .int (nI 0), .ref q4, .int (nI 0), .int (nI 4294967295), .int (nI 0), .int (nI 0), .null, .int (nI 0), .null, .int (nI 0), .null, .null, .null, .null, .null, .null, .int (nI 0), .int (nI 0), .int (nI 0), .int (nI 0), .null, .int (nI 0)])), (q1, .inl (u.2.2.2 0, 269, .inl (fun _ => nI 0))), (q2, .inl (u.2.2.2 0, 269, .inl (fun _ => nI 0))), (q3, .inl (u.2.2.2 0, 269, .inl (fun _ => nI 0))), (q4, .inl (u.2.2.2 0, 2152, .inl (fun _ => nI 0)))] : va_W)) 45 0 tyX11 rfl dX11_init_42 wsX11_in tyX11_ok nmX11 rfl rfl (by omega) lkX11_22 rfl rfl rfl (Nat.le_of_ble_eq_true rfl) rfl ?_
  refine V_aload_n 46 rfl dX11_init_45 rfl ?_
  refine V_iconst 47 (nI 4294967295) rfl dX11_init_46 ic_m1 ?_
  refine N_putf (j := 7) (l2 := ([(q, .inr (13, [.ref q1, .ref q2, .ref q3, .int (nI 0), .ref q4, .int (nI 0), .int (nI 4294967295), .int (nI 4294967295), .int (nI 0), .null, .int (nI 0), .null, .int (nI 0), .null, .null, .null, .null, .null, .null, .int (nI 0), .int (nI 0), .int (nI 0), .int (nI 0), .null, .int (nI 0)])), (q1, .inl (u.2.2.2 0, 269, .inl (fun _ => nI 0))), (q2, .inl (u.2.2.2 0, 269, .inl (fun _ => nI 0))), (q3, .inl (u.2.2.2 0, 269, .inl (fun _ => nI 0))), (q4, .inl (u.2.2.2 0, 2152, .inl (fun _ => nI 0)))] : va_W)) 50 0 tyX11 rfl dX11_init_47 wsX11_in tyX11_ok nmX11 rfl rfl (by omega) lkX11_26 rfl rfl rfl (Nat.le_of_ble_eq_true rfl) rfl ?_
  refine V_aload_n 51 rfl dX11_init_50 rfl ?_
  refine V_bipush 53 (nI 60) rfl dX11_init_51 bc_60 ?_
  refine N_newi 55 rfl dX11_init_53 (Nat.le_of_ble_eq_true rfl) (Nat.le_of_ble_eq_true rfl) (by omega) (by omega) (fun q5 => ?_)
  show V u mX11_init _ _ _ _ _ 55 _ _ (w0 ++ ([(q, .inr (13, [.ref q1, .ref q2, .ref q3, .int (nI 0), .ref q4, .int (nI 0), .int (nI 4294967295), .int (nI 4294967295), .int (nI 0), .null, .int (nI 0), .null, .int (nI 0), .null, .null, .null, .null, .null, .null, .int (nI 0), .int (nI 0), .int (nI 0), .int (nI 0), .null, .int (nI 0)])), (q1, .inl (u.2.2.2 0, 269, .inl (fun _ => nI 0))), (q2, .inl (u.2.2.2 0, 269, .inl (fun _ => nI 0))), (q3, .inl (u.2.2.2 0, 269, .inl (fun _ => nI 0))), (q4, .inl (u.2.2.2 0, 2152, .inl (fun _ => nI 0))), (q5, .inl (u.2.2.2 0, 60, .inl (fun _ => nI 0)))] : va_W))
  refine N_putF (j := 9) (l2 := ([(q, .inr (13, [.ref q1, .ref q2, .ref q3, .int (nI 0), .ref q4, .int (nI 0), .int (nI 4294967295), .int (nI 4294967295), .int (nI 0), .ref q5, .int (nI 0), .null, .int (nI 0), .null, .null, .null, .null, .null, .null, .int (nI 0), .int (nI 0), .int (nI 0), .int (nI 0), .null, .int (nI 0)])), (q1, .inl (u.2.2.2 0, 269, .inl (fun _ => nI 0))), (q2, .inl (u.2.2.2 0, 269, .inl (fun _ => nI 0))), (q3, .inl (u.2.2.2 0, 269, .inl (fun _ => nI 0))), (q4, .inl (u.2.2.2 0, 2152, .inl (fun _ => nI 0))), (q5, .inl (u.2.2.2 0, 60, .inl (fun _ => nI 0)))] : va_W)) 58 0 tyX11 rfl dX11_init_55 wsX11_in tyX11_ok nmX11 rfl rfl (by omega) lkX11_29 rfl rfl rfl rfl rfl (Nat.le_of_ble_eq_true rfl) rfl ?_
  refine V_aload_n 59 rfl dX11_init_58 rfl ?_
  refine V_bipush 61 (nI 32) rfl dX11_init_59 bc_32 ?_
  refine N_newi 63 rfl dX11_init_61 (Nat.le_of_ble_eq_true rfl) (Nat.le_of_ble_eq_true rfl) (by omega) (by omega) (fun q6 => ?_)
  show V u mX11_init _ _ _ _ _ 63 _ _ (w0 ++ ([(q, .inr (13, [.ref q1, .ref q2, .ref q3, .int (nI 0), .ref q4, .int (nI 0), .int (nI 4294967295), .int (nI 4294967295), .int (nI 0), .ref q5, .int (nI 0), .null, .int (nI 0), .null, .null, .null, .null, .null, .null, .int (nI 0), .int (nI 0), .int (nI 0), .int (nI 0), .null, .int (nI 0)])), (q1, .inl (u.2.2.2 0, 269, .inl (fun _ => nI 0))), (q2, .inl (u.2.2.2 0, 269, .inl (fun _ => nI 0))), (q3, .inl (u.2.2.2 0, 269, .inl (fun _ => nI 0))), (q4, .inl (u.2.2.2 0, 2152, .inl (fun _ => nI 0))), (q5, .inl (u.2.2.2 0, 60, .inl (fun _ => nI 0))), (q6, .inl (u.2.2.2 0, 32, .inl (fun _ => nI 0)))] : va_W))
  refine N_putF (j := 11) (l2 := ([(q, .inr (13, [.ref q1, .ref q2, .ref q3, .int (nI 0), .ref q4, .int (nI 0), .int (nI 4294967295), .int (nI 4294967295), .int (nI 0), .ref q5, .int (nI 0), .ref q6, .int (nI 0), .null, .null, .null, .null, .null, .null, .int (nI 0), .int (nI 0), .int (nI 0), .int (nI 0), .null, .int (nI 0)])), (q1, .inl (u.2.2.2 0, 269, .inl (fun _ => nI 0))), (q2, .inl (u.2.2.2 0, 269, .inl (fun _ => nI 0))), (q3, .inl (u.2.2.2 0, 269, .inl (fun _ => nI 0))), (q4, .inl (u.2.2.2 0, 2152, .inl (fun _ => nI 0))), (q5, .inl (u.2.2.2 0, 60, .inl (fun _ => nI 0))), (q6, .inl (u.2.2.2 0, 32, .inl (fun _ => nI 0)))] : va_W)) 66 0 tyX11 rfl dX11_init_63 wsX11_in tyX11_ok nmX11 rfl rfl (by omega) lkX11_32 rfl rfl rfl rfl rfl (Nat.le_of_ble_eq_true rfl) rfl ?_
  refine V_aload_n 67 rfl dX11_init_66 rfl ?_
  refine V_sipush 70 (nI 576) rfl dX11_init_67 sc_576 ?_
  refine N_newi 72 rfl dX11_init_70 (Nat.le_of_ble_eq_true rfl) (Nat.le_of_ble_eq_true rfl) (by omega) (by omega) (fun q7 => ?_)
  show V u mX11_init _ _ _ _ _ 72 _ _ (w0 ++ ([(q, .inr (13, [.ref q1, .ref q2, .ref q3, .int (nI 0), .ref q4, .int (nI 0), .int (nI 4294967295), .int (nI 4294967295), .int (nI 0), .ref q5, .int (nI 0), .ref q6, .int (nI 0), .null, .null, .null, .null, .null, .null, .int (nI 0), .int (nI 0), .int (nI 0), .int (nI 0), .null, .int (nI 0)])), (q1, .inl (u.2.2.2 0, 269, .inl (fun _ => nI 0))), (q2, .inl (u.2.2.2 0, 269, .inl (fun _ => nI 0))), (q3, .inl (u.2.2.2 0, 269, .inl (fun _ => nI 0))), (q4, .inl (u.2.2.2 0, 2152, .inl (fun _ => nI 0))), (q5, .inl (u.2.2.2 0, 60, .inl (fun _ => nI 0))), (q6, .inl (u.2.2.2 0, 32, .inl (fun _ => nI 0))), (q7, .inl (u.2.2.2 0, 576, .inl (fun _ => nI 0)))] : va_W))
  refine N_putF (j := 13) (l2 := ([(q, .inr (13, [.ref q1, .ref q2, .ref q3, .int (nI 0), .ref q4, .int (nI 0), .int (nI 4294967295), .int (nI 4294967295), .int (nI 0), .ref q5, .int (nI 0), .ref q6, .int (nI 0), .ref q7, .null, .null, .null, .null, .null, .int (nI 0), .int (nI 0), .int (nI 0), .int (nI 0), .null, .int (nI 0)])), (q1, .inl (u.2.2.2 0, 269, .inl (fun _ => nI 0))), (q2, .inl (u.2.2.2 0, 269, .inl (fun _ => nI 0))), (q3, .inl (u.2.2.2 0, 269, .inl (fun _ => nI 0))), (q4, .inl (u.2.2.2 0, 2152, .inl (fun _ => nI 0))), (q5, .inl (u.2.2.2 0, 60, .inl (fun _ => nI 0))), (q6, .inl (u.2.2.2 0, 32, .inl (fun _ => nI 0))), (q7, .inl (u.2.2.2 0, 576, .inl (fun _ => nI 0)))] : va_W)) 75 0 tyX11 rfl dX11_init_72 wsX11_in tyX11_ok nmX11 rfl rfl (by omega) lkX11_35 rfl rfl rfl rfl rfl (Nat.le_of_ble_eq_true rfl) rfl ?_
  refine V_aload_n 76 rfl dX11_init_75 rfl ?_
  refine V_bipush 78 (nI 8) rfl dX11_init_76 bc_8 ?_
  refine N_newi 80 rfl dX11_init_78 (Nat.le_of_ble_eq_true rfl) (Nat.le_of_ble_eq_true rfl) (by omega) (by omega) (fun q8 => ?_)
  show V u mX11_init _ _ _ _ _ 80 _ _ (w0 ++ ([(q, .inr (13, [.ref q1, .ref q2, .ref q3, .int (nI 0), .ref q4, .int (nI 0), .int (nI 4294967295), .int (nI 4294967295), .int (nI 0), .ref q5, .int (nI 0), .ref q6, .int (nI 0), .ref q7, .null, .null, .null, .null, .null, .int (nI 0), .int (nI 0), .int (nI 0), .int (nI 0), .null, .int (nI 0)])), (q1, .inl (u.2.2.2 0, 269, .inl (fun _ => nI 0))), (q2, .inl (u.2.2.2 0, 269, .inl (fun _ => nI 0))), (q3, .inl (u.2.2.2 0, 269, .inl (fun _ => nI 0))), (q4, .inl (u.2.2.2 0, 2152, .inl (fun _ => nI 0))), (q5, .inl (u.2.2.2 0, 60, .inl (fun _ => nI 0))), (q6, .inl (u.2.2.2 0, 32, .inl (fun _ => nI 0))), (q7, .inl (u.2.2.2 0, 576, .inl (fun _ => nI 0))), (q8, .inl (u.2.2.2 0, 8, .inl (fun _ => nI 0)))] : va_W))
  refine N_putF (j := 14) (l2 := ([(q, .inr (13, [.ref q1, .ref q2, .ref q3, .int (nI 0), .ref q4, .int (nI 0), .int (nI 4294967295), .int (nI 4294967295), .int (nI 0), .ref q5, .int (nI 0), .ref q6, .int (nI 0), .ref q7, .ref q8, .null, .null, .null, .null, .int (nI 0), .int (nI 0), .int (nI 0), .int (nI 0), .null, .int (nI 0)])), (q1, .inl (u.2.2.2 0, 269, .inl (fun _ => nI 0))), (q2, .inl (u.2.2.2 0, 269, .inl (fun _ => nI 0))), (q3, .inl (u.2.2.2 0, 269, .inl (fun _ => nI 0))), (q4, .inl (u.2.2.2 0, 2152, .inl (fun _ => nI 0))), (q5, .inl (u.2.2.2 0, 60, .inl (fun _ => nI 0))), (q6, .inl (u.2.2.2 0, 32, .inl (fun _ => nI 0))), (q7, .inl (u.2.2.2 0, 576, .inl (fun _ => nI 0))), (q8, .inl (u.2.2.2 0, 8, .inl (fun _ => nI 0)))] : va_W)) 83 0 tyX11 rfl dX11_init_80 wsX11_in tyX11_ok nmX11 rfl rfl (by omega) lkX11_38 rfl rfl rfl rfl rfl (Nat.le_of_ble_eq_true rfl) rfl ?_
  refine V_aload_n 84 rfl dX11_init_83 rfl ?_
  refine V_sipush 87 (nI 2048) rfl dX11_init_84 sc_2048 ?_
  refine N_newi 89 rfl dX11_init_87 (Nat.le_of_ble_eq_true rfl) (Nat.le_of_ble_eq_true rfl) (by omega) (by omega) (fun q9 => ?_)
  show V u mX11_init _ _ _ _ _ 89 _ _ (w0 ++ ([(q, .inr (13, [.ref q1, .ref q2, .ref q3, .int (nI 0), .ref q4, .int (nI 0), .int (nI 4294967295), .int (nI 4294967295), .int (nI 0), .ref q5, .int (nI 0), .ref q6, .int (nI 0), .ref q7, .ref q8, .null, .null, .null, .null, .int (nI 0), .int (nI 0), .int (nI 0), .int (nI 0), .null, .int (nI 0)])), (q1, .inl (u.2.2.2 0, 269, .inl (fun _ => nI 0))), (q2, .inl (u.2.2.2 0, 269, .inl (fun _ => nI 0))), (q3, .inl (u.2.2.2 0, 269, .inl (fun _ => nI 0))), (q4, .inl (u.2.2.2 0, 2152, .inl (fun _ => nI 0))), (q5, .inl (u.2.2.2 0, 60, .inl (fun _ => nI 0))), (q6, .inl (u.2.2.2 0, 32, .inl (fun _ => nI 0))), (q7, .inl (u.2.2.2 0, 576, .inl (fun _ => nI 0))), (q8, .inl (u.2.2.2 0, 8, .inl (fun _ => nI 0))), (q9, .inl (u.2.2.2 0, 2048, .inl (fun _ => nI 0)))] : va_W))
  refine N_putF (j := 15) (l2 := ([(q, .inr (13, [.ref q1, .ref q2, .ref q3, .int (nI 0), .ref q4, .int (nI 0), .int (nI 4294967295), .int (nI 4294967295), .int (nI 0), .ref q5, .int (nI 0), .ref q6, .int (nI 0), .ref q7, .ref q8, .ref q9, .null, .null, .null, .int (nI 0), .int (nI 0), .int (nI 0), .int (nI 0), .null, .int (nI 0)])), (q1, .inl (u.2.2.2 0, 269, .inl (fun _ => nI 0))), (q2, .inl (u.2.2.2 0, 269, .inl (fun _ => nI 0))), (q3, .inl (u.2.2.2 0, 269, .inl (fun _ => nI 0))), (q4, .inl (u.2.2.2 0, 2152, .inl (fun _ => nI 0))), (q5, .inl (u.2.2.2 0, 60, .inl (fun _ => nI 0))), (q6, .inl (u.2.2.2 0, 32, .inl (fun _ => nI 0))), (q7, .inl (u.2.2.2 0, 576, .inl (fun _ => nI 0))), (q8, .inl (u.2.2.2 0, 8, .inl (fun _ => nI 0))), (q9, .inl (u.2.2.2 0, 2048, .inl (fun _ => nI 0)))] : va_W)) 92 0 tyX11 rfl dX11_init_89 wsX11_in tyX11_ok nmX11 rfl rfl (by omega) lkX11_41 rfl rfl rfl rfl rfl (Nat.le_of_ble_eq_true rfl) rfl ?_
  refine V_aload_n 93 rfl dX11_init_92 rfl ?_
  refine V_bipush 95 (nI 59) rfl dX11_init_93 bc_59 ?_
  refine N_newc 97 rfl dX11_init_95 (Nat.le_of_ble_eq_true rfl) (Nat.le_of_ble_eq_true rfl) (by omega) (by omega) (fun q10 => ?_)
  rw [← List.append_assoc]
  refine X11_letters (by exact Nat.le_of_ble_eq_true rfl) ?_
  rw [List.append_assoc]
  show V u mX11_init _ _ _ _ _ 445 _ _ (w0 ++ ([(q, .inr (13, [.ref q1, .ref q2, .ref q3, .int (nI 0), .ref q4, .int (nI 0), .int (nI 4294967295), .int (nI 4294967295), .int (nI 0), .ref q5, .int (nI 0), .ref q6, .int (nI 0), .ref q7, .ref q8, .ref q9, .null, .null, .null, .int (nI 0), .int (nI 0), .int (nI 0), .int (nI 0), .null, .int (nI 0)])), (q1, .inl (u.2.2.2 0, 269, .inl (fun _ => nI 0))), (q2, .inl (u.2.2.2 0, 269, .inl (fun _ => nI 0))), (q3, .inl (u.2.2.2 0, 269, .inl (fun _ => nI 0))), (q4, .inl (u.2.2.2 0, 2152, .inl (fun _ => nI 0))), (q5, .inl (u.2.2.2 0, 60, .inl (fun _ => nI 0))), (q6, .inl (u.2.2.2 0, 32, .inl (fun _ => nI 0))), (q7, .inl (u.2.2.2 0, 576, .inl (fun _ => nI 0))), (q8, .inl (u.2.2.2 0, 8, .inl (fun _ => nI 0))), (q9, .inl (u.2.2.2 0, 2048, .inl (fun _ => nI 0))), (q10, .inl (u.2.2.2 1, 59, .inl (fun j => nI (ltS.getD j 0))))] : va_W))
  refine N_putF (j := 16) (l2 := ([(q, .inr (13, [.ref q1, .ref q2, .ref q3, .int (nI 0), .ref q4, .int (nI 0), .int (nI 4294967295), .int (nI 4294967295), .int (nI 0), .ref q5, .int (nI 0), .ref q6, .int (nI 0), .ref q7, .ref q8, .ref q9, .ref q10, .null, .null, .int (nI 0), .int (nI 0), .int (nI 0), .int (nI 0), .null, .int (nI 0)])), (q1, .inl (u.2.2.2 0, 269, .inl (fun _ => nI 0))), (q2, .inl (u.2.2.2 0, 269, .inl (fun _ => nI 0))), (q3, .inl (u.2.2.2 0, 269, .inl (fun _ => nI 0))), (q4, .inl (u.2.2.2 0, 2152, .inl (fun _ => nI 0))), (q5, .inl (u.2.2.2 0, 60, .inl (fun _ => nI 0))), (q6, .inl (u.2.2.2 0, 32, .inl (fun _ => nI 0))), (q7, .inl (u.2.2.2 0, 576, .inl (fun _ => nI 0))), (q8, .inl (u.2.2.2 0, 8, .inl (fun _ => nI 0))), (q9, .inl (u.2.2.2 0, 2048, .inl (fun _ => nI 0))), (q10, .inl (u.2.2.2 1, 59, .inl (fun j => nI (ltS.getD j 0))))] : va_W)) 448 0 tyX11 rfl dX11_init_445 wsX11_in tyX11_ok nmX11 rfl rfl (by omega) lkX11_44 rfl rfl rfl rfl rfl (Nat.le_of_ble_eq_true rfl) rfl ?_
  refine V_aload_n 449 rfl dX11_init_448 rfl ?_
  refine V_bipush 451 (nI 13) rfl dX11_init_449 bc_13 ?_
  refine N_newi 453 rfl dX11_init_451 (Nat.le_of_ble_eq_true rfl) (Nat.le_of_ble_eq_true rfl) (by omega) (by omega) (fun q11 => ?_)
  rw [← List.append_assoc]
  refine X11_begins (by exact Nat.le_of_ble_eq_true rfl) ?_
  rw [List.append_assoc]
  show V u mX11_init _ _ _ _ _ 524 _ _ (w0 ++ ([(q, .inr (13, [.ref q1, .ref q2, .ref q3, .int (nI 0), .ref q4, .int (nI 0), .int (nI 4294967295), .int (nI 4294967295), .int (nI 0), .ref q5, .int (nI 0), .ref q6, .int (nI 0), .ref q7, .ref q8, .ref q9, .ref q10, .null, .null, .int (nI 0), .int (nI 0), .int (nI 0), .int (nI 0), .null, .int (nI 0)])), (q1, .inl (u.2.2.2 0, 269, .inl (fun _ => nI 0))), (q2, .inl (u.2.2.2 0, 269, .inl (fun _ => nI 0))), (q3, .inl (u.2.2.2 0, 269, .inl (fun _ => nI 0))), (q4, .inl (u.2.2.2 0, 2152, .inl (fun _ => nI 0))), (q5, .inl (u.2.2.2 0, 60, .inl (fun _ => nI 0))), (q6, .inl (u.2.2.2 0, 32, .inl (fun _ => nI 0))), (q7, .inl (u.2.2.2 0, 576, .inl (fun _ => nI 0))), (q8, .inl (u.2.2.2 0, 8, .inl (fun _ => nI 0))), (q9, .inl (u.2.2.2 0, 2048, .inl (fun _ => nI 0))), (q10, .inl (u.2.2.2 1, 59, .inl (fun j => nI (ltS.getD j 0)))), (q11, .inl (u.2.2.2 0, 13, .inl (fun j => nI (bgS.getD j 0))))] : va_W))
  refine N_putF (j := 17) (l2 := ([(q, .inr (13, [.ref q1, .ref q2, .ref q3, .int (nI 0), .ref q4, .int (nI 0), .int (nI 4294967295), .int (nI 4294967295), .int (nI 0), .ref q5, .int (nI 0), .ref q6, .int (nI 0), .ref q7, .ref q8, .ref q9, .ref q10, .ref q11, .null, .int (nI 0), .int (nI 0), .int (nI 0), .int (nI 0), .null, .int (nI 0)])), (q1, .inl (u.2.2.2 0, 269, .inl (fun _ => nI 0))), (q2, .inl (u.2.2.2 0, 269, .inl (fun _ => nI 0))), (q3, .inl (u.2.2.2 0, 269, .inl (fun _ => nI 0))), (q4, .inl (u.2.2.2 0, 2152, .inl (fun _ => nI 0))), (q5, .inl (u.2.2.2 0, 60, .inl (fun _ => nI 0))), (q6, .inl (u.2.2.2 0, 32, .inl (fun _ => nI 0))), (q7, .inl (u.2.2.2 0, 576, .inl (fun _ => nI 0))), (q8, .inl (u.2.2.2 0, 8, .inl (fun _ => nI 0))), (q9, .inl (u.2.2.2 0, 2048, .inl (fun _ => nI 0))), (q10, .inl (u.2.2.2 1, 59, .inl (fun j => nI (ltS.getD j 0)))), (q11, .inl (u.2.2.2 0, 13, .inl (fun j => nI (bgS.getD j 0))))] : va_W)) 527 0 tyX11 rfl dX11_init_524 wsX11_in tyX11_ok nmX11 rfl rfl (by omega) lkX11_48 rfl rfl rfl rfl rfl (Nat.le_of_ble_eq_true rfl) rfl ?_
  refine V_aload_n 528 rfl dX11_init_527 rfl ?_
  refine V_sipush 531 (nI 244) rfl dX11_init_528 sc_244 ?_
  refine N_newi 533 rfl dX11_init_531 (Nat.le_of_ble_eq_true rfl) (Nat.le_of_ble_eq_true rfl) (by omega) (by omega) (fun q12 => ?_)
  show V u mX11_init _ _ _ _ _ 533 _ _ (w0 ++ ([(q, .inr (13, [.ref q1, .ref q2, .ref q3, .int (nI 0), .ref q4, .int (nI 0), .int (nI 4294967295), .int (nI 4294967295), .int (nI 0), .ref q5, .int (nI 0), .ref q6, .int (nI 0), .ref q7, .ref q8, .ref q9, .ref q10, .ref q11, .null, .int (nI 0), .int (nI 0), .int (nI 0), .int (nI 0), .null, .int (nI 0)])), (q1, .inl (u.2.2.2 0, 269, .inl (fun _ => nI 0))), (q2, .inl (u.2.2.2 0, 269, .inl (fun _ => nI 0))), (q3, .inl (u.2.2.2 0, 269, .inl (fun _ => nI 0))), (q4, .inl (u.2.2.2 0, 2152, .inl (fun _ => nI 0))), (q5, .inl (u.2.2.2 0, 60, .inl (fun _ => nI 0))), (q6, .inl (u.2.2.2 0, 32, .inl (fun _ => nI 0))), (q7, .inl (u.2.2.2 0, 576, .inl (fun _ => nI 0))), (q8, .inl (u.2.2.2 0, 8, .inl (fun _ => nI 0))), (q9, .inl (u.2.2.2 0, 2048, .inl (fun _ => nI 0))), (q10, .inl (u.2.2.2 1, 59, .inl (fun j => nI (ltS.getD j 0)))), (q11, .inl (u.2.2.2 0, 13, .inl (fun j => nI (bgS.getD j 0)))), (q12, .inl (u.2.2.2 0, 244, .inl (fun _ => nI 0)))] : va_W))
  refine N_putF (j := 18) (l2 := ([(q, .inr (13, [.ref q1, .ref q2, .ref q3, .int (nI 0), .ref q4, .int (nI 0), .int (nI 4294967295), .int (nI 4294967295), .int (nI 0), .ref q5, .int (nI 0), .ref q6, .int (nI 0), .ref q7, .ref q8, .ref q9, .ref q10, .ref q11, .ref q12, .int (nI 0), .int (nI 0), .int (nI 0), .int (nI 0), .null, .int (nI 0)])), (q1, .inl (u.2.2.2 0, 269, .inl (fun _ => nI 0))), (q2, .inl (u.2.2.2 0, 269, .inl (fun _ => nI 0))), (q3, .inl (u.2.2.2 0, 269, .inl (fun _ => nI 0))), (q4, .inl (u.2.2.2 0, 2152, .inl (fun _ => nI 0))), (q5, .inl (u.2.2.2 0, 60, .inl (fun _ => nI 0))), (q6, .inl (u.2.2.2 0, 32, .inl (fun _ => nI 0))), (q7, .inl (u.2.2.2 0, 576, .inl (fun _ => nI 0))), (q8, .inl (u.2.2.2 0, 8, .inl (fun _ => nI 0))), (q9, .inl (u.2.2.2 0, 2048, .inl (fun _ => nI 0))), (q10, .inl (u.2.2.2 1, 59, .inl (fun j => nI (ltS.getD j 0)))), (q11, .inl (u.2.2.2 0, 13, .inl (fun j => nI (bgS.getD j 0)))), (q12, .inl (u.2.2.2 0, 244, .inl (fun _ => nI 0)))] : va_W)) 536 0 tyX11 rfl dX11_init_533 wsX11_in tyX11_ok nmX11 rfl rfl (by omega) lkX11_51 rfl rfl rfl rfl rfl (Nat.le_of_ble_eq_true rfl) rfl ?_
  refine V_aload_n 537 rfl dX11_init_536 rfl ?_
  refine V_bipush 539 (nI 40) rfl dX11_init_537 bc_40 ?_
  refine N_newi 541 rfl dX11_init_539 (Nat.le_of_ble_eq_true rfl) (Nat.le_of_ble_eq_true rfl) (by omega) (by omega) (fun q13 => ?_)
  show V u mX11_init _ _ _ _ _ 541 _ _ (w0 ++ ([(q, .inr (13, [.ref q1, .ref q2, .ref q3, .int (nI 0), .ref q4, .int (nI 0), .int (nI 4294967295), .int (nI 4294967295), .int (nI 0), .ref q5, .int (nI 0), .ref q6, .int (nI 0), .ref q7, .ref q8, .ref q9, .ref q10, .ref q11, .ref q12, .int (nI 0), .int (nI 0), .int (nI 0), .int (nI 0), .null, .int (nI 0)])), (q1, .inl (u.2.2.2 0, 269, .inl (fun _ => nI 0))), (q2, .inl (u.2.2.2 0, 269, .inl (fun _ => nI 0))), (q3, .inl (u.2.2.2 0, 269, .inl (fun _ => nI 0))), (q4, .inl (u.2.2.2 0, 2152, .inl (fun _ => nI 0))), (q5, .inl (u.2.2.2 0, 60, .inl (fun _ => nI 0))), (q6, .inl (u.2.2.2 0, 32, .inl (fun _ => nI 0))), (q7, .inl (u.2.2.2 0, 576, .inl (fun _ => nI 0))), (q8, .inl (u.2.2.2 0, 8, .inl (fun _ => nI 0))), (q9, .inl (u.2.2.2 0, 2048, .inl (fun _ => nI 0))), (q10, .inl (u.2.2.2 1, 59, .inl (fun j => nI (ltS.getD j 0)))), (q11, .inl (u.2.2.2 0, 13, .inl (fun j => nI (bgS.getD j 0)))), (q12, .inl (u.2.2.2 0, 244, .inl (fun _ => nI 0))), (q13, .inl (u.2.2.2 0, 40, .inl (fun _ => nI 0)))] : va_W))
  refine N_putF (j := 23) (l2 := ([(q, .inr (13, [.ref q1, .ref q2, .ref q3, .int (nI 0), .ref q4, .int (nI 0), .int (nI 4294967295), .int (nI 4294967295), .int (nI 0), .ref q5, .int (nI 0), .ref q6, .int (nI 0), .ref q7, .ref q8, .ref q9, .ref q10, .ref q11, .ref q12, .int (nI 0), .int (nI 0), .int (nI 0), .int (nI 0), .ref q13, .int (nI 0)])), (q1, .inl (u.2.2.2 0, 269, .inl (fun _ => nI 0))), (q2, .inl (u.2.2.2 0, 269, .inl (fun _ => nI 0))), (q3, .inl (u.2.2.2 0, 269, .inl (fun _ => nI 0))), (q4, .inl (u.2.2.2 0, 2152, .inl (fun _ => nI 0))), (q5, .inl (u.2.2.2 0, 60, .inl (fun _ => nI 0))), (q6, .inl (u.2.2.2 0, 32, .inl (fun _ => nI 0))), (q7, .inl (u.2.2.2 0, 576, .inl (fun _ => nI 0))), (q8, .inl (u.2.2.2 0, 8, .inl (fun _ => nI 0))), (q9, .inl (u.2.2.2 0, 2048, .inl (fun _ => nI 0))), (q10, .inl (u.2.2.2 1, 59, .inl (fun j => nI (ltS.getD j 0)))), (q11, .inl (u.2.2.2 0, 13, .inl (fun j => nI (bgS.getD j 0)))), (q12, .inl (u.2.2.2 0, 244, .inl (fun _ => nI 0))), (q13, .inl (u.2.2.2 0, 40, .inl (fun _ => nI 0)))] : va_W)) 544 0 tyX11 rfl dX11_init_541 wsX11_in tyX11_ok nmX11 rfl rfl (by omega) lkX11_54 rfl rfl rfl rfl rfl (Nat.le_of_ble_eq_true rfl) rfl ?_
  refine V_aload_n 545 rfl dX11_init_544 rfl ?_
  refine N_get (j := 0) 548 0 rfl dX11_init_545 wsX11_in rfl rfl (by omega) lkX11_9 rfl ?_
  refine V_iconst 549 (nI 2) rfl dX11_init_548 ic_2 ?_
  refine V_bipush 551 (nI 20) rfl dX11_init_549 bc_20 ?_
  refine V_iast (i := w0.length + 1) 552 rfl dX11_init_551 (ap_get rfl) (vp_in_nI (by omega) (by omega)) ?_
  rw [ap_set, nI_clamp (by omega)]
  show V u mX11_init _ _ _ _ _ 552 _ _ (w0 ++ ([(q, .inr (13, [.ref q1, .ref q2, .ref q3, .int (nI 0), .ref q4, .int (nI 0), .int (nI 4294967295), .int (nI 4294967295), .int (nI 0), .ref q5, .int (nI 0), .ref q6, .int (nI 0), .ref q7, .ref q8, .ref q9, .ref q10, .ref q11, .ref q12, .int (nI 0), .int (nI 0), .int (nI 0), .int (nI 0), .ref q13, .int (nI 0)])), (q1, .inl (u.2.2.2 0, 269, .inl (upd (fun _ => nI 0) 2 (nI 20)))), (q2, .inl (u.2.2.2 0, 269, .inl (fun _ => nI 0))), (q3, .inl (u.2.2.2 0, 269, .inl (fun _ => nI 0))), (q4, .inl (u.2.2.2 0, 2152, .inl (fun _ => nI 0))), (q5, .inl (u.2.2.2 0, 60, .inl (fun _ => nI 0))), (q6, .inl (u.2.2.2 0, 32, .inl (fun _ => nI 0))), (q7, .inl (u.2.2.2 0, 576, .inl (fun _ => nI 0))), (q8, .inl (u.2.2.2 0, 8, .inl (fun _ => nI 0))), (q9, .inl (u.2.2.2 0, 2048, .inl (fun _ => nI 0))), (q10, .inl (u.2.2.2 1, 59, .inl (fun j => nI (ltS.getD j 0)))), (q11, .inl (u.2.2.2 0, 13, .inl (fun j => nI (bgS.getD j 0)))), (q12, .inl (u.2.2.2 0, 244, .inl (fun _ => nI 0))), (q13, .inl (u.2.2.2 0, 40, .inl (fun _ => nI 0)))] : va_W))
  refine V_vret rfl dX11_init_552 ?_
  obtain ⟨ad, had⟩ : ∃ ad, ad = adU ad0 351 [q, q1, q2, q3, q4, q5, q6, q7, q8, q9, q10, q11, q12, q13] := ⟨_, rfl⟩
  have a0 : ad 351 = q := by rw [had]; exact adU_at 0
  have a1 : ad 352 = q1 := by rw [had]; exact adU_at 1
  have a2 : ad 353 = q2 := by rw [had]; exact adU_at 2
  have a3 : ad 354 = q3 := by rw [had]; exact adU_at 3
  have a4 : ad 355 = q4 := by rw [had]; exact adU_at 4
  have a5 : ad 356 = q5 := by rw [had]; exact adU_at 5
  have a6 : ad 357 = q6 := by rw [had]; exact adU_at 6
  have a7 : ad 358 = q7 := by rw [had]; exact adU_at 7
  have a8 : ad 359 = q8 := by rw [had]; exact adU_at 8
  have a9 : ad 360 = q9 := by rw [had]; exact adU_at 9
  have a10 : ad 361 = q10 := by rw [had]; exact adU_at 10
  have a11 : ad 362 = q11 := by rw [had]; exact adU_at 11
  have a12 : ad 363 = q12 := by rw [had]; exact adU_at 12
  have a13 : ad 364 = q13 := by rw [had]; exact adU_at 13
  have e0 : cll u ad F0 351 = (q, .inr (13, [.ref q1, .ref q2, .ref q3, .int (nI 0), .ref q4, .int (nI 0), .int (nI 4294967295), .int (nI 4294967295), .int (nI 0), .ref q5, .int (nI 0), .ref q6, .int (nI 0), .ref q7, .ref q8, .ref q9, .ref q10, .ref q11, .ref q12, .int (nI 0), .int (nI 0), .int (nI 0), .int (nI 0), .ref q13, .int (nI 0)])) := by
    refine cll_o (show shp 351 = _ from rfl) a0 ?_
    rw [JZ_of (show shp 351 = _ from rfl) (by omega) (by omega) (by omega)]
    show ([.ref (ad 352), .ref (ad 353), .ref (ad 354), .int (nI 0), .ref (ad 355), .int (nI 0), .int (nI 4294967295), .int (nI 4294967295), .int (nI 0), .ref (ad 356), .int (nI 0), .ref (ad 357), .int (nI 0), .ref (ad 358), .ref (ad 359), .ref (ad 360), .ref (ad 361), .ref (ad 362), .ref (ad 363), .int (nI 0), .int (nI 0), .int (nI 0), .int (nI 0), .ref (ad 364), .int (nI 0)] : List Value) = _
    rw [a1, a2, a3, a4, a5, a6, a7, a8, a9, a10, a11, a12, a13]
  have e1 : cll u ad F0 352 = (q1, .inl (u.2.2.2 0, 269, .inl (upd (fun _ => nI 0) 2 (nI 20)))) := by
    rw [cll_i (f := fun j => if j = 2 then 20 else 0) (show shp 352 = _ from rfl) a1 rfl]
    congr 4
    refine congrArg Sum.inl ?_
    funext j
    show nI (if j = 2 then 20 else 0) = if j = 2 then nI 20 else nI 0
    by_cases e : j = 2
    · rw [if_pos e, if_pos e]
    · rw [if_neg e, if_neg e]
  have e2 : cll u ad F0 353 = (q2, .inl (u.2.2.2 0, 269, .inl (fun _ => nI 0))) := cll_i (f := fun _ => 0) (show shp 353 = _ from rfl) a2 (JZ_of (show shp 353 = _ from rfl) (by omega) (by omega) (by omega))
  have e3 : cll u ad F0 354 = (q3, .inl (u.2.2.2 0, 269, .inl (fun _ => nI 0))) := cll_i (f := fun _ => 0) (show shp 354 = _ from rfl) a3 (JZ_of (show shp 354 = _ from rfl) (by omega) (by omega) (by omega))
  have e4 : cll u ad F0 355 = (q4, .inl (u.2.2.2 0, 2152, .inl (fun _ => nI 0))) := cll_i (f := fun _ => 0) (show shp 355 = _ from rfl) a4 (JZ_of (show shp 355 = _ from rfl) (by omega) (by omega) (by omega))
  have e5 : cll u ad F0 356 = (q5, .inl (u.2.2.2 0, 60, .inl (fun _ => nI 0))) := cll_i (f := fun _ => 0) (show shp 356 = _ from rfl) a5 (JZ_of (show shp 356 = _ from rfl) (by omega) (by omega) (by omega))
  have e6 : cll u ad F0 357 = (q6, .inl (u.2.2.2 0, 32, .inl (fun _ => nI 0))) := cll_i (f := fun _ => 0) (show shp 357 = _ from rfl) a6 (JZ_of (show shp 357 = _ from rfl) (by omega) (by omega) (by omega))
  have e7 : cll u ad F0 358 = (q7, .inl (u.2.2.2 0, 576, .inl (fun _ => nI 0))) := cll_i (f := fun _ => 0) (show shp 358 = _ from rfl) a7 (JZ_of (show shp 358 = _ from rfl) (by omega) (by omega) (by omega))
  have e8 : cll u ad F0 359 = (q8, .inl (u.2.2.2 0, 8, .inl (fun _ => nI 0))) := cll_i (f := fun _ => 0) (show shp 359 = _ from rfl) a8 (JZ_of (show shp 359 = _ from rfl) (by omega) (by omega) (by omega))
  have e9 : cll u ad F0 360 = (q9, .inl (u.2.2.2 0, 2048, .inl (fun _ => nI 0))) := cll_i (f := fun _ => 0) (show shp 360 = _ from rfl) a9 (JZ_of (show shp 360 = _ from rfl) (by omega) (by omega) (by omega))
  have e10 : cll u ad F0 361 = (q10, .inl (u.2.2.2 1, 59, .inl (fun j => nI (ltS.getD j 0)))) := cll_c (f := fun j => ltS.getD j 0) (show shp 361 = _ from rfl) a10 rfl
  have e11 : cll u ad F0 362 = (q11, .inl (u.2.2.2 0, 13, .inl (fun j => nI (bgS.getD j 0)))) := cll_i (f := fun j => bgS.getD j 0) (show shp 362 = _ from rfl) a11 rfl
  have e12 : cll u ad F0 363 = (q12, .inl (u.2.2.2 0, 244, .inl (fun _ => nI 0))) := cll_i (f := fun _ => 0) (show shp 363 = _ from rfl) a12 (JZ_of (show shp 363 = _ from rfl) (by omega) (by omega) (by omega))
  have e13 : cll u ad F0 364 = (q13, .inl (u.2.2.2 0, 40, .inl (fun _ => nI 0))) := cll_i (f := fun _ => 0) (show shp 364 = _ from rfl) a13 (JZ_of (show shp 364 = _ from rfl) (by omega) (by omega) (by omega))
  refine ⟨rfl, ad, F0, fun k hk => by rw [had]; exact adU_lo hk, fun _ _ => rfl, a0, FO_none (by decide +kernel), congrArg (fun z => w0 ++ z) ?_⟩
  show _ = [cll u ad F0 351, cll u ad F0 352, cll u ad F0 353, cll u ad F0 354, cll u ad F0 355, cll u ad F0 356, cll u ad F0 357, cll u ad F0 358, cll u ad F0 359, cll u ad F0 360, cll u ad F0 361, cll u ad F0 362, cll u ad F0 363, cll u ad F0 364]
  rw [e0, e1, e2, e3, e4, e5, e6, e7, e8, e9, e10, e11, e12, e13]
theorem S_X10_init {u : Un} {q : Nat} {w0 : va_W} {ad0 : Nat → Nat} {F0 : Nat → Nat → Option Nat} : Sem u mX10_init 4 350 6453 [.ref q] (w0 ++ ([(q, .inr (12, [.null, .null, .null, .null, .null, .null, .null, .null, .null, .null, .int (nI 0), .int (nI 0), .int (nI 0)]))] : va_W)) (QC u 0 351 q ad0 F0 w0) (fun _ _ => False) := by
  refine Sem_of_V (by decide +kernel) (Nat.le_of_ble_eq_true rfl) ?_
  show V u mX10_init 4 350 6453 _ _ 0 [(0, .ref q)] [] _
  refine V_aload_n 1 rfl dX10_init_0 rfl ?_
  refine V_objInit 4 rfl dX10_init_1 lkX10_1 lk_objI lk_objC (by exact Nat.le_of_ble_eq_true rfl) (by omega) ?_
  refine V_aload_n 5 rfl dX10_init_4 rfl ?_
  refine V_new (ci := 5) (C0 := RX3) (T := TX3) (N := 12) (fs := [.null, .null, .null, .null, .int (nI 0), .int (nI 0), .int (nI 0), .int (nI 0), .int (nI 0), .int (nI 0), .int (nI 0), .int (nI 0)]) 8 tyX3 rfl dX10_init_5 wsX3_in tyX3_ok cwX10_7 cwI_X3 kalX3_init.1.2.1 rfl fs_X3 (by omega) (by omega) (fun q1 => ?_)
  refine V_dup 9 rfl dX10_init_8 rfl ?_
  refine V_callI (z := mX3_init) (As := []) rfl kalX3_init lkX10_9 dX10_init_9 (S_X3_init (b := 1) (ad0 := adU ad0 0 [q]) (F0 := F0) isH_1) rfl rfl (by exact Nat.le_of_ble_eq_true rfl) (by omega) (by omega) (by omega) (fun vv ww hq => ?_)
  obtain ⟨rfl, ad1, F1, g1, g2, r1, g4, rfl⟩ := hq
  rw [List.append_assoc]
  have r0 : ad1 0 = q := (g1 0 (by omega)).trans (adU_at 0)
  have c2 : ∀ k, k < 0 → F1 k = F0 k := fun k hk => absurd hk (Nat.not_lt_zero k)
  have fo : FO ad1 F1 1 30 := g4
  show V u mX10_init _ _ _ _ _ 12 _ [.ref q1, .ref q] (w0 ++ (([(q, .inr (12, [.null, .null, .null, .null, .null, .null, .null, .null, .null, .null, .int (nI 0), .int (nI 0), .int (nI 0)]))] : va_W) ++ sgm u ad1 F1 1 30))
  refine N_putF (j := 0) (l2 := ([(q, .inr (12, [.ref q1, .null, .null, .null, .null, .null, .null, .null, .null, .null, .int (nI 0), .int (nI 0), .int (nI 0)]))] : va_W) ++ sgm u ad1 F1 1 30) 15 0 tyX10 rfl dX10_init_12 wsX10_in tyX10_ok nmX10 rfl rfl (by omega) lkX10_10 rfl rfl rfl rfl rfl (Nat.le_of_ble_eq_true rfl) rfl ?_
  refine V_aload_n 16 rfl dX10_init_15 rfl ?_
  refine V_new (ci := 5) (C0 := RX3) (T := TX3) (N := 12) (fs := [.null, .null, .null, .null, .int (nI 0), .int (nI 0), .int (nI 0), .int (nI 0), .int (nI 0), .int (nI 0), .int (nI 0), .int (nI 0)]) 19 tyX3 rfl dX10_init_16 wsX3_in tyX3_ok cwX10_7 cwI_X3 kalX3_init.1.2.1 rfl fs_X3 (by omega) (by omega) (fun q2 => ?_)
  refine V_dup 20 rfl dX10_init_19 rfl ?_
  refine V_callI (z := mX3_init) (As := []) rfl kalX3_init lkX10_9 dX10_init_20 (S_X3_init (b := 31) (ad0 := ad1) (F0 := F1) isH_31) rfl rfl (by exact Nat.le_of_ble_eq_true rfl) (by omega) (by omega) (by omega) (fun vv ww hq => ?_)
  obtain ⟨rfl, ad2, F2, g1, g2, r2, g4, rfl⟩ := hq
  rw [List.append_assoc, List.append_assoc, sgm_glue (c := 31) (m := 30) (l := 60) rfl rfl (rfX (by decide)) g1 g2]
  have fo : FO ad2 F2 1 60 := FO_app (n := 30) (c := 31) (m := 30) rfl rfl (FO_congr (rfX (m := 30) (by decide)) (fun r hr => g1 r (by omega)) (fun k q1 q2 => g2 k (by omega)) fo) g4
  have r0 : ad2 0 = q := (g1 _ (by omega)).trans r0
  have r1 : ad2 1 = q1 := (g1 _ (by omega)).trans r1
  show V u mX10_init _ _ _ _ _ 23 _ [.ref q2, .ref q] (w0 ++ (([(q, .inr (12, [.ref q1, .null, .null, .null, .null, .null, .null, .null, .null, .null, .int (nI 0), .int (nI 0), .int (nI 0)]))] : va_W) ++ sgm u ad2 F2 1 60))
  refine N_putF (j := 1) (l2 := ([(q, .inr (12, [.ref q1, .ref q2, .null, .null, .null, .null, .null, .null, .null, .null, .int (nI 0), .int (nI 0), .int (nI 0)]))] : va_W) ++ sgm u ad2 F2 1 60) 26 0 tyX10 rfl dX10_init_23 wsX10_in tyX10_ok nmX10 rfl rfl (by omega) lkX10_16 rfl rfl rfl rfl rfl (Nat.le_of_ble_eq_true rfl) rfl ?_
  refine V_aload_n 27 rfl dX10_init_26 rfl ?_
  refine V_new (ci := 5) (C0 := RX3) (T := TX3) (N := 12) (fs := [.null, .null, .null, .null, .int (nI 0), .int (nI 0), .int (nI 0), .int (nI 0), .int (nI 0), .int (nI 0), .int (nI 0), .int (nI 0)]) 30 tyX3 rfl dX10_init_27 wsX3_in tyX3_ok cwX10_7 cwI_X3 kalX3_init.1.2.1 rfl fs_X3 (by omega) (by omega) (fun q3 => ?_)
  refine V_dup 31 rfl dX10_init_30 rfl ?_
  refine V_callI (z := mX3_init) (As := []) rfl kalX3_init lkX10_9 dX10_init_31 (S_X3_init (b := 61) (ad0 := ad2) (F0 := F2) isH_61) rfl rfl (by exact Nat.le_of_ble_eq_true rfl) (by omega) (by omega) (by omega) (fun vv ww hq => ?_)
  obtain ⟨rfl, ad3, F3, g1, g2, r3, g4, rfl⟩ := hq
  rw [List.append_assoc, List.append_assoc, sgm_glue (c := 61) (m := 30) (l := 90) rfl rfl (rfX (by decide)) g1 g2]
  have fo : FO ad3 F3 1 90 := FO_app (n := 60) (c := 61) (m := 30) rfl rfl (FO_congr (rfX (m := 60) (by decide)) (fun r hr => g1 r (by omega)) (fun k q1 q2 => g2 k (by omega)) fo) g4
  have r0 : ad3 0 = q := (g1 _ (by omega)).trans r0
  have r1 : ad3 1 = q1 := (g1 _ (by omega)).trans r1
  have r2 : ad3 31 = q2 := (g1 _ (by omega)).trans r2
  show V u mX10_init _ _ _ _ _ 34 _ [.ref q3, .ref q] (w0 ++ (([(q, .inr (12, [.ref q1, .ref q2, .null, .null, .null, .null, .null, .null, .null, .null, .int (nI 0), .int (nI 0), .int (nI 0)]))] : va_W) ++ sgm u ad3 F3 1 90))
  refine N_putF (j := 2) (l2 := ([(q, .inr (12, [.ref q1, .ref q2, .ref q3, .null, .null, .null, .null, .null, .null, .null, .int (nI 0), .int (nI 0), .int (nI 0)]))] : va_W) ++ sgm u ad3 F3 1 90) 37 0 tyX10 rfl dX10_init_34 wsX10_in tyX10_ok nmX10 rfl rfl (by omega) lkX10_19 rfl rfl rfl rfl rfl (Nat.le_of_ble_eq_true rfl) rfl ?_
  refine V_aload_n 38 rfl dX10_init_37 rfl ?_
  refine V_new (ci := 8) (C0 := RX6) (T := TX6) (N := 3) (fs := [.null, .int (nI 0), .int (nI 0)]) 41 tyX6 rfl dX10_init_38 wsX6_in tyX6_ok cwX10_22 cwI_X6 kalX6_init.1.2.1 rfl fs_X6 (by omega) (by omega) (fun q4 => ?_)
  refine V_dup 42 rfl dX10_init_41 rfl ?_
  refine V_callI (z := mX6_init) (As := []) rfl kalX6_init lkX10_24 dX10_init_42 (S_X6_init (ad0 := ad3) (F0 := F3)) rfl rfl (by exact Nat.le_of_ble_eq_true rfl) (by omega) (by omega) (by omega) (fun vv ww hq => ?_)
  obtain ⟨rfl, ad4, F4, g1, g2, r4, g4, rfl⟩ := hq
  rw [List.append_assoc, List.append_assoc, sgm_glue (c := 91) (m := 242) (l := 332) rfl rfl (rfX (by decide)) g1 g2]
  have fo : FO ad4 F4 1 332 := FO_app (n := 90) (c := 91) (m := 242) rfl rfl (FO_congr (rfX (m := 90) (by decide)) (fun r hr => g1 r (by omega)) (fun k q1 q2 => g2 k (by omega)) fo) g4
  have r0 : ad4 0 = q := (g1 _ (by omega)).trans r0
  have r1 : ad4 1 = q1 := (g1 _ (by omega)).trans r1
  have r2 : ad4 31 = q2 := (g1 _ (by omega)).trans r2
  have r3 : ad4 61 = q3 := (g1 _ (by omega)).trans r3
  show V u mX10_init _ _ _ _ _ 45 _ [.ref q4, .ref q] (w0 ++ (([(q, .inr (12, [.ref q1, .ref q2, .ref q3, .null, .null, .null, .null, .null, .null, .null, .int (nI 0), .int (nI 0), .int (nI 0)]))] : va_W) ++ sgm u ad4 F4 1 332))
  refine N_putF (j := 3) (l2 := ([(q, .inr (12, [.ref q1, .ref q2, .ref q3, .ref q4, .null, .null, .null, .null, .null, .null, .int (nI 0), .int (nI 0), .int (nI 0)]))] : va_W) ++ sgm u ad4 F4 1 332) 48 0 tyX10 rfl dX10_init_45 wsX10_in tyX10_ok nmX10 rfl rfl (by omega) lkX10_25 rfl rfl rfl rfl rfl (Nat.le_of_ble_eq_true rfl) rfl ?_
  refine V_aload_n 49 rfl dX10_init_48 rfl ?_
  refine V_new (ci := 4) (C0 := RX2) (T := TX2) (N := 2) (fs := [.null, .null]) 52 tyX2 rfl dX10_init_49 wsX2_in tyX2_ok cwX10_29 cwI_X2 kalX2_init.1.2.1 rfl fs_X2 (by omega) (by omega) (fun q5 => ?_)
  refine V_dup 53 rfl dX10_init_52 rfl ?_
  refine V_callIN (host := "EngineMonastery") (z := mX2_init) (As := []) rfl kalX2_init (by decide) dX10_init_53 (S_X2_init (ad0 := ad4) (F0 := F4)) rfl rfl (by exact Nat.le_of_ble_eq_true rfl) (by omega) (by omega) (by omega) (fun vv ww hq => ?_)
  obtain ⟨rfl, ad5, F5, g1, g2, r5, g4, rfl⟩ := hq
  rw [List.append_assoc, List.append_assoc, sgm_glue (c := 333) (m := 3) (l := 335) rfl rfl (rfX (by decide)) g1 g2]
  have fo : FO ad5 F5 1 335 := FO_app (n := 332) (c := 333) (m := 3) rfl rfl (FO_congr (rfX (m := 332) (by decide)) (fun r hr => g1 r (by omega)) (fun k q1 q2 => g2 k (by omega)) fo) g4
  have r0 : ad5 0 = q := (g1 _ (by omega)).trans r0
  have r1 : ad5 1 = q1 := (g1 _ (by omega)).trans r1
  have r2 : ad5 31 = q2 := (g1 _ (by omega)).trans r2
  have r3 : ad5 61 = q3 := (g1 _ (by omega)).trans r3
  have r4 : ad5 91 = q4 := (g1 _ (by omega)).trans r4
  show V u mX10_init _ _ _ _ _ 56 _ [.ref q5, .ref q] (w0 ++ (([(q, .inr (12, [.ref q1, .ref q2, .ref q3, .ref q4, .null, .null, .null, .null, .null, .null, .int (nI 0), .int (nI 0), .int (nI 0)]))] : va_W) ++ sgm u ad5 F5 1 335))
  refine N_putF (j := 4) (l2 := ([(q, .inr (12, [.ref q1, .ref q2, .ref q3, .ref q4, .ref q5, .null, .null, .null, .null, .null, .int (nI 0), .int (nI 0), .int (nI 0)]))] : va_W) ++ sgm u ad5 F5 1 335) 59 0 tyX10 rfl dX10_init_56 wsX10_in tyX10_ok nmX10 rfl rfl (by omega) lkX10_32 rfl rfl rfl rfl rfl (Nat.le_of_ble_eq_true rfl) rfl ?_
  refine V_aload_n 60 rfl dX10_init_59 rfl ?_
  refine V_new (ci := 11) (C0 := RX9) (T := TX9) (N := 4) (fs := [.null, .null, .null, .null]) 63 tyX9 rfl dX10_init_60 wsX9_in tyX9_ok cwX10_36 cwI_X9 kalX9_init.1.2.1 rfl fs_X9 (by omega) (by omega) (fun q6 => ?_)
  refine V_dup 64 rfl dX10_init_63 rfl ?_
  refine V_callIN (host := "EngineMonastery") (z := mX9_init) (As := []) rfl kalX9_init (by decide) dX10_init_64 (S_X9_init (ad0 := ad5) (F0 := F5)) rfl rfl (by exact Nat.le_of_ble_eq_true rfl) (by omega) (by omega) (by omega) (fun vv ww hq => ?_)
  obtain ⟨rfl, ad6, F6, g1, g2, r6, g4, rfl⟩ := hq
  rw [List.append_assoc, List.append_assoc, sgm_glue (c := 336) (m := 5) (l := 340) rfl rfl (rfX (by decide)) g1 g2]
  have fo : FO ad6 F6 1 340 := FO_app (n := 335) (c := 336) (m := 5) rfl rfl (FO_congr (rfX (m := 335) (by decide)) (fun r hr => g1 r (by omega)) (fun k q1 q2 => g2 k (by omega)) fo) g4
  have r0 : ad6 0 = q := (g1 _ (by omega)).trans r0
  have r1 : ad6 1 = q1 := (g1 _ (by omega)).trans r1
  have r2 : ad6 31 = q2 := (g1 _ (by omega)).trans r2
  have r3 : ad6 61 = q3 := (g1 _ (by omega)).trans r3
  have r4 : ad6 91 = q4 := (g1 _ (by omega)).trans r4
  have r5 : ad6 333 = q5 := (g1 _ (by omega)).trans r5
  show V u mX10_init _ _ _ _ _ 67 _ [.ref q6, .ref q] (w0 ++ (([(q, .inr (12, [.ref q1, .ref q2, .ref q3, .ref q4, .ref q5, .null, .null, .null, .null, .null, .int (nI 0), .int (nI 0), .int (nI 0)]))] : va_W) ++ sgm u ad6 F6 1 340))
  refine N_putF (j := 5) (l2 := ([(q, .inr (12, [.ref q1, .ref q2, .ref q3, .ref q4, .ref q5, .ref q6, .null, .null, .null, .null, .int (nI 0), .int (nI 0), .int (nI 0)]))] : va_W) ++ sgm u ad6 F6 1 340) 70 0 tyX10 rfl dX10_init_67 wsX10_in tyX10_ok nmX10 rfl rfl (by omega) lkX10_39 rfl rfl rfl rfl rfl (Nat.le_of_ble_eq_true rfl) rfl ?_
  refine V_aload_n 71 rfl dX10_init_70 rfl ?_
  refine V_new (ci := 9) (C0 := RX7) (T := TX7) (N := 2) (fs := [.null, .null]) 74 tyX7 rfl dX10_init_71 wsX7_in tyX7_ok cwX10_43 cwI_X7 kalX7_init.1.2.1 rfl fs_X7 (by omega) (by omega) (fun q7 => ?_)
  refine V_dup 75 rfl dX10_init_74 rfl ?_
  refine V_callIN (host := "EngineMonastery") (z := mX7_init) (As := []) rfl kalX7_init (by decide) dX10_init_75 (S_X7_init (ad0 := ad6) (F0 := F6)) rfl rfl (by exact Nat.le_of_ble_eq_true rfl) (by omega) (by omega) (by omega) (fun vv ww hq => ?_)
  obtain ⟨rfl, ad7, F7, g1, g2, r7, g4, rfl⟩ := hq
  rw [List.append_assoc, List.append_assoc, sgm_glue (c := 341) (m := 3) (l := 343) rfl rfl (rfX (by decide)) g1 g2]
  have fo : FO ad7 F7 1 343 := FO_app (n := 340) (c := 341) (m := 3) rfl rfl (FO_congr (rfX (m := 340) (by decide)) (fun r hr => g1 r (by omega)) (fun k q1 q2 => g2 k (by omega)) fo) g4
  have r0 : ad7 0 = q := (g1 _ (by omega)).trans r0
  have r1 : ad7 1 = q1 := (g1 _ (by omega)).trans r1
  have r2 : ad7 31 = q2 := (g1 _ (by omega)).trans r2
  have r3 : ad7 61 = q3 := (g1 _ (by omega)).trans r3
  have r4 : ad7 91 = q4 := (g1 _ (by omega)).trans r4
  have r5 : ad7 333 = q5 := (g1 _ (by omega)).trans r5
  have r6 : ad7 336 = q6 := (g1 _ (by omega)).trans r6
  show V u mX10_init _ _ _ _ _ 78 _ [.ref q7, .ref q] (w0 ++ (([(q, .inr (12, [.ref q1, .ref q2, .ref q3, .ref q4, .ref q5, .ref q6, .null, .null, .null, .null, .int (nI 0), .int (nI 0), .int (nI 0)]))] : va_W) ++ sgm u ad7 F7 1 343))
  refine N_putF (j := 6) (l2 := ([(q, .inr (12, [.ref q1, .ref q2, .ref q3, .ref q4, .ref q5, .ref q6, .ref q7, .null, .null, .null, .int (nI 0), .int (nI 0), .int (nI 0)]))] : va_W) ++ sgm u ad7 F7 1 343) 81 0 tyX10 rfl dX10_init_78 wsX10_in tyX10_ok nmX10 rfl rfl (by omega) lkX10_46 rfl rfl rfl rfl rfl (Nat.le_of_ble_eq_true rfl) rfl ?_
  refine V_aload_n 82 rfl dX10_init_81 rfl ?_
  refine V_new (ci := 2) (C0 := RX0) (T := TX0) (N := 6) (fs := [.null, .int (nI 0), .null, .null, .int (nI 0), .int (nI 0)]) 85 tyX0 rfl dX10_init_82 wsX0_in tyX0_ok cwX10_50 cwI_X0 kalX0_init.1.2.1 rfl fs_X0 (by omega) (by omega) (fun q8 => ?_)
  refine V_dup 86 rfl dX10_init_85 rfl ?_
  refine V_callIN (host := "EngineMonastery") (z := mX0_init) (As := []) rfl kalX0_init (by decide) dX10_init_86 (S_X0_init (ad0 := ad7) (F0 := F7)) rfl rfl (by exact Nat.le_of_ble_eq_true rfl) (by omega) (by omega) (by omega) (fun vv ww hq => ?_)
  obtain ⟨rfl, ad8, F8, g1, g2, r8, g4, rfl⟩ := hq
  rw [List.append_assoc, List.append_assoc, sgm_glue (c := 344) (m := 4) (l := 347) rfl rfl (rfX (by decide)) g1 g2]
  have fo : FO ad8 F8 1 347 := FO_app (n := 343) (c := 344) (m := 4) rfl rfl (FO_congr (rfX (m := 343) (by decide)) (fun r hr => g1 r (by omega)) (fun k q1 q2 => g2 k (by omega)) fo) g4
  have r0 : ad8 0 = q := (g1 _ (by omega)).trans r0
  have r1 : ad8 1 = q1 := (g1 _ (by omega)).trans r1
  have r2 : ad8 31 = q2 := (g1 _ (by omega)).trans r2
  have r3 : ad8 61 = q3 := (g1 _ (by omega)).trans r3
  have r4 : ad8 91 = q4 := (g1 _ (by omega)).trans r4
  have r5 : ad8 333 = q5 := (g1 _ (by omega)).trans r5
  have r6 : ad8 336 = q6 := (g1 _ (by omega)).trans r6
  have r7 : ad8 341 = q7 := (g1 _ (by omega)).trans r7
  show V u mX10_init _ _ _ _ _ 89 _ [.ref q8, .ref q] (w0 ++ (([(q, .inr (12, [.ref q1, .ref q2, .ref q3, .ref q4, .ref q5, .ref q6, .ref q7, .null, .null, .null, .int (nI 0), .int (nI 0), .int (nI 0)]))] : va_W) ++ sgm u ad8 F8 1 347))
  refine N_putF (j := 7) (l2 := ([(q, .inr (12, [.ref q1, .ref q2, .ref q3, .ref q4, .ref q5, .ref q6, .ref q7, .ref q8, .null, .null, .int (nI 0), .int (nI 0), .int (nI 0)]))] : va_W) ++ sgm u ad8 F8 1 347) 92 0 tyX10 rfl dX10_init_89 wsX10_in tyX10_ok nmX10 rfl rfl (by omega) lkX10_53 rfl rfl rfl rfl rfl (Nat.le_of_ble_eq_true rfl) rfl ?_
  refine V_aload_n 93 rfl dX10_init_92 rfl ?_
  refine V_new (ci := 7) (C0 := RX5) (T := TX5) (N := 2) (fs := [.null, .int (nI 0)]) 96 tyX5 rfl dX10_init_93 wsX5_in tyX5_ok cwX10_57 cwI_X5 kalX5_init.1.2.1 rfl fs_X5 (by omega) (by omega) (fun q9 => ?_)
  refine V_dup 97 rfl dX10_init_96 rfl ?_
  refine V_callIN (host := "EngineMonastery") (z := mX5_init) (As := []) rfl kalX5_init (by decide) dX10_init_97 (S_X5_init (ad0 := ad8) (F0 := F8)) rfl rfl (by exact Nat.le_of_ble_eq_true rfl) (by omega) (by omega) (by omega) (fun vv ww hq => ?_)
  obtain ⟨rfl, ad9, F9, g1, g2, r9, g4, rfl⟩ := hq
  rw [List.append_assoc, List.append_assoc, sgm_glue (c := 348) (m := 2) (l := 349) rfl rfl (rfX (by decide)) g1 g2]
  have fo : FO ad9 F9 1 349 := FO_app (n := 347) (c := 348) (m := 2) rfl rfl (FO_congr (rfX (m := 347) (by decide)) (fun r hr => g1 r (by omega)) (fun k q1 q2 => g2 k (by omega)) fo) g4
  have r0 : ad9 0 = q := (g1 _ (by omega)).trans r0
  have r1 : ad9 1 = q1 := (g1 _ (by omega)).trans r1
  have r2 : ad9 31 = q2 := (g1 _ (by omega)).trans r2
  have r3 : ad9 61 = q3 := (g1 _ (by omega)).trans r3
  have r4 : ad9 91 = q4 := (g1 _ (by omega)).trans r4
  have r5 : ad9 333 = q5 := (g1 _ (by omega)).trans r5
  have r6 : ad9 336 = q6 := (g1 _ (by omega)).trans r6
  have r7 : ad9 341 = q7 := (g1 _ (by omega)).trans r7
  have r8 : ad9 344 = q8 := (g1 _ (by omega)).trans r8
  show V u mX10_init _ _ _ _ _ 100 _ [.ref q9, .ref q] (w0 ++ (([(q, .inr (12, [.ref q1, .ref q2, .ref q3, .ref q4, .ref q5, .ref q6, .ref q7, .ref q8, .null, .null, .int (nI 0), .int (nI 0), .int (nI 0)]))] : va_W) ++ sgm u ad9 F9 1 349))
  refine N_putF (j := 8) (l2 := ([(q, .inr (12, [.ref q1, .ref q2, .ref q3, .ref q4, .ref q5, .ref q6, .ref q7, .ref q8, .ref q9, .null, .int (nI 0), .int (nI 0), .int (nI 0)]))] : va_W) ++ sgm u ad9 F9 1 349) 103 0 tyX10 rfl dX10_init_100 wsX10_in tyX10_ok nmX10 rfl rfl (by omega) lkX10_60 rfl rfl rfl rfl rfl (Nat.le_of_ble_eq_true rfl) rfl ?_
  refine V_aload_n 104 rfl dX10_init_103 rfl ?_
  refine V_bipush 106 (nI 24) rfl dX10_init_104 bc_24 ?_
  refine N_newi 108 rfl dX10_init_106 (Nat.le_of_ble_eq_true rfl) (Nat.le_of_ble_eq_true rfl) (by omega) (by omega) (fun q10 => ?_)
  obtain ⟨ad, had⟩ : ∃ ad, ad = adU ad9 350 [q10] := ⟨_, rfl⟩
  have k1 : ∀ k, k < 350 → ad k = ad9 k := fun k hk => by rw [had]; exact adU_lo hk
  have r10 : ad 350 = q10 := by rw [had]; exact adU_at 0
  have r0 : ad 0 = q := (k1 _ (by omega)).trans r0
  have r1 : ad 1 = q1 := (k1 _ (by omega)).trans r1
  have r2 : ad 31 = q2 := (k1 _ (by omega)).trans r2
  have r3 : ad 61 = q3 := (k1 _ (by omega)).trans r3
  have r4 : ad 91 = q4 := (k1 _ (by omega)).trans r4
  have r5 : ad 333 = q5 := (k1 _ (by omega)).trans r5
  have r6 : ad 336 = q6 := (k1 _ (by omega)).trans r6
  have r7 : ad 341 = q7 := (k1 _ (by omega)).trans r7
  have r8 : ad 344 = q8 := (k1 _ (by omega)).trans r8
  have r9 : ad 348 = q9 := (k1 _ (by omega)).trans r9
  have e350 : cll u ad F9 350 = (q10, .inl (u.2.2.2 0, 24, .inl (fun _ => nI 0))) := cll_i (f := fun _ => 0) (show shp 350 = _ from rfl) r10 (JZ_of (show shp 350 = _ from rfl) (by omega) (by omega) (by omega))
  have eS : sgm u ad9 F9 1 349 ++ ([(q10, .inl (u.2.2.2 0, 24, .inl (fun _ => nI 0)))] : va_W) = sgm u ad F9 1 350 := by
    rw [sgm_congr (ad' := ad) (F' := F9) (fun r hr => (k1 r (by omega)).symm) 349 (rfX (m := 349) (by decide)) (Nat.le_refl _) (fun _ _ _ => rfl), ← e350]
    rfl
  have fo : FO ad F9 1 350 := FO_app (n := 349) (c := 350) (m := 1) rfl rfl (FO_congr (rfX (m := 349) (by decide)) (fun r hr => k1 r (by omega)) (fun _ _ _ => rfl) fo) (FO_none (by decide +kernel))
  rw [List.append_assoc, eS]
  show V u mX10_init _ _ _ _ _ 108 _ [.ref q10, .ref q] (w0 ++ (([(q, .inr (12, [.ref q1, .ref q2, .ref q3, .ref q4, .ref q5, .ref q6, .ref q7, .ref q8, .ref q9, .null, .int (nI 0), .int (nI 0), .int (nI 0)]))] : va_W) ++ sgm u ad F9 1 350))
  refine N_putF (j := 9) (l2 := ([(q, .inr (12, [.ref q1, .ref q2, .ref q3, .ref q4, .ref q5, .ref q6, .ref q7, .ref q8, .ref q9, .ref q10, .int (nI 0), .int (nI 0), .int (nI 0)]))] : va_W) ++ sgm u ad F9 1 350) 111 0 tyX10 rfl dX10_init_108 wsX10_in tyX10_ok nmX10 rfl rfl (by omega) lkX10_64 rfl rfl rfl rfl rfl (Nat.le_of_ble_eq_true rfl) rfl ?_
  refine V_aload_n 112 rfl dX10_init_111 rfl ?_
  refine V_iconst 113 (nI 4294967295) rfl dX10_init_112 ic_m1 ?_
  refine N_putf (j := 10) (l2 := ([(q, .inr (12, [.ref q1, .ref q2, .ref q3, .ref q4, .ref q5, .ref q6, .ref q7, .ref q8, .ref q9, .ref q10, .int (nI 4294967295), .int (nI 0), .int (nI 0)]))] : va_W) ++ sgm u ad F9 1 350) 116 0 tyX10 rfl dX10_init_113 wsX10_in tyX10_ok nmX10 rfl rfl (by omega) lkX10_68 rfl rfl rfl (Nat.le_of_ble_eq_true rfl) rfl ?_
  refine V_aload_n 117 rfl dX10_init_116 rfl ?_
  refine V_iconst 118 (nI 4294967295) rfl dX10_init_117 ic_m1 ?_
  refine N_putf (j := 11) (l2 := ([(q, .inr (12, [.ref q1, .ref q2, .ref q3, .ref q4, .ref q5, .ref q6, .ref q7, .ref q8, .ref q9, .ref q10, .int (nI 4294967295), .int (nI 4294967295), .int (nI 0)]))] : va_W) ++ sgm u ad F9 1 350) 121 0 tyX10 rfl dX10_init_118 wsX10_in tyX10_ok nmX10 rfl rfl (by omega) lkX10_72 rfl rfl rfl (Nat.le_of_ble_eq_true rfl) rfl ?_
  refine V_vret rfl dX10_init_121 ?_
  have e0 : cll u ad F9 0 = (q, .inr (12, [.ref q1, .ref q2, .ref q3, .ref q4, .ref q5, .ref q6, .ref q7, .ref q8, .ref q9, .ref q10, .int (nI 4294967295), .int (nI 4294967295), .int (nI 0)])) := by
    refine cll_o (show shp 0 = _ from rfl) r0 ?_
    rw [JZ_of (show shp 0 = _ from rfl) (by omega) (by omega) (by omega)]
    show ([.ref (ad 1), .ref (ad 31), .ref (ad 61), .ref (ad 91), .ref (ad 333), .ref (ad 336), .ref (ad 341), .ref (ad 344), .ref (ad 348), .ref (ad 350), .int (nI 4294967295), .int (nI 4294967295), .int (nI 0)] : List Value) = _
    rw [r1, r2, r3, r4, r5, r6, r7, r8, r9, r10]
  have e30 : sgm u ad F9 0 351 = sgm u ad F9 0 1 ++ sgm u ad F9 1 350 := sgm_app (n := 1) 350
  refine ⟨rfl, ad, F9, fun k hk => absurd hk (Nat.not_lt_zero k), fun k hk => absurd hk (Nat.not_lt_zero k), r0, FO_app (n := 1) (c := 1) (m := 350) rfl rfl (FO_none (by decide +kernel)) fo, congrArg (fun z => w0 ++ z) ?_⟩
  rw [e30]
  show _ = [cll u ad F9 0] ++ _
  rw [e0]
