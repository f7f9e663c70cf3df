/-! ===== the law's loop ===== -/
theorem LI_n {g : xG} {x s0 len : Nat} {xs : Nat → Int32} {n : Nat} {H : xH} (hI : LI g x s0 len xs n H) : LI g x s0 len xs (n + 1) H := by
  obtain ⟨h', J', e, sc, hs, L, L', B, c, D, T, E, ts, tp, V, fl, gv, a1, a2, a3, a4, a5, a6⟩ := hI
  exact ⟨h', J', e, sc, hs, L, L', B, c, D, T, E, ts, tp, V, fl, gv, a1, a2, a3, a4, by omega, a6⟩
theorem LI_b {g : xG} {x s0 len : Nat} {xs : Nat → Int32} {n : Nat} {H : xH} (hI : LI g x s0 len xs n H) : H.1 ≤ x + 41884 ∧ H.2.1 ≤ 7302250 := by
  obtain ⟨h', J', e, sc, hs, L, L', B, c, D, T, E, ts, tp, V, fl, gv, a1, -⟩ := hI
  have u := a1.1.2.1.2.2.1
  have u1 : h'.1 + 6 * nul (xP (fxT h' x) (x + 32 + 1209)) 6767 ≤ x + 1282 + 40602 := u.2.2.2.2.1
  have u2 : h'.2.1 + 52 * nul (xP (fxT h' x) (x + 32 + 1209)) 6767 ≤ 7302250 := u.2.2.2.2.2
  rw [e]
  exact ⟨by show h'.1 ≤ _; omega, by show h'.2.1 ≤ _; omega⟩
theorem LI_t {g : xG} {x s0 len : Nat} {xs : Nat → Int32} {n : Nat} {H : xH} (hI : LI g x s0 len xs n H) : SC x s0 len xs H ∧ (xT H x).1 = 10 := by
  obtain ⟨h', J', e, sc, hs, L, L', B, c, D, T, E, ts, tp, V, fl, gv, a1, -⟩ := hI
  refine ⟨sc, ?_⟩
  rw [e]
  exact a1.1.1.1
theorem bo_H {g : xG} {l : Launch} {x s0 len : Nat} {xs : Nat → Int32} {n : Nat} {H : xH} {mA mB : xM} {as : List Value} (hI : LI g x s0 len xs n H) (k : ∀ h J, LI g x s0 len xs n (xJ h J) → bo g l x s0 len xs n mA mB as (xJ h J)) : bo g l x s0 len xs n mA mB as H := by
  have hI0 := hI
  obtain ⟨h', J', e, -⟩ := hI
  rw [e] at hI0 ⊢
  exact k h' J' hI0
section Law
variable {g : xG} {l : Launch} {H : xH} {Q : Option Value → xH → Prop} {x n s0 len : Nat} {xs : Nat → Int32}
theorem law_0 (hL : LI g x s0 len xs n H) (h1 : 6 * n + 7 ≤ len) (h2 : len ≤ 3073) (nx : ∀ H', LI g x s0 len xs (n + 1) H' → aw g l mL_law 552 [(0, .ref s0), (1, .ref x), (2, .ref (x + 1258)), (3, .int (nI (1 + 6 * n)))] [] H' Q) : aw g l mL_law 128 [(0, .ref s0), (1, .ref x), (2, .ref (x + 1258)), (3, .int (nI (1 + 6 * n)))] [] H Q := by
  obtain ⟨sc, t10⟩ := LI_t hL
  refine sL_law_128 rfl ?_
  refine sL_law_129 rfl ?_
  refine sL_law_130 rfl ?_
  refine nL_law_131 ?_
  refine nL_law_132 ?_
  refine nL_law_133 (Or.inr (by rw [sc.1.1])) (by rw [sc.1.1]; show 1 + 6 * n + 1 < len; omega) (by rw [sc.1.1]; show len < 2 ^ 31; omega) ?_
  rw [sc.1.2]
  refine sL_law_134 rfl ?_
  refine sL_law_135 rfl ?_
  refine nL_law_136 ?_
  refine nL_law_137 ?_
  refine nL_law_138 (Or.inr (by rw [sc.1.1])) (by rw [sc.1.1]; show 1 + 6 * n + 2 < len; omega) (by rw [sc.1.1]; show len < 2 ^ 31; omega) ?_
  rw [sc.1.2]
  refine sL_law_139 rfl ?_
  refine sL_law_140 rfl ?_
  refine nL_law_141 ?_
  refine nL_law_142 ?_
  refine nL_law_143 (Or.inr (by rw [sc.1.1])) (by rw [sc.1.1]; show 1 + 6 * n + 3 < len; omega) (by rw [sc.1.1]; show len < 2 ^ 31; omega) ?_
  rw [sc.1.2]
  refine sL_law_144 rfl ?_
  refine sL_law_145 rfl ?_
  refine nL_law_146 ?_
  refine nL_law_147 ?_
  refine nL_law_148 (Or.inr (by rw [sc.1.1])) (by rw [sc.1.1]; show 1 + 6 * n + 4 < len; omega) (by rw [sc.1.1]; show len < 2 ^ 31; omega) ?_
  rw [sc.1.2]
  refine sL_law_149 rfl ?_
  refine sL_law_150 rfl ?_
  refine nL_law_151 ?_
  refine nL_law_152 ?_
  refine nL_law_153 (Or.inr (by rw [sc.1.1])) (by rw [sc.1.1]; show 1 + 6 * n + 5 < len; omega) (by rw [sc.1.1]; show len < 2 ^ 31; omega) ?_
  rw [sc.1.2]
  refine sL_law_154 (Nat.le_of_ble_eq_true rfl) t10 (ac_mono (bo_H (as := [.int (xs (1 + 6 * n + 1)), .int (xs (1 + 6 * n + 2)), .int (xs (1 + 6 * n + 3)), .int (xs (1 + 6 * n + 4)), .int (xs (1 + 6 * n + 5))]) hL (fun h J z => bo_feed z)) (fun r H1 ⟨v, er, sc1, k⟩ => ?_))
  subst er
  show aw g l mL_law 157 _ [.int v] H1 Q
  refine sL_law_157 rfl ?_
  refine sL_law_158 rfl ?_
  refine sL_law_159 rfl ?_
  refine nL_law_160 ?_
  refine nL_law_161 ?_
  refine nL_law_162 (Or.inr (by rw [sc1.1.1])) (by rw [sc1.1.1]; show 1 + 6 * n + 1 < len; omega) (by rw [sc1.1.1]; show len < 2 ^ 31; omega) ?_
  rw [sc1.1.2]
  refine sL_law_163 rfl ?_
  refine sL_law_164 rfl ?_
  refine nL_law_165 ?_
  refine nL_law_166 ?_
  refine nL_law_167 (Or.inr (by rw [sc1.1.1])) (by rw [sc1.1.1]; show 1 + 6 * n + 2 < len; omega) (by rw [sc1.1.1]; show len < 2 ^ 31; omega) ?_
  rw [sc1.1.2]
  refine sL_law_168 rfl ?_
  refine sL_law_169 rfl ?_
  refine nL_law_170 ?_
  refine nL_law_171 ?_
  refine nL_law_172 (Or.inr (by rw [sc1.1.1])) (by rw [sc1.1.1]; show 1 + 6 * n + 3 < len; omega) (by rw [sc1.1.1]; show len < 2 ^ 31; omega) ?_
  rw [sc1.1.2]
  refine sL_law_173 rfl ?_
  refine sL_law_174 rfl ?_
  refine nL_law_175 ?_
  refine nL_law_176 ?_
  refine nL_law_177 (Or.inr (by rw [sc1.1.1])) (by rw [sc1.1.1]; show 1 + 6 * n + 4 < len; omega) (by rw [sc1.1.1]; show len < 2 ^ 31; omega) ?_
  rw [sc1.1.2]
  refine sL_law_178 rfl ?_
  refine sL_law_179 rfl ?_
  refine nL_law_180 ?_
  refine nL_law_181 ?_
  refine nL_law_182 (Or.inr (by rw [sc1.1.1])) (by rw [sc1.1.1]; show 1 + 6 * n + 5 < len; omega) (by rw [sc1.1.1]; show len < 2 ^ 31; omega) ?_
  rw [sc1.1.2]
  refine sL_law_183 (Nat.le_of_ble_eq_true rfl) sc1.2 (ac_mono k (fun r2 H2 ⟨er2, li⟩ => ?_))
  subst er2
  show aw g l mL_law 186 _ [.int v, .int v] H2 Q
  exact sL_law_186 (fun _ => nx H2 li) (fun z => absurd rfl z)
theorem law_1 (hL : LI g x s0 len xs n H) (h1 : 6 * n + 7 ≤ len) (h2 : len ≤ 3073) (nx : ∀ H', LI g x s0 len xs (n + 1) H' → aw g l mL_law 552 [(0, .ref s0), (1, .ref x), (2, .ref (x + 1258)), (3, .int (nI (1 + 6 * n)))] [] H' Q) : aw g l mL_law 191 [(0, .ref s0), (1, .ref x), (2, .ref (x + 1258)), (3, .int (nI (1 + 6 * n)))] [] H Q := by
  obtain ⟨sc, t10⟩ := LI_t hL
  refine sL_law_191 rfl ?_
  refine sL_law_192 rfl ?_
  refine sL_law_193 rfl ?_
  refine nL_law_194 ?_
  refine nL_law_195 ?_
  refine nL_law_196 (Or.inr (by rw [sc.1.1])) (by rw [sc.1.1]; show 1 + 6 * n + 1 < len; omega) (by rw [sc.1.1]; show len < 2 ^ 31; omega) ?_
  rw [sc.1.2]
  refine sL_law_197 (Nat.le_of_ble_eq_true rfl) t10 (ac_mono (bo_H (as := [.int (xs (1 + 6 * n + 1))]) hL (fun h J z => bo_cut z)) (fun r H1 ⟨v, er, sc1, k⟩ => ?_))
  subst er
  show aw g l mL_law 200 _ [.int v] H1 Q
  refine sL_law_200 rfl ?_
  refine sL_law_201 rfl ?_
  refine sL_law_202 rfl ?_
  refine nL_law_203 ?_
  refine nL_law_204 ?_
  refine nL_law_205 (Or.inr (by rw [sc1.1.1])) (by rw [sc1.1.1]; show 1 + 6 * n + 1 < len; omega) (by rw [sc1.1.1]; show len < 2 ^ 31; omega) ?_
  rw [sc1.1.2]
  refine sL_law_206 (Nat.le_of_ble_eq_true rfl) sc1.2 (ac_mono k (fun r2 H2 ⟨er2, li⟩ => ?_))
  subst er2
  show aw g l mL_law 209 _ [.int v, .int v] H2 Q
  exact sL_law_209 (fun _ => nx H2 li) (fun z => absurd rfl z)
theorem law_2 (hL : LI g x s0 len xs n H) (h1 : 6 * n + 7 ≤ len) (h2 : len ≤ 3073) (nx : ∀ H', LI g x s0 len xs (n + 1) H' → aw g l mL_law 552 [(0, .ref s0), (1, .ref x), (2, .ref (x + 1258)), (3, .int (nI (1 + 6 * n)))] [] H' Q) : aw g l mL_law 214 [(0, .ref s0), (1, .ref x), (2, .ref (x + 1258)), (3, .int (nI (1 + 6 * n)))] [] H Q := by
  obtain ⟨sc, t10⟩ := LI_t hL
  refine sL_law_214 rfl ?_
  refine sL_law_215 (Nat.le_of_ble_eq_true rfl) t10 (ac_mono (bo_H (as := []) hL (fun h J z => bo_define (by omega) z)) (fun r H1 ⟨v, er, sc1, k⟩ => ?_))
  subst er
  show aw g l mL_law 218 _ [.int v] H1 Q
  refine sL_law_218 rfl ?_
  refine sL_law_219 (Nat.le_of_ble_eq_true rfl) sc1.2 (ac_mono k (fun r2 H2 ⟨er2, li⟩ => ?_))
  subst er2
  show aw g l mL_law 222 _ [.int v, .int v] H2 Q
  exact sL_law_222 (fun _ => nx H2 li) (fun z => absurd rfl z)
theorem law_3 (hL : LI g x s0 len xs n H) (h1 : 6 * n + 7 ≤ len) (h2 : len ≤ 3073) (nx : ∀ H', LI g x s0 len xs (n + 1) H' → aw g l mL_law 552 [(0, .ref s0), (1, .ref x), (2, .ref (x + 1258)), (3, .int (nI (1 + 6 * n)))] [] H' Q) : aw g l mL_law 227 [(0, .ref s0), (1, .ref x), (2, .ref (x + 1258)), (3, .int (nI (1 + 6 * n)))] [] H Q := by
  obtain ⟨sc, t10⟩ := LI_t hL
  refine sL_law_227 rfl ?_
  refine sL_law_228 rfl ?_
  refine sL_law_229 rfl ?_
  refine nL_law_230 ?_
  refine nL_law_231 ?_
  refine nL_law_232 (Or.inr (by rw [sc.1.1])) (by rw [sc.1.1]; show 1 + 6 * n + 1 < len; omega) (by rw [sc.1.1]; show len < 2 ^ 31; omega) ?_
  rw [sc.1.2]
  refine sL_law_233 (Nat.le_of_ble_eq_true rfl) t10 (ac_mono (bo_H (as := [.int (xs (1 + 6 * n + 1))]) hL (fun h J z => bo_forget z)) (fun r H1 ⟨v, er, sc1, k⟩ => ?_))
  subst er
  show aw g l mL_law 236 _ [.int v] H1 Q
  refine sL_law_236 rfl ?_
  refine sL_law_237 rfl ?_
  refine sL_law_238 rfl ?_
  refine nL_law_239 ?_
  refine nL_law_240 ?_
  refine nL_law_241 (Or.inr (by rw [sc1.1.1])) (by rw [sc1.1.1]; show 1 + 6 * n + 1 < len; omega) (by rw [sc1.1.1]; show len < 2 ^ 31; omega) ?_
  rw [sc1.1.2]
  refine sL_law_242 (Nat.le_of_ble_eq_true rfl) sc1.2 (ac_mono k (fun r2 H2 ⟨er2, li⟩ => ?_))
  subst er2
  show aw g l mL_law 245 _ [.int v, .int v] H2 Q
  exact sL_law_245 (fun _ => nx H2 li) (fun z => absurd rfl z)
theorem law_4 (hL : LI g x s0 len xs n H) (h1 : 6 * n + 7 ≤ len) (h2 : len ≤ 3073) (nx : ∀ H', LI g x s0 len xs (n + 1) H' → aw g l mL_law 552 [(0, .ref s0), (1, .ref x), (2, .ref (x + 1258)), (3, .int (nI (1 + 6 * n)))] [] H' Q) : aw g l mL_law 250 [(0, .ref s0), (1, .ref x), (2, .ref (x + 1258)), (3, .int (nI (1 + 6 * n)))] [] H Q := by
  obtain ⟨sc, t10⟩ := LI_t hL
  refine sL_law_250 rfl ?_
  refine sL_law_251 (Nat.le_of_ble_eq_true rfl) t10 (ac_mono (bo_H (as := []) hL (fun h J z => bo_reckon (by omega) z)) (fun r H1 ⟨v, er, sc1, k⟩ => ?_))
  subst er
  show aw g l mL_law 254 _ [.int v] H1 Q
  refine sL_law_254 rfl ?_
  refine sL_law_255 (Nat.le_of_ble_eq_true rfl) sc1.2 (ac_mono k (fun r2 H2 ⟨er2, li⟩ => ?_))
  subst er2
  show aw g l mL_law 258 _ [.int v, .int v] H2 Q
  exact sL_law_258 (fun _ => nx H2 li) (fun z => absurd rfl z)
theorem law_5 (hL : LI g x s0 len xs n H) (h1 : 6 * n + 7 ≤ len) (h2 : len ≤ 3073) (nx : ∀ H', LI g x s0 len xs (n + 1) H' → aw g l mL_law 552 [(0, .ref s0), (1, .ref x), (2, .ref (x + 1258)), (3, .int (nI (1 + 6 * n)))] [] H' Q) : aw g l mL_law 263 [(0, .ref s0), (1, .ref x), (2, .ref (x + 1258)), (3, .int (nI (1 + 6 * n)))] [] H Q := by
  obtain ⟨sc, t10⟩ := LI_t hL
  refine sL_law_263 rfl ?_
  refine sL_law_264 (Nat.le_of_ble_eq_true rfl) t10 (ac_mono (bo_H (as := []) hL (fun h J z => bo_turn (by omega) z)) (fun r H1 ⟨v, er, sc1, k⟩ => ?_))
  subst er
  show aw g l mL_law 267 _ [.int v] H1 Q
  refine sL_law_267 rfl ?_
  refine sL_law_268 (Nat.le_of_ble_eq_true rfl) sc1.2 (ac_mono k (fun r2 H2 ⟨er2, li⟩ => ?_))
  subst er2
  show aw g l mL_law 271 _ [.int v, .int v] H2 Q
  exact sL_law_271 (fun _ => nx H2 li) (fun z => absurd rfl z)
theorem law_6 (hL : LI g x s0 len xs n H) (h1 : 6 * n + 7 ≤ len) (h2 : len ≤ 3073) (nx : ∀ H', LI g x s0 len xs (n + 1) H' → aw g l mL_law 552 [(0, .ref s0), (1, .ref x), (2, .ref (x + 1258)), (3, .int (nI (1 + 6 * n)))] [] H' Q) : aw g l mL_law 276 [(0, .ref s0), (1, .ref x), (2, .ref (x + 1258)), (3, .int (nI (1 + 6 * n)))] [] H Q := by
  obtain ⟨sc, t10⟩ := LI_t hL
  refine sL_law_276 rfl ?_
  refine sL_law_277 (Nat.le_of_ble_eq_true rfl) t10 (ac_mono (bo_H (as := []) hL (fun h J z => bo_fault z)) (fun r H1 ⟨v, er, sc1, k⟩ => ?_))
  subst er
  show aw g l mL_law 280 _ [.int v] H1 Q
  refine sL_law_280 rfl ?_
  refine sL_law_281 (Nat.le_of_ble_eq_true rfl) sc1.2 (ac_mono k (fun r2 H2 ⟨er2, li⟩ => ?_))
  subst er2
  show aw g l mL_law 284 _ [.int v, .int v] H2 Q
  exact sL_law_284 (fun _ => nx H2 li) (fun z => absurd rfl z)
theorem law_7 (hL : LI g x s0 len xs n H) (h1 : 6 * n + 7 ≤ len) (h2 : len ≤ 3073) (nx : ∀ H', LI g x s0 len xs (n + 1) H' → aw g l mL_law 552 [(0, .ref s0), (1, .ref x), (2, .ref (x + 1258)), (3, .int (nI (1 + 6 * n)))] [] H' Q) : aw g l mL_law 289 [(0, .ref s0), (1, .ref x), (2, .ref (x + 1258)), (3, .int (nI (1 + 6 * n)))] [] H Q := by
  obtain ⟨sc, t10⟩ := LI_t hL
  refine sL_law_289 rfl ?_
  refine sL_law_290 (Nat.le_of_ble_eq_true rfl) t10 (ac_mono (bo_H (as := []) hL (fun h J z => bo_sign z)) (fun r H1 ⟨v, er, sc1, k⟩ => ?_))
  subst er
  show aw g l mL_law 293 _ [.int v] H1 Q
  refine sL_law_293 rfl ?_
  refine sL_law_294 (Nat.le_of_ble_eq_true rfl) sc1.2 (ac_mono k (fun r2 H2 ⟨er2, li⟩ => ?_))
  subst er2
  show aw g l mL_law 297 _ [.int v, .int v] H2 Q
  exact sL_law_297 (fun _ => nx H2 li) (fun z => absurd rfl z)
theorem law_8 (hL : LI g x s0 len xs n H) (h1 : 6 * n + 7 ≤ len) (h2 : len ≤ 3073) (nx : ∀ H', LI g x s0 len xs (n + 1) H' → aw g l mL_law 552 [(0, .ref s0), (1, .ref x), (2, .ref (x + 1258)), (3, .int (nI (1 + 6 * n)))] [] H' Q) : aw g l mL_law 302 [(0, .ref s0), (1, .ref x), (2, .ref (x + 1258)), (3, .int (nI (1 + 6 * n)))] [] H Q := by
  obtain ⟨sc, t10⟩ := LI_t hL
  refine sL_law_302 rfl ?_
  refine sL_law_303 rfl ?_
  refine sL_law_304 rfl ?_
  refine nL_law_305 ?_
  refine nL_law_306 ?_
  refine nL_law_307 (Or.inr (by rw [sc.1.1])) (by rw [sc.1.1]; show 1 + 6 * n + 1 < len; omega) (by rw [sc.1.1]; show len < 2 ^ 31; omega) ?_
  rw [sc.1.2]
  refine sL_law_308 (Nat.le_of_ble_eq_true rfl) t10 (ac_mono (bo_H (as := [.int (xs (1 + 6 * n + 1))]) hL (fun h J z => bo_power z)) (fun r H1 ⟨v, er, sc1, k⟩ => ?_))
  subst er
  show aw g l mL_law 311 _ [.int v] H1 Q
  refine sL_law_311 rfl ?_
  refine sL_law_312 rfl ?_
  refine sL_law_313 rfl ?_
  refine nL_law_314 ?_
  refine nL_law_315 ?_
  refine nL_law_316 (Or.inr (by rw [sc1.1.1])) (by rw [sc1.1.1]; show 1 + 6 * n + 1 < len; omega) (by rw [sc1.1.1]; show len < 2 ^ 31; omega) ?_
  rw [sc1.1.2]
  refine sL_law_317 (Nat.le_of_ble_eq_true rfl) sc1.2 (ac_mono k (fun r2 H2 ⟨er2, li⟩ => ?_))
  subst er2
  show aw g l mL_law 320 _ [.int v, .int v] H2 Q
  exact sL_law_320 (fun _ => nx H2 li) (fun z => absurd rfl z)
theorem law_9 (hL : LI g x s0 len xs n H) (h1 : 6 * n + 7 ≤ len) (h2 : len ≤ 3073) (nx : ∀ H', LI g x s0 len xs (n + 1) H' → aw g l mL_law 552 [(0, .ref s0), (1, .ref x), (2, .ref (x + 1258)), (3, .int (nI (1 + 6 * n)))] [] H' Q) : aw g l mL_law 325 [(0, .ref s0), (1, .ref x), (2, .ref (x + 1258)), (3, .int (nI (1 + 6 * n)))] [] H Q := by
  obtain ⟨sc, t10⟩ := LI_t hL
  refine sL_law_325 rfl ?_
  refine sL_law_326 rfl ?_
  refine sL_law_327 rfl ?_
  refine nL_law_328 ?_
  refine nL_law_329 ?_
  refine nL_law_330 (Or.inr (by rw [sc.1.1])) (by rw [sc.1.1]; show 1 + 6 * n + 1 < len; omega) (by rw [sc.1.1]; show len < 2 ^ 31; omega) ?_
  rw [sc.1.2]
  refine sL_law_331 (Nat.le_of_ble_eq_true rfl) t10 (ac_mono (bo_H (as := [.int (xs (1 + 6 * n + 1))]) hL (fun h J z => bo_digits z)) (fun r H1 ⟨v, er, sc1, k⟩ => ?_))
  subst er
  show aw g l mL_law 334 _ [.int v] H1 Q
  refine sL_law_334 rfl ?_
  refine sL_law_335 rfl ?_
  refine sL_law_336 rfl ?_
  refine nL_law_337 ?_
  refine nL_law_338 ?_
  refine nL_law_339 (Or.inr (by rw [sc1.1.1])) (by rw [sc1.1.1]; show 1 + 6 * n + 1 < len; omega) (by rw [sc1.1.1]; show len < 2 ^ 31; omega) ?_
  rw [sc1.1.2]
  refine sL_law_340 (Nat.le_of_ble_eq_true rfl) sc1.2 (ac_mono k (fun r2 H2 ⟨er2, li⟩ => ?_))
  subst er2
  show aw g l mL_law 343 _ [.int v, .int v] H2 Q
  exact sL_law_343 (fun _ => nx H2 li) (fun z => absurd rfl z)
theorem law_10 (hL : LI g x s0 len xs n H) (h1 : 6 * n + 7 ≤ len) (h2 : len ≤ 3073) (nx : ∀ H', LI g x s0 len xs (n + 1) H' → aw g l mL_law 552 [(0, .ref s0), (1, .ref x), (2, .ref (x + 1258)), (3, .int (nI (1 + 6 * n)))] [] H' Q) : aw g l mL_law 348 [(0, .ref s0), (1, .ref x), (2, .ref (x + 1258)), (3, .int (nI (1 + 6 * n)))] [] H Q := by
  obtain ⟨sc, t10⟩ := LI_t hL
  refine sL_law_348 rfl ?_
  refine sL_law_349 rfl ?_
  refine sL_law_350 rfl ?_
  refine nL_law_351 ?_
  refine nL_law_352 ?_
  refine nL_law_353 (Or.inr (by rw [sc.1.1])) (by rw [sc.1.1]; show 1 + 6 * n + 1 < len; omega) (by rw [sc.1.1]; show len < 2 ^ 31; omega) ?_
  rw [sc.1.2]
  refine sL_law_354 rfl ?_
  refine sL_law_355 rfl ?_
  refine nL_law_356 ?_
  refine nL_law_357 ?_
  refine nL_law_358 (Or.inr (by rw [sc.1.1])) (by rw [sc.1.1]; show 1 + 6 * n + 2 < len; omega) (by rw [sc.1.1]; show len < 2 ^ 31; omega) ?_
  rw [sc.1.2]
  refine sL_law_359 (Nat.le_of_ble_eq_true rfl) t10 (ac_mono (bo_H (as := [.int (xs (1 + 6 * n + 1)), .int (xs (1 + 6 * n + 2))]) hL (fun h J z => bo_digit z)) (fun r H1 ⟨v, er, sc1, k⟩ => ?_))
  subst er
  show aw g l mL_law 362 _ [.int v] H1 Q
  refine sL_law_362 rfl ?_
  refine sL_law_363 rfl ?_
  refine sL_law_364 rfl ?_
  refine nL_law_365 ?_
  refine nL_law_366 ?_
  refine nL_law_367 (Or.inr (by rw [sc1.1.1])) (by rw [sc1.1.1]; show 1 + 6 * n + 1 < len; omega) (by rw [sc1.1.1]; show len < 2 ^ 31; omega) ?_
  rw [sc1.1.2]
  refine sL_law_368 rfl ?_
  refine sL_law_369 rfl ?_
  refine nL_law_370 ?_
  refine nL_law_371 ?_
  refine nL_law_372 (Or.inr (by rw [sc1.1.1])) (by rw [sc1.1.1]; show 1 + 6 * n + 2 < len; omega) (by rw [sc1.1.1]; show len < 2 ^ 31; omega) ?_
  rw [sc1.1.2]
  refine sL_law_373 (Nat.le_of_ble_eq_true rfl) sc1.2 (ac_mono k (fun r2 H2 ⟨er2, li⟩ => ?_))
  subst er2
  show aw g l mL_law 376 _ [.int v, .int v] H2 Q
  exact sL_law_376 (fun _ => nx H2 li) (fun z => absurd rfl z)
theorem law_11 (hL : LI g x s0 len xs n H) (h1 : 6 * n + 7 ≤ len) (h2 : len ≤ 3073) (nx : ∀ H', LI g x s0 len xs (n + 1) H' → aw g l mL_law 552 [(0, .ref s0), (1, .ref x), (2, .ref (x + 1258)), (3, .int (nI (1 + 6 * n)))] [] H' Q) : aw g l mL_law 381 [(0, .ref s0), (1, .ref x), (2, .ref (x + 1258)), (3, .int (nI (1 + 6 * n)))] [] H Q := by
  obtain ⟨sc, t10⟩ := LI_t hL
  refine sL_law_381 rfl ?_
  refine sL_law_382 rfl ?_
  refine sL_law_383 rfl ?_
  refine nL_law_384 ?_
  refine nL_law_385 ?_
  refine nL_law_386 (Or.inr (by rw [sc.1.1])) (by rw [sc.1.1]; show 1 + 6 * n + 1 < len; omega) (by rw [sc.1.1]; show len < 2 ^ 31; omega) ?_
  rw [sc.1.2]
  refine sL_law_387 (Nat.le_of_ble_eq_true rfl) t10 (ac_mono (bo_H (as := [.int (xs (1 + 6 * n + 1))]) hL (fun h J z => bo_point z)) (fun r H1 ⟨v, er, sc1, k⟩ => ?_))
  subst er
  show aw g l mL_law 390 _ [.int v] H1 Q
  refine sL_law_390 rfl ?_
  refine sL_law_391 rfl ?_
  refine sL_law_392 rfl ?_
  refine nL_law_393 ?_
  refine nL_law_394 ?_
  refine nL_law_395 (Or.inr (by rw [sc1.1.1])) (by rw [sc1.1.1]; show 1 + 6 * n + 1 < len; omega) (by rw [sc1.1.1]; show len < 2 ^ 31; omega) ?_
  rw [sc1.1.2]
  refine sL_law_396 (Nat.le_of_ble_eq_true rfl) sc1.2 (ac_mono k (fun r2 H2 ⟨er2, li⟩ => ?_))
  subst er2
  show aw g l mL_law 399 _ [.int v, .int v] H2 Q
  exact sL_law_399 (fun _ => nx H2 li) (fun z => absurd rfl z)
theorem law_12 (hL : LI g x s0 len xs n H) (h1 : 6 * n + 7 ≤ len) (h2 : len ≤ 3073) (nx : ∀ H', LI g x s0 len xs (n + 1) H' → aw g l mL_law 552 [(0, .ref s0), (1, .ref x), (2, .ref (x + 1258)), (3, .int (nI (1 + 6 * n)))] [] H' Q) : aw g l mL_law 404 [(0, .ref s0), (1, .ref x), (2, .ref (x + 1258)), (3, .int (nI (1 + 6 * n)))] [] H Q := by
  obtain ⟨sc, t10⟩ := LI_t hL
  refine sL_law_404 rfl ?_
  refine sL_law_405 rfl ?_
  refine sL_law_406 rfl ?_
  refine nL_law_407 ?_
  refine nL_law_408 ?_
  refine nL_law_409 (Or.inr (by rw [sc.1.1])) (by rw [sc.1.1]; show 1 + 6 * n + 1 < len; omega) (by rw [sc.1.1]; show len < 2 ^ 31; omega) ?_
  rw [sc.1.2]
  refine sL_law_410 (Nat.le_of_ble_eq_true rfl) t10 (ac_mono (bo_H (as := [.int (xs (1 + 6 * n + 1))]) hL (fun h J z => bo_ends z)) (fun r H1 ⟨v, er, sc1, k⟩ => ?_))
  subst er
  show aw g l mL_law 413 _ [.int v] H1 Q
  refine sL_law_413 rfl ?_
  refine sL_law_414 rfl ?_
  refine sL_law_415 rfl ?_
  refine nL_law_416 ?_
  refine nL_law_417 ?_
  refine nL_law_418 (Or.inr (by rw [sc1.1.1])) (by rw [sc1.1.1]; show 1 + 6 * n + 1 < len; omega) (by rw [sc1.1.1]; show len < 2 ^ 31; omega) ?_
  rw [sc1.1.2]
  refine sL_law_419 (Nat.le_of_ble_eq_true rfl) sc1.2 (ac_mono k (fun r2 H2 ⟨er2, li⟩ => ?_))
  subst er2
  show aw g l mL_law 422 _ [.int v, .int v] H2 Q
  exact sL_law_422 (fun _ => nx H2 li) (fun z => absurd rfl z)
theorem law_13 (hL : LI g x s0 len xs n H) (h1 : 6 * n + 7 ≤ len) (h2 : len ≤ 3073) (nx : ∀ H', LI g x s0 len xs (n + 1) H' → aw g l mL_law 552 [(0, .ref s0), (1, .ref x), (2, .ref (x + 1258)), (3, .int (nI (1 + 6 * n)))] [] H' Q) : aw g l mL_law 427 [(0, .ref s0), (1, .ref x), (2, .ref (x + 1258)), (3, .int (nI (1 + 6 * n)))] [] H Q := by
  obtain ⟨sc, t10⟩ := LI_t hL
  refine sL_law_427 rfl ?_
  refine sL_law_428 rfl ?_
  refine sL_law_429 rfl ?_
  refine nL_law_430 ?_
  refine nL_law_431 ?_
  refine nL_law_432 (Or.inr (by rw [sc.1.1])) (by rw [sc.1.1]; show 1 + 6 * n + 1 < len; omega) (by rw [sc.1.1]; show len < 2 ^ 31; omega) ?_
  rw [sc.1.2]
  refine sL_law_433 (Nat.le_of_ble_eq_true rfl) t10 (ac_mono (bo_H (as := [.int (xs (1 + 6 * n + 1))]) hL (fun h J z => bo_alike z)) (fun r H1 ⟨v, er, sc1, k⟩ => ?_))
  subst er
  show aw g l mL_law 436 _ [.int v] H1 Q
  refine sL_law_436 rfl ?_
  refine sL_law_437 rfl ?_
  refine sL_law_438 rfl ?_
  refine nL_law_439 ?_
  refine nL_law_440 ?_
  refine nL_law_441 (Or.inr (by rw [sc1.1.1])) (by rw [sc1.1.1]; show 1 + 6 * n + 1 < len; omega) (by rw [sc1.1.1]; show len < 2 ^ 31; omega) ?_
  rw [sc1.1.2]
  refine sL_law_442 (Nat.le_of_ble_eq_true rfl) sc1.2 (ac_mono k (fun r2 H2 ⟨er2, li⟩ => ?_))
  subst er2
  show aw g l mL_law 445 _ [.int v, .int v] H2 Q
  exact sL_law_445 (fun _ => nx H2 li) (fun z => absurd rfl z)
theorem law_14 (hL : LI g x s0 len xs n H) (h1 : 6 * n + 7 ≤ len) (h2 : len ≤ 3073) (nx : ∀ H', LI g x s0 len xs (n + 1) H' → aw g l mL_law 552 [(0, .ref s0), (1, .ref x), (2, .ref (x + 1258)), (3, .int (nI (1 + 6 * n)))] [] H' Q) : aw g l mL_law 450 [(0, .ref s0), (1, .ref x), (2, .ref (x + 1258)), (3, .int (nI (1 + 6 * n)))] [] H Q := by
  obtain ⟨sc, t10⟩ := LI_t hL
  refine sL_law_450 rfl ?_
  refine sL_law_451 rfl ?_
  refine sL_law_452 rfl ?_
  refine nL_law_453 ?_
  refine nL_law_454 ?_
  refine nL_law_455 (Or.inr (by rw [sc.1.1])) (by rw [sc.1.1]; show 1 + 6 * n + 1 < len; omega) (by rw [sc.1.1]; show len < 2 ^ 31; omega) ?_
  rw [sc.1.2]
  refine sL_law_456 (Nat.le_of_ble_eq_true rfl) t10 (ac_mono (bo_H (as := [.int (xs (1 + 6 * n + 1))]) hL (fun h J z => bo_sort z)) (fun r H1 ⟨v, er, sc1, k⟩ => ?_))
  subst er
  show aw g l mL_law 459 _ [.int v] H1 Q
  refine sL_law_459 rfl ?_
  refine sL_law_460 rfl ?_
  refine sL_law_461 rfl ?_
  refine nL_law_462 ?_
  refine nL_law_463 ?_
  refine nL_law_464 (Or.inr (by rw [sc1.1.1])) (by rw [sc1.1.1]; show 1 + 6 * n + 1 < len; omega) (by rw [sc1.1.1]; show len < 2 ^ 31; omega) ?_
  rw [sc1.1.2]
  refine sL_law_465 (Nat.le_of_ble_eq_true rfl) sc1.2 (ac_mono k (fun r2 H2 ⟨er2, li⟩ => ?_))
  subst er2
  show aw g l mL_law 468 _ [.int v, .int v] H2 Q
  exact sL_law_468 (fun _ => nx H2 li) (fun z => absurd rfl z)
theorem law_15 (hL : LI g x s0 len xs n H) (h1 : 6 * n + 7 ≤ len) (h2 : len ≤ 3073) (nx : ∀ H', LI g x s0 len xs (n + 1) H' → aw g l mL_law 552 [(0, .ref s0), (1, .ref x), (2, .ref (x + 1258)), (3, .int (nI (1 + 6 * n)))] [] H' Q) : aw g l mL_law 473 [(0, .ref s0), (1, .ref x), (2, .ref (x + 1258)), (3, .int (nI (1 + 6 * n)))] [] H Q := by
  obtain ⟨sc, t10⟩ := LI_t hL
  refine sL_law_473 rfl ?_
  refine sL_law_474 rfl ?_
  refine sL_law_475 rfl ?_
  refine nL_law_476 ?_
  refine nL_law_477 ?_
  refine nL_law_478 (Or.inr (by rw [sc.1.1])) (by rw [sc.1.1]; show 1 + 6 * n + 1 < len; omega) (by rw [sc.1.1]; show len < 2 ^ 31; omega) ?_
  rw [sc.1.2]
  refine sL_law_479 (Nat.le_of_ble_eq_true rfl) t10 (ac_mono (bo_H (as := [.int (xs (1 + 6 * n + 1))]) hL (fun h J z => bo_faultOf z)) (fun r H1 ⟨v, er, sc1, k⟩ => ?_))
  subst er
  show aw g l mL_law 482 _ [.int v] H1 Q
  refine sL_law_482 rfl ?_
  refine sL_law_483 rfl ?_
  refine sL_law_484 rfl ?_
  refine nL_law_485 ?_
  refine nL_law_486 ?_
  refine nL_law_487 (Or.inr (by rw [sc1.1.1])) (by rw [sc1.1.1]; show 1 + 6 * n + 1 < len; omega) (by rw [sc1.1.1]; show len < 2 ^ 31; omega) ?_
  rw [sc1.1.2]
  refine sL_law_488 (Nat.le_of_ble_eq_true rfl) sc1.2 (ac_mono k (fun r2 H2 ⟨er2, li⟩ => ?_))
  subst er2
  show aw g l mL_law 491 _ [.int v, .int v] H2 Q
  exact sL_law_491 (fun _ => nx H2 li) (fun z => absurd rfl z)
theorem law_16 (hL : LI g x s0 len xs n H) (h1 : 6 * n + 7 ≤ len) (h2 : len ≤ 3073) (nx : ∀ H', LI g x s0 len xs (n + 1) H' → aw g l mL_law 552 [(0, .ref s0), (1, .ref x), (2, .ref (x + 1258)), (3, .int (nI (1 + 6 * n)))] [] H' Q) : aw g l mL_law 496 [(0, .ref s0), (1, .ref x), (2, .ref (x + 1258)), (3, .int (nI (1 + 6 * n)))] [] H Q := by
  obtain ⟨sc, t10⟩ := LI_t hL
  refine sL_law_496 rfl ?_
  refine sL_law_497 rfl ?_
  refine sL_law_498 rfl ?_
  refine nL_law_499 ?_
  refine nL_law_500 ?_
  refine nL_law_501 (Or.inr (by rw [sc.1.1])) (by rw [sc.1.1]; show 1 + 6 * n + 1 < len; omega) (by rw [sc.1.1]; show len < 2 ^ 31; omega) ?_
  rw [sc.1.2]
  refine sL_law_502 rfl ?_
  refine sL_law_503 rfl ?_
  refine nL_law_504 ?_
  refine nL_law_505 ?_
  refine nL_law_506 (Or.inr (by rw [sc.1.1])) (by rw [sc.1.1]; show 1 + 6 * n + 2 < len; omega) (by rw [sc.1.1]; show len < 2 ^ 31; omega) ?_
  rw [sc.1.2]
  refine sL_law_507 (Nat.le_of_ble_eq_true rfl) t10 (ac_mono (bo_H (as := [.int (xs (1 + 6 * n + 1)), .int (xs (1 + 6 * n + 2))]) hL (fun h J z => bo_name z)) (fun r H1 ⟨v, er, sc1, k⟩ => ?_))
  subst er
  show aw g l mL_law 510 _ [.int v] H1 Q
  refine sL_law_510 rfl ?_
  refine sL_law_511 rfl ?_
  refine sL_law_512 rfl ?_
  refine nL_law_513 ?_
  refine nL_law_514 ?_
  refine nL_law_515 (Or.inr (by rw [sc1.1.1])) (by rw [sc1.1.1]; show 1 + 6 * n + 1 < len; omega) (by rw [sc1.1.1]; show len < 2 ^ 31; omega) ?_
  rw [sc1.1.2]
  refine sL_law_516 rfl ?_
  refine sL_law_517 rfl ?_
  refine nL_law_518 ?_
  refine nL_law_519 ?_
  refine nL_law_520 (Or.inr (by rw [sc1.1.1])) (by rw [sc1.1.1]; show 1 + 6 * n + 2 < len; omega) (by rw [sc1.1.1]; show len < 2 ^ 31; omega) ?_
  rw [sc1.1.2]
  refine sL_law_521 (Nat.le_of_ble_eq_true rfl) sc1.2 (ac_mono k (fun r2 H2 ⟨er2, li⟩ => ?_))
  subst er2
  show aw g l mL_law 524 _ [.int v, .int v] H2 Q
  exact sL_law_524 (fun _ => nx H2 li) (fun z => absurd rfl z)
theorem law_17 (hL : LI g x s0 len xs n H) (h1 : 6 * n + 7 ≤ len) (h2 : len ≤ 3073) (nx : ∀ H', LI g x s0 len xs (n + 1) H' → aw g l mL_law 552 [(0, .ref s0), (1, .ref x), (2, .ref (x + 1258)), (3, .int (nI (1 + 6 * n)))] [] H' Q) : aw g l mL_law 529 [(0, .ref s0), (1, .ref x), (2, .ref (x + 1258)), (3, .int (nI (1 + 6 * n)))] [] H Q := by
  obtain ⟨sc, t10⟩ := LI_t hL
  refine sL_law_529 rfl ?_
  refine sL_law_530 rfl ?_
  refine sL_law_531 rfl ?_
  refine nL_law_532 ?_
  refine nL_law_533 ?_
  refine nL_law_534 (Or.inr (by rw [sc.1.1])) (by rw [sc.1.1]; show 1 + 6 * n + 1 < len; omega) (by rw [sc.1.1]; show len < 2 ^ 31; omega) ?_
  rw [sc.1.2]
  refine sL_law_535 (Nat.le_of_ble_eq_true rfl) t10 (ac_mono (bo_H (as := [.int (xs (1 + 6 * n + 1))]) hL (fun h J z => bo_told z)) (fun r H1 ⟨v, er, sc1, k⟩ => ?_))
  subst er
  show aw g l mL_law 538 _ [.int v] H1 Q
  refine sL_law_538 rfl ?_
  refine sL_law_539 rfl ?_
  refine sL_law_540 rfl ?_
  refine nL_law_541 ?_
  refine nL_law_542 ?_
  refine nL_law_543 (Or.inr (by rw [sc1.1.1])) (by rw [sc1.1.1]; show 1 + 6 * n + 1 < len; omega) (by rw [sc1.1.1]; show len < 2 ^ 31; omega) ?_
  rw [sc1.1.2]
  refine sL_law_544 (Nat.le_of_ble_eq_true rfl) sc1.2 (ac_mono k (fun r2 H2 ⟨er2, li⟩ => ?_))
  subst er2
  show aw g l mL_law 547 _ [.int v, .int v] H2 Q
  exact sL_law_547 (fun _ => nx H2 li) (fun z => absurd rfl z)
theorem law_loop (h2 : len ≤ 3073) (kq : ∀ n H', LI g x s0 len xs n H' → Q (some (.int 1)) H') : ∀ (k n : Nat) (H : xH) (lv0 : List (Nat × Value)), n ≤ 600 → len < 6 * n + 7 + 6 * k → LI g x s0 len xs n H → (∀ z ∈ ([(0, .ref s0), (1, .ref x), (2, .ref (x + 1258)), (3, .int (nI (1 + 6 * n)))] : List (Nat × Value)), z ∈ lv0) → aw g l mL_law 28 lv0 [] H Q
  | k, n, H, lv0, hn6, hk, hL, hlv => by
    refine aw_lv hlv ?_
    obtain ⟨sc, t10⟩ := LI_t hL
    have fin : aw g l mL_law 558 [(0, .ref s0), (1, .ref x), (2, .ref (x + 1258)), (3, .int (nI (1 + 6 * n)))] [] H Q := sL_law_558 (sL_law_559 (Or.inr rfl) (kq n H hL))
    refine sL_law_28 rfl (sL_law_29 rfl (sL_law_30 (Or.inr (by rw [sc.1.1])) ?_))
    rw [sc.1.1]
    show aw g l mL_law 31 _ [.int (nI len), .int (nI (1 + 6 * n))] H Q
    refine nL_law_31 ?_
    by_cases h6 : len < 6
    · refine sL_law_33 (sL_law_34 (fun _ => fin) (fun z => absurd ?_ z))
      have n0 : nI len - nI 6 < 0 := by
        have : len = 0 ∨ len = 1 ∨ len = 2 ∨ len = 3 ∨ len = 4 ∨ len = 5 := by omega
        rcases this with e | e | e | e | e | e <;> rw [e] <;> decide
      have np : 0 ≤ (nI (1 + 6 * n)).toInt := by rw [nI_toInt (by omega)]; omega
      rw [Int32.lt_iff_toInt_lt] at n0 ⊢
      have z0 : (0 : Int32).toInt = 0 := by decide
      omega
    · refine nL_law_33 (by omega) ?_
      refine nL_law_34 (by omega) (by omega) (fun _ => fin) (fun hle => ?_)
      have h1 : 6 * n + 7 ≤ len := by omega
      obtain ⟨k, rfl⟩ : ∃ m, k = m + 1 := ⟨k - 1, by omega⟩
      have nx : ∀ H', LI g x s0 len xs (n + 1) H' → aw g l mL_law 552 [(0, .ref s0), (1, .ref x), (2, .ref (x + 1258)), (3, .int (nI (1 + 6 * n)))] [] H' Q := fun H' li => by
        refine nL_law_552 rfl ?_
        rw [show 1 + 6 * n + 6 = 1 + 6 * (n + 1) by omega]
        refine sL_law_555 ?_
        exact law_loop h2 kq k (n + 1) H' _ (by omega) (by omega) li (fun z hz => by simp only [List.mem_cons, List.not_mem_nil, or_false] at hz; rcases hz with rfl | rfl | rfl | rfl <;> exact xlk_mem rfl)
      refine sL_law_37 rfl (sL_law_38 rfl (nL_law_39 (Or.inr (by rw [sc.1.1])) (by rw [sc.1.1]; show 1 + 6 * n < len; omega) (by rw [sc.1.1]; show len < 2 ^ 31; omega) ?_))
      refine nL_law_40 (sL_law_42 (sL_law_43 ?_))
      generalize xI H s0 (1 + 6 * n) &&& nI 31 = v
      unfold wL_law_43
      by_cases z0 : v = 0
      · rw [if_pos z0]; exact law_0 hL h1 h2 nx
      rw [if_neg z0]
      by_cases z1 : v = 1
      · rw [if_pos z1]; exact law_1 hL h1 h2 nx
      rw [if_neg z1]
      by_cases z2 : v = 2
      · rw [if_pos z2]; exact law_2 hL h1 h2 nx
      rw [if_neg z2]
      by_cases z3 : v = 3
      · rw [if_pos z3]; exact law_3 hL h1 h2 nx
      rw [if_neg z3]
      by_cases z4 : v = 4
      · rw [if_pos z4]; exact law_4 hL h1 h2 nx
      rw [if_neg z4]
      by_cases z5 : v = 5
      · rw [if_pos z5]; exact law_5 hL h1 h2 nx
      rw [if_neg z5]
      by_cases z6 : v = 6
      · rw [if_pos z6]; exact law_6 hL h1 h2 nx
      rw [if_neg z6]
      by_cases z7 : v = 7
      · rw [if_pos z7]; exact law_7 hL h1 h2 nx
      rw [if_neg z7]
      by_cases z8 : v = 8
      · rw [if_pos z8]; exact law_8 hL h1 h2 nx
      rw [if_neg z8]
      by_cases z9 : v = 9
      · rw [if_pos z9]; exact law_9 hL h1 h2 nx
      rw [if_neg z9]
      by_cases z10 : v = 10
      · rw [if_pos z10]; exact law_10 hL h1 h2 nx
      rw [if_neg z10]
      by_cases z11 : v = 11
      · rw [if_pos z11]; exact law_11 hL h1 h2 nx
      rw [if_neg z11]
      by_cases z12 : v = 12
      · rw [if_pos z12]; exact law_12 hL h1 h2 nx
      rw [if_neg z12]
      by_cases z13 : v = 13
      · rw [if_pos z13]; exact law_13 hL h1 h2 nx
      rw [if_neg z13]
      by_cases z14 : v = 14
      · rw [if_pos z14]; exact law_14 hL h1 h2 nx
      rw [if_neg z14]
      by_cases z15 : v = 15
      · rw [if_pos z15]; exact law_15 hL h1 h2 nx
      rw [if_neg z15]
      by_cases z16 : v = 16
      · rw [if_pos z16]; exact law_16 hL h1 h2 nx
      rw [if_neg z16]
      by_cases z17 : v = 17
      · rw [if_pos z17]; exact law_17 hL h1 h2 nx
      rw [if_neg z17]
      exact nx H (LI_n hL)
end Law
