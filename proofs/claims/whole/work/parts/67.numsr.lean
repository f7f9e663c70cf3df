theorem RT_3 {K K' : Nat → Nat → Int32} {C : Nat → Nat} {m d n lo : Nat} (o : xo3 K K') (hT : RT K C m d n lo) : RT K' C m d n lo :=
  RT_c (by rw [o 0 (by decide) (by decide) (by decide)]) (by rw [o 0 (by decide) (by decide) (by decide)]) (o 4 (by decide) (by decide) (by decide)) (o 11 (by decide) (by decide) (by decide)) hT
theorem z_260 : (10 : Nat) ^ 260 < zB 80 := by rw [zB_80]; decide +kernel
section Nums2
variable {g : xG} {l : Launch} {h : xH} {b : Nat} {K : Nat → Nat → Int32} {N : Nat → Nat} {S : Nat → Vl} {Q : Option Value → xH → Prop} {C : Nat → Nat} {m d n lo : Nat}
theorem c_mulTop {v y o : Nat} {x : Vl} (hS : RS h b) (hX : RX K N (va_up S v x)) (hv : v < 168) (hy : y ≤ 10) (ho : o < 32768) (hs : x.2.1 * y + o < zB 80) (k : ∀ K' N', xo3 K K' → RX K' N' (va_up S v (vN x (x.2.1 * y + o))) → Q none (xB h b K')) : ac g l mX11_multiplySmall [.ref b, .int (nI (2 * v)), .int (nI y), .int (nI o)] (xB h b K) Q := by
  have e1 := (hX.2 v hv).1
  rw [vup_s] at e1
  refine c_multiplySmall hS hX.1 (by omega) hy ho (by rw [e1]; exact hs) (fun K' o1 hN' => ?_)
  have hX' := RX_num hX o1 hN'
  rw [vup_vup, vup_s, e1] at hX'
  exact k K' _ (xo3_1 o1) hX'
theorem c_mulBot {v y o : Nat} {x : Vl} (hS : RS h b) (hX : RX K N (va_up S v x)) (hv : v < 168) (hy : y ≤ 10) (ho : o < 32768) (hs : x.2.2.1 * y + o < zB 80) (k : ∀ K' N', xo3 K K' → RX K' N' (va_up S v (vD x (x.2.2.1 * y + o))) → Q none (xB h b K')) : ac g l mX11_multiplySmall [.ref b, .int (nI (2 * v + 1)), .int (nI y), .int (nI o)] (xB h b K) Q := by
  have e1 := (hX.2 v hv).2.1
  rw [vup_s] at e1
  refine c_multiplySmall hS hX.1 (by omega) hy ho (by rw [e1]; exact hs) (fun K' o1 hN' => ?_)
  have hX' := RX_den hX o1 hN'
  rw [vup_vup, vup_s, e1] at hX'
  exact k K' _ (xo3_1 o1) hX'
theorem c_numberOf {v B a : Nat} (hS : RS h b) (hX : RX K N S) (hT : RT K C m d n lo) (hv : v < 168) (hda : lo + d ≤ a) (h3 : tkK C m a = 3) (hB : K 0 0 = nI B) (hB0 : 16 ≤ B) (hB2 : B ≤ 512) (k : ∀ K' N', xo3 K K' → vPost (nuV B C m a) K' N' S v → Q (some (.int (nI (nuV B C m a).1))) (xB h b K')) : ac g l mX11_numberOf [.ref b, .int (nI v), .int (nI (a - d)), .int (nI (nu3 C m a - d))] (xB h b K) Q := by
  refine ac_of (by decide) (Nat.le_of_ble_eq_true rfl) ?_
  have hC := hT.1
  have hm := hC.1
  obtain ⟨ham, hcd, hd, hx, -⟩ := nt_a h3
  obtain ⟨o1, o2, o3, o4, o5, o6, o7, o8⟩ := nu_ord hC ham hcd
  have hG := nt_G hx
  obtain ⟨hN, hBe⟩ := nt_N hd
  have nQ := nuQ_ge C m a
  have pl : ∀ q, d ≤ q → q - d + d = q := fun q hq => by omega
  -- the tens are known
  have tens : ∀ (K1 : Nat → Nat → Int32) (N1 : Nat → Nat) (lv0 : List (Nat × Value)), xo3 K K1 → RX K1 N1 (va_up S v (1, nuN C m a, 1, fun _ => 0)) → (∀ z ∈ ([(0, .ref b), (1, .int (nI v)), (9, .int (if nuL C m a = 0 then nI (nuU C m a) else -nI (nuL C m a)))] : List (Nat × Value)), z ∈ lv0) → aw g l mX11_numberOf 190 lv0 [] (xB h b K1) Q := by
    intro K1 N1 lv0 r1 x1 hlv
    refine aw_lv hlv ?_
    have hU : nuU C m a ≤ 999 := by unfold nuU; split <;> omega
    have hL : nuL C m a ≤ 1060 := by unfold nuL; split <;> omega
    have hUL : nuL C m a ≠ 0 → nuU C m a = 0 := fun zL => by
      unfold nuU nuL at *
      split at zL <;> rename_i y
      · rw [if_pos y]
      · rw [if_neg y]; omega
    have bits : ∀ K2 : Nat → Nat → Int32, xo3 K K2 → K2 0 0 = nI B := fun K2 o => by rw [o 0 (by decide) (by decide) (by decide)]; exact hB
    refine sX11_numberOf_190 rfl ?_
    refine nX11_numberOf_191 ?_
    refine sX11_numberOf_192 rfl ?_
    refine nX11_numberOf_193 ?_
    refine tX11_numberOf_194 hS (Nat.le_of_ble_eq_true rfl) ?_
    have ev : N1 (2 * v) = nuN C m a := by rw [(x1.2 v hv).1, vup_s]
    refine c_isZero hS x1.1 (by omega) (fun z => ?_) (fun z => ?_)
    · rw [ev] at z
      refine sX11_numberOf_197 (fun w => absurd w (by decide)) (fun _ => ?_)
      have en : nuR C m a = (0, 0, 10 ^ nuL C m a, fun _ => 0) := by unfold nuR; rw [if_pos z, z, Nat.zero_mul]
      have ev : nuV B C m a = (0, (0, 0, 1, fun _ => 0)) := by
        unfold nuV
        rw [en]
        have : vRed ((0 : Int32), 0, 10 ^ nuL C m a, fun _ => (0 : Int32)) = (0, 0, 1, fun _ => 0) := by unfold vRed; rw [if_pos rfl]
        rw [this]
        refine vFin_0 ?_
        have : 2 ^ 16 ≤ 2 ^ B := Nat.pow_le_pow_right (by decide) hB0
        rintro (y | y)
        · have : 2 ^ B ≤ 0 := y; omega
        · have : 2 ^ B ≤ 1 := y; omega
      refine sX11_numberOf_200 rfl ?_
      refine tX11_numberOf_201 hS ?_
      refine sX11_numberOf_204 rfl ?_
      refine nX11_numberOf_205 ?_
      refine tX11_numberOf_206 hS (by decide) (by decide) rfl (by simp only [rl]; omega) ?_
      refine nX11_numberOf_207 ?_
      have x2 := RX_sgn (v := v) (s := nI 0) x1
      rw [vup_vup, vup_s, z] at x2
      rw [ev] at k
      exact sX11_numberOf_208 (k _ _ (xo3_tr r1 (xo3_up (by decide))) ⟨⟨_, x2⟩, fun _ => x2⟩)
    · rw [ev] at z
      refine sX11_numberOf_197 (fun _ => ?_) (fun w => absurd rfl w)
      have nz : 0 < nuN C m a := by omega
      have er : vRed (nuR C m a) = (1, nuN C m a * 10 ^ nuU C m a / Nat.gcd (nuN C m a * 10 ^ nuU C m a) (10 ^ nuL C m a), 10 ^ nuL C m a / Nat.gcd (nuN C m a * 10 ^ nuU C m a) (10 ^ nuL C m a), fun _ => 0) := by
        have : nuR C m a = (1, nuN C m a * 10 ^ nuU C m a, 10 ^ nuL C m a, fun _ => 0) := by unfold nuR; rw [if_neg z]
        rw [this]
        unfold vRed
        rw [if_neg (show ¬ nuN C m a * 10 ^ nuU C m a = 0 from fun w => by have : 0 < nuN C m a * 10 ^ nuU C m a := Nat.mul_pos nz (Nat.pow_pos (by decide)); omega)]
      have large : vBig B (vRed (nuR C m a)) → aw g l mX11_numberOf 225 [(0, .ref b), (1, .int (nI v)), (9, .int (if nuL C m a = 0 then nI (nuU C m a) else -nI (nuL C m a)))] [] (xB h b K1) Q := fun w => by
        have ev : nuV B C m a = (9, vRed (nuR C m a)) := vFin_1 w
        rw [ev] at k
        refine nX11_numberOf_225 ?_
        exact sX11_numberOf_227 (k _ _ r1 ⟨⟨_, x1⟩, fun y => absurd y (show (9 : Nat) ≠ 0 by decide)⟩)
      -- the end
      have fin : ∀ (K2 : Nat → Nat → Int32) (N2 : Nat → Nat) (lv1 : List (Nat × Value)), xo3 K K2 → RX K2 N2 (va_up S v (1, nuN C m a * 10 ^ nuU C m a, 10 ^ nuL C m a, fun _ => 0)) → nuL C m a ≤ 260 → (∀ z ∈ ([(0, .ref b), (1, .int (nI v))] : List (Nat × Value)), z ∈ lv1) → aw g l mX11_numberOf 282 lv1 [] (xB h b K2) Q := by
        intro K2 N2 lv1 r2 x2 hL2 hlv1
        refine aw_lv hlv1 ?_
        have hq : nuR C m a = (1, nuN C m a * 10 ^ nuU C m a, 10 ^ nuL C m a, fun _ => 0) := by unfold nuR; rw [if_neg z]
        rw [← hq] at x2
        refine sX11_numberOf_282 rfl ?_
        refine sX11_numberOf_283 rfl ?_
        refine tX11_numberOf_284 hS (Nat.le_of_ble_eq_true rfl) ?_
        refine c_reduce hS x2 hv ?_ ?_ (fun K3 N3 r3 x3 => ?_)
        · rw [vup_s]; show 0 < 10 ^ nuL C m a; exact Nat.pow_pos (by decide)
        · rw [vup_s]; show 2 * 10 ^ nuL C m a ≤ zB 80
          exact Nat.le_trans (Nat.mul_le_mul_left 2 (Nat.pow_le_pow_right (by decide) hL2)) z_tens.2.1
        rw [vup_vup, vup_s] at x3
        refine sX11_numberOf_287 rfl ?_
        refine sX11_numberOf_288 rfl ?_
        refine tX11_numberOf_289 hS (Nat.le_of_ble_eq_true rfl) ?_
        refine c_isLarge hS x3 hv (bits K3 (xo3_tr r2 r3)) hB2 (fun w => ?_) (fun w => ?_)
        · rw [vup_s] at w
          have ev : nuV B C m a = (9, vRed (nuR C m a)) := vFin_1 w
          rw [ev] at k
          refine sX11_numberOf_292 (fun y => absurd y (by decide)) (fun _ => ?_)
          refine nX11_numberOf_295 ?_
          refine sX11_numberOf_297 ?_
          exact sX11_numberOf_301 (k _ _ (xo3_tr r2 r3) ⟨⟨_, x3⟩, fun y => absurd y (show (9 : Nat) ≠ 0 by decide)⟩)
        · rw [vup_s] at w
          have ev : nuV B C m a = (0, vRed (nuR C m a)) := vFin_0 w
          rw [ev] at k
          refine sX11_numberOf_292 (fun _ => ?_) (fun y => absurd rfl y)
          refine nX11_numberOf_300 ?_
          exact sX11_numberOf_301 (k _ _ (xo3_tr r2 r3) ⟨⟨_, x3⟩, fun _ => x3⟩)
      by_cases zL : nuL C m a = 0
      · rw [if_pos zL] at large ⊢
        have eg : vRed (nuR C m a) = (1, nuN C m a * 10 ^ nuU C m a, 1, fun _ => 0) := by rw [er, zL, Nat.pow_zero, Nat.gcd_one_right, Nat.div_one, Nat.div_one]
        refine sX11_numberOf_209 rfl ?_
        refine nX11_numberOf_211 ?_
        refine nX11_numberOf_214 (by omega) (by omega) (fun y => large ?_) (fun y => ?_)
        · rw [eg]
          refine Or.inl ?_
          show 2 ^ B ≤ nuN C m a * 10 ^ nuU C m a
          refine Nat.le_trans (Nat.pow_le_pow_right (by decide) hB2) (Nat.le_trans z_tens.2.2.1 (Nat.le_trans (Nat.pow_le_pow_right (by decide) (show 161 ≤ nuU C m a by omega)) ?_))
          exact Nat.le_mul_of_pos_left _ nz
        refine sX11_numberOf_217 rfl ?_
        refine sX11_numberOf_219 ?_
        refine sX11_numberOf_222 (fun _ => ?_) (fun w => absurd (show (-260 : Int32) ≤ nI (nuU C m a) by rw [Int32.le_iff_toInt_le, nI_toInt (by omega)]; show (-260 : Int) ≤ _; omega) w)
        refine nX11_numberOf_228 ?_
        refine sX11_numberOf_229 ?_
        suffices H : ∀ f i (K2 : Nat → Nat → Int32) (N2 : Nat → Nat) (lv1 : List (Nat × Value)), i + f = nuU C m a → xo3 K K2 → RX K2 N2 (va_up S v (1, nuN C m a * 10 ^ i, 1, fun _ => 0)) → (∀ z ∈ ([(0, .ref b), (1, .int (nI v)), (9, .int (nI (nuU C m a))), (10, .int (nI i))] : List (Nat × Value)), z ∈ lv1) → aw g l mX11_numberOf 231 lv1 [] (xB h b K2) Q from H (nuU C m a) 0 K1 N1 _ (by omega) r1 (by rw [Nat.pow_zero, Nat.mul_one]; exact x1) (fun z hz => by simp only [List.mem_cons, List.not_mem_nil, or_false] at hz; rcases hz with rfl | rfl | rfl | rfl <;> exact xlk_mem rfl)
        intro f
        induction f with
        | zero =>
          intro i K2 N2 lv1 hi r2 x2 hlv1
          refine aw_lv hlv1 ?_
          refine sX11_numberOf_231 rfl ?_
          refine sX11_numberOf_233 rfl ?_
          refine nX11_numberOf_235 (by omega) (by omega) (fun _ => ?_) (fun w => absurd w (by omega))
          refine nX11_numberOf_254 ?_
          refine sX11_numberOf_255 ?_
          refine sX11_numberOf_257 rfl ?_
          refine sX11_numberOf_259 rfl ?_
          refine nX11_numberOf_261 (by omega) (by omega) (fun _ => ?_) (fun w => absurd w (by omega))
          refine fin K2 N2 _ r2 ?_ (by omega) (fun z hz => by simp only [List.mem_cons, List.not_mem_nil, or_false] at hz; rcases hz with rfl | rfl <;> exact xlk_mem rfl)
          rw [zL, Nat.pow_zero, ← hi, Nat.add_zero]
          exact x2
        | succ f ih =>
          intro i K2 N2 lv1 hi r2 x2 hlv1
          refine aw_lv hlv1 ?_
          refine sX11_numberOf_231 rfl ?_
          refine sX11_numberOf_233 rfl ?_
          refine nX11_numberOf_235 (by omega) (by omega) (fun w => absurd w (by omega)) (fun _ => ?_)
          refine sX11_numberOf_238 rfl ?_
          refine nX11_numberOf_239 ?_
          refine sX11_numberOf_240 rfl ?_
          refine nX11_numberOf_241 ?_
          refine nX11_numberOf_242 ?_
          refine nX11_numberOf_244 ?_
          refine tX11_numberOf_245 hS (Nat.le_of_ble_eq_true rfl) ?_
          refine c_mulTop hS x2 hv (by decide) (by decide) ?_ (fun K3 N3 r3 x3 => ?_)
          · show nuN C m a * 10 ^ i * 10 + 0 < zB 80
            rw [Nat.add_zero, Nat.mul_assoc, ← Nat.pow_succ]
            exact Nat.lt_of_le_of_lt (Nat.mul_le_mul (Nat.le_of_lt hN) (Nat.pow_le_pow_right (by decide) (by omega))) z_tens.1
          refine nX11_numberOf_248 rfl ?_
          refine sX11_numberOf_251 ?_
          refine ih (i + 1) K3 N3 _ (by omega) (xo3_tr r2 r3) ?_ (fun z hz => by simp only [List.mem_cons, List.not_mem_nil, or_false] at hz; rcases hz with rfl | rfl | rfl | rfl <;> exact xlk_mem rfl)
          have e : vN ((1 : Int32), nuN C m a * 10 ^ i, 1, fun _ => (0 : Int32)) (nuN C m a * 10 ^ i * 10 + 0) = (1, nuN C m a * 10 ^ (i + 1), 1, fun _ => 0) := by
            unfold vN; rw [Nat.add_zero, Nat.mul_assoc, ← Nat.pow_succ]
          rw [← e]
          exact x3
      · rw [if_neg zL] at large ⊢
        have eU := hUL zL
        have tI := nI_negT (show nuL C m a < 2 ^ 31 by omega)
        refine sX11_numberOf_209 rfl ?_
        refine sX11_numberOf_211 ?_
        refine sX11_numberOf_214 (fun w => absurd w ?_) (fun _ => ?_)
        · rw [Int32.lt_iff_toInt_lt, tI]; show ¬ (160 : Int) < _; omega
        refine sX11_numberOf_217 rfl ?_
        refine sX11_numberOf_219 ?_
        refine sX11_numberOf_222 (fun w => ?_) (fun w => large ?_)
        · have hL2 : nuL C m a ≤ 260 := by
            rw [Int32.le_iff_toInt_le, tI] at w
            have : (-260 : Int) ≤ -(nuL C m a : Int) := w
            omega
          refine sX11_numberOf_228 ?_
          refine sX11_numberOf_229 ?_
          refine sX11_numberOf_231 rfl ?_
          refine sX11_numberOf_233 rfl ?_
          refine sX11_numberOf_235 (fun _ => ?_) (fun y => absurd (show -nI (nuL C m a) ≤ (0 : Int32) by rw [Int32.le_iff_toInt_le, tI]; show _ ≤ (0 : Int); omega) y)
          refine nX11_numberOf_254 ?_
          refine sX11_numberOf_255 ?_
          suffices H : ∀ f i (K2 : Nat → Nat → Int32) (N2 : Nat → Nat) (lv1 : List (Nat × Value)), i + f = nuL C m a → xo3 K K2 → RX K2 N2 (va_up S v (1, nuN C m a, 10 ^ i, fun _ => 0)) → (∀ z ∈ ([(0, .ref b), (1, .int (nI v)), (9, .int (-nI (nuL C m a))), (10, .int (-nI i))] : List (Nat × Value)), z ∈ lv1) → aw g l mX11_numberOf 257 lv1 [] (xB h b K2) Q from H (nuL C m a) 0 K1 N1 _ (by omega) r1 (by rw [Nat.pow_zero]; exact x1) (fun z hz => by simp only [List.mem_cons, List.not_mem_nil, or_false] at hz; rcases hz with rfl | rfl | rfl | rfl <;> exact xlk_mem rfl)
          intro f
          induction f with
          | zero =>
            intro i K2 N2 lv1 hi r2 x2 hlv1
            refine aw_lv hlv1 ?_
            refine sX11_numberOf_257 rfl ?_
            refine sX11_numberOf_259 rfl ?_
            refine sX11_numberOf_261 (fun _ => ?_) (fun y => absurd (show -nI i ≤ -nI (nuL C m a) by rw [show i = nuL C m a by omega]; exact Int32.le_refl _) y)
            refine fin K2 N2 _ r2 ?_ hL2 (fun z hz => by simp only [List.mem_cons, List.not_mem_nil, or_false] at hz; rcases hz with rfl | rfl <;> exact xlk_mem rfl)
            rw [eU, Nat.pow_zero, Nat.mul_one, ← hi, Nat.add_zero]
            exact x2
          | succ f ih =>
            intro i K2 N2 lv1 hi r2 x2 hlv1
            refine aw_lv hlv1 ?_
            refine sX11_numberOf_257 rfl ?_
            refine sX11_numberOf_259 rfl ?_
            refine sX11_numberOf_261 (fun y => absurd y ?_) (fun _ => ?_)
            · rw [Int32.le_iff_toInt_le, tI, nI_negT (by omega)]; omega
            refine sX11_numberOf_264 rfl ?_
            refine nX11_numberOf_265 ?_
            refine sX11_numberOf_266 rfl ?_
            refine nX11_numberOf_267 ?_
            refine nX11_numberOf_268 ?_
            refine nX11_numberOf_269 ?_
            refine nX11_numberOf_270 ?_
            refine nX11_numberOf_272 ?_
            refine tX11_numberOf_273 hS (Nat.le_of_ble_eq_true rfl) ?_
            refine c_mulBot hS x2 hv (by decide) (by decide) ?_ (fun K3 N3 r3 x3 => ?_)
            · show 10 ^ i * 10 + 0 < zB 80
              rw [Nat.add_zero, ← Nat.pow_succ]
              exact Nat.lt_of_le_of_lt (Nat.pow_le_pow_right (by decide) (show i + 1 ≤ 260 by omega)) z_260
            refine sX11_numberOf_276 rfl ?_
            refine sX11_numberOf_279 ?_
            refine ih (i + 1) K3 N3 _ (by omega) (xo3_tr r2 r3) ?_ ?_
            · have e : vD ((1 : Int32), nuN C m a, 10 ^ i, fun _ => (0 : Int32)) (10 ^ i * 10 + 0) = (1, nuN C m a, 10 ^ (i + 1), fun _ => 0) := by
                unfold vD; rw [Nat.add_zero, ← Nat.pow_succ]
              rw [← e]
              exact x3
            · rw [show -nI (i + 1) = -nI i + (-1) by
                apply Int32.toInt_inj.mp
                rw [Int32.toInt_add, nI_negT (by omega), nI_negT (by omega)]
                show _ = (-(i : Int) + -1).bmod (2 ^ 32)
                refine ((Int.bmod_eq_of_le ?_ ?_).trans ?_).symm <;> omega]
              exact (fun z hz => by simp only [List.mem_cons, List.not_mem_nil, or_false] at hz; rcases hz with rfl | rfl | rfl | rfl <;> exact xlk_mem rfl)
        · have w' : 260 < nuL C m a := by
            rw [Int32.le_iff_toInt_le, tI] at w
            have : ¬ (-260 : Int) ≤ -(nuL C m a : Int) := w
            omega
          rw [er, eU, Nat.pow_zero, Nat.mul_one]
          refine Or.inr ?_
          show 2 ^ B ≤ 10 ^ nuL C m a / Nat.gcd (nuN C m a) (10 ^ nuL C m a)
          have g1 : Nat.gcd (nuN C m a) (10 ^ nuL C m a) ≤ nuN C m a := Nat.gcd_le_left _ nz
          have g0 : 0 < Nat.gcd (nuN C m a) (10 ^ nuL C m a) := Nat.gcd_pos_of_pos_left _ nz
          rw [Nat.le_div_iff_mul_le g0]
          refine Nat.le_trans (Nat.mul_le_mul (Nat.pow_le_pow_right (by decide) hB2) (Nat.le_trans g1 (Nat.le_of_lt hN))) (Nat.le_trans z_tens.2.2.2 (Nat.pow_le_pow_right (by decide) (by omega)))
  -- the exponent
  have tail : ∀ (K1 : Nat → Nat → Int32) (N1 : Nat → Nat) (lv0 : List (Nat × Value)), xo3 K K1 → RX K1 N1 (va_up S v (1, nuN C m a, 1, fun _ => 0)) → (∀ z ∈ ([(0, .ref b), (1, .int (nI v)), (3, .int (nI (nu3 C m a - d))), (4, .int (nI (nu2 C m a - d))), (5, .int (nI (nuB C m a)))] : List (Nat × Value)), z ∈ lv0) → aw g l mX11_numberOf 94 lv0 [] (xB h b K1) Q := by
    intro K1 N1 lv0 r1 x1 hlv
    refine aw_lv hlv ?_
    have hT1 := RT_3 r1 hT
    have last : ∀ lv1 : List (Nat × Value), (∀ z ∈ ([(0, .ref b), (1, .int (nI v)), (5, .int (nI (nuB C m a))), (7, .int (nI (nuG C m a))), (8, .int (if nuM C m a = true then 1 else 0))] : List (Nat × Value)), z ∈ lv1) → aw g l mX11_numberOf 172 lv1 [] (xB h b K1) Q := by
      intro lv1 hlv1
      refine aw_lv hlv1 ?_
      have ex := nt_x hG hBe (show nuU C m a = _ from rfl) (show nuL C m a = _ from rfl)
      refine sX11_numberOf_172 rfl ?_
      by_cases y : nuM C m a = true
      · rw [if_pos y] at ex ⊢
        refine sX11_numberOf_174 (fun w => absurd w (by decide)) (fun _ => ?_)
        refine sX11_numberOf_177 rfl ?_
        refine sX11_numberOf_179 ?_
        refine sX11_numberOf_180 ?_
        refine sX11_numberOf_185 rfl ?_
        refine sX11_numberOf_187 ?_
        rw [ex]
        refine sX11_numberOf_188 ?_
        exact tens K1 N1 _ r1 x1 (fun z hz => by simp only [List.mem_cons, List.not_mem_nil, or_false] at hz; rcases hz with rfl | rfl | rfl <;> exact xlk_mem rfl)
      · rw [if_neg y] at ex ⊢
        refine sX11_numberOf_174 (fun _ => ?_) (fun w => absurd rfl w)
        refine sX11_numberOf_183 rfl ?_
        refine sX11_numberOf_185 rfl ?_
        refine sX11_numberOf_187 ?_
        rw [ex]
        refine sX11_numberOf_188 ?_
        exact tens K1 N1 _ r1 x1 (fun z hz => by simp only [List.mem_cons, List.not_mem_nil, or_false] at hz; rcases hz with rfl | rfl | rfl <;> exact xlk_mem rfl)
    by_cases hE : nuE C m a = true
    · have q3 := o5 hE
      have hy := nuE_iff.mp hE
      have q3' : nuQ C m a < nu3 C m a := by
        unfold nu3; rw [if_pos hE]; exact rnd_gt (cD_lt hC hy.2) hy.2
      have dig : ∀ f p lv0, p + f = nu3 C m a → nuQ C m a ≤ p → (∀ z ∈ ([(0, .ref b), (1, .int (nI v)), (3, .int (nI (nu3 C m a - d))), (5, .int (nI (nuB C m a))), (7, .int (nI (dv C 0 (nuQ C m a) (p - nuQ C m a)))), (8, .int (if nuM C m a = true then 1 else 0)), (9, .int (nI (p - d)))] : List (Nat × Value)), z ∈ lv0) → aw g l mX11_numberOf 131 lv0 [] (xB h b K1) Q := by
        intro f
        induction f with
        | zero =>
          intro p lv0 hp hq hlv
          refine aw_lv hlv ?_
          refine sX11_numberOf_131 rfl ?_
          refine sX11_numberOf_133 rfl ?_
          refine nX11_numberOf_134 (by omega) (by omega) (fun _ => ?_) (fun z => absurd z (by omega))
          refine last _ ?_
          have : nuG C m a = dv C 0 (nuQ C m a) (p - nuQ C m a) := by unfold nuG; rw [if_pos hE, show nu3 C m a = p by omega]
          rw [this]
          exact (fun z hz => by simp only [List.mem_cons, List.not_mem_nil, or_false] at hz; rcases hz with rfl | rfl | rfl | rfl | rfl <;> exact xlk_mem rfl)
        | succ f ih =>
          intro p lv0 hp hq hlv
          refine aw_lv hlv ?_
          have hcd' := nt_3 hE hq (by omega)
          obtain ⟨s1, s2, s3⟩ := cD_sb hcd'
          have lt := dv_lt (C := C) (N := 0) (p := nuQ C m a) (j := 0) (by decide) (p - nuQ C m a) (fun i h1 h2 => nt_3 hE h1 (by omega))
          have lt3 : 10 ^ (0 + (p - nuQ C m a)) ≤ 10 ^ 3 := Nat.pow_le_pow_right (by decide) (by unfold nuX at hx; rw [if_pos hE] at hx; omega)
          refine sX11_numberOf_131 rfl ?_
          refine sX11_numberOf_133 rfl ?_
          refine nX11_numberOf_134 (by omega) (by omega) (fun z => absurd z (by omega)) (fun _ => ?_)
          refine sX11_numberOf_137 rfl ?_
          refine sX11_numberOf_138 rfl ?_
          refine tX11_numberOf_140 hS (Nat.le_of_ble_eq_true rfl) ?_
          refine c_at hS hT1 (by omega) (by omega) ?_
          rw [pl p (by omega)]
          refine sX11_numberOf_143 (Nat.le_of_ble_eq_true rfl) ?_
          refine c_isDigit11 (hC.2.2 _) (fun _ => ?_) (fun w => by rw [hcd'] at w; cases w)
          refine sX11_numberOf_146 (fun w => absurd w (by decide)) (fun _ => ?_)
          refine nX11_numberOf_149 ?_
          refine sX11_numberOf_151 rfl ?_
          refine nX11_numberOf_153 ?_
          refine sX11_numberOf_154 rfl ?_
          refine sX11_numberOf_155 rfl ?_
          refine tX11_numberOf_157 hS (Nat.le_of_ble_eq_true rfl) ?_
          refine c_at hS hT1 (by omega) (by omega) ?_
          rw [pl p (by omega)]
          refine nX11_numberOf_160 ?_
          refine nX11_numberOf_161 ?_
          refine nX11_numberOf_163 (by omega) ?_
          refine sX11_numberOf_164 ?_
          refine nX11_numberOf_166 rfl ?_
          refine sX11_numberOf_169 ?_
          refine ih (p + 1) _ (by omega) (by omega) ?_
          have : dv C 0 (nuQ C m a) (p + 1 - nuQ C m a) = 10 * dv C 0 (nuQ C m a) (p - nuQ C m a) + C p - 48 := by
            rw [show p + 1 - nuQ C m a = p - nuQ C m a + 1 by omega]
            show dv C 0 (nuQ C m a) (p - nuQ C m a) * 10 + (C (nuQ C m a + (p - nuQ C m a)) - 48) = _
            rw [show nuQ C m a + (p - nuQ C m a) = p by omega]
            omega
          rw [this, show p + 1 - d = p - d + 1 by omega]
          exact (fun z hz => by simp only [List.mem_cons, List.not_mem_nil, or_false] at hz; rcases hz with rfl | rfl | rfl | rfl | rfl | rfl | rfl <;> exact xlk_mem rfl)
      have start : ∀ lv0 : List (Nat × Value), (∀ z ∈ ([(0, .ref b), (1, .int (nI v)), (3, .int (nI (nu3 C m a - d))), (5, .int (nI (nuB C m a))), (7, .int (nI 0)), (8, .int (if nuM C m a = true then 1 else 0)), (9, .int (nI (nu2 C m a + 1 - d)))] : List (Nat × Value)), z ∈ lv0) → aw g l mX11_numberOf 131 lv0 [] (xB h b K1) Q := by
        intro lv0 hlv
        by_cases eQ : nuQ C m a = nu2 C m a + 1
        · exact dig (nu3 C m a - nuQ C m a) (nuQ C m a) lv0 (by omega) (Nat.le_refl _) (by rw [Nat.sub_self, eQ]; exact hlv)
        · refine aw_lv hlv ?_
          have sg : C (nu2 C m a + 1) = 43 ∨ C (nu2 C m a + 1) = 45 := by
            unfold nuQ at eQ
            split at eQ
            · assumption
            · exact absurd rfl eQ
          have nd : cD (C (nu2 C m a + 1)) = false := by rcases sg with z | z <;> rw [z] <;> decide
          refine sX11_numberOf_131 rfl ?_
          refine sX11_numberOf_133 rfl ?_
          refine nX11_numberOf_134 (by omega) (by omega) (fun z => absurd z (by omega)) (fun _ => ?_)
          refine sX11_numberOf_137 rfl ?_
          refine sX11_numberOf_138 rfl ?_
          refine tX11_numberOf_140 hS (Nat.le_of_ble_eq_true rfl) ?_
          refine c_at hS hT1 (by omega) (by omega) ?_
          rw [pl _ (by omega)]
          refine sX11_numberOf_143 (Nat.le_of_ble_eq_true rfl) ?_
          refine c_isDigit11 (hC.2.2 _) (fun w => by rw [nd] at w; cases w) (fun _ => ?_)
          refine sX11_numberOf_146 (fun _ => ?_) (fun w => absurd rfl w)
          refine nX11_numberOf_166 rfl ?_
          refine sX11_numberOf_169 ?_
          refine dig (nu3 C m a - nuQ C m a) (nuQ C m a) _ (by omega) (Nat.le_refl _) ?_
          rw [Nat.sub_self, show nuQ C m a - d = nu2 C m a + 1 - d + 1 by omega]
          exact (fun z hz => by simp only [List.mem_cons, List.not_mem_nil, or_false] at hz; rcases hz with rfl | rfl | rfl | rfl | rfl | rfl | rfl <;> exact xlk_mem rfl)
      have c1 := hC.2.2 (nu2 C m a + 1)
      have e1 : nu2 C m a - d + 1 = nu2 C m a + 1 - d := by omega
      refine nX11_numberOf_94 ?_
      refine sX11_numberOf_95 ?_
      refine sX11_numberOf_97 rfl ?_
      refine nX11_numberOf_99 ?_
      refine nX11_numberOf_100 ?_
      refine sX11_numberOf_101 rfl ?_
      refine nX11_numberOf_102 (by omega) (by omega) (fun z => absurd z (by omega)) (fun _ => ?_)
      refine sX11_numberOf_105 rfl ?_
      refine sX11_numberOf_106 rfl ?_
      refine nX11_numberOf_108 ?_
      refine nX11_numberOf_109 ?_
      refine tX11_numberOf_110 hS (Nat.le_of_ble_eq_true rfl) ?_
      refine c_at hS hT1 (by omega) (by omega) ?_
      rw [show nu2 C m a - d + 1 + d = nu2 C m a + 1 by omega]
      refine nX11_numberOf_113 ?_
      refine nX11_numberOf_115 (by omega) (by omega) (fun z => ?_) (fun z => ?_)
      · have eM : nuM C m a = false := bF nuM_iff (fun w => z w.2)
        rw [if_neg (show ¬ nuM C m a = true by rw [eM]; decide)] at start
        refine sX11_numberOf_122 ?_
        refine sX11_numberOf_123 ?_
        refine sX11_numberOf_125 rfl ?_
        refine nX11_numberOf_127 ?_
        refine nX11_numberOf_128 ?_
        refine sX11_numberOf_129 ?_
        rw [e1]
        exact start _ (fun z hz => by simp only [List.mem_cons, List.not_mem_nil, or_false] at hz; rcases hz with rfl | rfl | rfl | rfl | rfl | rfl | rfl <;> exact xlk_mem rfl)
      · have eM : nuM C m a = true := nuM_iff.mpr ⟨hE, z⟩
        rw [if_pos eM] at start
        refine sX11_numberOf_118 ?_
        refine sX11_numberOf_119 ?_
        refine sX11_numberOf_123 ?_
        refine sX11_numberOf_125 rfl ?_
        refine nX11_numberOf_127 ?_
        refine nX11_numberOf_128 ?_
        refine sX11_numberOf_129 ?_
        rw [e1]
        exact start _ (fun z hz => by simp only [List.mem_cons, List.not_mem_nil, or_false] at hz; rcases hz with rfl | rfl | rfl | rfl | rfl | rfl | rfl <;> exact xlk_mem rfl)
    · have hE' : nuE C m a = false := by simpa using hE
      have e3 := o7 hE'
      have eM : nuM C m a = false := bF nuM_iff (fun w => hE w.1)
      have eG : nuG C m a = 0 := by unfold nuG; rw [if_neg hE]
      refine nX11_numberOf_94 ?_
      refine sX11_numberOf_95 ?_
      refine sX11_numberOf_97 rfl ?_
      refine nX11_numberOf_99 ?_
      refine nX11_numberOf_100 ?_
      refine sX11_numberOf_101 rfl ?_
      refine nX11_numberOf_102 (by omega) (by omega) (fun _ => ?_) (fun z => absurd z (by omega))
      refine sX11_numberOf_122 ?_
      refine sX11_numberOf_123 ?_
      refine sX11_numberOf_125 rfl ?_
      refine nX11_numberOf_127 ?_
      refine nX11_numberOf_128 ?_
      refine sX11_numberOf_129 ?_
      refine sX11_numberOf_131 rfl ?_
      refine sX11_numberOf_133 rfl ?_
      refine nX11_numberOf_134 (by omega) (by omega) (fun _ => ?_) (fun z => absurd z (by omega))
      refine last _ ?_
      rw [eG, if_neg (show ¬ nuM C m a = true by rw [eM]; decide)]
      exact (fun z hz => by simp only [List.mem_cons, List.not_mem_nil, or_false] at hz; rcases hz with rfl | rfl | rfl | rfl | rfl <;> exact xlk_mem rfl)
  -- some digits
  have ph : ∀ (f p M be pt j : Nat) (K1 : Nat → Nat → Int32) (N1 : Nat → Nat) (lv0 : List (Nat × Value)), (pt = 0 ∨ pt = 1) → a ≤ p → p + f ≤ nu3 C m a → (∀ i, p ≤ i → i < p + f → cD (C i) = true) → M < 10 ^ j → j + f ≤ 60 → be ≤ j → xo3 K K1 → RX K1 N1 (va_up S v (1, M, 1, fun _ => 0)) → (∀ z ∈ ([(0, .ref b), (1, .int (nI v)), (3, .int (nI (nu3 C m a - d))), (4, .int (nI (p - d))), (5, .int (nI be)), (6, .int (nI pt))] : List (Nat × Value)), z ∈ lv0) → (∀ (K2 : Nat → Nat → Int32) (N2 : Nat → Nat) (lv2 : List (Nat × Value)), xo3 K K2 → RX K2 N2 (va_up S v (1, dv C M p f, 1, fun _ => 0)) → (∀ z ∈ ([(0, .ref b), (1, .int (nI v)), (3, .int (nI (nu3 C m a - d))), (4, .int (nI (p + f - d))), (5, .int (nI (be + f * pt))), (6, .int (nI pt))] : List (Nat × Value)), z ∈ lv2) → aw g l mX11_numberOf 21 lv2 [] (xB h b K2) Q) → aw g l mX11_numberOf 21 lv0 [] (xB h b K1) Q := by
    intro f
    induction f with
    | zero =>
      intro p M be pt j K1 N1 lv0 _ _ _ _ _ _ _ r1 v1 hlv kk
      exact kk K1 N1 lv0 r1 v1 (by rw [Nat.zero_mul]; exact hlv)
    | succ f ih =>
      intro p M be pt j K1 N1 lv0 hpt hap hpf hdg hNj hjf hbj r1 v1 hlv kk
      refine aw_lv hlv ?_
      obtain ⟨s1, s2, s3⟩ := cD_sb (hdg p (Nat.le_refl _) (by omega))
      have hjj : 10 ^ (j + 1) ≤ 10 ^ 60 := Nat.pow_le_pow_right (by decide) (by omega)
      have hj1 : 10 ^ (j + 1) = 10 ^ j * 10 := Nat.pow_succ ..
      have hT1 := RT_3 r1 hT
      refine sX11_numberOf_21 rfl ?_
      refine sX11_numberOf_23 rfl ?_
      refine nX11_numberOf_24 (by omega) (by omega) (fun z => absurd z (by omega)) (fun _ => ?_)
      refine sX11_numberOf_27 rfl ?_
      refine sX11_numberOf_28 rfl ?_
      refine tX11_numberOf_30 hS (Nat.le_of_ble_eq_true rfl) ?_
      refine c_at hS hT1 (by omega) (by omega) ?_
      rw [pl p (by omega)]
      refine nX11_numberOf_33 ?_
      refine nX11_numberOf_35 (by omega) (by omega) (fun z => absurd z (by omega)) (fun _ => ?_)
      refine sX11_numberOf_38 rfl ?_
      refine sX11_numberOf_39 rfl ?_
      refine tX11_numberOf_41 hS (Nat.le_of_ble_eq_true rfl) ?_
      refine c_at hS hT1 (by omega) (by omega) ?_
      rw [pl p (by omega)]
      refine nX11_numberOf_44 ?_
      refine nX11_numberOf_46 (by omega) (by omega) (fun _ => ?_) (fun z => absurd z (by omega))
      refine sX11_numberOf_55 rfl ?_
      refine nX11_numberOf_56 ?_
      refine sX11_numberOf_57 rfl ?_
      refine nX11_numberOf_58 ?_
      refine nX11_numberOf_59 ?_
      refine sX11_numberOf_61 rfl ?_
      refine sX11_numberOf_62 rfl ?_
      refine tX11_numberOf_64 hS (Nat.le_of_ble_eq_true rfl) ?_
      refine c_at hS hT1 (by omega) (by omega) ?_
      rw [pl p (by omega)]
      refine nX11_numberOf_67 ?_
      refine nX11_numberOf_69 (by omega) ?_
      refine tX11_numberOf_70 hS (Nat.le_of_ble_eq_true rfl) ?_
      refine c_mulTop hS v1 hv (by decide) (by omega) (Nat.lt_of_le_of_lt (show M * 10 + (C p - 48) ≤ 10 ^ 60 by omega) (Nat.lt_of_le_of_lt (by decide +kernel) z_tens.1)) (fun K2 N2 r2 v2 => ?_)
      have kk' : ∀ lv2 : List (Nat × Value), (∀ z ∈ ([(0, .ref b), (1, .int (nI v)), (3, .int (nI (nu3 C m a - d))), (4, .int (nI (p - d + 1))), (5, .int (nI (be + pt))), (6, .int (nI pt))] : List (Nat × Value)), z ∈ lv2) → aw g l mX11_numberOf 21 lv2 [] (xB h b K2) Q := fun lv2 hlv2 => by
        rw [show p - d + 1 = p + 1 - d by omega] at hlv2
        refine ih (p + 1) (M * 10 + (C p - 48)) (be + pt) pt (j + 1) K2 N2 lv2 hpt (by omega) (by omega) (fun i y1 y2 => hdg i (by omega) (by omega)) (by omega) (by omega) (by omega) (xo3_tr r1 r2) v2 hlv2 (fun K3 N3 lv3 r3 v3 hlv3 => kk K3 N3 lv3 r3 (by rw [← dv_s]; exact v3) ?_)
        rw [show be + (f + 1) * pt = be + pt + f * pt by rw [Nat.add_mul, Nat.one_mul]; omega, show p + (f + 1) = p + 1 + f by omega]
        exact hlv3
      refine sX11_numberOf_73 rfl ?_
      refine sX11_numberOf_75 rfl ?_
      rcases hpt with rfl | rfl
      · refine nX11_numberOf_77 (by omega) (fun _ => ?_) (fun z => absurd rfl z)
        refine nX11_numberOf_84 ?_
        refine nX11_numberOf_85 ?_
        refine sX11_numberOf_86 ?_
        refine nX11_numberOf_88 rfl ?_
        refine sX11_numberOf_91 ?_
        exact kk' _ (fun z hz => by simp only [List.mem_cons, List.not_mem_nil, or_false] at hz; rcases hz with rfl | rfl | rfl | rfl | rfl | rfl <;> exact xlk_mem rfl)
      · refine nX11_numberOf_77 (by omega) (fun z => absurd z (by omega)) (fun _ => ?_)
        refine nX11_numberOf_80 ?_
        refine sX11_numberOf_81 ?_
        refine nX11_numberOf_85 ?_
        refine sX11_numberOf_86 ?_
        refine nX11_numberOf_88 rfl ?_
        refine sX11_numberOf_91 ?_
        exact kk' _ (fun z hz => by simp only [List.mem_cons, List.not_mem_nil, or_false] at hz; rcases hz with rfl | rfl | rfl | rfl | rfl | rfl <;> exact xlk_mem rfl)
  have exit : ∀ (x : Int32) (K1 : Nat → Nat → Int32) (N1 : Nat → Nat) (lv0 : List (Nat × Value)), xo3 K K1 → RX K1 N1 (va_up S v (1, nuN C m a, 1, fun _ => 0)) → (∀ z ∈ ([(0, .ref b), (1, .int (nI v)), (3, .int (nI (nu3 C m a - d))), (4, .int (nI (nu2 C m a - d))), (5, .int (nI (nuB C m a))), (6, .int x)] : List (Nat × Value)), z ∈ lv0) → aw g l mX11_numberOf 21 lv0 [] (xB h b K1) Q := by
    intro x K1 N1 lv0 r1 v1 hlv
    refine aw_lv hlv ?_
    refine sX11_numberOf_21 rfl ?_
    refine sX11_numberOf_23 rfl ?_
    by_cases hE : nuE C m a = true
    · have q3 := o5 hE
      refine nX11_numberOf_24 (by omega) (by omega) (fun z => absurd z (by omega)) (fun _ => ?_)
      refine sX11_numberOf_27 rfl ?_
      refine sX11_numberOf_28 rfl ?_
      refine tX11_numberOf_30 hS (Nat.le_of_ble_eq_true rfl) ?_
      refine c_at hS (RT_3 r1 hT) (by omega) (by omega) ?_
      rw [pl _ (by omega), (nuE_iff.mp hE).1]
      refine nX11_numberOf_33 ?_
      refine nX11_numberOf_35 (by omega) (by omega) (fun _ => ?_) (fun z => absurd rfl z)
      exact tail K1 N1 _ r1 v1 (fun z hz => by simp only [List.mem_cons, List.not_mem_nil, or_false] at hz; rcases hz with rfl | rfl | rfl | rfl | rfl <;> exact xlk_mem rfl)
    · have := o7 (by simpa using hE)
      refine nX11_numberOf_24 (by omega) (by omega) (fun _ => ?_) (fun z => absurd z (by omega))
      exact tail K1 N1 _ r1 v1 (fun z hz => by simp only [List.mem_cons, List.not_mem_nil, or_false] at hz; rcases hz with rfl | rfl | rfl | rfl | rfl <;> exact xlk_mem rfl)
  refine sX11_numberOf_0 rfl ?_
  refine sX11_numberOf_1 rfl ?_
  refine tX11_numberOf_2 hS (Nat.le_of_ble_eq_true rfl) ?_
  refine c_setOne hS hX hv (fun K1 N1 r1 x1 => ?_)
  refine sX11_numberOf_5 rfl ?_
  refine nX11_numberOf_6 ?_
  refine sX11_numberOf_7 rfl ?_
  refine nX11_numberOf_8 ?_
  refine tX11_numberOf_9 hS (Nat.le_of_ble_eq_true rfl) ?_
  refine c_clear hS x1.1 (by omega) (fun K2 r2 n2 => ?_)
  have x2 := RX_num x1 r2 n2
  rw [vup_vup, vup_s] at x2
  refine sX11_numberOf_12 rfl ?_
  refine sX11_numberOf_13 ?_
  refine nX11_numberOf_15 ?_
  refine sX11_numberOf_16 ?_
  refine nX11_numberOf_18 ?_
  refine sX11_numberOf_19 ?_
  have hd1 : nu1 C m a - a ≤ 60 := by unfold nuD at hd; split at hd <;> omega
  refine ph (nu1 C m a - a) a 0 0 0 0 K2 _ _ (Or.inl rfl) (Nat.le_refl _) (by omega) (fun i y1 y2 => nt_1 (m := m) y1 (by omega)) (by decide) (by omega) (Nat.le_refl _) (xo3_tr r1 (xo3_1 r2)) x2 (fun z hz => by simp only [List.mem_cons, List.not_mem_nil, or_false] at hz; rcases hz with rfl | rfl | rfl | rfl | rfl | rfl <;> exact xlk_mem rfl) (fun K3 N3 lv3 r3 x3 hlv3 => ?_)
  by_cases hP : nuP C m a = true
  · have hd2 : nu1 C m a - a + (nu2 C m a - (nu1 C m a + 1)) ≤ 60 := by unfold nuD at hd; rw [if_pos hP] at hd; exact hd
    have o6' := o6 hP
    refine aw_lv hlv3 ?_
    rw [Nat.mul_zero, Nat.add_zero, show a + (nu1 C m a - a) = nu1 C m a by omega]
    have hT3 := RT_3 r3 hT
    refine sX11_numberOf_21 rfl ?_
    refine sX11_numberOf_23 rfl ?_
    refine nX11_numberOf_24 (by omega) (by omega) (fun z => absurd z (by omega)) (fun _ => ?_)
    refine sX11_numberOf_27 rfl ?_
    refine sX11_numberOf_28 rfl ?_
    refine tX11_numberOf_30 hS (Nat.le_of_ble_eq_true rfl) ?_
    refine c_at hS hT3 (by omega) (by omega) ?_
    rw [pl _ (by omega), (nuP_iff.mp hP).1]
    refine nX11_numberOf_33 ?_
    refine nX11_numberOf_35 (by omega) (by omega) (fun z => absurd z (by omega)) (fun _ => ?_)
    refine sX11_numberOf_38 rfl ?_
    refine sX11_numberOf_39 rfl ?_
    refine tX11_numberOf_41 hS (Nat.le_of_ble_eq_true rfl) ?_
    refine c_at hS hT3 (by omega) (by omega) ?_
    rw [pl _ (by omega), (nuP_iff.mp hP).1]
    refine nX11_numberOf_44 ?_
    refine nX11_numberOf_46 (by omega) (by omega) (fun z => absurd rfl z) (fun _ => ?_)
    refine nX11_numberOf_49 ?_
    refine sX11_numberOf_50 ?_
    refine sX11_numberOf_52 ?_
    refine nX11_numberOf_88 rfl ?_
    refine sX11_numberOf_91 ?_
    refine ph (nu2 C m a - (nu1 C m a + 1)) (nu1 C m a + 1) _ 0 1 (nu1 C m a - a) K3 N3 _ (Or.inr rfl) (by omega) (by omega) (fun i y1 y2 => nt_2 hP y1 (by omega)) (by have := dv_lt (C := C) (N := 0) (p := a) (j := 0) (by decide) (nu1 C m a - a) (fun i y1 y2 => nt_1 (m := m) y1 (by omega)); rw [Nat.zero_add] at this; exact this) (by omega) (Nat.zero_le _) r3 x3 (by rw [show nu1 C m a + 1 - d = nu1 C m a - d + 1 by omega]; exact (fun z hz => by simp only [List.mem_cons, List.not_mem_nil, or_false] at hz; rcases hz with rfl | rfl | rfl | rfl | rfl | rfl <;> exact xlk_mem rfl)) (fun K4 N4 lv4 r4 x4 hlv4 => ?_)
    rw [show 0 + (nu2 C m a - (nu1 C m a + 1)) * 1 = nuB C m a by unfold nuB; rw [if_pos hP]; omega, show nu1 C m a + 1 + (nu2 C m a - (nu1 C m a + 1)) = nu2 C m a by omega] at hlv4
    exact exit _ K4 N4 _ r4 (by unfold nuN; rw [if_pos hP]; exact x4) hlv4
  · have hP' : nuP C m a = false := by simpa using hP
    have e2 := o8 hP'
    rw [show 0 + (nu1 C m a - a) * 0 = nuB C m a by unfold nuB; rw [if_neg hP]; omega, show a + (nu1 C m a - a) = nu2 C m a by omega] at hlv3
    exact exit _ K3 N3 _ r3 (by unfold nuN; rw [if_neg hP]; exact x3) hlv3
end Nums2
