section RefGcd
variable {g : xG} {l : Launch} {h : xH} {b : Nat} {K : Nat → Nat → Int32} {N : Nat → Nat} {Q : Option Value → xH → Prop}
theorem c_common {p q : Nat} (hS : RS h b) (hN : RN K N) (hp : p < 336) (hq : q < 336) (hp0 : 0 < N p) (hq0 : 0 < N q) (k : ∀ K' N', xo1 K K' → RN K' N' → zk N N' → N' 339 = Nat.gcd (N p) (N q) → Q none (xB h b K')) : ac g l mX11_common [.ref b, .int (nI p), .int (nI q)] (xB h b K) Q := by
  refine ac_of (by decide) (Nat.le_of_ble_eq_true rfl) ?_
  obtain ⟨G, hG⟩ : ∃ G, G = Nat.gcd (N p) (N q) := ⟨_, rfl⟩
  rw [← hG] at k
  have hGp : 0 < G := by rw [hG]; exact Nat.gcd_pos_of_pos_left _ hp0
  have hGB : G < zB 80 := Nat.lt_of_le_of_lt (by rw [hG]; exact Nat.gcd_le_left _ hp0) (hN p (by omega)).1
  refine sX11_common_0 rfl ?_
  refine nX11_common_1 ?_
  refine nX11_common_4 ?_
  refine tX11_common_5 hS (Nat.le_of_ble_eq_true rfl) ?_
  refine c_setSmall hS hN (by omega) (by omega) (fun K1 ho1 hN1 => ?_)
  have hz1 : zk N (va_up N 339 1) := zk_up (by omega)
  have ep := hz1 p hp
  have eq := hz1 q hq
  have out1 : G = 1 → Q none (xB h b K1) := fun hE => k K1 _ ho1 hN1 hz1 (by rw [zup_s, hE])
  have go : ∀ lv0 : List (Nat × Value), (∀ z ∈ ([(0, .ref b), (1, .int (nI p)), (2, .int (nI q))] : List (Nat × Value)), z ∈ lv0) → aw g l mX11_common 25 lv0 [] (xB h b K1) Q := by
    intro lv0 hlv
    refine aw_lv hlv ?_
    refine sX11_common_25 rfl ?_
    refine nX11_common_26 ?_
    refine sX11_common_29 rfl ?_
    refine tX11_common_30 hS (Nat.le_of_ble_eq_true rfl) ?_
    refine c_copy hS hN1 (by omega) (by omega) (by omega) (fun K2 ho2 hN2 => ?_)
    rw [ep] at hN2
    refine sX11_common_33 rfl ?_
    refine nX11_common_34 ?_
    refine sX11_common_37 rfl ?_
    refine tX11_common_38 hS (Nat.le_of_ble_eq_true rfl) ?_
    refine c_copy hS hN2 (by omega) (by omega) (by omega) (fun K3 ho3 hN3 => ?_)
    rw [zup_n (by omega), eq] at hN3
    refine nX11_common_41 ?_
    refine sX11_common_42 ?_
    refine nX11_common_43 ?_
    refine sX11_common_44 ?_
    -- the end: G is Y times 2 to the twos
    have fin : ∀ s K4 N4 lv1, xo1 K K4 → RN K4 N4 → zk N N4 → N4 337 * 2 ^ s = G → 0 < N4 337 → (∀ z ∈ ([(0, .ref b), (3, .int (nI s))] : List (Nat × Value)), z ∈ lv1) → aw g l mX11_common 217 lv1 [] (xB h b K4) Q := by
      intro s K4 N4 lv1 ho hR hz hgs hy0 hl
      refine aw_lv hl ?_
      have hs : s < 1201 := by
        have : 2 ^ s ≤ G := by
          rw [← hgs]
          exact Nat.le_mul_of_pos_left _ hy0
        have h2 : 2 ^ s < 2 ^ 1200 := Nat.lt_of_le_of_lt this (by rw [← show zB 80 = 2 ^ 1200 from zB_two 80]; exact hGB)
        have := (Nat.pow_lt_pow_iff_right (by decide : 1 < 2)).mp h2
        omega
      refine sX11_common_217 rfl ?_
      refine nX11_common_218 ?_
      refine nX11_common_221 ?_
      refine tX11_common_224 hS (Nat.le_of_ble_eq_true rfl) ?_
      refine c_copy hS hR (by omega) (by omega) (by omega) (fun K5 ho5 hN5 => ?_)
      refine nX11_common_227 ?_
      refine sX11_common_228 ?_
      suffices H : ∀ t i K6 lv2, i + t = s → xo1 K K6 → RN K6 (va_up N4 339 (N4 337 * 2 ^ i)) → (∀ z ∈ ([(0, .ref b), (3, .int (nI s)), (5, .int (nI i))] : List (Nat × Value)), z ∈ lv2) → aw g l mX11_common 230 lv2 [] (xB h b K6) Q from H s 0 K5 _ (by omega) (xo1_tr ho ho5) (by rw [Nat.pow_zero, Nat.mul_one]; exact hN5) (fun z hz => by
          simp only [List.mem_cons, List.not_mem_nil, or_false] at hz
          rcases hz with rfl | rfl | rfl <;> exact xlk_mem rfl)
      intro t
      induction t with
      | zero =>
        intro i K6 lv2 hi ho6 hR6 hl2
        refine aw_lv hl2 ?_
        obtain rfl : i = s := by omega
        refine sX11_common_230 rfl ?_
        refine sX11_common_232 rfl ?_
        refine nX11_common_233 (by omega) (by omega) (fun _ => ?_) (fun hc => absurd hc (by omega))
        refine sX11_common_251 ?_
        rw [hgs] at hR6
        exact k K6 _ ho6 hR6 (zk_tr hz (zk_up (by omega))) zup_s
      | succ t ih =>
        intro i K6 lv2 hi ho6 hR6 hl2
        refine aw_lv hl2 ?_
        refine sX11_common_230 rfl ?_
        refine sX11_common_232 rfl ?_
        refine nX11_common_233 (by omega) (by omega) (fun hc => absurd hc (by omega)) (fun _ => ?_)
        refine sX11_common_236 rfl ?_
        refine nX11_common_237 ?_
        refine nX11_common_240 ?_
        refine nX11_common_241 ?_
        refine tX11_common_242 hS (Nat.le_of_ble_eq_true rfl) ?_
        have hle : N4 337 * 2 ^ i * 2 ≤ G := by
          rw [← hgs, Nat.mul_assoc, ← Nat.pow_succ]
          exact Nat.mul_le_mul_left _ (Nat.pow_le_pow_right (by decide) (by omega))
        refine c_multiplySmall hS hR6 (by omega) (by decide) (by decide) (by rw [zup_s]; omega) (fun K7 ho7 hN7 => ?_)
        refine nX11_common_245 rfl ?_
        refine sX11_common_248 ?_
        refine ih (i + 1) K7 _ (by omega) (xo1_tr ho6 ho7) (RN_to hN7 (fun a ha => ?_)) (fun z hz => by
          simp only [List.mem_cons, List.not_mem_nil, or_false] at hz
          rcases hz with rfl | rfl | rfl <;> exact xlk_mem rfl)
        by_cases e1 : a = 339
        · rw [e1, zup_s, zup_s, zup_s, Nat.pow_succ, Nat.mul_assoc, Nat.add_zero]
        · rw [zup_n e1, zup_n e1, zup_n e1]
    -- the second loop
    have loop2 : ∀ w s K4 N4 lv1, N4 336 + N4 337 ≤ w → xo1 K K4 → RN K4 N4 → zk N N4 → Nat.gcd (N4 336) (N4 337) * 2 ^ s = G → 0 < N4 337 → (N4 336 % 2 = 1 ∨ N4 337 % 2 = 1) → (∀ z ∈ ([(0, .ref b), (3, .int (nI s))] : List (Nat × Value)), z ∈ lv1) → aw g l mX11_common 92 lv1 [] (xB h b K4) Q := by
      intro w
      induction w with
      | zero => intro s K4 N4 lv1 hw ho hR hz hgs hy0; omega
      | succ w ihw =>
        intro s K4 N4 lv1 hw ho hR hz hgs hy0 hodd hl
        refine aw_lv hl ?_
        refine sX11_common_92 rfl ?_
        refine nX11_common_93 ?_
        refine tX11_common_96 hS (Nat.le_of_ble_eq_true rfl) ?_
        refine c_isZero hS hR (by omega) (fun hX => ?_) (fun hX => ?_)
        · refine sX11_common_99 (fun _ => ?_) (fun hc => absurd hc (by decide))
          rw [hX, Nat.gcd_zero_left] at hgs
          exact fin s K4 N4 _ ho hR hz hgs hy0 (fun z hz => hz)
        refine sX11_common_99 (fun hc => absurd rfl hc) (fun _ => ?_)
        -- both odd: subtract
        have l148 : ∀ K5 N5 lv2, N5 336 + N5 337 ≤ w + 1 → xo1 K K5 → RN K5 N5 → zk N N5 → Nat.gcd (N5 336) (N5 337) * 2 ^ s = G → N5 336 % 2 = 1 → N5 337 % 2 = 1 → (∀ z ∈ ([(0, .ref b), (3, .int (nI s))] : List (Nat × Value)), z ∈ lv2) → aw g l mX11_common 148 lv2 [] (xB h b K5) Q := by
          intro K5 N5 lv2 hw5 ho5 hR5 hz5 hg5 hx5 hy5 hl2
          refine aw_lv hl2 ?_
          refine sX11_common_148 rfl ?_
          refine nX11_common_149 ?_
          refine nX11_common_152 ?_
          refine tX11_common_155 hS (Nat.le_of_ble_eq_true rfl) ?_
          have sub : N5 337 ≤ N5 336 → aw g l mX11_common 161 [(0, .ref b), (3, .int (nI s))] [] (xB h b K5) Q := by
            intro hge
            refine sX11_common_161 rfl ?_
            refine nX11_common_162 ?_
            refine nX11_common_165 ?_
            refine tX11_common_168 hS (Nat.le_of_ble_eq_true rfl) ?_
            refine c_subtract hS hR5 (by omega) (by omega) (by omega) hge (fun K6 ho6 hN6 => ?_)
            refine sX11_common_171 ?_
            refine ihw s K6 _ _ ?_ (xo1_tr ho5 ho6) hN6 (zk_tr hz5 (zk_up (by omega))) ?_ ?_ ?_ (fun z hz => hz)
            · rw [zup_s, zup_n (by omega)]; omega
            · rw [zup_s, zup_n (by omega), zgcd_sub hge]; exact hg5
            · rw [zup_n (by omega)]; omega
            · rw [zup_n (show (337 : Nat) ≠ 336 by omega)]; exact Or.inr hy5
          refine c_compare hS hR5 (by omega) (by omega) (fun hlt => ?_) (fun heq => ?_) (fun hgt => ?_)
          · refine sX11_common_158 (fun _ => ?_) (fun hc => absurd (by decide) hc)
            refine sX11_common_174 rfl ?_
            refine nX11_common_175 ?_
            refine nX11_common_178 ?_
            refine tX11_common_181 hS (Nat.le_of_ble_eq_true rfl) ?_
            refine c_copy hS hR5 (by omega) (by omega) (by omega) (fun K6 ho6 hN6 => ?_)
            refine sX11_common_184 rfl ?_
            refine nX11_common_185 ?_
            refine nX11_common_188 ?_
            refine tX11_common_191 hS (Nat.le_of_ble_eq_true rfl) ?_
            refine c_copy hS hN6 (by omega) (by omega) (by omega) (fun K7 ho7 hN7 => ?_)
            refine sX11_common_194 rfl ?_
            refine nX11_common_195 ?_
            refine nX11_common_198 ?_
            refine tX11_common_201 hS (Nat.le_of_ble_eq_true rfl) ?_
            refine c_copy hS hN7 (by omega) (by omega) (by omega) (fun K8 ho8 hN8 => ?_)
            have hN8 : RN K8 (va_up (va_up (va_up N5 338 (N5 336)) 336 (N5 337)) 337 (N5 336)) := RN_to hN8 (fun a ha => by
              by_cases e1 : a = 337
              · rw [e1, zup_s, zup_s, zup_n (show (338 : Nat) ≠ 336 by omega), zup_s]
              · rw [zup_n e1, zup_n e1, zup_n (show (337 : Nat) ≠ 338 by omega)])
            refine sX11_common_204 rfl ?_
            refine nX11_common_205 ?_
            refine nX11_common_208 ?_
            refine tX11_common_211 hS (Nat.le_of_ble_eq_true rfl) ?_
            have f1 : va_up (va_up (va_up N5 338 (N5 336)) 336 (N5 337)) 337 (N5 336) 336 = N5 337 := by rw [zup_n (by omega), zup_s]
            have f2 : va_up (va_up (va_up N5 338 (N5 336)) 336 (N5 337)) 337 (N5 336) 337 = N5 336 := zup_s
            refine c_subtract hS hN8 (by omega) (by omega) (by omega) (by rw [f1, f2]; omega) (fun K9 ho9 hN9 => ?_)
            rw [f1, f2] at hN9
            refine sX11_common_214 ?_
            refine ihw s K9 _ _ ?_ (xo1_tr ho5 (xo1_tr ho6 (xo1_tr ho7 (xo1_tr ho8 ho9)))) hN9 (zk_tr hz5 (zk_tr (zk_up (by omega)) (zk_tr (zk_up (by omega)) (zk_tr (zk_up (by omega)) (zk_up (by omega)))))) ?_ ?_ ?_ (fun z hz => hz)
            · rw [zup_s, zup_n (by omega), f2]; omega
            · rw [zup_s, zup_n (by omega), f2, zgcd_sub (by omega), Nat.gcd_comm]; exact hg5
            · rw [zup_n (by omega), f2]; omega
            · rw [zup_n (show (337 : Nat) ≠ 336 by omega), f2]; exact Or.inr hx5
          · refine sX11_common_158 (fun hc => absurd hc (by decide)) (fun _ => ?_)
            exact sub (by omega)
          · refine sX11_common_158 (fun hc => absurd hc (by decide)) (fun _ => ?_)
            exact sub (by omega)
        -- halve Y
        have l125 : ∀ v K5 N5 lv2, N5 337 ≤ v → N5 336 + N5 337 ≤ w + 1 → xo1 K K5 → RN K5 N5 → zk N N5 → Nat.gcd (N5 336) (N5 337) * 2 ^ s = G → N5 336 % 2 = 1 → 0 < N5 337 → (∀ z ∈ ([(0, .ref b), (3, .int (nI s))] : List (Nat × Value)), z ∈ lv2) → aw g l mX11_common 125 lv2 [] (xB h b K5) Q := by
          intro v
          induction v with
          | zero => intro K5 N5 lv2 hv; omega
          | succ v ihv =>
            intro K5 N5 lv2 hv hw5 ho5 hR5 hz5 hg5 hx5 hy5 hl2
            refine aw_lv hl2 ?_
            refine sX11_common_125 rfl ?_
            refine nX11_common_126 ?_
            refine tX11_common_129 hS (Nat.le_of_ble_eq_true rfl) ?_
            refine c_isEven hS hR5 (by omega) (fun he => ?_) (fun he => ?_)
            · refine sX11_common_132 (fun hc => absurd hc (by decide)) (fun _ => ?_)
              refine sX11_common_135 rfl ?_
              refine nX11_common_136 ?_
              refine nX11_common_139 ?_
              refine tX11_common_140 hS (Nat.le_of_ble_eq_true rfl) ?_
              refine c_divideSmall hS hR5 (by omega) (by decide) (by decide) (fun K6 ho6 hN6 => ?_)
              refine sX11_common_143 ?_
              refine sX11_common_145 ?_
              refine ihv K6 _ _ ?_ ?_ (xo1_tr ho5 ho6) hN6 (zk_tr hz5 (zk_up (by omega))) ?_ ?_ ?_ (fun z hz => by
                simp only [List.mem_cons, List.not_mem_nil, or_false] at hz
                rcases hz with rfl | rfl <;> exact xlk_mem rfl)
              · rw [zup_s]; omega
              · rw [zup_s, zup_n (by omega)]; omega
              · rw [zup_s, zup_n (by omega), Nat.gcd_comm, zgcd_even he hx5, Nat.gcd_comm]; exact hg5
              · rw [zup_n (by omega)]; exact hx5
              · rw [zup_s]; omega
            · refine sX11_common_132 (fun _ => ?_) (fun hc => absurd rfl hc)
              exact l148 K5 N5 _ hw5 ho5 hR5 hz5 hg5 hx5 he (fun z hz => hz)
        -- halve X
        have l102 : ∀ v K5 N5 lv2, N5 336 ≤ v → N5 336 + N5 337 ≤ w + 1 → xo1 K K5 → RN K5 N5 → zk N N5 → Nat.gcd (N5 336) (N5 337) * 2 ^ s = G → 0 < N5 336 → 0 < N5 337 → (N5 336 % 2 = 1 ∨ N5 337 % 2 = 1) → (∀ z ∈ ([(0, .ref b), (3, .int (nI s))] : List (Nat × Value)), z ∈ lv2) → aw g l mX11_common 102 lv2 [] (xB h b K5) Q := by
          intro v
          induction v with
          | zero => intro K5 N5 lv2 hv hw5 ho5 hR5 hz5 hg5 hx5; omega
          | succ v ihv =>
            intro K5 N5 lv2 hv hw5 ho5 hR5 hz5 hg5 hx5 hy5 hod hl2
            refine aw_lv hl2 ?_
            refine sX11_common_102 rfl ?_
            refine nX11_common_103 ?_
            refine tX11_common_106 hS (Nat.le_of_ble_eq_true rfl) ?_
            refine c_isEven hS hR5 (by omega) (fun he => ?_) (fun he => ?_)
            · refine sX11_common_109 (fun hc => absurd hc (by decide)) (fun _ => ?_)
              refine sX11_common_112 rfl ?_
              refine nX11_common_113 ?_
              refine nX11_common_116 ?_
              refine tX11_common_117 hS (Nat.le_of_ble_eq_true rfl) ?_
              refine c_divideSmall hS hR5 (by omega) (by decide) (by decide) (fun K6 ho6 hN6 => ?_)
              refine sX11_common_120 ?_
              refine sX11_common_122 ?_
              refine ihv K6 _ _ ?_ ?_ (xo1_tr ho5 ho6) hN6 (zk_tr hz5 (zk_up (by omega))) ?_ ?_ ?_ ?_ (fun z hz => by
                simp only [List.mem_cons, List.not_mem_nil, or_false] at hz
                rcases hz with rfl | rfl <;> exact xlk_mem rfl)
              · rw [zup_s]; omega
              · rw [zup_s, zup_n (by omega)]; omega
              · rw [zup_s, zup_n (by omega), zgcd_even he (by omega)]; exact hg5
              · rw [zup_s]; omega
              · rw [zup_n (by omega)]; exact hy5
              · rw [zup_n (show (337 : Nat) ≠ 336 by omega)]; omega
            · refine sX11_common_109 (fun _ => ?_) (fun hc => absurd rfl hc)
              exact l125 _ K5 N5 _ (Nat.le_refl _) hw5 ho5 hR5 hz5 hg5 he hy5 (fun z hz => hz)
        exact l102 _ K4 N4 _ (Nat.le_refl _) hw ho hR hz hgs (by omega) hy0 hodd (fun z hz => hz)
    -- the first loop
    suffices H : ∀ w s K4 N4 lv1, N4 336 ≤ w → xo1 K K4 → RN K4 N4 → zk N N4 → Nat.gcd (N4 336) (N4 337) * 2 ^ s = G → 0 < N4 336 → 0 < N4 337 → (∀ z ∈ ([(0, .ref b), (3, .int (nI s))] : List (Nat × Value)), z ∈ lv1) → aw g l mX11_common 46 lv1 [] (xB h b K4) Q from H _ 0 K3 _ _ (Nat.le_refl _) (xo1_tr ho1 (xo1_tr ho2 ho3)) hN3 (zk_tr hz1 (zk_tr (zk_up (by omega)) (zk_up (by omega)))) (by
        rw [zup_n (by omega), zup_s, zup_s, Nat.pow_zero, Nat.mul_one, hG]) (by rw [zup_n (by omega), zup_s]; exact hp0) (by rw [zup_s]; exact hq0) (fun z hz => by
          simp only [List.mem_cons, List.not_mem_nil, or_false] at hz
          rcases hz with rfl | rfl <;> exact xlk_mem rfl)
    intro w
    induction w with
    | zero => intro s K4 N4 lv1 hw ho hR hz hgs hx0; omega
    | succ w ihw =>
      intro s K4 N4 lv1 hw ho hR hz hgs hx0 hy0 hl
      refine aw_lv hl ?_
      have out : (N4 336 % 2 = 1 ∨ N4 337 % 2 = 1) → aw g l mX11_common 92 [(0, .ref b), (3, .int (nI s))] [] (xB h b K4) Q := fun hod => loop2 _ s K4 N4 _ (Nat.le_refl _) ho hR hz hgs hy0 hod (fun z hz => hz)
      refine sX11_common_46 rfl ?_
      refine nX11_common_47 ?_
      refine tX11_common_50 hS (Nat.le_of_ble_eq_true rfl) ?_
      refine c_isEven hS hR (by omega) (fun he => ?_) (fun he => ?_)
      · refine sX11_common_53 (fun hc => absurd hc (by decide)) (fun _ => ?_)
        refine sX11_common_56 rfl ?_
        refine nX11_common_57 ?_
        refine tX11_common_60 hS (Nat.le_of_ble_eq_true rfl) ?_
        refine c_isEven hS hR (by omega) (fun he2 => ?_) (fun he2 => ?_)
        · refine sX11_common_63 (fun hc => absurd hc (by decide)) (fun _ => ?_)
          refine sX11_common_66 rfl ?_
          refine nX11_common_67 ?_
          refine nX11_common_70 ?_
          refine tX11_common_71 hS (Nat.le_of_ble_eq_true rfl) ?_
          refine c_divideSmall hS hR (by omega) (by decide) (by decide) (fun K5 ho5 hN5 => ?_)
          refine sX11_common_74 ?_
          refine sX11_common_76 rfl ?_
          refine nX11_common_77 ?_
          refine nX11_common_80 ?_
          refine tX11_common_81 hS (Nat.le_of_ble_eq_true rfl) ?_
          refine c_divideSmall hS hN5 (by omega) (by decide) (by decide) (fun K6 ho6 hN6 => ?_)
          refine sX11_common_84 ?_
          refine nX11_common_86 rfl ?_
          refine sX11_common_89 ?_
          refine ihw (s + 1) K6 _ _ ?_ (xo1_tr ho (xo1_tr ho5 ho6)) hN6 (zk_tr hz (zk_tr (zk_up (by omega)) (zk_up (by omega)))) ?_ ?_ ?_ (fun z hz => by
                simp only [List.mem_cons, List.not_mem_nil, or_false] at hz
                rcases hz with rfl | rfl <;> exact xlk_mem rfl)
          · rw [zup_n (by omega), zup_s]; omega
          · rw [zup_n (show (336 : Nat) ≠ 337 by omega), zup_s, zup_s, zup_n (show (337 : Nat) ≠ 336 by omega), Nat.pow_succ, Nat.mul_comm (2 ^ s) 2, ← Nat.mul_assoc, Nat.mul_comm _ 2, zgcd_both he he2]
            exact hgs
          · rw [zup_n (by omega), zup_s]; omega
          · rw [zup_s, zup_n (by omega)]; omega
        · refine sX11_common_63 (fun _ => ?_) (fun hc => absurd rfl hc)
          exact out (Or.inr he2)
      · refine sX11_common_53 (fun _ => ?_) (fun hc => absurd rfl hc)
        exact out (Or.inl he)
  refine sX11_common_8 rfl ?_
  refine sX11_common_9 rfl ?_
  refine tX11_common_10 hS (Nat.le_of_ble_eq_true rfl) ?_
  refine c_isOne hS hN1 (by omega) (fun hE => ?_) (fun hE => ?_)
  · refine sX11_common_13 (fun _ => ?_) (fun hc => absurd hc (by decide))
    refine sX11_common_24 ?_
    rw [ep] at hE
    exact out1 (by rw [hG, hE, Nat.gcd_one_left])
  · refine sX11_common_13 (fun hc => absurd rfl hc) (fun _ => ?_)
    refine sX11_common_16 rfl ?_
    refine sX11_common_17 rfl ?_
    refine tX11_common_18 hS (Nat.le_of_ble_eq_true rfl) ?_
    refine c_isOne hS hN1 (by omega) (fun hE2 => ?_) (fun hE2 => ?_)
    · refine sX11_common_21 (fun hc => absurd hc (by decide)) (fun _ => ?_)
      refine sX11_common_24 ?_
      rw [eq] at hE2
      exact out1 (by rw [hG, hE2, Nat.gcd_one_right])
    · refine sX11_common_21 (fun _ => ?_) (fun hc => absurd rfl hc)
      exact go _ (fun z hz => by
                simp only [List.mem_cons, List.not_mem_nil, or_false] at hz
                rcases hz with rfl | rfl | rfl <;> exact xlk_mem rfl)
end RefGcd
