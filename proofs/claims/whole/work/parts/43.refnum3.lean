theorem zB_two (k : Nat) : zB k = 2 ^ (15 * k) := by
  unfold zB
  rw [Nat.pow_mul]
theorem RPx {K : Nat → Nat → Int32} {N : Nat → Nat} {n y : Nat} (h : RN K (va_up N n y)) (hn : n < 350) : RP K N n (zg y) := by
  refine ⟨fun a ha hne => ?_, fun k hk => ?_⟩
  · have := h a ha
    rwa [zup_n hne] at this
  · have := (h n hn).2 k hk
    rwa [zup_s] at this
theorem zB_add (i j : Nat) : zB (i + j) = zB i * zB j := Nat.pow_add ..
theorem zg_low {T M i j : Nat} (h : j < i) : zg (T + zB i * M) j = zg T j := by
  unfold zg zh
  obtain ⟨d, rfl⟩ : ∃ d, i = j + (d + 1) := ⟨i - j - 1, by omega⟩
  rw [zB_add, Nat.mul_assoc, Nat.add_mul_div_left _ _ (zB_pos j), zB_s, Nat.mul_comm (zB d) 32768, Nat.mul_assoc]
  omega
theorem zmod_s (x i : Nat) : x % zB (i + 1) = x % zB i + zB i * zg x i := by
  rw [zB_s, Nat.mod_mul]
  rfl
def zL (x L : Nat) : Prop := x < 2 ^ L ∧ (L = 0 ∨ 2 ^ (L - 1) ≤ x)
theorem zs_l : ∀ n, n < 32 → ((nI n &&& 31).toBitVec.smod 32).toNat = n := by decide +kernel
theorem zbit_mod (y r : Nat) (hr : r < 15) : y % 32768 / 2 ^ r % 2 = y / 2 ^ r % 2 := by
  have h1 := Nat.testBit_mod_two_pow y 15 r
  rw [Nat.testBit_eq_decide_div_mod_eq, Nat.testBit_eq_decide_div_mod_eq] at h1
  simp only [hr, decide_true, Bool.true_and] at h1
  have h2 : (y % 2 ^ 15 / 2 ^ r % 2 = 1) ↔ (y / 2 ^ r % 2 = 1) := by
    rw [← decide_eq_decide]; exact h1
  have h3 : y % 32768 / 2 ^ r % 2 = y % 2 ^ 15 / 2 ^ r % 2 := rfl
  omega
theorem zg_bit (x k r : Nat) (hr : r < 15) : zg x k / 2 ^ r % 2 = x / 2 ^ (15 * k + r) % 2 := by
  unfold zg zh
  rw [zbit_mod _ _ hr, zB_two, Nat.div_div_eq_div_mul, ← Nat.pow_add]
theorem zg_bits (x t : Nat) : zg x (t / 15) / 2 ^ (t % 15) % 2 = x / 2 ^ t % 2 := by
  rw [zg_bit _ _ _ (Nat.mod_lt _ (by decide)), Nat.div_add_mod]
/-- a bit is set where all is 0 up to it -/
theorem zg_set {q t : Nat} (j : Nat) : zg (q * 2 ^ (t + 1) + 2 ^ t) j = (if j = t / 15 then zg (q * 2 ^ (t + 1)) j + 2 ^ (t % 15) else zg (q * 2 ^ (t + 1)) j) ∧ zg (q * 2 ^ (t + 1)) (t / 15) + 2 ^ (t % 15) < 32768 := by
  have hp : ∀ a b : Nat, 2 ^ (a + b) = 2 ^ a * 2 ^ b := fun a b => Nat.pow_add ..
  have hpos : ∀ a : Nat, 0 < 2 ^ a := fun a => Nat.pow_pos (by decide)
  have ht := Nat.div_add_mod t 15
  have hr : t % 15 < 15 := Nat.mod_lt _ (by decide)
  generalize t / 15 = c at ht ⊢
  generalize t % 15 = r at ht hr ⊢
  obtain ⟨e, he⟩ : ∃ e, r + 1 + e = 15 := ⟨14 - r, by omega⟩
  have h15 : 2 ^ r * (2 * 2 ^ e) = 32768 := by
    have h9 : 2 ^ (r + 1 + e) = 2 ^ 15 := by rw [he]
    rw [hp, hp] at h9
    have : (2 : Nat) ^ 1 = 2 := rfl
    rw [this, Nat.mul_assoc] at h9
    exact h9
  -- both numbers by their shift to c
  have eT : q * 2 ^ (t + 1) = zB c * (2 ^ r * (2 * q)) := by
    rw [zB_two, ← ht, hp, hp]
    have : (2 : Nat) ^ 1 = 2 := rfl
    rw [this]
    ac_rfl
  have eU : q * 2 ^ (t + 1) + 2 ^ t = zB c * (2 ^ r * (2 * q + 1)) := by
    rw [eT, zB_two, ← ht, hp]
    rw [Nat.mul_add (2 ^ r), Nat.mul_add, Nat.mul_one]
  have hhT : zh (q * 2 ^ (t + 1)) c = 2 ^ r * (2 * q) := by
    rw [eT]; unfold zh; exact Nat.mul_div_cancel_left _ (zB_pos c)
  have hhU : zh (q * 2 ^ (t + 1) + 2 ^ t) c = 2 ^ r * (2 * q + 1) := by
    rw [eU]; unfold zh; exact Nat.mul_div_cancel_left _ (zB_pos c)
  -- the digit c
  have key : 2 ^ r * (2 * q) % 32768 + 2 ^ r < 32768 + 0 ∧ 2 ^ r * (2 * q + 1) % 32768 = 2 ^ r * (2 * q) % 32768 + 2 ^ r ∧ 2 ^ r * (2 * q + 1) / 32768 = 2 ^ r * (2 * q) / 32768 := by
    have p2 := hpos e
    have m1 : 2 * q % (2 * 2 ^ e) = 2 * (q % 2 ^ e) := Nat.mul_mod_mul_left 2 q (2 ^ e)
    have m2 : q % 2 ^ e < 2 ^ e := Nat.mod_lt _ p2
    have d0 := Nat.div_add_mod q (2 ^ e)
    have e7 : 2 * q + 1 = 2 * 2 ^ e * (q / 2 ^ e) + (2 * (q % 2 ^ e) + 1) := by
      rw [Nat.mul_assoc]; omega
    have m3 : (2 * q + 1) % (2 * 2 ^ e) = 2 * (q % 2 ^ e) + 1 := by
      rw [e7, Nat.mul_add_mod, Nat.mod_eq_of_lt (by omega)]
    have m4 : (2 * q + 1) / (2 * 2 ^ e) = q / 2 ^ e := by
      rw [e7, Nat.mul_add_div (by omega), Nat.div_eq_of_lt (show 2 * (q % 2 ^ e) + 1 < 2 * 2 ^ e by omega), Nat.add_zero]
    have m5 : 2 * q / (2 * 2 ^ e) = q / 2 ^ e := Nat.mul_div_mul_left _ _ (by decide)
    have k1 : 2 ^ r * (2 * q) % 32768 = 2 ^ r * (2 * (q % 2 ^ e)) := by rw [← h15, Nat.mul_mod_mul_left, m1]
    have k2 : 2 ^ r * (2 * q + 1) % 32768 = 2 ^ r * (2 * (q % 2 ^ e) + 1) := by rw [← h15, Nat.mul_mod_mul_left, m3]
    have k3 : 2 ^ r * (2 * q + 1) / 32768 = q / 2 ^ e := by rw [← h15, Nat.mul_div_mul_left _ _ (hpos r), m4]
    have k4 : 2 ^ r * (2 * q) / 32768 = q / 2 ^ e := by rw [← h15, Nat.mul_div_mul_left _ _ (hpos r), m5]
    rw [k1, k2, k3, k4]
    refine ⟨?_, ?_, rfl⟩
    · rw [Nat.add_zero, ← h15]
      have : 2 ^ r * (2 * (q % 2 ^ e)) + 2 ^ r = 2 ^ r * (2 * (q % 2 ^ e) + 1) := by rw [Nat.mul_add, Nat.mul_one]
      rw [this]
      exact Nat.mul_lt_mul_of_pos_left (by omega) (hpos r)
    · rw [Nat.mul_add, Nat.mul_one]
  constructor
  · rcases Nat.lt_trichotomy j c with hj | hj | hj
    · rw [if_neg (by omega)]
      have z1 := zg_low (T := 0) (M := 2 ^ r * (2 * q + 1)) hj
      have z2 := zg_low (T := 0) (M := 2 ^ r * (2 * q)) hj
      rw [Nat.zero_add] at z1 z2
      rw [eU, eT, z1, z2]
    · subst hj
      rw [if_pos rfl]
      unfold zg
      rw [hhT, hhU]
      exact key.2.1
    · rw [if_neg (by omega)]
      obtain ⟨d, rfl⟩ : ∃ d, j = c + 1 + d := ⟨j - c - 1, by omega⟩
      have : ∀ d, zh (q * 2 ^ (t + 1) + 2 ^ t) (c + 1 + d) = zh (q * 2 ^ (t + 1)) (c + 1 + d) := by
        intro d
        induction d with
        | zero => rw [Nat.add_zero, zh_s, zh_s, hhT, hhU]; exact key.2.2
        | succ d ih => rw [← Nat.add_assoc, zh_s, zh_s, ih]
      unfold zg
      rw [this]
  · unfold zg
    rw [hhT]
    exact key.1
section RefNum3
variable {g : xG} {l : Launch} {h : xH} {b : Nat} {K : Nat → Nat → Int32} {N : Nat → Nat} {Q : Option Value → xH → Prop}
theorem c_bit {n t : Nat} (hS : RS h b) (hN : RN K N) (hn : n < 350) (ht : t < 1200) (k : Q (some (.int (nI (N n / 2 ^ t % 2)))) (xB h b K)) : ac g l mX11_bit [.ref b, .int (nI n), .int (nI t)] (xB h b K) Q := by
  refine ac_of (by decide) (Nat.le_of_ble_eq_true rfl) ?_
  refine sX11_bit_0 rfl ?_
  refine tX11_bit_1 hS ?_
  refine nX11_bit_4 ?_
  refine sX11_bit_6 rfl ?_
  refine nX11_bit_7 ?_
  refine sX11_bit_8 rfl ?_
  refine nX11_bit_9 ?_
  refine nX11_bit_11 (by omega) (by omega) (by omega) ?_
  refine nX11_bit_12 ?_
  refine tX11_bit_13 hS (by decide) (by decide) rfl (by simp only [rl]; omega) ?_
  rw [(hN n hn).2 (t / 15) (by omega)]
  have hg1 := zg_lt (N n) (t / 15)
  refine sX11_bit_14 rfl ?_
  refine nX11_bit_15 ?_
  refine nX11_bit_17 (by omega) (by omega) (by omega) ?_
  refine sX11_bit_18 ?_
  rw [pk_shrN (by omega) _ (t % 15) (zs_l _ (by omega))]
  refine sX11_bit_19 ?_
  refine sX11_bit_20 ?_
  have hz : zg (N n) (t / 15) / 2 ^ (t % 15) < 2 ^ 32 := Nat.lt_of_le_of_lt (Nat.div_le_self _ _) (by omega)
  rw [pk_andN hz 1 (by decide)]
  refine sX11_bit_21 ?_
  rw [show (2 : Nat) ^ 1 = 2 from rfl, zg_bits]
  exact k
theorem c_length {n : Nat} (hS : RS h b) (hN : RN K N) (hn : n < 350) (k : ∀ L, zL (N n) L → Q (some (.int (nI L))) (xB h b K)) : ac g l mX11_length [.ref b, .int (nI n)] (xB h b K) Q := by
  refine ac_of (by decide) (Nat.le_of_ble_eq_true rfl) ?_
  refine nX11_length_0 ?_
  refine sX11_length_2 ?_
  suffices H : ∀ t lv0, t ≤ 80 → zh (N n) t = 0 → (∀ q ∈ ([(0, .ref b), (1, .int (nI n)), (2, .int (nI t - 1))] : List (Nat × Value)), q ∈ lv0) → aw g l mX11_length 3 lv0 [] (xB h b K) Q from H 80 _ (by omega) (zh_small (hN n hn).1) (fun q hq => hq)
  intro t
  induction t with
  | zero =>
    intro lv0 ht hz hlv
    refine aw_lv hlv ?_
    refine sX11_length_3 rfl ?_
    refine sX11_length_4 (fun _ => ?_) (fun hc => absurd nI_0m hc)
    refine nX11_length_57 ?_
    refine sX11_length_58 (k 0 ?_)
    rw [zh_0] at hz
    rw [hz]
    exact ⟨by decide, Or.inl rfl⟩
  | succ t ih =>
    intro lv0 ht hz hlv
    refine aw_lv hlv ?_
    rw [nI_pred]
    refine sX11_length_3 rfl ?_
    refine nX11_length_4 (by omega) ?_
    refine sX11_length_7 rfl ?_
    refine tX11_length_8 hS ?_
    refine nX11_length_11 ?_
    refine sX11_length_13 rfl ?_
    refine nX11_length_14 ?_
    refine sX11_length_15 rfl ?_
    refine nX11_length_16 ?_
    refine tX11_length_17 hS (by decide) (by decide) rfl (by simp only [rl]; omega) ?_
    rw [(hN n hn).2 t (by omega)]
    have hg1 := zg_lt (N n) t
    have e1 := zh_eq (N n) t
    rw [hz] at e1
    obtain ⟨d, hd⟩ : ∃ d, d = zg (N n) t := ⟨_, rfl⟩
    rw [← hd] at e1 hg1 ⊢
    refine sX11_length_18 ?_
    refine sX11_length_19 rfl ?_
    refine nX11_length_20 (by omega) (fun hc => ?_) (fun hc => ?_)
    · refine nX11_length_26 ?_
      refine sX11_length_27 ?_
      have fin : ∀ c : Nat, d < 2 ^ c → (c = 0 ∨ 2 ^ (c - 1) ≤ d) → zL (N n) (15 * t + c) := by
        intro c h1 h2
        have h3 : c ≠ 0 := by rintro rfl; simp at h1; omega
        have h4 : 2 ^ (c - 1) ≤ d := h2.resolve_left h3
        have hx := Nat.div_add_mod (N n) (zB t)
        have hx2 := Nat.mod_lt (N n) (zB_pos t)
        have e2 : N n / zB t = d := by show zh (N n) t = d; omega
        rw [e2] at hx
        refine ⟨?_, Or.inr ?_⟩
        · rw [Nat.pow_add, ← zB_two]
          have : zB t * (d + 1) ≤ zB t * 2 ^ c := Nat.mul_le_mul_left _ h1
          rw [Nat.mul_add, Nat.mul_one] at this
          omega
        · rw [show 15 * t + c - 1 = 15 * t + (c - 1) by omega, Nat.pow_add, ← zB_two]
          have : zB t * 2 ^ (c - 1) ≤ zB t * d := Nat.mul_le_mul_left _ h4
          omega
      have H2 : ∀ (w c : Nat) (lv1 : List (Nat × Value)), d / 2 ^ c ≤ w → (c = 0 ∨ 2 ^ (c - 1) ≤ d) → (∀ q ∈ ([(2, .int (nI t)), (3, .int (nI (d / 2 ^ c))), (4, .int (nI c))] : List (Nat × Value)), q ∈ lv1) → aw g l mX11_length 29 lv1 [] (xB h b K) Q := by
        intro w
        induction w with
        | zero =>
          intro c lv1 hw hc2 hl1
          refine aw_lv hl1 ?_
          refine sX11_length_29 rfl ?_
          have hdd : d / 2 ^ c < 2 ^ 31 := Nat.lt_of_le_of_lt (Nat.div_le_self _ _) (by omega)
          refine nX11_length_30 hdd (fun hc3 => ?_) (fun hc3 => absurd hc3 (by omega))
          refine nX11_length_43 ?_
          refine sX11_length_45 rfl ?_
          refine nX11_length_46 ?_
          refine sX11_length_47 rfl ?_
          refine nX11_length_49 ?_
          refine sX11_length_50 (k _ (fin c ?_ hc2))
          have := (Nat.div_eq_zero_iff).mp hc3
          have := Nat.pow_pos (n := c) (show 0 < 2 by decide)
          omega
        | succ w ihw =>
          intro c lv1 hw hc2 hl1
          refine aw_lv hl1 ?_
          refine sX11_length_29 rfl ?_
          have hdd : d / 2 ^ c < 2 ^ 31 := Nat.lt_of_le_of_lt (Nat.div_le_self _ _) (by omega)
          refine nX11_length_30 hdd (fun hc3 => ?_) (fun hc3 => ?_)
          · refine nX11_length_43 ?_
            refine sX11_length_45 rfl ?_
            refine nX11_length_46 ?_
            refine sX11_length_47 rfl ?_
            refine nX11_length_49 ?_
            refine sX11_length_50 (k _ (fin c ?_ hc2))
            have := (Nat.div_eq_zero_iff).mp hc3
            have := Nat.pow_pos (n := c) (show 0 < 2 by decide)
            omega
          · refine sX11_length_33 rfl ?_
            refine nX11_length_34 ?_
            refine nX11_length_35 hdd (by decide) (by decide) ?_
            rw [Nat.div_div_eq_div_mul, ← Nat.pow_succ]
            refine sX11_length_36 ?_
            refine nX11_length_37 rfl ?_
            refine sX11_length_40 ?_
            have hge : 2 ^ c ≤ d := by
              rcases Nat.lt_or_ge d (2 ^ c) with q | q
              · rw [Nat.div_eq_of_lt q] at hc3; omega
              · exact q
            refine ihw (c + 1) _ ?_ (Or.inr hge) (fun q hq => by
              simp only [List.mem_cons, List.not_mem_nil, or_false] at hq
              rcases hq with rfl | rfl | rfl <;> exact xlk_mem rfl)
            rw [Nat.pow_succ, ← Nat.div_div_eq_div_mul]
            omega
      exact H2 d 0 _ (Nat.div_le_self _ _) (Or.inl rfl) (fun q hq => by
        simp only [List.mem_cons, List.not_mem_nil, or_false] at hq
        rw [Nat.pow_zero, Nat.div_one] at hq
        rcases hq with rfl | rfl | rfl <;> exact xlk_mem rfl)
    · refine sX11_length_23 ?_
      refine sX11_length_51 rfl ?_
      refine sX11_length_54 ?_
      rw [nI_m1]
      exact ih _ (by omega) (by omega) (fun q hq => by
        simp only [List.mem_cons, List.not_mem_nil, or_false] at hq
        rcases hq with rfl | rfl | rfl <;> exact xlk_mem rfl)
theorem c_multiply {n p q : Nat} (hS : RS h b) (hN : RN K N) (hn : n < 350) (hp : p < 350) (hq : q < 350) (hpn : p ≠ n) (hqn : q ≠ n) (hs : N p * N q < zB 80) (k : ∀ K', xo1 K K' → RN K' (va_up N n (N p * N q)) → Q none (xB h b K')) : ac g l mX11_multiply [.ref b, .int (nI n), .int (nI p), .int (nI q)] (xB h b K) Q := by
  refine ac_of (by decide) (Nat.le_of_ble_eq_true rfl) ?_
  refine sX11_multiply_0 rfl ?_
  refine sX11_multiply_1 rfl ?_
  refine tX11_multiply_2 hS (Nat.le_of_ble_eq_true rfl) ?_
  refine c_clear hS hN hn (fun K0 ho0 hN0 => ?_)
  refine nX11_multiply_5 ?_
  refine sX11_multiply_6 ?_
  suffices H : ∀ t i K1 lv0, i + t = 80 → xo1 K K1 → RN K1 (va_up N n (N p % zB i * N q)) → (∀ z ∈ ([(0, .ref b), (1, .int (nI n)), (2, .int (nI p)), (3, .int (nI q)), (4, .int (nI i))] : List (Nat × Value)), z ∈ lv0) → aw g l mX11_multiply 8 lv0 [] (xB h b K1) Q from H 80 0 K0 _ rfl ho0 (by rw [show zB 0 = 1 from rfl, Nat.mod_one, Nat.zero_mul]; exact hN0) (fun z hz => hz)
  intro t
  induction t with
  | zero =>
    intro i K1 lv0 hi ho hR hlv
    refine aw_lv hlv ?_
    obtain rfl : i = 80 := by omega
    refine sX11_multiply_8 rfl ?_
    refine nX11_multiply_10 ?_
    refine nX11_multiply_12 (by omega) (by omega) (fun _ => ?_) (fun hc => absurd hc (by omega))
    refine sX11_multiply_134 ?_
    rw [Nat.mod_eq_of_lt (hN p hp).1] at hR
    exact k K1 ho hR
  | succ t ih =>
    intro i K1 lv0 hi ho hR hlv
    refine aw_lv hlv ?_
    refine sX11_multiply_8 rfl ?_
    refine nX11_multiply_10 ?_
    refine nX11_multiply_12 (by omega) (by omega) (fun hc => absurd hc (by omega)) (fun _ => ?_)
    have hP1 := RPx hR hn
    refine sX11_multiply_15 rfl ?_
    refine tX11_multiply_16 hS ?_
    refine nX11_multiply_19 ?_
    refine sX11_multiply_21 rfl ?_
    refine nX11_multiply_22 ?_
    refine sX11_multiply_23 rfl ?_
    refine nX11_multiply_25 ?_
    refine tX11_multiply_26 hS (by decide) (by decide) rfl (by simp only [rl]; omega) ?_
    rw [RP_rd hP1 hp hpn (by omega)]
    have hg1 := zg_lt (N p) i
    obtain ⟨x, hx⟩ : ∃ x, x = zg (N p) i := ⟨_, rfl⟩
    rw [← hx] at hg1 ⊢
    obtain ⟨T, hT⟩ : ∃ T, T = N p % zB i * N q := ⟨_, rfl⟩
    obtain ⟨U, hU⟩ : ∃ U, U = T + zB i * (x * N q) := ⟨_, rfl⟩
    have hU2 : U = N p % zB (i + 1) * N q := by rw [zmod_s, Nat.add_mul, ← hT, hU, ← hx, Nat.mul_assoc]
    have hUB : U < zB 80 := by
      rw [hU2]
      exact Nat.lt_of_le_of_lt (Nat.mul_le_mul_right _ (Nat.mod_le _ _)) hs
    rw [← hT] at hP1
    have next : ∀ K2 lv1, xo1 K K2 → RN K2 (va_up N n U) → (∀ z ∈ ([(0, .ref b), (1, .int (nI n)), (2, .int (nI p)), (3, .int (nI q)), (4, .int (nI i))] : List (Nat × Value)), z ∈ lv1) → aw g l mX11_multiply 128 lv1 [] (xB h b K2) Q := by
      intro K2 lv1 ho2 hR2 hlv2
      refine aw_lv hlv2 ?_
      refine nX11_multiply_128 rfl ?_
      refine sX11_multiply_131 ?_
      rw [hU2] at hR2
      exact ih (i + 1) K2 _ (by omega) ho2 hR2 (fun z hz => by
        simp only [List.mem_cons, List.not_mem_nil, or_false] at hz
        rcases hz with rfl | rfl | rfl | rfl | rfl <;> exact xlk_mem rfl)
    refine sX11_multiply_27 ?_
    refine sX11_multiply_29 rfl ?_
    refine nX11_multiply_31 (by omega) (fun hc => ?_) (fun hc => ?_)
    · refine sX11_multiply_37 ?_
      refine sX11_multiply_38 ?_
      refine nX11_multiply_40 ?_
      refine sX11_multiply_41 ?_
      suffices H2 : ∀ t2 j c K2 lv1, i + j + t2 = 80 → c < 32768 → zh U (i + j) = zh T (i + j) + x * zh (N q) j + c → xo1 K K2 → RP K2 N n (zm (i + j) U T) → (∀ z ∈ ([(0, .ref b), (1, .int (nI n)), (2, .int (nI p)), (3, .int (nI q)), (4, .int (nI i)), (5, .int (nI x)), (6, .long (lN c)), (8, .int (nI j))] : List (Nat × Value)), z ∈ lv1) → aw g l mX11_multiply 43 lv1 [] (xB h b K2) Q from H2 (80 - i) 0 0 K1 _ (by omega) (by omega) (by
          rw [Nat.add_zero, zh_0, Nat.add_zero, hU]
          unfold zh
          rw [Nat.add_mul_div_left _ _ (zB_pos i)]) ho (RP_to hP1 (fun j hj => by
            unfold zm
            by_cases hji : j < i + 0
            · rw [if_pos hji, hU, zg_low (by omega)]
            · rw [if_neg hji])) (fun z hz => by
          simp only [List.mem_cons, List.not_mem_nil, or_false] at hz
          rcases hz with rfl | rfl | rfl | rfl | rfl | rfl | rfl | rfl <;> exact xlk_mem rfl)
      intro t2
      induction t2 with
      | zero =>
        intro j c K2 lv1 hj hc1 hz ho2 hP hlv2
        refine aw_lv hlv2 ?_
        refine sX11_multiply_43 rfl ?_
        refine sX11_multiply_45 rfl ?_
        refine nX11_multiply_47 ?_
        refine nX11_multiply_48 ?_
        refine nX11_multiply_50 (by omega) (by omega) (fun _ => ?_) (fun hc => absurd hc (by omega))
        rw [show i + j = 80 by omega] at hP
        exact next K2 _ ho2 (RP_fin hP hUB) (fun z hz => by
          simp only [List.mem_cons, List.not_mem_nil, or_false] at hz
          rcases hz with rfl | rfl | rfl | rfl | rfl <;> exact xlk_mem rfl)
      | succ t2 ih2 =>
        intro j c K2 lv1 hj hc1 hz ho2 hP hlv2
        refine aw_lv hlv2 ?_
        refine sX11_multiply_43 rfl ?_
        refine sX11_multiply_45 rfl ?_
        refine nX11_multiply_47 ?_
        refine nX11_multiply_48 ?_
        refine nX11_multiply_50 (by omega) (by omega) (fun hc => absurd hc (by omega)) (fun _ => ?_)
        refine sX11_multiply_53 rfl ?_
        refine tX11_multiply_54 hS ?_
        refine nX11_multiply_57 ?_
        refine sX11_multiply_59 rfl ?_
        refine nX11_multiply_60 ?_
        refine sX11_multiply_61 rfl ?_
        refine nX11_multiply_63 ?_
        refine sX11_multiply_64 rfl ?_
        refine nX11_multiply_66 ?_
        rw [Nat.add_assoc]
        refine tX11_multiply_67 hS (by decide) (by decide) rfl (by simp only [rl]; omega) ?_
        rw [RP_own hP (by omega)]
        have g1 := zg_lt T (i + j)
        have g2 := zg_lt (N q) j
        have g3 := zg_lt U (i + j)
        have e1 := zh_eq T (i + j)
        have e2 := zh_eq (N q) j
        have e3 := zh_eq U (i + j)
        have hm : x * zg (N q) j ≤ 32767 * 32767 := Nat.mul_le_mul (by omega) (by omega)
        have e4 : x * zh (N q) j = 32768 * (x * zh (N q) (j + 1)) + x * zg (N q) j := by
          rw [e2, Nat.mul_add]
          congr 1
          rw [← Nat.mul_assoc, ← Nat.mul_assoc, Nat.mul_comm x 32768]
        rw [e4] at hz
        refine sX11_multiply_68 ?_
        refine sX11_multiply_69 rfl ?_
        refine sX11_multiply_71 ?_
        rw [nI_l (by omega), nI_l (by omega)]
        refine sX11_multiply_72 rfl ?_
        refine tX11_multiply_73 hS ?_
        refine nX11_multiply_76 ?_
        refine sX11_multiply_78 rfl ?_
        refine nX11_multiply_79 ?_
        refine sX11_multiply_80 rfl ?_
        refine nX11_multiply_82 ?_
        refine tX11_multiply_83 hS (by decide) (by decide) rfl (by simp only [rl]; omega) ?_
        rw [RP_rd hP hq hqn (by omega)]
        refine sX11_multiply_84 ?_
        rw [nI_l (by omega)]
        refine sX11_multiply_85 ?_
        refine sX11_multiply_86 ?_
        rw [lN_mul, lN_add]
        refine sX11_multiply_87 rfl ?_
        refine sX11_multiply_89 ?_
        rw [lN_add]
        obtain ⟨v, hv⟩ : ∃ v, v = zg T (i + j) + x * zg (N q) j + c := ⟨_, rfl⟩
        rw [← hv]
        have hvB : v < 1073741824 := by omega
        refine sX11_multiply_90 ?_
        refine sX11_multiply_92 rfl ?_
        refine tX11_multiply_93 hS ?_
        refine nX11_multiply_96 ?_
        refine sX11_multiply_98 rfl ?_
        refine nX11_multiply_99 ?_
        refine sX11_multiply_100 rfl ?_
        refine nX11_multiply_102 ?_
        refine sX11_multiply_103 rfl ?_
        refine nX11_multiply_105 ?_
        rw [Nat.add_assoc]
        refine sX11_multiply_106 rfl ?_
        refine sX11_multiply_108 ?_
        refine sX11_multiply_111 (by decide) ?_
        rw [show (32768 : Int64) = lN 32768 from rfl, pk_lRem (by omega) (by decide) (by decide)]
        refine sX11_multiply_112 ?_
        rw [lN_i]
        refine tX11_multiply_113 hS (by decide) (by decide) rfl (by simp only [rl]; omega) ?_
        refine sX11_multiply_114 rfl ?_
        refine sX11_multiply_116 ?_
        refine sX11_multiply_119 (by decide) ?_
        rw [show (32768 : Int64) = lN 32768 from rfl, pk_lDiv (by omega) (by decide) (by decide)]
        refine sX11_multiply_120 ?_
        refine nX11_multiply_122 rfl ?_
        refine sX11_multiply_125 ?_
        refine ih2 (j + 1) _ _ _ (by omega) ?_ ?_ (xo1_tr ho2 xo1_up) (RP_go hP (by omega) ?_) (fun z hz => by
          simp only [List.mem_cons, List.not_mem_nil, or_false] at hz
          rcases hz with rfl | rfl | rfl | rfl | rfl | rfl | rfl | rfl <;> exact xlk_mem rfl)
        · omega
        · rw [← Nat.add_assoc]; omega
        · omega
    · refine sX11_multiply_34 ?_
      refine next K1 _ ho ?_ (fun z hz => by
          simp only [List.mem_cons, List.not_mem_nil, or_false] at hz
          rcases hz with rfl | rfl | rfl | rfl | rfl <;> exact xlk_mem rfl)
      rw [hU, hc, Nat.zero_mul, Nat.mul_zero, Nat.add_zero, hT]
      exact hR
end RefNum3
