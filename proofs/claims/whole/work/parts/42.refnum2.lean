theorem zsub_sub (x y c : Int32) : x - y - c = x - (y + c) := by grind
theorem zsub_add (x y c d : Int32) : x - y - c + d = x + d - (y + c) := by grind
theorem zh_div (x d t : Nat) : zh (x / d) t = zh x t / d := by
  unfold zh
  rw [Nat.div_div_eq_div_mul, Nat.div_div_eq_div_mul, Nat.mul_comm]
section RefNum2
variable {g : xG} {l : Launch} {h : xH} {b : Nat} {K : Nat → Nat → Int32} {N : Nat → Nat} {Q : Option Value → xH → Prop}
theorem c_subtract {n m : Nat} (hS : RS h b) (hN : RN K N) (hn : n < 350) (hm : m < 350) (hne : m ≠ n) (hs : N m ≤ N n) (k : ∀ K', xo1 K K' → RN K' (va_up N n (N n - N m)) → Q none (xB h b K')) : ac g l mX11_subtract [.ref b, .int (nI n), .int (nI m)] (xB h b K) Q := by
  refine ac_of (by decide) (Nat.le_of_ble_eq_true rfl) ?_
  obtain ⟨D, hD⟩ : ∃ D, D = N n - N m := ⟨_, rfl⟩
  rw [← hD] at k
  have hDB : D < zB 80 := Nat.lt_of_le_of_lt (by omega) (hN n hn).1
  refine nX11_subtract_0 ?_
  refine sX11_subtract_1 ?_
  refine nX11_subtract_2 ?_
  refine sX11_subtract_3 ?_
  suffices H : ∀ t i c K1 lv0, i + t = 80 → c ≤ 1 → zh (N n) i = zh D i + zh (N m) i + c → xo1 K K1 → RP K1 N n (zm i D (N n)) → (∀ q ∈ ([(0, .ref b), (1, .int (nI n)), (2, .int (nI m)), (3, .int (nI c)), (4, .int (nI i))] : List (Nat × Value)), q ∈ lv0) → aw g l mX11_subtract 5 lv0 [] (xB h b K1) Q from H 80 0 0 K _ rfl (by omega) (by rw [zh_0, zh_0, zh_0]; omega) (xo1_rf K) (RP_st _ hN hn) (fun q hq => hq)
  intro t
  induction t with
  | zero =>
    intro i c K1 lv0 hi hc1 hz ho hP hlv
    refine aw_lv hlv ?_
    obtain rfl : i = 80 := by omega
    refine sX11_subtract_5 rfl ?_
    refine nX11_subtract_7 ?_
    refine nX11_subtract_9 (by omega) (by omega) (fun _ => ?_) (fun hc => absurd hc (by omega))
    refine sX11_subtract_77 ?_
    exact k K1 ho (RP_fin hP hDB)
  | succ t ih =>
    intro i c K1 lv0 hi hc1 hz ho hP hlv
    refine aw_lv hlv ?_
    refine sX11_subtract_5 rfl ?_
    refine nX11_subtract_7 ?_
    refine nX11_subtract_9 (by omega) (by omega) (fun hc => absurd hc (by omega)) (fun _ => ?_)
    refine sX11_subtract_12 rfl ?_
    refine tX11_subtract_13 hS ?_
    refine nX11_subtract_16 ?_
    refine sX11_subtract_18 rfl ?_
    refine nX11_subtract_19 ?_
    refine sX11_subtract_20 rfl ?_
    refine nX11_subtract_22 ?_
    refine tX11_subtract_23 hS (by decide) (by decide) rfl (by simp only [rl]; omega) ?_
    rw [RP_own hP (by omega)]
    refine sX11_subtract_24 rfl ?_
    refine tX11_subtract_25 hS ?_
    refine nX11_subtract_28 ?_
    refine sX11_subtract_30 rfl ?_
    refine nX11_subtract_31 ?_
    refine sX11_subtract_32 rfl ?_
    refine nX11_subtract_34 ?_
    refine tX11_subtract_35 hS (by decide) (by decide) rfl (by simp only [rl]; omega) ?_
    rw [RP_rd hP hm hne (by omega)]
    have hg1 := zg_lt (N n) i
    have hg2 := zg_lt (N m) i
    have hg3 := zg_lt D i
    have e1 := zh_eq (N n) i
    have e2 := zh_eq (N m) i
    have e3 := zh_eq D i
    refine sX11_subtract_36 ?_
    refine sX11_subtract_37 rfl ?_
    refine sX11_subtract_38 ?_
    rw [zsub_sub, nI_add]
    refine sX11_subtract_39 ?_
    refine sX11_subtract_41 rfl ?_
    have fin : ∀ (c' v : Nat), c' ≤ 1 → zh (N n) (i + 1) = zh D (i + 1) + zh (N m) (i + 1) + c' → v = zg D i → nI (zg (N n) i) - nI (zg (N m) i + c) + nI 32768 * nI c' = nI v → aw g l mX11_subtract 52 [(0, .ref b), (1, .int (nI n)), (2, .int (nI m)), (3, .int (nI c')), (4, .int (nI i)), (5, .int (nI (zg (N n) i) - nI (zg (N m) i + c)))] [] (xB h b K1) Q := by
      intro c' v hc' hz' hv he
      refine sX11_subtract_52 rfl ?_
      refine tX11_subtract_53 hS ?_
      refine nX11_subtract_56 ?_
      refine sX11_subtract_58 rfl ?_
      refine nX11_subtract_59 ?_
      refine sX11_subtract_60 rfl ?_
      refine nX11_subtract_62 ?_
      refine sX11_subtract_63 rfl ?_
      refine nX11_subtract_65 ?_
      refine sX11_subtract_67 rfl ?_
      refine nX11_subtract_68 ?_
      rw [← pk_mul]
      refine sX11_subtract_69 ?_
      rw [he]
      refine tX11_subtract_70 hS (by decide) (by decide) rfl (by simp only [rl]; omega) ?_
      refine nX11_subtract_71 rfl ?_
      refine sX11_subtract_74 ?_
      exact ih (i + 1) c' _ _ (by omega) hc' hz' (xo1_tr ho xo1_up) (RP_go hP (by omega) hv) (fun q hq => by
        simp only [List.mem_cons, List.not_mem_nil, or_false] at hq
        rcases hq with rfl | rfl | rfl | rfl | rfl <;> exact xlk_mem rfl)
    by_cases hlt : zg (N m) i + c ≤ zg (N n) i
    · refine sX11_subtract_43 (fun _ => ?_) (fun hc => absurd (by rw [pk_sub hlt]; exact nI_pos' (by omega)) hc)
      refine nX11_subtract_50 ?_
      refine sX11_subtract_51 ?_
      exact fin 0 (zg (N n) i - (zg (N m) i + c)) (by omega) (by omega) (by omega) (by rw [pk_sub hlt, pk_mul, nI_add]; rfl)
    · refine sX11_subtract_43 (fun hc => absurd (pk_sneg (a := zg (N n) i) (b := zg (N m) i + c) (by omega) (by omega)) (Int32.not_lt.mpr hc)) (fun _ => ?_)
      refine nX11_subtract_46 ?_
      refine sX11_subtract_47 ?_
      refine sX11_subtract_51 ?_
      exact fin 1 (zg (N n) i + 32768 - (zg (N m) i + c)) (by omega) (by omega) (by omega) (by
        rw [pk_mul, show 32768 * 1 = 32768 from rfl]
        have := zsub_add (nI (zg (N n) i)) (nI (zg (N m) i + c)) 0 (nI 32768)
        rw [show (0 : Int32) = nI 0 from rfl] at this
        have e5 : nI (zg (N n) i) - nI (zg (N m) i + c) - nI 0 = nI (zg (N n) i) - nI (zg (N m) i + c) := by rw [zsub_sub, nI_add]; rfl
        rw [e5] at this
        rw [this, nI_add, nI_add, pk_sub (by omega)]
        rfl)
theorem c_multiplySmall {n y o : Nat} (hS : RS h b) (hN : RN K N) (hn : n < 350) (hy : y ≤ 10) (ho9 : o < 32768) (hs : N n * y + o < zB 80) (k : ∀ K', xo1 K K' → RN K' (va_up N n (N n * y + o)) → Q none (xB h b K')) : ac g l mX11_multiplySmall [.ref b, .int (nI n), .int (nI y), .int (nI o)] (xB h b K) Q := by
  refine ac_of (by decide) (Nat.le_of_ble_eq_true rfl) ?_
  obtain ⟨D, hD⟩ : ∃ D, D = N n * y + o := ⟨_, rfl⟩
  rw [← hD] at k hs
  refine sX11_multiplySmall_0 rfl ?_
  refine sX11_multiplySmall_1 ?_
  refine nX11_multiplySmall_3 ?_
  refine sX11_multiplySmall_4 ?_
  suffices H : ∀ t i c K1 lv0, i + t = 80 → c < 32768 → zh D i = zh (N n) i * y + c → xo1 K K1 → RP K1 N n (zm i D (N n)) → (∀ q ∈ ([(0, .ref b), (1, .int (nI n)), (2, .int (nI y)), (4, .int (nI c)), (5, .int (nI i))] : List (Nat × Value)), q ∈ lv0) → aw g l mX11_multiplySmall 6 lv0 [] (xB h b K1) Q from H 80 0 o K _ rfl (by omega) (by rw [zh_0, zh_0]; exact hD) (xo1_rf K) (RP_st _ hN hn) (fun q hq => by
      simp only [List.mem_cons, List.not_mem_nil, or_false] at hq
      rcases hq with rfl | rfl | rfl | rfl | rfl <;> exact xlk_mem rfl)
  intro t
  induction t with
  | zero =>
    intro i c K1 lv0 hi hc1 hz ho hP hlv
    refine aw_lv hlv ?_
    obtain rfl : i = 80 := by omega
    refine sX11_multiplySmall_6 rfl ?_
    refine nX11_multiplySmall_8 ?_
    refine nX11_multiplySmall_10 (by omega) (by omega) (fun _ => ?_) (fun hc => absurd hc (by omega))
    refine sX11_multiplySmall_62 ?_
    exact k K1 ho (RP_fin hP hs)
  | succ t ih =>
    intro i c K1 lv0 hi hc1 hz ho hP hlv
    refine aw_lv hlv ?_
    refine sX11_multiplySmall_6 rfl ?_
    refine nX11_multiplySmall_8 ?_
    refine nX11_multiplySmall_10 (by omega) (by omega) (fun hc => absurd hc (by omega)) (fun _ => ?_)
    refine sX11_multiplySmall_13 rfl ?_
    refine tX11_multiplySmall_14 hS ?_
    refine nX11_multiplySmall_17 ?_
    refine sX11_multiplySmall_19 rfl ?_
    refine nX11_multiplySmall_20 ?_
    refine sX11_multiplySmall_21 rfl ?_
    refine nX11_multiplySmall_23 ?_
    refine tX11_multiplySmall_24 hS (by decide) (by decide) rfl (by simp only [rl]; omega) ?_
    rw [RP_own hP (by omega)]
    have hg1 := zg_lt (N n) i
    have hg3 := zg_lt D i
    have e1 := zh_eq (N n) i
    have e3 := zh_eq D i
    have hm : zg (N n) i * y ≤ 32768 * 10 := Nat.mul_le_mul (by omega) hy
    have e4 : zh (N n) i * y = 32768 * (zh (N n) (i + 1) * y) + zg (N n) i * y := by rw [e1, Nat.add_mul, Nat.mul_assoc]
    rw [e4] at hz
    refine sX11_multiplySmall_25 rfl ?_
    refine nX11_multiplySmall_26 ?_
    refine sX11_multiplySmall_27 rfl ?_
    refine nX11_multiplySmall_29 ?_
    refine sX11_multiplySmall_30 ?_
    refine sX11_multiplySmall_32 rfl ?_
    refine tX11_multiplySmall_33 hS ?_
    refine nX11_multiplySmall_36 ?_
    refine sX11_multiplySmall_38 rfl ?_
    refine nX11_multiplySmall_39 ?_
    refine sX11_multiplySmall_40 rfl ?_
    refine nX11_multiplySmall_42 ?_
    refine sX11_multiplySmall_43 rfl ?_
    refine nX11_multiplySmall_45 ?_
    refine nX11_multiplySmall_47 (by omega) (by omega) (by omega) ?_
    refine tX11_multiplySmall_48 hS (by decide) (by decide) rfl (by simp only [rl]; omega) ?_
    refine sX11_multiplySmall_49 rfl ?_
    refine nX11_multiplySmall_51 ?_
    refine nX11_multiplySmall_53 (by omega) (by omega) (by omega) ?_
    refine sX11_multiplySmall_54 ?_
    refine nX11_multiplySmall_56 rfl ?_
    refine sX11_multiplySmall_59 ?_
    refine ih (i + 1) _ _ _ (by omega) ?_ ?_ (xo1_tr ho xo1_up) (RP_go hP (by omega) ?_) (fun q hq => by
        simp only [List.mem_cons, List.not_mem_nil, or_false] at hq
        rcases hq with rfl | rfl | rfl | rfl | rfl <;> exact xlk_mem rfl)
    · omega
    · omega
    · omega
theorem c_divideSmall {n y : Nat} (hS : RS h b) (hN : RN K N) (hn : n < 350) (hy0 : 0 < y) (hy : y ≤ 10) (k : ∀ K', xo1 K K' → RN K' (va_up N n (N n / y)) → Q (some (.int (nI (N n % y)))) (xB h b K')) : ac g l mX11_divideSmall [.ref b, .int (nI n), .int (nI y)] (xB h b K) Q := by
  refine ac_of (by decide) (Nat.le_of_ble_eq_true rfl) ?_
  have hDB : N n / y < zB 80 := Nat.lt_of_le_of_lt (Nat.div_le_self _ _) (hN n hn).1
  refine nX11_divideSmall_0 ?_
  refine sX11_divideSmall_1 ?_
  refine nX11_divideSmall_2 ?_
  refine sX11_divideSmall_4 ?_
  suffices H : ∀ t K1 lv0, t ≤ 80 → xo1 K K1 → RP K1 N n (zmd t (N n / y) (N n)) → (∀ q ∈ ([(0, .ref b), (1, .int (nI n)), (2, .int (nI y)), (3, .int (nI (zh (N n) t % y))), (4, .int (nI t - 1))] : List (Nat × Value)), q ∈ lv0) → aw g l mX11_divideSmall 6 lv0 [] (xB h b K1) Q from H 80 K _ (by omega) (xo1_rf K) (RPd_st _ hN hn) (fun q hq => by
      rw [zh_small (hN n hn).1, Nat.zero_mod] at hq
      exact hq)
  intro t
  induction t with
  | zero =>
    intro K1 lv0 ht ho hP hlv
    refine aw_lv hlv ?_
    refine sX11_divideSmall_6 rfl ?_
    refine sX11_divideSmall_8 (fun _ => ?_) (fun hc => absurd nI_0m hc)
    refine sX11_divideSmall_57 rfl ?_
    refine sX11_divideSmall_58 ?_
    rw [zh_0]
    exact k K1 ho (RPd_fin hP hDB)
  | succ t ih =>
    intro K1 lv0 ht ho hP hlv
    refine aw_lv hlv ?_
    rw [nI_pred]
    refine sX11_divideSmall_6 rfl ?_
    refine nX11_divideSmall_8 (by omega) ?_
    refine sX11_divideSmall_11 rfl ?_
    refine nX11_divideSmall_12 ?_
    refine nX11_divideSmall_14 ?_
    refine sX11_divideSmall_15 rfl ?_
    refine tX11_divideSmall_16 hS ?_
    refine nX11_divideSmall_19 ?_
    refine sX11_divideSmall_21 rfl ?_
    refine nX11_divideSmall_22 ?_
    refine sX11_divideSmall_23 rfl ?_
    refine nX11_divideSmall_25 ?_
    refine tX11_divideSmall_26 hS (by decide) (by decide) rfl (by simp only [rl]; omega) ?_
    rw [RPd_own hP (by omega)]
    obtain ⟨r, hr⟩ : ∃ r, r = zh (N n) (t + 1) % y := ⟨_, rfl⟩
    rw [← hr]
    have hry : r < y := by rw [hr]; exact Nat.mod_lt _ hy0
    have hg1 := zg_lt (N n) t
    have e1 := zh_eq (N n) t
    obtain ⟨v, hv⟩ : ∃ v, v = r * 32768 + zg (N n) t := ⟨_, rfl⟩
    refine nX11_divideSmall_27 ?_
    rw [← hv]
    have eX : zh (N n) t = y * (32768 * (zh (N n) (t + 1) / y)) + v := by
      have := Nat.div_add_mod (zh (N n) (t + 1)) y
      rw [← hr] at this
      have e9 : y * (32768 * (zh (N n) (t + 1) / y)) = 32768 * (y * (zh (N n) (t + 1) / y)) := by
        rw [← Nat.mul_assoc, ← Nat.mul_assoc, Nat.mul_comm y 32768]
      omega
    have hvy : v < 32768 * y := by
      have : r + 1 ≤ y := hry
      have h9 : (r + 1) * 32768 ≤ y * 32768 := Nat.mul_le_mul_right _ this
      omega
    have hd1 : v / y < 32768 := (Nat.div_lt_iff_lt_mul hy0).mpr hvy
    have hq : zh (N n) t / y = 32768 * (zh (N n) (t + 1) / y) + v / y := by rw [eX, Nat.mul_add_div hy0]
    have hrm : zh (N n) t % y = v % y := by rw [eX, Nat.mul_add_mod]
    refine sX11_divideSmall_28 ?_
    refine sX11_divideSmall_30 rfl ?_
    refine tX11_divideSmall_31 hS ?_
    refine nX11_divideSmall_34 ?_
    refine sX11_divideSmall_36 rfl ?_
    refine nX11_divideSmall_37 ?_
    refine sX11_divideSmall_38 rfl ?_
    refine nX11_divideSmall_40 ?_
    refine sX11_divideSmall_41 rfl ?_
    refine sX11_divideSmall_43 rfl ?_
    refine nX11_divideSmall_44 (by omega) (by omega) (by omega) ?_
    refine tX11_divideSmall_45 hS (by decide) (by decide) rfl (by simp only [rl]; omega) ?_
    refine sX11_divideSmall_46 rfl ?_
    refine sX11_divideSmall_48 rfl ?_
    refine nX11_divideSmall_49 (by omega) (by omega) (by omega) ?_
    refine sX11_divideSmall_50 ?_
    refine sX11_divideSmall_51 rfl ?_
    refine sX11_divideSmall_54 ?_
    rw [nI_m1]
    refine ih _ _ (by omega) (xo1_tr ho xo1_up) (RPd_go hP (by omega) ?_) (fun q hq => by
        simp only [List.mem_cons, List.not_mem_nil, or_false] at hq
        rw [hrm] at hq
        rcases hq with rfl | rfl | rfl | rfl | rfl <;> exact xlk_mem rfl)
    unfold zg
    rw [zh_div, hq]
    generalize v / y = w at hd1 ⊢
    generalize zh (N n) (t + 1) / y = z
    omega
theorem c_isEven {n : Nat} (hS : RS h b) (hN : RN K N) (hn : n < 350) (k1 : N n % 2 = 0 → Q (some (.int 1)) (xB h b K)) (k0 : N n % 2 = 1 → Q (some (.int 0)) (xB h b K)) : ac g l mX11_isEven [.ref b, .int (nI n)] (xB h b K) Q := by
  refine ac_of (by decide) (Nat.le_of_ble_eq_true rfl) ?_
  refine sX11_isEven_0 rfl ?_
  refine tX11_isEven_1 hS ?_
  refine nX11_isEven_4 ?_
  refine sX11_isEven_6 rfl ?_
  refine nX11_isEven_7 ?_
  rw [show 80 * n = 80 * n + 0 from rfl]
  refine tX11_isEven_8 hS (by decide) (by decide) rfl (by simp only [rl]; omega) ?_
  rw [(hN n hn).2 0 (by omega)]
  have hg1 := zg_lt (N n) 0
  have e1 : zg (N n) 0 = N n % 32768 := by unfold zg; rw [zh_0]
  refine nX11_isEven_9 ?_
  refine nX11_isEven_10 (by omega) (by omega) (by omega) ?_
  refine nX11_isEven_11 (by omega) (fun hc => ?_) (fun hc => ?_)
  · refine sX11_isEven_18 ?_
    exact sX11_isEven_19 (Or.inl rfl) (k0 (by omega))
  · refine sX11_isEven_14 ?_
    refine sX11_isEven_15 ?_
    exact sX11_isEven_19 (Or.inr rfl) (k1 (by omega))
end RefNum2
