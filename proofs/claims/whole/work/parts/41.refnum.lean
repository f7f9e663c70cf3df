section RefNum
variable {g : xG} {l : Launch} {h : xH} {b : Nat} {K : Nat → Nat → Int32} {N : Nat → Nat} {Q : Option Value → xH → Prop}
theorem c_clear {n : Nat} (hS : RS h b) (hN : RN K N) (hn : n < 350) (k : ∀ K', xo1 K K' → RN K' (va_up N n 0) → Q none (xB h b K')) : ac g l mX11_clear [.ref b, .int (nI n)] (xB h b K) Q := by
  refine ac_of (by decide) (Nat.le_of_ble_eq_true rfl) ?_
  refine nX11_clear_0 ?_
  refine sX11_clear_1 ?_
  suffices H : ∀ t i K1, i + t = 80 → xo1 K K1 → RP K1 N n (zm i 0 (N n)) → aw g l mX11_clear 2 [(0, .ref b), (1, .int (nI n)), (2, .int (nI i))] [] (xB h b K1) Q from H 80 0 K rfl (xo1_rf K) (RP_st 0 hN hn)
  intro t
  induction t with
  | zero =>
    intro i K1 hi ho hP
    obtain rfl : i = 80 := by omega
    refine sX11_clear_2 rfl ?_
    refine nX11_clear_3 ?_
    refine nX11_clear_5 (by omega) (by omega) (fun _ => ?_) (fun hc => absurd hc (by omega))
    refine sX11_clear_26 ?_
    exact k K1 ho (RP_fin hP (zB_pos _))
  | succ t ih =>
    intro i K1 hi ho hP
    refine sX11_clear_2 rfl ?_
    refine nX11_clear_3 ?_
    refine nX11_clear_5 (by omega) (by omega) (fun hc => absurd hc (by omega)) (fun _ => ?_)
    refine sX11_clear_8 rfl ?_
    refine tX11_clear_9 hS ?_
    refine nX11_clear_12 ?_
    refine sX11_clear_14 rfl ?_
    refine nX11_clear_15 ?_
    refine sX11_clear_16 rfl ?_
    refine nX11_clear_17 ?_
    refine nX11_clear_18 ?_
    refine tX11_clear_19 hS (by decide) (by decide) rfl (by simp only [rl]; omega) ?_
    refine nX11_clear_20 rfl ?_
    refine sX11_clear_23 ?_
    exact ih (i + 1) _ (by omega) (xo1_tr ho xo1_up) (RP_go hP (by omega) (zg_z i).symm)
theorem c_copy {n m : Nat} (hS : RS h b) (hN : RN K N) (hn : n < 350) (hm : m < 350) (hne : m ≠ n) (k : ∀ K', xo1 K K' → RN K' (va_up N n (N m)) → Q none (xB h b K')) : ac g l mX11_copy [.ref b, .int (nI n), .int (nI m)] (xB h b K) Q := by
  refine ac_of (by decide) (Nat.le_of_ble_eq_true rfl) ?_
  refine nX11_copy_0 ?_
  refine sX11_copy_1 ?_
  suffices H : ∀ t i K1, i + t = 80 → xo1 K K1 → RP K1 N n (zm i (N m) (N n)) → aw g l mX11_copy 2 [(0, .ref b), (1, .int (nI n)), (2, .int (nI m)), (3, .int (nI i))] [] (xB h b K1) Q from H 80 0 K rfl (xo1_rf K) (RP_st _ hN hn)
  intro t
  induction t with
  | zero =>
    intro i K1 hi ho hP
    obtain rfl : i = 80 := by omega
    refine sX11_copy_2 rfl ?_
    refine nX11_copy_3 ?_
    refine nX11_copy_5 (by omega) (by omega) (fun _ => ?_) (fun hc => absurd hc (by omega))
    refine sX11_copy_36 ?_
    exact k K1 ho (RP_fin hP (hN m hm).1)
  | succ t ih =>
    intro i K1 hi ho hP
    refine sX11_copy_2 rfl ?_
    refine nX11_copy_3 ?_
    refine nX11_copy_5 (by omega) (by omega) (fun hc => absurd hc (by omega)) (fun _ => ?_)
    refine sX11_copy_8 rfl ?_
    refine tX11_copy_9 hS ?_
    refine nX11_copy_12 ?_
    refine sX11_copy_14 rfl ?_
    refine nX11_copy_15 ?_
    refine sX11_copy_16 rfl ?_
    refine nX11_copy_17 ?_
    refine sX11_copy_18 rfl ?_
    refine tX11_copy_19 hS ?_
    refine nX11_copy_22 ?_
    refine sX11_copy_24 rfl ?_
    refine nX11_copy_25 ?_
    refine sX11_copy_26 rfl ?_
    refine nX11_copy_27 ?_
    refine tX11_copy_28 hS (by decide) (by decide) rfl (by simp only [rl]; omega) ?_
    rw [RP_rd hP hm hne (by omega)]
    refine tX11_copy_29 hS (by decide) (by decide) rfl (by simp only [rl]; omega) ?_
    refine nX11_copy_30 rfl ?_
    refine sX11_copy_33 ?_
    exact ih (i + 1) _ (by omega) (xo1_tr ho xo1_up) (RP_go hP (by omega) rfl)
theorem c_setSmall {n v : Nat} (hS : RS h b) (hN : RN K N) (hn : n < 350) (hv : v < 32768) (k : ∀ K', xo1 K K' → RN K' (va_up N n v) → Q none (xB h b K')) : ac g l mX11_setSmall [.ref b, .int (nI n), .int (nI v)] (xB h b K) Q := by
  refine ac_of (by decide) (Nat.le_of_ble_eq_true rfl) ?_
  refine sX11_setSmall_0 rfl ?_
  refine sX11_setSmall_1 rfl ?_
  refine tX11_setSmall_2 hS (Nat.le_of_ble_eq_true rfl) ?_
  refine c_clear hS hN hn (fun K1 h1 hN1 => ?_)
  refine sX11_setSmall_5 rfl ?_
  refine tX11_setSmall_6 hS ?_
  refine nX11_setSmall_9 ?_
  refine sX11_setSmall_11 rfl ?_
  refine nX11_setSmall_12 ?_
  refine sX11_setSmall_13 rfl ?_
  have e0 : 80 * n = 80 * n + 0 := rfl
  rw [e0]
  refine tX11_setSmall_14 hS (by decide) (by decide) rfl (by simp only [rl]; omega) ?_
  refine sX11_setSmall_15 ?_
  have hP := RP_put (v := v) (RP_of hN1 hn) (k := 0) (by omega)
  have hvB : v < zB 80 := Nat.lt_of_lt_of_le hv (by decide +kernel)
  have hR := RP_end hP hvB (fun j hj => by
    rw [zg_small hv, zup_s, zg_z])
  refine k _ (xo1_tr h1 xo1_up) ?_
  intro a ha
  have := hR a ha
  unfold va_up at this ⊢
  by_cases hE : a = n
  · rw [if_pos hE] at this ⊢; exact this
  · rw [if_neg hE] at this ⊢
    rw [if_neg hE] at this
    exact this
theorem zB_big : 1 < zB 80 := by decide +kernel
theorem c_isZero {n : Nat} (hS : RS h b) (hN : RN K N) (hn : n < 350) (k1 : N n = 0 → Q (some (.int 1)) (xB h b K)) (k0 : N n ≠ 0 → Q (some (.int 0)) (xB h b K)) : ac g l mX11_isZero [.ref b, .int (nI n)] (xB h b K) Q := by
  refine ac_of (by decide) (Nat.le_of_ble_eq_true rfl) ?_
  refine nX11_isZero_0 ?_
  refine sX11_isZero_1 ?_
  suffices H : ∀ t i, i + t = 80 → (∀ j, j < i → zg (N n) j = 0) → aw g l mX11_isZero 2 [(0, .ref b), (1, .int (nI n)), (2, .int (nI i))] [] (xB h b K) Q from H 80 0 rfl (fun j hj => absurd hj (by omega))
  intro t
  induction t with
  | zero =>
    intro i hi hz
    obtain rfl : i = 80 := by omega
    refine sX11_isZero_2 rfl ?_
    refine nX11_isZero_3 ?_
    refine nX11_isZero_5 (by omega) (by omega) (fun _ => ?_) (fun hc => absurd hc (by omega))
    refine sX11_isZero_30 ?_
    refine sX11_isZero_31 (Or.inr rfl) (k1 ?_)
    exact zg_ext (n := 80) (fun j hj => by rw [hz j hj, zg_z]) (hN n hn).1 (zB_pos _)
  | succ t ih =>
    intro i hi hz
    refine sX11_isZero_2 rfl ?_
    refine nX11_isZero_3 ?_
    refine nX11_isZero_5 (by omega) (by omega) (fun hc => absurd hc (by omega)) (fun _ => ?_)
    refine sX11_isZero_8 rfl ?_
    refine tX11_isZero_9 hS ?_
    refine nX11_isZero_12 ?_
    refine sX11_isZero_14 rfl ?_
    refine nX11_isZero_15 ?_
    refine sX11_isZero_16 rfl ?_
    refine nX11_isZero_17 ?_
    refine tX11_isZero_18 hS (by decide) (by decide) rfl (by simp only [rl]; omega) ?_
    rw [(hN n hn).2 i (by omega)]
    have hg := zg_lt (N n) i
    refine nX11_isZero_19 (by omega) (fun hc => ?_) (fun hc => ?_)
    · refine nX11_isZero_24 rfl ?_
      refine sX11_isZero_27 ?_
      exact ih (i + 1) (by omega) (fun j hj => by
        by_cases hE : j = i
        · rw [hE]; exact hc
        · exact hz j (by omega))
    · refine sX11_isZero_22 ?_
      refine sX11_isZero_23 (Or.inl rfl) (k0 (fun hE => ?_))
      rw [hE, zg_z] at hc
      exact hc rfl
theorem c_isOne {n : Nat} (hS : RS h b) (hN : RN K N) (hn : n < 350) (k1 : N n = 1 → Q (some (.int 1)) (xB h b K)) (k0 : N n ≠ 1 → Q (some (.int 0)) (xB h b K)) : ac g l mX11_isOne [.ref b, .int (nI n)] (xB h b K) Q := by
  refine ac_of (by decide) (Nat.le_of_ble_eq_true rfl) ?_
  refine nX11_isOne_0 ?_
  refine sX11_isOne_1 ?_
  have hg0 := zg_lt (N n) 0
  suffices H : ∀ t i, i + t = 80 → 1 ≤ i → (∀ j, 1 ≤ j → j < i → zg (N n) j = 0) → aw g l mX11_isOne 2 [(0, .ref b), (1, .int (nI n)), (2, .int (nI i))] [] (xB h b K) Q from H 79 1 rfl (by omega) (fun j h1 hj => absurd hj (by omega))
  intro t
  induction t with
  | zero =>
    intro i hi h1 hz
    obtain rfl : i = 80 := by omega
    refine sX11_isOne_2 rfl ?_
    refine nX11_isOne_3 ?_
    refine nX11_isOne_5 (by omega) (by omega) (fun _ => ?_) (fun hc => absurd hc (by omega))
    refine sX11_isOne_30 rfl ?_
    refine tX11_isOne_31 hS ?_
    refine nX11_isOne_34 ?_
    refine sX11_isOne_36 rfl ?_
    refine nX11_isOne_37 ?_
    rw [show 80 * n = 80 * n + 0 from rfl]
    refine tX11_isOne_38 hS (by decide) (by decide) rfl (by simp only [rl]; omega) ?_
    rw [(hN n hn).2 0 (by omega)]
    refine nX11_isOne_39 ?_
    refine nX11_isOne_40 (by omega) (by omega) (fun hc => ?_) (fun hc => ?_)
    · refine sX11_isOne_47 ?_
      refine sX11_isOne_48 (Or.inl rfl) (k0 (fun hE => hc ?_))
      rw [hE]; rfl
    · refine sX11_isOne_43 ?_
      refine sX11_isOne_44 ?_
      refine sX11_isOne_48 (Or.inr rfl) (k1 ?_)
      refine zg_ext (n := 80) (fun j hj => ?_) (hN n hn).1 zB_big
      by_cases hE : j = 0
      · rw [hE, hc]; rfl
      · rw [hz j (by omega) hj, zg_small (by decide), if_neg hE]
  | succ t ih =>
    intro i hi h1 hz
    refine sX11_isOne_2 rfl ?_
    refine nX11_isOne_3 ?_
    refine nX11_isOne_5 (by omega) (by omega) (fun hc => absurd hc (by omega)) (fun _ => ?_)
    refine sX11_isOne_8 rfl ?_
    refine tX11_isOne_9 hS ?_
    refine nX11_isOne_12 ?_
    refine sX11_isOne_14 rfl ?_
    refine nX11_isOne_15 ?_
    refine sX11_isOne_16 rfl ?_
    refine nX11_isOne_17 ?_
    refine tX11_isOne_18 hS (by decide) (by decide) rfl (by simp only [rl]; omega) ?_
    rw [(hN n hn).2 i (by omega)]
    have hg := zg_lt (N n) i
    refine nX11_isOne_19 (by omega) (fun hc => ?_) (fun hc => ?_)
    · refine nX11_isOne_24 rfl ?_
      refine sX11_isOne_27 ?_
      exact ih (i + 1) (by omega) (by omega) (fun j hj1 hj => by
        by_cases hE : j = i
        · rw [hE]; exact hc
        · exact hz j hj1 (by omega))
    · refine sX11_isOne_22 ?_
      refine sX11_isOne_23 (Or.inl rfl) (k0 (fun hE => ?_))
      rw [hE, zg_small (by decide), if_neg (by omega)] at hc
      exact hc rfl
theorem c_compare {n m : Nat} (hS : RS h b) (hN : RN K N) (hn : n < 350) (hm : m < 350) (kl : N n < N m → Q (some (.int (-1))) (xB h b K)) (ke : N n = N m → Q (some (.int 0)) (xB h b K)) (kg : N m < N n → Q (some (.int 1)) (xB h b K)) : ac g l mX11_compare [.ref b, .int (nI n), .int (nI m)] (xB h b K) Q := by
  refine ac_of (by decide) (Nat.le_of_ble_eq_true rfl) ?_
  refine nX11_compare_0 ?_
  refine sX11_compare_2 ?_
  suffices H : ∀ t lv0, t ≤ 80 → zh (N n) t = zh (N m) t → (∀ q ∈ ([(0, .ref b), (1, .int (nI n)), (2, .int (nI m)), (3, .int (nI t - 1))] : List (Nat × Value)), q ∈ lv0) → aw g l mX11_compare 3 lv0 [] (xB h b K) Q from H 80 _ (by omega) (by rw [zh_small (hN n hn).1, zh_small (hN m hm).1]) (fun q hq => hq)
  intro t
  induction t with
  | zero =>
    intro lv0 ht he hlv
    refine aw_lv hlv ?_
    refine sX11_compare_3 rfl ?_
    refine sX11_compare_4 (fun _ => ?_) (fun hc => absurd nI_0m hc)
    refine sX11_compare_59 ?_
    refine sX11_compare_60 (ke ?_)
    rwa [zh_0, zh_0] at he
  | succ t ih =>
    intro lv0 ht he hlv
    refine aw_lv hlv ?_
    rw [nI_pred]
    refine sX11_compare_3 rfl ?_
    refine nX11_compare_4 (by omega) ?_
    refine sX11_compare_7 rfl ?_
    refine tX11_compare_8 hS ?_
    refine nX11_compare_11 ?_
    refine sX11_compare_13 rfl ?_
    refine nX11_compare_14 ?_
    refine sX11_compare_15 rfl ?_
    refine nX11_compare_16 ?_
    refine tX11_compare_17 hS (by decide) (by decide) rfl (by simp only [rl]; omega) ?_
    rw [(hN n hn).2 t (by omega)]
    refine sX11_compare_18 ?_
    refine sX11_compare_20 rfl ?_
    refine tX11_compare_21 hS ?_
    refine nX11_compare_24 ?_
    refine sX11_compare_26 rfl ?_
    refine nX11_compare_27 ?_
    refine sX11_compare_28 rfl ?_
    refine nX11_compare_29 ?_
    refine tX11_compare_30 hS (by decide) (by decide) rfl (by simp only [rl]; omega) ?_
    rw [(hN m hm).2 t (by omega)]
    refine sX11_compare_31 ?_
    refine sX11_compare_33 rfl ?_
    refine sX11_compare_35 rfl ?_
    have hg1 := zg_lt (N n) t
    have hg2 := zg_lt (N m) t
    have e1 := zh_eq (N n) t
    have e2 := zh_eq (N m) t
    refine nX11_compare_37 (by omega) (by omega) (fun hc => ?_) (fun hc => ?_)
    · refine sX11_compare_53 rfl ?_
      refine sX11_compare_56 ?_
      rw [nI_m1]
      exact ih _ (by omega) (by omega) (fun q hq => by
        simp only [List.mem_cons, List.not_mem_nil, or_false] at hq
        rcases hq with rfl | rfl | rfl | rfl <;> exact xlk_mem rfl)
    · refine sX11_compare_40 rfl ?_
      refine sX11_compare_42 rfl ?_
      refine nX11_compare_44 (by omega) (by omega) (fun hc2 => ?_) (fun hc2 => ?_)
      · refine sX11_compare_51 ?_
        refine sX11_compare_52 (kg (zh_less (k := t) (by omega)))
      · refine sX11_compare_47 ?_
        refine sX11_compare_48 ?_
        refine sX11_compare_52 (kl (zh_less (k := t) (by omega)))
theorem c_add {n m : Nat} (hS : RS h b) (hN : RN K N) (hn : n < 350) (hm : m < 350) (hne : m ≠ n) (hs : N n + N m < zB 80) (k : ∀ K', xo1 K K' → RN K' (va_up N n (N n + N m)) → Q none (xB h b K')) : ac g l mX11_add [.ref b, .int (nI n), .int (nI m)] (xB h b K) Q := by
  refine ac_of (by decide) (Nat.le_of_ble_eq_true rfl) ?_
  refine nX11_add_0 ?_
  refine sX11_add_1 ?_
  refine nX11_add_2 ?_
  refine sX11_add_3 ?_
  suffices H : ∀ t i c K1 lv0, i + t = 80 → c ≤ 1 → zh (N n + N m) i = zh (N n) i + zh (N m) i + c → xo1 K K1 → RP K1 N n (zm i (N n + N m) (N n)) → (∀ q ∈ ([(0, .ref b), (1, .int (nI n)), (2, .int (nI m)), (3, .int (nI c)), (4, .int (nI i))] : List (Nat × Value)), q ∈ lv0) → aw g l mX11_add 5 lv0 [] (xB h b K1) Q from H 80 0 0 K _ rfl (by omega) (by rw [zh_0, zh_0, zh_0]; omega) (xo1_rf K) (RP_st _ hN hn) (fun q hq => hq)
  intro t
  induction t with
  | zero =>
    intro i c K1 lv0 hi hc1 hz ho hP hlv
    refine aw_lv hlv ?_
    obtain rfl : i = 80 := by omega
    refine sX11_add_5 rfl ?_
    refine nX11_add_7 ?_
    refine nX11_add_9 (by omega) (by omega) (fun _ => ?_) (fun hc => absurd hc (by omega))
    refine sX11_add_70 ?_
    exact k K1 ho (RP_fin hP hs)
  | succ t ih =>
    intro i c K1 lv0 hi hc1 hz ho hP hlv
    refine aw_lv hlv ?_
    refine sX11_add_5 rfl ?_
    refine nX11_add_7 ?_
    refine nX11_add_9 (by omega) (by omega) (fun hc => absurd hc (by omega)) (fun _ => ?_)
    refine sX11_add_12 rfl ?_
    refine tX11_add_13 hS ?_
    refine nX11_add_16 ?_
    refine sX11_add_18 rfl ?_
    refine nX11_add_19 ?_
    refine sX11_add_20 rfl ?_
    refine nX11_add_22 ?_
    refine tX11_add_23 hS (by decide) (by decide) rfl (by simp only [rl]; omega) ?_
    rw [RP_own hP (by omega)]
    refine sX11_add_24 rfl ?_
    refine tX11_add_25 hS ?_
    refine nX11_add_28 ?_
    refine sX11_add_30 rfl ?_
    refine nX11_add_31 ?_
    refine sX11_add_32 rfl ?_
    refine nX11_add_34 ?_
    refine tX11_add_35 hS (by decide) (by decide) rfl (by simp only [rl]; omega) ?_
    rw [RP_rd hP hm hne (by omega)]
    have hg1 := zg_lt (N n) i
    have hg2 := zg_lt (N m) i
    refine nX11_add_36 ?_
    refine sX11_add_37 rfl ?_
    refine nX11_add_38 ?_
    refine sX11_add_39 ?_
    refine sX11_add_41 rfl ?_
    refine tX11_add_42 hS ?_
    refine nX11_add_45 ?_
    refine sX11_add_47 rfl ?_
    refine nX11_add_48 ?_
    refine sX11_add_49 rfl ?_
    refine nX11_add_51 ?_
    refine sX11_add_52 rfl ?_
    refine nX11_add_54 ?_
    refine nX11_add_56 (by omega) (by omega) (by omega) ?_
    refine tX11_add_57 hS (by decide) (by decide) rfl (by simp only [rl]; omega) ?_
    refine sX11_add_58 rfl ?_
    refine nX11_add_60 ?_
    refine nX11_add_62 (by omega) (by omega) (by omega) ?_
    refine sX11_add_63 ?_
    refine nX11_add_64 rfl ?_
    refine sX11_add_67 ?_
    have e1 := zh_eq (N n) i
    have e2 := zh_eq (N m) i
    have e3 := zh_eq (N n + N m) i
    have hg3 := zg_lt (N n + N m) i
    refine ih (i + 1) _ _ _ (by omega) ?_ ?_ (xo1_tr ho xo1_up) (RP_go hP (by omega) ?_) (fun q hq => by
        simp only [List.mem_cons, List.not_mem_nil, or_false] at hq
        rcases hq with rfl | rfl | rfl | rfl | rfl <;> exact xlk_mem rfl)
    · omega
    · omega
    · omega
end RefNum
