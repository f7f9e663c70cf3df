theorem RN_to {K : Nat → Nat → Int32} {N N' : Nat → Nat} (h : RN K N) (e : ∀ a, a < 350 → N a = N' a) : RN K N' := fun a ha => by
  rw [← e a ha]; exact h a ha
def zk (N N' : Nat → Nat) : Prop := ∀ a, a < 336 → N' a = N a
theorem zk_rf (N : Nat → Nat) : zk N N := fun _ _ => rfl
theorem zk_tr {N N' N'' : Nat → Nat} (h : zk N N') (h' : zk N' N'') : zk N N'' := fun a ha => (h' a ha).trans (h a ha)
theorem zk_up {N : Nat → Nat} {n y : Nat} (h : 336 ≤ n) : zk N (va_up N n y) := fun a ha => zup_n (by omega)
theorem zgcd_even {x y : Nat} (hx : x % 2 = 0) (hy : y % 2 = 1) : Nat.gcd (x / 2) y = Nat.gcd x y := by
  have h2 : Nat.Coprime 2 y := by
    show Nat.gcd 2 y = 1
    rw [Nat.gcd_rec, hy]; rfl
  have := Nat.Coprime.gcd_mul_left_cancel (x / 2) h2
  rw [show 2 * (x / 2) = x by omega] at this
  exact this.symm
theorem zgcd_both {x y : Nat} (hx : x % 2 = 0) (hy : y % 2 = 0) : 2 * Nat.gcd (x / 2) (y / 2) = Nat.gcd x y := by
  rw [← Nat.gcd_mul_left, show 2 * (x / 2) = x by omega, show 2 * (y / 2) = y by omega]
theorem zgcd_sub {x y : Nat} (h : y ≤ x) : Nat.gcd (x - y) y = Nat.gcd x y := by
  have := Nat.gcd_add_self_left y (x - y)
  rw [show x - y + y = x by omega] at this
  exact this.symm
theorem nI_big : nI 341 = 341 := rfl
section RefDiv
variable {g : xG} {l : Launch} {h : xH} {b : Nat} {K : Nat → Nat → Int32} {N : Nat → Nat} {Q : Option Value → xH → Prop}
theorem c_divide {n p q : Nat} (hS : RS h b) (hN : RN K N) (hn : n < 341) (hp : p < 341) (hq : q < 341) (hpn : p ≠ n) (hqn : q ≠ n) (h0 : 0 < N q) (hs : 2 * N q ≤ zB 80) (k : ∀ K', xo1 K K' → RN K' (va_up (va_up N n (N p / N q)) 341 (N p % N q)) → Q none (xB h b K')) : ac g l mX11_divide [.ref b, .int (nI n), .int (nI p), .int (nI q)] (xB h b K) Q := by
  refine ac_of (by decide) (Nat.le_of_ble_eq_true rfl) ?_
  refine sX11_divide_0 rfl ?_
  refine sX11_divide_1 rfl ?_
  refine tX11_divide_2 hS (Nat.le_of_ble_eq_true rfl) ?_
  refine c_clear hS hN (by omega) (fun K1 ho1 hN1 => ?_)
  refine sX11_divide_5 rfl ?_
  refine nX11_divide_6 ?_
  refine tX11_divide_9 hS (Nat.le_of_ble_eq_true rfl) ?_
  refine c_clear hS hN1 (by omega) (fun K2 ho2 hN2 => ?_)
  refine sX11_divide_12 rfl ?_
  refine sX11_divide_13 rfl ?_
  refine tX11_divide_14 hS (Nat.le_of_ble_eq_true rfl) ?_
  refine c_length hS hN2 (by omega) (fun L hL => ?_)
  rw [zup_n (by omega), zup_n hpn] at hL
  refine sX11_divide_17 ?_
  refine sX11_divide_18 ?_
  refine sX11_divide_19 ?_
  have hLb : L ≤ 1200 := by
    rcases hL.2 with r | r
    · omega
    · have hb1 : N p < 2 ^ 1200 := by have := (hN p (by omega)).1; rwa [zB_two] at this
      have : 2 ^ (L - 1) < 2 ^ 1200 := Nat.lt_of_le_of_lt r hb1
      have := (Nat.pow_lt_pow_iff_right (by decide : 1 < 2)).mp this
      omega
  suffices H : ∀ t K3 lv0, t ≤ 1200 → xo1 K K3 → RN K3 (va_up (va_up N n (N p / 2 ^ t / N q * 2 ^ t)) 341 (N p / 2 ^ t % N q)) → (∀ z ∈ ([(0, .ref b), (1, .int (nI n)), (2, .int (nI p)), (3, .int (nI q)), (4, .int (nI t - 1))] : List (Nat × Value)), z ∈ lv0) → aw g l mX11_divide 21 lv0 [] (xB h b K3) Q from H L K2 _ hLb (xo1_tr ho1 ho2) (by
      rw [Nat.div_eq_of_lt hL.1, Nat.zero_div, Nat.zero_mul, Nat.zero_mod]; exact hN2) (fun z hz => hz)
  intro t
  induction t with
  | zero =>
    intro K3 lv0 ht ho hR hlv
    refine aw_lv hlv ?_
    refine sX11_divide_21 rfl ?_
    refine sX11_divide_23 (fun _ => ?_) (fun hc => absurd nI_0m hc)
    refine sX11_divide_94 ?_
    rw [Nat.pow_zero, Nat.div_one, Nat.mul_one] at hR
    exact k K3 ho hR
  | succ t ih =>
    intro K3 lv0 ht ho hR hlv
    refine aw_lv hlv ?_
    rw [nI_pred]
    refine sX11_divide_21 rfl ?_
    refine nX11_divide_23 (by omega) ?_
    obtain ⟨A, hA⟩ : ∃ A, A = N p / 2 ^ (t + 1) := ⟨_, rfl⟩
    obtain ⟨D, hD⟩ : ∃ D, D = N q := ⟨_, rfl⟩
    obtain ⟨c, hc⟩ : ∃ c, c = N p / 2 ^ t % 2 := ⟨_, rfl⟩
    have hc2 : c < 2 := by rw [hc]; exact Nat.mod_lt _ (by decide)
    have hA0 : N p / 2 ^ t = 2 * A + c := by
      rw [hA, hc, Nat.pow_succ, ← Nat.div_div_eq_div_mul]; omega
    rw [← hA, ← hD] at hR
    rw [← hD] at h0 hs
    have hmod := Nat.mod_lt A h0
    have hdm := Nat.div_add_mod A D
    refine sX11_divide_26 rfl ?_
    refine nX11_divide_27 ?_
    refine nX11_divide_30 ?_
    refine sX11_divide_31 rfl ?_
    refine sX11_divide_32 rfl ?_
    refine sX11_divide_33 rfl ?_
    refine tX11_divide_35 hS (Nat.le_of_ble_eq_true rfl) ?_
    refine c_bit hS hR (by omega) (by omega) ?_
    rw [zup_n (by omega), zup_n hpn, ← hc]
    refine tX11_divide_38 hS (Nat.le_of_ble_eq_true rfl) ?_
    refine c_multiplySmall hS hR (by omega) (by decide) (by omega) (by rw [zup_s]; omega) (fun K4 ho4 hN4 => ?_)
    rw [zup_s] at hN4
    obtain ⟨V, hV⟩ : ∃ V, V = A % D * 2 + c := ⟨_, rfl⟩
    rw [← hV] at hN4
    obtain ⟨q1, hq1⟩ : ∃ q1, q1 = A / D := ⟨_, rfl⟩
    obtain ⟨T, hT⟩ : ∃ T, T = q1 * 2 ^ (t + 1) := ⟨_, rfl⟩
    have hN4 : RN K4 (va_up (va_up N n T) 341 V) := RN_to hN4 (fun a ha => by
      rw [hT, hq1]
      by_cases e1 : a = 341
      · rw [e1, zup_s, zup_s]
      · rw [zup_n e1, zup_n e1, zup_n e1])
    have e341 : va_up (va_up N n T) 341 V 341 = V := zup_s
    have eq0 : va_up (va_up N n T) 341 V q = D := by rw [zup_n (by omega), zup_n hqn, hD]
    have hX : N p / 2 ^ t = D * (2 * q1) + V := by
      have e5 : D * (2 * q1) = 2 * (D * q1) := by rw [← Nat.mul_assoc, ← Nat.mul_assoc, Nat.mul_comm D 2]
      rw [hA0, e5, hV]
      rw [← hq1] at hdm
      omega
    have next : ∀ K5 lv1, xo1 K K5 → RN K5 (va_up (va_up N n (N p / 2 ^ t / D * 2 ^ t)) 341 (N p / 2 ^ t % D)) → (∀ z ∈ ([(0, .ref b), (1, .int (nI n)), (2, .int (nI p)), (3, .int (nI q)), (4, .int (nI t))] : List (Nat × Value)), z ∈ lv1) → aw g l mX11_divide 88 lv1 [] (xB h b K5) Q := by
      intro K5 lv1 ho5 hR5 hl5
      refine aw_lv hl5 ?_
      refine sX11_divide_88 rfl ?_
      refine sX11_divide_91 ?_
      rw [nI_m1]
      rw [hD] at hR5
      exact ih K5 _ (by omega) ho5 hR5 (fun z hz => hz)
    refine sX11_divide_41 rfl ?_
    refine nX11_divide_42 ?_
    refine sX11_divide_45 rfl ?_
    refine tX11_divide_46 hS (Nat.le_of_ble_eq_true rfl) ?_
    refine c_compare hS hN4 (by omega) (by omega) (fun hlt => ?_) (fun heq => ?_) (fun hgt => ?_)
    · refine sX11_divide_49 (fun hc => absurd hc (by decide)) (fun _ => ?_)
      refine sX11_divide_52 ?_
      rw [e341, eq0] at hlt
      refine next K4 _ (xo1_tr ho ho4) ?_ (fun z hz => hz)
      have d1 : N p / 2 ^ t / D = 2 * q1 := by rw [hX, Nat.mul_add_div h0, Nat.div_eq_of_lt hlt, Nat.add_zero]
      have d2 : N p / 2 ^ t % D = V := by rw [hX, Nat.mul_add_mod, Nat.mod_eq_of_lt hlt]
      rw [d1, d2, show 2 * q1 * 2 ^ t = T by rw [hT, Nat.pow_succ, Nat.mul_comm 2 q1, Nat.mul_assoc, Nat.mul_comm 2]]
      exact hN4
    all_goals
      have hge : D ≤ V := by
        first
        | (rw [e341, eq0] at heq; omega)
        | (rw [e341, eq0] at hgt; omega)
      refine sX11_divide_49 (fun _ => ?_) (fun hc => absurd (by decide) hc)
      refine sX11_divide_55 rfl ?_
      refine nX11_divide_56 ?_
      refine sX11_divide_59 rfl ?_
      refine tX11_divide_60 hS (Nat.le_of_ble_eq_true rfl) ?_
      refine c_subtract hS hN4 (by omega) (by omega) (by omega) (by rw [e341, eq0]; exact hge) (fun K5 ho5 hN5 => ?_)
      rw [e341, eq0] at hN5
      have hV2 : V < 2 * D := by omega
      have d1 : N p / 2 ^ t / D = 2 * q1 + 1 := by
        rw [hX, Nat.mul_add_div h0]
        have : V / D = 1 := Nat.div_eq_of_lt_le (by omega) (by omega)
        omega
      have d2 : N p / 2 ^ t % D = V - D := by
        rw [hX, Nat.mul_add_mod]
        rw [Nat.mod_eq_sub_mod hge, Nat.mod_eq_of_lt (by omega)]
      have hN5 : RN K5 (va_up (va_up N 341 (V - D)) n T) := RN_to hN5 (fun a ha => by
        by_cases e1 : a = 341
        · rw [e1, zup_s, zup_n (by omega), zup_s]
        · rw [zup_n e1, zup_n e1]
          by_cases e2 : a = n
          · rw [e2, zup_s, zup_s]
          · rw [zup_n e2, zup_n e2, zup_n e1])
      refine sX11_divide_63 rfl ?_
      refine tX11_divide_64 hS ?_
      refine nX11_divide_67 ?_
      refine sX11_divide_69 rfl ?_
      refine nX11_divide_70 ?_
      refine sX11_divide_71 rfl ?_
      refine nX11_divide_73 ?_
      refine nX11_divide_75 (by omega) (by omega) (by omega) ?_
      refine nX11_divide_76 ?_
      refine sX11_divide_77 rfl rfl ?_
      refine tX11_divide_78 hS (by decide) (by decide) rfl (by simp only [rl]; omega) ?_
      have hP := RPx hN5 (by omega)
      rw [hP.2 (t / 15) (by omega)]
      refine nX11_divide_79 ?_
      refine sX11_divide_80 rfl ?_
      refine nX11_divide_82 ?_
      refine nX11_divide_84 (by omega) (by omega) (by omega) ?_
      refine sX11_divide_85 ?_
      have hset := fun j => zg_set (q := q1) (t := t) j
      rw [← hT] at hset
      have hr15 : t % 15 < 15 := Nat.mod_lt _ (by decide)
      have hsm : 1 * 2 ^ (t % 15) < 2 ^ 32 := by
        rw [Nat.one_mul]
        exact Nat.pow_lt_pow_of_lt (by decide) (by omega)
      rw [pk_shlN (n := 1) _ (t % 15) (zs_l _ (by omega)) hsm, Nat.one_mul]
      refine nX11_divide_86 ?_
      refine tX11_divide_87 hS (by decide) (by decide) rfl (by simp only [rl]; omega) ?_
      have hP2 := RP_put (v := zg T (t / 15) + 2 ^ (t % 15)) hP (k := t / 15) (by omega)
      have hTB : (2 * q1 + 1) * 2 ^ t < zB 80 := by
        rw [← d1]
        have h8 := Nat.div_mul_le_self (N p / 2 ^ t / D) 1
        have h9 : N p / 2 ^ t / D ≤ N p / 2 ^ t := Nat.div_le_self _ _
        have h10 : N p / 2 ^ t / D * 2 ^ t ≤ N p / 2 ^ t * 2 ^ t := Nat.mul_le_mul_right _ h9
        have h11 := Nat.div_mul_le_self (N p) (2 ^ t)
        exact Nat.lt_of_le_of_lt (Nat.le_trans h10 h11) (hN p (by omega)).1
      have eT2 : (2 * q1 + 1) * 2 ^ t = T + 2 ^ t := by
        rw [hT, Nat.pow_succ, Nat.add_mul, Nat.one_mul, Nat.mul_comm 2 q1, Nat.mul_assoc, Nat.mul_comm 2]
      have hR6 := RP_end hP2 hTB (fun j hj => by
        rw [eT2, (hset j).1]
        by_cases e1 : j = t / 15
        · rw [if_pos e1, if_pos e1, e1]
        · rw [if_neg e1, if_neg e1])
      refine next _ _ (xo1_tr (xo1_tr (xo1_tr ho ho4) ho5) xo1_up) ?_ (fun z hz => hz)
      rw [d1, d2]
      exact RN_to hR6 (fun a ha => by
        by_cases e1 : a = 341
        · rw [e1, zup_n (by omega), zup_s, zup_s]
        · rw [zup_n e1]
          by_cases e2 : a = n
          · rw [e2, zup_s, zup_s]
          · rw [zup_n e2, zup_n e2, zup_n e1])
end RefDiv
